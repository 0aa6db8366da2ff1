/-! ===== a selector ===== -/
/-- a compound's cell in a selector, its join told -/
def isCJ (w : ZW) (lo hi a : Nat) (x : Nat × PComp) : Prop := lo ≤ a ∧ a < hi ∧ zk w a = 1 ∧ zi w 100 a = nI x.2.1 ∧ isParts w (a + 1) hi (zr w 101 a) x.2.2.1 ∧ isBares w (a + 1) hi (zr w 102 a) x.2.2.2 ∧ zi w 103 a = nI (wComp x.2) ∧ zi w 104 a = nI x.1
theorem isCJ.fr {w w' : ZW} {lo hi lo' hi' a : Nat} {x : Nat × PComp} (h : isCJ w lo hi a x) (hl : lo' ≤ lo) (hh : hi ≤ hi') (he : ∀ b, lo ≤ b → b < hi → zeq w w' b) : isCJ w' lo' hi' a x := by
  obtain ⟨h1, h2, h3, h4, h5, h6, h7, h8⟩ := h
  have e := he a h1 h2
  exact ⟨Nat.le_trans hl h1, Nat.lt_of_lt_of_le h2 hh, e.k.trans h3, (e.i _).trans h4, by rw [e.r]; exact h5.fr (Nat.le_refl _) hh (fun b g g' => he b (by omega) g'), by rw [e.r]; exact h6.fr (Nat.le_refl _) hh (fun b g g' => he b (by omega) g'), (e.i _).trans h7, (e.i _).trans h8⟩
theorem isComp.j {w : ZW} {lo hi a : Nat} {c : PComp} (h : isComp w lo hi a c) : isCJ w lo hi a (0, c) := by
  obtain ⟨h1, h2, h3, h4, h5, h6, h7, h8, h9⟩ := h
  exact ⟨h1, h2, h3, h4, h5, h6, h7, h8⟩
def wSel : List (Nat × PComp) → Nat
  | [] => 0
  | x :: l => wComp x.2 + wSel l
theorem wSel_snoc : ∀ (l : List (Nat × PComp)) (x : Nat × PComp), wSel (l ++ [x]) = wSel l + wComp x.2
  | [], x => by simp [wSel]
  | y :: l, x => by
    simp only [List.cons_append, wSel, wSel_snoc l x]
    omega
/-- l read and linked from a0 on, x the last of them -/
def isSelP (w : ZW) (lo a0 last hi : Nat) (l : List (Nat × PComp)) (x : Nat × PComp) : Prop := lo ≤ last ∧ Seg (isCJ w lo last) w 105 (some a0) l (some last) ∧ isCJ w last hi last x ∧ zr w 105 last = none
def selW (w : ZW) (a b j : Nat) : ZW := zsr (zsi w 104 b (nI j)) 105 a (some b)
theorem selW_eq {w : ZW} {a b j c : Nat} (h1 : c ≠ a) (h2 : c ≠ b) : zeq w (selW w a b j) c := (zeq.si h2).tr (zeq.sr h1)
theorem selStep {tb tx sp nm a0 last j : Nat} {w0 w w1 w2 : ZW} {l : List (Nat × PComp)} {x : Nat × PComp} {c : PComp} {r2 : List Nat} (hbb : TBb w0 tb tx sp nm) (hv : TBv zno tb sp nm w0 w) (h : isSelP w (zsz w0) a0 last (zsz w) l x) (hu : TBu tb sp nm w w1) (hv2 : TBv zno tb sp nm w1 w2) (hc : isComp w2 (zsz w1) (zsz w2) (zsz w1) c) (hn : TBn w2 tb tx sp nm r2) :
    TBv zno tb sp nm w0 (selW w2 last (zsz w1) j) ∧ isSelP (selW w2 last (zsz w1) j) (zsz w0) a0 (zsz w1) (zsz (selW w2 last (zsz w1) j)) (l ++ [x]) (j, c) ∧ TBn (selW w2 last (zsz w1) j) tb tx sp nm r2 := by
  obtain ⟨b1, b2, b3, b4⟩ := hbb
  obtain ⟨h1, h2, h3, h4⟩ := h
  have hlt := h3.2.1
  have ez : zsz w1 = zsz w := hu.1
  have hv12 : TBv zno tb sp nm w w2 := (hu.v (X := zno)).tr hv2 (fun _ _ h => h)
  have hle := hv.1
  have e12 : ∀ y, zsz w0 ≤ y → y < zsz w → zeq w w2 y := fun y g1 g2 => hv12.2.1 y g2 (fun e => e) (by omega) (by omega) (by omega)
  have e23 : ∀ y, y ≠ last → y ≠ zsz w1 → zeq w2 (selW w2 last (zsz w1) j) y := fun y g1 g2 => selW_eq g1 g2
  have hne : last ≠ zsz w1 := by omega
  have hne2 : zsz w1 ≠ last := by omega
  refine ⟨?_, ⟨by omega, ?_, ?_, ?_⟩, hn.fr (Nat.le_refl _) (e23 _ (by omega) (by omega)) (e23 _ (by omega) (by omega)) (e23 _ (by omega) (by omega)) (e23 _ (by omega) (by omega))⟩
  · have v1 : TBv zno tb sp nm w0 w2 := hv.tr hv12 (fun _ _ h => h)
    exact ⟨v1.1, fun a g1 g2 g3 g4 g5 => (v1.2.1 a g1 g2 g3 g4 g5).tr (e23 a (by omega) (by omega)), ((e23 tb (by omega) (by omega)).i 901).trans v1.2.2⟩
  · refine Seg.snoc (a := last) ?_ ?_ ?_
    · refine Seg.imp h2 (fun a y hy => ?_)
      have hl1 := hy.1
      have hl2 := hy.2.1
      exact ⟨hy.fr (Nat.le_refl _) (by omega) (fun b g1 g2 => (e12 b g1 (by omega)).tr (e23 b (by omega) (by omega))), ((e12 a hl1 (by omega)).tr (e23 a (by omega) (by omega))).r 105⟩
    · obtain ⟨k1, k2, k3, k4, k5, k6, k7, k8⟩ := h3.fr (w' := w2) (Nat.le_refl _) (Nat.le_refl _) (fun b g1 g2 => e12 b (by omega) g2)
      have q1 : zr (selW w2 last (zsz w1) j) 101 last = zr w2 101 last := by unfold selW; simp [zGS]
      have q2 : zr (selW w2 last (zsz w1) j) 102 last = zr w2 102 last := by unfold selW; simp [zGS]
      have q3 : ∀ f, zi (selW w2 last (zsz w1) j) f last = zi w2 f last := fun f => by unfold selW; simp [zGS, hne]
      refine ⟨h1, by omega, k3, (q3 _).trans k4, ?_, ?_, (q3 _).trans k7, (q3 _).trans k8⟩
      · rw [q1]
        exact k5.fr (Nat.le_refl _) (by omega) (fun b g1 g2 => e23 b (by omega) (by omega))
      · rw [q2]
        exact k6.fr (Nat.le_refl _) (by omega) (fun b g1 g2 => e23 b (by omega) (by omega))
    · unfold selW; simp [zGS]
  · obtain ⟨k1, k2, k3, k4, k5, k6, k7, k8, k9⟩ := hc
    have q1 : zr (selW w2 last (zsz w1) j) 101 (zsz w1) = zr w2 101 (zsz w1) := by unfold selW; simp [zGS]
    have q2 : zr (selW w2 last (zsz w1) j) 102 (zsz w1) = zr w2 102 (zsz w1) := by unfold selW; simp [zGS]
    refine ⟨k1, k2, k3, by unfold selW; simpa [zGS] using k4, ?_, ?_, by unfold selW; simpa [zGS] using k7, by unfold selW; simp [zGS]⟩
    · rw [q1]
      exact k5.fr (Nat.le_refl _) (Nat.le_refl _) (fun b g1 g2 => e23 b (by omega) (by omega))
    · rw [q2]
      exact k6.fr (Nat.le_refl _) (Nat.le_refl _) (fun b g1 g2 => e23 b (by omega) (by omega))
  · have : zr (selW w2 last (zsz w1) j) 105 (zsz w1) = zr w2 105 (zsz w1) := by unfold selW; simp [zGS, hne2]
    rw [this]
    exact hc.2.2.2.2.2.2.2.2
theorem sp_X6_init (E : ZE) (w : ZW) (sg : ZM) (d : Nat) (hd : 1 ≤ d) (a f : Nat) (x : Int32) (hk : zk w a = 7) : CallQ E MX6_init [.ref a, .ref f, .int x] w sg d 0 0 (fun v w' sg' => v = none ∧ w' = zsr (zsi (zsi (zsr w 700 a (some f)) 701 a x) 702 a (nI 0)) 703 a none ∧ sg = sg') := by
  refine CallQ.of rfl (by simp [Value.category]) (Nat.le_of_ble_eq_true rfl) ?_
  refine r_aload_n dX6_init_0 rfl (zRv_ref _) rfl ?_
  refine r_objI tw_548 tw_118 tw_119 (by omega) (by first | exact Nat.le_of_ble_eq_true rfl | (simp [zcat_rf, Value.category]; done)) dX6_init_1 rfl ?_
  refine r_aload_n dX6_init_4 rfl (zRv_ref _) rfl ?_
  refine r_aload_n dX6_init_5 rfl (by first | exact zRv_ref _ | exact zRv_null | exact zRv_rf _ | assumption) rfl ?_
  refine r_puts 6 0 700 lfX6_7 (by first | (simp only [zKS]; first | assumption | exact TBm.k (by assumption)) | assumption | exact TBm.k (by assumption) | exact zk_nself _ _ _ | (simp [zKS, zNS, *]; done)) rfl rfl rfl (Or.inr ⟨rfl, rfl⟩) dX6_init_6 rfl ?_
  refine r_aload_n dX6_init_9 rfl (zRv_ref _) rfl ?_
  refine r_iload_n dX6_init_10 rfl rfl ?_
  refine r_puti 6 1 701 lfX6_13 (by first | (simp only [zKS]; first | assumption | exact TBm.k (by assumption)) | assumption | exact TBm.k (by assumption) | exact zk_nself _ _ _ | (simp [zKS, zNS, *]; done)) rfl rfl rfl (Or.inr ⟨rfl, rfl⟩) dX6_init_11 rfl ?_
  refine r_aload_n dX6_init_14 rfl (zRv_ref _) rfl ?_
  refine r_iconst dX6_init_15 kc_0 rfl ?_
  refine r_puti 6 2 702 lfX6_17 (by first | (simp only [zKS]; first | assumption | exact TBm.k (by assumption)) | assumption | exact TBm.k (by assumption) | exact zk_nself _ _ _ | (simp [zKS, zNS, *]; done)) rfl rfl rfl (Or.inl rfl) dX6_init_16 rfl ?_
  refine r_aload_n dX6_init_19 rfl (zRv_ref _) rfl ?_
  refine r_aconst_null dX6_init_20 rfl ?_
  refine r_putn 6 3 703 lfX6_20 (by first | (simp only [zKS]; first | assumption | exact TBm.k (by assumption)) | assumption | exact TBm.k (by assumption) | exact zk_nself _ _ _ | (simp [zKS, zNS, *]; done)) rfl rfl rfl (Or.inl rfl) dX6_init_21 rfl ?_
  refine r_vret rfl dX6_init_24 ?_
  exact ⟨rfl, rfl, rfl⟩
