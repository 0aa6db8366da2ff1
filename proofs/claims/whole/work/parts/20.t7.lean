/-! ===== what a cell keeps; lists of cells ===== -/
def zeq (w w' : ZW) (b : Nat) : Prop := zk w' b = zk w b ∧ zsame w w' b
theorem zsame.rf {w : ZW} {b : Nat} : zsame w w b := ⟨fun _ => rfl, fun _ => rfl, fun _ => rfl, rfl, rfl, rfl, rfl, rfl, rfl⟩
theorem zsame.tr {w w1 w2 : ZW} {b : Nat} (h : zsame w w1 b) (g : zsame w1 w2 b) : zsame w w2 b := by
  obtain ⟨a1, a2, a3, a4, a5, a6, a7, a8, a9⟩ := h
  obtain ⟨b1, b2, b3, b4, b5, b6, b7, b8, b9⟩ := g
  exact ⟨fun f => (b1 f).trans (a1 f), fun f => (b2 f).trans (a2 f), fun f => (b3 f).trans (a3 f), b4.trans a4, b5.trans a5, b6.trans a6, b7.trans a7, b8.trans a8, b9.trans a9⟩
theorem zeq.rf {w : ZW} {b : Nat} : zeq w w b := ⟨rfl, zsame.rf⟩
theorem zeq.tr {w w1 w2 : ZW} {b : Nat} (h : zeq w w1 b) (g : zeq w1 w2 b) : zeq w w2 b := ⟨g.1.trans h.1, h.2.tr g.2⟩
theorem zeq.k {w w' : ZW} {b : Nat} (h : zeq w w' b) : zk w' b = zk w b := h.1
theorem zeq.i {w w' : ZW} {b : Nat} (h : zeq w w' b) (f : Nat) : zi w' f b = zi w f b := h.2.1 f
theorem zeq.r {w w' : ZW} {b : Nat} (h : zeq w w' b) (f : Nat) : zr w' f b = zr w f b := h.2.2.1 f
theorem zeq.f {w w' : ZW} {b : Nat} (h : zeq w w' b) (f : Nat) : zf w' f b = zf w f b := h.2.2.2.1 f
theorem zeq.ln {w w' : ZW} {b : Nat} (h : zeq w w' b) : zln w' b = zln w b := h.2.2.2.2.1
theorem zeq.a {w w' : ZW} {b : Nat} (h : zeq w w' b) : za w' b = za w b := h.2.2.2.2.2.1
theorem zeq.q {w w' : ZW} {b : Nat} (h : zeq w w' b) : zq w' b = zq w b := h.2.2.2.2.2.2.1
theorem zeq.g {w w' : ZW} {b : Nat} (h : zeq w w' b) : zg w' b = zg w b := h.2.2.2.2.2.2.2.1
theorem zeq.si {w : ZW} {f a b : Nat} {v : Int32} (h : b ≠ a) : zeq w (zsi w f a v) b := ⟨rfl, zsi_same w f a v b h⟩
theorem zeq.sr {w : ZW} {f a b : Nat} {v : Option Nat} (h : b ≠ a) : zeq w (zsr w f a v) b := ⟨rfl, zsr_same w f a v b h⟩
theorem zeq.sf {w : ZW} {f a b : Nat} {v : UInt32} (h : b ≠ a) : zeq w (zsf w f a v) b := ⟨rfl, zsf_same w f a v b h⟩
theorem zeq.sa {w : ZW} {a i b : Nat} {v : Int32} (h : b ≠ a) : zeq w (zsa w a i v) b := ⟨rfl, zsa_same w a i v b h⟩
theorem zeq.sq {w : ZW} {a i b : Nat} {v : Option Nat} (h : b ≠ a) : zeq w (zsq w a i v) b := ⟨rfl, zsq_same w a i v b h⟩
theorem zeq.sg {w : ZW} {a i b : Nat} {v : UInt32} (h : b ≠ a) : zeq w (zsg w a i v) b := ⟨rfl, zsg_same w a i v b h⟩
theorem zeq.nw {w : ZW} {k n b : Nat} (h : b ≠ zsz w) : zeq w (znew w k n) b := ⟨by rw [zk_znew, if_neg h], znew_same w k n b h⟩
theorem zeq.sk {w : ZW} {n b : Nat} : zeq w (zskip w n) b := ⟨rfl, zsame.rf⟩
theorem zk_nself (w : ZW) (k n : Nat) : zk (znew w k n) (zsz w) = k := if_pos rfl
theorem zln_nself (w : ZW) (k n : Nat) : zln (znew w k n) (zsz w) = n := if_pos rfl
/-- the buffer's cells lie in the heap -/
def TBb (w : ZW) (tb tx sp nm : Nat) : Prop := tb < zsz w ∧ tx < zsz w ∧ sp < zsz w ∧ nm < zsz w
theorem TBs.fr {w w' : ZW} {tb tx sp nm : Nat} (h : TBs w tb tx sp nm) (e1 : zeq w w' tb) (e2 : zeq w w' tx) (e3 : zeq w w' sp) (e4 : zeq w w' nm) : TBs w' tb tx sp nm := by
  obtain ⟨h1, h2, h3, h4, h5, h6, h7, h8, h9, h10⟩ := h
  exact ⟨e1.k.trans h1, (e1.r 900).trans h2, (e1.r 904).trans h3, (e1.r 905).trans h4, e2.k.trans h5, e2.ln.trans h6, e3.k.trans h7, e3.ln.trans h8, e4.k.trans h9, e4.ln.trans h10⟩
theorem TBr.fr {w w' : ZW} {tb tx a : Nat} {r : List Nat} (h : TBr w tb tx a r) (e1 : zeq w w' tb) (e2 : zeq w w' tx) : TBr w' tb tx a r := by
  obtain ⟨h1, h2, h3, h4, h5⟩ := h
  exact ⟨(e1.i 903).trans h1, (e1.i 902).trans h2, h3, fun i c hc => by rw [e2.a]; exact h4 i c hc, h5⟩
theorem TBk.fr {w w' : ZW} {tb sp nm : Nat} {ss : List PStep} (h : TBk w tb sp nm ss) (e1 : zeq w w' tb) (e3 : zeq w w' sp) (e4 : zeq w w' nm) : TBk w' tb sp nm ss := ⟨(e1.i 906).trans h.1, fun i s hs => by rw [e3.a, e4.g]; exact h.2 i s hs⟩
theorem TBm.fr {w w' : ZW} {tb tx sp nm : Nat} {r : List Nat} {ss : List PStep} (h : TBm w tb tx sp nm r ss) (e1 : zeq w w' tb) (e2 : zeq w w' tx) (e3 : zeq w w' sp) (e4 : zeq w w' nm) : TBm w' tb tx sp nm r ss := ⟨h.1.fr e1 e2 e3 e4, ⟨h.2.1.choose, h.2.1.choose_spec.fr e1 e2⟩, h.2.2.fr e1 e3 e4⟩
/-- what a reader that makes cells may do: X and the buffer's own cells apart, all that was there stays -/
def TBv (X : Nat → Prop) (tb sp nm : Nat) (w w' : ZW) : Prop := zsz w ≤ zsz w' ∧ (∀ a, a < zsz w → ¬ X a → a ≠ tb → a ≠ sp → a ≠ nm → zeq w w' a) ∧ zi w' 901 tb = zi w 901 tb
theorem TBv.rf {X : Nat → Prop} {tb sp nm : Nat} {w : ZW} : TBv X tb sp nm w w := ⟨Nat.le_refl _, fun _ _ _ _ _ _ => zeq.rf, rfl⟩
theorem TBv.tr {X Y : Nat → Prop} {tb sp nm : Nat} {w w1 w2 : ZW} (h : TBv X tb sp nm w w1) (g : TBv Y tb sp nm w1 w2) (hxy : ∀ a, a < zsz w → Y a → X a) : TBv X tb sp nm w w2 :=
  ⟨Nat.le_trans h.1 g.1, fun a h1 h2 h3 h4 h5 => (h.2.1 a h1 h2 h3 h4 h5).tr (g.2.1 a (Nat.lt_of_lt_of_le h1 h.1) (fun hy => h2 (hxy a h1 hy)) h3 h4 h5), g.2.2.trans h.2.2⟩
theorem TBu.v {X : Nat → Prop} {tb sp nm : Nat} {w w' : ZW} (h : TBu tb sp nm w w') : TBv X tb sp nm w w' := by
  obtain ⟨a1, a2, a3, a4, a5, a6, a7, a8, a9, a10, a11⟩ := h
  refine ⟨Nat.le_of_eq a1.symm, fun a _ _ h3 h4 h5 => ⟨by rw [a2], fun f => a4 f a (fun e => h3 e.1), fun f => by rw [a5], fun f => by rw [a6], by rw [a3], a7 a h4, by rw [a8], a9 a h5, by rw [a10], by rw [a11]⟩, a4 901 tb (fun e => by rcases e.2 with e | e <;> cases e)⟩
theorem TBu.b {tb tx sp nm : Nat} {w w' : ZW} (h : TBu tb sp nm w w') (g : TBb w tb tx sp nm) : TBb w' tb tx sp nm := by
  unfold TBb
  rw [h.1]
  exact g
/-- the rest r stands to be read (what is kept of steps isn't told) -/
def TBn (w : ZW) (tb tx sp nm : Nat) (r : List Nat) : Prop := TBb w tb tx sp nm ∧ ∃ ss, TBm w tb tx sp nm r ss
/-- the cells of a linked list, from o on to z; next is the field fd -/
def Seg {α : Type} (P : Nat → α → Prop) (w : ZW) (fd : Nat) : Option Nat → List α → Option Nat → Prop
  | o, [], z => o = z
  | o, x :: l, z => ∃ a, o = some a ∧ P a x ∧ Seg P w fd (zr w fd a) l z
theorem Seg.imp {α : Type} {P P' : Nat → α → Prop} {w w' : ZW} {fd : Nat} : ∀ {l : List α} {o z : Option Nat}, Seg P w fd o l z → (∀ a x, P a x → P' a x ∧ zr w' fd a = zr w fd a) → Seg P' w' fd o l z
  | [], o, z, h, _ => h
  | x :: l, o, z, ⟨a, h1, h2, h3⟩, hp => ⟨a, h1, (hp a x h2).1, by rw [(hp a x h2).2]; exact h3.imp hp⟩
theorem Seg.snoc {α : Type} {P : Nat → α → Prop} {w : ZW} {fd : Nat} : ∀ {l : List α} {o : Option Nat} {a : Nat} {x : α} {z : Option Nat}, Seg P w fd o l (some a) → P a x → zr w fd a = z → Seg P w fd o (l ++ [x]) z
  | [], o, a, x, z, h, hp, hz => ⟨a, h, hp, hz⟩
  | y :: l, o, a, x, z, ⟨b, h1, h2, h3⟩, hp, hz => ⟨b, h1, h2, h3.snoc hp hz⟩
abbrev PPart : Type := Nat × Int32 × Int32
abbrev PBare : Type := Nat × List PPart
abbrev PComp : Type := Nat × List PPart × List PBare
def wPart (p : PPart) : Nat := if p.1 = 0 then 10000 else 100
def wParts : List PPart → Nat
  | [] => 0
  | p :: ps => wPart p + wParts ps
def wTag (t : Nat) : Nat := if t = 0 then 0 else 1
def wBare (b : PBare) : Nat := wTag b.1 + wParts b.2
def wBares : List PBare → Nat
  | [] => 0
  | b :: bs => wBare b + wBares bs
def wComp (c : PComp) : Nat := wTag c.1 + wParts c.2.1 + wBares c.2.2
/-- a part's cell, in lo .. hi -/
def isPart (w : ZW) (lo hi a : Nat) (p : PPart) : Prop := lo ≤ a ∧ a < hi ∧ zk w a = 4 ∧ zi w 400 a = nI p.1 ∧ zi w 401 a = p.2.1 ∧ zi w 402 a = p.2.2
def isParts (w : ZW) (lo hi : Nat) (o : Option Nat) (ps : List PPart) : Prop := Seg (isPart w lo hi) w 403 o ps none
/-- a compound without :x -/
def isBare (w : ZW) (lo hi a : Nat) (b : PBare) : Prop := lo ≤ a ∧ a < hi ∧ zk w a = 1 ∧ zi w 100 a = nI b.1 ∧ isParts w (a + 1) hi (zr w 101 a) b.2 ∧ zr w 102 a = none ∧ zi w 103 a = nI (wBare b)
def isBares (w : ZW) (lo hi : Nat) (o : Option Nat) (bs : List PBare) : Prop := Seg (isBare w lo hi) w 105 o bs none
def isComp (w : ZW) (lo hi a : Nat) (c : PComp) : Prop := lo ≤ a ∧ a < hi ∧ zk w a = 1 ∧ zi w 100 a = nI c.1 ∧ isParts w (a + 1) hi (zr w 101 a) c.2.1 ∧ isBares w (a + 1) hi (zr w 102 a) c.2.2 ∧ zi w 103 a = nI (wComp c) ∧ zi w 104 a = nI 0 ∧ zr w 105 a = none
theorem isPart.fr {w w' : ZW} {lo hi lo' hi' a : Nat} {p : PPart} (h : isPart w lo hi a p) (hl : lo' ≤ lo) (hh : hi ≤ hi') (he : ∀ b, lo ≤ b → b < hi → zeq w w' b) : isPart w' lo' hi' a p := by
  obtain ⟨h1, h2, h3, h4, h5, h6⟩ := h
  have e := he a h1 h2
  exact ⟨Nat.le_trans hl h1, Nat.lt_of_lt_of_le h2 hh, e.k.trans h3, (e.i _).trans h4, (e.i _).trans h5, (e.i _).trans h6⟩
theorem isParts.fr {w w' : ZW} {lo hi lo' hi' : Nat} {o : Option Nat} {ps : List PPart} (h : isParts w lo hi o ps) (hl : lo' ≤ lo) (hh : hi ≤ hi') (he : ∀ b, lo ≤ b → b < hi → zeq w w' b) : isParts w' lo' hi' o ps :=
  Seg.imp h (fun a p hp => ⟨hp.fr hl hh he, (he a hp.1 hp.2.1).r 403⟩)
theorem isBare.fr {w w' : ZW} {lo hi lo' hi' a : Nat} {b : PBare} (h : isBare w lo hi a b) (hl : lo' ≤ lo) (hh : hi ≤ hi') (he : ∀ b, lo ≤ b → b < hi → zeq w w' b) : isBare w' lo' hi' a b := by
  obtain ⟨h1, h2, h3, h4, h5, h6, h7⟩ := h
  have e := he a h1 h2
  exact ⟨Nat.le_trans hl h1, Nat.lt_of_lt_of_le h2 hh, e.k.trans h3, (e.i _).trans h4, by rw [e.r]; exact h5.fr (Nat.le_refl _) hh (fun b g g' => he b (by omega) g'), (e.r _).trans h6, (e.i _).trans h7⟩
theorem isBares.fr {w w' : ZW} {lo hi lo' hi' : Nat} {o : Option Nat} {bs : List PBare} (h : isBares w lo hi o bs) (hl : lo' ≤ lo) (hh : hi ≤ hi') (he : ∀ b, lo ≤ b → b < hi → zeq w w' b) : isBares w' lo' hi' o bs :=
  Seg.imp h (fun a p hp => ⟨hp.fr hl hh he, (he a hp.1 hp.2.1).r 105⟩)
theorem isComp.fr {w w' : ZW} {lo hi lo' hi' a : Nat} {c : PComp} (h : isComp w lo hi a c) (hl : lo' ≤ lo) (hh : hi ≤ hi') (he : ∀ b, lo ≤ b → b < hi → zeq w w' b) : isComp w' lo' hi' a c := by
  obtain ⟨h1, h2, h3, h4, h5, h6, h7, h8, h9⟩ := h
  have e := he a h1 h2
  exact ⟨Nat.le_trans hl h1, Nat.lt_of_lt_of_le h2 hh, e.k.trans h3, (e.i _).trans h4, by rw [e.r]; exact h5.fr (Nat.le_refl _) hh (fun b g g' => he b (by omega) g'), by rw [e.r]; exact h6.fr (Nat.le_refl _) hh (fun b g g' => he b (by omega) g'), (e.i _).trans h7, (e.i _).trans h8, (e.r _).trans h9⟩
/-! constructors -/
theorem sp_X3_init (E : ZE) (w : ZW) (sg : ZM) (d : Nat) (hd : 1 ≤ d) (a : Nat) (x y z : Int32) (hk : zk w a = 4) : CallQ E MX3_init [.ref a, .int x, .int y, .int z] w sg d 0 0 (fun v w' sg' => v = none ∧ w' = zsr (zsi (zsi (zsi w 400 a x) 401 a y) 402 a z) 403 a none ∧ sg = sg') := by
  refine CallQ.of rfl (by simp [Value.category]) (Nat.le_of_ble_eq_true rfl) ?_
  refine r_aload_n dX3_init_0 rfl (zRv_ref _) rfl ?_
  refine r_objI tw_500 tw_118 tw_119 (by omega) (by first | exact Nat.le_of_ble_eq_true rfl | (simp [zcat_rf, Value.category]; done)) dX3_init_1 rfl ?_
  refine r_aload_n dX3_init_4 rfl (zRv_ref _) rfl ?_
  refine r_iload_n dX3_init_5 rfl rfl ?_
  refine r_puti 3 0 400 lfX3_7 (by first | (simp only [zKS]; first | assumption | exact TBm.k (by assumption)) | assumption | exact TBm.k (by assumption) | exact zk_nself _ _ _ | (simp [zKS, zNS, *]; done)) rfl rfl rfl (Or.inr ⟨rfl, rfl⟩) dX3_init_6 rfl ?_
  refine r_aload_n dX3_init_9 rfl (zRv_ref _) rfl ?_
  refine r_iload_n dX3_init_10 rfl rfl ?_
  refine r_puti 3 1 401 lfX3_13 (by first | (simp only [zKS]; first | assumption | exact TBm.k (by assumption)) | assumption | exact TBm.k (by assumption) | exact zk_nself _ _ _ | (simp [zKS, zNS, *]; done)) rfl rfl rfl (Or.inr ⟨rfl, rfl⟩) dX3_init_11 rfl ?_
  refine r_aload_n dX3_init_14 rfl (zRv_ref _) rfl ?_
  refine r_iload_n dX3_init_15 rfl rfl ?_
  refine r_puti 3 2 402 lfX3_16 (by first | (simp only [zKS]; first | assumption | exact TBm.k (by assumption)) | assumption | exact TBm.k (by assumption) | exact zk_nself _ _ _ | (simp [zKS, zNS, *]; done)) rfl rfl rfl (Or.inr ⟨rfl, rfl⟩) dX3_init_16 rfl ?_
  refine r_aload_n dX3_init_19 rfl (zRv_ref _) rfl ?_
  refine r_aconst_null dX3_init_20 rfl ?_
  refine r_putn 3 3 403 lfX3_19 (by first | (simp only [zKS]; first | assumption | exact TBm.k (by assumption)) | assumption | exact TBm.k (by assumption) | exact zk_nself _ _ _ | (simp [zKS, zNS, *]; done)) rfl rfl rfl (Or.inl rfl) dX3_init_21 rfl ?_
  refine r_vret rfl dX3_init_24 ?_
  exact ⟨rfl, rfl, rfl⟩
theorem sp_X0_init (E : ZE) (w : ZW) (sg : ZM) (d : Nat) (hd : 1 ≤ d) (a t : Nat) (ht : t < 128) (hk : zk w a = 1) : CallQ E MX0_init [.ref a, .int (nI t)] w sg d 0 0 (fun v w' sg' => v = none ∧ w' = zsr (zsi (zsi (zsr (zsr (zsi w 100 a (nI t)) 101 a none) 102 a none) 103 a (nI (wTag t))) 104 a (nI 0)) 105 a none ∧ sg = sg') := by
  refine CallQ.of rfl (by simp [Value.category]) (Nat.le_of_ble_eq_true rfl) ?_
  refine r_aload_n dX0_init_0 rfl (zRv_ref _) rfl ?_
  refine r_objI tw_459 tw_118 tw_119 (by omega) (by first | exact Nat.le_of_ble_eq_true rfl | (simp [zcat_rf, Value.category]; done)) dX0_init_1 rfl ?_
  refine r_aload_n dX0_init_4 rfl (zRv_ref _) rfl ?_
  refine r_iload_n dX0_init_5 rfl rfl ?_
  refine r_puti 0 0 100 lfX0_7 (by first | (simp only [zKS]; first | assumption | exact TBm.k (by assumption)) | assumption | exact TBm.k (by assumption) | exact zk_nself _ _ _ | (simp [zKS, zNS, *]; done)) rfl rfl rfl (Or.inr ⟨rfl, rfl⟩) dX0_init_6 rfl ?_
  refine r_aload_n dX0_init_9 rfl (zRv_ref _) rfl ?_
  refine r_aconst_null dX0_init_10 rfl ?_
  refine r_putn 0 1 101 lfX0_13 (by first | (simp only [zKS]; first | assumption | exact TBm.k (by assumption)) | assumption | exact TBm.k (by assumption) | exact zk_nself _ _ _ | (simp [zKS, zNS, *]; done)) rfl rfl rfl (Or.inl rfl) dX0_init_11 rfl ?_
  refine r_aload_n dX0_init_14 rfl (zRv_ref _) rfl ?_
  refine r_aconst_null dX0_init_15 rfl ?_
  refine r_putn 0 2 102 lfX0_17 (by first | (simp only [zKS]; first | assumption | exact TBm.k (by assumption)) | assumption | exact TBm.k (by assumption) | exact zk_nself _ _ _ | (simp [zKS, zNS, *]; done)) rfl rfl rfl (Or.inl rfl) dX0_init_16 rfl ?_
  refine r_aload_n dX0_init_19 rfl (zRv_ref _) rfl ?_
  refine r_iload_n dX0_init_20 rfl rfl ?_
  refine r_if_neN (by omega) (r := 28) dX0_init_21 (by decide) rfl (fun c_21 => ?_) (fun c_21 => ?_)
  · refine r_iconst dX0_init_28 kc_1 rfl ?_
    refine r_puti 0 3 103 lfX0_21 (by first | (simp only [zKS]; first | assumption | exact TBm.k (by assumption)) | assumption | exact TBm.k (by assumption) | exact zk_nself _ _ _ | (simp [zKS, zNS, *]; done)) rfl rfl rfl (Or.inl rfl) dX0_init_29 rfl ?_
    refine r_aload_n dX0_init_32 rfl (zRv_ref _) rfl ?_
    refine r_iconst dX0_init_33 kc_0 rfl ?_
    refine r_puti 0 4 104 lfX0_24 (by first | (simp only [zKS]; first | assumption | exact TBm.k (by assumption)) | assumption | exact TBm.k (by assumption) | exact zk_nself _ _ _ | (simp [zKS, zNS, *]; done)) rfl rfl rfl (Or.inl rfl) dX0_init_34 rfl ?_
    refine r_aload_n dX0_init_37 rfl (zRv_ref _) rfl ?_
    refine r_aconst_null dX0_init_38 rfl ?_
    refine r_putn 0 5 105 lfX0_27 (by first | (simp only [zKS]; first | assumption | exact TBm.k (by assumption)) | assumption | exact TBm.k (by assumption) | exact zk_nself _ _ _ | (simp [zKS, zNS, *]; done)) rfl rfl rfl (Or.inl rfl) dX0_init_39 rfl ?_
    refine r_vret rfl dX0_init_42 ?_
    refine ⟨rfl, ?_, rfl⟩
    simp [wTag, c_21]
  · refine r_iconst dX0_init_24 kc_0 rfl ?_
    refine r_goto (r := 29) dX0_init_25 (by decide) ?_
    refine r_puti 0 3 103 lfX0_21 (by first | (simp only [zKS]; first | assumption | exact TBm.k (by assumption)) | assumption | exact TBm.k (by assumption) | exact zk_nself _ _ _ | (simp [zKS, zNS, *]; done)) rfl rfl rfl (Or.inl rfl) dX0_init_29 rfl ?_
    refine r_aload_n dX0_init_32 rfl (zRv_ref _) rfl ?_
    refine r_iconst dX0_init_33 kc_0 rfl ?_
    refine r_puti 0 4 104 lfX0_24 (by first | (simp only [zKS]; first | assumption | exact TBm.k (by assumption)) | assumption | exact TBm.k (by assumption) | exact zk_nself _ _ _ | (simp [zKS, zNS, *]; done)) rfl rfl rfl (Or.inl rfl) dX0_init_34 rfl ?_
    refine r_aload_n dX0_init_37 rfl (zRv_ref _) rfl ?_
    refine r_aconst_null dX0_init_38 rfl ?_
    refine r_putn 0 5 105 lfX0_27 (by first | (simp only [zKS]; first | assumption | exact TBm.k (by assumption)) | assumption | exact TBm.k (by assumption) | exact zk_nself _ _ _ | (simp [zKS, zNS, *]; done)) rfl rfl rfl (Or.inl rfl) dX0_init_39 rfl ?_
    refine r_vret rfl dX0_init_42 ?_
    refine ⟨rfl, ?_, rfl⟩
    simp [wTag, c_21]
