/-! ===== the selectors of a rule ===== -/
theorem isSel.fr {w w' : ZW} {lo s : Nat} {l : List (Nat × PComp)} (h : isSel w lo s l) (hls : lo ≤ s) (he : ∀ b, lo ≤ b → b ≤ s → zeq w w' b) : isSel w' lo s l := by
  obtain ⟨h1, ⟨a0, h2, h3⟩, h4, h5⟩ := h
  have e := he s hls (Nat.le_refl _)
  refine ⟨e.k.trans h1, ⟨a0, (e.r _).trans h2, Seg.imp h3 (fun a y hy => ?_)⟩, (e.i _).trans h4, (e.i _).trans h5⟩
  have g1 := hy.1
  have g2 := hy.2.1
  exact ⟨hy.fr (Nat.le_refl _) (Nat.le_refl _) (fun b k1 k2 => he b k1 (by omega)), (he a g1 (by omega)).r 105⟩
def isSelC (w : ZW) (lo hi s : Nat) (l : List (Nat × PComp)) : Prop := s < hi ∧ ∃ m, lo ≤ m ∧ m ≤ s ∧ isSel w m s l
theorem isSelC.fr {w w' : ZW} {lo hi lo' hi' s : Nat} {l : List (Nat × PComp)} (h : isSelC w lo hi s l) (hl : lo' ≤ lo) (hh : hi ≤ hi') (he : ∀ b, lo ≤ b → b < hi → zeq w w' b) : isSelC w' lo' hi' s l := by
  obtain ⟨h1, m, h2, h3, h4⟩ := h
  exact ⟨by omega, m, by omega, h3, h4.fr h3 (fun b g1 g2 => he b (by omega) (by omega))⟩
def isSelsP (w : ZW) (lo f0 last hi : Nat) (ls : List (List (Nat × PComp))) (x : List (Nat × PComp)) : Prop := ∃ m, lo ≤ m ∧ m ≤ last ∧ last < hi ∧ Seg (isSelC w lo m) w 703 (some f0) ls (some last) ∧ isSel w m last x ∧ zr w 703 last = none
theorem selsStep {tb tx sp nm f0 last s2 : Nat} {w0 w w1 w2 : ZW} {ls : List (List (Nat × PComp))} {x y : List (Nat × PComp)} {r2 : List Nat} (hbb : TBb w0 tb tx sp nm) (hv : TBv zno tb sp nm w0 w) (h : isSelsP w (zsz w0) f0 last (zsz w) ls x) (hu : TBu tb sp nm w w1) (hv2 : TBv zno tb sp nm w1 w2) (hs1 : zsz w1 ≤ s2) (hs2 : s2 + 1 = zsz w2) (hc : isSel w2 (zsz w1) s2 y) (hc2 : zr w2 703 s2 = none) (hn : TBn w2 tb tx sp nm r2) :
    TBv zno tb sp nm w0 (zsr w2 703 last (some s2)) ∧ isSelsP (zsr w2 703 last (some s2)) (zsz w0) f0 s2 (zsz (zsr w2 703 last (some s2))) (ls ++ [x]) y ∧ TBn (zsr w2 703 last (some s2)) tb tx sp nm r2 := by
  obtain ⟨b1, b2, b3, b4⟩ := hbb
  obtain ⟨m, h1, h2, h3, h4, h5, h6⟩ := h
  have ez : zsz w1 = zsz w := hu.1
  have hv12 : TBv zno tb sp nm w w2 := (hu.v (X := zno)).tr hv2 (fun _ _ h => h)
  have hle := hv.1
  have e12 : ∀ b, zsz w0 ≤ b → b < zsz w → zeq w w2 b := fun b g1 g2 => hv12.2.1 b g2 (fun e => e) (by omega) (by omega) (by omega)
  have e23 : ∀ b, b ≠ last → zeq w2 (zsr w2 703 last (some s2)) b := fun b g1 => zeq.sr g1
  have hne : s2 ≠ last := by omega
  have v1 : TBv zno tb sp nm w0 w2 := hv.tr hv12 (fun _ _ h => h)
  refine ⟨⟨v1.1, fun a g1 g2 g3 g4 g5 => (v1.2.1 a g1 g2 g3 g4 g5).tr (e23 a (by omega)), ((e23 tb (by omega)).i 901).trans v1.2.2⟩, ⟨zsz w1, by omega, hs1, by show s2 < zsz w2; omega, ?_, hc.fr hs1 (fun b g1 g2 => e23 b (by omega)), ((e23 s2 hne).r 703).trans hc2⟩, hn.fr (Nat.le_refl _) (e23 _ (by omega)) (e23 _ (by omega)) (e23 _ (by omega)) (e23 _ (by omega))⟩
  refine Seg.snoc (a := last) ?_ ?_ (by simp [zGS])
  · refine Seg.imp h4 (fun a z hz => ?_)
    have g1 := hz.1
    have ga : zsz w0 ≤ a := by
      obtain ⟨-, m2, k1, k2, -⟩ := hz
      omega
    exact ⟨hz.fr (Nat.le_refl _) (by omega) (fun b k1 k2 => (e12 b k1 (by omega)).tr (e23 b (by omega))), ((e12 a ga (by omega)).tr (e23 a (by omega))).r 703⟩
  · obtain ⟨k1, ⟨a0, k2, k3⟩, k4, k5⟩ := h5.fr (w' := w2) h2 (fun b g1 g2 => e12 b (by omega) (by omega))
    refine ⟨by omega, m, h1, h2, k1, ⟨a0, by simpa [zGS] using k2, Seg.imp k3 (fun a z hz => ?_)⟩, by simpa [zGS] using k4, by simpa [zGS] using k5⟩
    have g2 := hz.2.1
    exact ⟨hz.fr (Nat.le_refl _) (Nat.le_refl _) (fun b q1 q2 => e23 b (by omega)), (e23 a (by omega)).r 105⟩
def pSelsL : Nat → List Nat → Option (List (List (Nat × PComp)) × List Nat)
  | 0, r => some ([], r)
  | n + 1, r => match pCh 44 r with
    | none => some ([], r)
    | some r1 => match pSel r1 with
      | none => none
      | some (x, r2) => match pSelsL n r2 with
        | none => none
        | some (l, r3) => some (x :: l, r3)
def pSels (r : List Nat) : Option (List (List (Nat × PComp)) × List Nat) := match pSel r with
  | none => none
  | some (x, r1) => match pSelsL 2 r1 with
    | none => none
    | some (l, r2) => some (x :: l, r2)
def pSelsR (l : List (List (Nat × PComp))) (o : Option (List (List (Nat × PComp)) × List Nat)) : Option (List (List (Nat × PComp)) × List Nat) := match o with
  | none => none
  | some (l2, r2) => some (l ++ l2, r2)
def zqSS (tb tx sp nm : Nat) (w : ZW) (sg : ZM) (o : Option (List (List (Nat × PComp)) × List Nat)) : ZQ := fun v w' sg' => sg = sg' ∧ TBv zno tb sp nm w w' ∧ match o with
  | none => v = some .null ∧ TBb w' tb tx sp nm ∧ TBx w' tb tx sp nm
  | some (ls, r1) => (∃ f, v = some (.ref f) ∧ Seg (isSelC w' (zsz w) (zsz w')) w' 703 (some f) ls none) ∧ TBn w' tb tx sp nm r1
theorem rsels_end (E : ZE) (sg : ZM) (d : Nat) (tb tx sp nm : Nat) (w0 w : ZW) (f0 last : Nat) (ls : List (List (Nat × PComp))) (x : List (Nat × PComp)) (x0 x3 : Option Value) (r : List Nat) (hv : TBv zno tb sp nm w0 w) (h : isSelsP w (zsz w0) f0 last (zsz w) ls x) (hn : TBn w tb tx sp nm r) (a a' : Nat) : RW E MX8_readSelectors 46 [x0, some (.ref f0), some (.ref last), x3] [] w sg d a a' (PN E (zqSS tb tx sp nm w0 sg (some (ls ++ [x], r)))) := by
  obtain ⟨m, h1, h2, h3, h4, h5, h6⟩ := h
  have hS : Seg (isSelC w (zsz w0) (zsz w)) w 703 (some f0) (ls ++ [x]) none := Seg.snoc (a := last) (Seg.imp h4 (fun a z hz => ⟨hz.fr (Nat.le_refl _) (by omega) (fun b _ _ => zeq.rf), rfl⟩)) ⟨h3, m, h1, h2, h5⟩ h6
  refine r_aload_n dX8_readSelectors_46 rfl (by first | exact zRv_ref _ | exact zRv_null | exact zRv_rf _ | assumption) rfl ?_
  refine r_ifnonnullR (r := 54) dX8_readSelectors_47 (by decide) rfl (fun c_47 => ?_) (fun a_47 c_47 => ?_)
  · exact absurd c_47 (by simp)
  · refine r_aload_n dX8_readSelectors_54 rfl (by first | exact zRv_ref _ | exact zRv_null | exact zRv_rf _ | assumption) rfl ?_
    refine r_aret rfl (by first | exact Or.inl ⟨_, rfl⟩ | exact Or.inr ⟨_, rfl⟩) (by first | exact zRv_ref _ | exact zRv_null | exact zRv_rf _ | assumption) dX8_readSelectors_55 ?_
    exact ⟨rfl, hv, ⟨f0, rfl, hS⟩, hn⟩
theorem rsels_null (E : ZE) (sg : ZM) (d : Nat) (tb tx sp nm : Nat) (w0 w : ZW) (x0 x1 : Option Value) (m a a' : Nat) (hm : m ≤ 3) (hv : TBv zno tb sp nm w0 w) (hb : TBb w tb tx sp nm) (hx : TBx w tb tx sp nm) : RW E MX8_readSelectors 9 [x0, x1, some .null, some (.int (nI m))] [] w sg d a a' (PN E (zqSS tb tx sp nm w0 sg none)) := by
  refine r_iload_n dX8_readSelectors_9 rfl rfl ?_
  refine r_iconst dX8_readSelectors_10 kc_3 rfl ?_
  refine r_icmp_geN (by omega) (by omega) (r := 46) dX8_readSelectors_11 (by decide) rfl (fun c_11 => ?_) (fun c_11 => ?_)
  · refine r_aload_n dX8_readSelectors_46 rfl (by first | exact zRv_ref _ | exact zRv_null | exact zRv_rf _ | assumption) rfl ?_
    refine r_ifnonnullZ (r := 54) dX8_readSelectors_47 (by decide) rfl (fun c_47 => ?_) (fun a_47 c_47 => ?_)
    · refine r_aconst_null dX8_readSelectors_50 rfl ?_
      refine r_goto (r := 55) dX8_readSelectors_51 (by decide) ?_
      refine r_aret rfl (by first | exact Or.inl ⟨_, rfl⟩ | exact Or.inr ⟨_, rfl⟩) (by first | exact zRv_ref _ | exact zRv_null | exact zRv_rf _ | assumption) dX8_readSelectors_55 ?_
      exact ⟨rfl, hv, rfl, hb, hx⟩
    · exact absurd c_47 (by simp)
  · refine r_aload_n dX8_readSelectors_14 rfl (by first | exact zRv_ref _ | exact zRv_null | exact zRv_rf _ | assumption) rfl ?_
    refine r_ifnullZ (r := 46) dX8_readSelectors_15 (by decide) rfl (fun c_15 => ?_) (fun a_15 c_15 => ?_)
    · refine r_aload_n dX8_readSelectors_46 rfl (by first | exact zRv_ref _ | exact zRv_null | exact zRv_rf _ | assumption) rfl ?_
      refine r_ifnonnullZ (r := 54) dX8_readSelectors_47 (by decide) rfl (fun c_47 => ?_) (fun a_47 c_47 => ?_)
      · refine r_aconst_null dX8_readSelectors_50 rfl ?_
        refine r_goto (r := 55) dX8_readSelectors_51 (by decide) ?_
        refine r_aret rfl (by first | exact Or.inl ⟨_, rfl⟩ | exact Or.inr ⟨_, rfl⟩) (by first | exact zRv_ref _ | exact zRv_null | exact zRv_rf _ | assumption) dX8_readSelectors_55 ?_
        exact ⟨rfl, hv, rfl, hb, hx⟩
      · exact absurd c_47 (by simp)
    · exact absurd c_15 (by simp)
