/-! ===== the model: readCount ===== -/
def rsP {α : Type} (o : Option (α × List Nat)) : Option (List Nat) := match o with
  | none => none
  | some (_, r) => some r
/-- the part that was counted: what the model keeps of it -/
def cntOk (r : List Nat) (X Y : Int32) (o : Option (List Nat)) : Prop := (∀ p r', pCount r = some (p, r') → p.1 = 3 ∧ X = p.2.2 ∧ Y = p.2.1) ∧ o = rsP (pCount r)
theorem cnt_head {r : List Nat} {x : Nat} (hx : ∀ r1, pCh 40 r = some r1 → nI x = digV r1) (X Y : Int32) (o3 : Option (List Nat)) (h : ∀ r1 r2, pCh 40 r = some r1 → pDig r1 = some (x, r2) → (∀ p r', pc18 (some x) r2 = some (p, r') → p.1 = 3 ∧ X = p.2.2 ∧ Y = p.2.1) ∧ o3 = rsP (pc18 (some x) r2)) (h2 : bndO (pCh 40 r) (fun r1 => rstO (pDig r1)) = none → o3 = none) (hx9 : x < 10) : cntOk r X Y o3 := by
  unfold cntOk pCount
  cases h40 : pCh 40 r with
  | none =>
    rw [h40] at h2
    exact ⟨fun p r' q => (by cases q), h2 rfl⟩
  | some r1 =>
    rw [h40] at h2
    simp only []
    cases hd : pDig r1 with
    | none =>
      refine ⟨fun p r' q => (by cases q), h2 ?_⟩
      show rstO (pDig r1) = none
      rw [hd]
      rfl
    | some q =>
      obtain ⟨x', r2⟩ := q
      have e1 := hx r1 h40
      unfold digV at e1
      rw [hd] at e1
      simp only [] at e1
      have e2 : x = x' := by
        have h9 := congrArg (fun y : Int32 => y.toBitVec.toNat) e1
        have := (pDig_len hd).2
        rw [nI_bv (by omega), nI_bv (by omega)] at h9
        exact h9
      subst e2
      exact h r1 r2 h40 hd
theorem rc_82 (E : ZE) (mo : Nat) (hm : E.2.2.2.2 = some mo) (w : ZW) (sg : ZM) (d f m n g : Nat) (hd : 3 ≤ d) (hm9 : m ≤ 900) (hn : n < 130) (X Y : Int32) (x4 : Option Value) (o : Option (List Nat)) (h21 : mi sg 21 = nI n) (h : cuO sg f (m + 1) o) : RW E MX10_readCount 82 [some (.ref mo), some (.int (nI g)), some (.int X), some (.int Y), x4] [] w sg d 0 0 (PN E (fun v w' sg' => v = none ∧ w = w' ∧ adP sg sg' n (nI g) (nI 6) X Y ∧ cuO sg' f m (bndO o (pCh 41)))) := by
  refine r_aload_n dX10_readCount_82 rfl (zRv_ref _) rfl ?_
  refine r_bipush dX10_readCount_83 kb_41 rfl ?_
  refine r_callV MX10_expect 1 [_] lvX10_188 (Or.inr (Or.inl ⟨hm, rfl⟩)) (o_expect E mo hm w sg (d - 1) f 41 m hm9 (by omega) (by decide) o h) rfl rfl (by first | exact Nat.le_of_ble_eq_true rfl | (simp [zcat_rf, Value.category]; done)) (by omega) (Nat.le_of_eq (Nat.zero_add _)) (Nat.le_of_eq (Nat.zero_add _)) dX10_readCount_85 rfl (fun v_ w_ sg_ hq_ => ?_)
  obtain ⟨rfl, rfl, q3, q4⟩ := hq_
  obtain ⟨sg1, hsg1⟩ : ∃ y, y = sg_ := ⟨_, rfl⟩
  subst hsg1
  have i21 : mi sg1 21 = nI n := (q3.1 21 (by decide) (by decide)).trans h21
  refine r_aload_n dX10_readCount_88 rfl (zRv_ref _) rfl ?_
  refine r_iload_n dX10_readCount_89 rfl rfl ?_
  refine r_bipush dX10_readCount_90 kb_6 rfl ?_
  refine r_iload_n dX10_readCount_92 rfl rfl ?_
  refine r_iload_n dX10_readCount_93 rfl rfl ?_
  refine r_callV MX10_addPart 4 [_, _, _, _] lvX10_196 (Or.inr (Or.inl ⟨hm, rfl⟩)) (o_addPart E mo hm w sg1 (d - 1) f m n (nI g) (nI 6) X Y hn i21 _ q4) rfl rfl (by first | exact Nat.le_of_ble_eq_true rfl | (simp [zcat_rf, Value.category]; done)) (by omega) (Nat.le_of_eq (Nat.zero_add _)) (Nat.le_of_eq (Nat.zero_add _)) dX10_readCount_94 rfl (fun v_ w_ sg_ hq_ => ?_)
  obtain ⟨rfl, rfl, p3, p4⟩ := hq_
  refine r_vret rfl dX10_readCount_97 ?_
  exact ⟨rfl, rfl, p3.mv q3, p4⟩
theorem pc73_t {x y : Nat} {s : Bool} {g : Int32} {r : List Nat} : rsP (pc73 (some x) (some y) s g r) = pCh 41 r ∧ ∀ p r', pc73 (some x) (some y) s g r = some (p, r') → p = (if s = true then (3, g * nI y, nI x) else (3, nI x, nI 0)) := by
  unfold pc73
  cases h : pCh 41 r with
  | none => exact ⟨rfl, fun p r' q => (by cases q)⟩
  | some r1 => exact ⟨rfl, fun p r' q => (by cases q; rfl)⟩
theorem neg_dig : ∀ y, y < 10 → (-1 : Int32) * nI y = -(nI y) := by decide +kernel
/-- no n -/
theorem cnt_a {r : List Nat} {x : Nat} (hx : ∀ r1, pCh 40 r = some r1 → nI x = digV r1) (hx9 : x < 10) (hb : ∀ r2, bndO (pCh 40 r) (fun r1 => rstO (pDig r1)) = some r2 → false = (pCh 110 r2).isSome) : cntOk r (nI 0) (nI x) (bndO (bndO (bndO (pCh 40 r) (fun r1 => rstO (pDig r1))) fun r2 => some ((pCh 110 r2).getD r2)) (pCh 41)) := by
  refine cnt_head hx _ _ _ (fun r1 r2 h1 h2 => ?_) (fun q => by rw [q]; rfl) hx9
  rw [h1]
  show _ ∧ bndO (bndO (rstO (pDig r1)) _) _ = _
  have h3 : pCh 110 r2 = none := by
    have := hb r2 (by rw [h1]; show rstO (pDig r1) = _; rw [h2]; rfl)
    cases h : pCh 110 r2 with
    | none => rfl
    | some q => rw [h] at this; cases this
  rw [h2]
  show _ ∧ pCh 41 ((pCh 110 r2).getD r2) = _
  unfold pc18
  rw [h3]
  obtain ⟨g1, g2⟩ := pc73_t (x := x) (y := 0) (s := false) (g := nI 0) (r := r2)
  exact ⟨fun p r' q => by have := g2 p r' q; subst this; exact ⟨rfl, rfl, rfl⟩, g1.symm⟩
/-- behind n: the sign and the start -/
def pSgn (x : Nat) (r3 : List Nat) : Option (PPart × List Nat) := match pCh 43 r3 with
  | some r2 => (match pDig r2 with
    | none => pc73 (some x) none true (nI 1) r2
    | some (y, r3) => pc73 (some x) (some y) true (nI 1) r3)
  | none => match pCh 45 r3 with
    | some r2 => (match pDig r2 with
      | none => pc73 (some x) none true (-1) r2
      | some (y, r3) => pc73 (some x) (some y) true (-1) r3)
    | none => pc73 (some x) (some 0) true (nI 0) r3
def sgD (x : Nat) (g : Int32) (r4 : List Nat) : Option (PPart × List Nat) := match pDig r4 with
  | none => pc73 (some x) none true g r4
  | some (y, r5) => pc73 (some x) (some y) true g r5
theorem pSgn_p {x : Nat} {r3 r4 : List Nat} (h : pCh 43 r3 = some r4) : pSgn x r3 = sgD x (nI 1) r4 := by
  unfold pSgn
  rw [h]
  rfl
theorem pSgn_m {x : Nat} {r3 r4 : List Nat} (h : pCh 43 r3 = none) (h2 : pCh 45 r3 = some r4) : pSgn x r3 = sgD x (-1) r4 := by
  unfold pSgn
  rw [h, h2]
  rfl
theorem sgD_ok {x y : Nat} {g : Int32} {r4 : List Nat} (h9 : nI y = digV r4) (v : Int32) (hv : ∀ z, z < 10 → nI y = nI z → v = g * nI z) : (∀ p r', sgD x g r4 = some (p, r') → p.1 = 3 ∧ nI x = p.2.2 ∧ v = p.2.1) ∧ bndO (rstO (pDig r4)) (pCh 41) = rsP (sgD x g r4) := by
  unfold sgD
  unfold digV at h9
  cases hd : pDig r4 with
  | none =>
    have e : pc73 (some x) none true g r4 = none := by unfold pc73; rfl
    refine ⟨fun p r' q => ?_, ?_⟩
    · simp only [] at q
      rw [e] at q
      cases q
    · simp only []
      rw [e]
      rfl
  | some q =>
    obtain ⟨y', r5⟩ := q
    rw [hd] at h9
    simp only [] at h9 ⊢
    obtain ⟨g1, g2⟩ := pc73_t (x := x) (y := y') (s := true) (g := g) (r := r5)
    refine ⟨fun p r' q => ?_, g1.symm⟩
    have := g2 p r' q
    subst this
    exact ⟨rfl, rfl, hv y' (pDig_len hd).2 h9⟩
theorem cnt_n {r : List Nat} {x : Nat} (hx : ∀ r1, pCh 40 r = some r1 → nI x = digV r1) (hx9 : x < 10) (hb : ∀ r2, bndO (pCh 40 r) (fun r1 => rstO (pDig r1)) = some r2 → true = (pCh 110 r2).isSome) (o3 oF : Option (List Nat)) (h3 : o3 = bndO (bndO (pCh 40 r) (fun r1 => rstO (pDig r1))) fun r2 => some ((pCh 110 r2).getD r2)) (Y : Int32) (hF : o3 = none → oF = none) (hk : ∀ r3, o3 = some r3 → (∀ p r', pSgn x r3 = some (p, r') → p.1 = 3 ∧ nI x = p.2.2 ∧ Y = p.2.1) ∧ oF = rsP (pSgn x r3)) : cntOk r (nI x) Y oF := by
  refine cnt_head hx _ _ _ (fun r1 r2 h1 h2 => ?_) (fun q => hF (by rw [h3, q]; rfl)) hx9
  have h4 : bndO (pCh 40 r) (fun r1 => rstO (pDig r1)) = some r2 := by rw [h1]; show rstO (pDig r1) = _; rw [h2]; rfl
  have h5 := hb r2 h4
  rw [h4] at h3
  cases h : pCh 110 r2 with
  | none => rw [h] at h5; cases h5
  | some r3 =>
    have h6 : o3 = some r3 := by rw [h3]; show some ((pCh 110 r2).getD r2) = _; rw [h]; rfl
    have h7 : pc18 (some x) r2 = pSgn x r3 := by
      unfold pc18 pSgn
      rw [h]
      rfl
    rw [h7]
    exact hk r3 h6
theorem pCh_hd {c : Nat} {r : List Nat} (hc : 1 ≤ c) : (pCh c r).isSome = decide (hdN r = c) := by
  cases r with
  | nil => exact (decide_eq_false (fun q => by have q9 : 0 = c := q; omega)).symm
  | cons x r =>
    by_cases h : x = c
    · have e : pCh c (x :: r) = some r := if_pos h
      rw [e, decide_eq_true (show hdN (x :: r) = c from h)]; rfl
    · have e : pCh c (x :: r) = none := if_neg h
      rw [e, decide_eq_false (show ¬ hdN (x :: r) = c from h)]; rfl
theorem isS_get {r : List Nat} {c : Nat} (h : true = (pCh c r).isSome) : ∃ r4, pCh c r = some r4 := by
  cases hq : pCh c r with
  | none => rw [hq] at h; cases h
  | some r4 => exact ⟨r4, rfl⟩
theorem isN_get {r : List Nat} {c : Nat} (h : false = (pCh c r).isSome) : pCh c r = none := by
  cases hq : pCh c r with
  | none => rfl
  | some r4 => rw [hq] at h; cases h
/-- with a plus -/
theorem cnt_p {x y : Nat} {o3 : Option (List Nat)} (mn : Bool) (hmn : ∀ r3, o3 = some r3 → mn = decide (hdN r3 = 45)) (hp : ∀ r3, o3 = some r3 → true = (pCh 43 r3).isSome) (hy9 : y < 10) (hy : ∀ r4, bndO o3 (fun r3 => some ((pCh 43 r3).getD r3)) = some r4 → nI y = digV r4) : ∀ r3, o3 = some r3 → (∀ p r', pSgn x r3 = some (p, r') → p.1 = 3 ∧ nI x = p.2.2 ∧ (if mn = true then -(nI y) else nI y) = p.2.1) ∧ bndO (bndO (bndO o3 (fun r3 => some ((pCh 43 r3).getD r3))) (fun r4 => rstO (pDig r4))) (pCh 41) = rsP (pSgn x r3) := by
  intro r3 h3
  obtain ⟨r4, h4⟩ := isS_get (hp r3 h3)
  have h5 := hmn r3 h3
  have h6 : mn = false := by
    rw [h5]
    refine decide_eq_false (fun q => ?_)
    have h7 := pCh_hd (c := 43) (r := r3) (by decide)
    rw [h4, q] at h7
    cases h7
  subst h3
  have h8 : bndO (some r3) (fun r3 => some ((pCh 43 r3).getD r3)) = some r4 := by show some ((pCh 43 r3).getD r3) = _; rw [h4]; rfl
  have h9 := hy r4 h8
  rw [h8, h6]
  rw [pSgn_p h4]
  refine sgD_ok h9 _ (fun z hz h => ?_)
  rw [if_neg (by decide), h, show nI 1 = (1 : Int32) from rfl, Int32.one_mul]
/-- with a minus -/
theorem cnt_m {x y : Nat} {o3 : Option (List Nat)} (mn : Bool) (hmn : ∀ r3, o3 = some r3 → mn = decide (hdN r3 = 45)) (hp : ∀ r3, o3 = some r3 → false = (pCh 43 r3).isSome) (hp2 : ∀ r4, bndO o3 (fun r3 => some ((pCh 43 r3).getD r3)) = some r4 → true = (pCh 45 r4).isSome) (hy9 : y < 10) (hy : ∀ r5, bndO (bndO o3 (fun r3 => some ((pCh 43 r3).getD r3))) (fun r4 => some ((pCh 45 r4).getD r4)) = some r5 → nI y = digV r5) : ∀ r3, o3 = some r3 → (∀ p r', pSgn x r3 = some (p, r') → p.1 = 3 ∧ nI x = p.2.2 ∧ (if mn = true then -(nI y) else nI y) = p.2.1) ∧ bndO (bndO (bndO (bndO o3 (fun r3 => some ((pCh 43 r3).getD r3))) (fun r4 => some ((pCh 45 r4).getD r4))) (fun r5 => rstO (pDig r5))) (pCh 41) = rsP (pSgn x r3) := by
  intro r3 h3
  have h4 := isN_get (hp r3 h3)
  subst h3
  have h8 : bndO (some r3) (fun r3 => some ((pCh 43 r3).getD r3)) = some r3 := by show some ((pCh 43 r3).getD r3) = _; rw [h4]; rfl
  obtain ⟨r4, h45⟩ := isS_get (hp2 r3 h8)
  have h5 := hmn r3 rfl
  have h6 : mn = true := by
    rw [h5, ← pCh_hd (by decide), h45]
    rfl
  rw [h8] at hy ⊢
  have h9 : bndO (some r3) (fun r4 => some ((pCh 45 r4).getD r4)) = some r4 := by show some ((pCh 45 r3).getD r3) = _; rw [h45]; rfl
  have h10 := hy r4 h9
  rw [h9, h6]
  rw [pSgn_m h4 h45]
  refine sgD_ok h10 _ (fun z hz h => ?_)
  rw [if_pos rfl, h, neg_dig z hz]
/-- with neither -/
theorem cnt_0 {x : Nat} {o3 : Option (List Nat)} (mn : Bool) (hmn : ∀ r3, o3 = some r3 → mn = decide (hdN r3 = 45)) (hp : ∀ r3, o3 = some r3 → false = (pCh 43 r3).isSome) (hp2 : ∀ r4, bndO o3 (fun r3 => some ((pCh 43 r3).getD r3)) = some r4 → false = (pCh 45 r4).isSome) : ∀ r3, o3 = some r3 → (∀ p r', pSgn x r3 = some (p, r') → p.1 = 3 ∧ nI x = p.2.2 ∧ (if mn = true then -(nI 0) else nI 0) = p.2.1) ∧ bndO (bndO (bndO o3 (fun r3 => some ((pCh 43 r3).getD r3))) (fun r4 => some ((pCh 45 r4).getD r4))) (pCh 41) = rsP (pSgn x r3) := by
  intro r3 h3
  have h4 := isN_get (hp r3 h3)
  subst h3
  have h8 : bndO (some r3) (fun r3 => some ((pCh 43 r3).getD r3)) = some r3 := by show some ((pCh 43 r3).getD r3) = _; rw [h4]; rfl
  have h45 := isN_get (hp2 r3 h8)
  rw [h8]
  have h9 : bndO (some r3) (fun r4 => some ((pCh 45 r4).getD r4)) = some r3 := by show some ((pCh 45 r3).getD r3) = _; rw [h45]; rfl
  rw [h9]
  unfold pSgn
  rw [h4, h45]
  obtain ⟨g1, g2⟩ := pc73_t (x := x) (y := 0) (s := true) (g := nI 0) (r := r3)
  refine ⟨fun p r' q => ?_, g1.symm⟩
  have := g2 p r' q
  subst this
  refine ⟨rfl, rfl, ?_⟩
  show (if mn = true then -(nI 0) else nI 0) = nI 0 * nI 0
  cases mn <;> decide
