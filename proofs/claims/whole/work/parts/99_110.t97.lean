/-! ===== the model: readCount ===== -/
def rsP {α : Type} (o : Option (α × List Nat)) : Option (List Nat) := match o with
  | none => none
  | some (_, r) => some r
/-- the part that was counted: what the model keeps of it -/
def cntOk (r : List Nat) (X Y : Int32) (o : Option (List Nat)) : Prop := (∀ p r', pCount r = some (p, r') → p.1 = 3 ∧ X = p.2.2 ∧ Y = p.2.1) ∧ o = rsP (pCount r)
theorem cnt_head {r : List Nat} {x : Nat} (hx : ∀ r1, pCh 40 r = some r1 → nI x = digV r1) (X Y : Int32) (o3 : Option (List Nat)) (h : ∀ r1 r2, pCh 40 r = some r1 → pDig r1 = some (x, r2) → (∀ p r', pc18 (some x) r2 = some (p, r') → p.1 = 3 ∧ X = p.2.2 ∧ Y = p.2.1) ∧ o3 = rsP (pc18 (some x) r2)) (h2 : bndO (pCh 40 r) (fun r1 => rstO (pDig r1)) = none → o3 = none) (hx9 : x < 10) : cntOk r X Y o3 := by
  unfold cntOk pCount
  cases h40 : pCh 40 r with
  | none =>
    rw [h40] at h2
    exact ⟨fun p r' q => (by cases q), h2 rfl⟩
  | some r1 =>
    rw [h40] at h2
    simp only []
    cases hd : pDig r1 with
    | none =>
      refine ⟨fun p r' q => (by cases q), h2 ?_⟩
      show rstO (pDig r1) = none
      rw [hd]
      rfl
    | some q =>
      obtain ⟨x', r2⟩ := q
      have e1 := hx r1 h40
      unfold digV at e1
      rw [hd] at e1
      simp only [] at e1
      have e2 : x = x' := by
        have h9 := congrArg (fun y : Int32 => y.toBitVec.toNat) e1
        have := (pDig_len hd).2
        rw [nI_bv (by omega), nI_bv (by omega)] at h9
        exact h9
      subst e2
      exact h r1 r2 h40 hd
theorem rc_82 (E : ZE) (mo : Nat) (hm : E.2.2.2.2 = some mo) (w : ZW) (sg : ZM) (d f m n g : Nat) (hd : 3 ≤ d) (hm9 : m ≤ 900) (hn : n < 130) (X Y : Int32) (x4 : Option Value) (o : Option (List Nat)) (h21 : mi sg 21 = nI n) (h : cuO sg f (m + 1) o) : RW E MX10_readCount 82 [some (.ref mo), some (.int (nI g)), some (.int X), some (.int Y), x4] [] w sg d 0 0 (PN E (fun v w' sg' => v = none ∧ w = w' ∧ adP sg sg' n (nI g) (nI 6) X Y ∧ cuO sg' f m (bndO o (pCh 41)))) := by
  refine r_aload_n dX10_readCount_82 rfl (zRv_ref _) rfl ?_
  refine r_bipush dX10_readCount_83 kb_41 rfl ?_
  refine r_callV MX10_expect 1 [_] lvX10_188 (Or.inr (Or.inl ⟨hm, rfl⟩)) (o_expect E mo hm w sg (d - 1) f 41 m hm9 (by omega) (by decide) o h) rfl rfl (by first | exact Nat.le_of_ble_eq_true rfl | (simp [zcat_rf, Value.category]; done)) (by omega) (Nat.le_of_eq (Nat.zero_add _)) (Nat.le_of_eq (Nat.zero_add _)) dX10_readCount_85 rfl (fun v_ w_ sg_ hq_ => ?_)
  obtain ⟨rfl, rfl, q3, q4⟩ := hq_
  obtain ⟨sg1, hsg1⟩ : ∃ y, y = sg_ := ⟨_, rfl⟩
  subst hsg1
  have i21 : mi sg1 21 = nI n := (q3.1 21 (by decide) (by decide)).trans h21
  refine r_aload_n dX10_readCount_88 rfl (zRv_ref _) rfl ?_
  refine r_iload_n dX10_readCount_89 rfl rfl ?_
  refine r_bipush dX10_readCount_90 kb_6 rfl ?_
  refine r_iload_n dX10_readCount_92 rfl rfl ?_
  refine r_iload_n dX10_readCount_93 rfl rfl ?_
  refine r_callV MX10_addPart 4 [_, _, _, _] lvX10_196 (Or.inr (Or.inl ⟨hm, rfl⟩)) (o_addPart E mo hm w sg1 (d - 1) f m n (nI g) (nI 6) X Y hn i21 _ q4) rfl rfl (by first | exact Nat.le_of_ble_eq_true rfl | (simp [zcat_rf, Value.category]; done)) (by omega) (Nat.le_of_eq (Nat.zero_add _)) (Nat.le_of_eq (Nat.zero_add _)) dX10_readCount_94 rfl (fun v_ w_ sg_ hq_ => ?_)
  obtain ⟨rfl, rfl, p3, p4⟩ := hq_
  refine r_vret rfl dX10_readCount_97 ?_
  exact ⟨rfl, rfl, p3.mv q3, p4⟩
theorem pc73_t {x y : Nat} {s : Bool} {g : Int32} {r : List Nat} : rsP (pc73 (some x) (some y) s g r) = pCh 41 r ∧ ∀ p r', pc73 (some x) (some y) s g r = some (p, r') → p = (if s = true then (3, g * nI y, nI x) else (3, nI x, nI 0)) := by
  unfold pc73
  cases h : pCh 41 r with
  | none => exact ⟨rfl, fun p r' q => (by cases q)⟩
  | some r1 => exact ⟨rfl, fun p r' q => (by cases q; rfl)⟩
theorem neg_dig : ∀ y, y < 10 → (-1 : Int32) * nI y = -(nI y) := by decide +kernel
/-- no n -/
theorem cnt_a {r : List Nat} {x : Nat} (hx : ∀ r1, pCh 40 r = some r1 → nI x = digV r1) (hx9 : x < 10) (hb : ∀ r2, bndO (pCh 40 r) (fun r1 => rstO (pDig r1)) = some r2 → false = (pCh 110 r2).isSome) : cntOk r (nI 0) (nI x) (bndO (bndO (bndO (pCh 40 r) (fun r1 => rstO (pDig r1))) fun r2 => some ((pCh 110 r2).getD r2)) (pCh 41)) := by
  refine cnt_head hx _ _ _ (fun r1 r2 h1 h2 => ?_) (fun q => by rw [q]; rfl) hx9
  rw [h1]
  show _ ∧ bndO (bndO (rstO (pDig r1)) _) _ = _
  have h3 : pCh 110 r2 = none := by
    have := hb r2 (by rw [h1]; show rstO (pDig r1) = _; rw [h2]; rfl)
    cases h : pCh 110 r2 with
    | none => rfl
    | some q => rw [h] at this; cases this
  rw [h2]
  show _ ∧ pCh 41 ((pCh 110 r2).getD r2) = _
  unfold pc18
  rw [h3]
  obtain ⟨g1, g2⟩ := pc73_t (x := x) (y := 0) (s := false) (g := nI 0) (r := r2)
  exact ⟨fun p r' q => by have := g2 p r' q; subst this; exact ⟨rfl, rfl, rfl⟩, g1.symm⟩
/-- behind n -/
theorem cnt_n {r : List Nat} {x : Nat} (hx : ∀ r1, pCh 40 r = some r1 → nI x = digV r1) (hx9 : x < 10) (hb : ∀ r2, bndO (pCh 40 r) (fun r1 => rstO (pDig r1)) = some r2 → true = (pCh 110 r2).isSome) (Y : Int32) (k : List Nat → Option (List Nat)) (hk : ∀ r3 : List Nat, (∀ p r', (match pCh 43 r3 with
    | some r2 => (match pDig r2 with
      | none => pc73 (some x) none true (nI 1) r2
      | some (y, r3) => pc73 (some x) (some y) true (nI 1) r3)
    | none => match pCh 45 r3 with
      | some r2 => (match pDig r2 with
        | none => pc73 (some x) none true (-1) r2
        | some (y, r3) => pc73 (some x) (some y) true (-1) r3)
      | none => pc73 (some x) (some 0) true (nI 0) r3) = some (p, r') → p.1 = 3 ∧ nI x = p.2.2 ∧ Y = p.2.1) ∧ k r3 = rsP (match pCh 43 r3 with
    | some r2 => (match pDig r2 with
      | none => pc73 (some x) none true (nI 1) r2
      | some (y, r3) => pc73 (some x) (some y) true (nI 1) r3)
    | none => match pCh 45 r3 with
      | some r2 => (match pDig r2 with
        | none => pc73 (some x) none true (-1) r2
        | some (y, r3) => pc73 (some x) (some y) true (-1) r3)
      | none => pc73 (some x) (some 0) true (nI 0) r3)) : cntOk r (nI x) Y (bndO (bndO (bndO (pCh 40 r) (fun r1 => rstO (pDig r1))) fun r2 => some ((pCh 110 r2).getD r2)) k) := by
  refine cnt_head hx _ _ _ (fun r1 r2 h1 h2 => ?_) (fun q => by rw [q]; rfl) hx9
  rw [h1]
  show _ ∧ bndO (bndO (rstO (pDig r1)) _) _ = _
  rw [h2]
  show _ ∧ k ((pCh 110 r2).getD r2) = _
  have h3 := hb r2 (by rw [h1]; show rstO (pDig r1) = _; rw [h2]; rfl)
  cases h : pCh 110 r2 with
  | none => rw [h] at h3; cases h3
  | some r3 =>
    unfold pc18
    rw [h]
    exact hk r3
