/-! ===== what the reader of sums gives ===== -/
def hgB (t : List PStep) (o : Option Nat) : Option Nat := match o with
  | none => none
  | some h => hgt t h
theorem hgt_app : ∀ (s t : List PStep) (h : Nat), hgt (s ++ t) h = hgB t (hgt s h)
  | [], t, h => rfl
  | a :: s, t, h => by
    rw [List.cons_append]
    unfold hgt
    split
    · split
      · exact hgt_app s t (h + 1)
      · rfl
    · split
      · split
        · exact hgt_app s t h
        · rfl
      · split
        · exact hgt_app s t (h - 1)
        · rfl
/-- N places more are enough for what f reads -/
def hgN (N : Nat) (s : List PStep) : Prop := (∀ x ∈ s, okSt x) ∧ ∀ h, h + N ≤ 15 → hgt s h = some (h + 1)
def hgF (N : Nat) (f : List Nat → Option (List PStep × List Nat)) : Prop := ∀ r s r', f r = some (s, r') → hgN N s
theorem hgN.mono {N M : Nat} {s : List PStep} (h : hgN N s) (hm : N ≤ M) : hgN M s := ⟨h.1, fun k hk => h.2 k (by omega)⟩
theorem hgN.two {N : Nat} {s t : List PStep} (hs : hgN (N + 1) s) (ht : hgN N t) {o : Nat} (ho : 4 < o ∧ o < 9) : hgN (N + 1) (s ++ t ++ [(o, 0)]) := by
  refine ⟨fun x hx => ?_, fun h hh => ?_⟩
  · rcases List.mem_append.mp hx with g | g
    · rcases List.mem_append.mp g with g | g
      · exact hs.1 x g
      · exact ht.1 x g
    · rw [List.mem_singleton] at g
      subst g
      exact ⟨by show o < 13; omega, fun q => absurd q (by show ¬ o ≤ 3; omega)⟩
  · rw [hgt_app, hgt_app, hs.2 h hh]
    show hgB _ (hgt t (h + 1)) = _
    rw [ht.2 (h + 1) (by omega)]
    show hgt _ (h + 1 + 1) = _
    unfold hgt
    rw [if_neg (by show ¬ (o ≤ 3 ∨ 9 ≤ o); omega), if_neg (by show ¬ o = 4; omega), if_pos (by omega)]
    rfl
theorem hgt_pProdL {f : List Nat → Option (List PStep × List Nat)} {N : Nat} (hf : hgF N f) : ∀ (n : Nat) (acc : List PStep) (r : List Nat) (s : List PStep) (r' : List Nat), hgN (N + 1) acc → pProdL f n acc r = some (s, r') → hgN (N + 1) s
  | 0, acc, r, s, r', ha, h => by cases h; exact ha
  | n + 1, acc, r, s, r', ha, h => by
    unfold pProdL at h
    split at h
    · rename_i r1 h1
      cases h2 : f r1 with
      | none => rw [h2] at h; cases h
      | some q =>
        rw [h2] at h
        exact hgt_pProdL hf n _ _ s r' (ha.two (hf _ _ _ h2) ⟨by decide, by decide⟩) h
    · split at h
      · rename_i r1 h1
        cases h2 : f r1 with
        | none => rw [h2] at h; cases h
        | some q =>
          rw [h2] at h
          exact hgt_pProdL hf n _ _ s r' (ha.two (hf _ _ _ h2) ⟨by decide, by decide⟩) h
      · cases h; exact ha
theorem hgF_pProd {f : List Nat → Option (List PStep × List Nat)} {N : Nat} (hf : hgF N f) : hgF (N + 1) (pProd f) := fun r s r' h => by
  unfold pProd at h
  cases h2 : f r with
  | none => rw [h2] at h; cases h
  | some q =>
    rw [h2] at h
    exact hgt_pProdL hf 120 _ _ s r' ((hf _ _ _ h2).mono (by omega)) h
theorem hgt_pSumL {f : List Nat → Option (List PStep × List Nat)} {N : Nat} (hf : hgF N f) : ∀ (n : Nat) (acc : List PStep) (r : List Nat) (s : List PStep) (r' : List Nat), hgN (N + 1 + 1) acc → pSumL f n acc r = some (s, r') → hgN (N + 1 + 1) s
  | 0, acc, r, s, r', ha, h => by cases h; exact ha
  | n + 1, acc, r, s, r', ha, h => by
    unfold pSumL at h
    split at h
    · rename_i r1 h1
      cases h2 : pProd f r1 with
      | none => rw [h2] at h; cases h
      | some q =>
        rw [h2] at h
        exact hgt_pSumL hf n _ _ s r' (ha.two (hgF_pProd hf _ _ _ h2) ⟨by decide, by decide⟩) h
    · split at h
      · rename_i r1 h1
        cases h2 : pProd f r1 with
        | none => rw [h2] at h; cases h
        | some q =>
          rw [h2] at h
          exact hgt_pSumL hf n _ _ s r' (ha.two (hgF_pProd hf _ _ _ h2) ⟨by decide, by decide⟩) h
      · cases h; exact ha
theorem hgF_pSum {f : List Nat → Option (List PStep × List Nat)} {N : Nat} (hf : hgF N f) : hgF (N + 2) (pSum f) := fun r s r' h => by
  unfold pSum at h
  cases h2 : pProd f r with
  | none => rw [h2] at h; cases h
  | some q =>
    rw [h2] at h
    exact hgt_pSumL hf 120 _ _ s r' ((hgF_pProd hf _ _ _ h2).mono (by omega)) h
theorem hgN_one {x : PStep} (h : okSt x) (h2 : x.1 ≤ 3 ∨ 9 ≤ x.1) : hgN 1 [x] := by
  refine ⟨fun y hy => by rw [List.mem_singleton] at hy; subst hy; exact h, fun k hk => ?_⟩
  unfold hgt
  rw [if_pos h2, if_pos (by omega)]
  rfl
theorem pDigs_lt : ∀ (n v : Nat) (r : List Nat), (pDigs n v r).1 + 1 ≤ (v + 1) * 10 ^ n
  | 0, v, r => by show v + 1 ≤ (v + 1) * 1; omega
  | n + 1, v, r => by
    unfold pDigs
    split
    · show v + 1 ≤ _
      exact Nat.le_mul_of_pos_right _ (Nat.pow_pos (by decide))
    · rename_i x r' h
      have h1 := pDigs_lt n (10 * v + x) r'
      have h2 := (pDig_len h).2
      have h3 : (10 * v + x + 1) * 10 ^ n ≤ (10 * (v + 1)) * 10 ^ n := Nat.mul_le_mul_right _ (by omega)
      have h4 : (10 * (v + 1)) * 10 ^ n = (v + 1) * 10 ^ (n + 1) := by rw [Nat.pow_succ, Nat.mul_comm 10, Nat.mul_assoc, Nat.mul_comm 10]
      omega
theorem pUnit_lt (r : List Nat) : (pUnit r).1 ≤ 3 := by
  unfold pUnit
  split
  · exact (by decide : 1 ≤ 3)
  · split
    · exact (by decide : 2 ≤ 3)
    · split
      · exact (by decide : 3 ≤ 3)
      · exact (by decide : 0 ≤ 3)
theorem hgF_pNum : hgF 1 pNum := fun r s r' h => by
  unfold pNum at h
  cases h1 : pDig r with
  | none => rw [h1] at h; cases h
  | some q =>
    obtain ⟨x, r1⟩ := q
    rw [h1] at h
    simp only [] at h
    have hx := (pDig_len h1).2
    have hv := pDigs_lt 2 x r1
    cases h2 : pDigs 2 x r1 with
    | mk v r2 =>
      rw [h2] at h hv
      simp only [] at h hv
      have hv2 : v < 1000 := by
        have : (x + 1) * 10 ^ 2 ≤ 10 * 10 ^ 2 := Nat.mul_le_mul_right _ (by omega)
        omega
      cases h3 : pCh 46 r2 with
      | none =>
        rw [h3] at h
        simp only [] at h
        cases h
        have hu := pUnit_lt r2
        exact hgN_one ⟨by show (pUnit r2).1 < 13; omega, fun _ => fFin_i2f (by omega)⟩ (Or.inl hu)
      | some r3 =>
        rw [h3] at h
        simp only [] at h
        cases h4 : pDig r3 with
        | none => rw [h4] at h; cases h
        | some q4 =>
          obtain ⟨y, r4⟩ := q4
          rw [h4] at h
          simp only [] at h
          cases h
          have hy := (pDig_len h4).2
          have hu := pUnit_lt r4
          exact hgN_one ⟨by show (pUnit r4).1 < 13; omega, fun _ => fFin_ten (by omega)⟩ (Or.inl hu)
theorem hgF_pFac : ∀ k, hgF (2 * k + 1) (pFac (k + 1))
  | k, r, s, r', h => by
    unfold pFac at h
    split at h
    · rename_i r1 h1
      cases k with
      | zero => cases h
      | succ k =>
        cases h2 : pFac (k + 1) r1 with
        | none => rw [h2] at h; cases h
        | some q =>
          obtain ⟨s1, r2⟩ := q
          rw [h2] at h
          cases h
          have ih := hgF_pFac k r1 s1 _ h2
          refine ⟨fun x hx => ?_, fun h hh => ?_⟩
          · rcases List.mem_append.mp hx with g | g
            · exact ih.1 x g
            · rw [List.mem_singleton] at g
              subst g
              exact ⟨by decide, fun q => absurd q (by decide)⟩
          · rw [hgt_app, ih.2 h (by omega)]
            show hgt _ (h + 1) = _
            unfold hgt
            rw [if_neg (by decide), if_pos rfl, if_pos (by omega)]
            rfl
    · split at h
      · rename_i r1 h1
        cases k with
        | zero =>
          cases h2 : pSum (pFac 0) r1 with
          | none => rw [h2] at h; cases h
          | some q =>
            unfold pSum pProd at h2
            cases h2
        | succ k =>
          cases h2 : pSum (pFac (k + 1)) r1 with
          | none => rw [h2] at h; cases h
          | some q =>
            obtain ⟨s1, r2⟩ := q
            rw [h2] at h
            simp only [] at h
            split at h
            · cases h
            · cases h
              exact hgF_pSum (hgF_pFac k) _ _ _ h2
      · split at h
        · rename_i r1 h1
          cases h2 : pNamed r1 with
          | none => rw [h2] at h; cases h
          | some q =>
            obtain ⟨n, r2⟩ := q
            rw [h2] at h
            cases h
            have := (pNamed_len h2).2
            exact (hgN_one ⟨by show 9 + n < 13; omega, fun q => absurd q (by show ¬ 9 + n ≤ 3; omega)⟩ (Or.inr (by show 9 ≤ 9 + n; omega))).mono (by omega)
        · exact (hgF_pNum _ _ _ h).mono (by omega)
theorem pDecl_ok {og : Nat} {r r' : List Nat} {D : PDecl} (h : pDecl og r = some (D, r')) (hl : r.length ≤ 120) : (D.2.1 = 2 → okD D) ∧ r'.length ≤ r.length := by
  unfold pDecl at h
  cases h1 : pName r with
  | none => rw [h1] at h; cases h
  | some q =>
    obtain ⟨n, r1⟩ := q
    rw [h1] at h
    simp only [] at h
    have l1 : r1.length ≤ r.length := by
      unfold pName at h1
      split at h1
      · cases h1
      · rename_i c r2
        repeat' (split at h1)
        all_goals first | (cases h1; simp; done) | (cases h1; done) | skip
        rename_i _ x r3 h9
        cases h1
        have := (pNamed_len h9).1
        simp
        omega
    cases h2 : pCh 58 r1 with
    | none => rw [h2] at h; cases h
    | some r2 =>
      rw [h2] at h
      simp only [] at h
      have l2 := pCh_len h2
      cases h3 : pValue r2 with
      | none => rw [h3] at h; cases h
      | some q3 =>
        obtain ⟨v, ss, r3⟩ := q3
        rw [h3] at h
        simp only [] at h
        have l3 : r3.length ≤ r2.length ∧ (v = 2 → hgN 15 ss ∧ ss.length ≤ 120) := by
          unfold pValue at h3
          split at h3
          · rename_i r9 h9
            cases h3
            unfold pWord at h9
            split at h9
            · cases h9
              exact ⟨by rw [List.length_drop]; omega, fun q => absurd q (by decide)⟩
            · cases h9
          · split at h3
            · rename_i r9 h9
              cases h3
              unfold pWord at h9
              split at h9
              · cases h9
                exact ⟨by rw [List.length_drop]; omega, fun q => absurd q (by decide)⟩
              · cases h9
            · split at h3
              · rename_i s9 r9 h9
                cases h3
                have := pSum_thin (pFac_thin 7) _ _ _ h9
                exact ⟨by omega, fun _ => ⟨hgF_pSum (hgF_pFac 6) _ _ _ h9, by omega⟩⟩
              · cases h3
        unfold pBang at h
        have key : v = 2 → ∀ og', okD (n, v, og', ss) := fun hv og' => by
          obtain ⟨g1, g2⟩ := l3.2 hv
          exact ⟨g1.2 0 (by decide), g2, g1.1⟩
        split at h
        · cases h
          exact ⟨fun hv => key hv _, by omega⟩
        · rename_i r4 h4
          cases h
          have := pCh_len h4
          exact ⟨fun hv => key hv _, by omega⟩
