/-! ===== lengths of selectors; heights ===== -/
theorem pOutN_len : ∀ (j : Nat) (ps : List PPart) (o : Bool) (r : List Nat) (ps' : List PPart) (es' : List PBare) (o2 : Bool) (r2 : List Nat), pOutL none j ps [] o r = some (ps', es', o2, r2) → r2.length ≤ r.length
  | 0, ps, o, r, ps', es', o2, r2, h => by cases h; exact Nat.le_refl _
  | j + 1, ps, o, r, ps', es', o2, r2, h => by
    cases hs : isPS (hdN r) with
    | false => rw [pOutL_stop hs] at h; cases h; exact Nat.le_refl _
    | true =>
      cases r with
      | nil => cases hs
      | cons c r1 =>
        have hc : isPS c = true := hs
        rw [pOutL_go hc] at h
        cases hq : pSimple c r1 with
        | none => rw [hq] at h; cases h
        | some q =>
          obtain ⟨p, r3⟩ := q
          rw [hq] at h
          have h1 := pSimple_len hq
          have h2 := pOutN_len j (p :: ps) true r3 ps' es' o2 r2 h
          rw [List.length_cons]
          omega
theorem pExcl_len {r r' : List Nat} {b : PBare} (h : pExcl r = some (b, r')) : r'.length + 1 ≤ r.length := by
  cases h40 : pCh 40 r with
  | none => unfold pExcl at h; rw [h40] at h; cases h
  | some r1 =>
    rw [excl_eq h40] at h
    have l1 := pCh_len h40
    have l2 := pHead_len r1
    cases ho : pOutL none 4 [] [] (pHead r1).2.1 (pHead r1).2.2 with
    | none => rw [ho] at h; cases h
    | some q =>
      obtain ⟨ps, es, o2, r2⟩ := q
      rw [ho] at h
      have l3 := pOutN_len 4 [] _ _ _ _ _ _ ho
      simp only [] at h
      split at h
      · cases h41 : pCh 41 r2 with
        | none => rw [h41] at h; cases h
        | some r3 =>
          rw [h41] at h
          cases h
          have l4 := pCh_len h41
          omega
      · cases h
theorem pOutX_len : ∀ (j : Nat) (ps : List PPart) (es : List PBare) (o : Bool) (r : List Nat) (ps' : List PPart) (es' : List PBare) (o2 : Bool) (r2 : List Nat), pOutL (some pExcl) j ps es o r = some (ps', es', o2, r2) → r2.length ≤ r.length
  | 0, ps, es, o, r, ps', es', o2, r2, h => by cases h; exact Nat.le_refl _
  | j + 1, ps, es, o, r, ps', es', o2, r2, h => by
    cases hs : isPS (hdN r) with
    | false => rw [pOutL_stop hs] at h; cases h; exact Nat.le_refl _
    | true =>
      cases r with
      | nil => cases hs
      | cons c r1 =>
        have hc : isPS c = true := hs
        rw [List.length_cons]
        by_cases hx : c = 58 ∧ r1.head? = some 120
        · rw [pOutX_x hc hx] at h
          cases hq : pExcl r1.tail with
          | none => rw [hq] at h; cases h
          | some q =>
            obtain ⟨b, r3⟩ := q
            rw [hq] at h
            have h1 := pExcl_len hq
            have h2 := pOutX_len j ps (b :: es) true r3 ps' es' o2 r2 h
            rw [List.length_tail] at h1
            omega
        · rw [pOutX_s hc hx] at h
          cases hq : pSimple c r1 with
          | none => rw [hq] at h; cases h
          | some q =>
            obtain ⟨p, r3⟩ := q
            rw [hq] at h
            have h1 := pSimple_len hq
            have h2 := pOutX_len j (p :: ps) es true r3 ps' es' o2 r2 h
            omega
theorem pComp_len {r r' : List Nat} {c : PComp} (h : pComp r = some (c, r')) : r'.length ≤ r.length := by
  rw [comp_eq] at h
  have l2 := pHead_len r
  cases ho : pOutL (some pExcl) 4 [] [] (pHead r).2.1 (pHead r).2.2 with
  | none => rw [ho] at h; cases h
  | some q =>
    obtain ⟨ps, es, o2, r2⟩ := q
    rw [ho] at h
    have l3 := pOutX_len 4 [] [] _ _ _ _ _ _ ho
    simp only [] at h
    split at h
    · cases h
      omega
    · cases h
theorem pSelL_len : ∀ (n : Nat) (r : List Nat) (l : List (Nat × PComp)) (r' : List Nat), pSelL n r = some (l, r') → r'.length ≤ r.length
  | 0, r, l, r', h => by cases h; exact Nat.le_refl _
  | n + 1, r, l, r', h => by
    cases hj : isJn (hdN r) with
    | false => rw [pSelL_stop hj] at h; cases h; exact Nat.le_refl _
    | true =>
      cases r with
      | nil => cases hj
      | cons c r1 =>
        have hc : isJn c = true := hj
        rw [pSelL_go hc] at h
        rw [List.length_cons]
        cases h2 : pComp r1 with
        | none => rw [h2] at h; cases h
        | some q =>
          obtain ⟨x, r2⟩ := q
          rw [h2] at h
          simp only [] at h
          have l1 := pComp_len h2
          cases h3 : pSelL n r2 with
          | none => rw [h3] at h; cases h
          | some q3 =>
            obtain ⟨l3, r3⟩ := q3
            rw [h3] at h
            cases h
            have := pSelL_len n r2 l3 _ h3
            omega
theorem pSel_len {r r' : List Nat} {l : List (Nat × PComp)} (h : pSel r = some (l, r')) : r'.length ≤ r.length := by
  unfold pSel at h
  cases h2 : pComp r with
  | none => rw [h2] at h; cases h
  | some q =>
    obtain ⟨x, r1⟩ := q
    rw [h2] at h
    simp only [] at h
    have l1 := pComp_len h2
    cases h3 : pSelL 3 r1 with
    | none => rw [h3] at h; cases h
    | some q3 =>
      obtain ⟨l3, r3⟩ := q3
      rw [h3] at h
      cases h
      have := pSelL_len 3 r1 l3 _ h3
      omega
theorem pSelsL_len : ∀ (n : Nat) (r : List Nat) (ls : List (List (Nat × PComp))) (r' : List Nat), pSelsL n r = some (ls, r') → r'.length ≤ r.length
  | 0, r, ls, r', h => by cases h; exact Nat.le_refl _
  | n + 1, r, ls, r', h => by
    unfold pSelsL at h
    split at h
    · cases h; exact Nat.le_refl _
    · rename_i r1 h1
      have l0 := pCh_len h1
      cases h2 : pSel r1 with
      | none => rw [h2] at h; cases h
      | some q =>
        obtain ⟨x, r2⟩ := q
        rw [h2] at h
        simp only [] at h
        have l1 := pSel_len h2
        cases h3 : pSelsL n r2 with
        | none => rw [h3] at h; cases h
        | some q3 =>
          obtain ⟨l3, r3⟩ := q3
          rw [h3] at h
          cases h
          have := pSelsL_len n r2 l3 _ h3
          omega
theorem pSels_len {r r' : List Nat} {ls : List (List (Nat × PComp))} (h : pSels r = some (ls, r')) : r'.length ≤ r.length := by
  unfold pSels at h
  cases h2 : pSel r with
  | none => rw [h2] at h; cases h
  | some q =>
    obtain ⟨x, r1⟩ := q
    rw [h2] at h
    simp only [] at h
    have l1 := pSel_len h2
    cases h3 : pSelsL 2 r1 with
    | none => rw [h3] at h; cases h
    | some q3 =>
      obtain ⟨l3, r3⟩ := q3
      rw [h3] at h
      cases h
      have := pSelsL_len 2 r1 l3 _ h3
      omega
