/-! ===== how texts are read: plain functions over lists of characters ===== -/
abbrev PStep : Type := Nat × UInt32
def pDig : List Nat → Option (Nat × List Nat)
  | [] => none
  | c :: r => if 48 ≤ c ∧ c ≤ 57 then some (c - 48, r) else none
def pCh (x : Nat) : List Nat → Option (List Nat)
  | [] => none
  | c :: r => if c = x then some r else none
/-- up to n digits more -/
def pDigs : Nat → Nat → List Nat → Nat × List Nat
  | 0, v, r => (v, r)
  | n + 1, v, r => match pDig r with
    | none => (v, r)
    | some (x, r') => pDigs n (10 * v + x) r'
def pUnit (r : List Nat) : Nat × List Nat := match pCh 112 r with
  | some r' => (1, r')
  | none => match pCh 101 r with
    | some r' => (2, r')
    | none => match pCh 37 r with
      | some r' => (3, r')
      | none => (0, r)
def pTen : UInt32 := 1092616192
def pNum (r : List Nat) : Option (List PStep × List Nat) := match pDig r with
  | none => none
  | some (x, r1) => match pDigs 2 x r1 with
    | (v, r2) => match pCh 46 r2 with
      | none => match pUnit r2 with
        | (u, r3) => some ([(u, FP.i2f (nI v))], r3)
      | some r3 => match pDig r3 with
        | none => none
        | some (y, r4) => match pUnit r4 with
          | (u, r5) => some ([(u, FP.fdiv (FP.i2f (nI (10 * v + y))) pTen)], r5)
def pNamed : List Nat → Option (Nat × List Nat)
  | [] => none
  | c :: r => if 97 ≤ c ∧ c ≤ 100 then some (c - 97, r) else none
def pProdL (f : List Nat → Option (List PStep × List Nat)) : Nat → List PStep → List Nat → Option (List PStep × List Nat)
  | 0, acc, r => some (acc, r)
  | n + 1, acc, r => match pCh 42 r with
    | some r1 => match f r1 with
      | none => none
      | some (s, r2) => pProdL f n (acc ++ s ++ [(7, 0)]) r2
    | none => match pCh 47 r with
      | some r1 => match f r1 with
        | none => none
        | some (s, r2) => pProdL f n (acc ++ s ++ [(8, 0)]) r2
      | none => some (acc, r)
def pProd (f : List Nat → Option (List PStep × List Nat)) (r : List Nat) : Option (List PStep × List Nat) := match f r with
  | none => none
  | some (s, r1) => pProdL f 120 s r1
def pSumL (f : List Nat → Option (List PStep × List Nat)) : Nat → List PStep → List Nat → Option (List PStep × List Nat)
  | 0, acc, r => some (acc, r)
  | n + 1, acc, r => match pCh 43 r with
    | some r1 => match pProd f r1 with
      | none => none
      | some (s, r2) => pSumL f n (acc ++ s ++ [(5, 0)]) r2
    | none => match pCh 45 r with
      | some r1 => match pProd f r1 with
        | none => none
        | some (s, r2) => pSumL f n (acc ++ s ++ [(6, 0)]) r2
      | none => some (acc, r)
def pSum (f : List Nat → Option (List PStep × List Nat)) (r : List Nat) : Option (List PStep × List Nat) := match pProd f r with
  | none => none
  | some (s, r1) => pSumL f 120 s r1
/-- a factor, k levels being left -/
def pFac : Nat → List Nat → Option (List PStep × List Nat)
  | 0, _ => none
  | k + 1, r => match pCh 45 r with
    | some r1 => match pFac k r1 with
      | none => none
      | some (s, r2) => some (s ++ [(4, 0)], r2)
    | none => match pCh 40 r with
      | some r1 => match pSum (pFac k) r1 with
        | none => none
        | some (s, r2) => match pCh 41 r2 with
          | none => none
          | some r3 => some (s, r3)
      | none => match pCh 36 r with
        | some r1 => match pNamed r1 with
          | none => none
          | some (n, r2) => some ([(9 + n, 0)], r2)
        | none => pNum r
/-! lengths: what is kept is no more than what is read -/
theorem pDig_len {r r' : List Nat} {x : Nat} (h : pDig r = some (x, r')) : r'.length + 1 = r.length ∧ x < 10 := by
  cases r with
  | nil => cases h
  | cons c r =>
    simp only [pDig] at h
    split at h
    · cases h; exact ⟨rfl, by omega⟩
    · cases h
theorem pCh_len {c : Nat} {r r' : List Nat} (h : pCh c r = some r') : r'.length + 1 = r.length := by
  cases r with
  | nil => cases h
  | cons x r =>
    simp only [pCh] at h
    split at h
    · cases h; rfl
    · cases h
theorem pCh_eq {c : Nat} {r r' : List Nat} (h : pCh c r = some r') : r = c :: r' := by
  cases r with
  | nil => cases h
  | cons x r =>
    simp only [pCh] at h
    split at h
    · rename_i e; cases h; rw [e]
    · cases h
theorem pDigs_len : ∀ (n v : Nat) (r : List Nat), (pDigs n v r).2.length ≤ r.length
  | 0, v, r => Nat.le_refl _
  | n + 1, v, r => by
    simp only [pDigs]
    split
    · exact Nat.le_refl _
    · rename_i x r1 h
      have l1 := pDig_len h
      have l2 := pDigs_len n (10 * v + x) r1
      omega
theorem pUnit_len (r : List Nat) : (pUnit r).2.length ≤ r.length := by
  unfold pUnit
  split
  · rename_i h; have := pCh_len h; dsimp only; omega
  · split
    · rename_i h; have := pCh_len h; dsimp only; omega
    · split
      · rename_i h; have := pCh_len h; dsimp only; omega
      · exact Nat.le_refl _
theorem pNum_len {r r' : List Nat} {s : List PStep} (h : pNum r = some (s, r')) : s.length + r'.length ≤ r.length := by
  unfold pNum at h
  split at h
  · cases h
  · rename_i x r1 h1
    have l1 := pDig_len h1
    have l2 := pDigs_len 2 x r1
    split at h
    rename_i v r2 h2
    rw [h2] at l2
    split at h
    · have l3 := pUnit_len r2
      split at h
      rename_i u r3 h3
      rw [h3] at l3
      cases h
      simp at *; omega
    · rename_i r3 h3
      have l3 := pCh_len h3
      split at h
      · cases h
      · rename_i y r4 h4
        have l4 := pDig_len h4
        have l5 := pUnit_len r4
        split at h
        rename_i u r5 h5
        rw [h5] at l5
        cases h
        simp at *; omega
theorem pNamed_len {r r' : List Nat} {x : Nat} (h : pNamed r = some (x, r')) : r'.length + 1 = r.length ∧ x < 4 := by
  cases r with
  | nil => cases h
  | cons c r =>
    simp only [pNamed] at h
    split at h
    · cases h; exact ⟨rfl, by omega⟩
    · cases h
/-- a reader that keeps no more than it reads -/
def pThin (f : List Nat → Option (List PStep × List Nat)) : Prop := ∀ r s r', f r = some (s, r') → s.length + r'.length ≤ r.length
theorem pProdL_len {f : List Nat → Option (List PStep × List Nat)} (hf : pThin f) : ∀ (n : Nat) (acc : List PStep) (r : List Nat) (s : List PStep) (r' : List Nat), pProdL f n acc r = some (s, r') → s.length + r'.length ≤ acc.length + r.length
  | 0, acc, r, s, r', h => by cases h; exact Nat.le_refl _
  | n + 1, acc, r, s, r', h => by
    simp only [pProdL] at h
    split at h
    · rename_i r1 h1
      have l1 := pCh_len h1
      split at h
      · cases h
      · rename_i s2 r2 h2
        have l2 := hf _ _ _ h2
        have l3 := pProdL_len hf n _ _ _ _ h
        simp at l3; omega
    · split at h
      · rename_i r1 h1
        have l1 := pCh_len h1
        split at h
        · cases h
        · rename_i s2 r2 h2
          have l2 := hf _ _ _ h2
          have l3 := pProdL_len hf n _ _ _ _ h
          simp at l3; omega
      · cases h; exact Nat.le_refl _
theorem pProd_thin {f : List Nat → Option (List PStep × List Nat)} (hf : pThin f) : pThin (pProd f) := by
  intro r s r' h
  unfold pProd at h
  split at h
  · cases h
  · rename_i s1 r1 h1
    have l1 := hf _ _ _ h1
    have l2 := pProdL_len hf _ _ _ _ _ h
    omega
theorem pSumL_len {f : List Nat → Option (List PStep × List Nat)} (hf : pThin f) : ∀ (n : Nat) (acc : List PStep) (r : List Nat) (s : List PStep) (r' : List Nat), pSumL f n acc r = some (s, r') → s.length + r'.length ≤ acc.length + r.length
  | 0, acc, r, s, r', h => by cases h; exact Nat.le_refl _
  | n + 1, acc, r, s, r', h => by
    simp only [pSumL] at h
    split at h
    · rename_i r1 h1
      have l1 := pCh_len h1
      split at h
      · cases h
      · rename_i s2 r2 h2
        have l2 := pProd_thin hf _ _ _ h2
        have l3 := pSumL_len hf n _ _ _ _ h
        simp at l3; omega
    · split at h
      · rename_i r1 h1
        have l1 := pCh_len h1
        split at h
        · cases h
        · rename_i s2 r2 h2
          have l2 := pProd_thin hf _ _ _ h2
          have l3 := pSumL_len hf n _ _ _ _ h
          simp at l3; omega
      · cases h; exact Nat.le_refl _
theorem pSum_thin {f : List Nat → Option (List PStep × List Nat)} (hf : pThin f) : pThin (pSum f) := by
  intro r s r' h
  unfold pSum at h
  split at h
  · cases h
  · rename_i s1 r1 h1
    have l1 := pProd_thin hf _ _ _ h1
    have l2 := pSumL_len hf _ _ _ _ _ h
    omega
theorem pFac_thin : ∀ k, pThin (pFac k)
  | 0 => fun r s r' h => by cases h
  | k + 1 => fun r s r' h => by
    simp only [pFac] at h
    split at h
    · rename_i r1 h1
      have l1 := pCh_len h1
      split at h
      · cases h
      · rename_i s2 r2 h2
        have l2 := pFac_thin k _ _ _ h2
        cases h
        simp; omega
    · split at h
      · rename_i r1 h1
        have l1 := pCh_len h1
        split at h
        · cases h
        · rename_i s2 r2 h2
          have l2 := pSum_thin (pFac_thin k) _ _ _ h2
          split at h
          · cases h
          · rename_i r3 h3
            have l3 := pCh_len h3
            cases h
            omega
      · split at h
        · rename_i r1 h1
          have l1 := pCh_len h1
          split at h
          · cases h
          · rename_i n r2 h2
            have l2 := pNamed_len h2
            cases h
            simp; omega
        · exact pNum_len h
