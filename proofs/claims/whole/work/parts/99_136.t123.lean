/-! ===== the model: readDeclaration, what is kept ===== -/
/-- what a declaration, the D th, may change -/
def dKw (a b : ZM) (D N : Nat) : Prop := (∀ j, j ≠ 14 → j ≠ 15 → j ≠ 27 → j ≠ 32 → mi b j = mi a j) ∧ (∀ j i, ¬ (17 ≤ j ∧ j ≤ 19 ∧ i = D) → ¬ (j = 20 ∧ D ≤ i) → ¬ (j = 21 ∧ N ≤ i) → j ≠ 23 → ma b j i = ma a j i) ∧ ∀ j i, ¬ (j = 22 ∧ N ≤ i) → mg b j i = mg a j i
theorem dKw.tr {a b c : ZM} {D N : Nat} (h : dKw a b D N) (g : dKw b c D N) : dKw a c D N := ⟨fun j p q r s => (g.1 j p q r s).trans (h.1 j p q r s), fun j i p q r s => (g.2.1 j i p q r s).trans (h.2.1 j i p q r s), fun j i p => (g.2.2 j i p).trans (h.2.2 j i p)⟩
theorem mvC.dk {a b : ZM} {D N : Nat} (h : mvC a b) : dKw a b D N := ⟨fun j p q _ _ => h.1 j p q, fun j i _ _ _ _ => by rw [h.2.1], fun j i _ => by rw [h.2.2]⟩
theorem smG.dk {a b : ZM} {D N : Nat} {out : List PStep} (h : smG a b N out) : dKw a b D N := ⟨fun j p q _ s => h.1 j p q s, fun j i _ _ r s => h.2.2.1 j i r s, h.2.2.2.1⟩
theorem dKw.sa {a : ZM} {D N j i : Nat} {v : Int32} (h : (17 ≤ j ∧ j ≤ 19 ∧ i = D) ∨ (j = 20 ∧ D ≤ i)) : dKw a (msa a j i v) D N := ⟨fun _ _ _ _ _ => rfl, fun j' i' p q _ _ => by
  rw [ma_msa, if_neg (fun e => ?_)]
  obtain ⟨rfl, rfl⟩ := e
  exact h.elim p q, fun _ _ _ => rfl⟩
theorem dKw.si {a : ZM} {D N : Nat} {v : Int32} : dKw a (msi a 27 v) D N := ⟨fun j _ _ p _ => by rw [mi_msi, if_neg p], fun _ _ _ _ _ _ => rfl, fun _ _ _ => rfl⟩
/-- a declaration but for its rule's origin: name, kind, important, steps -/
abbrev PDm : Type := Nat × Nat × Bool × List PStep
def mkD (og : Nat) (x : PDm) : PDecl := (x.1, x.2.1, if x.2.2.1 = true then 5 - og else og, x.2.2.2)
def kdM (v : Nat) : Nat := if v = 0 then 1 else if v = 1 then 2 else 0
def flD : List PDm → List PStep
  | [] => []
  | x :: l => x.2.2.2 ++ flD l
theorem flD_app : ∀ (a b : List PDm), flD (a ++ b) = flD a ++ flD b
  | [], b => rfl
  | c :: a, b => by
    show c.2.2.2 ++ flD (a ++ b) = c.2.2.2 ++ flD a ++ flD b
    rw [flD_app a b, List.append_assoc]
/-- the table of declarations -/
def dtG (sg : ZM) (ds : List PDm) : Prop := (mi sg 27 = nI ds.length ∧ mi sg 32 = nI (flD ds).length) ∧ (∀ i x, ds[i]? = some x → ma sg 17 i = nI x.1 ∧ ma sg 18 i = nI (kdM x.2.1) ∧ ma sg 19 i = zb x.2.2.1) ∧ (ds ≠ [] → ∀ i, i ≤ ds.length → ma sg 20 i = nI (flD (ds.take i)).length) ∧ ∀ q s, (flD ds)[q]? = some s → ma sg 21 q = nI (cvC s.1) ∧ mg sg 22 q = s.2
theorem dtG.add {a b : ZM} {ds : List PDm} {x : PDm} (h : dtG a ds) (g : dKw a b ds.length (flD ds).length) (g1 : mi b 27 = nI (ds.length + 1)) (g2 : mi b 32 = nI ((flD ds).length + x.2.2.2.length)) (g3 : ma b 17 ds.length = nI x.1 ∧ ma b 18 ds.length = nI (kdM x.2.1) ∧ ma b 19 ds.length = zb x.2.2.1) (g4 : ma b 20 ds.length = nI (flD ds).length ∧ ma b 20 (ds.length + 1) = nI ((flD ds).length + x.2.2.2.length)) (g5 : ∀ i q, (x.2.2.2.map cvS)[i]? = some q → ma b 21 ((flD ds).length + i) = nI q.1 ∧ mg b 22 ((flD ds).length + i) = q.2) : dtG b (ds ++ [x]) := by
  obtain ⟨⟨h1, h2⟩, h3, h4, h5⟩ := h
  obtain ⟨k1, k2, k3⟩ := g
  have ef : flD (ds ++ [x]) = flD ds ++ x.2.2.2 := by rw [flD_app]; show flD ds ++ (x.2.2.2 ++ []) = _; rw [List.append_nil]
  have el : (ds ++ [x]).length = ds.length + 1 := by rw [List.length_append]; rfl
  unfold dtG
  rw [ef, el, List.length_append]
  refine ⟨⟨g1, g2⟩, fun i y hy => ?_, fun _ i hi => ?_, fun q s hs => ?_⟩
  · rcases Nat.lt_or_ge i ds.length with c9 | c9
    · rw [List.getElem?_append_left c9] at hy
      rw [k2 17 i (by omega) (by omega) (by omega) (by omega), k2 18 i (by omega) (by omega) (by omega) (by omega), k2 19 i (by omega) (by omega) (by omega) (by omega)]
      exact h3 i y hy
    · rw [List.getElem?_append_right c9] at hy
      have hi : i = ds.length := by
        have := (List.getElem?_eq_some_iff.mp hy).1
        simp at this
        omega
      subst hi
      rw [Nat.sub_self] at hy
      cases hy
      exact g3
  · rcases Nat.lt_or_ge i ds.length with c9 | c9
    · rw [List.take_append_of_le_length (Nat.le_of_lt c9), k2 20 i (by omega) (by omega) (by omega) (by omega)]
      exact h4 (fun q => by rw [q] at c9; exact absurd c9 (Nat.not_lt_zero i)) i (Nat.le_of_lt c9)
    · rcases (by omega : i = ds.length ∨ i = ds.length + 1) with rfl | rfl
      · rw [g4.1, List.take_append_of_le_length (Nat.le_refl _), List.take_length]
      · rw [g4.2, List.take_of_length_le (by rw [el]; exact Nat.le_refl _), ef, List.length_append]
  · rcases Nat.lt_or_ge q (flD ds).length with c9 | c9
    · rw [List.getElem?_append_left c9] at hs
      rw [k2 21 q (by omega) (by omega) (by omega) (by omega), k3 22 q (by omega)]
      exact h5 q s hs
    · rw [List.getElem?_append_right c9] at hs
      have := g5 (q - (flD ds).length) (cvS s) (by rw [List.getElem?_map, hs]; rfl)
      rw [show (flD ds).length + (q - (flD ds).length) = q by omega] at this
      exact this
/-- none, or stuck before a digit -/
def stD (o : Option (PDecl × List Nat)) : Prop := o = none ∨ ∃ D r', o = some (D, r') ∧ (pDig r').isSome = true
/-! the name -/
def nameP (r : List Nat) (X : Int32) (o : Option (List Nat)) : Prop := (bndO o fun r => if decide (X ≠ -1) = true then some r else none) = rsP (pName r) ∧ ∀ n r', pName r = some (n, r') → X = nI n ∧ n < 10
theorem nm_dollar {r r1 : List Nat} {x : Nat} (h : pCh 36 r = some r1) (hx1 : 97 ≤ x) (hx2 : x ≤ 100) (hx : x = letV 100 r1) : nameP r (nI (6 + x - 97)) (rstO (pLet 100 r1)) := by
  have e := pCh_eq h
  subst e
  have en : pName (36 :: r1) = (match pNamed r1 with
    | none => none
    | some (x, r2) => some (6 + x, r2)) := rfl
  have e9 : decide (nI (6 + x - 97) ≠ -1) = true := decide_eq_true (nI_neg (by omega))
  unfold nameP
  rw [en, pNamed_eq, e9]
  unfold letV at hx
  cases hL : pLet 100 r1 with
  | none => exact ⟨rfl, fun n r' q => by cases q⟩
  | some q =>
    obtain ⟨y, r2⟩ := q
    rw [hL] at hx
    have hxy : x = y := hx
    subst hxy
    refine ⟨rfl, fun n r' q => ?_⟩
    cases q
    exact ⟨by congr 1; omega, by omega⟩
theorem nm_let {r : List Nat} {x : Nat} (h : pCh 36 r = none) (hx : x = letV 122 r) : nameP r (prpI x) (rstO (pLet 122 r)) := by
  unfold letV at hx
  cases r with
  | nil => exact ⟨rfl, fun n r' q => by cases q⟩
  | cons c r1 =>
    have h36 : c ≠ 36 := fun e => by subst e; rw [ch_eq] at h; cases h
    have en : pName (c :: r1) = (if c = 99 then some (0, r1) else if c = 102 then some (1, r1) else if c = 119 then some (2, r1) else if c = 104 then some (3, r1) else if c = 109 then some (4, r1) else if c = 122 then some (5, r1) else none) := by
      show (if c = 99 then some (0, r1) else if c = 102 then some (1, r1) else if c = 119 then some (2, r1) else if c = 104 then some (3, r1) else if c = 109 then some (4, r1) else if c = 122 then some (5, r1) else if c = 36 then _ else none) = _
      rw [if_neg h36]
    by_cases hL : 97 ≤ c ∧ c ≤ 122
    · have eL : pLet 122 (c :: r1) = some (c, r1) := if_pos hL
      rw [eL] at hx
      have hxc : x = c := hx
      subst hxc
      unfold nameP
      rw [en, eL]
      unfold prpI
      by_cases c1 : x = 99
      · rw [if_pos c1, if_pos c1]; exact ⟨rfl, fun n r' q => by cases q; exact ⟨rfl, by decide⟩⟩
      rw [if_neg c1, if_neg c1]
      by_cases c2 : x = 102
      · rw [if_pos c2, if_pos c2]; exact ⟨rfl, fun n r' q => by cases q; exact ⟨rfl, by decide⟩⟩
      rw [if_neg c2, if_neg c2]
      by_cases c3 : x = 119
      · rw [if_pos c3, if_pos c3]; exact ⟨rfl, fun n r' q => by cases q; exact ⟨rfl, by decide⟩⟩
      rw [if_neg c3, if_neg c3]
      by_cases c4 : x = 104
      · rw [if_pos c4, if_pos c4]; exact ⟨rfl, fun n r' q => by cases q; exact ⟨rfl, by decide⟩⟩
      rw [if_neg c4, if_neg c4]
      by_cases c5 : x = 109
      · rw [if_pos c5, if_pos c5]; exact ⟨rfl, fun n r' q => by cases q; exact ⟨rfl, by decide⟩⟩
      rw [if_neg c5, if_neg c5]
      by_cases c6 : x = 122
      · rw [if_pos c6, if_pos c6]; exact ⟨rfl, fun n r' q => by cases q; exact ⟨rfl, by decide⟩⟩
      rw [if_neg c6, if_neg c6]
      exact ⟨rfl, fun n r' q => by cases q⟩
    · have eL : pLet 122 (c :: r1) = none := if_neg hL
      unfold nameP
      rw [en, eL, if_neg (by omega), if_neg (by omega), if_neg (by omega), if_neg (by omega), if_neg (by omega), if_neg (by omega)]
      exact ⟨rfl, fun n r' q => by cases q⟩
