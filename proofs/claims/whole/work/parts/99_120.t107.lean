/-! ===== the model: tables of compounds ===== -/
abbrev PCr : Type := Nat × List PRow
def rwsO : List PCr → List PRow
  | [] => []
  | c :: cs => c.2 ++ rwsO cs
theorem rwsO_app : ∀ (a b : List PCr), rwsO (a ++ b) = rwsO a ++ rwsO b
  | [], b => rfl
  | c :: a, b => by
    show c.2 ++ rwsO (a ++ b) = c.2 ++ rwsO a ++ rwsO b
    rw [rwsO_app a b, List.append_assoc]
/-- the compounds cs stand behind the first C, their parts behind the first n -/
def ctG (sg sg' : ZM) (n C : Nat) (cs : List PCr) : Prop := (∀ j, j ≠ 14 → j ≠ 15 → j ≠ 18 → j ≠ 21 → j ≠ 26 → mi sg' j = mi sg j) ∧ (mi sg' 18 = nI (C + cs.length) ∧ mi sg' 21 = nI (n + (rwsO cs).length)) ∧ (∀ i x, cs[i]? = some x → ma sg' 11 (C + i) = nI x.1) ∧ (cs ≠ [] → ∀ i, i ≤ cs.length → ma sg' 12 (C + i) = nI (n + (rwsO (cs.take i)).length)) ∧ (∀ j i, ¬ (13 ≤ j ∧ j ≤ 16 ∧ n ≤ i) → ¬ (j = 11 ∧ C ≤ i) → ¬ (j = 12 ∧ C ≤ i ∧ cs ≠ []) → ma sg' j i = ma sg j i) ∧ (∀ i q, (rwsO cs)[i]? = some q → ma sg' 13 (n + i) = nI q.1 ∧ ma sg' 14 (n + i) = nI q.2.1 ∧ ma sg' 15 (n + i) = q.2.2.1 ∧ ma sg' 16 (n + i) = q.2.2.2) ∧ mg sg' = mg sg
theorem mvC.ct {sg sg' : ZM} {n C : Nat} (h : mvC sg sg') (h21 : mi sg 21 = nI n) (h18 : mi sg 18 = nI C) : ctG sg sg' n C [] := ⟨fun j a b _ _ _ => h.1 j a b, ⟨(h.1 18 (by decide) (by decide)).trans h18, (h.1 21 (by decide) (by decide)).trans h21⟩, fun i x hx => (by cases hx), fun q => absurd rfl q, fun j i _ _ _ => by rw [h.2.1], fun i q hq => (by cases hq), h.2.2⟩
theorem kcG.ct {sg sg' : ZM} {n C c : Nat} {l : List PRow} (h : kcG sg sg' n l C c) : ctG sg sg' n C [(c, l)] := by
  obtain ⟨h1, ⟨h2, h3⟩, ⟨h4, h5, h6⟩, h7, h8, h9⟩ := h
  have e : rwsO [(c, l)] = l := List.append_nil l
  refine ⟨h1, ⟨h2, by rw [e]; exact h3⟩, fun i x hx => ?_, fun _ i hi => ?_, fun j i q1 q2 q3 => h7 j i q1 (fun z => q2 ⟨z.1, by omega⟩) (fun z => q3 ⟨z.1, z.2, fun q => (by cases q)⟩), fun i q hq => by rw [e] at hq; exact h8 i q hq, h9⟩
  · cases i with
    | zero => cases hx; exact h4
    | succ i => simp at hx
  · have hi2 : i = 0 ∨ i = 1 := by have : i ≤ 1 := hi; omega
    rcases hi2 with rfl | rfl
    · exact h5
    · show ma sg' 12 (C + 1) = nI (n + (rwsO [(c, l)]).length)
      rw [e]
      exact h6
theorem ctG.tr {a b c : ZM} {n C : Nat} {xs ys : List PCr} (h : ctG a b n C xs) (g : ctG b c (n + (rwsO xs).length) (C + xs.length) ys) : ctG a c n C (xs ++ ys) := by
  obtain ⟨h1, ⟨h2, h3⟩, h4, h5, h6, h7, h8⟩ := h
  obtain ⟨g1, ⟨g2, g3⟩, g4, g5, g6, g7, g8⟩ := g
  have el : (rwsO (xs ++ ys)).length = (rwsO xs).length + (rwsO ys).length := by rw [rwsO_app, List.length_append]
  have ec : (xs ++ ys).length = xs.length + ys.length := List.length_append
  refine ⟨fun j q1 q2 q3 q4 q5 => (g1 j q1 q2 q3 q4 q5).trans (h1 j q1 q2 q3 q4 q5), ⟨by rw [ec, ← Nat.add_assoc]; exact g2, by rw [el, ← Nat.add_assoc]; exact g3⟩, fun i x hx => ?_, fun hne i hi => ?_, fun j i q1 q2 q3 => (g6 j i (fun z => q1 ⟨z.1, z.2.1, by omega⟩) (fun z => q2 ⟨z.1, by omega⟩) (fun z => q3 ⟨z.1, by omega, fun q => z.2.2 (List.append_eq_nil_iff.mp q).2⟩)).trans (h6 j i q1 q2 (fun z => q3 ⟨z.1, z.2.1, fun q => z.2.2 (List.append_eq_nil_iff.mp q).1⟩)), fun i q hq => ?_, g8.trans h8⟩
  · rcases Nat.lt_or_ge i xs.length with c9 | c9
    · rw [List.getElem?_append_left c9] at hx
      rw [g6 11 (C + i) (by omega) (by omega) (by omega)]
      exact h4 i x hx
    · rw [List.getElem?_append_right c9] at hx
      have := g4 (i - xs.length) x hx
      rw [show C + xs.length + (i - xs.length) = C + i by omega] at this
      exact this
  · rw [ec] at hi
    rcases Nat.lt_or_ge i xs.length with c9 | c9
    · rw [List.take_append_of_le_length (Nat.le_of_lt c9), g6 12 (C + i) (by omega) (by omega) (by omega)]
      exact h5 (fun q => by rw [q] at c9; exact absurd c9 (Nat.not_lt_zero i)) i (Nat.le_of_lt c9)
    · by_cases hy : ys = []
      · subst hy
        have hi2 : i = xs.length := by
          have h0 : ([] : List PCr).length = 0 := rfl
          omega
        subst hi2
        rw [List.append_nil, List.take_length, g6 12 (C + xs.length) (by omega) (by omega) (fun z => z.2.2 rfl)]
        rw [List.append_nil] at hne
        have := h5 hne xs.length (Nat.le_refl _)
        rw [List.take_length] at this
        exact this
      · have := g5 hy (i - xs.length) (by omega)
        rw [show C + xs.length + (i - xs.length) = C + i by omega] at this
        rw [this, List.take_append, rwsO_app, List.length_append, List.take_of_length_le c9, Nat.add_assoc]
  · rw [rwsO_app] at hq
    rcases Nat.lt_or_ge i (rwsO xs).length with c9 | c9
    · rw [List.getElem?_append_left c9] at hq
      obtain ⟨e1, e2, e3, e4⟩ := h7 i q hq
      have k : ∀ j, 13 ≤ j → j ≤ 16 → ma c j (n + i) = ma b j (n + i) := fun j k1 k2 => g6 j (n + i) (fun z => by omega) (fun z => by omega) (fun z => by omega)
      exact ⟨(k _ (by decide) (by decide)).trans e1, (k _ (by decide) (by decide)).trans e2, (k _ (by decide) (by decide)).trans e3, (k _ (by decide) (by decide)).trans e4⟩
    · rw [List.getElem?_append_right c9] at hq
      have := g7 (i - (rwsO xs).length) q hq
      rw [show n + (rwsO xs).length + (i - (rwsO xs).length) = n + i by omega] at this
      exact this
