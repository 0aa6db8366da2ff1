/-! ===== the model: the table of selectors ===== -/
/-- what reading leaves alone -/
def mKp (sg sg' : ZM) : Prop := (∀ j, ¬ (12 ≤ j ∧ j ≤ 26) → mi sg' j = mi sg j) ∧ (∀ j i, ¬ (10 ≤ j ∧ j ≤ 16) → ma sg' j i = ma sg j i) ∧ ∀ j i, j ≠ 22 → mg sg' j i = mg sg j i
theorem mKp.rf {sg : ZM} : mKp sg sg := ⟨fun _ _ => rfl, fun _ _ _ => rfl, fun _ _ _ => rfl⟩
theorem mKp.tr {a b c : ZM} (h : mKp a b) (g : mKp b c) : mKp a c := ⟨fun j q => (g.1 j q).trans (h.1 j q), fun j i q => (g.2.1 j i q).trans (h.2.1 j i q), fun j i q => (g.2.2 j i q).trans (h.2.2 j i q)⟩
theorem mvC.kp {a b : ZM} (h : mvC a b) : mKp a b := ⟨fun j q => h.1 j (fun e => q (by omega)) (fun e => q (by omega)), fun j i _ => by rw [h.2.1], fun j i _ => by rw [h.2.2]⟩
theorem ctG.kp {a b : ZM} {n C : Nat} {cs : List PCr} (h : ctG a b n C cs) : mKp a b := by
  obtain ⟨h1, -, -, -, h5, -, h7⟩ := h
  exact ⟨fun j q => h1 j (fun e => q (by omega)) (fun e => q (by omega)) (fun e => q (by omega)) (fun e => q (by omega)) (fun e => q (by omega)), fun j i q => h5 j i (fun e => q (by omega)) (fun e => q (by omega)) (fun e => q (by omega)), fun j i _ => by rw [h7]⟩
theorem kp_si {a : ZM} {k : Nat} {v : Int32} (hk : 12 ≤ k ∧ k ≤ 26) : mKp a (msi a k v) := ⟨fun j q => by rw [mi_msi, if_neg (fun e => q (by omega))], fun j i _ => rfl, fun j i _ => rfl⟩
theorem kp_sa {a : ZM} {j i : Nat} {v : Int32} (hj : 10 ≤ j ∧ j ≤ 16) : mKp a (msa a j i v) := ⟨fun j q => rfl, fun j' i' q => by rw [ma_msa, if_neg (fun e => q (by omega))], fun j i _ => rfl⟩
def flS : List (List PCr) → List PCr
  | [] => []
  | s :: ss => s ++ flS ss
theorem flS_app : ∀ (a b : List (List PCr)), flS (a ++ b) = flS a ++ flS b
  | [], b => rfl
  | c :: a, b => by
    show c ++ flS (a ++ b) = c ++ flS a ++ flS b
    rw [flS_app a b, List.append_assoc]
/-- the tables hold these selectors, behind the first S, C, n -/
def ssG (sg : ZM) (n C S : Nat) (ss : List (List PCr)) : Prop := (mi sg 16 = nI (S + ss.length) ∧ mi sg 18 = nI (C + (flS ss).length) ∧ mi sg 21 = nI (n + (rwsO (flS ss)).length)) ∧ (∀ i cs, ss[i]? = some cs → ma sg 10 (S + i) = nI cs.length) ∧ (∀ i x, (flS ss)[i]? = some x → ma sg 11 (C + i) = nI x.1) ∧ (flS ss ≠ [] → ∀ i, i ≤ (flS ss).length → ma sg 12 (C + i) = nI (n + (rwsO ((flS ss).take i)).length)) ∧ (∀ i q, (rwsO (flS ss))[i]? = some q → ma sg 13 (n + i) = nI q.1 ∧ ma sg 14 (n + i) = nI q.2.1 ∧ ma sg 15 (n + i) = q.2.2.1 ∧ ma sg 16 (n + i) = q.2.2.2)
theorem ssG.mv {a b : ZM} {n C S : Nat} {ss : List (List PCr)} (h : ssG a n C S ss) (v : mvC a b) : ssG b n C S ss := by
  obtain ⟨⟨h1, h2, h3⟩, h4, h5, h6, h7⟩ := h
  refine ⟨⟨(v.1 16 (by decide) (by decide)).trans h1, (v.1 18 (by decide) (by decide)).trans h2, (v.1 21 (by decide) (by decide)).trans h3⟩, ?_, ?_, ?_, ?_⟩
  · rw [v.2.1]; exact h4
  · rw [v.2.1]; exact h5
  · rw [v.2.1]; exact h6
  · rw [v.2.1]; exact h7
/-- one selector more -/
theorem ssG.add {a b : ZM} {n C S : Nat} {ss : List (List PCr)} {cs : List PCr} (h : ssG a n C S ss) (g : ctG a b (n + (rwsO (flS ss)).length) (C + (flS ss).length) cs) (hne : cs ≠ []) : ssG (msi (msa b 10 (S + ss.length) (nI cs.length)) 16 (nI (S + ss.length + 1))) n C S (ss ++ [cs]) := by
  obtain ⟨⟨h1, h2, h3⟩, h4, h5, h6, h7⟩ := h
  obtain ⟨g1, ⟨g2, g3⟩, g4, g5, g6, g7, g8⟩ := g
  have ef : flS (ss ++ [cs]) = flS ss ++ cs := by rw [flS_app]; show flS ss ++ (cs ++ []) = _; rw [List.append_nil]
  have el : (flS ss ++ cs).length = (flS ss).length + cs.length := List.length_append
  have er : (rwsO (flS ss ++ cs)).length = (rwsO (flS ss)).length + (rwsO cs).length := by rw [rwsO_app, List.length_append]
  have m9 : ∀ j i, j ≠ 10 → ma (msi (msa b 10 (S + ss.length) (nI cs.length)) 16 (nI (S + ss.length + 1))) j i = ma b j i := fun j i q => by
    show ma (msa b 10 (S + ss.length) (nI cs.length)) j i = _
    rw [ma_msa, if_neg (fun e => q e.1)]
  unfold ssG
  rw [ef]
  refine ⟨⟨?_, ?_, ?_⟩, fun i x hx => ?_, fun i x hx => ?_, fun _ i hi => ?_, fun i q hq => ?_⟩
  · rw [mi_msi, if_pos rfl, List.length_append]
    rfl
  · rw [mi_msi, if_neg (by decide), el, ← Nat.add_assoc]
    exact g2
  · rw [mi_msi, if_neg (by decide), er, ← Nat.add_assoc]
    exact g3
  · show ma (msa b 10 (S + ss.length) (nI cs.length)) 10 (S + i) = _
    rcases Nat.lt_or_ge i ss.length with c9 | c9
    · rw [List.getElem?_append_left c9] at hx
      rw [ma_msa, if_neg (by omega), g6 10 (S + i) (by omega) (by omega) (by omega)]
      exact h4 i x hx
    · rw [List.getElem?_append_right c9] at hx
      have hi : i = ss.length := by
        have := (List.getElem?_eq_some_iff.mp hx).1
        simp at this
        omega
      subst hi
      rw [Nat.sub_self] at hx
      cases hx
      rw [ma_msa, if_pos ⟨rfl, rfl⟩]
  · rw [m9 _ _ (by decide)]
    rcases Nat.lt_or_ge i (flS ss).length with c9 | c9
    · rw [List.getElem?_append_left c9] at hx
      rw [g6 11 (C + i) (by omega) (by omega) (by omega)]
      exact h5 i x hx
    · rw [List.getElem?_append_right c9] at hx
      have := g4 (i - (flS ss).length) x hx
      rw [show C + (flS ss).length + (i - (flS ss).length) = C + i by omega] at this
      exact this
  · rw [m9 _ _ (by decide)]
    rw [el] at hi
    rcases Nat.lt_or_ge i (flS ss).length with c9 | c9
    · rw [List.take_append_of_le_length (Nat.le_of_lt c9), g6 12 (C + i) (by omega) (by omega) (by omega)]
      exact h6 (fun q => by rw [q] at c9; exact absurd c9 (Nat.not_lt_zero i)) i (Nat.le_of_lt c9)
    · have := g5 hne (i - (flS ss).length) (by omega)
      rw [show C + (flS ss).length + (i - (flS ss).length) = C + i by omega] at this
      rw [this, List.take_append, rwsO_app, List.length_append, List.take_of_length_le c9, Nat.add_assoc]
  · rw [m9 _ _ (by decide), m9 _ _ (by decide), m9 _ _ (by decide), m9 _ _ (by decide)]
    rw [rwsO_app] at hq
    rcases Nat.lt_or_ge i (rwsO (flS ss)).length with c9 | c9
    · rw [List.getElem?_append_left c9] at hq
      obtain ⟨e1, e2, e3, e4⟩ := h7 i q hq
      have k : ∀ j, 13 ≤ j → j ≤ 16 → ma b j (n + i) = ma a j (n + i) := fun j k1 k2 => g6 j (n + i) (fun z => by omega) (fun z => by omega) (fun z => by omega)
      exact ⟨(k _ (by decide) (by decide)).trans e1, (k _ (by decide) (by decide)).trans e2, (k _ (by decide) (by decide)).trans e3, (k _ (by decide) (by decide)).trans e4⟩
    · rw [List.getElem?_append_right c9] at hq
      have := g7 (i - (rwsO (flS ss)).length) q hq
      rw [show n + (rwsO (flS ss)).length + (i - (rwsO (flS ss)).length) = n + i by omega] at this
      exact this
