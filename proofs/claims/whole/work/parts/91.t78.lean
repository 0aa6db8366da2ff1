/-! ===== a tree grows ===== -/
theorem tE_app {T : List PEl} {v : PEl} {e : Nat} (h : e < T.length) : tE (T ++ [v]) e = tE T e := by
  unfold tE
  rw [List.getD_eq_getElem?_getD, List.getD_eq_getElem?_getD, List.getElem?_append_left h]
theorem tE_new {T : List PEl} {v : PEl} : tE (T ++ [v]) T.length = v := by
  unfold tE
  rw [List.getD_eq_getElem?_getD, List.getElem?_append_right (Nat.le_refl _), Nat.sub_self]
  rfl
theorem tP_app {T : List PEl} {v : PEl} {e : Nat} (h : e < T.length) : tP (T ++ [v]) e = tP T e := by unfold tP; rw [tE_app h]
theorem tP_new {T : List PEl} {v : PEl} : tP (T ++ [v]) T.length = v.1 := by unfold tP; rw [tE_new]
theorem tP_out {T : List PEl} {e : Nat} (h : T.length ≤ e) : tP T e = none := by
  cases hq : tP T e with
  | none => rfl
  | some p => exact absurd (tP_lt hq) (by omega)
theorem isKid_app {T : List PEl} {v : PEl} {p b : Nat} (h : b < T.length) : isKid (T ++ [v]) p b = isKid T p b := by unfold isKid; rw [tP_app h]
theorem bset_out {f : Nat → Bool} : ∀ n, (∀ i, i < n → f i = false) → bset f n = 0
  | 0, _ => rfl
  | n + 1, h => by
    unfold bset
    rw [h n (Nat.lt_succ_self n), if_neg (by decide)]
    exact bset_out n (fun i hi => h i (by omega))
theorem blast_out {f : Nat → Bool} : ∀ n, (∀ i, i < n → f i = false) → blast f n = 0
  | 0, _ => rfl
  | n + 1, h => by
    unfold blast
    rw [h n (Nat.lt_succ_self n), if_neg (by decide)]
    exact blast_out n (fun i hi => h i (by omega))
theorem blast_congr {f g : Nat → Bool} : ∀ {n : Nat}, (∀ i, i < n → f i = g i) → blast f n = blast g n
  | 0, _ => rfl
  | n + 1, h => by
    unfold blast
    rw [h n (Nat.lt_succ_self n), blast_congr (fun i hi => h i (by omega))]
theorem abvF_app {T : List PEl} (hw : wfT T) {v : PEl} : ∀ (f e : Nat), e < T.length → abvF (T ++ [v]) f e = abvF T f e
  | 0, e, _ => rfl
  | f + 1, e, h => by
    unfold abvF
    rw [tP_app h]
    cases hq : tP T e with
    | none => rfl
    | some p =>
      have := hw.2.1 e p hq
      simp only []
      rw [abvF_app hw f p (by omega)]
theorem abvF_stab {T : List PEl} (hw : wfT T) : ∀ (f g e : Nat), e ≤ f → e ≤ g → abvF T f e = abvF T g e
  | 0, g, e, hf, hg => by
    have : e = 0 := by omega
    subst this
    cases g with
    | zero => rfl
    | succ g =>
      unfold abvF
      cases hq : tP T 0 with
      | none => rfl
      | some p => exact absurd (hw.2.1 0 p hq) (by omega)
  | f + 1, 0, e, hf, hg => by
    have : e = 0 := by omega
    subst this
    unfold abvF
    cases hq : tP T 0 with
    | none => rfl
    | some p => exact absurd (hw.2.1 0 p hq) (by omega)
  | f + 1, g + 1, e, hf, hg => by
    unfold abvF
    cases hq : tP T e with
    | none => rfl
    | some p =>
      have := hw.2.1 e p hq
      simp only []
      rw [abvF_stab hw f g p (by omega) (by omega)]
theorem wfT_app {T : List PEl} (hw : wfT T) {v : PEl} (hl : T.length < 24) (hp : ∀ p, v.1 = some p → p < T.length) (h1 : v.2.1 < 128) (h2 : v.2.2.1 < 128) (h3 : v.2.2.2 < 256) : wfT (T ++ [v]) := by
  refine ⟨by rw [List.length_append]; exact hl, fun e p he => ?_, fun e => ?_⟩
  · rcases Nat.lt_trichotomy e T.length with q | q | q
    · rw [tP_app q] at he
      exact hw.2.1 e p he
    · subst q
      rw [tP_new] at he
      exact hp p he
    · rw [tP_out (by rw [List.length_append]; exact q)] at he
      cases he
  · rcases Nat.lt_trichotomy e T.length with q | q | q
    · unfold tG tI tC
      rw [tE_app q]
      exact hw.2.2 e
    · subst q
      unfold tG tI tC
      rw [tE_new]
      exact ⟨h1, h2, h3⟩
    · have := hw.2.2 (e - 1)
      unfold tG tI tC tE
      rw [List.getD_eq_getElem?_getD, List.getElem?_eq_none (by rw [List.length_append]; exact q)]
      exact ⟨by decide, by decide, by decide⟩
/-- old elements in the grown tree -/
theorem old_sets {T : List PEl} (hw : wfT T) {v : PEl} {e : Nat} (h : e < T.length) : abvS (T ++ [v]) e = abvS T e ∧ befS (T ++ [v]) e = befS T e ∧ jusS (T ++ [v]) e = jusS T e ∧ idxT (T ++ [v]) e = idxT T e ∧ kidS (T ++ [v]) e = (if v.1 = some e then kidS T e ||| 2 ^ T.length else kidS T e) ∧ lastS (T ++ [v]) e = (if v.1 = some e then 2 ^ T.length else lastS T e) := by
  refine ⟨abvF_app hw e e h, ?_, ?_, ?_, ?_, ?_⟩
  · unfold befS
    rw [tP_app h]
    cases hq : tP T e with
    | none => rfl
    | some p => exact bset_congr (fun i hi => isKid_app (by omega))
  · unfold jusS
    rw [tP_app h]
    cases hq : tP T e with
    | none => rfl
    | some p => exact blast_congr (fun i hi => isKid_app (by omega))
  · unfold idxT
    rw [tP_app h]
    cases hq : tP T e with
    | none => rfl
    | some p =>
      simp only []
      rw [bcnt_congr (fun i hi => isKid_app (by omega))]
  · unfold kidS
    rw [List.length_append, List.length_singleton]
    have e1 : bset (isKid (T ++ [v]) e) T.length = bset (isKid T e) T.length := bset_congr (fun i hi => isKid_app hi)
    have e2 : isKid (T ++ [v]) e T.length = decide (v.1 = some e) := by unfold isKid; rw [tP_new]
    show (if isKid (T ++ [v]) e T.length = true then _ else _) = _
    rw [e1, e2]
    by_cases c : v.1 = some e
    · rw [if_pos (decide_eq_true c), if_pos c]
    · rw [if_neg (by rw [decide_eq_false c]; decide), if_neg c]
  · unfold lastS
    rw [List.length_append, List.length_singleton]
    have e1 : blast (isKid (T ++ [v]) e) T.length = blast (isKid T e) T.length := blast_congr (fun i hi => isKid_app hi)
    have e2 : isKid (T ++ [v]) e T.length = decide (v.1 = some e) := by unfold isKid; rw [tP_new]
    show (if isKid (T ++ [v]) e T.length = true then _ else _) = _
    rw [e1, e2]
    by_cases c : v.1 = some e
    · rw [if_pos (decide_eq_true c), if_pos c]
    · rw [if_neg (by rw [decide_eq_false c]; decide), if_neg c]
/-- the new one: its sets, by its parent's -/
theorem new_sets {T : List PEl} (hw : wfT T) {v : PEl} (hl : T.length ≤ 24) (hp : ∀ p, v.1 = some p → p < T.length) : kidS (T ++ [v]) T.length = 0 ∧ lastS (T ++ [v]) T.length = 0 ∧ match v.1 with
  | none => abvS (T ++ [v]) T.length = 0 ∧ befS (T ++ [v]) T.length = 0 ∧ jusS (T ++ [v]) T.length = 0 ∧ idxT (T ++ [v]) T.length = 1
  | some p => abvS (T ++ [v]) T.length = (abvS T p ||| 2 ^ p) ∧ befS (T ++ [v]) T.length = kidS T p ∧ jusS (T ++ [v]) T.length = lastS T p ∧ idxT (T ++ [v]) T.length = bcnt (kidS T p).testBit 24 + 1 := by
  have hno : ∀ i, i < T.length + 1 → isKid (T ++ [v]) T.length i = false := fun i hi => by
    unfold isKid
    refine decide_eq_false (fun q => ?_)
    rcases Nat.lt_or_ge i T.length with c | c
    · rw [tP_app c] at q
      have := hw.2.1 i _ q
      omega
    · have : i = T.length := by omega
      subst this
      rw [tP_new] at q
      exact absurd (hp _ q) (Nat.lt_irrefl _)
  refine ⟨?_, ?_, ?_⟩
  · unfold kidS
    rw [List.length_append, List.length_singleton]
    exact bset_out _ hno
  · unfold lastS
    rw [List.length_append, List.length_singleton]
    exact blast_out _ hno
  · cases hv : v.1 with
    | none =>
      have ht : tP (T ++ [v]) T.length = none := by rw [tP_new, hv]
      refine ⟨?_, ?_, ?_, ?_⟩
      · unfold abvS
        cases hn : T.length with
        | zero => rfl
        | succ n =>
          unfold abvF
          rw [← hn, ht]
      · unfold befS; rw [ht]
      · unfold jusS; rw [ht]
      · unfold idxT; rw [ht]
    | some p =>
      have ht : tP (T ++ [v]) T.length = some p := by rw [tP_new, hv]
      have hpl := hp p hv
      refine ⟨?_, ?_, ?_, ?_⟩
      · unfold abvS
        obtain ⟨n, hn⟩ : ∃ n, T.length = n + 1 := ⟨T.length - 1, by omega⟩
        have e0 : abvF (T ++ [v]) T.length T.length = abvF (T ++ [v]) (n + 1) T.length := by rw [← hn]
        have e1 : abvF (T ++ [v]) (n + 1) T.length = (abvF (T ++ [v]) n p ||| 2 ^ p) := by
          show (match tP (T ++ [v]) T.length with
            | none => 0
            | some p => abvF (T ++ [v]) n p ||| 2 ^ p) = _
          rw [ht]
        rw [e0, e1, abvF_app hw n p hpl, abvF_stab hw n p p (by omega) (Nat.le_refl _)]
      · unfold befS kidS
        rw [ht]
        exact bset_congr (fun i hi => isKid_app hi)
      · unfold jusS lastS
        rw [ht]
        exact blast_congr (fun i hi => isKid_app hi)
      · unfold idxT kidS
        rw [ht]
        simp only []
        rw [bc_bset hl, bcnt_congr (fun i hi => isKid_app hi)]
