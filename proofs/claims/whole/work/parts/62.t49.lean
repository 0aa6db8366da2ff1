/-! ===== what a sum gives ===== -/
def runS (wanted : Nat) (em whole : UInt32) (nm : Nat → Option PVal) : List PStep → List PVal → Option (List PVal)
  | [], st => some st
  | s :: ss, st => match (if 9 ≤ s.1 then (match nm (s.1 - 9) with
      | none => none
      | some v => pushS v.1 v.2 st) else stepS wanted em whole s st) with
    | none => none
    | some st' => runS wanted em whole nm ss st'
def one1 (o : Option (List PVal)) : Option PVal := match o with
  | some [v] => some v
  | _ => none
def ev (T : List PEl) (L : Nat → Nat → PLd) (wanted : Nat) (em whole : UInt32) : Nat → PDecl → Nat → Option PVal
  | 0, _, _ => none
  | f + 1, D, pl => one1 (runS wanted em whole (fun n => match fnd T L (6 + n) (pl + 1) pl with
    | none => none
    | some (e, D') => ev T L wanted em whole f D' e) D.2.2.2 [])
theorem runS_mono {wanted : Nat} {em whole : UInt32} {nm nm' : Nat → Option PVal} (h : ∀ n v, nm n = some v → nm' n = some v) : ∀ (ss : List PStep) (st st' : List PVal), runS wanted em whole nm ss st = some st' → runS wanted em whole nm' ss st = some st'
  | [], st, st', h9 => h9
  | s :: ss, st, st', h9 => by
    unfold runS at h9 ⊢
    by_cases g : 9 ≤ s.1
    · rw [if_pos g] at h9 ⊢
      cases e : nm (s.1 - 9) with
      | none => rw [e] at h9; cases h9
      | some v =>
        rw [e] at h9
        rw [h _ v e]
        dsimp only at h9 ⊢
        cases e2 : pushS v.1 v.2 st with
        | none => rw [e2] at h9; cases h9
        | some st2 =>
          rw [e2] at h9
          exact runS_mono h ss st2 st' h9
    · rw [if_neg g] at h9 ⊢
      cases e2 : stepS wanted em whole s st with
      | none => rw [e2] at h9; cases h9
      | some st2 =>
        rw [e2] at h9
        exact runS_mono h ss st2 st' h9
theorem one1_some {o : Option (List PVal)} {v : PVal} (h : one1 o = some v) : o = some [v] := by
  unfold one1 at h
  split at h
  · cases h; rfl
  · cases h
theorem ev_step {T : List PEl} {L : Nat → Nat → PLd} {wanted : Nat} {em whole : UInt32} : ∀ (f : Nat) (D : PDecl) (pl : Nat) (v : PVal), ev T L wanted em whole f D pl = some v → ev T L wanted em whole (f + 1) D pl = some v
  | 0, D, pl, v, h => by cases h
  | f + 1, D, pl, v, h => by
    unfold ev at h ⊢
    have h1 := one1_some h
    rw [runS_mono (fun n v e => ?_) _ _ _ h1]
    · rfl
    · cases g : fnd T L (6 + n) (pl + 1) pl with
      | none => rw [g] at e; cases e
      | some q =>
        obtain ⟨e', D'⟩ := q
        rw [g] at e
        exact ev_step f D' e' v e
theorem ev_mono {T : List PEl} {L : Nat → Nat → PLd} {wanted : Nat} {em whole : UInt32} {f g : Nat} (hfg : f ≤ g) {D : PDecl} {pl : Nat} {v : PVal} (h : ev T L wanted em whole f D pl = some v) : ev T L wanted em whole g D pl = some v := by
  induction g with
  | zero => have : f = 0 := by omega
            subst this; exact h
  | succ g ih =>
    by_cases e : f = g + 1
    · subst e; exact h
    · exact ev_step g D pl v (ih (by omega))
theorem ev_det {T : List PEl} {L : Nat → Nat → PLd} {wanted : Nat} {em whole : UInt32} {f g : Nat} {D : PDecl} {pl : Nat} {v u : PVal} (h1 : ev T L wanted em whole f D pl = some v) (h2 : ev T L wanted em whole g D pl = some u) : v = u := by
  have a := ev_mono (Nat.le_max_left f g) h1
  have b := ev_mono (Nat.le_max_right f g) h2
  rw [a] at b
  exact Option.some.inj b
/-- a run that ends well has asked for each name with an answer -/
theorem runS_asks {wanted : Nat} {em whole : UInt32} {nm : Nat → Option PVal} : ∀ (ss : List PStep) (st st' : List PVal), runS wanted em whole nm ss st = some st' → ∀ s ∈ ss, 9 ≤ s.1 → ∃ v, nm (s.1 - 9) = some v
  | [], st, st', h, s, hs, _ => by cases hs
  | s0 :: ss, st, st', h, s, hs, h9 => by
    unfold runS at h
    rcases List.mem_cons.mp hs with rfl | hs
    · rw [if_pos h9] at h
      cases e : nm (s.1 - 9) with
      | none => rw [e] at h; cases h
      | some v => exact ⟨v, rfl⟩
    · split at h
      · cases h
      · exact runS_asks ss _ st' h s hs h9
/-- the named sum that stands for a slot -/
def slotD (L : Nat → Nat → PLd) (e n : Nat) : Option PDecl := match L e (6 + n) with
  | none => none
  | some (_, D, _) => if D.2.1 = 2 then some D else none
theorem fnd_slot {T : List PEl} {L : Nat → Nat → PLd} {n : Nat} : ∀ {f e : Nat} {q : Nat × PDecl}, fnd T L (6 + n) f e = some q → slotD L q.1 n = some q.2
  | 0, e, q, h => by cases h
  | f + 1, e, q, h => by
    unfold fnd at h
    have hup : (match tP T e with | none => none | some p => fnd T L (6 + n) f p) = some q → slotD L q.1 n = some q.2 := fun g => by
      cases hp : tP T e with
      | none => rw [hp] at g; cases g
      | some p => rw [hp] at g; exact fnd_slot g
    cases ho : L e (6 + n) with
    | none => rw [ho] at h; exact hup h
    | some r =>
      obtain ⟨k, D, wt⟩ := r
      rw [ho] at h
      dsimp only at h
      split at h
      · exact hup h
      · split at h
        · rename_i g
          cases h
          unfold slotD
          rw [ho]
          dsimp only
          rw [if_pos g]
        · cases h
/-- what is known of the slots is right, but for those that are open -/
def goodK (T : List PEl) (L : Nat → Nat → PLd) (wanted : Nat) (em whole : UInt32) (P : Nat → Prop) (K : PKn) : Prop := ∀ e n D, P e → n < 4 → slotD L e n = some D → ((K e n).1 ≤ 1 → ∃ f, ev T L wanted em whole f D e = some (K e n)) ∧ ((K e n).1 = 2 → ∀ f, ev T L wanted em whole f D e = none)
/-- closed under what is found -/
def pathP (T : List PEl) (P : Nat → Prop) : Prop := ∀ e p, P e → tP T e = some p → P p
theorem fnd_path {T : List PEl} {L : Nat → Nat → PLd} {n : Nat} {P : Nat → Prop} (hP : pathP T P) : ∀ {f e : Nat} {q : Nat × PDecl}, P e → fnd T L n f e = some q → P q.1
  | 0, e, q, _, h => by cases h
  | f + 1, e, q, he, h => by
    unfold fnd at h
    have hup : (match tP T e with | none => none | some p => fnd T L n f p) = some q → P q.1 := fun g => by
      cases hp : tP T e with
      | none => rw [hp] at g; cases g
      | some p => rw [hp] at g; exact fnd_path hP (hP e p he hp) g
    split at h
    · exact hup h
    · split at h
      · exact hup h
      · split at h
        · cases h; exact he
        · cases h
def nmE (T : List PEl) (L : Nat → Nat → PLd) (wanted : Nat) (em whole : UInt32) (pl f : Nat) : Nat → Option PVal := fun n => match fnd T L (6 + n) (pl + 1) pl with
  | none => none
  | some (e, D') => ev T L wanted em whole f D' e
theorem nmE_mono {T : List PEl} {L : Nat → Nat → PLd} {wanted : Nat} {em whole : UInt32} {pl f g : Nat} (h : f ≤ g) (n : Nat) (v : PVal) (e : nmE T L wanted em whole pl f n = some v) : nmE T L wanted em whole pl g n = some v := by
  unfold nmE at e ⊢
  cases q : fnd T L (6 + n) (pl + 1) pl with
  | none => rw [q] at e; cases e
  | some r => rw [q] at e; exact ev_mono h e
theorem pasS_good {T : List PEl} {L : Nat → Nat → PLd} {K : PKn} {wanted : Nat} {em whole : UInt32} {P : Nat → Prop} (hP : pathP T P) (hG : goodK T L wanted em whole P K) {pl : Nat} (hpl : P pl) : ∀ (ss : List PStep) (st st' : List PVal), (∀ s ∈ ss, s.1 < 13) → pasS T L K wanted em whole pl ss st = .inr (some st') → ∃ f, runS wanted em whole (nmE T L wanted em whole pl f) ss st = some st'
  | [], st, st', _, h => ⟨0, by cases h; rfl⟩
  | s :: ss, st, st', h13, h => by
    unfold pasS at h
    have hs13 := h13 s List.mem_cons_self
    have h13' := fun x hx => h13 x (List.mem_cons_of_mem _ hx)
    by_cases g : 9 ≤ s.1
    · rw [if_pos g] at h
      cases hf : fnd T L (6 + (s.1 - 9)) (pl + 1) pl with
      | none => rw [hf] at h; cases h
      | some q =>
        obtain ⟨e, D'⟩ := q
        rw [hf] at h
        dsimp only at h
        by_cases h4 : (K e (s.1 - 9)).1 = 4
        · rw [if_pos h4] at h; cases h
        · rw [if_neg h4] at h
          cases hp : pushS (K e (s.1 - 9)).1 (K e (s.1 - 9)).2 st with
          | none => rw [hp] at h; cases h
          | some st2 =>
            rw [hp] at h
            dsimp only at h
            obtain ⟨f1, hf1⟩ := pasS_good hP hG hpl ss st2 st' h13' h
            have hk1 : (K e (s.1 - 9)).1 ≤ 1 := by
              unfold pushS at hp
              split at hp
              · rename_i g2
                rw [Bool.and_eq_true, decide_eq_true_eq] at g2
                exact g2.1
              · cases hp
            obtain ⟨f2, hf2⟩ := (hG e (s.1 - 9) D' (fnd_path hP hpl hf) (by omega) (fnd_slot hf)).1 hk1
            refine ⟨max f1 f2, ?_⟩
            unfold runS
            rw [if_pos g]
            have e1 : nmE T L wanted em whole pl (max f1 f2) (s.1 - 9) = some (K e (s.1 - 9)) := by
              unfold nmE
              rw [hf]
              exact ev_mono (Nat.le_max_right _ _) hf2
            rw [e1]
            dsimp only
            rw [hp]
            exact runS_mono (nmE_mono (Nat.le_max_left _ _)) _ _ _ hf1
    · rw [if_neg g] at h
      cases hp : stepS wanted em whole s st with
      | none => rw [hp] at h; cases h
      | some st2 =>
        rw [hp] at h
        dsimp only at h
        obtain ⟨f1, hf1⟩ := pasS_good hP hG hpl ss st2 st' h13' h
        refine ⟨f1, ?_⟩
        unfold runS
        rw [if_neg g, hp]
        exact hf1
theorem pasS_bad {T : List PEl} {L : Nat → Nat → PLd} {K : PKn} {wanted : Nat} {em whole : UInt32} {P : Nat → Prop} (hP : pathP T P) (hG : goodK T L wanted em whole P K) (hK4 : okK K) {pl : Nat} (hpl : P pl) (f : Nat) (hO : ∀ e n D, P e → n < 4 → slotD L e n = some D → (K e n).1 = 3 → ev T L wanted em whole f D e = none) : ∀ (ss : List PStep) (st : List PVal), (∀ s ∈ ss, s.1 < 13) → pasS T L K wanted em whole pl ss st = .inr none → runS wanted em whole (nmE T L wanted em whole pl f) ss st = none
  | [], st, _, h => by cases h
  | s :: ss, st, h13, h => by
    unfold pasS at h
    have hs13 := h13 s List.mem_cons_self
    have h13' := fun x hx => h13 x (List.mem_cons_of_mem _ hx)
    unfold runS
    by_cases g : 9 ≤ s.1
    · rw [if_pos g] at h ⊢
      cases hn : nmE T L wanted em whole pl f (s.1 - 9) with
      | none => rfl
      | some v =>
        unfold nmE at hn
        cases hf : fnd T L (6 + (s.1 - 9)) (pl + 1) pl with
        | none => rw [hf] at hn; cases hn
        | some q =>
          obtain ⟨e, D'⟩ := q
          rw [hf] at h hn
          dsimp only at h hn
          have hPe := fnd_path hP hpl hf
          have hsl := fnd_slot hf
          obtain ⟨gk1, gk2⟩ := hG e (s.1 - 9) D' hPe (by omega) hsl
          by_cases h4 : (K e (s.1 - 9)).1 = 4
          · rw [if_pos h4] at h; cases h
          · rw [if_neg h4] at h
            have hk4 := (hK4 e (s.1 - 9)).1
            rcases (by omega : (K e (s.1 - 9)).1 ≤ 1 ∨ (K e (s.1 - 9)).1 = 2 ∨ (K e (s.1 - 9)).1 = 3) with k | k | k
            · obtain ⟨f2, hf2⟩ := gk1 k
              have := ev_det hn hf2
              subst this
              dsimp only
              cases hp : pushS (K e (s.1 - 9)).1 (K e (s.1 - 9)).2 st with
              | none => rfl
              | some st2 =>
                rw [hp] at h
                dsimp only at h
                exact pasS_bad hP hG hK4 hpl f hO ss st2 h13' h
            · rw [gk2 k f] at hn; cases hn
            · rw [hO e (s.1 - 9) D' hPe (by omega) hsl k] at hn; cases hn
    · rw [if_neg g] at h ⊢
      cases hp : stepS wanted em whole s st with
      | none => rfl
      | some st2 =>
        rw [hp] at h
        dsimp only at h
        exact pasS_bad hP hG hK4 hpl f hO ss st2 h13' h
theorem pasS_wait {T : List PEl} {L : Nat → Nat → PLd} {K : PKn} {wanted : Nat} {em whole : UInt32} {pl : Nat} : ∀ (ss : List PStep) (st : List PVal) (q : Nat × Nat), pasS T L K wanted em whole pl ss st = .inl q → (K q.1 q.2).1 = 4 ∧ ∃ s ∈ ss, 9 ≤ s.1 ∧ s.1 - 9 = q.2 ∧ ∃ D', fnd T L (6 + q.2) (pl + 1) pl = some (q.1, D')
  | [], st, q, h => by cases h
  | s :: ss, st, q, h => by
    unfold pasS at h
    have hrec : ∀ st2, pasS T L K wanted em whole pl ss st2 = .inl q → (K q.1 q.2).1 = 4 ∧ ∃ s' ∈ s :: ss, 9 ≤ s'.1 ∧ s'.1 - 9 = q.2 ∧ ∃ D', fnd T L (6 + q.2) (pl + 1) pl = some (q.1, D') := fun st2 h2 => by
      obtain ⟨g1, s', g2, g3⟩ := pasS_wait ss st2 q h2
      exact ⟨g1, s', List.mem_cons_of_mem _ g2, g3⟩
    by_cases g : 9 ≤ s.1
    · rw [if_pos g] at h
      cases hf : fnd T L (6 + (s.1 - 9)) (pl + 1) pl with
      | none => rw [hf] at h; cases h
      | some r =>
        obtain ⟨e, D'⟩ := r
        rw [hf] at h
        dsimp only at h
        by_cases h4 : (K e (s.1 - 9)).1 = 4
        · rw [if_pos h4] at h
          cases h
          exact ⟨h4, s, List.mem_cons_self, g, rfl, D', hf⟩
        · rw [if_neg h4] at h
          split at h
          · cases h
          · exact hrec _ h
    · rw [if_neg g] at h
      split at h
      · cases h
      · exact hrec _ h
