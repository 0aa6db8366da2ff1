/-! ===== Reckoner.pass ===== -/
def stepS (wanted : Nat) (em whole : UInt32) (s : PStep) (st : List PVal) : Option (List PVal) := if s.1 ≤ 3 then numS wanted em whole s.1 s.2 st else if s.1 = 4 then negS st else comS s.1 st
abbrev PKn : Type := Nat → Nat → PVal
def pasS (T : List PEl) (L : Nat → Nat → PLd) (K : PKn) (wanted : Nat) (em whole : UInt32) (pl : Nat) : List PStep → List PVal → (Nat × Nat) ⊕ Option (List PVal)
  | [], st => .inr (some st)
  | s :: ss, st => if 9 ≤ s.1 then (match fnd T L (6 + (s.1 - 9)) (pl + 1) pl with
    | none => .inr none
    | some (e, _) => if (K e (s.1 - 9)).1 = 4 then .inl (e, s.1 - 9) else (match pushS (K e (s.1 - 9)).1 (K e (s.1 - 9)).2 st with
      | none => .inr none
      | some st' => pasS T L K wanted em whole pl ss st')) else (match stepS wanted em whole s st with
    | none => .inr none
    | some st' => pasS T L K wanted em whole pl ss st')
def hgt : List PStep → Nat → Option Nat
  | [], h => some h
  | s :: ss, h => if s.1 ≤ 3 ∨ 9 ≤ s.1 then (if h < 15 then hgt ss (h + 1) else none) else if s.1 = 4 then (if 1 ≤ h then hgt ss h else none) else (if 2 ≤ h then hgt ss (h - 1) else none)
def okSt (s : PStep) : Prop := s.1 < 13 ∧ (s.1 ≤ 3 → fFin s.2)
def okD (D : PDecl) : Prop := hgt D.2.2.2 0 = some 1 ∧ D.2.2.2.length ≤ 120 ∧ ∀ s ∈ D.2.2.2, okSt s
def okK (K : PKn) : Prop := ∀ e n, (K e n).1 ≤ 4 ∧ ((K e n).1 ≤ 1 → fFin (K e n).2)
def nkW (w : ZW) (n : Nat) (A : Nat → Nat) (K : PKn) : Prop := ∀ e, e < n → ∀ i, i < 4 → za w (A e + 7) i = nI (K e i).1 ∧ zg w (A e + 8) i = (K e i).2
abbrev XK (k : Nat) : Nat → Prop := fun a => a = k ∨ a = k + 2 ∨ a = k + 3
theorem rkS.e {k : Nat} {w w' : ZW} (h : rkS k w w') : ech (XK k) w w' := by
  obtain ⟨h1, h2, h3, h4, h5, h6, h7, h8, h9, h10, h11⟩ := h
  refine ⟨h1, h2, h3, fun a ha => ?_⟩
  have n1 : a ≠ k := fun e => ha (Or.inl e)
  have n2 : a ≠ k + 2 := fun e => ha (Or.inr (Or.inl e))
  have n3 : a ≠ k + 3 := fun e => ha (Or.inr (Or.inr e))
  exact ⟨by rw [h2], fun f => h4 f a (fun e => n1 e.1), fun f => by rw [h5], fun f => by rw [h6], by rw [h3], h7 a n2, by rw [h8], h9 a n3, by rw [h10], by rw [h11]⟩
/-- cells of the desk behind its first three, but the row of the path -/
abbrev XD (x : Nat) : Nat → Prop := fun a => x + 7 ≤ a ∧ (a < x + 13 ∧ a ≠ x + 8)
theorem XK.d {x : Nat} : ∀ a, XK (x + 7) a → XD x a := fun a h => by rcases h with rfl | rfl | rfl <;> exact ⟨by omega, by omega⟩
theorem envA.d {w w' : ZW} {x nr : Nat} {T : List PEl} {A : Nat → Nat} {DC : Nat → PDecl → Prop} {RG : Nat → Nat → Prop} (h : envA w x nr T A DC RG) (e : ech (XD x) w w') : envA w' x nr T A DC RG := by
  obtain ⟨h1, h2, h3, h4, h5, h6⟩ := h
  exact ⟨h1, h2.e e (by omega), h3.e e (fun i hi => by have := h1.1 i hi; omega), h4.e e (by omega), fun i hi => (h5 i hi).e e (by have := h1.1 i hi; omega), h6.e e (fun lo hi b g1 g2 g3 g4 => by have := (h1.2.2 lo hi g1).1; omega)⟩
theorem leadsW.d {w w' : ZW} {x nr : Nat} {T : List PEl} {A : Nat → Nat} {DC : Nat → PDecl → Prop} {RG : Nat → Nat → Prop} {L : Nat → Nat → PLd} (h : leadsW w T A DC L) (hE : envA w x nr T A DC RG) (e : ech (XD x) w w') : leadsW w' T A DC L := fun i hi n hn => by
  have := hE.1.1 i hi
  exact (h i hi n hn).e e (by omega) (by omega) (by omega)
theorem nkW.d {w w' : ZW} {x nr : Nat} {T : List PEl} {A : Nat → Nat} {DC : Nat → PDecl → Prop} {RG : Nat → Nat → Prop} {K : PKn} (h : nkW w T.length A K) (hE : envA w x nr T A DC RG) (e : ech (XD x) w w') : nkW w' T.length A K := fun i hi n hn => by
  have := hE.1.1 i hi
  rw [(e.2.2.2 (A i + 7) (by omega)).a, (e.2.2.2 (A i + 8) (by omega)).g]
  exact h i hi n hn
theorem pushS_ok {kd : Nat} {v : UInt32} {st st' : List PVal} (h : pushS kd v st = some st') (hv : vf_n32 v) (ho : okStk st) : okStk st' ∧ st'.length = st.length + 1 := by
  unfold pushS at h
  split at h
  · rename_i e
    cases h
    rw [Bool.and_eq_true, decide_eq_true_eq] at e
    refine ⟨fun x hx => ?_, rfl⟩
    rcases List.mem_cons.mp hx with rfl | g
    · exact ⟨e.1, okLim_fin hv e.2⟩
    · exact ho x g
  · cases h
theorem stepS_ok {wanted : Nat} {em whole : UInt32} {s : PStep} {st st' : List PVal} (h : stepS wanted em whole s st = some st') (hs : okSt s) (h9 : s.1 < 9) (he : fFin em) (hw : fFin whole) (ho : okStk st) : okStk st' ∧ ((s.1 ≤ 3 ∧ st'.length = st.length + 1) ∨ (s.1 = 4 ∧ st'.length = st.length) ∨ (4 < s.1 ∧ st'.length + 1 = st.length)) := by
  unfold stepS at h
  by_cases h3 : s.1 ≤ 3
  · rw [if_pos h3] at h
    have hv := hs.2 h3
    unfold numS at h
    have n1 := fmul_n hv he
    have n2 := fdiv_n (fmul_n hv hw) (fFin_of (x := 1120403456) (by decide)) (by decide)
    have : okStk st' ∧ st'.length = st.length + 1 := by
      split at h
      · exact pushS_ok h hv.n ho
      · split at h
        · exact pushS_ok h n1 ho
        · split at h
          · exact pushS_ok h n2 ho
          · exact pushS_ok h hv.n ho
    exact ⟨this.1, Or.inl ⟨h3, this.2⟩⟩
  · rw [if_neg h3] at h
    by_cases h4 : s.1 = 4
    · rw [if_pos h4] at h
      unfold negS at h
      split at h
      · cases h
      · rename_i kd a st2
        cases h
        refine ⟨fun x hx => ?_, Or.inr (Or.inl ⟨h4, rfl⟩)⟩
        rcases List.mem_cons.mp hx with rfl | g
        · have := ho (kd, a) List.mem_cons_self
          exact ⟨this.1, fFin_neg this.2⟩
        · exact ho x (List.mem_cons_of_mem _ g)
    · rw [if_neg h4] at h
      unfold comS at h
      split at h
      · rename_i k2 b k1 a st2
        have ob := ho (k2, b) List.mem_cons_self
        have oa := ho (k1, a) (List.mem_cons_of_mem _ List.mem_cons_self)
        have ot : okStk st2 := fun x hx => ho x (List.mem_cons_of_mem _ (List.mem_cons_of_mem _ hx))
        have : okStk st' ∧ st'.length = st2.length + 1 := by
          split at h
          · split at h
            · exact pushS_ok h (fadd_n oa.2 ob.2) ot
            · cases h
          · split at h
            · split at h
              · exact pushS_ok h (fsub_n oa.2 ob.2) ot
              · cases h
            · split at h
              · split at h
                · exact pushS_ok h (fmul_n oa.2 ob.2) ot
                · cases h
              · split at h
                · rename_i g
                  exact pushS_ok h (fdiv_n (oa.2.n) ob.2 (fun q => g.2 (zero_cmp q))) ot
                · cases h
        refine ⟨this.1, Or.inr (Or.inr ⟨by omega, ?_⟩)⟩
        rw [this.2, List.length_cons, List.length_cons]
      · cases h
theorem fnd_lt {T : List PEl} (hw : wfT T) {L : Nat → Nat → PLd} {n : Nat} : ∀ {f e : Nat} {q : Nat × PDecl}, fnd T L n f e = some q → q.1 ≤ e
  | 0, e, q, h => by cases h
  | f + 1, e, q, h => by
    unfold fnd at h
    have hup : (match tP T e with | none => none | some p => fnd T L n f p) = some q → q.1 ≤ e := fun g => by
      cases hp : tP T e with
      | none => rw [hp] at g; cases g
      | some p =>
        rw [hp] at g
        have := fnd_lt hw g
        have := hw.2.1 e p hp
        omega
    split at h
    · exact hup h
    · split at h
      · exact hup h
      · split at h
        · cases h; exact Nat.le_refl _
        · cases h
