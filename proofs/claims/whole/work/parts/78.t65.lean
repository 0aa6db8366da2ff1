/-! ===== the values of a desk ===== -/
def okL (L : Nat → Nat → PLd) : Prop := ∀ e n k D wt, L e n = some (k, D, wt) → D.2.1 = 2 → ∀ s ∈ D.2.2.2, okSt s
theorem runS_fin {wanted : Nat} {em whole : UInt32} (hem : fFin em) (hwh : fFin whole) {nm : Nat → Option PVal} (hnm : ∀ n v, nm n = some v → fFin v.2) : ∀ (ss : List PStep) (st st' : List PVal), (∀ s ∈ ss, okSt s) → okStk st → runS wanted em whole nm ss st = some st' → okStk st'
  | [], st, st', _, ho, h => by
    cases h
    exact ho
  | s :: ss, st, st', h13, ho, h => by
    unfold runS at h
    have hs := h13 s List.mem_cons_self
    have h13' := fun x hx => h13 x (List.mem_cons_of_mem _ hx)
    by_cases g : 9 ≤ s.1
    · rw [if_pos g] at h
      cases hn : nm (s.1 - 9) with
      | none => rw [hn] at h; cases h
      | some v =>
        rw [hn] at h
        simp only [] at h
        cases hp : pushS v.1 v.2 st with
        | none => rw [hp] at h; cases h
        | some st2 =>
          rw [hp] at h
          exact runS_fin hem hwh hnm ss st2 st' h13' (pushS_ok hp (fFin.n (hnm _ v hn)) ho).1 h
    · rw [if_neg g] at h
      cases hp : stepS wanted em whole s st with
      | none => rw [hp] at h; cases h
      | some st2 =>
        rw [hp] at h
        exact runS_fin hem hwh hnm ss st2 st' h13' (stepS_ok hp hs (by omega) hem hwh ho).1 h
theorem ev_fin {T : List PEl} {L : Nat → Nat → PLd} (hL : okL L) {wanted : Nat} {em whole : UInt32} (hem : fFin em) (hwh : fFin whole) : ∀ (f : Nat) (D : PDecl) (pl : Nat) (u : PVal), (∀ s ∈ D.2.2.2, okSt s) → ev T L wanted em whole f D pl = some u → u.1 ≤ 1 ∧ fFin u.2
  | 0, D, pl, u, _, h => by cases h
  | f + 1, D, pl, u, hD, h => by
    unfold ev at h
    have h2 := runS_fin hem hwh (fun n v hv => by
      cases hf : fnd T L (6 + n) (pl + 1) pl with
      | none => rw [hf] at hv; cases hv
      | some q =>
        rw [hf] at hv
        obtain ⟨g1, k, wt, g2⟩ := slotD_L (fnd_slot hf)
        exact (ev_fin hL hem hwh f q.2 q.1 v (hL _ _ _ _ _ g2 g1) hv).2) D.2.2.2 [] [u] hD (fun x hx => by cases hx) (one1_some h)
    exact h2 u List.mem_cons_self
noncomputable def vvF (T : List PEl) (L : Nat → Nat → PLd) : Nat → Nat → Nat → UInt32
  | 0, _, _ => FP.fconst0
  | f + 1, e, p => (calV T L (vvF T L f) e p).2
def rkV (e p : Nat) : Nat := if p = 1 then 2 * e + 1 else 2 * e + 2
noncomputable def vV (T : List PEl) (L : Nat → Nat → PLd) : Nat → Nat → UInt32 := fun e p => vvF T L (rkV e p) e p
theorem calV_congr {T : List PEl} {L : Nat → Nat → PLd} {V V' : Nat → Nat → UInt32} {e p : Nat} (h1 : ∀ q, tP T e = some q → V q p = V' q p) (h2 : p ≠ 1 → V e 1 = V' e 1) : calV T L V e p = calV T L V' e p := by
  have a1 : inhV T V e p = inhV T V' e p := by
    unfold inhV
    cases hq : tP T e with
    | none => rfl
    | some q => exact h1 q hq
  have a2 : stdV T V e p = stdV T V' e p := by
    unfold stdV
    rw [a1]
  have a3 : whU T V e p = whU T V' e p := by
    unfold whU
    cases hq : tP T e with
    | none => rfl
    | some q => exact h1 q hq
  have a4 : emU T V e p = emU T V' e p := by
    unfold emU
    by_cases c : p = 1
    · rw [if_pos c, if_pos c]
      cases hq : tP T e with
      | none => rfl
      | some q => have := h1 q hq; rw [c] at this; exact this
    · rw [if_neg c, if_neg c]
      exact h2 c
  unfold calV
  rw [a1, a2, a3, a4]
theorem vvF_stab {T : List PEl} (hw : wfT T) {L : Nat → Nat → PLd} : ∀ (m f g e p : Nat), rkV e p ≤ m → rkV e p ≤ f → rkV e p ≤ g → vvF T L f e p = vvF T L g e p
  | 0, f, g, e, p, h, _, _ => by unfold rkV at h; split at h <;> omega
  | m + 1, f, g, e, p, h, hf, hg => by
    have h0 : 1 ≤ rkV e p := by unfold rkV; split <;> omega
    obtain ⟨f', rfl⟩ : ∃ k, f = k + 1 := ⟨f - 1, by omega⟩
    obtain ⟨g', rfl⟩ : ∃ k, g = k + 1 := ⟨g - 1, by omega⟩
    show (calV T L (vvF T L f') e p).2 = (calV T L (vvF T L g') e p).2
    rw [calV_congr]
    · intro q hq
      have hqe := hw.2.1 e q hq
      have hr : rkV q p + 1 ≤ rkV e p := by unfold rkV; split <;> omega
      exact vvF_stab hw m f' g' q p (by omega) (by omega) (by omega)
    · intro hp
      have hr : rkV e 1 + 1 ≤ rkV e p := by unfold rkV; rw [if_pos rfl, if_neg hp]; omega
      exact vvF_stab hw m f' g' e 1 (by omega) (by omega) (by omega)
theorem vvF_fin {T : List PEl} {L : Nat → Nat → PLd} (hL : okL L) : ∀ (f e p : Nat), fFin (vvF T L f e p)
  | 0, e, p => fFin_ini 0
  | f + 1, e, p => by
    have ih := vvF_fin (T := T) hL f
    have a1 : fFin (inhV T (vvF T L f) e p) := by
      unfold inhV
      split
      · exact fFin_ini p
      · exact ih _ _
    have a2 : fFin (stdV T (vvF T L f) e p) := by
      unfold stdV
      split
      · exact a1
      · exact fFin_ini p
    have a3 : fFin (whU T (vvF T L f) e p) := by
      unfold whU
      split
      · exact fFin_ini 0
      · exact ih _ _
    have a4 : fFin (emU T (vvF T L f) e p) := by
      unfold emU
      split
      · split
        · exact fFin_ini 1
        · exact ih _ _
      · exact ih _ _
    show fFin (calV T L (vvF T L f) e p).2
    unfold calV
    split
    · exact a2
    · rename_i k D wt hLe
      split
      · rename_i h2
        cases hv : evR T L (wantP p) (emU T (vvF T L f) e p) (whU T (vvF T L f) e p) D e with
        | none => exact a2
        | some u =>
          simp only []
          split
          · by_cases hx : ∃ u f', ev T L (wantP p) (emU T (vvF T L f) e p) (whU T (vvF T L f) e p) f' D e = some u
            · obtain ⟨u', f', hx⟩ := hx
              rw [evR_some hx] at hv
              cases hv
              exact (ev_fin hL a4 a3 f' D e u (hL e p k D wt hLe h2) hx).2
            · exfalso
              rw [evR_none (fun f' => by
                cases hy : ev T L (wantP p) (emU T (vvF T L f) e p) (whU T (vvF T L f) e p) f' D e with
                | none => rfl
                | some u' => exact absurd ⟨u', f', hy⟩ hx)] at hv
              cases hv
          · exact a2
      · split
        · exact a1
        · exact fFin_ini p
theorem vV_is {T : List PEl} (hw : wfT T) {L : Nat → Nat → PLd} (hL : okL L) : isV T L (vV T L) := by
  refine ⟨fun e he p hp => ?_, fun e p => vvF_fin hL _ e p⟩
  have h0 : 1 ≤ rkV e p := by unfold rkV; split <;> omega
  show vvF T L (rkV e p) e p = _
  rw [vvF_stab hw (rkV e p) (rkV e p) (rkV e p + 1) e p (Nat.le_refl _) (Nat.le_refl _) (by omega)]
  show (calV T L (vvF T L (rkV e p)) e p).2 = _
  rw [calV_congr]
  · intro q hq
    have hqe := hw.2.1 e q hq
    have hr : rkV q p ≤ rkV e p := by unfold rkV; split <;> omega
    exact vvF_stab hw (rkV q p) _ _ q p (Nat.le_refl _) hr (Nat.le_refl _)
  · intro c
    have hr : rkV e 1 ≤ rkV e p := by unfold rkV; rw [if_pos rfl, if_neg c]; omega
    exact vvF_stab hw (rkV e 1) _ _ e 1 (Nat.le_refl _) hr (Nat.le_refl _)
