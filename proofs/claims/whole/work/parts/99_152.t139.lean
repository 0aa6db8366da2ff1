/-! ===== the model: runs of a sum ===== -/
theorem runS_app {wanted : Nat} {em whole : UInt32} {nm : Nat → Option PVal} : ∀ (a b : List PStep) (st : List PVal), runS wanted em whole nm (a ++ b) st = (match runS wanted em whole nm a st with
    | none => none
    | some st' => runS wanted em whole nm b st')
  | [], b, st => rfl
  | s :: a, b, st => by
    show (match (if 9 ≤ s.1 then (match nm (s.1 - 9) with
      | none => none
      | some v => pushS v.1 v.2 st) else stepS wanted em whole s st) with
      | none => none
      | some st' => runS wanted em whole nm (a ++ b) st') = (match (match (if 9 ≤ s.1 then (match nm (s.1 - 9) with
      | none => none
      | some v => pushS v.1 v.2 st) else stepS wanted em whole s st) with
      | none => none
      | some st' => runS wanted em whole nm a st') with
      | none => none
      | some st' => runS wanted em whole nm b st')
    cases (if 9 ≤ s.1 then (match nm (s.1 - 9) with
      | none => none
      | some v => pushS v.1 v.2 st) else stepS wanted em whole s st) with
    | none => rfl
    | some st2 => exact runS_app a b st2
/-- one step -/
def one2 (wanted : Nat) (em whole : UInt32) (nm : Nat → Option PVal) (s : PStep) (st : List PVal) : Option (List PVal) := if 9 ≤ s.1 then (match nm (s.1 - 9) with
  | none => none
  | some v => pushS v.1 v.2 st) else stepS wanted em whole s st
theorem runS_one {wanted : Nat} {em whole : UInt32} {nm : Nat → Option PVal} {s : PStep} {st : List PVal} {rest : List PStep} : runS wanted em whole nm (s :: rest) st = (match one2 wanted em whole nm s st with
    | none => none
    | some st' => runS wanted em whole nm rest st') := rfl
section ZWK
variable {T : List PEl} {L : Nat → Nat → PLd} {wanted : Nat} {em whole : UInt32} {D : PDecl} {pl : Nat}
theorem ev_run {f : Nat} : ev T L wanted em whole (f + 1) D pl = one1 (runS wanted em whole (nmE T L wanted em whole pl f) D.2.2.2 []) := rfl
theorem run_up {f g : Nat} (h : f ≤ g) {ss : List PStep} {st st' : List PVal} (hr : runS wanted em whole (nmE T L wanted em whole pl f) ss st = some st') : runS wanted em whole (nmE T L wanted em whole pl g) ss st = some st' := runS_mono (fun n v q => nmE_mono h n v q) ss st st' hr
theorem run_fail {f0 : Nat} {pre rest : List PStep} {s : PStep} {st : List PVal} (hD : D.2.2.2 = pre ++ s :: rest) (h : runS wanted em whole (nmE T L wanted em whole pl f0) pre [] = some st) (hs : ∀ g, f0 ≤ g → one2 wanted em whole (nmE T L wanted em whole pl g) s st = none) : ∀ f, ev T L wanted em whole f D pl = none := by
  intro f
  cases f with
  | zero => rfl
  | succ f =>
    cases hv : ev T L wanted em whole (f + 1) D pl with
    | none => rfl
    | some v =>
      exfalso
      rw [ev_run] at hv
      have h1 := one1_some hv
      have h2 := run_up (Nat.le_max_left f f0) h1
      have h3 := run_up (Nat.le_max_right f f0) h
      rw [hD, runS_app, h3] at h2
      simp only [] at h2
      rw [runS_one, hs _ (Nat.le_max_right f f0)] at h2
      cases h2
theorem run_step {f0 f1 : Nat} {pre : List PStep} {s : PStep} {st st' : List PVal} (h : runS wanted em whole (nmE T L wanted em whole pl f0) pre [] = some st) (hf : f0 ≤ f1) (hs : one2 wanted em whole (nmE T L wanted em whole pl f1) s st = some st') : runS wanted em whole (nmE T L wanted em whole pl f1) (pre ++ [s]) [] = some st' := by
  rw [runS_app, run_up hf h]
  simp only []
  rw [runS_one, hs]
  rfl
theorem ev_asks {f : Nat} (h : ev T L wanted em whole (f + 1) D pl ≠ none) {s : PStep} (hs : s ∈ D.2.2.2) (h9 : 9 ≤ s.1) {e : Nat} {D' : PDecl} (hf : fnd T L (6 + (s.1 - 9)) (pl + 1) pl = some (e, D')) : ev T L wanted em whole f D' e ≠ none := by
  cases hv : ev T L wanted em whole (f + 1) D pl with
  | none => exact absurd hv h
  | some v =>
    rw [ev_run] at hv
    obtain ⟨u, hu⟩ := runS_asks _ _ _ (one1_some hv) s hs h9
    unfold nmE at hu
    rw [hf] at hu
    intro q
    have hu2 : ev T L wanted em whole f D' e = some u := hu
    rw [q] at hu2
    cases hu2
/-- what the one in work asks for asks for itself: nothing comes -/
theorem ev_circ {D' : PDecl} {e : Nat} (h1 : lead2 T L wanted em whole D' e D pl) (h2 : ∀ f, ev T L wanted em whole (f + 1) D pl ≠ none → ev T L wanted em whole f D' e ≠ none) : ∀ f, ev T L wanted em whole f D pl = none := by
  have key : ∀ m f, f ≤ m → ev T L wanted em whole f D pl = none := by
    intro m
    induction m with
    | zero => intro f hf; have : f = 0 := by omega
              subst this; rfl
    | succ m ih =>
      intro f hf
      cases f with
      | zero => rfl
      | succ f =>
        refine Classical.byContradiction (fun q => ?_)
        obtain ⟨g, g1, g2⟩ := h1 f (h2 f q)
        exact g2 (ih g (by omega))
  exact fun f => key f f (Nat.le_refl _)
theorem lead2.rf : lead2 T L wanted em whole D pl D pl := fun f h => ⟨f, Nat.le_refl _, h⟩
theorem lead2.dn {D0 D' : PDecl} {e0 e : Nat} (h : lead2 T L wanted em whole D0 e0 D pl) (h2 : ∀ f, ev T L wanted em whole (f + 1) D pl ≠ none → ev T L wanted em whole f D' e ≠ none) : lead2 T L wanted em whole D0 e0 D' e := fun f q => by
  obtain ⟨g, g1, g2⟩ := h f q
  cases g with
  | zero => exact absurd rfl g2
  | succ g => exact ⟨g, by omega, h2 g g2⟩
end ZWK
/-- all within a million -/
def okLs (st : List PVal) : Prop := ∀ x ∈ st, x.1 ≤ 1 ∧ fFin x.2 ∧ okLim x.2 = true
theorem okLs.k {st : List PVal} (h : okLs st) : okStk st := fun x hx => ⟨(h x hx).1, (h x hx).2.1⟩
theorem pushS_ls {kd : Nat} {v : UInt32} {st st' : List PVal} (h : pushS kd v st = some st') (hv : vf_n32 v) (ho : okLs st) : okLs st' ∧ st' = (kd, v) :: st := by
  unfold pushS at h
  split at h
  · rename_i g
    rw [Bool.and_eq_true, decide_eq_true_eq] at g
    cases h
    refine ⟨fun x hx => ?_, rfl⟩
    rcases List.mem_cons.mp hx with rfl | q
    · exact ⟨g.1, okLim_fin hv g.2, g.2⟩
    · exact ho x q
  · cases h
theorem numS_ls {wanted : Nat} {em whole : UInt32} {u : Nat} {v : UInt32} {st st' : List PVal} (hv : fFin v) (he : fFin em) (hw : fFin whole) (h : numS wanted em whole u v st = some st') (ho : okLs st) : okLs st' ∧ st'.length = st.length + 1 := by
  have h100 : vf_n32 (FP.fdiv (FP.fmul v whole) 1120403456) := fdiv_n (fmul_n hv hw) (fFin_of (by decide)) (by decide)
  unfold numS at h
  split at h
  · obtain ⟨a, b⟩ := pushS_ls h hv.n ho
    exact ⟨a, by rw [b]; rfl⟩
  · split at h
    · obtain ⟨a, b⟩ := pushS_ls h (fmul_n hv he) ho
      exact ⟨a, by rw [b]; rfl⟩
    · split at h
      · obtain ⟨a, b⟩ := pushS_ls h h100 ho
        exact ⟨a, by rw [b]; rfl⟩
      · obtain ⟨a, b⟩ := pushS_ls h hv.n ho
        exact ⟨a, by rw [b]; rfl⟩
theorem negS_ls {st st' : List PVal} (h : negS st = some st') (ho : okLs st) : okLs st' ∧ st'.length = st.length := by
  cases st with
  | nil => cases h
  | cons y st =>
    obtain ⟨k, a⟩ := y
    cases h
    have := ho (k, a) List.mem_cons_self
    refine ⟨fun x hx => ?_, rfl⟩
    rcases List.mem_cons.mp hx with rfl | q
    · exact ⟨this.1, fFin_neg this.2.1, okLim_neg this.2.1 this.2.2⟩
    · exact ho x (List.mem_cons_of_mem _ q)
theorem comS_ls {s : Nat} {st st' : List PVal} (h : comS s st = some st') (ho : okLs st) : okLs st' ∧ st'.length + 1 = st.length := by
  match st, h, ho with
  | (k2, b) :: (k1, a) :: st, h, ho =>
    have oy := ho (k2, b) List.mem_cons_self
    have oz := ho (k1, a) (List.mem_cons_of_mem _ List.mem_cons_self)
    have q2 : fFin b := oy.2.1
    have q4 : fFin a := oz.2.1
    have o2 : okLs st := fun x hx => ho x (List.mem_cons_of_mem _ (List.mem_cons_of_mem _ hx))
    have h2 : (if s = 5 then (if k1 = k2 then pushS k1 (FP.fadd a b) st else none) else if s = 6 then (if k1 = k2 then pushS k1 (FP.fsub a b) st else none) else if s = 7 then (if k1 = 0 ∨ k2 = 0 then pushS (if k1 = 0 then k2 else k1) (FP.fmul a b) st else none) else (if k2 = 0 ∧ ¬ FP.fcmp b 0 = some .eq then pushS k1 (FP.fdiv a b) st else none)) = some st' := h
    split at h2
    · split at h2
      · obtain ⟨x, y⟩ := pushS_ls h2 (fadd_n q4 q2) o2
        exact ⟨x, by rw [y]; rfl⟩
      · cases h2
    · split at h2
      · split at h2
        · obtain ⟨x, y⟩ := pushS_ls h2 (fsub_n q4 q2) o2
          exact ⟨x, by rw [y]; rfl⟩
        · cases h2
      · split at h2
        · split at h2
          · obtain ⟨x, y⟩ := pushS_ls h2 (fmul_n q4 q2) o2
            exact ⟨x, by rw [y]; rfl⟩
          · cases h2
        · split at h2
          · rename_i g
            obtain ⟨x, y⟩ := pushS_ls h2 (fdiv_n q4.n q2 (fun z => g.2 (zero_cmp z))) o2
            exact ⟨x, by rw [y]; rfl⟩
          · cases h2
/-! tables of the rule in work -/
def flP : List PDecl → List PStep
  | [] => []
  | D :: l => D.2.2.2 ++ flP l
theorem flP_map {og : Nat} : ∀ (ds : List PDm), flP (ds.map (mkD og)) = flD ds
  | [] => rfl
  | x :: ds => by
    show x.2.2.2 ++ flP (ds.map (mkD og)) = x.2.2.2 ++ flD ds
    rw [flP_map ds]
def aR (R : PRule) (i : Nat) : Nat := (flP (R.2.take i)).length
def tblR (sg : ZM) (R : PRule) (i : Nat) (D : PDecl) : Prop := i < 4 ∧ aR R i + D.2.2.2.length ≤ 120 ∧ ma sg 20 i = nI (aR R i) ∧ ma sg 20 (i + 1) = nI (aR R i + D.2.2.2.length) ∧ ∀ q s, D.2.2.2[q]? = some s → ma sg 21 (aR R i + q) = nI (cvC s.1) ∧ mg sg 22 (aR R i + q) = s.2
theorem rdK.tb {sg : ZM} {R : PRule} {og i : Nat} {D : PDecl} (h : rdK sg R og) (hD : R.2[i]? = some D) : tblR sg R i D := by
  obtain ⟨ts, ds, z1, -, -, -, ⟨-, g3, g4, g5⟩, z6, -, z8, -⟩ := h
  have hD2 := hD
  rw [z1, List.getElem?_map] at hD2
  obtain ⟨x, hx, rfl⟩ := Option.map_eq_some_iff.mp hD2
  have hi := (List.getElem?_eq_some_iff.mp hx).1
  have ha : aR R i = (flD (ds.take i)).length := by
    unfold aR
    rw [z1, ← List.map_take, flP_map]
  have hne : ds ≠ [] := fun q => by rw [q] at hi; exact absurd hi (Nat.not_lt_zero i)
  have e1 : ds.take (i + 1) = ds.take i ++ [x] := by rw [List.take_add_one, hx]; rfl
  have e2 : (flD (ds.take (i + 1))).length = (flD (ds.take i)).length + x.2.2.2.length := by
    rw [e1, flD_app, List.length_append]
    show _ + (x.2.2.2 ++ []).length = _
    rw [List.append_nil]
  have e3 : ds = ds.take i ++ x :: ds.drop (i + 1) := by
    have h9 := List.take_append_drop (i + 1) ds
    rw [e1, List.append_assoc] at h9
    exact h9.symm
  have e4 : flD ds = flD (ds.take i) ++ (x.2.2.2 ++ flD (ds.drop (i + 1))) := by
    conv => lhs; rw [e3]
    rw [flD_app]
    rfl
  have hlen : (flD ds).length = (flD (ds.take i)).length + (x.2.2.2.length + (flD (ds.drop (i + 1))).length) := by
    conv => lhs; rw [e4]
    rw [List.length_append, List.length_append]
  have hst : (mkD og x).2.2.2 = x.2.2.2 := rfl
  unfold tblR
  rw [ha, hst]
  refine ⟨by omega, by omega, g4 hne i (by omega), ?_, fun q s hq => ?_⟩
  · rw [g4 hne (i + 1) (by omega), e2]
  · have hq9 := (List.getElem?_eq_some_iff.mp hq).1
    refine g5 _ s ?_
    conv => lhs; rw [e4]
    rw [List.getElem?_append_right (by omega), Nat.add_sub_cancel_left, List.getElem?_append_left hq9]
    exact hq
/-- what the working out of a sum may change -/
def wB (a b : ZM) : Prop := (∀ j, ¬ (12 ≤ j ∧ j ≤ 32) → j ≠ 45 → j ≠ 48 → j ≠ 56 → mi b j = mi a j) ∧ (∀ j i, ¬ (10 ≤ j ∧ j ≤ 23) → ¬ (33 ≤ j ∧ j ≤ 40) → ma b j i = ma a j i) ∧ ∀ j i, j ≠ 22 → j ≠ 32 → j ≠ 39 → mg b j i = mg a j i
theorem wB.rf {a : ZM} : wB a a := ⟨fun _ _ _ _ _ => rfl, fun _ _ _ _ => rfl, fun _ _ _ _ _ => rfl⟩
theorem wB.tr {a b c : ZM} (h : wB a b) (g : wB b c) : wB a c := ⟨fun j p q r s => (g.1 j p q r s).trans (h.1 j p q r s), fun j i p q => (g.2.1 j i p q).trans (h.2.1 j i p q), fun j i p q r => (g.2.2 j i p q r).trans (h.2.2 j i p q r)⟩
theorem rKp.b {a b : ZM} (h : rKp a b) : wB a b := ⟨fun j p _ _ _ => h.1 j p, fun j i p _ => h.2.1 j i p, fun j i p _ _ => h.2.2 j i p⟩
theorem wkK.b {a b : ZM} {H : Nat} (h : wkK a b H) : wB a b := ⟨fun j _ p _ q => h.1 j p q, fun j i _ q => h.2.1 j i (by omega), fun j i _ q _ => h.2.2 j i (by omega)⟩
theorem wB.I {a b : ZM} {T : List PEl} {Rs : List PRule} {B : List Nat} (h : wB a b) (t : mdI a T Rs B) : mdI b T Rs B := ⟨t.1.fr (h.1 1 (by decide) (by decide) (by decide) (by decide)) (fun j i _ _ => h.2.1 j i (by omega) (by omega)), t.2.fr (h.1 8 (by decide) (by decide) (by decide) (by decide)) (fun j i _ _ => h.2.1 j i (by omega) (by omega)) (fun j i _ _ => h.2.1 j i (by omega) (by omega))⟩
theorem wB.S {a b : ZM} {T : List PEl} {Rs : List PRule} (h : wB a b) (hT : T.length ≤ 24) (t : svT a T Rs) : svT b T Rs := fun r R hR => (t r R hR).fr hT (h.2.1 27 r (by decide) (by decide)) (h.2.1 9 r (by decide) (by decide)) (fun j i _ _ _ _ => h.2.1 j i (by omega) (by omega)) (fun i _ _ => h.2.1 26 i (by decide) (by decide))
