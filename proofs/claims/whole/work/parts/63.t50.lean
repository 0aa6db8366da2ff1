/-! ===== Reckoner.workOut: its first loop, and what its second keeps ===== -/
def onP (T : List PEl) : Nat → Nat → Nat → Bool
  | 0, _, _ => false
  | f + 1, e0, e => decide (e0 = e) || (match tP T e0 with
    | none => false
    | some p => onP T f p e)
theorem onP_le {T : List PEl} (hw : wfT T) : ∀ {f e0 e : Nat}, onP T f e0 e = true → e ≤ e0
  | 0, e0, e, h => by cases h
  | f + 1, e0, e, h => by
    unfold onP at h
    rw [Bool.or_eq_true, decide_eq_true_eq] at h
    rcases h with h | h
    · omega
    · cases hp : tP T e0 with
      | none => rw [hp] at h; cases h
      | some p =>
        rw [hp] at h
        have := onP_le hw h
        have := hw.2.1 e0 p hp
        omega
theorem onP_self {T : List PEl} {f e : Nat} (h : 0 < f) : onP T f e e = true := by
  cases f with
  | zero => cases h
  | succ f => unfold onP; rw [decide_eq_true rfl, Bool.true_or]
theorem onP_path {T : List PEl} (hw : wfT T) : ∀ {f e0 : Nat}, e0 < f → pathP T (fun e => onP T f e0 e = true)
  | 0, e0, h => absurd h (Nat.not_lt_zero e0)
  | f + 1, e0, hf => fun e p h hp => by
    show onP T (f + 1) e0 p = true
    have h : onP T (f + 1) e0 e = true := h
    unfold onP at h ⊢
    rw [Bool.or_eq_true, decide_eq_true_eq] at h ⊢
    right
    rcases h with rfl | h
    · rw [hp]
      have := hw.2.1 e0 p hp
      exact onP_self (by omega)
    · cases hq : tP T e0 with
      | none => rw [hq] at h; cases h
      | some q =>
        rw [hq] at h
        have := hw.2.1 e0 q hq
        exact onP_path hw (f := f) (e0 := q) (by omega) e p h hp
/-- the desk's inner cells and the elements' rows of named values -/
def X0 (x : Nat) (A : Nat → Nat) (n : Nat) : Nat → Prop := fun a => XD x a ∨ ∃ e, e < n ∧ (a = A e + 7 ∨ a = A e + 8)
theorem layA.nX0 {x n : Nat} {A : Nat → Nat} {RG : Nat → Nat → Prop} (h : layA x n A RG) {i j : Nat} (hi : i < n) (hj : j < 7) : ¬ X0 x A n (A i + j) := fun q => by
  have h0 := h.1 i hi
  rcases q with ⟨q1, q2⟩ | ⟨e, h4, h5⟩
  · omega
  · rcases Nat.lt_trichotomy e i with q | q | q
    · have := h.2.1 e i q hi; omega
    · subst q; omega
    · have := h.2.1 i e q h4; omega
theorem layA.dX0 {x n : Nat} {A : Nat → Nat} {RG : Nat → Nat → Prop} (h : layA x n A RG) {j : Nat} (hj : j < 3) : ¬ X0 x A n (x + j) := fun q => by
  rcases q with ⟨q1, q2⟩ | ⟨e, h4, h5⟩
  · omega
  · have := h.1 e h4; omega
theorem layA.rX0 {x n : Nat} {A : Nat → Nat} {RG : Nat → Nat → Prop} (h : layA x n A RG) : apRG RG (X0 x A n) := fun lo hi b g1 g2 g3 g4 => by
  obtain ⟨l1, l2⟩ := h.2.2 lo hi g1
  rcases g4 with ⟨q1, q2⟩ | ⟨e, h4, h5⟩
  · omega
  · rcases l2 e h4 with q | q <;> omega
theorem envA.w {w w' : ZW} {x nr : Nat} {T : List PEl} {A : Nat → Nat} {DC : Nat → PDecl → Prop} {RG : Nat → Nat → Prop} (h : envA w x nr T A DC RG) (e : ech (X0 x A T.length) w w') : envA w' x nr T A DC RG := by
  obtain ⟨h1, h2, h3, h4, h5, h6⟩ := h
  exact ⟨h1, h2.e e (h1.dX0 (j := 0) (by decide)), h3.e e (fun i hi => h1.nX0 (j := 0) hi (by decide)), h4.e e (h1.dX0 (j := 1) (by decide)), fun i hi => (h5 i hi).e e (h1.nX0 (j := 1) hi (by decide)), h6.e e h1.rX0⟩
theorem leadsW.w {w w' : ZW} {x nr : Nat} {T : List PEl} {A : Nat → Nat} {DC : Nat → PDecl → Prop} {RG : Nat → Nat → Prop} {L : Nat → Nat → PLd} (h : leadsW w T A DC L) (hE : envA w x nr T A DC RG) (e : ech (X0 x A T.length) w w') : leadsW w' T A DC L := fun i hi n hn => (h i hi n hn).e e (hE.1.nX0 (j := 2) hi (by decide)) (hE.1.nX0 (j := 3) hi (by decide)) (hE.1.nX0 (j := 4) hi (by decide))
theorem rwo_1 (E : ZE) (sg : ZM) (d : Nat) (hd : 1 ≤ d) (k a0 pe x nr : Nat) (T : List PEl) (A : Nat → Nat) (DC : Nat → PDecl → Prop) (RG : Nat → Nat → Prop) (P : ZPhi) : ∀ (f e : Nat) (w : ZW), e < f → e < T.length → envA w x nr T A DC RG → (∀ w', ech (fun a => ∃ e', onP T f e e' = true ∧ a = A e' + 7) w w' → (∀ e', onP T f e e' = true → ∀ i, i < 4 → za w' (A e' + 7) i = nI 4) → RW E MX4_workOut 25 [some (.ref k), some (.ref a0), some (.ref pe), some .null, none, none, none, none] [] w' sg d 0 0 P) → RW E MX4_workOut 2 [some (.ref k), some (.ref a0), some (.ref pe), some (.ref (A e)), none, none, none, none] [] w sg d 0 0 P
  | 0, e, w, h1, h2, hE, Kc => absurd h1 (Nat.not_lt_zero e)
  | f + 1, e, w, h1, h2, hE, Kc => by
    obtain ⟨f0, -, f1, -, -, -, -, -, -, -, -, f10, -⟩ := hE.2.2.1.2 e h2
    have hwf := hE.2.2.1.1
    obtain ⟨⟨s1, s2, s3, s4, s5, s6, s7, s8⟩, ⟨t1, t2, t3, t4, t5, t6, t7⟩, m1, m2, m3, m4, m5, m6, m7⟩ := hE.2.2.2.2.1 e h2
    have e1 : ech (fun a => a = A e + 7) w (zsA w (A e + 7) (fun j => if j < 4 then nI 4 else za w (A e + 7) j)) := ech.sA (X := fun a => a = A e + 7) rfl
    have eX : ech (X0 x A T.length) w (zsA w (A e + 7) (fun j => if j < 4 then nI 4 else za w (A e + 7) j)) := e1.to (fun a g => Or.inr ⟨e, h2, Or.inl g⟩)
    have hE1 := hE.w eX
    obtain ⟨f0', -, f1', -⟩ := hE1.2.2.1.2 e h2
    have ht6 : zk w (A e + 7) = 22 := t6
    have hm6 : zln w (A e + 7) = 4 := m6
    cases hp : tP T e with
    | none =>
      rw [hp] at f1'
      have f2 : zr (zsA w (A e + 7) (fun j => if j < 4 then nI 4 else za w (A e + 7) j)) 300 (A e) = none := f1'
      have hon : ∀ e', onP T (f + 1) e e' = true → e' = e := fun e' g => by
        unfold onP at g
        rw [hp, Bool.or_false, decide_eq_true_eq] at g
        exact g.symm
      refine r_aload_n dX4_workOut_2 rfl (by first | exact zRv_ref _ | exact zRv_null | exact zRv_rf _ | assumption) rfl ?_
      refine r_ifnullR (r := 25) dX4_workOut_3 (by decide) rfl (fun c_3 => ?_) (fun a_3 c_3 => ?_)
      · cases c_3
      · refine r_aload_n dX4_workOut_6 rfl (by first | exact zRv_ref _ | exact zRv_null | exact zRv_rf _ | assumption) rfl ?_
        refine r_gets 2 9 309 lfX4_39 (by first | (simp only [zKS]; first | assumption) | assumption | exact zk_nself _ _ _ | (simp [zKS, zNS, *]; done)) rfl rfl (by first | (simp only [zGS, Nat.reduceEqDiff, OfNat.ofNat_ne_ofNat, false_and, and_false, true_and, and_true, and_self, if_true, if_false, ite_true, ite_false, reduceIte, reduceCtorEq]; first | done | assumption) | assumption | exact z2_eq | (simp [zGS]; first | done | assumption)) dX4_workOut_7 rfl ?_
        refine r_gets 7 5 805 lfX4_79 (by first | (simp only [zKS]; first | assumption) | assumption | exact zk_nself _ _ _ | (simp [zKS, zNS, *]; done)) rfl rfl (by first | (simp only [zGS, Nat.reduceEqDiff, OfNat.ofNat_ne_ofNat, false_and, and_false, true_and, and_true, and_self, if_true, if_false, ite_true, ite_false, reduceIte, reduceCtorEq]; first | done | assumption) | assumption | exact z2_eq | (simp [zGS]; first | done | assumption)) dX4_workOut_10 rfl ?_
        refine r_iconst dX4_workOut_13 kc_4 rfl ?_
        refine r_callS MJ7_fill_53178 2 [_, _] lsX4_82 (sp_fill E w sg (d - 1) (A e + 7) 4 (nI 4) ht6 hm6 (by decide)) rfl rfl (by first | exact Nat.le_of_ble_eq_true rfl | (simp [zcat_rf, Value.category]; done)) (by omega) (Nat.le_of_eq (Nat.zero_add _)) (Nat.le_of_eq (Nat.zero_add _)) dX4_workOut_14 rfl (fun v_ w_ sg_ hq_ => ?_)
        obtain ⟨rfl, rfl, rfl⟩ := hq_
        refine r_aload_n dX4_workOut_17 rfl (by first | exact zRv_ref _ | exact zRv_null | exact zRv_rf _ | assumption) rfl ?_
        refine r_getr 2 0 300 lfX4_31 (by first | (simp only [zKS]; first | assumption) | assumption | exact zk_nself _ _ _ | (simp [zKS, zNS, *]; done)) rfl rfl dX4_workOut_18 rfl ?_
        rw [f2]
        refine r_astore_n (ls' := [_, _, _, _, _, _, _, _]) dX4_workOut_21 (Nat.le_of_ble_eq_true rfl) (by first | exact zRv_ref _ | exact zRv_null | exact zRv_rf _ | assumption) rfl rfl ?_
        refine r_goto (r := 2) dX4_workOut_22 (by decide) ?_
        refine r_aload_n dX4_workOut_2 rfl (by first | exact zRv_ref _ | exact zRv_null | exact zRv_rf _ | assumption) rfl ?_
        refine r_ifnullZ (r := 25) dX4_workOut_3 (by decide) rfl (fun c_3 => ?_) (fun a_3 c_3 => ?_)
        · skip -- go
          exact Kc _ (e1.to (fun a g => ⟨e, onP_self (Nat.succ_pos f), g⟩)) (fun e' g i hi => by rw [hon e' g, za_zsA, if_pos hi])
        · cases c_3
    | some p =>
      rw [hp] at f1'
      have f2 : zr (zsA w (A e + 7) (fun j => if j < 4 then nI 4 else za w (A e + 7) j)) 300 (A e) = some (A p) := f1'
      have hpe := hwf.2.1 e p hp
      have hon : ∀ e', onP T (f + 1) e e' = true ↔ e = e' ∨ onP T f p e' = true := fun e' => by
        have h9 : onP T (f + 1) e e' = (decide (e = e') || onP T f p e') := by
          conv => lhs; unfold onP
          rw [hp]
        rw [h9, Bool.or_eq_true, decide_eq_true_eq]
      refine r_aload_n dX4_workOut_2 rfl (by first | exact zRv_ref _ | exact zRv_null | exact zRv_rf _ | assumption) rfl ?_
      refine r_ifnullR (r := 25) dX4_workOut_3 (by decide) rfl (fun c_3 => ?_) (fun a_3 c_3 => ?_)
      · cases c_3
      · refine r_aload_n dX4_workOut_6 rfl (by first | exact zRv_ref _ | exact zRv_null | exact zRv_rf _ | assumption) rfl ?_
        refine r_gets 2 9 309 lfX4_39 (by first | (simp only [zKS]; first | assumption) | assumption | exact zk_nself _ _ _ | (simp [zKS, zNS, *]; done)) rfl rfl (by first | (simp only [zGS, Nat.reduceEqDiff, OfNat.ofNat_ne_ofNat, false_and, and_false, true_and, and_true, and_self, if_true, if_false, ite_true, ite_false, reduceIte, reduceCtorEq]; first | done | assumption) | assumption | exact z2_eq | (simp [zGS]; first | done | assumption)) dX4_workOut_7 rfl ?_
        refine r_gets 7 5 805 lfX4_79 (by first | (simp only [zKS]; first | assumption) | assumption | exact zk_nself _ _ _ | (simp [zKS, zNS, *]; done)) rfl rfl (by first | (simp only [zGS, Nat.reduceEqDiff, OfNat.ofNat_ne_ofNat, false_and, and_false, true_and, and_true, and_self, if_true, if_false, ite_true, ite_false, reduceIte, reduceCtorEq]; first | done | assumption) | assumption | exact z2_eq | (simp [zGS]; first | done | assumption)) dX4_workOut_10 rfl ?_
        refine r_iconst dX4_workOut_13 kc_4 rfl ?_
        refine r_callS MJ7_fill_53178 2 [_, _] lsX4_82 (sp_fill E w sg (d - 1) (A e + 7) 4 (nI 4) ht6 hm6 (by decide)) rfl rfl (by first | exact Nat.le_of_ble_eq_true rfl | (simp [zcat_rf, Value.category]; done)) (by omega) (Nat.le_of_eq (Nat.zero_add _)) (Nat.le_of_eq (Nat.zero_add _)) dX4_workOut_14 rfl (fun v_ w_ sg_ hq_ => ?_)
        obtain ⟨rfl, rfl, rfl⟩ := hq_
        refine r_aload_n dX4_workOut_17 rfl (by first | exact zRv_ref _ | exact zRv_null | exact zRv_rf _ | assumption) rfl ?_
        refine r_getr 2 0 300 lfX4_31 (by first | (simp only [zKS]; first | assumption) | assumption | exact zk_nself _ _ _ | (simp [zKS, zNS, *]; done)) rfl rfl dX4_workOut_18 rfl ?_
        rw [f2]
        refine r_astore_n (ls' := [_, _, _, _, _, _, _, _]) dX4_workOut_21 (Nat.le_of_ble_eq_true rfl) (by first | exact zRv_ref _ | exact zRv_null | exact zRv_rf _ | assumption) rfl rfl ?_
        refine r_goto (r := 2) dX4_workOut_22 (by decide) ?_
        refine rwo_1 E sg d hd k a0 pe x nr T A DC RG P f p _ (by omega) (by omega) hE1 (fun w' g1 g2 => Kc w' ?_ (fun e' g i hi => ?_))
        · exact (e1.to (fun a g => ⟨e, (hon e).mpr (Or.inl rfl), g⟩)).tr g1 (fun a ⟨e', q1, q2⟩ => ⟨e', (hon e').mpr (Or.inr q1), q2⟩)
        · rcases (hon e').mp g with rfl | g
          · rw [(g1.2.2.2 (A e + 7) (fun ⟨e', q1, q2⟩ => by
              have q3 := onP_le hwf q1
              have q4 := hE.1.2.1 e' e (by omega) h2
              omega)).a, za_zsA, if_pos hi]
          · exact g2 e' g i hi
/-! what the second loop keeps -/
def osAt (w : ZW) (k : Nat) (A : Nat → Nat) : List (Nat × Nat) → Prop
  | [] => True
  | (e, n) :: os => zq w (k + 4) os.length = some (A e) ∧ za w (k + 5) os.length = nI (6 + n) ∧ osAt w k A os
theorem osAt.fr {w w' : ZW} {k : Nat} {A : Nat → Nat} : ∀ {os : List (Nat × Nat)}, osAt w k A os → (∀ i, i < os.length → zq w' (k + 4) i = zq w (k + 4) i ∧ za w' (k + 5) i = za w (k + 5) i) → osAt w' k A os
  | [], _, _ => trivial
  | (e, n) :: os, ⟨h1, h2, h3⟩, g => ⟨(g os.length (Nat.lt_succ_self _)).1.trans h1, (g os.length (Nat.lt_succ_self _)).2.trans h2, h3.fr (fun i hi => g i (Nat.lt_succ_of_lt hi))⟩
theorem bcnt_congr {f g : Nat → Bool} : ∀ {n : Nat}, (∀ i, i < n → f i = g i) → bcnt f n = bcnt g n
  | 0, _ => rfl
  | n + 1, h => by
    unfold bcnt
    rw [bcnt_congr (fun i hi => h i (Nat.lt_succ_of_lt hi)), h n (Nat.lt_succ_self n)]
theorem bcnt_dec {f g : Nat → Bool} {j : Nat} (h1 : f j = true) (h2 : g j = false) (h3 : ∀ i, i ≠ j → g i = f i) : ∀ {n : Nat}, j < n → bcnt g n + 1 = bcnt f n
  | 0, h => absurd h (Nat.not_lt_zero j)
  | n + 1, h => by
    unfold bcnt
    by_cases e : j = n
    · subst e
      rw [h1, h2, bcnt_congr (fun i hi => h3 i (by omega))]
      simp
    · have := bcnt_dec h1 h2 h3 (n := n) (by omega)
      rw [h3 n (fun q => e q.symm)]
      omega
def unkN (Q : Nat → Bool) (K : PKn) : Nat := bcnt (fun j => Q (j / 4) && decide ((K (j / 4) (j % 4)).1 = 4)) 96
def putK (K : PKn) (e n : Nat) (v : PVal) : PKn := fun e' n' => if e' = e ∧ n' = n then v else K e' n'
theorem unkN_le (Q : Nat → Bool) (K : PKn) : unkN Q K ≤ 96 := bcnt_le _ _
theorem unkN_put {Q : Nat → Bool} {K : PKn} {e n : Nat} {v : PVal} (hv : v.1 ≠ 4) (hQ : Q e = true) (he : e < 24) (hn : n < 4) (h4 : (K e n).1 = 4) : unkN Q (putK K e n v) + 1 = unkN Q K := by
  unfold unkN
  refine bcnt_dec (j := 4 * e + n) ?_ ?_ (fun i hi => ?_) (by omega)
  · rw [show (4 * e + n) / 4 = e by omega, show (4 * e + n) % 4 = n by omega, hQ, decide_eq_true h4]; rfl
  · rw [show (4 * e + n) / 4 = e by omega, show (4 * e + n) % 4 = n by omega]
    unfold putK
    rw [if_pos ⟨rfl, rfl⟩, decide_eq_false hv, Bool.and_false]
  · unfold putK
    rw [if_neg (fun q => hi (by omega))]
theorem unkN_keep {Q : Nat → Bool} {K : PKn} {e n : Nat} {v : PVal} (hv : v.1 ≠ 4) (h4 : (K e n).1 ≠ 4) : unkN Q (putK K e n v) = unkN Q K := by
  unfold unkN
  refine bcnt_congr (fun i _ => ?_)
  unfold putK
  by_cases q : i / 4 = e ∧ i % 4 = n
  · rw [if_pos q, decide_eq_false hv]
    rw [← q.1, ← q.2] at h4
    rw [decide_eq_false h4]
  · rw [if_neg q]
/-- one slot's sum cannot do without another's -/
def lead2 (T : List PEl) (L : Nat → Nat → PLd) (wanted : Nat) (em whole : UInt32) (D : PDecl) (e : Nat) (D' : PDecl) (e' : Nat) : Prop := ∀ f, ev T L wanted em whole f D e ≠ none → ∃ g, g ≤ f ∧ ev T L wanted em whole g D' e' ≠ none
theorem lead2.tr {T : List PEl} {L : Nat → Nat → PLd} {wanted : Nat} {em whole : UInt32} {D1 D2 D3 : PDecl} {e1 e2 e3 : Nat} (h : lead2 T L wanted em whole D1 e1 D2 e2) (g : lead2 T L wanted em whole D2 e2 D3 e3) : lead2 T L wanted em whole D1 e1 D3 e3 := fun f hf => by
  obtain ⟨f2, l2, h2⟩ := h f hf
  obtain ⟨f3, l3, h3⟩ := g f2 h2
  exact ⟨f3, by omega, h3⟩
theorem lead2_ask {T : List PEl} {L : Nat → Nat → PLd} {wanted : Nat} {em whole : UInt32} {D D' : PDecl} {pl e n : Nat} (hs : ∃ s ∈ D.2.2.2, 9 ≤ s.1 ∧ s.1 - 9 = n) (hf : fnd T L (6 + n) (pl + 1) pl = some (e, D')) : lead2 T L wanted em whole D pl D' e := fun f hne => by
  cases f with
  | zero => exact absurd rfl hne
  | succ f =>
    cases hv : ev T L wanted em whole (f + 1) D pl with
    | none => exact absurd hv hne
    | some v =>
      unfold ev at hv
      obtain ⟨s, hs1, hs2, hs3⟩ := hs
      obtain ⟨u, hu⟩ := runS_asks _ _ _ (one1_some hv) s hs1 hs2
      rw [hs3] at hu
      rw [hf] at hu
      have hu2 : ev T L wanted em whole f D' e = some u := hu
      exact ⟨f, Nat.le_succ f, by rw [hu2]; exact fun q => by cases q⟩
/-- a sum that pass finds broken gives nothing -/
theorem ev_none {T : List PEl} {L : Nat → Nat → PLd} {K : PKn} {wanted : Nat} {em whole : UInt32} {P : Nat → Prop} (hP : pathP T P) (hG : goodK T L wanted em whole P K) (hK4 : okK K) {pl : Nat} (hpl : P pl) {D : PDecl} (h13 : ∀ s ∈ D.2.2.2, s.1 < 13) (hO : ∀ e n D', P e → n < 4 → slotD L e n = some D' → (K e n).1 = 3 → lead2 T L wanted em whole D' e D pl) (h : pasS T L K wanted em whole pl D.2.2.2 [] = .inr none) : ∀ f, ev T L wanted em whole f D pl = none := by
  intro f
  induction f using Nat.strongRecOn with
  | ind f ih =>
    cases f with
    | zero => rfl
    | succ f =>
      have h1 := pasS_bad hP hG hK4 hpl f (fun e n D' q1 q2 q3 q4 => by
        cases hv : ev T L wanted em whole f D' e with
        | none => rfl
        | some v =>
          obtain ⟨g, hg, hne⟩ := hO e n D' q1 q2 q3 q4 f (by rw [hv]; exact fun q => by cases q)
          exact absurd (ih g (by omega)) hne) D.2.2.2 [] h13 h
      unfold ev
      show one1 (runS wanted em whole (nmE T L wanted em whole pl f) D.2.2.2 []) = none
      rw [h1]
      rfl
