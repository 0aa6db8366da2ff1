/-! ===== Reckoner.find, open, setUnits ===== -/
def fnd (T : List PEl) (L : Nat → Nat → PLd) (n : Nat) : Nat → Nat → Option (Nat × PDecl)
  | 0, _ => none
  | f + 1, e => match L e n with
    | none => (match tP T e with
      | none => none
      | some p => fnd T L n f p)
    | some (_, D, _) => if D.2.1 = 0 then (match tP T e with
      | none => none
      | some p => fnd T L n f p) else if D.2.1 = 2 then some (e, D) else none
def leadsW (w : ZW) (T : List PEl) (A : Nat → Nat) (DC : Nat → PDecl → Prop) (L : Nat → Nat → PLd) : Prop := ∀ e, e < T.length → ∀ n, n < 10 → isLd w (A e + 1) DC n (L e n)
def fndQ (A : Nat → Nat) (w : ZW) (sg : ZM) (o : Option (Nat × PDecl)) : ZQ := fun v w' sg' => v = some (va_rf (o.map fun q => A q.1)) ∧ w = w' ∧ sg = sg'
theorem rfind_null (E : ZE) (sg : ZM) (d k n p0 : Nat) (w : ZW) (A : Nat → Nat) (x4 : Option Value) : RW E MX4_find 2 [some (.ref k), some (.int (nI n)), some (.ref p0), some .null, x4] [] w sg d 0 0 (PN E (fndQ A w sg none)) := by
  refine r_aload_n dX4_find_2 rfl (by first | exact zRv_ref _ | exact zRv_null | exact zRv_rf _ | assumption) rfl ?_
  refine r_ifnullZ (r := 53) dX4_find_3 (by decide) rfl (fun c_3 => ?_) (fun a_3 c_3 => ?_)
  · refine r_aconst_null dX4_find_53 rfl ?_
    refine r_aret rfl (by first | exact Or.inl ⟨_, rfl⟩ | exact Or.inr ⟨_, rfl⟩) (by first | exact zRv_ref _ | exact zRv_null | exact zRv_rf _ | assumption) dX4_find_54 ?_
    exact ⟨rfl, rfl, rfl⟩
  · cases c_3
theorem rfind_up (E : ZE) (sg : ZM) (d k n p0 nr : Nat) (w : ZW) (x : Nat) (T : List PEl) (A : Nat → Nat) (DC : Nat → PDecl → Prop) (RG : Nat → Nat → Prop) (hE : envA w x nr T A DC RG) (e : Nat) (he : e < T.length) (F : Nat → Option (Nat × PDecl)) (hF : ∀ p, tP T e = some p → ∀ x4, RW E MX4_find 2 [some (.ref k), some (.int (nI n)), some (.ref p0), some (.ref (A p)), x4] [] w sg d 0 0 (PN E (fndQ A w sg (F p)))) (x4 : Option Value) : RW E MX4_find 45 [some (.ref k), some (.int (nI n)), some (.ref p0), some (.ref (A e)), x4] [] w sg d 0 0 (PN E (fndQ A w sg (match tP T e with | none => none | some p => F p))) := by
  obtain ⟨f0, -, f1, -⟩ := hE.2.2.1.2 e he
  cases hp : tP T e with
  | none =>
    rw [hp] at f1
    have f2 : zr w 300 (A e) = none := f1
    refine r_aload_n dX4_find_45 rfl (by first | exact zRv_ref _ | exact zRv_null | exact zRv_rf _ | assumption) rfl ?_
    refine r_getr 2 0 300 lfX4_31 (by first | (simp only [zKS]; first | assumption) | assumption | exact zk_nself _ _ _ | (simp [zKS, zNS, *]; done)) rfl rfl dX4_find_46 rfl ?_
    rw [f2]
    refine r_astore_n (ls' := [_, _, _, _, _]) dX4_find_49 (Nat.le_of_ble_eq_true rfl) (by first | exact zRv_ref _ | exact zRv_null | exact zRv_rf _ | assumption) rfl rfl ?_
    refine r_goto (r := 2) dX4_find_50 (by decide) ?_
    exact rfind_null E sg d k n p0 w A x4
  | some p =>
    rw [hp] at f1
    have f2 : zr w 300 (A e) = some (A p) := f1
    refine r_aload_n dX4_find_45 rfl (by first | exact zRv_ref _ | exact zRv_null | exact zRv_rf _ | assumption) rfl ?_
    refine r_getr 2 0 300 lfX4_31 (by first | (simp only [zKS]; first | assumption) | assumption | exact zk_nself _ _ _ | (simp [zKS, zNS, *]; done)) rfl rfl dX4_find_46 rfl ?_
    rw [f2]
    refine r_astore_n (ls' := [_, _, _, _, _]) dX4_find_49 (Nat.le_of_ble_eq_true rfl) (by first | exact zRv_ref _ | exact zRv_null | exact zRv_rf _ | assumption) rfl rfl ?_
    refine r_goto (r := 2) dX4_find_50 (by decide) ?_
    exact hF p hp x4
theorem rfind_loop (E : ZE) (sg : ZM) (d k n p0 nr : Nat) (hn : n < 10) (w : ZW) (x : Nat) (T : List PEl) (A : Nat → Nat) (DC : Nat → PDecl → Prop) (RG : Nat → Nat → Prop) (hE : envA w x nr T A DC RG) (L : Nat → Nat → PLd) (hL : leadsW w T A DC L) : ∀ (f e : Nat) (x4 : Option Value), e < f → e < T.length → RW E MX4_find 2 [some (.ref k), some (.int (nI n)), some (.ref p0), some (.ref (A e)), x4] [] w sg d 0 0 (PN E (fndQ A w sg (fnd T L n f e)))
  | 0, e, x4, h1, h2 => absurd h1 (Nat.not_lt_zero e)
  | f + 1, e, x4, h1, h2 => by
    obtain ⟨f0, -, f1, -, -, -, -, -, -, -, -, f10, -⟩ := hE.2.2.1.2 e h2
    have hwf := hE.2.2.1.1
    have hs := hE.2.2.2.2.1 e h2
    obtain ⟨⟨s1, s2, -⟩, ⟨t1, -⟩, l1, -⟩ := hs
    have hl := hL e h2 n hn
    have hup : ∀ p, tP T e = some p → ∀ x4, RW E MX4_find 2 [some (.ref k), some (.int (nI n)), some (.ref p0), some (.ref (A p)), x4] [] w sg d 0 0 (PN E (fndQ A w sg (fnd T L n f p))) := fun p hp x4 => rfind_loop E sg d k n p0 nr hn w x T A DC RG hE L hL f p x4 (by have := hwf.2.1 e p hp; omega) (by have := hwf.2.1 e p hp; omega)
    have hu := rfind_up E sg d k n p0 nr w x T A DC RG hE e h2 (fnd T L n f) hup
    unfold fnd
    cases ho : L e n with
    | none =>
      rw [ho] at hl
      have g1 : zq w (A e + 1 + 1) n = none := hl
      refine r_aload_n dX4_find_2 rfl (by first | exact zRv_ref _ | exact zRv_null | exact zRv_rf _ | assumption) rfl ?_
      refine r_ifnullR (r := 53) dX4_find_3 (by decide) rfl (fun c_3 => ?_) (fun a_3 c_3 => ?_)
      · cases c_3
      · refine r_aload_n dX4_find_6 rfl (by first | exact zRv_ref _ | exact zRv_null | exact zRv_rf _ | assumption) rfl ?_
        refine r_gets 2 9 309 lfX4_39 (by first | (simp only [zKS]; first | assumption) | assumption | exact zk_nself _ _ _ | (simp [zKS, zNS, *]; done)) rfl rfl (by first | (simp only [zGS, Nat.reduceEqDiff, OfNat.ofNat_ne_ofNat, false_and, and_false, true_and, and_true, and_self, if_true, if_false, ite_true, ite_false, reduceIte, reduceCtorEq]; first | done | assumption) | assumption | exact z2_eq | (simp [zGS]; first | done | assumption)) dX4_find_7 rfl ?_
        refine r_gets 7 0 800 lfX4_48 (by first | (simp only [zKS]; first | assumption) | assumption | exact zk_nself _ _ _ | (simp [zKS, zNS, *]; done)) rfl rfl (by first | (simp only [zGS, Nat.reduceEqDiff, OfNat.ofNat_ne_ofNat, false_and, and_false, true_and, and_true, and_self, if_true, if_false, ite_true, ite_false, reduceIte, reduceCtorEq]; first | done | assumption) | assumption | exact z2_eq | (simp [zGS]; first | done | assumption)) dX4_find_10 rfl ?_
        refine r_iload_n dX4_find_13 rfl rfl ?_
        refine r_aald6 n t1 rfl (by omega) (by omega) dX4_find_14 rfl ?_
        refine r_astore (ls' := [_, _, _, _, _]) dX4_find_15 (Nat.le_of_ble_eq_true rfl) (by first | exact zRv_ref _ | exact zRv_null | exact zRv_rf _ | assumption) rfl rfl ?_
        refine r_aload dX4_find_17 rfl (by first | exact zRv_ref _ | exact zRv_null | exact zRv_rf _ | assumption) rfl ?_
        refine r_ifnull (r := 45) dX4_find_19 (by decide) rfl (fun c_19 => ?_) (fun a_19 c_19 => ?_)
        · exact hu _
        · rw [g1] at c_19; cases c_19
    | some q =>
      obtain ⟨k9, D, wt⟩ := q
      rw [ho] at hl
      obtain ⟨a, g1, g2, g3, g4⟩ := hl
      obtain ⟨d1, d2, d3, lo, hi, d4, d5⟩ := hE.2.2.2.2.2 a D g2
      have d6 := d5.2.2.1
      have d7 := d5.2.2.2.2.1
      refine r_aload_n dX4_find_2 rfl (by first | exact zRv_ref _ | exact zRv_null | exact zRv_rf _ | assumption) rfl ?_
      refine r_ifnullR (r := 53) dX4_find_3 (by decide) rfl (fun c_3 => ?_) (fun a_3 c_3 => ?_)
      · cases c_3
      · refine r_aload_n dX4_find_6 rfl (by first | exact zRv_ref _ | exact zRv_null | exact zRv_rf _ | assumption) rfl ?_
        refine r_gets 2 9 309 lfX4_39 (by first | (simp only [zKS]; first | assumption) | assumption | exact zk_nself _ _ _ | (simp [zKS, zNS, *]; done)) rfl rfl (by first | (simp only [zGS, Nat.reduceEqDiff, OfNat.ofNat_ne_ofNat, false_and, and_false, true_and, and_true, and_self, if_true, if_false, ite_true, ite_false, reduceIte, reduceCtorEq]; first | done | assumption) | assumption | exact z2_eq | (simp [zGS]; first | done | assumption)) dX4_find_7 rfl ?_
        refine r_gets 7 0 800 lfX4_48 (by first | (simp only [zKS]; first | assumption) | assumption | exact zk_nself _ _ _ | (simp [zKS, zNS, *]; done)) rfl rfl (by first | (simp only [zGS, Nat.reduceEqDiff, OfNat.ofNat_ne_ofNat, false_and, and_false, true_and, and_true, and_self, if_true, if_false, ite_true, ite_false, reduceIte, reduceCtorEq]; first | done | assumption) | assumption | exact z2_eq | (simp [zGS]; first | done | assumption)) dX4_find_10 rfl ?_
        refine r_iload_n dX4_find_13 rfl rfl ?_
        refine r_aals6 n g1 t1 rfl (by omega) (by omega) dX4_find_14 rfl ?_
        refine r_astore (ls' := [_, _, _, _, _]) dX4_find_15 (Nat.le_of_ble_eq_true rfl) (by first | exact zRv_ref _ | exact zRv_null | exact zRv_rf _ | assumption) rfl rfl ?_
        refine r_aload dX4_find_17 rfl (by first | exact zRv_ref _ | exact zRv_null | exact zRv_rf _ | assumption) rfl ?_
        refine r_ifnullR (r := 45) dX4_find_19 (by decide) rfl (fun c_19 => ?_) (fun a_19 c_19 => ?_)
        · cases c_19
        · refine r_aload dX4_find_22 rfl (by first | exact zRv_ref _ | exact zRv_null | exact zRv_rf _ | assumption) rfl ?_
          refine r_getiv 1 1 201 lfX4_56 (by first | (simp only [zKS]; first | assumption) | assumption | exact zk_nself _ _ _ | (simp [zKS, zNS, *]; done)) rfl rfl (by first | (simp only [zGS, zMS, Nat.reduceEqDiff, OfNat.ofNat_ne_ofNat, false_and, and_false, true_and, and_true, and_self, if_true, if_false, ite_true, ite_false, reduceIte, reduceCtorEq]; first | done | assumption | rfl) | assumption | exact z2_eq | exact z1_eq | (simp [zGS, zMS]; first | done | assumption) | rfl) dX4_find_24 rfl ?_
          refine r_if_eqN (by omega) (r := 45) dX4_find_27 (by decide) rfl (fun c_27 => ?_) (fun c_27 => ?_)
          · dsimp only
            rw [if_pos c_27]
            exact hu _
          · refine r_aload dX4_find_30 rfl (by first | exact zRv_ref _ | exact zRv_null | exact zRv_rf _ | assumption) rfl ?_
            refine r_getiv 1 1 201 lfX4_56 (by first | (simp only [zKS]; first | assumption) | assumption | exact zk_nself _ _ _ | (simp [zKS, zNS, *]; done)) rfl rfl (by first | (simp only [zGS, zMS, Nat.reduceEqDiff, OfNat.ofNat_ne_ofNat, false_and, and_false, true_and, and_true, and_self, if_true, if_false, ite_true, ite_false, reduceIte, reduceCtorEq]; first | done | assumption | rfl) | assumption | exact z2_eq | exact z1_eq | (simp [zGS, zMS]; first | done | assumption) | rfl) dX4_find_32 rfl ?_
            refine r_iconst dX4_find_35 kc_2 rfl ?_
            refine r_icmp_neN (by omega) (by omega) (r := 43) dX4_find_36 (by decide) rfl (fun c_36 => ?_) (fun c_36 => ?_)
            · refine r_aconst_null dX4_find_43 rfl ?_
              refine r_aret rfl (by first | exact Or.inl ⟨_, rfl⟩ | exact Or.inr ⟨_, rfl⟩) (by first | exact zRv_ref _ | exact zRv_null | exact zRv_rf _ | assumption) dX4_find_44 ?_
              dsimp only
              rw [if_neg c_27, if_neg c_36]
              exact ⟨rfl, rfl, rfl⟩
            · refine r_aload_n dX4_find_39 rfl (by first | exact zRv_ref _ | exact zRv_null | exact zRv_rf _ | assumption) rfl ?_
              refine r_goto (r := 44) dX4_find_40 (by decide) ?_
              refine r_aret rfl (by first | exact Or.inl ⟨_, rfl⟩ | exact Or.inr ⟨_, rfl⟩) (by first | exact zRv_ref _ | exact zRv_null | exact zRv_rf _ | assumption) dX4_find_44 ?_
              dsimp only
              rw [if_neg c_27, if_pos c_36]
              exact ⟨rfl, rfl, rfl⟩
theorem sp_find (E : ZE) (sg : ZM) (d k n nr : Nat) (hn : n < 10) (w : ZW) (x : Nat) (T : List PEl) (A : Nat → Nat) (DC : Nat → PDecl → Prop) (RG : Nat → Nat → Prop) (hE : envA w x nr T A DC RG) (L : Nat → Nat → PLd) (hL : leadsW w T A DC L) (e : Nat) (he : e < T.length) : CallQ E MX4_find [.ref k, .int (nI n), .ref (A e)] w sg d 0 0 (fndQ A w sg (fnd T L n (e + 1) e)) := by
  refine CallQ.of rfl (by simp [Value.category]) (Nat.le_of_ble_eq_true rfl) ?_
  refine r_aload_n dX4_find_0 rfl (by first | exact zRv_ref _ | exact zRv_null | exact zRv_rf _ | assumption) rfl ?_
  refine r_astore_n (ls' := [_, _, _, _, _]) dX4_find_1 (Nat.le_of_ble_eq_true rfl) (by first | exact zRv_ref _ | exact zRv_null | exact zRv_rf _ | assumption) rfl rfl ?_
  exact rfind_loop E sg d k n (A e) nr hn w x T A DC RG hE L hL (e + 1) e _ (Nat.lt_succ_self e) he
