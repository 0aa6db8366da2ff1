/-! ===== the model: small ones ===== -/
def prpI (c : Nat) : Int32 := if c = 99 then nI 0 else if c = 102 then nI 1 else if c = 119 then nI 2 else if c = 104 then nI 3 else if c = 109 then nI 4 else if c = 122 then nI 5 else -1
theorem q_property (E : ZE) (w : ZW) (sg : ZM) (d c : Nat) (hc : c < 128) : CallQ E MX10_property [.int (nI c)] w sg d 0 0 (fun v w' sg' => v = some (.int (prpI c)) ∧ w = w' ∧ sg = sg') := by
  refine CallQ.of rfl (by simp [Value.category]) (Nat.le_of_ble_eq_true rfl) ?_
  unfold prpI
  refine r_iload_n dX10_property_0 rfl rfl ?_
  refine r_bipush dX10_property_1 kb_99 rfl ?_
  refine r_icmp_neN (by omega) (by omega) (r := 10) dX10_property_3 (by decide) rfl (fun c_3 => ?_) (fun c_3 => ?_)
  · refine r_iload_n dX10_property_10 rfl rfl ?_
    refine r_bipush dX10_property_11 kb_102 rfl ?_
    refine r_icmp_neN (by omega) (by omega) (r := 20) dX10_property_13 (by decide) rfl (fun c_13 => ?_) (fun c_13 => ?_)
    · refine r_iload_n dX10_property_20 rfl rfl ?_
      refine r_bipush dX10_property_21 kb_119 rfl ?_
      refine r_icmp_neN (by omega) (by omega) (r := 30) dX10_property_23 (by decide) rfl (fun c_23 => ?_) (fun c_23 => ?_)
      · refine r_iload_n dX10_property_30 rfl rfl ?_
        refine r_bipush dX10_property_31 kb_104 rfl ?_
        refine r_icmp_neN (by omega) (by omega) (r := 40) dX10_property_33 (by decide) rfl (fun c_33 => ?_) (fun c_33 => ?_)
        · refine r_iload_n dX10_property_40 rfl rfl ?_
          refine r_bipush dX10_property_41 kb_109 rfl ?_
          refine r_icmp_neN (by omega) (by omega) (r := 50) dX10_property_43 (by decide) rfl (fun c_43 => ?_) (fun c_43 => ?_)
          · refine r_iload_n dX10_property_50 rfl rfl ?_
            refine r_bipush dX10_property_51 kb_122 rfl ?_
            refine r_icmp_neN (by omega) (by omega) (r := 60) dX10_property_53 (by decide) rfl (fun c_53 => ?_) (fun c_53 => ?_)
            · refine r_iconst dX10_property_60 kc_m1 rfl ?_
              refine r_iret rfl dX10_property_61 ?_
              rw [if_neg c_3, if_neg c_13, if_neg c_23, if_neg c_33, if_neg c_43, if_neg c_53]
              exact ⟨rfl, rfl, rfl⟩
            · refine r_iconst dX10_property_56 kc_5 rfl ?_
              refine r_goto (r := 61) dX10_property_57 (by decide) ?_
              refine r_iret rfl dX10_property_61 ?_
              rw [if_neg c_3, if_neg c_13, if_neg c_23, if_neg c_33, if_neg c_43, if_pos c_53]
              exact ⟨rfl, rfl, rfl⟩
          · refine r_iconst dX10_property_46 kc_4 rfl ?_
            refine r_goto (r := 61) dX10_property_47 (by decide) ?_
            refine r_iret rfl dX10_property_61 ?_
            rw [if_neg c_3, if_neg c_13, if_neg c_23, if_neg c_33, if_pos c_43]
            exact ⟨rfl, rfl, rfl⟩
        · refine r_iconst dX10_property_36 kc_3 rfl ?_
          refine r_goto (r := 61) dX10_property_37 (by decide) ?_
          refine r_iret rfl dX10_property_61 ?_
          rw [if_neg c_3, if_neg c_13, if_neg c_23, if_pos c_33]
          exact ⟨rfl, rfl, rfl⟩
      · refine r_iconst dX10_property_26 kc_2 rfl ?_
        refine r_goto (r := 61) dX10_property_27 (by decide) ?_
        refine r_iret rfl dX10_property_61 ?_
        rw [if_neg c_3, if_neg c_13, if_pos c_23]
        exact ⟨rfl, rfl, rfl⟩
    · refine r_iconst dX10_property_16 kc_1 rfl ?_
      refine r_goto (r := 61) dX10_property_17 (by decide) ?_
      refine r_iret rfl dX10_property_61 ?_
      rw [if_neg c_3, if_pos c_13]
      exact ⟨rfl, rfl, rfl⟩
  · refine r_iconst dX10_property_6 kc_0 rfl ?_
    refine r_goto (r := 61) dX10_property_7 (by decide) ?_
    refine r_iret rfl dX10_property_61 ?_
    rw [if_pos c_3]
    exact ⟨rfl, rfl, rfl⟩
def hvyN (k : Nat) : Nat := if k = 0 then 0 else if k = 1 then 1 else if k = 2 then 10000 else 100
theorem q_heavy (E : ZE) (w : ZW) (sg : ZM) (d k : Nat) (hk : k < 128) : CallQ E MX10_heavy [.int (nI k)] w sg d 0 0 (fun v w' sg' => v = some (.int (nI (hvyN k))) ∧ w = w' ∧ sg = sg') := by
  refine CallQ.of rfl (by simp [Value.category]) (Nat.le_of_ble_eq_true rfl) ?_
  unfold hvyN
  refine r_iload_n dX10_heavy_0 rfl rfl ?_
  refine r_if_neN (by omega) (r := 8) dX10_heavy_1 (by decide) rfl (fun c_1 => ?_) (fun c_1 => ?_)
  · refine r_iload_n dX10_heavy_8 rfl rfl ?_
    refine r_iconst dX10_heavy_9 kc_1 rfl ?_
    refine r_icmp_neN (by omega) (by omega) (r := 17) dX10_heavy_10 (by decide) rfl (fun c_10 => ?_) (fun c_10 => ?_)
    · refine r_iload_n dX10_heavy_17 rfl rfl ?_
      refine r_iconst dX10_heavy_18 kc_2 rfl ?_
      refine r_icmp_neN (by omega) (by omega) (r := 28) dX10_heavy_19 (by decide) rfl (fun c_19 => ?_) (fun c_19 => ?_)
      · refine r_bipush dX10_heavy_28 kb_100 rfl ?_
        refine r_iret rfl dX10_heavy_30 ?_
        rw [if_neg c_1, if_neg c_10, if_neg c_19]
        exact ⟨rfl, rfl, rfl⟩
      · refine r_sipush dX10_heavy_22 ks_10000 rfl ?_
        refine r_goto (r := 30) dX10_heavy_25 (by decide) ?_
        refine r_iret rfl dX10_heavy_30 ?_
        rw [if_neg c_1, if_neg c_10, if_pos c_19]
        exact ⟨rfl, rfl, rfl⟩
    · refine r_iconst dX10_heavy_13 kc_1 rfl ?_
      refine r_goto (r := 30) dX10_heavy_14 (by decide) ?_
      refine r_iret rfl dX10_heavy_30 ?_
      rw [if_neg c_1, if_pos c_10]
      exact ⟨rfl, rfl, rfl⟩
  · refine r_iconst dX10_heavy_4 kc_0 rfl ?_
    refine r_goto (r := 30) dX10_heavy_5 (by decide) ?_
    refine r_iret rfl dX10_heavy_30 ?_
    rw [if_pos c_1]
    exact ⟨rfl, rfl, rfl⟩
theorem q_wantsPlain (E : ZE) (w : ZW) (sg : ZM) (d p : Nat) (hp : p < 6) : CallQ E MX10_wantsPlain [.int (nI p)] w sg d 0 0 (fun v w' sg' => v = some (.int (zb (decide (p = 0 ∨ p = 5)))) ∧ w = w' ∧ sg = sg') := by
  refine CallQ.of rfl (by simp [Value.category]) (Nat.le_of_ble_eq_true rfl) ?_
  refine r_iload_n dX10_wantsPlain_0 rfl rfl ?_
  refine r_if_eqN (by omega) (r := 9) dX10_wantsPlain_1 (by decide) rfl (fun c_1 => ?_) (fun c_1 => ?_)
  · refine r_iconst dX10_wantsPlain_9 kc_1 rfl ?_
    refine r_goto (r := 14) dX10_wantsPlain_10 (by decide) ?_
    refine r_zret .boolean rfl rfl dX10_wantsPlain_14 ?_
    rw [decide_eq_true (p := p = 0 ∨ p = 5) (by omega)]
    exact ⟨rfl, rfl, rfl⟩
  · refine r_iload_n dX10_wantsPlain_4 rfl rfl ?_
    refine r_iconst dX10_wantsPlain_5 kc_5 rfl ?_
    refine r_icmp_neN (by omega) (by omega) (r := 13) dX10_wantsPlain_6 (by decide) rfl (fun c_6 => ?_) (fun c_6 => ?_)
    · refine r_iconst dX10_wantsPlain_13 kc_0 rfl ?_
      refine r_zret .boolean rfl rfl dX10_wantsPlain_14 ?_
      rw [decide_eq_false (p := p = 0 ∨ p = 5) (by omega)]
      exact ⟨rfl, rfl, rfl⟩
    · refine r_iconst dX10_wantsPlain_9 kc_1 rfl ?_
      refine r_goto (r := 14) dX10_wantsPlain_10 (by decide) ?_
      refine r_zret .boolean rfl rfl dX10_wantsPlain_14 ?_
      rw [decide_eq_true (p := p = 0 ∨ p = 5) (by omega)]
      exact ⟨rfl, rfl, rfl⟩
theorem q_initial (E : ZE) (w : ZW) (sg : ZM) (d p : Nat) (hp : p < 6) : CallQ E MX10_initial [.int (nI p)] w sg d 0 0 (fun v w' sg' => v = some (.float (iniV p)) ∧ w = w' ∧ sg = sg') := by
  refine CallQ.of rfl (by simp [Value.category]) (Nat.le_of_ble_eq_true rfl) ?_
  unfold iniV
  refine r_iload_n dX10_initial_0 rfl rfl ?_
  refine r_iconst dX10_initial_1 kc_1 rfl ?_
  refine r_icmp_neN (by omega) (by omega) (r := 11) dX10_initial_2 (by decide) rfl (fun c_2 => ?_) (fun c_2 => ?_)
  · refine r_fconst0 dX10_initial_11 rfl ?_
    refine r_fret rfl dX10_initial_12 ?_
    rw [if_neg c_2]
    exact ⟨rfl, rfl, rfl⟩
  · refine r_ldcwf dX10_initial_5 tw_1327 rfl ?_
    refine r_goto (r := 12) dX10_initial_8 (by decide) ?_
    refine r_fret rfl dX10_initial_12 ?_
    rw [if_pos c_2]
    exact ⟨rfl, rfl, rfl⟩
theorem q_thrown (E : ZE) (mo : Nat) (hm : E.2.2.2.2 = some mo) (w : ZW) (sg : ZM) (d : Nat) : CallQ E MX10_thrown [.ref mo] w sg d 0 0 (fun v w' sg' => v = some (.int (mi sg 0)) ∧ w = w' ∧ sg = sg') := by
  refine CallQ.of rfl (by simp [Value.category]) (Nat.le_of_ble_eq_true rfl) ?_
  refine r_aload_n dX10_thrown_0 rfl (zRv_ref _) rfl ?_
  refine m_getiv hm 0 lfX10_133 rfl (by first | (simp only [zGS, zMS, Nat.reduceEqDiff, OfNat.ofNat_ne_ofNat, false_and, and_false, true_and, and_true, and_self, if_true, if_false, ite_true, ite_false, reduceIte, reduceCtorEq]; first | done | assumption | rfl) | assumption | exact z2_eq | exact z1_eq | (simp [zGS, zMS]; first | done | assumption) | rfl) dX10_thrown_1 rfl ?_
  refine r_iret rfl dX10_thrown_4 ?_
  exact ⟨rfl, rfl, rfl⟩
theorem q_refuse (E : ZE) (mo : Nat) (hm : E.2.2.2.2 = some mo) (w : ZW) (sg : ZM) (d : Nat) (k : Int32) : CallQ E MX10_refuse [.ref mo, .int k] w sg d 0 0 (fun v w' sg' => v = some (.int (nI 0)) ∧ w = w' ∧ sg' = msi sg 0 k) := by
  refine CallQ.of rfl (by simp [Value.category]) (Nat.le_of_ble_eq_true rfl) ?_
  refine r_aload_n dX10_refuse_0 rfl (zRv_ref _) rfl ?_
  refine r_iload_n dX10_refuse_1 rfl rfl ?_
  refine m_puti hm 0 lfX10_133 rfl rfl rfl dX10_refuse_2 rfl ?_
  refine r_iconst dX10_refuse_5 kc_0 rfl ?_
  refine r_iret rfl dX10_refuse_6 ?_
  exact ⟨rfl, rfl, rfl⟩
