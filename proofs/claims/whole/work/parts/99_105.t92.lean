/-! ===== the model's cursor ===== -/
def mTx (sg : ZM) : Prop := ∀ i, i < 2040 → ∃ c, c < 128 ∧ ma sg 7 i = nI c
def chN (sg : ZM) (i : Nat) : Nat := (ma sg 7 i).toNatClampNeg
theorem mTx.c {sg : ZM} (h : mTx sg) {i : Nat} (hi : i < 2040) : ma sg 7 i = nI (chN sg i) ∧ chN sg i < 128 := by
  obtain ⟨c, hc, he⟩ := h i hi
  unfold chN
  rw [he, zcl (by omega)]
  exact ⟨rfl, hc⟩
/-- the cursor at a, the end e, good g -/
def crI (sg : ZM) (a e : Nat) (g : Bool) : Prop := mTx sg ∧ mi sg 14 = nI a ∧ mi sg 13 = nI e ∧ mi sg 15 = zb g ∧ e ≤ 2040 ∧ a < 10000
def lkN (sg : ZM) (a e : Nat) : Nat := if a < e then chN sg a else 0
theorem crI.lk {sg : ZM} {a e : Nat} {g : Bool} (h : crI sg a e g) : lkN sg a e < 128 := by
  unfold lkN
  split
  · exact (h.1.c (by have := h.2.2.2.2.1; omega)).2
  · decide
def inN (c lo hi : Nat) : Bool := decide (lo ≤ c ∧ c ≤ hi)
theorem q_look (E : ZE) (mo : Nat) (hm : E.2.2.2.2 = some mo) (w : ZW) (sg : ZM) (d a e : Nat) (g : Bool) (h : crI sg a e g) : CallQ E MX10_look [.ref mo] w sg d 0 0 (fun v w' sg' => v = some (.int (nI (lkN sg a e))) ∧ w = w' ∧ sg = sg') := by
  obtain ⟨h1, h2, h3, h4, h5, h6⟩ := h
  have hb : lkN sg a e < 128 := crI.lk ⟨h1, h2, h3, h4, h5, h6⟩
  refine CallQ.of rfl (by simp [Value.category]) (Nat.le_of_ble_eq_true rfl) ?_
  by_cases c : a < e
  · obtain ⟨q1, q2⟩ := h1.c (show a < 2040 by omega)
    have e1 : lkN sg a e = chN sg a := if_pos c
    refine r_aload_n dX10_look_0 rfl (zRv_ref _) rfl ?_
    refine m_getiv hm 14 lfX10_147 rfl (by first | (simp only [zGS, zMS, Nat.reduceEqDiff, OfNat.ofNat_ne_ofNat, false_and, and_false, true_and, and_true, and_self, if_true, if_false, ite_true, ite_false, reduceIte, reduceCtorEq]; first | done | assumption | rfl) | assumption | exact z2_eq | exact z1_eq | (simp [zGS, zMS]; first | done | assumption) | rfl) dX10_look_1 rfl ?_
    refine r_aload_n dX10_look_4 rfl (zRv_ref _) rfl ?_
    refine m_getiv hm 13 lfX10_150 rfl (by first | (simp only [zGS, zMS, Nat.reduceEqDiff, OfNat.ofNat_ne_ofNat, false_and, and_false, true_and, and_true, and_self, if_true, if_false, ite_true, ite_false, reduceIte, reduceCtorEq]; first | done | assumption | rfl) | assumption | exact z2_eq | exact z1_eq | (simp [zGS, zMS]; first | done | assumption) | rfl) dX10_look_5 rfl ?_
    refine r_icmp_geN (by omega) (by omega) (r := 23) dX10_look_8 (by decide) rfl (fun c_8 => ?_) (fun c_8 => ?_)
    · exact absurd c_8 (by omega)
    · refine r_aload_n dX10_look_11 rfl (zRv_ref _) rfl ?_
      refine m_geta hm 9 7 lfX10_28 rfl (by decide) dX10_look_12 rfl ?_
      refine r_aload_n dX10_look_15 rfl (zRv_ref _) rfl ?_
      refine m_getiv hm 14 lfX10_147 rfl (by first | (simp only [zGS, zMS, Nat.reduceEqDiff, OfNat.ofNat_ne_ofNat, false_and, and_false, true_and, and_true, and_self, if_true, if_false, ite_true, ite_false, reduceIte, reduceCtorEq]; first | done | assumption | rfl) | assumption | exact z2_eq | exact z1_eq | (simp [zGS, zMS]; first | done | assumption) | rfl) dX10_look_16 rfl ?_
      refine m_caldv hm 7 _ (by decide) (by decide) rfl rfl (by show _ < 2040; omega) (by first | (simp only [zGS, zMS, Nat.reduceEqDiff, OfNat.ofNat_ne_ofNat, false_and, and_false, true_and, and_true, and_self, if_true, if_false, ite_true, ite_false, reduceIte, reduceCtorEq]; first | done | assumption | rfl) | assumption | exact z2_eq | exact z1_eq | (simp [zGS, zMS]; first | done | assumption) | rfl) dX10_look_19 rfl ?_
      refine r_goto (r := 24) dX10_look_20 (by decide) ?_
      refine r_zret .char rfl (by first | exact zch_nar (by omega) | assumption | (simp only [*]; exact zch_nar (by omega))) dX10_look_24 ?_
      rw [e1]
      exact ⟨rfl, rfl, rfl⟩
  · have e1 : lkN sg a e = 0 := if_neg c
    refine r_aload_n dX10_look_0 rfl (zRv_ref _) rfl ?_
    refine m_getiv hm 14 lfX10_147 rfl (by first | (simp only [zGS, zMS, Nat.reduceEqDiff, OfNat.ofNat_ne_ofNat, false_and, and_false, true_and, and_true, and_self, if_true, if_false, ite_true, ite_false, reduceIte, reduceCtorEq]; first | done | assumption | rfl) | assumption | exact z2_eq | exact z1_eq | (simp [zGS, zMS]; first | done | assumption) | rfl) dX10_look_1 rfl ?_
    refine r_aload_n dX10_look_4 rfl (zRv_ref _) rfl ?_
    refine m_getiv hm 13 lfX10_150 rfl (by first | (simp only [zGS, zMS, Nat.reduceEqDiff, OfNat.ofNat_ne_ofNat, false_and, and_false, true_and, and_true, and_self, if_true, if_false, ite_true, ite_false, reduceIte, reduceCtorEq]; first | done | assumption | rfl) | assumption | exact z2_eq | exact z1_eq | (simp [zGS, zMS]; first | done | assumption) | rfl) dX10_look_5 rfl ?_
    refine r_icmp_geN (by omega) (by omega) (r := 23) dX10_look_8 (by decide) rfl (fun c_8 => ?_) (fun c_8 => ?_)
    · refine r_iconst dX10_look_23 kc_0 rfl ?_
      refine r_zret .char rfl (by first | exact zch_nar (by omega) | assumption | (simp only [*]; exact zch_nar (by omega))) dX10_look_24 ?_
      rw [e1]
      exact ⟨rfl, rfl, rfl⟩
    · exact absurd c_8 (by omega)
theorem q_must (E : ZE) (mo : Nat) (hm : E.2.2.2.2 = some mo) (w : ZW) (sg : ZM) (d : Nat) (g b : Bool) (h : mi sg 15 = zb g) : CallQ E MX10_must [.ref mo, .int (zb b)] w sg d 0 0 (fun v w' sg' => v = none ∧ w = w' ∧ sg' = msi sg 15 (zb (g && b))) := by
  refine CallQ.of rfl (by simp [Value.category]) (Nat.le_of_ble_eq_true rfl) ?_
  cases g <;> cases b
  · skip
    refine r_aload_n dX10_must_0 rfl (zRv_ref _) rfl ?_
    refine r_aload_n dX10_must_1 rfl (zRv_ref _) rfl ?_
    refine m_getiv hm 15 lfX10_153 rfl (by first | (simp only [zGS, zMS, Nat.reduceEqDiff, OfNat.ofNat_ne_ofNat, false_and, and_false, true_and, and_true, and_self, if_true, if_false, ite_true, ite_false, reduceIte, reduceCtorEq]; first | done | assumption | rfl) | assumption | exact z2_eq | exact z1_eq | (simp [zGS, zMS]; first | done | assumption) | rfl) dX10_must_2 rfl ?_
    refine r_if_eqB (r := 16) dX10_must_5 (by decide) rfl (fun c_5 => ?_) (fun c_5 => ?_)
    · refine r_iconst dX10_must_16 kc_0 rfl ?_
      refine m_putz hm 15 (by first | exact Or.inl rfl | exact Or.inr rfl | exact zb01 _ | assumption) lfX10_153 rfl rfl rfl dX10_must_17 rfl ?_
      refine r_vret rfl dX10_must_20 ?_
      exact ⟨rfl, rfl, rfl⟩
    · cases c_5
  · skip
    refine r_aload_n dX10_must_0 rfl (zRv_ref _) rfl ?_
    refine r_aload_n dX10_must_1 rfl (zRv_ref _) rfl ?_
    refine m_getiv hm 15 lfX10_153 rfl (by first | (simp only [zGS, zMS, Nat.reduceEqDiff, OfNat.ofNat_ne_ofNat, false_and, and_false, true_and, and_true, and_self, if_true, if_false, ite_true, ite_false, reduceIte, reduceCtorEq]; first | done | assumption | rfl) | assumption | exact z2_eq | exact z1_eq | (simp [zGS, zMS]; first | done | assumption) | rfl) dX10_must_2 rfl ?_
    refine r_if_eqB (r := 16) dX10_must_5 (by decide) rfl (fun c_5 => ?_) (fun c_5 => ?_)
    · refine r_iconst dX10_must_16 kc_0 rfl ?_
      refine m_putz hm 15 (by first | exact Or.inl rfl | exact Or.inr rfl | exact zb01 _ | assumption) lfX10_153 rfl rfl rfl dX10_must_17 rfl ?_
      refine r_vret rfl dX10_must_20 ?_
      exact ⟨rfl, rfl, rfl⟩
    · cases c_5
  · skip
    refine r_aload_n dX10_must_0 rfl (zRv_ref _) rfl ?_
    refine r_aload_n dX10_must_1 rfl (zRv_ref _) rfl ?_
    refine m_getiv hm 15 lfX10_153 rfl (by first | (simp only [zGS, zMS, Nat.reduceEqDiff, OfNat.ofNat_ne_ofNat, false_and, and_false, true_and, and_true, and_self, if_true, if_false, ite_true, ite_false, reduceIte, reduceCtorEq]; first | done | assumption | rfl) | assumption | exact z2_eq | exact z1_eq | (simp [zGS, zMS]; first | done | assumption) | rfl) dX10_must_2 rfl ?_
    refine r_if_eqB (r := 16) dX10_must_5 (by decide) rfl (fun c_5 => ?_) (fun c_5 => ?_)
    · cases c_5
    · refine r_iload_n dX10_must_8 rfl rfl ?_
      refine r_if_eqB (r := 16) dX10_must_9 (by decide) rfl (fun c_9 => ?_) (fun c_9 => ?_)
      · refine r_iconst dX10_must_16 kc_0 rfl ?_
        refine m_putz hm 15 (by first | exact Or.inl rfl | exact Or.inr rfl | exact zb01 _ | assumption) lfX10_153 rfl rfl rfl dX10_must_17 rfl ?_
        refine r_vret rfl dX10_must_20 ?_
        exact ⟨rfl, rfl, rfl⟩
      · cases c_9
  · skip
    refine r_aload_n dX10_must_0 rfl (zRv_ref _) rfl ?_
    refine r_aload_n dX10_must_1 rfl (zRv_ref _) rfl ?_
    refine m_getiv hm 15 lfX10_153 rfl (by first | (simp only [zGS, zMS, Nat.reduceEqDiff, OfNat.ofNat_ne_ofNat, false_and, and_false, true_and, and_true, and_self, if_true, if_false, ite_true, ite_false, reduceIte, reduceCtorEq]; first | done | assumption | rfl) | assumption | exact z2_eq | exact z1_eq | (simp [zGS, zMS]; first | done | assumption) | rfl) dX10_must_2 rfl ?_
    refine r_if_eqB (r := 16) dX10_must_5 (by decide) rfl (fun c_5 => ?_) (fun c_5 => ?_)
    · cases c_5
    · refine r_iload_n dX10_must_8 rfl rfl ?_
      refine r_if_eqB (r := 16) dX10_must_9 (by decide) rfl (fun c_9 => ?_) (fun c_9 => ?_)
      · cases c_9
      · refine r_iconst dX10_must_12 kc_1 rfl ?_
        refine r_goto (r := 17) dX10_must_13 (by decide) ?_
        refine m_putz hm 15 (by first | exact Or.inl rfl | exact Or.inr rfl | exact zb01 _ | assumption) lfX10_153 rfl rfl rfl dX10_must_17 rfl ?_
        refine r_vret rfl dX10_must_20 ?_
        exact ⟨rfl, rfl, rfl⟩
theorem crI.m14 {sg : ZM} {a e b : Nat} {g : Bool} (h : crI sg a e g) (hb : b < 10000) : crI (msi sg 14 (nI b)) b e g := by
  obtain ⟨h1, h2, h3, h4, h5, h6⟩ := h
  exact ⟨h1, by rw [mi_msi, if_pos rfl], by rw [mi_msi, if_neg (by decide)]; exact h3, by rw [mi_msi, if_neg (by decide)]; exact h4, h5, hb⟩
theorem crI.m15 {sg : ZM} {a e : Nat} {g g' : Bool} (h : crI sg a e g) : crI (msi sg 15 (zb g')) a e g' := by
  obtain ⟨h1, h2, h3, h4, h5, h6⟩ := h
  exact ⟨h1, by rw [mi_msi, if_neg (by decide)]; exact h2, by rw [mi_msi, if_neg (by decide)]; exact h3, by rw [mi_msi, if_pos rfl], h5, h6⟩
theorem q_pass (E : ZE) (mo : Nat) (hm : E.2.2.2.2 = some mo) (w : ZW) (sg : ZM) (d a e c : Nat) (g : Bool) (hd : 1 ≤ d) (hc : c < 128) (h : crI sg a e g) : CallQ E MX10_pass [.ref mo, .int (nI c)] w sg d 0 0 (fun v w' sg' => v = some (.int (zb (decide (lkN sg a e = c)))) ∧ w = w' ∧ sg' = msi sg 14 (nI (if lkN sg a e = c then a + 1 else a))) := by
  have hb := h.lk
  have hl := q_look E mo hm w sg (d - 1) a e g h
  obtain ⟨h1, h2, h3, h4, h5, h6⟩ := h
  refine CallQ.of rfl (by simp [Value.category]) (Nat.le_of_ble_eq_true rfl) ?_
  by_cases q : lkN sg a e = c
  · rw [decide_eq_true q, if_pos q]
    refine r_aload_n dX10_pass_0 rfl (zRv_ref _) rfl ?_
    refine r_callV MX10_look 0 [] lvX10_172 (Or.inr (Or.inl ⟨hm, rfl⟩)) (hl) rfl rfl (by first | exact Nat.le_of_ble_eq_true rfl | (simp [zcat_rf, Value.category]; done)) (by omega) (Nat.le_of_eq (Nat.zero_add _)) (Nat.le_of_eq (Nat.zero_add _)) dX10_pass_1 rfl (fun v_ w_ sg_ hq_ => ?_)
    obtain ⟨rfl, rfl, rfl⟩ := hq_
    refine r_iload_n dX10_pass_4 rfl rfl ?_
    refine r_icmp_neN (by omega) (by omega) (r := 12) dX10_pass_5 (by decide) rfl (fun c_5 => ?_) (fun c_5 => ?_)
    · exact absurd q c_5
    · refine r_iconst dX10_pass_8 kc_1 rfl ?_
      refine r_goto (r := 13) dX10_pass_9 (by decide) ?_
      refine r_istore_n (ls' := [_, _, _]) dX10_pass_13 (Nat.le_of_ble_eq_true rfl) rfl rfl ?_
      refine r_aload_n dX10_pass_14 rfl (zRv_ref _) rfl ?_
      refine r_iload_n dX10_pass_15 rfl rfl ?_
      refine r_if_eqN (by omega) (r := 28) dX10_pass_16 (by decide) rfl (fun c_16 => ?_) (fun c_16 => ?_)
      · exact absurd c_16 (by decide)
      · refine r_aload_n dX10_pass_19 rfl (zRv_ref _) rfl ?_
        refine m_getiv hm 14 lfX10_147 rfl (by first | (simp only [zGS, zMS, Nat.reduceEqDiff, OfNat.ofNat_ne_ofNat, false_and, and_false, true_and, and_true, and_self, if_true, if_false, ite_true, ite_false, reduceIte, reduceCtorEq]; first | done | assumption | rfl) | assumption | exact z2_eq | exact z1_eq | (simp [zGS, zMS]; first | done | assumption) | rfl) dX10_pass_20 rfl ?_
        refine r_iconst dX10_pass_23 kc_1 rfl ?_
        refine r_iaddN dX10_pass_24 rfl ?_
        refine r_goto (r := 32) dX10_pass_25 (by decide) ?_
        refine m_puti hm 14 lfX10_147 rfl rfl rfl dX10_pass_32 rfl ?_
        refine r_iload_n dX10_pass_35 rfl rfl ?_
        refine r_zret .boolean rfl rfl dX10_pass_36 ?_
        exact ⟨rfl, rfl, rfl⟩
  · rw [decide_eq_false q, if_neg q]
    refine r_aload_n dX10_pass_0 rfl (zRv_ref _) rfl ?_
    refine r_callV MX10_look 0 [] lvX10_172 (Or.inr (Or.inl ⟨hm, rfl⟩)) (hl) rfl rfl (by first | exact Nat.le_of_ble_eq_true rfl | (simp [zcat_rf, Value.category]; done)) (by omega) (Nat.le_of_eq (Nat.zero_add _)) (Nat.le_of_eq (Nat.zero_add _)) dX10_pass_1 rfl (fun v_ w_ sg_ hq_ => ?_)
    obtain ⟨rfl, rfl, rfl⟩ := hq_
    refine r_iload_n dX10_pass_4 rfl rfl ?_
    refine r_icmp_neN (by omega) (by omega) (r := 12) dX10_pass_5 (by decide) rfl (fun c_5 => ?_) (fun c_5 => ?_)
    · refine r_iconst dX10_pass_12 kc_0 rfl ?_
      refine r_istore_n (ls' := [_, _, _]) dX10_pass_13 (Nat.le_of_ble_eq_true rfl) rfl rfl ?_
      refine r_aload_n dX10_pass_14 rfl (zRv_ref _) rfl ?_
      refine r_iload_n dX10_pass_15 rfl rfl ?_
      refine r_if_eqN (by omega) (r := 28) dX10_pass_16 (by decide) rfl (fun c_16 => ?_) (fun c_16 => ?_)
      · refine r_aload_n dX10_pass_28 rfl (zRv_ref _) rfl ?_
        refine m_getiv hm 14 lfX10_147 rfl (by first | (simp only [zGS, zMS, Nat.reduceEqDiff, OfNat.ofNat_ne_ofNat, false_and, and_false, true_and, and_true, and_self, if_true, if_false, ite_true, ite_false, reduceIte, reduceCtorEq]; first | done | assumption | rfl) | assumption | exact z2_eq | exact z1_eq | (simp [zGS, zMS]; first | done | assumption) | rfl) dX10_pass_29 rfl ?_
        refine m_puti hm 14 lfX10_147 rfl rfl rfl dX10_pass_32 rfl ?_
        refine r_iload_n dX10_pass_35 rfl rfl ?_
        refine r_zret .boolean rfl rfl dX10_pass_36 ?_
        exact ⟨rfl, rfl, rfl⟩
      · exact absurd rfl c_16
    · exact absurd c_5 q
theorem q_expect (E : ZE) (mo : Nat) (hm : E.2.2.2.2 = some mo) (w : ZW) (sg : ZM) (d a e c : Nat) (g : Bool) (hd : 2 ≤ d) (hc : c < 128) (h : crI sg a e g) : CallQ E MX10_expect [.ref mo, .int (nI c)] w sg d 0 0 (fun v w' sg' => v = none ∧ w = w' ∧ sg' = msi (msi sg 14 (nI (if lkN sg a e = c then a + 1 else a))) 15 (zb (g && decide (lkN sg a e = c)))) := by
  have h4 := h.2.2.2.1
  refine CallQ.of rfl (by simp [Value.category]) (Nat.le_of_ble_eq_true rfl) ?_
  refine r_aload_n dX10_expect_0 rfl (zRv_ref _) rfl ?_
  refine r_aload_n dX10_expect_1 rfl (zRv_ref _) rfl ?_
  refine r_iload_n dX10_expect_2 rfl rfl ?_
  refine r_callV MX10_pass 1 [_] lvX10_176 (Or.inr (Or.inl ⟨hm, rfl⟩)) (q_pass E mo hm w sg (d - 1) a e c g (by omega) hc h) rfl rfl (by first | exact Nat.le_of_ble_eq_true rfl | (simp [zcat_rf, Value.category]; done)) (by omega) (Nat.le_of_eq (Nat.zero_add _)) (Nat.le_of_eq (Nat.zero_add _)) dX10_expect_3 rfl (fun v_ w_ sg_ hq_ => ?_)
  obtain ⟨rfl, rfl, rfl⟩ := hq_
  refine r_callV MX10_must 1 [_] lvX10_180 (Or.inr (Or.inl ⟨hm, rfl⟩)) (q_must E mo hm w _ (d - 1) g (decide (lkN sg a e = c)) (by rw [mi_msi, if_neg (by decide)]; exact h4)) rfl rfl (by first | exact Nat.le_of_ble_eq_true rfl | (simp [zcat_rf, Value.category]; done)) (by omega) (Nat.le_of_eq (Nat.zero_add _)) (Nat.le_of_eq (Nat.zero_add _)) dX10_expect_6 rfl (fun v_ w_ sg_ hq_ => ?_)
  obtain ⟨rfl, rfl, rfl⟩ := hq_
  refine r_vret rfl dX10_expect_9 ?_
  exact ⟨rfl, rfl, rfl⟩
theorem q_outside (E : ZE) (w : ZW) (sg : ZM) (d c lo hi : Nat) (hc : c < 2147483648) (hl : lo < 2147483648) (hh : hi < 2147483648) : CallQ E MX10_outside [.int (nI c), .int (nI lo), .int (nI hi)] w sg d 0 0 (fun v w' sg' => v = some (.int (zb (!inN c lo hi))) ∧ w = w' ∧ sg = sg') := by
  refine CallQ.of rfl (by simp [Value.category]) (Nat.le_of_ble_eq_true rfl) ?_
  unfold inN
  refine r_iload_n dX10_outside_0 rfl rfl ?_
  refine r_iload_n dX10_outside_1 rfl rfl ?_
  refine r_icmp_ltN (by omega) (by omega) (r := 10) dX10_outside_2 (by decide) rfl (fun c_2 => ?_) (fun c_2 => ?_)
  · refine r_iconst dX10_outside_10 kc_1 rfl ?_
    refine r_goto (r := 15) dX10_outside_11 (by decide) ?_
    refine r_zret .boolean rfl rfl dX10_outside_15 ?_
    rw [decide_eq_false (p := lo ≤ c ∧ c ≤ hi) (fun q => by omega)]
    exact ⟨rfl, rfl, rfl⟩
  · refine r_iload_n dX10_outside_5 rfl rfl ?_
    refine r_iload_n dX10_outside_6 rfl rfl ?_
    refine r_icmp_leN (by omega) (by omega) (r := 14) dX10_outside_7 (by decide) rfl (fun c_7 => ?_) (fun c_7 => ?_)
    · refine r_iconst dX10_outside_14 kc_0 rfl ?_
      refine r_zret .boolean rfl rfl dX10_outside_15 ?_
      rw [decide_eq_true (p := lo ≤ c ∧ c ≤ hi) ⟨by omega, by omega⟩]
      exact ⟨rfl, rfl, rfl⟩
    · refine r_iconst dX10_outside_10 kc_1 rfl ?_
      refine r_goto (r := 15) dX10_outside_11 (by decide) ?_
      refine r_zret .boolean rfl rfl dX10_outside_15 ?_
      rw [decide_eq_false (p := lo ≤ c ∧ c ≤ hi) (fun q => by omega)]
      exact ⟨rfl, rfl, rfl⟩
theorem q_isDigit (E : ZE) (mo : Nat) (hm : E.2.2.2.2 = some mo) (w : ZW) (sg : ZM) (d a e : Nat) (g : Bool) (hd : 1 ≤ d) (h : crI sg a e g) : CallQ E MX10_isDigit [.ref mo] w sg d 0 0 (fun v w' sg' => v = some (.int (zb (inN (lkN sg a e) 48 57))) ∧ w = w' ∧ sg = sg') := by
  have hb := h.lk
  refine CallQ.of rfl (by simp [Value.category]) (Nat.le_of_ble_eq_true rfl) ?_
  refine r_aload_n dX10_isDigit_0 rfl (zRv_ref _) rfl ?_
  refine r_callV MX10_look 0 [] lvX10_172 (Or.inr (Or.inl ⟨hm, rfl⟩)) (q_look E mo hm w sg (d - 1) a e g h) rfl rfl (by first | exact Nat.le_of_ble_eq_true rfl | (simp [zcat_rf, Value.category]; done)) (by omega) (Nat.le_of_eq (Nat.zero_add _)) (Nat.le_of_eq (Nat.zero_add _)) dX10_isDigit_1 rfl (fun v_ w_ sg_ hq_ => ?_)
  obtain ⟨rfl, rfl, rfl⟩ := hq_
  refine r_bipush dX10_isDigit_4 kb_48 rfl ?_
  refine r_bipush dX10_isDigit_6 kb_57 rfl ?_
  refine r_callS MX10_outside 3 [_, _, _] lsX10_140 (q_outside E w _ (d - 1) (lkN sg a e) 48 57 (by omega) (by decide) (by decide)) rfl rfl (by first | exact Nat.le_of_ble_eq_true rfl | (simp [zcat_rf, Value.category]; done)) (by omega) (Nat.le_of_eq (Nat.zero_add _)) (Nat.le_of_eq (Nat.zero_add _)) dX10_isDigit_8 rfl (fun v_ w_ sg_ hq_ => ?_)
  obtain ⟨rfl, rfl, rfl⟩ := hq_
  refine r_if_neB (r := 18) dX10_isDigit_11 (by decide) rfl (fun c_11 => ?_) (fun c_11 => ?_)
  · refine r_iconst dX10_isDigit_18 kc_0 rfl ?_
    refine r_zret .boolean rfl rfl dX10_isDigit_19 ?_
    refine ⟨?_, rfl, rfl⟩
    cases hq : inN (lkN sg a e) 48 57 <;> rw [hq] at c_11 <;> first | rfl | cases c_11
  · refine r_iconst dX10_isDigit_14 kc_1 rfl ?_
    refine r_goto (r := 19) dX10_isDigit_15 (by decide) ?_
    refine r_zret .boolean rfl rfl dX10_isDigit_19 ?_
    refine ⟨?_, rfl, rfl⟩
    cases hq : inN (lkN sg a e) 48 57 <;> rw [hq] at c_11 <;> first | rfl | cases c_11
theorem q_digit (E : ZE) (mo : Nat) (hm : E.2.2.2.2 = some mo) (w : ZW) (sg : ZM) (d a e : Nat) (g : Bool) (hd : 2 ≤ d) (ha : a < 9999) (h : crI sg a e g) (hg : g = true → a < e ∨ inN (lkN sg a e) 48 57 = false) : CallQ E MX10_digit [.ref mo] w sg d 0 0 (fun v w' sg' => v = some (.int (if (g && inN (lkN sg a e) 48 57) = true then nI (lkN sg a e - 48) else 0)) ∧ w = w' ∧ sg' = msi (msi sg 15 (zb (g && inN (lkN sg a e) 48 57))) 14 (nI (a + 1))) := by
  have hb := h.lk
  have h4 := h.2.2.2.1
  have h2 := h.2.1
  have h1 := h.1
  have h5 := h.2.2.2.2.1
  refine CallQ.of rfl (by simp [Value.category]) (Nat.le_of_ble_eq_true rfl) ?_
  have i1 : mi (msi sg 15 (zb (g && inN (lkN sg a e) 48 57))) 14 = nI a := by rw [mi_msi, if_neg (by decide)]; exact h2
  have i2 : mi (msi (msi sg 15 (zb (g && inN (lkN sg a e) 48 57))) 14 (nI (a + 1))) 15 = zb (g && inN (lkN sg a e) 48 57) := by rw [mi_msi, if_neg (by decide), mi_msi, if_pos rfl]
  have i3 : mi (msi (msi sg 15 (zb (g && inN (lkN sg a e) 48 57))) 14 (nI (a + 1))) 14 = nI (a + 1) := by rw [mi_msi, if_pos rfl]
  cases hq : (g && inN (lkN sg a e) 48 57) with
  | false =>
    rw [hq] at i1 i2 i3
    refine r_aload_n dX10_digit_0 rfl (zRv_ref _) rfl ?_
    refine r_aload_n dX10_digit_1 rfl (zRv_ref _) rfl ?_
    refine r_callV MX10_isDigit 0 [] lvX10_184 (Or.inr (Or.inl ⟨hm, rfl⟩)) (q_isDigit E mo hm w sg (d - 1) a e g (by omega) h) rfl rfl (by first | exact Nat.le_of_ble_eq_true rfl | (simp [zcat_rf, Value.category]; done)) (by omega) (Nat.le_of_eq (Nat.zero_add _)) (Nat.le_of_eq (Nat.zero_add _)) dX10_digit_2 rfl (fun v_ w_ sg_ hq_ => ?_)
    obtain ⟨rfl, rfl, rfl⟩ := hq_
    refine r_callV MX10_must 1 [_] lvX10_180 (Or.inr (Or.inl ⟨hm, rfl⟩)) (q_must E mo hm w _ (d - 1) g (inN (lkN sg a e) 48 57) h4) rfl rfl (by first | exact Nat.le_of_ble_eq_true rfl | (simp [zcat_rf, Value.category]; done)) (by omega) (Nat.le_of_eq (Nat.zero_add _)) (Nat.le_of_eq (Nat.zero_add _)) dX10_digit_5 rfl (fun v_ w_ sg_ hq_ => ?_)
    obtain ⟨rfl, rfl, rfl⟩ := hq_
    rw [hq]
    refine r_aload_n dX10_digit_8 rfl (zRv_ref _) rfl ?_
    refine r_dup dX10_digit_9 (by first | rfl | exact zcat_rf _) rfl ?_
    refine m_getiv hm 14 lfX10_147 rfl (by first | (simp only [zGS, zMS, Nat.reduceEqDiff, OfNat.ofNat_ne_ofNat, false_and, and_false, true_and, and_true, and_self, if_true, if_false, ite_true, ite_false, reduceIte, reduceCtorEq]; first | done | assumption | rfl) | assumption | exact z2_eq | exact z1_eq | (simp [zGS, zMS]; first | done | assumption) | rfl) dX10_digit_10 rfl ?_
    refine r_iconst dX10_digit_13 kc_1 rfl ?_
    refine r_iaddN dX10_digit_14 rfl ?_
    refine m_puti hm 14 lfX10_147 rfl rfl rfl dX10_digit_15 rfl ?_
    refine r_aload_n dX10_digit_18 rfl (zRv_ref _) rfl ?_
    refine m_getiv hm 15 lfX10_153 rfl (by first | (simp only [zGS, zMS, Nat.reduceEqDiff, OfNat.ofNat_ne_ofNat, false_and, and_false, true_and, and_true, and_self, if_true, if_false, ite_true, ite_false, reduceIte, reduceCtorEq]; first | done | assumption | rfl) | assumption | exact z2_eq | exact z1_eq | (simp [zGS, zMS]; first | done | assumption) | rfl) dX10_digit_19 rfl ?_
    refine r_if_eqB (r := 42) dX10_digit_22 (by decide) rfl (fun c_22 => ?_) (fun c_22 => ?_)
    · refine r_iconst dX10_digit_42 kc_0 rfl ?_
      refine r_iret rfl dX10_digit_43 ?_
      exact ⟨rfl, rfl, rfl⟩
    · cases c_22
  | true =>
    rw [hq] at i1 i2 i3
    rw [Bool.and_eq_true] at hq
    have hae : a < e := (hg hq.1).elim id (fun q => by rw [q] at hq; cases hq.2)
    obtain ⟨q1, q2⟩ := h1.c (show a < 2040 by omega)
    have e1 : lkN sg a e = chN sg a := if_pos hae
    have hr : 48 ≤ lkN sg a e ∧ lkN sg a e ≤ 57 := by
      have := hq.2
      unfold inN at this
      exact of_decide_eq_true this
    refine r_aload_n dX10_digit_0 rfl (zRv_ref _) rfl ?_
    refine r_aload_n dX10_digit_1 rfl (zRv_ref _) rfl ?_
    refine r_callV MX10_isDigit 0 [] lvX10_184 (Or.inr (Or.inl ⟨hm, rfl⟩)) (q_isDigit E mo hm w sg (d - 1) a e g (by omega) h) rfl rfl (by first | exact Nat.le_of_ble_eq_true rfl | (simp [zcat_rf, Value.category]; done)) (by omega) (Nat.le_of_eq (Nat.zero_add _)) (Nat.le_of_eq (Nat.zero_add _)) dX10_digit_2 rfl (fun v_ w_ sg_ hq_ => ?_)
    obtain ⟨rfl, rfl, rfl⟩ := hq_
    refine r_callV MX10_must 1 [_] lvX10_180 (Or.inr (Or.inl ⟨hm, rfl⟩)) (q_must E mo hm w _ (d - 1) g (inN (lkN sg a e) 48 57) h4) rfl rfl (by first | exact Nat.le_of_ble_eq_true rfl | (simp [zcat_rf, Value.category]; done)) (by omega) (Nat.le_of_eq (Nat.zero_add _)) (Nat.le_of_eq (Nat.zero_add _)) dX10_digit_5 rfl (fun v_ w_ sg_ hq_ => ?_)
    obtain ⟨rfl, rfl, rfl⟩ := hq_
    rw [hq.1, hq.2]
    refine r_aload_n dX10_digit_8 rfl (zRv_ref _) rfl ?_
    refine r_dup dX10_digit_9 (by first | rfl | exact zcat_rf _) rfl ?_
    refine m_getiv hm 14 lfX10_147 rfl (by first | (simp only [zGS, zMS, Nat.reduceEqDiff, OfNat.ofNat_ne_ofNat, false_and, and_false, true_and, and_true, and_self, if_true, if_false, ite_true, ite_false, reduceIte, reduceCtorEq]; first | done | assumption | rfl) | assumption | exact z2_eq | exact z1_eq | (simp [zGS, zMS]; first | done | assumption) | rfl) dX10_digit_10 rfl ?_
    refine r_iconst dX10_digit_13 kc_1 rfl ?_
    refine r_iaddN dX10_digit_14 rfl ?_
    refine m_puti hm 14 lfX10_147 rfl rfl rfl dX10_digit_15 rfl ?_
    refine r_aload_n dX10_digit_18 rfl (zRv_ref _) rfl ?_
    refine m_getiv hm 15 lfX10_153 rfl (by first | (simp only [zGS, zMS, Nat.reduceEqDiff, OfNat.ofNat_ne_ofNat, false_and, and_false, true_and, and_true, and_self, if_true, if_false, ite_true, ite_false, reduceIte, reduceCtorEq]; first | done | assumption | rfl) | assumption | exact z2_eq | exact z1_eq | (simp [zGS, zMS]; first | done | assumption) | rfl) dX10_digit_19 rfl ?_
    refine r_if_eqB (r := 42) dX10_digit_22 (by decide) rfl (fun c_22 => ?_) (fun c_22 => ?_)
    · cases c_22
    · refine r_aload_n dX10_digit_25 rfl (zRv_ref _) rfl ?_
      refine m_geta hm 9 7 lfX10_28 rfl (by decide) dX10_digit_26 rfl ?_
      refine r_aload_n dX10_digit_29 rfl (zRv_ref _) rfl ?_
      refine m_getiv hm 14 lfX10_147 rfl (by first | (simp only [zGS, zMS, Nat.reduceEqDiff, OfNat.ofNat_ne_ofNat, false_and, and_false, true_and, and_true, and_self, if_true, if_false, ite_true, ite_false, reduceIte, reduceCtorEq]; first | done | assumption | rfl) | assumption | exact z2_eq | exact z1_eq | (simp [zGS, zMS]; first | done | assumption) | rfl) dX10_digit_30 rfl ?_
      refine r_iconst dX10_digit_33 kc_1 rfl ?_
      refine r_isubN (by omega) dX10_digit_34 rfl ?_
      refine m_caldv hm 7 _ (by decide) (by decide) rfl rfl (by show _ < 2040; omega) (by first | (simp only [zGS, zMS, Nat.reduceEqDiff, OfNat.ofNat_ne_ofNat, false_and, and_false, true_and, and_true, and_self, if_true, if_false, ite_true, ite_false, reduceIte, reduceCtorEq]; first | done | assumption | rfl) | assumption | exact z2_eq | exact z1_eq | (simp [zGS, zMS]; first | done | assumption) | rfl) dX10_digit_35 rfl ?_
      refine r_bipush dX10_digit_36 kb_48 rfl ?_
      refine r_isubN (by omega) dX10_digit_38 rfl ?_
      refine r_goto (r := 43) dX10_digit_39 (by decide) ?_
      refine r_iret rfl dX10_digit_43 ?_
      rw [e1]
      exact ⟨rfl, rfl, rfl⟩
