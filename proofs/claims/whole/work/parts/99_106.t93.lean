/-! ===== the model: letter, addPart, add ===== -/
theorem q_letter (E : ZE) (mo : Nat) (hm : E.2.2.2.2 = some mo) (w : ZW) (sg : ZM) (d a e lt : Nat) (g : Bool) (hd : 2 ≤ d) (ha : a < 9999) (hlt : lt < 128) (h : crI sg a e g) : CallQ E MX10_letter [.ref mo, .int (nI lt)] w sg d 0 0 (fun v w' sg' => v = some (.int (nI (if (g && inN (lkN sg a e) 97 lt) = true then lkN sg a e else 97))) ∧ w = w' ∧ sg' = msi (msi sg 15 (zb (g && inN (lkN sg a e) 97 lt))) 14 (nI (a + 1))) := by
  have hb := h.lk
  have h4 := h.2.2.2.1
  have h2 := h.2.1
  have h1 := h.1
  have h5 := h.2.2.2.2.1
  refine CallQ.of rfl (by simp [Value.category]) (Nat.le_of_ble_eq_true rfl) ?_
  obtain ⟨b, hB⟩ : ∃ b, inN (lkN sg a e) 97 lt = b := ⟨_, rfl⟩
  have i1 : mi (msi sg 15 (zb (g && b))) 14 = nI a := by rw [mi_msi, if_neg (by decide)]; exact h2
  have i2 : mi (msi (msi sg 15 (zb (g && b))) 14 (nI (a + 1))) 15 = zb (g && b) := by rw [mi_msi, if_neg (by decide), mi_msi, if_pos rfl]
  have i3 : mi (msi (msi sg 15 (zb (g && b))) 14 (nI (a + 1))) 14 = nI (a + 1) := by rw [mi_msi, if_pos rfl]
  have hqm := q_must E mo hm w sg (d - 1) g b h4
  rw [hB]
  cases b with
  | false =>
    have hgb : (g && false) = false := Bool.and_false g
    rw [hgb] at i1 i2 i3 hqm ⊢
    refine r_aload_n dX10_letter_0 rfl (zRv_ref _) rfl ?_
    refine r_aload_n dX10_letter_1 rfl (zRv_ref _) rfl ?_
    refine r_callV MX10_look 0 [] lvX10_172 (Or.inr (Or.inl ⟨hm, rfl⟩)) (q_look E mo hm w sg (d - 1) a e g h) rfl rfl (by first | exact Nat.le_of_ble_eq_true rfl | (simp [zcat_rf, Value.category]; done)) (by omega) (Nat.le_of_eq (Nat.zero_add _)) (Nat.le_of_eq (Nat.zero_add _)) dX10_letter_2 rfl (fun v_ w_ sg_ hq_ => ?_)
    obtain ⟨rfl, rfl, rfl⟩ := hq_
    refine r_bipush dX10_letter_5 kb_97 rfl ?_
    refine r_iload_n dX10_letter_7 rfl rfl ?_
    refine r_callS MX10_outside 3 [_, _, _] lsX10_140 (q_outside E w _ (d - 1) (lkN sg a e) 97 lt (by omega) (by decide) (by omega)) rfl rfl (by first | exact Nat.le_of_ble_eq_true rfl | (simp [zcat_rf, Value.category]; done)) (by omega) (Nat.le_of_eq (Nat.zero_add _)) (Nat.le_of_eq (Nat.zero_add _)) dX10_letter_8 rfl (fun v_ w_ sg_ hq_ => ?_)
    obtain ⟨rfl, rfl, rfl⟩ := hq_
    rw [hB]
    refine r_if_neB (r := 18) dX10_letter_11 (by decide) rfl (fun c_11 => ?_) (fun c_11 => ?_)
    · refine r_iconst dX10_letter_18 kc_0 rfl ?_
      refine r_callV MX10_must 1 [_] lvX10_180 (Or.inr (Or.inl ⟨hm, rfl⟩)) (hqm) rfl rfl (by first | exact Nat.le_of_ble_eq_true rfl | (simp [zcat_rf, Value.category]; done)) (by omega) (Nat.le_of_eq (Nat.zero_add _)) (Nat.le_of_eq (Nat.zero_add _)) dX10_letter_19 rfl (fun v_ w_ sg_ hq_ => ?_)
      obtain ⟨rfl, rfl, rfl⟩ := hq_
      refine r_aload_n dX10_letter_22 rfl (zRv_ref _) rfl ?_
      refine r_dup dX10_letter_23 (by first | rfl | exact zcat_rf _) rfl ?_
      refine m_getiv hm 14 lfX10_147 rfl (by first | (simp only [zGS, zMS, Nat.reduceEqDiff, OfNat.ofNat_ne_ofNat, false_and, and_false, true_and, and_true, and_self, if_true, if_false, ite_true, ite_false, reduceIte, reduceCtorEq]; first | done | assumption | rfl) | assumption | exact z2_eq | exact z1_eq | (simp [zGS, zMS]; first | done | assumption) | rfl) dX10_letter_24 rfl ?_
      refine r_iconst dX10_letter_27 kc_1 rfl ?_
      refine r_iaddN dX10_letter_28 rfl ?_
      refine m_puti hm 14 lfX10_147 rfl rfl rfl dX10_letter_29 rfl ?_
      refine r_aload_n dX10_letter_32 rfl (zRv_ref _) rfl ?_
      refine m_getiv hm 15 lfX10_153 rfl (by first | (simp only [zGS, zMS, Nat.reduceEqDiff, OfNat.ofNat_ne_ofNat, false_and, and_false, true_and, and_true, and_self, if_true, if_false, ite_true, ite_false, reduceIte, reduceCtorEq]; first | done | assumption | rfl) | assumption | exact z2_eq | exact z1_eq | (simp [zGS, zMS]; first | done | assumption) | rfl) dX10_letter_33 rfl ?_
      refine r_if_eqB (r := 53) dX10_letter_36 (by decide) rfl (fun c_36 => ?_) (fun c_36 => ?_)
      · refine r_bipush dX10_letter_53 kb_97 rfl ?_
        refine r_iret rfl dX10_letter_55 ?_
        exact ⟨rfl, rfl, rfl⟩
      · cases c_36
    · cases c_11
  | true =>
    have hgb : (g && true) = g := Bool.and_true g
    rw [hgb] at i1 i2 i3 hqm ⊢
    have hr : 97 ≤ lkN sg a e ∧ lkN sg a e ≤ lt := by unfold inN at hB; exact of_decide_eq_true hB
    have hae : a < e := by
      rcases Nat.lt_or_ge a e with q | q
      · exact q
      · have : lkN sg a e = 0 := if_neg (by omega)
        omega
    obtain ⟨q1, q2⟩ := h1.c (show a < 2040 by omega)
    have e1 : lkN sg a e = chN sg a := if_pos hae
    cases g with
    | false =>
      refine r_aload_n dX10_letter_0 rfl (zRv_ref _) rfl ?_
      refine r_aload_n dX10_letter_1 rfl (zRv_ref _) rfl ?_
      refine r_callV MX10_look 0 [] lvX10_172 (Or.inr (Or.inl ⟨hm, rfl⟩)) (q_look E mo hm w sg (d - 1) a e false h) rfl rfl (by first | exact Nat.le_of_ble_eq_true rfl | (simp [zcat_rf, Value.category]; done)) (by omega) (Nat.le_of_eq (Nat.zero_add _)) (Nat.le_of_eq (Nat.zero_add _)) dX10_letter_2 rfl (fun v_ w_ sg_ hq_ => ?_)
      obtain ⟨rfl, rfl, rfl⟩ := hq_
      refine r_bipush dX10_letter_5 kb_97 rfl ?_
      refine r_iload_n dX10_letter_7 rfl rfl ?_
      refine r_callS MX10_outside 3 [_, _, _] lsX10_140 (q_outside E w _ (d - 1) (lkN sg a e) 97 lt (by omega) (by decide) (by omega)) rfl rfl (by first | exact Nat.le_of_ble_eq_true rfl | (simp [zcat_rf, Value.category]; done)) (by omega) (Nat.le_of_eq (Nat.zero_add _)) (Nat.le_of_eq (Nat.zero_add _)) dX10_letter_8 rfl (fun v_ w_ sg_ hq_ => ?_)
      obtain ⟨rfl, rfl, rfl⟩ := hq_
      rw [hB]
      refine r_if_neB (r := 18) dX10_letter_11 (by decide) rfl (fun c_11 => ?_) (fun c_11 => ?_)
      · cases c_11
      · refine r_iconst dX10_letter_14 kc_1 rfl ?_
        refine r_goto (r := 19) dX10_letter_15 (by decide) ?_
        refine r_callV MX10_must 1 [_] lvX10_180 (Or.inr (Or.inl ⟨hm, rfl⟩)) (hqm) rfl rfl (by first | exact Nat.le_of_ble_eq_true rfl | (simp [zcat_rf, Value.category]; done)) (by omega) (Nat.le_of_eq (Nat.zero_add _)) (Nat.le_of_eq (Nat.zero_add _)) dX10_letter_19 rfl (fun v_ w_ sg_ hq_ => ?_)
        obtain ⟨rfl, rfl, rfl⟩ := hq_
        refine r_aload_n dX10_letter_22 rfl (zRv_ref _) rfl ?_
        refine r_dup dX10_letter_23 (by first | rfl | exact zcat_rf _) rfl ?_
        refine m_getiv hm 14 lfX10_147 rfl (by first | (simp only [zGS, zMS, Nat.reduceEqDiff, OfNat.ofNat_ne_ofNat, false_and, and_false, true_and, and_true, and_self, if_true, if_false, ite_true, ite_false, reduceIte, reduceCtorEq]; first | done | assumption | rfl) | assumption | exact z2_eq | exact z1_eq | (simp [zGS, zMS]; first | done | assumption) | rfl) dX10_letter_24 rfl ?_
        refine r_iconst dX10_letter_27 kc_1 rfl ?_
        refine r_iaddN dX10_letter_28 rfl ?_
        refine m_puti hm 14 lfX10_147 rfl rfl rfl dX10_letter_29 rfl ?_
        refine r_aload_n dX10_letter_32 rfl (zRv_ref _) rfl ?_
        refine m_getiv hm 15 lfX10_153 rfl (by first | (simp only [zGS, zMS, Nat.reduceEqDiff, OfNat.ofNat_ne_ofNat, false_and, and_false, true_and, and_true, and_self, if_true, if_false, ite_true, ite_false, reduceIte, reduceCtorEq]; first | done | assumption | rfl) | assumption | exact z2_eq | exact z1_eq | (simp [zGS, zMS]; first | done | assumption) | rfl) dX10_letter_33 rfl ?_
        refine r_if_eqB (r := 53) dX10_letter_36 (by decide) rfl (fun c_36 => ?_) (fun c_36 => ?_)
        · refine r_bipush dX10_letter_53 kb_97 rfl ?_
          refine r_iret rfl dX10_letter_55 ?_
          exact ⟨rfl, rfl, rfl⟩
        · cases c_36
    | true =>
      refine r_aload_n dX10_letter_0 rfl (zRv_ref _) rfl ?_
      refine r_aload_n dX10_letter_1 rfl (zRv_ref _) rfl ?_
      refine r_callV MX10_look 0 [] lvX10_172 (Or.inr (Or.inl ⟨hm, rfl⟩)) (q_look E mo hm w sg (d - 1) a e true h) rfl rfl (by first | exact Nat.le_of_ble_eq_true rfl | (simp [zcat_rf, Value.category]; done)) (by omega) (Nat.le_of_eq (Nat.zero_add _)) (Nat.le_of_eq (Nat.zero_add _)) dX10_letter_2 rfl (fun v_ w_ sg_ hq_ => ?_)
      obtain ⟨rfl, rfl, rfl⟩ := hq_
      refine r_bipush dX10_letter_5 kb_97 rfl ?_
      refine r_iload_n dX10_letter_7 rfl rfl ?_
      refine r_callS MX10_outside 3 [_, _, _] lsX10_140 (q_outside E w _ (d - 1) (lkN sg a e) 97 lt (by omega) (by decide) (by omega)) rfl rfl (by first | exact Nat.le_of_ble_eq_true rfl | (simp [zcat_rf, Value.category]; done)) (by omega) (Nat.le_of_eq (Nat.zero_add _)) (Nat.le_of_eq (Nat.zero_add _)) dX10_letter_8 rfl (fun v_ w_ sg_ hq_ => ?_)
      obtain ⟨rfl, rfl, rfl⟩ := hq_
      rw [hB]
      refine r_if_neB (r := 18) dX10_letter_11 (by decide) rfl (fun c_11 => ?_) (fun c_11 => ?_)
      · cases c_11
      · refine r_iconst dX10_letter_14 kc_1 rfl ?_
        refine r_goto (r := 19) dX10_letter_15 (by decide) ?_
        refine r_callV MX10_must 1 [_] lvX10_180 (Or.inr (Or.inl ⟨hm, rfl⟩)) (hqm) rfl rfl (by first | exact Nat.le_of_ble_eq_true rfl | (simp [zcat_rf, Value.category]; done)) (by omega) (Nat.le_of_eq (Nat.zero_add _)) (Nat.le_of_eq (Nat.zero_add _)) dX10_letter_19 rfl (fun v_ w_ sg_ hq_ => ?_)
        obtain ⟨rfl, rfl, rfl⟩ := hq_
        refine r_aload_n dX10_letter_22 rfl (zRv_ref _) rfl ?_
        refine r_dup dX10_letter_23 (by first | rfl | exact zcat_rf _) rfl ?_
        refine m_getiv hm 14 lfX10_147 rfl (by first | (simp only [zGS, zMS, Nat.reduceEqDiff, OfNat.ofNat_ne_ofNat, false_and, and_false, true_and, and_true, and_self, if_true, if_false, ite_true, ite_false, reduceIte, reduceCtorEq]; first | done | assumption | rfl) | assumption | exact z2_eq | exact z1_eq | (simp [zGS, zMS]; first | done | assumption) | rfl) dX10_letter_24 rfl ?_
        refine r_iconst dX10_letter_27 kc_1 rfl ?_
        refine r_iaddN dX10_letter_28 rfl ?_
        refine m_puti hm 14 lfX10_147 rfl rfl rfl dX10_letter_29 rfl ?_
        refine r_aload_n dX10_letter_32 rfl (zRv_ref _) rfl ?_
        refine m_getiv hm 15 lfX10_153 rfl (by first | (simp only [zGS, zMS, Nat.reduceEqDiff, OfNat.ofNat_ne_ofNat, false_and, and_false, true_and, and_true, and_self, if_true, if_false, ite_true, ite_false, reduceIte, reduceCtorEq]; first | done | assumption | rfl) | assumption | exact z2_eq | exact z1_eq | (simp [zGS, zMS]; first | done | assumption) | rfl) dX10_letter_33 rfl ?_
        refine r_if_eqB (r := 53) dX10_letter_36 (by decide) rfl (fun c_36 => ?_) (fun c_36 => ?_)
        · cases c_36
        · refine r_aload_n dX10_letter_39 rfl (zRv_ref _) rfl ?_
          refine m_geta hm 9 7 lfX10_28 rfl (by decide) dX10_letter_40 rfl ?_
          refine r_aload_n dX10_letter_43 rfl (zRv_ref _) rfl ?_
          refine m_getiv hm 14 lfX10_147 rfl (by first | (simp only [zGS, zMS, Nat.reduceEqDiff, OfNat.ofNat_ne_ofNat, false_and, and_false, true_and, and_true, and_self, if_true, if_false, ite_true, ite_false, reduceIte, reduceCtorEq]; first | done | assumption | rfl) | assumption | exact z2_eq | exact z1_eq | (simp [zGS, zMS]; first | done | assumption) | rfl) dX10_letter_44 rfl ?_
          refine r_iconst dX10_letter_47 kc_1 rfl ?_
          refine r_isubN (by omega) dX10_letter_48 rfl ?_
          refine m_caldv hm 7 _ (by decide) (by decide) rfl rfl (by show _ < 2040; omega) (by first | (simp only [zGS, zMS, Nat.reduceEqDiff, OfNat.ofNat_ne_ofNat, false_and, and_false, true_and, and_true, and_self, if_true, if_false, ite_true, ite_false, reduceIte, reduceCtorEq]; first | done | assumption | rfl) | assumption | exact z2_eq | exact z1_eq | (simp [zGS, zMS]; first | done | assumption) | rfl) dX10_letter_49 rfl ?_
          refine r_goto (r := 55) dX10_letter_50 (by decide) ?_
          refine r_iret rfl dX10_letter_55 ?_
          rw [e1]
          exact ⟨rfl, rfl, rfl⟩
