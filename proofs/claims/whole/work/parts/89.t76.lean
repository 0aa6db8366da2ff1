/-! ===== value, how ===== -/
noncomputable def valD (T : List PEl) (Rs : List PRule) (e p : Int32) : UInt32 := vD T Rs (ixD e) (ixD p)
noncomputable def howD (T : List PEl) (Rs : List PRule) (e p : Int32) : Int32 := nI (calV T (ldD T Rs) (vD T Rs) (ixD e) (ixD p)).1
theorem sp_value (E : ZE) (sg : ZM) (d : Nat) (hd : 7 ≤ d) (x : Nat) (e n : Int32) (T : List PEl) (Rs : List PRule) (B : List Nat) (w : ZW) (h : dskI w x T Rs B) : CallX E MX9_value [.ref x, .int e, .int n] w sg d 2 12 (fun v w' sg' => (inI e T.length = true ∧ inI n 6 = true) ∧ v = some (.float (valD T Rs e n)) ∧ dskI w' x T Rs B ∧ sg = sg') (xNI w sg x T Rs B e n 6) := by
  have hD := h.desk
  have k1 : zk w x = 10 := hD.1
  refine CallX.of rfl (by simp [Value.category]) (Nat.le_of_ble_eq_true rfl) ?_
  refine r_aload_n dX9_value_0 rfl (zRv_ref _) rfl ?_
  refine r_iload_n dX9_value_1 rfl rfl ?_
  refine x_callV (a := 1) (a' := 6) MX9_checkElement 1 [_] rfl lvX9_90 (Or.inl ⟨9, by decide, k1, rfl⟩) (sp_checkElement E sg (d - 1) x T.length Rs.length (by omega) e w hD) rfl rfl (by first | exact Nat.le_of_ble_eq_true rfl | (simp [zcat_rf, Value.category]; done)) (by omega) (by decide) (by decide) dX9_value_2 rfl (fun C w' sg' hX => by obtain ⟨rfl, q, rfl, n, rfl⟩ := hX; exact ⟨Or.inl ⟨rfl, q⟩, h.skip n, rfl⟩) (fun v_ w_ sg_ hq_ => ?_)
  obtain ⟨rfl, he, rfl, rfl⟩ := hq_
  refine r_aload_n dX9_value_5 rfl (zRv_ref _) rfl ?_
  refine r_iload_n dX9_value_6 rfl rfl ?_
  refine r_bipush dX9_value_7 kb_6 rfl ?_
  refine x_callV (a := 0) (a' := 0) MX9_checkName 2 [_, _] rfl lvX9_117 (Or.inl ⟨9, by decide, k1, rfl⟩) (sp_checkName E sg (d - 1) x T.length Rs.length 6 (by omega) n w hD) rfl rfl (by first | exact Nat.le_of_ble_eq_true rfl | (simp [zcat_rf, Value.category]; done)) (by omega) (by decide) (by decide) dX9_value_9 rfl (fun C w' sg' hX => by obtain ⟨rfl, q, rfl, n, rfl⟩ := hX; exact ⟨Or.inr ⟨rfl, he, q⟩, h.skip n, rfl⟩) (fun v_ w_ sg_ hq_ => ?_)
  obtain ⟨rfl, hn, rfl, rfl⟩ := hq_
  refine r_aload_n dX9_value_12 rfl (zRv_ref _) rfl ?_
  refine r_callV MX9_catchUp 0 (a := 0) (a' := 0) [] lvX9_110 (Or.inl ⟨9, by decide, (by first | (simp only [zKS]; first | assumption) | assumption | exact zk_nself _ _ _ | (simp [zKS, zNS, *]; done)), rfl⟩) (sp_cu E sg (d - 1) (by omega) x T Rs B w h) rfl rfl (by first | exact Nat.le_of_ble_eq_true rfl | (simp [zcat_rf, Value.category]; done)) (by omega) (by first | omega | exact Nat.le_of_eq ((Nat.add_comm _ _).trans (Nat.succ_mul _ _).symm)) (by first | omega | exact Nat.le_of_eq ((Nat.add_comm _ _).trans (Nat.succ_mul _ _).symm)) dX9_value_13 rfl (fun v_ w_ sg_ hq_ => ?_)
  obtain ⟨rfl, rfl, g1, g2, g3, A, Lo, Bk, DC, RG, K, g4⟩ := hq_
  obtain ⟨w2, hw2⟩ : ∃ y, y = w_ := ⟨_, rfl⟩
  subst hw2
  obtain ⟨⟨⟨hl, ⟨m1, m2, m3, m4, m5, m6, m7⟩, hT, hA, hSt, hF⟩, hlR, hRA, hU, hK, hz, hDC⟩, c1, c2, c3⟩ := id g4
  have h24 := hT.1.1
  obtain ⟨i, hi, rfl⟩ := inI_nat (by omega) he
  obtain ⟨j, hj, rfl⟩ := inI_nat (by omega) hn
  have hans : valD T Rs (nI i) (nI j) = vD T Rs i j := by
    unfold valD
    rw [ixD_n (by omega), ixD_n (by omega)]
  have hk7 : zk w2 (x + 7) = 5 := g2.1.1
  have hC : cchE w2 x Rs.length T A DC RG (ldD T Rs) (vD T Rs) := ⟨⟨g4.1.1, c2.2, K, hK⟩, g2, c3⟩
  refine r_aload_n dX9_value_16 rfl (zRv_ref _) rfl ?_
  refine r_gets 9 5 1005 lfX9_38 (by first | (simp only [zKS]; first | assumption) | assumption | exact zk_nself _ _ _ | (simp [zKS, zNS, *]; done)) rfl rfl (by first | (simp only [zGS, Nat.reduceEqDiff, OfNat.ofNat_ne_ofNat, false_and, and_false, true_and, and_true, and_self, if_true, if_false, ite_true, ite_false, reduceIte, reduceCtorEq]; first | done | assumption) | assumption | exact z2_eq | (simp [zGS]; first | done | assumption)) dX9_value_17 rfl ?_
  refine r_aload_n dX9_value_20 rfl (zRv_ref _) rfl ?_
  refine r_gets 9 0 1000 lfX9_11 (by first | (simp only [zKS]; first | assumption) | assumption | exact zk_nself _ _ _ | (simp [zKS, zNS, *]; done)) rfl rfl (by first | (simp only [zGS, Nat.reduceEqDiff, OfNat.ofNat_ne_ofNat, false_and, and_false, true_and, and_true, and_self, if_true, if_false, ite_true, ite_false, reduceIte, reduceCtorEq]; first | done | assumption) | assumption | exact z2_eq | (simp [zGS]; first | done | assumption)) dX9_value_21 rfl ?_
  refine r_iload_n dX9_value_24 rfl rfl ?_
  refine r_aals7 i (hA.2.2 i hi) hA.1 rfl (by rw [hA.2.1]; omega) (by omega) dX9_value_25 rfl ?_
  refine r_iload_n dX9_value_26 rfl rfl ?_
  refine r_callV MX4_settle 2 (a := 0) (a' := 0) [_, _] lvX9_130 (Or.inl ⟨4, by decide, (by first | (simp only [zKS]; first | assumption) | assumption | exact zk_nself _ _ _ | (simp [zKS, zNS, *]; done)), rfl⟩) (sp_settle E sg (d - 1) (by omega) x Rs.length T A DC RG hDC (ldD T Rs) (vD T Rs) (vV_is hT.1 (okL_ld g3)) i j hi hj w2 hC) rfl rfl (by first | exact Nat.le_of_ble_eq_true rfl | (simp [zcat_rf, Value.category]; done)) (by omega) (by first | omega | exact Nat.le_of_eq ((Nat.add_comm _ _).trans (Nat.succ_mul _ _).symm)) (by first | omega | exact Nat.le_of_eq ((Nat.add_comm _ _).trans (Nat.succ_mul _ _).symm)) dX9_value_27 rfl (fun v_ w_ sg_ hq_ => ?_)
  obtain ⟨rfl, rfl, s1, s2, s3⟩ := hq_
  obtain ⟨w3, hw3⟩ : ∃ y, y = w_ := ⟨_, rfl⟩
  subst hw3
  have hI3 := g4.set g1 g3 s1 s2
  obtain ⟨⟨⟨ol, ⟨o1, o2, o3, o4, o5, o6, o7⟩, oT, oA, oSt, oF⟩, -⟩, -⟩ := id s2
  obtain ⟨p1, -, -, -, -, -, -, -, -, -, -, p10, -⟩ := oT.2 i hi
  obtain ⟨⟨u1, u2, u3, u4, u5, u6, u7, u8⟩, ⟨v1, v2, v3, v4, v5, v6, v7⟩, y1, y2, y3, y4, y5, y6, y7⟩ := oSt i hi
  refine r_aload_n dX9_value_30 rfl (zRv_ref _) rfl ?_
  refine r_gets 9 0 1000 lfX9_11 (by first | (simp only [zKS]; first | assumption) | assumption | exact zk_nself _ _ _ | (simp [zKS, zNS, *]; done)) rfl rfl (by first | (simp only [zGS, Nat.reduceEqDiff, OfNat.ofNat_ne_ofNat, false_and, and_false, true_and, and_true, and_self, if_true, if_false, ite_true, ite_false, reduceIte, reduceCtorEq]; first | done | assumption) | assumption | exact z2_eq | (simp [zGS]; first | done | assumption)) dX9_value_31 rfl ?_
  refine r_iload_n dX9_value_34 rfl rfl ?_
  refine r_aals7 i (oA.2.2 i hi) oA.1 rfl (by rw [oA.2.1]; omega) (by omega) dX9_value_35 rfl ?_
  refine r_gets 2 9 309 lfX9_121 (by first | (simp only [zKS]; first | assumption) | assumption | exact zk_nself _ _ _ | (simp [zKS, zNS, *]; done)) rfl rfl (by first | (simp only [zGS, Nat.reduceEqDiff, OfNat.ofNat_ne_ofNat, false_and, and_false, true_and, and_true, and_self, if_true, if_false, ite_true, ite_false, reduceIte, reduceCtorEq]; first | done | assumption) | assumption | exact z2_eq | (simp [zGS]; first | done | assumption)) dX9_value_36 rfl ?_
  refine r_gets 7 3 803 lfX9_134 (by first | (simp only [zKS]; first | assumption) | assumption | exact zk_nself _ _ _ | (simp [zKS, zNS, *]; done)) rfl rfl (by first | (simp only [zGS, Nat.reduceEqDiff, OfNat.ofNat_ne_ofNat, false_and, and_false, true_and, and_true, and_self, if_true, if_false, ite_true, ite_false, reduceIte, reduceCtorEq]; first | done | assumption) | assumption | exact z2_eq | (simp [zGS]; first | done | assumption)) dX9_value_39 rfl ?_
  refine r_iload_n dX9_value_42 rfl rfl ?_
  refine r_faldv j v4 rfl (by show j < zln w3 (A i + 1 + 4); omega) (by omega) s3.2 dX9_value_43 rfl ?_
  refine x_fret rfl dX9_value_44 ?_
  exact ⟨⟨he, hn⟩, by rw [hans], hI3, rfl⟩
theorem sp_how (E : ZE) (sg : ZM) (d : Nat) (hd : 7 ≤ d) (x : Nat) (e n : Int32) (T : List PEl) (Rs : List PRule) (B : List Nat) (w : ZW) (h : dskI w x T Rs B) : CallX E MX9_how [.ref x, .int e, .int n] w sg d 2 12 (fun v w' sg' => (inI e T.length = true ∧ inI n 6 = true) ∧ v = some (.int (howD T Rs e n)) ∧ dskI w' x T Rs B ∧ sg = sg') (xNI w sg x T Rs B e n 6) := by
  have hD := h.desk
  have k1 : zk w x = 10 := hD.1
  refine CallX.of rfl (by simp [Value.category]) (Nat.le_of_ble_eq_true rfl) ?_
  refine r_aload_n dX9_how_0 rfl (zRv_ref _) rfl ?_
  refine r_iload_n dX9_how_1 rfl rfl ?_
  refine x_callV (a := 1) (a' := 6) MX9_checkElement 1 [_] rfl lvX9_90 (Or.inl ⟨9, by decide, k1, rfl⟩) (sp_checkElement E sg (d - 1) x T.length Rs.length (by omega) e w hD) rfl rfl (by first | exact Nat.le_of_ble_eq_true rfl | (simp [zcat_rf, Value.category]; done)) (by omega) (by decide) (by decide) dX9_how_2 rfl (fun C w' sg' hX => by obtain ⟨rfl, q, rfl, n, rfl⟩ := hX; exact ⟨Or.inl ⟨rfl, q⟩, h.skip n, rfl⟩) (fun v_ w_ sg_ hq_ => ?_)
  obtain ⟨rfl, he, rfl, rfl⟩ := hq_
  refine r_aload_n dX9_how_5 rfl (zRv_ref _) rfl ?_
  refine r_iload_n dX9_how_6 rfl rfl ?_
  refine r_bipush dX9_how_7 kb_6 rfl ?_
  refine x_callV (a := 0) (a' := 0) MX9_checkName 2 [_, _] rfl lvX9_117 (Or.inl ⟨9, by decide, k1, rfl⟩) (sp_checkName E sg (d - 1) x T.length Rs.length 6 (by omega) n w hD) rfl rfl (by first | exact Nat.le_of_ble_eq_true rfl | (simp [zcat_rf, Value.category]; done)) (by omega) (by decide) (by decide) dX9_how_9 rfl (fun C w' sg' hX => by obtain ⟨rfl, q, rfl, n, rfl⟩ := hX; exact ⟨Or.inr ⟨rfl, he, q⟩, h.skip n, rfl⟩) (fun v_ w_ sg_ hq_ => ?_)
  obtain ⟨rfl, hn, rfl, rfl⟩ := hq_
  refine r_aload_n dX9_how_12 rfl (zRv_ref _) rfl ?_
  refine r_callV MX9_catchUp 0 (a := 0) (a' := 0) [] lvX9_110 (Or.inl ⟨9, by decide, (by first | (simp only [zKS]; first | assumption) | assumption | exact zk_nself _ _ _ | (simp [zKS, zNS, *]; done)), rfl⟩) (sp_cu E sg (d - 1) (by omega) x T Rs B w h) rfl rfl (by first | exact Nat.le_of_ble_eq_true rfl | (simp [zcat_rf, Value.category]; done)) (by omega) (by first | omega | exact Nat.le_of_eq ((Nat.add_comm _ _).trans (Nat.succ_mul _ _).symm)) (by first | omega | exact Nat.le_of_eq ((Nat.add_comm _ _).trans (Nat.succ_mul _ _).symm)) dX9_how_13 rfl (fun v_ w_ sg_ hq_ => ?_)
  obtain ⟨rfl, rfl, g1, g2, g3, A, Lo, Bk, DC, RG, K, g4⟩ := hq_
  obtain ⟨w2, hw2⟩ : ∃ y, y = w_ := ⟨_, rfl⟩
  subst hw2
  obtain ⟨⟨⟨hl, ⟨m1, m2, m3, m4, m5, m6, m7⟩, hT, hA, hSt, hF⟩, hlR, hRA, hU, hK, hz, hDC⟩, c1, c2, c3⟩ := id g4
  have h24 := hT.1.1
  obtain ⟨i, hi, rfl⟩ := inI_nat (by omega) he
  obtain ⟨j, hj, rfl⟩ := inI_nat (by omega) hn
  have hans : howD T Rs (nI i) (nI j) = nI (calV T (ldD T Rs) (vD T Rs) i j).1 := by
    unfold howD
    rw [ixD_n (by omega), ixD_n (by omega)]
  have hk7 : zk w2 (x + 7) = 5 := g2.1.1
  have hC : cchE w2 x Rs.length T A DC RG (ldD T Rs) (vD T Rs) := ⟨⟨g4.1.1, c2.2, K, hK⟩, g2, c3⟩
  refine r_aload_n dX9_how_16 rfl (zRv_ref _) rfl ?_
  refine r_gets 9 5 1005 lfX9_38 (by first | (simp only [zKS]; first | assumption) | assumption | exact zk_nself _ _ _ | (simp [zKS, zNS, *]; done)) rfl rfl (by first | (simp only [zGS, Nat.reduceEqDiff, OfNat.ofNat_ne_ofNat, false_and, and_false, true_and, and_true, and_self, if_true, if_false, ite_true, ite_false, reduceIte, reduceCtorEq]; first | done | assumption) | assumption | exact z2_eq | (simp [zGS]; first | done | assumption)) dX9_how_17 rfl ?_
  refine r_aload_n dX9_how_20 rfl (zRv_ref _) rfl ?_
  refine r_gets 9 0 1000 lfX9_11 (by first | (simp only [zKS]; first | assumption) | assumption | exact zk_nself _ _ _ | (simp [zKS, zNS, *]; done)) rfl rfl (by first | (simp only [zGS, Nat.reduceEqDiff, OfNat.ofNat_ne_ofNat, false_and, and_false, true_and, and_true, and_self, if_true, if_false, ite_true, ite_false, reduceIte, reduceCtorEq]; first | done | assumption) | assumption | exact z2_eq | (simp [zGS]; first | done | assumption)) dX9_how_21 rfl ?_
  refine r_iload_n dX9_how_24 rfl rfl ?_
  refine r_aals7 i (hA.2.2 i hi) hA.1 rfl (by rw [hA.2.1]; omega) (by omega) dX9_how_25 rfl ?_
  refine r_iload_n dX9_how_26 rfl rfl ?_
  refine r_callV MX4_settle 2 (a := 0) (a' := 0) [_, _] lvX9_130 (Or.inl ⟨4, by decide, (by first | (simp only [zKS]; first | assumption) | assumption | exact zk_nself _ _ _ | (simp [zKS, zNS, *]; done)), rfl⟩) (sp_settle E sg (d - 1) (by omega) x Rs.length T A DC RG hDC (ldD T Rs) (vD T Rs) (vV_is hT.1 (okL_ld g3)) i j hi hj w2 hC) rfl rfl (by first | exact Nat.le_of_ble_eq_true rfl | (simp [zcat_rf, Value.category]; done)) (by omega) (by first | omega | exact Nat.le_of_eq ((Nat.add_comm _ _).trans (Nat.succ_mul _ _).symm)) (by first | omega | exact Nat.le_of_eq ((Nat.add_comm _ _).trans (Nat.succ_mul _ _).symm)) dX9_how_27 rfl (fun v_ w_ sg_ hq_ => ?_)
  obtain ⟨rfl, rfl, s1, s2, s3⟩ := hq_
  obtain ⟨w3, hw3⟩ : ∃ y, y = w_ := ⟨_, rfl⟩
  subst hw3
  have hI3 := g4.set g1 g3 s1 s2
  obtain ⟨⟨⟨ol, ⟨o1, o2, o3, o4, o5, o6, o7⟩, oT, oA, oSt, oF⟩, -⟩, -⟩ := id s2
  obtain ⟨p1, -, -, -, -, -, -, -, -, -, -, p10, -⟩ := oT.2 i hi
  obtain ⟨⟨u1, u2, u3, u4, u5, u6, u7, u8⟩, ⟨v1, v2, v3, v4, v5, v6, v7⟩, y1, y2, y3, y4, y5, y6, y7⟩ := oSt i hi
  refine r_aload_n dX9_how_30 rfl (zRv_ref _) rfl ?_
  refine r_gets 9 0 1000 lfX9_11 (by first | (simp only [zKS]; first | assumption) | assumption | exact zk_nself _ _ _ | (simp [zKS, zNS, *]; done)) rfl rfl (by first | (simp only [zGS, Nat.reduceEqDiff, OfNat.ofNat_ne_ofNat, false_and, and_false, true_and, and_true, and_self, if_true, if_false, ite_true, ite_false, reduceIte, reduceCtorEq]; first | done | assumption) | assumption | exact z2_eq | (simp [zGS]; first | done | assumption)) dX9_how_31 rfl ?_
  refine r_iload_n dX9_how_34 rfl rfl ?_
  refine r_aals7 i (oA.2.2 i hi) oA.1 rfl (by rw [oA.2.1]; omega) (by omega) dX9_how_35 rfl ?_
  refine r_gets 2 9 309 lfX9_121 (by first | (simp only [zKS]; first | assumption) | assumption | exact zk_nself _ _ _ | (simp [zKS, zNS, *]; done)) rfl rfl (by first | (simp only [zGS, Nat.reduceEqDiff, OfNat.ofNat_ne_ofNat, false_and, and_false, true_and, and_true, and_self, if_true, if_false, ite_true, ite_false, reduceIte, reduceCtorEq]; first | done | assumption) | assumption | exact z2_eq | (simp [zGS]; first | done | assumption)) dX9_how_36 rfl ?_
  refine r_gets 7 4 804 lfX9_138 (by first | (simp only [zKS]; first | assumption) | assumption | exact zk_nself _ _ _ | (simp [zKS, zNS, *]; done)) rfl rfl (by first | (simp only [zGS, Nat.reduceEqDiff, OfNat.ofNat_ne_ofNat, false_and, and_false, true_and, and_true, and_self, if_true, if_false, ite_true, ite_false, reduceIte, reduceCtorEq]; first | done | assumption) | assumption | exact z2_eq | (simp [zGS]; first | done | assumption)) dX9_how_39 rfl ?_
  refine r_iload_n dX9_how_42 rfl rfl ?_
  refine r_ialdv j v5 rfl (by show j < zln w3 (A i + 1 + 5); omega) (by omega) s3.1 dX9_how_43 rfl ?_
  refine x_iret rfl dX9_how_44 ?_
  exact ⟨⟨he, hn⟩, by rw [hans], hI3, rfl⟩
