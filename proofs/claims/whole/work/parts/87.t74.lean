/-! ===== weight, winner ===== -/
def ixD (k : Int32) : Nat := k.toNatClampNeg
theorem ixD_n {j : Nat} (h : j < 2147483648) : ixD (nI j) = j := zcl h
def rlD (Rs : List PRule) (k : Nat) : PRule := Rs.getD k ([], [])
/-- what weight answers -/
def wtD (T : List PEl) (Rs : List PRule) (k e : Int32) : Int32 := hvI T (ixD e) (rlD Rs (ixD k)).1 (-1)
def winD (T : List PEl) (Rs : List PRule) (e n : Int32) : Int32 := match ldD T Rs (ixD e) (ixD n) with
  | none => -1
  | some (k, _, _) => nI k
theorem sp_weight (E : ZE) (sg : ZM) (d : Nat) (hd : 7 ≤ d) (x : Nat) (k e : Int32) (T : List PEl) (Rs : List PRule) (B : List Nat) (w : ZW) (h : dskI w x T Rs B) : CallX E MX9_weight [.ref x, .int k, .int e] w sg d 2 12 (fun v w' sg' => (inI k Rs.length && inI e T.length) = true ∧ v = some (.int (wtD T Rs k e)) ∧ dskI w' x T Rs B ∧ sg = sg') (fun C w' sg' => C = zNSE ∧ (inI k Rs.length && inI e T.length) = false ∧ dskI w' x T Rs B ∧ sg = sg') := by
  have hD := h.desk
  have k1 : zk w x = 10 := hD.1
  refine CallX.of rfl (by simp [Value.category]) (Nat.le_of_ble_eq_true rfl) ?_
  refine r_aload_n dX9_weight_0 rfl (zRv_ref _) rfl ?_
  refine r_iload_n dX9_weight_1 rfl rfl ?_
  refine x_callV (a := 1) (a' := 6) MX9_checkRule 1 [_] rfl lvX9_87 (Or.inl ⟨9, by decide, k1, rfl⟩) (sp_checkRule E sg (d - 1) x T.length Rs.length (by omega) k w hD) rfl rfl (by first | exact Nat.le_of_ble_eq_true rfl | (simp [zcat_rf, Value.category]; done)) (by omega) (by decide) (by decide) dX9_weight_2 rfl (fun C w' sg' hX => by obtain ⟨rfl, q, rfl, n, rfl⟩ := hX; exact ⟨rfl, by rw [q, Bool.false_and], h.skip n, rfl⟩) (fun v_ w_ sg_ hq_ => ?_)
  obtain ⟨rfl, hk, rfl, rfl⟩ := hq_
  refine r_aload_n dX9_weight_5 rfl (zRv_ref _) rfl ?_
  refine r_iload_n dX9_weight_6 rfl rfl ?_
  refine x_callV (a := 0) (a' := 0) MX9_checkElement 1 [_] rfl lvX9_90 (Or.inl ⟨9, by decide, k1, rfl⟩) (sp_checkElement E sg (d - 1) x T.length Rs.length (by omega) e w hD) rfl rfl (by first | exact Nat.le_of_ble_eq_true rfl | (simp [zcat_rf, Value.category]; done)) (by omega) (by decide) (by decide) dX9_weight_7 rfl (fun C w' sg' hX => by obtain ⟨rfl, q, rfl, n, rfl⟩ := hX; exact ⟨rfl, by rw [q, Bool.and_false], h.skip n, rfl⟩) (fun v_ w_ sg_ hq_ => ?_)
  obtain ⟨rfl, he, rfl, rfl⟩ := hq_
  refine r_aload_n dX9_weight_10 rfl (zRv_ref _) rfl ?_
  refine r_callV MX9_catchUp 0 (a := 0) (a' := 0) [] lvX9_110 (Or.inl ⟨9, by decide, (by first | (simp only [zKS]; first | assumption) | assumption | exact zk_nself _ _ _ | (simp [zKS, zNS, *]; done)), rfl⟩) (sp_cu E sg (d - 1) (by omega) x T Rs B w h) rfl rfl (by first | exact Nat.le_of_ble_eq_true rfl | (simp [zcat_rf, Value.category]; done)) (by omega) (by first | omega | exact Nat.le_of_eq ((Nat.add_comm _ _).trans (Nat.succ_mul _ _).symm)) (by first | omega | exact Nat.le_of_eq ((Nat.add_comm _ _).trans (Nat.succ_mul _ _).symm)) dX9_weight_11 rfl (fun v_ w_ sg_ hq_ => ?_)
  obtain ⟨rfl, rfl, g1, g2, g3, A, Lo, Bk, DC, RG, K, g4⟩ := hq_
  obtain ⟨w2, hw2⟩ : ∃ y, y = w_ := ⟨_, rfl⟩
  subst hw2
  obtain ⟨⟨⟨hl, ⟨m1, m2, m3, m4, m5, m6, m7⟩, hT, hA, hSt, hF⟩, hlR, hRA, hU, hK, hz, hDC⟩, c1, c2, c3⟩ := id g4
  have h24 := hT.1.1
  have h16 := hRA.2.2.1
  obtain ⟨j, hj, rfl⟩ := inI_nat (by omega) hk
  obtain ⟨i, hi, rfl⟩ := inI_nat (by omega) he
  obtain ⟨R, hR⟩ : ∃ R, Rs[j]? = some R := ⟨Rs[j], List.getElem?_eq_getElem hj⟩
  obtain ⟨u1, s0, d0, u2, u3, u4, u5⟩ := c2.1 j R hR
  have el := hT.2 i hi
  have n1 := el.1
  have n2 : zi w2 304 (A i) = nI (2 ^ i) := el.2.2.2.2.2.2.1
  have hans : wtD T Rs (nI j) (nI i) = hvI T i R.1 (-1) := by
    unfold wtD rlD
    rw [ixD_n (by omega), ixD_n (by omega), List.getD_eq_getElem?_getD, hR]
    rfl
  refine r_aload_n dX9_weight_14 rfl (zRv_ref _) rfl ?_
  refine r_gets 9 2 1002 lfX9_21 (by first | (simp only [zKS]; first | assumption) | assumption | exact zk_nself _ _ _ | (simp [zKS, zNS, *]; done)) rfl rfl (by first | (simp only [zGS, Nat.reduceEqDiff, OfNat.ofNat_ne_ofNat, false_and, and_false, true_and, and_true, and_self, if_true, if_false, ite_true, ite_false, reduceIte, reduceCtorEq]; first | done | assumption) | assumption | exact z2_eq | (simp [zGS]; first | done | assumption)) dX9_weight_15 rfl ?_
  refine r_iload_n dX9_weight_18 rfl rfl ?_
  refine r_aals8 j (hRA.2.2.2 j hj) hRA.1 rfl (by rw [hRA.2.1]; omega) (by omega) dX9_weight_19 rfl ?_
  refine r_aload_n dX9_weight_20 rfl (zRv_ref _) rfl ?_
  refine r_gets 9 0 1000 lfX9_11 (by first | (simp only [zKS]; first | assumption) | assumption | exact zk_nself _ _ _ | (simp [zKS, zNS, *]; done)) rfl rfl (by first | (simp only [zGS, Nat.reduceEqDiff, OfNat.ofNat_ne_ofNat, false_and, and_false, true_and, and_true, and_self, if_true, if_false, ite_true, ite_false, reduceIte, reduceCtorEq]; first | done | assumption) | assumption | exact z2_eq | (simp [zGS]; first | done | assumption)) dX9_weight_21 rfl ?_
  refine r_iload_n dX9_weight_24 rfl rfl ?_
  refine r_aals7 i (hA.2.2 i hi) hA.1 rfl (by rw [hA.2.1]; omega) (by omega) dX9_weight_25 rfl ?_
  refine r_getiv 2 4 304 lfX9_62 (by first | (simp only [zKS]; first | assumption) | assumption | exact zk_nself _ _ _ | (simp [zKS, zNS, *]; done)) rfl rfl (by first | (simp only [zGS, zMS, Nat.reduceEqDiff, OfNat.ofNat_ne_ofNat, false_and, and_false, true_and, and_true, and_self, if_true, if_false, ite_true, ite_false, reduceIte, reduceCtorEq]; first | done | assumption | rfl) | assumption | exact z2_eq | exact z1_eq | (simp [zGS, zMS]; first | done | assumption) | rfl) dX9_weight_26 rfl ?_
  refine r_callV MX5_heaviest 1 (a := 0) (a' := 0) [_] lvX9_113 (Or.inl ⟨5, by decide, (by first | (simp only [zKS]; first | assumption) | assumption | exact zk_nself _ _ _ | (simp [zKS, zNS, *]; done)), rfl⟩) (sp_heaviest E sg (d - 1) (by omega) T h24 i (by omega) (Bk j) (Lo j) (Bk j) s0 w2 R.1 u1 u2 u4) rfl rfl (by first | exact Nat.le_of_ble_eq_true rfl | (simp [zcat_rf, Value.category]; done)) (by omega) (by first | omega | exact Nat.le_of_eq ((Nat.add_comm _ _).trans (Nat.succ_mul _ _).symm)) (by first | omega | exact Nat.le_of_eq ((Nat.add_comm _ _).trans (Nat.succ_mul _ _).symm)) dX9_weight_29 rfl (fun v_ w_ sg_ hq_ => ?_)
  obtain ⟨rfl, rfl, rfl⟩ := hq_
  refine x_iret rfl dX9_weight_32 ?_
  exact ⟨by rw [hk, he]; rfl, by rw [hans], g4.i g1 g2 g3, rfl⟩
