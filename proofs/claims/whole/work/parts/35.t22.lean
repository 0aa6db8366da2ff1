/-! ===== small readers ===== -/
theorem sp_atEnd (E : ZE) (w : ZW) (sg : ZM) (d : Nat) (tb tx sp nm : Nat) (r : List Nat) (ss : List PStep) (hm : TBm w tb tx sp nm r ss) : CallQ E MX8_isAtEnd [.ref tb] w sg d 0 0 (fun v w' sg' => v = some (.int (zb r.isEmpty)) ∧ w = w' ∧ sg = sg') := by
  obtain ⟨h1, ⟨a, h2⟩, h3⟩ := hm
  have hk := h1.1
  obtain ⟨r1, r2, r3, -, -⟩ := h2
  refine CallQ.of rfl (by simp [Value.category]) (Nat.le_of_ble_eq_true rfl) ?_
  cases r with
  | nil =>
    refine r_aload_n dX8_isAtEnd_0 rfl (zRv_ref _) rfl ?_
    refine r_getiv 8 3 903 lfX8_22 (by first | (simp only [zKS]; first | assumption | exact TBm.k (by assumption)) | assumption | exact TBm.k (by assumption) | exact zk_nself _ _ _ | (simp [zKS, zNS, *]; done)) rfl rfl (by first | (simp only [zGS, zMS, Nat.reduceEqDiff, OfNat.ofNat_ne_ofNat, false_and, and_false, true_and, and_true, and_self, if_true, if_false, ite_true, ite_false, reduceIte, reduceCtorEq]; first | done | assumption | rfl) | assumption | exact z2_eq | exact z1_eq | (simp [zGS, zMS]; first | done | assumption) | rfl) dX8_isAtEnd_1 rfl ?_
    refine r_aload_n dX8_isAtEnd_4 rfl (zRv_ref _) rfl ?_
    refine r_getiv 8 2 902 lfX8_19 (by first | (simp only [zKS]; first | assumption | exact TBm.k (by assumption)) | assumption | exact TBm.k (by assumption) | exact zk_nself _ _ _ | (simp [zKS, zNS, *]; done)) rfl rfl (by first | (simp only [zGS, zMS, Nat.reduceEqDiff, OfNat.ofNat_ne_ofNat, false_and, and_false, true_and, and_true, and_self, if_true, if_false, ite_true, ite_false, reduceIte, reduceCtorEq]; first | done | assumption | rfl) | assumption | exact z2_eq | exact z1_eq | (simp [zGS, zMS]; first | done | assumption) | rfl) dX8_isAtEnd_5 rfl ?_
    refine r_icmp_neN (by omega) (by omega) (r := 15) dX8_isAtEnd_8 (by decide) rfl (fun c_8 => ?_) (fun c_8 => ?_)
    · exact absurd c_8 (by simp)
    · refine r_iconst dX8_isAtEnd_11 kc_1 rfl ?_
      refine r_goto (r := 16) dX8_isAtEnd_12 (by decide) ?_
      refine r_zret .boolean rfl rfl dX8_isAtEnd_16 ?_
      exact ⟨rfl, rfl, rfl⟩
  | cons c r =>
    rw [List.length_cons] at r2 r3
    refine r_aload_n dX8_isAtEnd_0 rfl (zRv_ref _) rfl ?_
    refine r_getiv 8 3 903 lfX8_22 (by first | (simp only [zKS]; first | assumption | exact TBm.k (by assumption)) | assumption | exact TBm.k (by assumption) | exact zk_nself _ _ _ | (simp [zKS, zNS, *]; done)) rfl rfl (by first | (simp only [zGS, zMS, Nat.reduceEqDiff, OfNat.ofNat_ne_ofNat, false_and, and_false, true_and, and_true, and_self, if_true, if_false, ite_true, ite_false, reduceIte, reduceCtorEq]; first | done | assumption | rfl) | assumption | exact z2_eq | exact z1_eq | (simp [zGS, zMS]; first | done | assumption) | rfl) dX8_isAtEnd_1 rfl ?_
    refine r_aload_n dX8_isAtEnd_4 rfl (zRv_ref _) rfl ?_
    refine r_getiv 8 2 902 lfX8_19 (by first | (simp only [zKS]; first | assumption | exact TBm.k (by assumption)) | assumption | exact TBm.k (by assumption) | exact zk_nself _ _ _ | (simp [zKS, zNS, *]; done)) rfl rfl (by first | (simp only [zGS, zMS, Nat.reduceEqDiff, OfNat.ofNat_ne_ofNat, false_and, and_false, true_and, and_true, and_self, if_true, if_false, ite_true, ite_false, reduceIte, reduceCtorEq]; first | done | assumption | rfl) | assumption | exact z2_eq | exact z1_eq | (simp [zGS, zMS]; first | done | assumption) | rfl) dX8_isAtEnd_5 rfl ?_
    refine r_icmp_neN (by omega) (by omega) (r := 15) dX8_isAtEnd_8 (by decide) rfl (fun c_8 => ?_) (fun c_8 => ?_)
    · refine r_iconst dX8_isAtEnd_15 kc_0 rfl ?_
      refine r_zret .boolean rfl rfl dX8_isAtEnd_16 ?_
      exact ⟨rfl, rfl, rfl⟩
    · exact absurd c_8 (by omega)
theorem sp_X1_init (E : ZE) (w : ZW) (sg : ZM) (d : Nat) (hd : 1 ≤ d) (a st nu : Nat) (x y z : Int32) (hk : zk w a = 2) : CallQ E MX1_init [.ref a, .int x, .int y, .int z, .ref st, .ref nu] w sg d 0 0 (fun v w' sg' => v = none ∧ w' = zsr (zsr (zsr (zsi (zsi (zsi w 200 a x) 201 a y) 202 a z) 203 a (some st)) 204 a (some nu)) 205 a none ∧ sg = sg') := by
  refine CallQ.of rfl (by simp [Value.category]) (Nat.le_of_ble_eq_true rfl) ?_
  refine r_aload_n dX1_init_0 rfl (zRv_ref _) rfl ?_
  refine r_objI tw_691 tw_118 tw_119 (by omega) (by first | exact Nat.le_of_ble_eq_true rfl | (simp [zcat_rf, Value.category]; done)) dX1_init_1 rfl ?_
  refine r_aload_n dX1_init_4 rfl (zRv_ref _) rfl ?_
  refine r_iload_n dX1_init_5 rfl rfl ?_
  refine r_puti 1 0 200 lfX1_7 (by first | (simp only [zKS]; first | assumption | exact TBm.k (by assumption)) | assumption | exact TBm.k (by assumption) | exact zk_nself _ _ _ | (simp [zKS, zNS, *]; done)) rfl rfl rfl (Or.inr ⟨rfl, rfl⟩) dX1_init_6 rfl ?_
  refine r_aload_n dX1_init_9 rfl (zRv_ref _) rfl ?_
  refine r_iload_n dX1_init_10 rfl rfl ?_
  refine r_puti 1 1 201 lfX1_13 (by first | (simp only [zKS]; first | assumption | exact TBm.k (by assumption)) | assumption | exact TBm.k (by assumption) | exact zk_nself _ _ _ | (simp [zKS, zNS, *]; done)) rfl rfl rfl (Or.inr ⟨rfl, rfl⟩) dX1_init_11 rfl ?_
  refine r_aload_n dX1_init_14 rfl (zRv_ref _) rfl ?_
  refine r_iload_n dX1_init_15 rfl rfl ?_
  refine r_puti 1 2 202 lfX1_16 (by first | (simp only [zKS]; first | assumption | exact TBm.k (by assumption)) | assumption | exact TBm.k (by assumption) | exact zk_nself _ _ _ | (simp [zKS, zNS, *]; done)) rfl rfl rfl (Or.inr ⟨rfl, rfl⟩) dX1_init_16 rfl ?_
  refine r_aload_n dX1_init_19 rfl (zRv_ref _) rfl ?_
  refine r_aload dX1_init_20 rfl (by first | exact zRv_ref _ | exact zRv_null | exact zRv_rf _ | assumption) rfl ?_
  refine r_puts 1 3 203 lfX1_19 (by first | (simp only [zKS]; first | assumption | exact TBm.k (by assumption)) | assumption | exact TBm.k (by assumption) | exact zk_nself _ _ _ | (simp [zKS, zNS, *]; done)) rfl rfl rfl (Or.inr ⟨rfl, rfl⟩) dX1_init_22 rfl ?_
  refine r_aload_n dX1_init_25 rfl (zRv_ref _) rfl ?_
  refine r_aload dX1_init_26 rfl (by first | exact zRv_ref _ | exact zRv_null | exact zRv_rf _ | assumption) rfl ?_
  refine r_puts 1 4 204 lfX1_23 (by first | (simp only [zKS]; first | assumption | exact TBm.k (by assumption)) | assumption | exact TBm.k (by assumption) | exact zk_nself _ _ _ | (simp [zKS, zNS, *]; done)) rfl rfl rfl (Or.inr ⟨rfl, rfl⟩) dX1_init_28 rfl ?_
  refine r_aload_n dX1_init_31 rfl (zRv_ref _) rfl ?_
  refine r_aconst_null dX1_init_32 rfl ?_
  refine r_putn 1 5 205 lfX1_27 (by first | (simp only [zKS]; first | assumption | exact TBm.k (by assumption)) | assumption | exact TBm.k (by assumption) | exact zk_nself _ _ _ | (simp [zKS, zNS, *]; done)) rfl rfl rfl (Or.inl rfl) dX1_init_33 rfl ?_
  refine r_vret rfl dX1_init_36 ?_
  exact ⟨rfl, rfl, rfl⟩
theorem sp_startReading (E : ZE) (w : ZW) (sg : ZM) (d : Nat) (tb : Nat) (hk : zk w tb = 9) : CallQ E MX8_startReading [.ref tb] w sg d 0 0 (fun v w' sg' => v = none ∧ w' = zsi (zsi (zsi w 902 tb (zi w 901 tb)) 901 tb (nI 0)) 903 tb (nI 0) ∧ sg = sg') := by
  have e1 : zi w 901 tb = zi w 901 tb := rfl
  refine CallQ.of rfl (by simp [Value.category]) (Nat.le_of_ble_eq_true rfl) ?_
  refine r_aload_n dX8_startReading_0 rfl (zRv_ref _) rfl ?_
  refine r_aload_n dX8_startReading_1 rfl (zRv_ref _) rfl ?_
  refine r_getiv 8 1 901 lfX8_15 (by first | (simp only [zKS]; first | assumption | exact TBm.k (by assumption)) | assumption | exact TBm.k (by assumption) | exact zk_nself _ _ _ | (simp [zKS, zNS, *]; done)) rfl rfl (by first | (simp only [zGS, zMS, Nat.reduceEqDiff, OfNat.ofNat_ne_ofNat, false_and, and_false, true_and, and_true, and_self, if_true, if_false, ite_true, ite_false, reduceIte, reduceCtorEq]; first | done | assumption | rfl) | assumption | exact z2_eq | exact z1_eq | (simp [zGS, zMS]; first | done | assumption) | rfl) dX8_startReading_2 rfl ?_
  refine r_puti 8 2 902 lfX8_19 (by first | (simp only [zKS]; first | assumption | exact TBm.k (by assumption)) | assumption | exact TBm.k (by assumption) | exact zk_nself _ _ _ | (simp [zKS, zNS, *]; done)) rfl rfl rfl (Or.inl rfl) dX8_startReading_5 rfl ?_
  refine r_aload_n dX8_startReading_8 rfl (zRv_ref _) rfl ?_
  refine r_iconst dX8_startReading_9 kc_0 rfl ?_
  refine r_puti 8 1 901 lfX8_15 (by first | (simp only [zKS]; first | assumption | exact TBm.k (by assumption)) | assumption | exact TBm.k (by assumption) | exact zk_nself _ _ _ | (simp [zKS, zNS, *]; done)) rfl rfl rfl (Or.inl rfl) dX8_startReading_10 rfl ?_
  refine r_aload_n dX8_startReading_13 rfl (zRv_ref _) rfl ?_
  refine r_iconst dX8_startReading_14 kc_0 rfl ?_
  refine r_puti 8 3 903 lfX8_22 (by first | (simp only [zKS]; first | assumption | exact TBm.k (by assumption)) | assumption | exact TBm.k (by assumption) | exact zk_nself _ _ _ | (simp [zKS, zNS, *]; done)) rfl rfl rfl (Or.inl rfl) dX8_startReading_15 rfl ?_
  refine r_vret rfl dX8_startReading_18 ?_
  exact ⟨rfl, rfl, rfl⟩
