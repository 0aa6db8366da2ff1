/-! ===== numbers, factors, products, sums ===== -/
theorem pCh_none {c : Nat} {r : List Nat} (h : pCh c r = none) : (pCh c r).isSome = false ∧ (pCh c r).getD r = r := by rw [h]; exact ⟨rfl, rfl⟩
theorem pCh_some {c : Nat} {r r' : List Nat} (h : pCh c r = some r') : (pCh c r).isSome = true ∧ (pCh c r).getD r = r' := by rw [h]; exact ⟨rfl, rfl⟩
/-- a number's unit, and the step kept -/
theorem rn_tail (E : ZE) (sg : ZM) (d : Nat) (hd : 2 ≤ d) (tb tx sp nm : Nat) (w0 w : ZW) (ss : List PStep) (r : List Nat) (f : UInt32) (hu : TBu tb sp nm w0 w) (hm : TBm w tb tx sp nm r ss) (hl : ss.length < 120) (a1 a3 : Option Value) :
    RW E MX8_readNumber 80 [some (.ref tb), a1, some (.float f), a3] [] w sg d 0 0 (PN E (zqS tb tx sp nm w0 sg ss (some ([((pUnit r).1, f)], (pUnit r).2)))) := by
  have g1 := hm.1.1
  unfold pUnit
  cases e1 : pCh 112 r with
  | some r1 =>
    have h1 := pCh_some e1
    refine r_aload_n dX8_readNumber_80 rfl (zRv_ref _) rfl ?_
    refine r_aload_n dX8_readNumber_81 rfl (zRv_ref _) rfl ?_
    refine r_bipush dX8_readNumber_82 kb_112 rfl ?_
    refine r_callV MX8_take 1 [_] lvX8_44 (Or.inl ⟨8, by decide, (by first | (simp only [zKS]; first | assumption | exact TBm.k (by assumption)) | assumption | exact TBm.k (by assumption) | exact zk_nself _ _ _ | (simp [zKS, zNS, *]; done)), rfl⟩) (sp_take E _ sg (d - 1) tb tx sp nm 112 (by decide) _ ss hm) rfl rfl (by first | exact Nat.le_of_ble_eq_true rfl | (simp [zcat_rf, Value.category]; done)) (by omega) (Nat.le_of_eq (Nat.zero_add _)) (Nat.le_of_eq (Nat.zero_add _)) dX8_readNumber_84 rfl (fun v_ w_ sg_ hq_ => ?_)
    obtain ⟨rfl, hu1, rfl, hm1⟩ := hq_
    simp only [h1.1, h1.2] at hm1 ⊢
    refine r_if_eqB (r := 94) dX8_readNumber_87 (by decide) rfl (fun c_87 => ?_) (fun c_87 => ?_)
    · exact absurd c_87 (by decide)
    · refine r_iconst dX8_readNumber_90 kc_1 rfl ?_
      refine r_goto (r := 121) dX8_readNumber_91 (by decide) ?_
      refine r_fload_n dX8_readNumber_121 rfl rfl ?_
      refine r_callV MX8_keep 2 [_, _] lvX8_164 (Or.inl ⟨8, by decide, (by first | (simp only [zKS]; first | assumption | exact TBm.k (by assumption)) | assumption | exact TBm.k (by assumption) | exact zk_nself _ _ _ | (simp [zKS, zNS, *]; done)), rfl⟩) (sp_X8_keep E _ sg (d - 1) tb tx sp nm _ f _ ss hl hm1) rfl rfl (by first | exact Nat.le_of_ble_eq_true rfl | (simp [zcat_rf, Value.category]; done)) (by omega) (Nat.le_of_eq (Nat.zero_add _)) (Nat.le_of_eq (Nat.zero_add _)) dX8_readNumber_122 rfl (fun v_ w_ sg_ hq_ => ?_)
      obtain ⟨rfl, hu9, rfl, hm9⟩ := hq_
      refine r_iconst dX8_readNumber_125 kc_1 rfl ?_
      refine r_zret .boolean rfl rfl dX8_readNumber_126 ?_
      exact ⟨rfl, (hu.tr hu1).tr hu9, rfl, hm9⟩
  | none =>
    have h1 := pCh_none e1
    cases e2 : pCh 101 r with
    | some r1 =>
      have h2 := pCh_some e2
      refine r_aload_n dX8_readNumber_80 rfl (zRv_ref _) rfl ?_
      refine r_aload_n dX8_readNumber_81 rfl (zRv_ref _) rfl ?_
      refine r_bipush dX8_readNumber_82 kb_112 rfl ?_
      refine r_callV MX8_take 1 [_] lvX8_44 (Or.inl ⟨8, by decide, (by first | (simp only [zKS]; first | assumption | exact TBm.k (by assumption)) | assumption | exact TBm.k (by assumption) | exact zk_nself _ _ _ | (simp [zKS, zNS, *]; done)), rfl⟩) (sp_take E _ sg (d - 1) tb tx sp nm 112 (by decide) _ ss hm) rfl rfl (by first | exact Nat.le_of_ble_eq_true rfl | (simp [zcat_rf, Value.category]; done)) (by omega) (Nat.le_of_eq (Nat.zero_add _)) (Nat.le_of_eq (Nat.zero_add _)) dX8_readNumber_84 rfl (fun v_ w_ sg_ hq_ => ?_)
      obtain ⟨rfl, hu1, rfl, hm1⟩ := hq_
      simp only [h1.1, h1.2] at hm1 ⊢
      refine r_if_eqB (r := 94) dX8_readNumber_87 (by decide) rfl (fun c_87 => ?_) (fun c_87 => ?_)
      · refine r_aload_n dX8_readNumber_94 rfl (zRv_ref _) rfl ?_
        refine r_bipush dX8_readNumber_95 kb_101 rfl ?_
        refine r_callV MX8_take 1 [_] lvX8_44 (Or.inl ⟨8, by decide, (by first | (simp only [zKS]; first | assumption | exact TBm.k (by assumption)) | assumption | exact TBm.k (by assumption) | exact zk_nself _ _ _ | (simp [zKS, zNS, *]; done)), rfl⟩) (sp_take E _ sg (d - 1) tb tx sp nm 101 (by decide) _ ss hm1) rfl rfl (by first | exact Nat.le_of_ble_eq_true rfl | (simp [zcat_rf, Value.category]; done)) (by omega) (Nat.le_of_eq (Nat.zero_add _)) (Nat.le_of_eq (Nat.zero_add _)) dX8_readNumber_97 rfl (fun v_ w_ sg_ hq_ => ?_)
        obtain ⟨rfl, hu2, rfl, hm2⟩ := hq_
        simp only [h2.1, h2.2] at hm2 ⊢
        refine r_if_eqB (r := 107) dX8_readNumber_100 (by decide) rfl (fun c_100 => ?_) (fun c_100 => ?_)
        · exact absurd c_100 (by decide)
        · refine r_iconst dX8_readNumber_103 kc_2 rfl ?_
          refine r_goto (r := 121) dX8_readNumber_104 (by decide) ?_
          refine r_fload_n dX8_readNumber_121 rfl rfl ?_
          refine r_callV MX8_keep 2 [_, _] lvX8_164 (Or.inl ⟨8, by decide, (by first | (simp only [zKS]; first | assumption | exact TBm.k (by assumption)) | assumption | exact TBm.k (by assumption) | exact zk_nself _ _ _ | (simp [zKS, zNS, *]; done)), rfl⟩) (sp_X8_keep E _ sg (d - 1) tb tx sp nm _ f _ ss hl hm2) rfl rfl (by first | exact Nat.le_of_ble_eq_true rfl | (simp [zcat_rf, Value.category]; done)) (by omega) (Nat.le_of_eq (Nat.zero_add _)) (Nat.le_of_eq (Nat.zero_add _)) dX8_readNumber_122 rfl (fun v_ w_ sg_ hq_ => ?_)
          obtain ⟨rfl, hu9, rfl, hm9⟩ := hq_
          refine r_iconst dX8_readNumber_125 kc_1 rfl ?_
          refine r_zret .boolean rfl rfl dX8_readNumber_126 ?_
          exact ⟨rfl, ((hu.tr hu1).tr hu2).tr hu9, rfl, hm9⟩
      · exact absurd c_87 (by decide)
    | none =>
      have h2 := pCh_none e2
      cases e3 : pCh 37 r with
      | some r1 =>
        have h3 := pCh_some e3
        refine r_aload_n dX8_readNumber_80 rfl (zRv_ref _) rfl ?_
        refine r_aload_n dX8_readNumber_81 rfl (zRv_ref _) rfl ?_
        refine r_bipush dX8_readNumber_82 kb_112 rfl ?_
        refine r_callV MX8_take 1 [_] lvX8_44 (Or.inl ⟨8, by decide, (by first | (simp only [zKS]; first | assumption | exact TBm.k (by assumption)) | assumption | exact TBm.k (by assumption) | exact zk_nself _ _ _ | (simp [zKS, zNS, *]; done)), rfl⟩) (sp_take E _ sg (d - 1) tb tx sp nm 112 (by decide) _ ss hm) rfl rfl (by first | exact Nat.le_of_ble_eq_true rfl | (simp [zcat_rf, Value.category]; done)) (by omega) (Nat.le_of_eq (Nat.zero_add _)) (Nat.le_of_eq (Nat.zero_add _)) dX8_readNumber_84 rfl (fun v_ w_ sg_ hq_ => ?_)
        obtain ⟨rfl, hu1, rfl, hm1⟩ := hq_
        simp only [h1.1, h1.2] at hm1 ⊢
        refine r_if_eqB (r := 94) dX8_readNumber_87 (by decide) rfl (fun c_87 => ?_) (fun c_87 => ?_)
        · refine r_aload_n dX8_readNumber_94 rfl (zRv_ref _) rfl ?_
          refine r_bipush dX8_readNumber_95 kb_101 rfl ?_
          refine r_callV MX8_take 1 [_] lvX8_44 (Or.inl ⟨8, by decide, (by first | (simp only [zKS]; first | assumption | exact TBm.k (by assumption)) | assumption | exact TBm.k (by assumption) | exact zk_nself _ _ _ | (simp [zKS, zNS, *]; done)), rfl⟩) (sp_take E _ sg (d - 1) tb tx sp nm 101 (by decide) _ ss hm1) rfl rfl (by first | exact Nat.le_of_ble_eq_true rfl | (simp [zcat_rf, Value.category]; done)) (by omega) (Nat.le_of_eq (Nat.zero_add _)) (Nat.le_of_eq (Nat.zero_add _)) dX8_readNumber_97 rfl (fun v_ w_ sg_ hq_ => ?_)
          obtain ⟨rfl, hu2, rfl, hm2⟩ := hq_
          simp only [h2.1, h2.2] at hm2 ⊢
          refine r_if_eqB (r := 107) dX8_readNumber_100 (by decide) rfl (fun c_100 => ?_) (fun c_100 => ?_)
          · refine r_aload_n dX8_readNumber_107 rfl (zRv_ref _) rfl ?_
            refine r_bipush dX8_readNumber_108 kb_37 rfl ?_
            refine r_callV MX8_take 1 [_] lvX8_44 (Or.inl ⟨8, by decide, (by first | (simp only [zKS]; first | assumption | exact TBm.k (by assumption)) | assumption | exact TBm.k (by assumption) | exact zk_nself _ _ _ | (simp [zKS, zNS, *]; done)), rfl⟩) (sp_take E _ sg (d - 1) tb tx sp nm 37 (by decide) _ ss hm2) rfl rfl (by first | exact Nat.le_of_ble_eq_true rfl | (simp [zcat_rf, Value.category]; done)) (by omega) (Nat.le_of_eq (Nat.zero_add _)) (Nat.le_of_eq (Nat.zero_add _)) dX8_readNumber_110 rfl (fun v_ w_ sg_ hq_ => ?_)
            obtain ⟨rfl, hu3, rfl, hm3⟩ := hq_
            simp only [h3.1, h3.2] at hm3 ⊢
            refine r_if_eqB (r := 120) dX8_readNumber_113 (by decide) rfl (fun c_113 => ?_) (fun c_113 => ?_)
            · exact absurd c_113 (by decide)
            · refine r_iconst dX8_readNumber_116 kc_3 rfl ?_
              refine r_goto (r := 121) dX8_readNumber_117 (by decide) ?_
              refine r_fload_n dX8_readNumber_121 rfl rfl ?_
              refine r_callV MX8_keep 2 [_, _] lvX8_164 (Or.inl ⟨8, by decide, (by first | (simp only [zKS]; first | assumption | exact TBm.k (by assumption)) | assumption | exact TBm.k (by assumption) | exact zk_nself _ _ _ | (simp [zKS, zNS, *]; done)), rfl⟩) (sp_X8_keep E _ sg (d - 1) tb tx sp nm _ f _ ss hl hm3) rfl rfl (by first | exact Nat.le_of_ble_eq_true rfl | (simp [zcat_rf, Value.category]; done)) (by omega) (Nat.le_of_eq (Nat.zero_add _)) (Nat.le_of_eq (Nat.zero_add _)) dX8_readNumber_122 rfl (fun v_ w_ sg_ hq_ => ?_)
              obtain ⟨rfl, hu9, rfl, hm9⟩ := hq_
              refine r_iconst dX8_readNumber_125 kc_1 rfl ?_
              refine r_zret .boolean rfl rfl dX8_readNumber_126 ?_
              exact ⟨rfl, (((hu.tr hu1).tr hu2).tr hu3).tr hu9, rfl, hm9⟩
          · exact absurd c_100 (by decide)
        · exact absurd c_87 (by decide)
      | none =>
        have h3 := pCh_none e3
        refine r_aload_n dX8_readNumber_80 rfl (zRv_ref _) rfl ?_
        refine r_aload_n dX8_readNumber_81 rfl (zRv_ref _) rfl ?_
        refine r_bipush dX8_readNumber_82 kb_112 rfl ?_
        refine r_callV MX8_take 1 [_] lvX8_44 (Or.inl ⟨8, by decide, (by first | (simp only [zKS]; first | assumption | exact TBm.k (by assumption)) | assumption | exact TBm.k (by assumption) | exact zk_nself _ _ _ | (simp [zKS, zNS, *]; done)), rfl⟩) (sp_take E _ sg (d - 1) tb tx sp nm 112 (by decide) _ ss hm) rfl rfl (by first | exact Nat.le_of_ble_eq_true rfl | (simp [zcat_rf, Value.category]; done)) (by omega) (Nat.le_of_eq (Nat.zero_add _)) (Nat.le_of_eq (Nat.zero_add _)) dX8_readNumber_84 rfl (fun v_ w_ sg_ hq_ => ?_)
        obtain ⟨rfl, hu1, rfl, hm1⟩ := hq_
        simp only [h1.1, h1.2] at hm1 ⊢
        refine r_if_eqB (r := 94) dX8_readNumber_87 (by decide) rfl (fun c_87 => ?_) (fun c_87 => ?_)
        · refine r_aload_n dX8_readNumber_94 rfl (zRv_ref _) rfl ?_
          refine r_bipush dX8_readNumber_95 kb_101 rfl ?_
          refine r_callV MX8_take 1 [_] lvX8_44 (Or.inl ⟨8, by decide, (by first | (simp only [zKS]; first | assumption | exact TBm.k (by assumption)) | assumption | exact TBm.k (by assumption) | exact zk_nself _ _ _ | (simp [zKS, zNS, *]; done)), rfl⟩) (sp_take E _ sg (d - 1) tb tx sp nm 101 (by decide) _ ss hm1) rfl rfl (by first | exact Nat.le_of_ble_eq_true rfl | (simp [zcat_rf, Value.category]; done)) (by omega) (Nat.le_of_eq (Nat.zero_add _)) (Nat.le_of_eq (Nat.zero_add _)) dX8_readNumber_97 rfl (fun v_ w_ sg_ hq_ => ?_)
          obtain ⟨rfl, hu2, rfl, hm2⟩ := hq_
          simp only [h2.1, h2.2] at hm2 ⊢
          refine r_if_eqB (r := 107) dX8_readNumber_100 (by decide) rfl (fun c_100 => ?_) (fun c_100 => ?_)
          · refine r_aload_n dX8_readNumber_107 rfl (zRv_ref _) rfl ?_
            refine r_bipush dX8_readNumber_108 kb_37 rfl ?_
            refine r_callV MX8_take 1 [_] lvX8_44 (Or.inl ⟨8, by decide, (by first | (simp only [zKS]; first | assumption | exact TBm.k (by assumption)) | assumption | exact TBm.k (by assumption) | exact zk_nself _ _ _ | (simp [zKS, zNS, *]; done)), rfl⟩) (sp_take E _ sg (d - 1) tb tx sp nm 37 (by decide) _ ss hm2) rfl rfl (by first | exact Nat.le_of_ble_eq_true rfl | (simp [zcat_rf, Value.category]; done)) (by omega) (Nat.le_of_eq (Nat.zero_add _)) (Nat.le_of_eq (Nat.zero_add _)) dX8_readNumber_110 rfl (fun v_ w_ sg_ hq_ => ?_)
            obtain ⟨rfl, hu3, rfl, hm3⟩ := hq_
            simp only [h3.1, h3.2] at hm3 ⊢
            refine r_if_eqB (r := 120) dX8_readNumber_113 (by decide) rfl (fun c_113 => ?_) (fun c_113 => ?_)
            · refine r_iconst dX8_readNumber_120 kc_0 rfl ?_
              refine r_fload_n dX8_readNumber_121 rfl rfl ?_
              refine r_callV MX8_keep 2 [_, _] lvX8_164 (Or.inl ⟨8, by decide, (by first | (simp only [zKS]; first | assumption | exact TBm.k (by assumption)) | assumption | exact TBm.k (by assumption) | exact zk_nself _ _ _ | (simp [zKS, zNS, *]; done)), rfl⟩) (sp_X8_keep E _ sg (d - 1) tb tx sp nm _ f _ ss hl hm3) rfl rfl (by first | exact Nat.le_of_ble_eq_true rfl | (simp [zcat_rf, Value.category]; done)) (by omega) (Nat.le_of_eq (Nat.zero_add _)) (Nat.le_of_eq (Nat.zero_add _)) dX8_readNumber_122 rfl (fun v_ w_ sg_ hq_ => ?_)
              obtain ⟨rfl, hu9, rfl, hm9⟩ := hq_
              refine r_iconst dX8_readNumber_125 kc_1 rfl ?_
              refine r_zret .boolean rfl rfl dX8_readNumber_126 ?_
              exact ⟨rfl, (((hu.tr hu1).tr hu2).tr hu3).tr hu9, rfl, hm9⟩
            · exact absurd c_113 (by decide)
          · exact absurd c_100 (by decide)
        · exact absurd c_87 (by decide)
theorem sp_X8_readNumber (E : ZE) (w : ZW) (sg : ZM) (d : Nat) (hd : 3 ≤ d) (tb tx sp nm : Nat) (r : List Nat) (ss : List PStep) (hm : TBm w tb tx sp nm r ss) (hb : ss.length + r.length ≤ 120) : CallQ E MX8_readNumber [.ref tb] w sg d 0 0 (zqS tb tx sp nm w sg ss (pNum r)) := by
  have g1 := hm.1.1
  refine CallQ.of rfl (by simp [Value.category]) (Nat.le_of_ble_eq_true rfl) ?_
  unfold pNum
  cases hx : pDig r with
  | none =>
    refine r_aload_n dX8_readNumber_0 rfl (zRv_ref _) rfl ?_
    refine r_callV MX8_readDigit 0 [] lvX8_116 (Or.inl ⟨8, by decide, (by first | (simp only [zKS]; first | assumption | exact TBm.k (by assumption)) | assumption | exact TBm.k (by assumption) | exact zk_nself _ _ _ | (simp [zKS, zNS, *]; done)), rfl⟩) (sp_X8_readDigit E w sg (d - 1) tb tx sp nm r ss hm) rfl rfl (by first | exact Nat.le_of_ble_eq_true rfl | (simp [zcat_rf, Value.category]; done)) (by omega) (Nat.le_of_eq (Nat.zero_add _)) (Nat.le_of_eq (Nat.zero_add _)) dX8_readNumber_1 rfl (fun v_ w_ sg_ hq_ => ?_)
    obtain ⟨rfl, hu2, rfl, hm2⟩ := hq_
    simp only [dig0, hx] at hm2 ⊢
    refine r_istore_n (ls' := [_, _, _, _]) dX8_readNumber_4 (Nat.le_of_ble_eq_true rfl) rfl rfl ?_
    refine r_iload_n dX8_readNumber_5 rfl rfl ?_
    refine r_iconst dX8_readNumber_6 kc_m1 rfl ?_
    refine r_icmp_ne (r := 12) dX8_readNumber_7 (by decide) rfl (fun c_7 => ?_) (fun c_7 => ?_)
    · exact absurd rfl c_7
    · refine r_iconst dX8_readNumber_10 kc_0 rfl ?_
      refine r_zret .boolean rfl rfl dX8_readNumber_11 ?_
      exact ⟨rfl, hu2, rfl, hm2.x⟩
  | some q =>
    obtain ⟨x, r1⟩ := q
    have lx := pDig_len hx
    dsimp only
    refine r_aload_n dX8_readNumber_0 rfl (zRv_ref _) rfl ?_
    refine r_callV MX8_readDigit 0 [] lvX8_116 (Or.inl ⟨8, by decide, (by first | (simp only [zKS]; first | assumption | exact TBm.k (by assumption)) | assumption | exact TBm.k (by assumption) | exact zk_nself _ _ _ | (simp [zKS, zNS, *]; done)), rfl⟩) (sp_X8_readDigit E w sg (d - 1) tb tx sp nm r ss hm) rfl rfl (by first | exact Nat.le_of_ble_eq_true rfl | (simp [zcat_rf, Value.category]; done)) (by omega) (Nat.le_of_eq (Nat.zero_add _)) (Nat.le_of_eq (Nat.zero_add _)) dX8_readNumber_1 rfl (fun v_ w_ sg_ hq_ => ?_)
    obtain ⟨rfl, hu2, rfl, hm2⟩ := hq_
    simp only [dig0, hx] at hm2 ⊢
    refine r_istore_n (ls' := [_, _, _, _]) dX8_readNumber_4 (Nat.le_of_ble_eq_true rfl) rfl rfl ?_
    refine r_iload_n dX8_readNumber_5 rfl rfl ?_
    refine r_iconst dX8_readNumber_6 kc_m1 rfl ?_
    refine r_icmp_ne (r := 12) dX8_readNumber_7 (by decide) rfl (fun c_7 => ?_) (fun c_7 => ?_)
    · refine r_iconst dX8_readNumber_12 kc_1 rfl ?_
      refine r_istore_n (ls' := [_, _, _, _]) dX8_readNumber_13 (Nat.le_of_ble_eq_true rfl) rfl rfl ?_
      refine rn_loop E sg (d) (by omega) tb tx sp nm w ss _ 2 x r1 _ (by omega) (by omega) (by omega) (by omega) hu2 hm2 ?_
      intro n9 w3 hu3 hm3 hv3
      generalize pDigs 2 x r1 = q2 at *
      obtain ⟨v, r2⟩ := q2
      dsimp only at *
      cases e4 : pCh 46 r2 with
      | none =>
      have h4 := pCh_none e4
      refine r_iload_n dX8_readNumber_45 rfl rfl ?_
      refine r_i2f dX8_readNumber_46 rfl ?_
      refine r_fstore_n (ls' := [_, _, _, _]) dX8_readNumber_47 (Nat.le_of_ble_eq_true rfl) rfl rfl ?_
      refine r_aload_n dX8_readNumber_48 rfl (zRv_ref _) rfl ?_
      refine r_bipush dX8_readNumber_49 kb_46 rfl ?_
      refine r_callV MX8_take 1 [_] lvX8_44 (Or.inl ⟨8, by decide, (by first | (simp only [zKS]; first | assumption | exact TBm.k (by assumption)) | assumption | exact TBm.k (by assumption) | exact zk_nself _ _ _ | (simp [zKS, zNS, *]; done)), rfl⟩) (sp_take E w3 sg (d - 1) tb tx sp nm 46 (by decide) r2 ss hm3) rfl rfl (by first | exact Nat.le_of_ble_eq_true rfl | (simp [zcat_rf, Value.category]; done)) (by omega) (Nat.le_of_eq (Nat.zero_add _)) (Nat.le_of_eq (Nat.zero_add _)) dX8_readNumber_51 rfl (fun v_ w_ sg_ hq_ => ?_)
      obtain ⟨rfl, hu4, rfl, hm4⟩ := hq_
      simp only [h4.1, h4.2] at hm4 ⊢
      refine r_if_eqB (r := 80) dX8_readNumber_54 (by decide) rfl (fun c_54 => ?_) (fun c_54 => ?_)
      · exact rn_tail E sg d (by omega) tb tx sp nm w _ ss r2 _ (hu3.tr hu4) hm4 (by omega) _ _
      · exact absurd c_54 (by decide)
      | some r3 =>
      have h4 := pCh_some e4
      cases hy : pDig r3 with
      | none =>
        refine r_iload_n dX8_readNumber_45 rfl rfl ?_
        refine r_i2f dX8_readNumber_46 rfl ?_
        refine r_fstore_n (ls' := [_, _, _, _]) dX8_readNumber_47 (Nat.le_of_ble_eq_true rfl) rfl rfl ?_
        refine r_aload_n dX8_readNumber_48 rfl (zRv_ref _) rfl ?_
        refine r_bipush dX8_readNumber_49 kb_46 rfl ?_
        refine r_callV MX8_take 1 [_] lvX8_44 (Or.inl ⟨8, by decide, (by first | (simp only [zKS]; first | assumption | exact TBm.k (by assumption)) | assumption | exact TBm.k (by assumption) | exact zk_nself _ _ _ | (simp [zKS, zNS, *]; done)), rfl⟩) (sp_take E w3 sg (d - 1) tb tx sp nm 46 (by decide) r2 ss hm3) rfl rfl (by first | exact Nat.le_of_ble_eq_true rfl | (simp [zcat_rf, Value.category]; done)) (by omega) (Nat.le_of_eq (Nat.zero_add _)) (Nat.le_of_eq (Nat.zero_add _)) dX8_readNumber_51 rfl (fun v_ w_ sg_ hq_ => ?_)
        obtain ⟨rfl, hu4, rfl, hm4⟩ := hq_
        simp only [h4.1, h4.2] at hm4 ⊢
        refine r_if_eqB (r := 80) dX8_readNumber_54 (by decide) rfl (fun c_54 => ?_) (fun c_54 => ?_)
        · exact absurd c_54 (by decide)
        · refine r_aload_n dX8_readNumber_57 rfl (zRv_ref _) rfl ?_
          refine r_callV MX8_readDigit 0 [] lvX8_116 (Or.inl ⟨8, by decide, (by first | (simp only [zKS]; first | assumption | exact TBm.k (by assumption)) | assumption | exact TBm.k (by assumption) | exact zk_nself _ _ _ | (simp [zKS, zNS, *]; done)), rfl⟩) (sp_X8_readDigit E _ sg (d - 1) tb tx sp nm r3 ss hm4) rfl rfl (by first | exact Nat.le_of_ble_eq_true rfl | (simp [zcat_rf, Value.category]; done)) (by omega) (Nat.le_of_eq (Nat.zero_add _)) (Nat.le_of_eq (Nat.zero_add _)) dX8_readNumber_58 rfl (fun v_ w_ sg_ hq_ => ?_)
          obtain ⟨rfl, hu5, rfl, hm5⟩ := hq_
          simp only [dig0, hy] at hm5 ⊢
          refine r_istore_n (ls' := [_, _, _, _]) dX8_readNumber_61 (Nat.le_of_ble_eq_true rfl) rfl rfl ?_
          refine r_iload_n dX8_readNumber_62 rfl rfl ?_
          refine r_iconst dX8_readNumber_63 kc_m1 rfl ?_
          refine r_icmp_ne (r := 69) dX8_readNumber_64 (by decide) rfl (fun c_64 => ?_) (fun c_64 => ?_)
          · exact absurd rfl c_64
          · refine r_iconst dX8_readNumber_67 kc_0 rfl ?_
            refine r_zret .boolean rfl rfl dX8_readNumber_68 ?_
            exact ⟨rfl, (hu3.tr hu4).tr hu5, rfl, hm5.x⟩
      | some q3 =>
        obtain ⟨y, r4⟩ := q3
        have ly := pDig_len hy
        dsimp only
        refine r_iload_n dX8_readNumber_45 rfl rfl ?_
        refine r_i2f dX8_readNumber_46 rfl ?_
        refine r_fstore_n (ls' := [_, _, _, _]) dX8_readNumber_47 (Nat.le_of_ble_eq_true rfl) rfl rfl ?_
        refine r_aload_n dX8_readNumber_48 rfl (zRv_ref _) rfl ?_
        refine r_bipush dX8_readNumber_49 kb_46 rfl ?_
        refine r_callV MX8_take 1 [_] lvX8_44 (Or.inl ⟨8, by decide, (by first | (simp only [zKS]; first | assumption | exact TBm.k (by assumption)) | assumption | exact TBm.k (by assumption) | exact zk_nself _ _ _ | (simp [zKS, zNS, *]; done)), rfl⟩) (sp_take E w3 sg (d - 1) tb tx sp nm 46 (by decide) r2 ss hm3) rfl rfl (by first | exact Nat.le_of_ble_eq_true rfl | (simp [zcat_rf, Value.category]; done)) (by omega) (Nat.le_of_eq (Nat.zero_add _)) (Nat.le_of_eq (Nat.zero_add _)) dX8_readNumber_51 rfl (fun v_ w_ sg_ hq_ => ?_)
        obtain ⟨rfl, hu4, rfl, hm4⟩ := hq_
        simp only [h4.1, h4.2] at hm4 ⊢
        refine r_if_eqB (r := 80) dX8_readNumber_54 (by decide) rfl (fun c_54 => ?_) (fun c_54 => ?_)
        · exact absurd c_54 (by decide)
        · refine r_aload_n dX8_readNumber_57 rfl (zRv_ref _) rfl ?_
          refine r_callV MX8_readDigit 0 [] lvX8_116 (Or.inl ⟨8, by decide, (by first | (simp only [zKS]; first | assumption | exact TBm.k (by assumption)) | assumption | exact TBm.k (by assumption) | exact zk_nself _ _ _ | (simp [zKS, zNS, *]; done)), rfl⟩) (sp_X8_readDigit E _ sg (d - 1) tb tx sp nm r3 ss hm4) rfl rfl (by first | exact Nat.le_of_ble_eq_true rfl | (simp [zcat_rf, Value.category]; done)) (by omega) (Nat.le_of_eq (Nat.zero_add _)) (Nat.le_of_eq (Nat.zero_add _)) dX8_readNumber_58 rfl (fun v_ w_ sg_ hq_ => ?_)
          obtain ⟨rfl, hu5, rfl, hm5⟩ := hq_
          simp only [dig0, hy] at hm5 ⊢
          refine r_istore_n (ls' := [_, _, _, _]) dX8_readNumber_61 (Nat.le_of_ble_eq_true rfl) rfl rfl ?_
          refine r_iload_n dX8_readNumber_62 rfl rfl ?_
          refine r_iconst dX8_readNumber_63 kc_m1 rfl ?_
          refine r_icmp_ne (r := 69) dX8_readNumber_64 (by decide) rfl (fun c_64 => ?_) (fun c_64 => ?_)
          · refine r_bipush dX8_readNumber_69 kb_10 rfl ?_
            refine r_iload_n dX8_readNumber_71 rfl rfl ?_
            refine r_imulN dX8_readNumber_72 rfl ?_
            refine r_iload_n dX8_readNumber_73 rfl rfl ?_
            refine r_iaddN dX8_readNumber_74 rfl ?_
            refine r_i2f dX8_readNumber_75 rfl ?_
            refine r_ldcf dX8_readNumber_76 tw_661 rfl ?_
            have hnn := znn_num (10 * v + y) (by omega)
            refine r_fdiv dX8_readNumber_78 (by first | assumption | fail) rfl ?_
            refine r_fstore_n (ls' := [_, _, _, _]) dX8_readNumber_79 (Nat.le_of_ble_eq_true rfl) rfl rfl ?_
            exact rn_tail E sg d (by omega) tb tx sp nm w _ ss r4 _ ((hu3.tr hu4).tr hu5) hm5 (by omega) _ _
          · exact absurd c_64 (nI_m1 (by omega))
    · exact absurd c_7 (nI_m1 (by omega))
