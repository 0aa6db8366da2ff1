theorem pFac_dep (k : Nat) (hk : k < 7) : 7 - (k + 1) + 1 = 7 - k := by omega
/-- a factor, by its levels -/
theorem sp_X8_readFactor (E : ZE) (sg : ZM) (tb tx sp nm : Nat) : ∀ k, k ≤ 7 → CFac E sg tb tx sp nm k
  | 0, _ => by
    intro d w r ss hd hm hb
    refine CallQ.of rfl (by simp [Value.category]) (Nat.le_of_ble_eq_true rfl) ?_
    refine r_iload_n dX8_readFactor_0 rfl rfl ?_
    refine r_bipush dX8_readFactor_1 kb_6 rfl ?_
    refine r_icmp_leN (by omega) (by omega) (r := 8) dX8_readFactor_3 (by decide) rfl (fun c_3 => ?_) (fun c_3 => ?_)
    · exact absurd c_3 (by omega)
    · refine r_iconst dX8_readFactor_6 kc_0 rfl ?_
      refine r_zret .boolean rfl rfl dX8_readFactor_7 ?_
      exact ⟨rfl, TBu.rf, rfl, hm.x⟩
  | k + 1, hk => by
    have hF := sp_X8_readFactor E sg tb tx sp nm k (by omega)
    intro d w r ss hd hm hb
    refine CallQ.of rfl (by simp [Value.category]) (Nat.le_of_ble_eq_true rfl) ?_
    unfold pFac
    have hdep := pFac_dep k (by omega)
    cases e1 : pCh 45 r with
    | some r1 =>
      have h1 := pCh_some e1
      have l1 := pCh_len e1
      dsimp only
      cases e3 : pFac k r1 with
      | none =>
        refine r_iload_n dX8_readFactor_0 rfl rfl ?_
        refine r_bipush dX8_readFactor_1 kb_6 rfl ?_
        refine r_icmp_leN (by omega) (by omega) (r := 8) dX8_readFactor_3 (by decide) rfl (fun c_3 => ?_) (fun c_3 => ?_)
        · refine r_aload_n dX8_readFactor_8 rfl (zRv_ref _) rfl ?_
          refine r_bipush dX8_readFactor_9 kb_45 rfl ?_
          refine r_callV MX8_take 1 [_] lvX8_44 (Or.inl ⟨8, by decide, (by first | (simp only [zKS]; first | assumption | exact TBm.k (by assumption)) | assumption | exact TBm.k (by assumption) | exact zk_nself _ _ _ | (simp [zKS, zNS, *]; done)), rfl⟩) (sp_take E _ sg (d - 1) tb tx sp nm 45 (by decide) r _ hm) rfl rfl (by first | exact Nat.le_of_ble_eq_true rfl | (simp [zcat_rf, Value.category]; done)) (by omega) (Nat.le_of_eq (Nat.zero_add _)) (Nat.le_of_eq (Nat.zero_add _)) dX8_readFactor_11 rfl (fun v_ w_ sg_ hq_ => ?_)
          obtain ⟨rfl, hu1, rfl, hm1⟩ := hq_
          simp only [h1.1, h1.2] at hm1 ⊢
          refine r_if_eqB (r := 37) dX8_readFactor_14 (by decide) rfl (fun c_14 => ?_) (fun c_14 => ?_)
          · exact absurd c_14 (by decide)
          · refine r_aload_n dX8_readFactor_17 rfl (zRv_ref _) rfl ?_
            refine r_iload_n dX8_readFactor_18 rfl rfl ?_
            refine r_iconst dX8_readFactor_19 kc_1 rfl ?_
            refine r_iaddN dX8_readFactor_20 rfl ?_
            rw [hdep]
            refine r_callV MX8_readFactor 1 [_] lvX8_168 (Or.inl ⟨8, by decide, (by first | (simp only [zKS]; first | assumption | exact TBm.k (by assumption)) | assumption | exact TBm.k (by assumption) | exact zk_nself _ _ _ | (simp [zKS, zNS, *]; done)), rfl⟩) (hF (d - 1) _ r1 _ (by omega) hm1 (by omega)) rfl rfl (by first | exact Nat.le_of_ble_eq_true rfl | (simp [zcat_rf, Value.category]; done)) (by omega) (Nat.le_of_eq (Nat.zero_add _)) (Nat.le_of_eq (Nat.zero_add _)) dX8_readFactor_21 rfl (fun v_ w_ sg_ hq_ => ?_)
            obtain ⟨rfl, hu2, rfl, hm2⟩ := zqS_none hq_ e3
            refine r_if_neB (r := 29) dX8_readFactor_24 (by decide) rfl (fun c_24 => ?_) (fun c_24 => ?_)
            · exact absurd c_24 (by decide)
            · refine r_iconst dX8_readFactor_27 kc_0 rfl ?_
              refine r_zret .boolean rfl rfl dX8_readFactor_28 ?_
              exact ⟨rfl, hu1.tr hu2, rfl, hm2⟩
        · exact absurd c_3 (by omega)
      | some q =>
        obtain ⟨s2, r2⟩ := q
        have l2 := pFac_thin k _ _ _ e3
        dsimp only
        refine r_iload_n dX8_readFactor_0 rfl rfl ?_
        refine r_bipush dX8_readFactor_1 kb_6 rfl ?_
        refine r_icmp_leN (by omega) (by omega) (r := 8) dX8_readFactor_3 (by decide) rfl (fun c_3 => ?_) (fun c_3 => ?_)
        · refine r_aload_n dX8_readFactor_8 rfl (zRv_ref _) rfl ?_
          refine r_bipush dX8_readFactor_9 kb_45 rfl ?_
          refine r_callV MX8_take 1 [_] lvX8_44 (Or.inl ⟨8, by decide, (by first | (simp only [zKS]; first | assumption | exact TBm.k (by assumption)) | assumption | exact TBm.k (by assumption) | exact zk_nself _ _ _ | (simp [zKS, zNS, *]; done)), rfl⟩) (sp_take E _ sg (d - 1) tb tx sp nm 45 (by decide) r _ hm) rfl rfl (by first | exact Nat.le_of_ble_eq_true rfl | (simp [zcat_rf, Value.category]; done)) (by omega) (Nat.le_of_eq (Nat.zero_add _)) (Nat.le_of_eq (Nat.zero_add _)) dX8_readFactor_11 rfl (fun v_ w_ sg_ hq_ => ?_)
          obtain ⟨rfl, hu1, rfl, hm1⟩ := hq_
          simp only [h1.1, h1.2] at hm1 ⊢
          refine r_if_eqB (r := 37) dX8_readFactor_14 (by decide) rfl (fun c_14 => ?_) (fun c_14 => ?_)
          · exact absurd c_14 (by decide)
          · refine r_aload_n dX8_readFactor_17 rfl (zRv_ref _) rfl ?_
            refine r_iload_n dX8_readFactor_18 rfl rfl ?_
            refine r_iconst dX8_readFactor_19 kc_1 rfl ?_
            refine r_iaddN dX8_readFactor_20 rfl ?_
            rw [hdep]
            refine r_callV MX8_readFactor 1 [_] lvX8_168 (Or.inl ⟨8, by decide, (by first | (simp only [zKS]; first | assumption | exact TBm.k (by assumption)) | assumption | exact TBm.k (by assumption) | exact zk_nself _ _ _ | (simp [zKS, zNS, *]; done)), rfl⟩) (hF (d - 1) _ r1 _ (by omega) hm1 (by omega)) rfl rfl (by first | exact Nat.le_of_ble_eq_true rfl | (simp [zcat_rf, Value.category]; done)) (by omega) (Nat.le_of_eq (Nat.zero_add _)) (Nat.le_of_eq (Nat.zero_add _)) dX8_readFactor_21 rfl (fun v_ w_ sg_ hq_ => ?_)
            obtain ⟨rfl, hu2, rfl, hm2⟩ := zqS_some hq_ e3
            refine r_if_neB (r := 29) dX8_readFactor_24 (by decide) rfl (fun c_24 => ?_) (fun c_24 => ?_)
            · refine r_aload_n dX8_readFactor_29 rfl (zRv_ref _) rfl ?_
              refine r_iconst dX8_readFactor_30 kc_4 rfl ?_
              refine r_fconst0 dX8_readFactor_31 rfl ?_
              refine r_callV MX8_keep 2 [_, _] lvX8_164 (Or.inl ⟨8, by decide, (by first | (simp only [zKS]; first | assumption | exact TBm.k (by assumption)) | assumption | exact TBm.k (by assumption) | exact zk_nself _ _ _ | (simp [zKS, zNS, *]; done)), rfl⟩) (sp_X8_keep E _ sg (d - 1) tb tx sp nm 4 FP.fconst0 r2 _ (by simp at *; omega) hm2) rfl rfl (by first | exact Nat.le_of_ble_eq_true rfl | (simp [zcat_rf, Value.category]; done)) (by omega) (Nat.le_of_eq (Nat.zero_add _)) (Nat.le_of_eq (Nat.zero_add _)) dX8_readFactor_32 rfl (fun v_ w_ sg_ hq_ => ?_)
              obtain ⟨rfl, hu3, rfl, hm3⟩ := hq_
              refine r_iconst dX8_readFactor_35 kc_1 rfl ?_
              refine r_zret .boolean rfl rfl dX8_readFactor_36 ?_
              refine ⟨rfl, (hu1.tr hu2).tr hu3, rfl, ?_⟩
              simpa [show FP.fconst0 = 0 from rfl] using hm3
            · exact absurd c_24 (by decide)
        · exact absurd c_3 (by omega)
    | none =>
      have h1 := pCh_none e1
      dsimp only
      cases e2 : pCh 40 r with
      | some r1 =>
        have h2 := pCh_some e2
        have l1 := pCh_len e2
        dsimp only
        cases e3 : pSum (pFac k) r1 with
        | none =>
          refine r_iload_n dX8_readFactor_0 rfl rfl ?_
          refine r_bipush dX8_readFactor_1 kb_6 rfl ?_
          refine r_icmp_leN (by omega) (by omega) (r := 8) dX8_readFactor_3 (by decide) rfl (fun c_3 => ?_) (fun c_3 => ?_)
          · refine r_aload_n dX8_readFactor_8 rfl (zRv_ref _) rfl ?_
            refine r_bipush dX8_readFactor_9 kb_45 rfl ?_
            refine r_callV MX8_take 1 [_] lvX8_44 (Or.inl ⟨8, by decide, (by first | (simp only [zKS]; first | assumption | exact TBm.k (by assumption)) | assumption | exact TBm.k (by assumption) | exact zk_nself _ _ _ | (simp [zKS, zNS, *]; done)), rfl⟩) (sp_take E _ sg (d - 1) tb tx sp nm 45 (by decide) r _ hm) rfl rfl (by first | exact Nat.le_of_ble_eq_true rfl | (simp [zcat_rf, Value.category]; done)) (by omega) (Nat.le_of_eq (Nat.zero_add _)) (Nat.le_of_eq (Nat.zero_add _)) dX8_readFactor_11 rfl (fun v_ w_ sg_ hq_ => ?_)
            obtain ⟨rfl, hu1, rfl, hm1⟩ := hq_
            simp only [h1.1, h1.2] at hm1 ⊢
            refine r_if_eqB (r := 37) dX8_readFactor_14 (by decide) rfl (fun c_14 => ?_) (fun c_14 => ?_)
            · refine r_aload_n dX8_readFactor_37 rfl (zRv_ref _) rfl ?_
              refine r_bipush dX8_readFactor_38 kb_40 rfl ?_
              refine r_callV MX8_take 1 [_] lvX8_44 (Or.inl ⟨8, by decide, (by first | (simp only [zKS]; first | assumption | exact TBm.k (by assumption)) | assumption | exact TBm.k (by assumption) | exact zk_nself _ _ _ | (simp [zKS, zNS, *]; done)), rfl⟩) (sp_take E _ sg (d - 1) tb tx sp nm 40 (by decide) r _ hm1) rfl rfl (by first | exact Nat.le_of_ble_eq_true rfl | (simp [zcat_rf, Value.category]; done)) (by omega) (Nat.le_of_eq (Nat.zero_add _)) (Nat.le_of_eq (Nat.zero_add _)) dX8_readFactor_40 rfl (fun v_ w_ sg_ hq_ => ?_)
              obtain ⟨rfl, hu4, rfl, hm4⟩ := hq_
              simp only [h2.1, h2.2] at hm4 ⊢
              refine r_if_eqB (r := 71) dX8_readFactor_43 (by decide) rfl (fun c_43 => ?_) (fun c_43 => ?_)
              · exact absurd c_43 (by decide)
              · refine r_aload_n dX8_readFactor_46 rfl (zRv_ref _) rfl ?_
                refine r_iload_n dX8_readFactor_47 rfl rfl ?_
                refine r_iconst dX8_readFactor_48 kc_1 rfl ?_
                refine r_iaddN dX8_readFactor_49 rfl ?_
                rw [hdep]
                refine r_callV MX8_readSum 1 [_] lvX8_143 (Or.inl ⟨8, by decide, (by first | (simp only [zKS]; first | assumption | exact TBm.k (by assumption)) | assumption | exact TBm.k (by assumption) | exact zk_nself _ _ _ | (simp [zKS, zNS, *]; done)), rfl⟩) (sp_X8_readSum E sg tb tx sp nm k hF (d - 1) _ r1 _ (by omega) hm4 (by omega)) rfl rfl (by first | exact Nat.le_of_ble_eq_true rfl | (simp [zcat_rf, Value.category]; done)) (by omega) (Nat.le_of_eq (Nat.zero_add _)) (Nat.le_of_eq (Nat.zero_add _)) dX8_readFactor_50 rfl (fun v_ w_ sg_ hq_ => ?_)
                obtain ⟨rfl, hu2, rfl, hm2⟩ := zqS_none hq_ e3
                refine r_if_eqB (r := 69) dX8_readFactor_53 (by decide) rfl (fun c_53 => ?_) (fun c_53 => ?_)
                · refine r_iconst dX8_readFactor_69 kc_0 rfl ?_
                  refine r_zret .boolean rfl rfl dX8_readFactor_70 ?_
                  exact ⟨rfl, (hu1.tr hu4).tr hu2, rfl, hm2⟩
                · exact absurd c_53 (by decide)
            · exact absurd c_14 (by decide)
          · exact absurd c_3 (by omega)
        | some q =>
          obtain ⟨s2, r2⟩ := q
          have l2 := pSum_thin (pFac_thin k) _ _ _ e3
          dsimp only
          cases e4 : pCh 41 r2 with
          | none =>
            have h4 := pCh_none e4
            refine r_iload_n dX8_readFactor_0 rfl rfl ?_
            refine r_bipush dX8_readFactor_1 kb_6 rfl ?_
            refine r_icmp_leN (by omega) (by omega) (r := 8) dX8_readFactor_3 (by decide) rfl (fun c_3 => ?_) (fun c_3 => ?_)
            · refine r_aload_n dX8_readFactor_8 rfl (zRv_ref _) rfl ?_
              refine r_bipush dX8_readFactor_9 kb_45 rfl ?_
              refine r_callV MX8_take 1 [_] lvX8_44 (Or.inl ⟨8, by decide, (by first | (simp only [zKS]; first | assumption | exact TBm.k (by assumption)) | assumption | exact TBm.k (by assumption) | exact zk_nself _ _ _ | (simp [zKS, zNS, *]; done)), rfl⟩) (sp_take E _ sg (d - 1) tb tx sp nm 45 (by decide) r _ hm) rfl rfl (by first | exact Nat.le_of_ble_eq_true rfl | (simp [zcat_rf, Value.category]; done)) (by omega) (Nat.le_of_eq (Nat.zero_add _)) (Nat.le_of_eq (Nat.zero_add _)) dX8_readFactor_11 rfl (fun v_ w_ sg_ hq_ => ?_)
              obtain ⟨rfl, hu1, rfl, hm1⟩ := hq_
              simp only [h1.1, h1.2] at hm1 ⊢
              refine r_if_eqB (r := 37) dX8_readFactor_14 (by decide) rfl (fun c_14 => ?_) (fun c_14 => ?_)
              · refine r_aload_n dX8_readFactor_37 rfl (zRv_ref _) rfl ?_
                refine r_bipush dX8_readFactor_38 kb_40 rfl ?_
                refine r_callV MX8_take 1 [_] lvX8_44 (Or.inl ⟨8, by decide, (by first | (simp only [zKS]; first | assumption | exact TBm.k (by assumption)) | assumption | exact TBm.k (by assumption) | exact zk_nself _ _ _ | (simp [zKS, zNS, *]; done)), rfl⟩) (sp_take E _ sg (d - 1) tb tx sp nm 40 (by decide) r _ hm1) rfl rfl (by first | exact Nat.le_of_ble_eq_true rfl | (simp [zcat_rf, Value.category]; done)) (by omega) (Nat.le_of_eq (Nat.zero_add _)) (Nat.le_of_eq (Nat.zero_add _)) dX8_readFactor_40 rfl (fun v_ w_ sg_ hq_ => ?_)
                obtain ⟨rfl, hu4, rfl, hm4⟩ := hq_
                simp only [h2.1, h2.2] at hm4 ⊢
                refine r_if_eqB (r := 71) dX8_readFactor_43 (by decide) rfl (fun c_43 => ?_) (fun c_43 => ?_)
                · exact absurd c_43 (by decide)
                · refine r_aload_n dX8_readFactor_46 rfl (zRv_ref _) rfl ?_
                  refine r_iload_n dX8_readFactor_47 rfl rfl ?_
                  refine r_iconst dX8_readFactor_48 kc_1 rfl ?_
                  refine r_iaddN dX8_readFactor_49 rfl ?_
                  rw [hdep]
                  refine r_callV MX8_readSum 1 [_] lvX8_143 (Or.inl ⟨8, by decide, (by first | (simp only [zKS]; first | assumption | exact TBm.k (by assumption)) | assumption | exact TBm.k (by assumption) | exact zk_nself _ _ _ | (simp [zKS, zNS, *]; done)), rfl⟩) (sp_X8_readSum E sg tb tx sp nm k hF (d - 1) _ r1 _ (by omega) hm4 (by omega)) rfl rfl (by first | exact Nat.le_of_ble_eq_true rfl | (simp [zcat_rf, Value.category]; done)) (by omega) (Nat.le_of_eq (Nat.zero_add _)) (Nat.le_of_eq (Nat.zero_add _)) dX8_readFactor_50 rfl (fun v_ w_ sg_ hq_ => ?_)
                  obtain ⟨rfl, hu2, rfl, hm2⟩ := zqS_some hq_ e3
                  refine r_if_eqB (r := 69) dX8_readFactor_53 (by decide) rfl (fun c_53 => ?_) (fun c_53 => ?_)
                  · exact absurd c_53 (by decide)
                  · refine r_aload_n dX8_readFactor_56 rfl (zRv_ref _) rfl ?_
                    refine r_bipush dX8_readFactor_57 kb_41 rfl ?_
                    refine r_callV MX8_take 1 [_] lvX8_44 (Or.inl ⟨8, by decide, (by first | (simp only [zKS]; first | assumption | exact TBm.k (by assumption)) | assumption | exact TBm.k (by assumption) | exact zk_nself _ _ _ | (simp [zKS, zNS, *]; done)), rfl⟩) (sp_take E _ sg (d - 1) tb tx sp nm 41 (by decide) r2 _ hm2) rfl rfl (by first | exact Nat.le_of_ble_eq_true rfl | (simp [zcat_rf, Value.category]; done)) (by omega) (Nat.le_of_eq (Nat.zero_add _)) (Nat.le_of_eq (Nat.zero_add _)) dX8_readFactor_59 rfl (fun v_ w_ sg_ hq_ => ?_)
                    obtain ⟨rfl, hu3, rfl, hm3⟩ := hq_
                    simp only [h4.1, h4.2] at hm3 ⊢
                    refine r_if_eqB (r := 69) dX8_readFactor_62 (by decide) rfl (fun c_62 => ?_) (fun c_62 => ?_)
                    · refine r_iconst dX8_readFactor_69 kc_0 rfl ?_
                      refine r_zret .boolean rfl rfl dX8_readFactor_70 ?_
                      exact ⟨rfl, ((hu1.tr hu4).tr hu2).tr hu3, rfl, hm3.x⟩
                    · exact absurd c_62 (by decide)
              · exact absurd c_14 (by decide)
            · exact absurd c_3 (by omega)
          | some r3 =>
            have h4 := pCh_some e4
            refine r_iload_n dX8_readFactor_0 rfl rfl ?_
            refine r_bipush dX8_readFactor_1 kb_6 rfl ?_
            refine r_icmp_leN (by omega) (by omega) (r := 8) dX8_readFactor_3 (by decide) rfl (fun c_3 => ?_) (fun c_3 => ?_)
            · refine r_aload_n dX8_readFactor_8 rfl (zRv_ref _) rfl ?_
              refine r_bipush dX8_readFactor_9 kb_45 rfl ?_
              refine r_callV MX8_take 1 [_] lvX8_44 (Or.inl ⟨8, by decide, (by first | (simp only [zKS]; first | assumption | exact TBm.k (by assumption)) | assumption | exact TBm.k (by assumption) | exact zk_nself _ _ _ | (simp [zKS, zNS, *]; done)), rfl⟩) (sp_take E _ sg (d - 1) tb tx sp nm 45 (by decide) r _ hm) rfl rfl (by first | exact Nat.le_of_ble_eq_true rfl | (simp [zcat_rf, Value.category]; done)) (by omega) (Nat.le_of_eq (Nat.zero_add _)) (Nat.le_of_eq (Nat.zero_add _)) dX8_readFactor_11 rfl (fun v_ w_ sg_ hq_ => ?_)
              obtain ⟨rfl, hu1, rfl, hm1⟩ := hq_
              simp only [h1.1, h1.2] at hm1 ⊢
              refine r_if_eqB (r := 37) dX8_readFactor_14 (by decide) rfl (fun c_14 => ?_) (fun c_14 => ?_)
              · refine r_aload_n dX8_readFactor_37 rfl (zRv_ref _) rfl ?_
                refine r_bipush dX8_readFactor_38 kb_40 rfl ?_
                refine r_callV MX8_take 1 [_] lvX8_44 (Or.inl ⟨8, by decide, (by first | (simp only [zKS]; first | assumption | exact TBm.k (by assumption)) | assumption | exact TBm.k (by assumption) | exact zk_nself _ _ _ | (simp [zKS, zNS, *]; done)), rfl⟩) (sp_take E _ sg (d - 1) tb tx sp nm 40 (by decide) r _ hm1) rfl rfl (by first | exact Nat.le_of_ble_eq_true rfl | (simp [zcat_rf, Value.category]; done)) (by omega) (Nat.le_of_eq (Nat.zero_add _)) (Nat.le_of_eq (Nat.zero_add _)) dX8_readFactor_40 rfl (fun v_ w_ sg_ hq_ => ?_)
                obtain ⟨rfl, hu4, rfl, hm4⟩ := hq_
                simp only [h2.1, h2.2] at hm4 ⊢
                refine r_if_eqB (r := 71) dX8_readFactor_43 (by decide) rfl (fun c_43 => ?_) (fun c_43 => ?_)
                · exact absurd c_43 (by decide)
                · refine r_aload_n dX8_readFactor_46 rfl (zRv_ref _) rfl ?_
                  refine r_iload_n dX8_readFactor_47 rfl rfl ?_
                  refine r_iconst dX8_readFactor_48 kc_1 rfl ?_
                  refine r_iaddN dX8_readFactor_49 rfl ?_
                  rw [hdep]
                  refine r_callV MX8_readSum 1 [_] lvX8_143 (Or.inl ⟨8, by decide, (by first | (simp only [zKS]; first | assumption | exact TBm.k (by assumption)) | assumption | exact TBm.k (by assumption) | exact zk_nself _ _ _ | (simp [zKS, zNS, *]; done)), rfl⟩) (sp_X8_readSum E sg tb tx sp nm k hF (d - 1) _ r1 _ (by omega) hm4 (by omega)) rfl rfl (by first | exact Nat.le_of_ble_eq_true rfl | (simp [zcat_rf, Value.category]; done)) (by omega) (Nat.le_of_eq (Nat.zero_add _)) (Nat.le_of_eq (Nat.zero_add _)) dX8_readFactor_50 rfl (fun v_ w_ sg_ hq_ => ?_)
                  obtain ⟨rfl, hu2, rfl, hm2⟩ := zqS_some hq_ e3
                  refine r_if_eqB (r := 69) dX8_readFactor_53 (by decide) rfl (fun c_53 => ?_) (fun c_53 => ?_)
                  · exact absurd c_53 (by decide)
                  · refine r_aload_n dX8_readFactor_56 rfl (zRv_ref _) rfl ?_
                    refine r_bipush dX8_readFactor_57 kb_41 rfl ?_
                    refine r_callV MX8_take 1 [_] lvX8_44 (Or.inl ⟨8, by decide, (by first | (simp only [zKS]; first | assumption | exact TBm.k (by assumption)) | assumption | exact TBm.k (by assumption) | exact zk_nself _ _ _ | (simp [zKS, zNS, *]; done)), rfl⟩) (sp_take E _ sg (d - 1) tb tx sp nm 41 (by decide) r2 _ hm2) rfl rfl (by first | exact Nat.le_of_ble_eq_true rfl | (simp [zcat_rf, Value.category]; done)) (by omega) (Nat.le_of_eq (Nat.zero_add _)) (Nat.le_of_eq (Nat.zero_add _)) dX8_readFactor_59 rfl (fun v_ w_ sg_ hq_ => ?_)
                    obtain ⟨rfl, hu3, rfl, hm3⟩ := hq_
                    simp only [h4.1, h4.2] at hm3 ⊢
                    refine r_if_eqB (r := 69) dX8_readFactor_62 (by decide) rfl (fun c_62 => ?_) (fun c_62 => ?_)
                    · exact absurd c_62 (by decide)
                    · refine r_iconst dX8_readFactor_65 kc_1 rfl ?_
                      refine r_goto (r := 70) dX8_readFactor_66 (by decide) ?_
                      refine r_zret .boolean rfl rfl dX8_readFactor_70 ?_
                      exact ⟨rfl, ((hu1.tr hu4).tr hu2).tr hu3, rfl, hm3⟩
              · exact absurd c_14 (by decide)
            · exact absurd c_3 (by omega)
      | none =>
        have h2 := pCh_none e2
        dsimp only
        cases e3 : pCh 36 r with
        | some r1 =>
          have h3 := pCh_some e3
          have l1 := pCh_len e3
          dsimp only
          cases e4 : pNamed r1 with
          | none =>
            refine r_iload_n dX8_readFactor_0 rfl rfl ?_
            refine r_bipush dX8_readFactor_1 kb_6 rfl ?_
            refine r_icmp_leN (by omega) (by omega) (r := 8) dX8_readFactor_3 (by decide) rfl (fun c_3 => ?_) (fun c_3 => ?_)
            · refine r_aload_n dX8_readFactor_8 rfl (zRv_ref _) rfl ?_
              refine r_bipush dX8_readFactor_9 kb_45 rfl ?_
              refine r_callV MX8_take 1 [_] lvX8_44 (Or.inl ⟨8, by decide, (by first | (simp only [zKS]; first | assumption | exact TBm.k (by assumption)) | assumption | exact TBm.k (by assumption) | exact zk_nself _ _ _ | (simp [zKS, zNS, *]; done)), rfl⟩) (sp_take E _ sg (d - 1) tb tx sp nm 45 (by decide) r _ hm) rfl rfl (by first | exact Nat.le_of_ble_eq_true rfl | (simp [zcat_rf, Value.category]; done)) (by omega) (Nat.le_of_eq (Nat.zero_add _)) (Nat.le_of_eq (Nat.zero_add _)) dX8_readFactor_11 rfl (fun v_ w_ sg_ hq_ => ?_)
              obtain ⟨rfl, hu1, rfl, hm1⟩ := hq_
              simp only [h1.1, h1.2] at hm1 ⊢
              refine r_if_eqB (r := 37) dX8_readFactor_14 (by decide) rfl (fun c_14 => ?_) (fun c_14 => ?_)
              · refine r_aload_n dX8_readFactor_37 rfl (zRv_ref _) rfl ?_
                refine r_bipush dX8_readFactor_38 kb_40 rfl ?_
                refine r_callV MX8_take 1 [_] lvX8_44 (Or.inl ⟨8, by decide, (by first | (simp only [zKS]; first | assumption | exact TBm.k (by assumption)) | assumption | exact TBm.k (by assumption) | exact zk_nself _ _ _ | (simp [zKS, zNS, *]; done)), rfl⟩) (sp_take E _ sg (d - 1) tb tx sp nm 40 (by decide) r _ hm1) rfl rfl (by first | exact Nat.le_of_ble_eq_true rfl | (simp [zcat_rf, Value.category]; done)) (by omega) (Nat.le_of_eq (Nat.zero_add _)) (Nat.le_of_eq (Nat.zero_add _)) dX8_readFactor_40 rfl (fun v_ w_ sg_ hq_ => ?_)
                obtain ⟨rfl, hu4, rfl, hm4⟩ := hq_
                simp only [h2.1, h2.2] at hm4 ⊢
                refine r_if_eqB (r := 71) dX8_readFactor_43 (by decide) rfl (fun c_43 => ?_) (fun c_43 => ?_)
                · refine r_aload_n dX8_readFactor_71 rfl (zRv_ref _) rfl ?_
                  refine r_bipush dX8_readFactor_72 kb_36 rfl ?_
                  refine r_callV MX8_take 1 [_] lvX8_44 (Or.inl ⟨8, by decide, (by first | (simp only [zKS]; first | assumption | exact TBm.k (by assumption)) | assumption | exact TBm.k (by assumption) | exact zk_nself _ _ _ | (simp [zKS, zNS, *]; done)), rfl⟩) (sp_take E _ sg (d - 1) tb tx sp nm 36 (by decide) r _ hm4) rfl rfl (by first | exact Nat.le_of_ble_eq_true rfl | (simp [zcat_rf, Value.category]; done)) (by omega) (Nat.le_of_eq (Nat.zero_add _)) (Nat.le_of_eq (Nat.zero_add _)) dX8_readFactor_74 rfl (fun v_ w_ sg_ hq_ => ?_)
                  obtain ⟨rfl, hu5, rfl, hm5⟩ := hq_
                  simp only [h3.1, h3.2] at hm5 ⊢
                  refine r_if_eqB (r := 103) dX8_readFactor_77 (by decide) rfl (fun c_77 => ?_) (fun c_77 => ?_)
                  · exact absurd c_77 (by decide)
                  · refine r_aload_n dX8_readFactor_80 rfl (zRv_ref _) rfl ?_
                    refine r_callV MX8_readNamed 0 [] lvX8_158 (Or.inl ⟨8, by decide, (by first | (simp only [zKS]; first | assumption | exact TBm.k (by assumption)) | assumption | exact TBm.k (by assumption) | exact zk_nself _ _ _ | (simp [zKS, zNS, *]; done)), rfl⟩) (sp_X8_readNamed E _ sg (d - 1) (by omega) tb tx sp nm r1 _ hm5) rfl rfl (by first | exact Nat.le_of_ble_eq_true rfl | (simp [zcat_rf, Value.category]; done)) (by omega) (Nat.le_of_eq (Nat.zero_add _)) (Nat.le_of_eq (Nat.zero_add _)) dX8_readFactor_81 rfl (fun v_ w_ sg_ hq_ => ?_)
                    obtain ⟨rfl, hu6, rfl, hm6⟩ := hq_
                    simp only [nam0, e4]
                    refine r_istore_n (ls' := [_, _, _]) dX8_readFactor_84 (Nat.le_of_ble_eq_true rfl) rfl rfl ?_
                    refine r_iload_n dX8_readFactor_85 rfl rfl ?_
                    refine r_iconst dX8_readFactor_86 kc_m1 rfl ?_
                    refine r_icmp_ne (r := 92) dX8_readFactor_87 (by decide) rfl (fun c_87 => ?_) (fun c_87 => ?_)
                    · exact absurd rfl c_87
                    · refine r_iconst dX8_readFactor_90 kc_0 rfl ?_
                      refine r_zret .boolean rfl rfl dX8_readFactor_91 ?_
                      exact ⟨rfl, ((hu1.tr hu4).tr hu5).tr hu6, rfl, hm6.x⟩
                · exact absurd c_43 (by decide)
              · exact absurd c_14 (by decide)
            · exact absurd c_3 (by omega)
          | some q =>
            obtain ⟨n, r2⟩ := q
            have l4 := pNamed_len e4
            have e5 : r1.tail = r2 := by
              cases r1 with
              | nil => cases e4
              | cons c r1 =>
                simp only [pNamed] at e4
                split at e4
                · cases e4; rfl
                · cases e4
            dsimp only
            refine r_iload_n dX8_readFactor_0 rfl rfl ?_
            refine r_bipush dX8_readFactor_1 kb_6 rfl ?_
            refine r_icmp_leN (by omega) (by omega) (r := 8) dX8_readFactor_3 (by decide) rfl (fun c_3 => ?_) (fun c_3 => ?_)
            · refine r_aload_n dX8_readFactor_8 rfl (zRv_ref _) rfl ?_
              refine r_bipush dX8_readFactor_9 kb_45 rfl ?_
              refine r_callV MX8_take 1 [_] lvX8_44 (Or.inl ⟨8, by decide, (by first | (simp only [zKS]; first | assumption | exact TBm.k (by assumption)) | assumption | exact TBm.k (by assumption) | exact zk_nself _ _ _ | (simp [zKS, zNS, *]; done)), rfl⟩) (sp_take E _ sg (d - 1) tb tx sp nm 45 (by decide) r _ hm) rfl rfl (by first | exact Nat.le_of_ble_eq_true rfl | (simp [zcat_rf, Value.category]; done)) (by omega) (Nat.le_of_eq (Nat.zero_add _)) (Nat.le_of_eq (Nat.zero_add _)) dX8_readFactor_11 rfl (fun v_ w_ sg_ hq_ => ?_)
              obtain ⟨rfl, hu1, rfl, hm1⟩ := hq_
              simp only [h1.1, h1.2] at hm1 ⊢
              refine r_if_eqB (r := 37) dX8_readFactor_14 (by decide) rfl (fun c_14 => ?_) (fun c_14 => ?_)
              · refine r_aload_n dX8_readFactor_37 rfl (zRv_ref _) rfl ?_
                refine r_bipush dX8_readFactor_38 kb_40 rfl ?_
                refine r_callV MX8_take 1 [_] lvX8_44 (Or.inl ⟨8, by decide, (by first | (simp only [zKS]; first | assumption | exact TBm.k (by assumption)) | assumption | exact TBm.k (by assumption) | exact zk_nself _ _ _ | (simp [zKS, zNS, *]; done)), rfl⟩) (sp_take E _ sg (d - 1) tb tx sp nm 40 (by decide) r _ hm1) rfl rfl (by first | exact Nat.le_of_ble_eq_true rfl | (simp [zcat_rf, Value.category]; done)) (by omega) (Nat.le_of_eq (Nat.zero_add _)) (Nat.le_of_eq (Nat.zero_add _)) dX8_readFactor_40 rfl (fun v_ w_ sg_ hq_ => ?_)
                obtain ⟨rfl, hu4, rfl, hm4⟩ := hq_
                simp only [h2.1, h2.2] at hm4 ⊢
                refine r_if_eqB (r := 71) dX8_readFactor_43 (by decide) rfl (fun c_43 => ?_) (fun c_43 => ?_)
                · refine r_aload_n dX8_readFactor_71 rfl (zRv_ref _) rfl ?_
                  refine r_bipush dX8_readFactor_72 kb_36 rfl ?_
                  refine r_callV MX8_take 1 [_] lvX8_44 (Or.inl ⟨8, by decide, (by first | (simp only [zKS]; first | assumption | exact TBm.k (by assumption)) | assumption | exact TBm.k (by assumption) | exact zk_nself _ _ _ | (simp [zKS, zNS, *]; done)), rfl⟩) (sp_take E _ sg (d - 1) tb tx sp nm 36 (by decide) r _ hm4) rfl rfl (by first | exact Nat.le_of_ble_eq_true rfl | (simp [zcat_rf, Value.category]; done)) (by omega) (Nat.le_of_eq (Nat.zero_add _)) (Nat.le_of_eq (Nat.zero_add _)) dX8_readFactor_74 rfl (fun v_ w_ sg_ hq_ => ?_)
                  obtain ⟨rfl, hu5, rfl, hm5⟩ := hq_
                  simp only [h3.1, h3.2] at hm5 ⊢
                  refine r_if_eqB (r := 103) dX8_readFactor_77 (by decide) rfl (fun c_77 => ?_) (fun c_77 => ?_)
                  · exact absurd c_77 (by decide)
                  · refine r_aload_n dX8_readFactor_80 rfl (zRv_ref _) rfl ?_
                    refine r_callV MX8_readNamed 0 [] lvX8_158 (Or.inl ⟨8, by decide, (by first | (simp only [zKS]; first | assumption | exact TBm.k (by assumption)) | assumption | exact TBm.k (by assumption) | exact zk_nself _ _ _ | (simp [zKS, zNS, *]; done)), rfl⟩) (sp_X8_readNamed E _ sg (d - 1) (by omega) tb tx sp nm r1 _ hm5) rfl rfl (by first | exact Nat.le_of_ble_eq_true rfl | (simp [zcat_rf, Value.category]; done)) (by omega) (Nat.le_of_eq (Nat.zero_add _)) (Nat.le_of_eq (Nat.zero_add _)) dX8_readFactor_81 rfl (fun v_ w_ sg_ hq_ => ?_)
                    obtain ⟨rfl, hu6, rfl, hm6⟩ := hq_
                    simp only [nam0, e4]
                    rw [e5] at hm6
                    refine r_istore_n (ls' := [_, _, _]) dX8_readFactor_84 (Nat.le_of_ble_eq_true rfl) rfl rfl ?_
                    refine r_iload_n dX8_readFactor_85 rfl rfl ?_
                    refine r_iconst dX8_readFactor_86 kc_m1 rfl ?_
                    refine r_icmp_ne (r := 92) dX8_readFactor_87 (by decide) rfl (fun c_87 => ?_) (fun c_87 => ?_)
                    · refine r_aload_n dX8_readFactor_92 rfl (zRv_ref _) rfl ?_
                      refine r_bipush dX8_readFactor_93 kb_9 rfl ?_
                      refine r_iload_n dX8_readFactor_95 rfl rfl ?_
                      refine r_iaddN dX8_readFactor_96 rfl ?_
                      refine r_fconst0 dX8_readFactor_97 rfl ?_
                      refine r_callV MX8_keep 2 [_, _] lvX8_164 (Or.inl ⟨8, by decide, (by first | (simp only [zKS]; first | assumption | exact TBm.k (by assumption)) | assumption | exact TBm.k (by assumption) | exact zk_nself _ _ _ | (simp [zKS, zNS, *]; done)), rfl⟩) (sp_X8_keep E _ sg (d - 1) tb tx sp nm (9 + n) FP.fconst0 r2 _ (by simp at *; omega) hm6) rfl rfl (by first | exact Nat.le_of_ble_eq_true rfl | (simp [zcat_rf, Value.category]; done)) (by omega) (Nat.le_of_eq (Nat.zero_add _)) (Nat.le_of_eq (Nat.zero_add _)) dX8_readFactor_98 rfl (fun v_ w_ sg_ hq_ => ?_)
                      obtain ⟨rfl, hu7, rfl, hm7⟩ := hq_
                      refine r_iconst dX8_readFactor_101 kc_1 rfl ?_
                      refine r_zret .boolean rfl rfl dX8_readFactor_102 ?_
                      exact ⟨rfl, (((hu1.tr hu4).tr hu5).tr hu6).tr hu7, rfl, hm7⟩
                    · exact absurd c_87 (nI_m1 (by omega))
                · exact absurd c_43 (by decide)
              · exact absurd c_14 (by decide)
            · exact absurd c_3 (by omega)
        | none =>
          have h3 := pCh_none e3
          dsimp only
          refine r_iload_n dX8_readFactor_0 rfl rfl ?_
          refine r_bipush dX8_readFactor_1 kb_6 rfl ?_
          refine r_icmp_leN (by omega) (by omega) (r := 8) dX8_readFactor_3 (by decide) rfl (fun c_3 => ?_) (fun c_3 => ?_)
          · refine r_aload_n dX8_readFactor_8 rfl (zRv_ref _) rfl ?_
            refine r_bipush dX8_readFactor_9 kb_45 rfl ?_
            refine r_callV MX8_take 1 [_] lvX8_44 (Or.inl ⟨8, by decide, (by first | (simp only [zKS]; first | assumption | exact TBm.k (by assumption)) | assumption | exact TBm.k (by assumption) | exact zk_nself _ _ _ | (simp [zKS, zNS, *]; done)), rfl⟩) (sp_take E _ sg (d - 1) tb tx sp nm 45 (by decide) r _ hm) rfl rfl (by first | exact Nat.le_of_ble_eq_true rfl | (simp [zcat_rf, Value.category]; done)) (by omega) (Nat.le_of_eq (Nat.zero_add _)) (Nat.le_of_eq (Nat.zero_add _)) dX8_readFactor_11 rfl (fun v_ w_ sg_ hq_ => ?_)
            obtain ⟨rfl, hu1, rfl, hm1⟩ := hq_
            simp only [h1.1, h1.2] at hm1 ⊢
            refine r_if_eqB (r := 37) dX8_readFactor_14 (by decide) rfl (fun c_14 => ?_) (fun c_14 => ?_)
            · refine r_aload_n dX8_readFactor_37 rfl (zRv_ref _) rfl ?_
              refine r_bipush dX8_readFactor_38 kb_40 rfl ?_
              refine r_callV MX8_take 1 [_] lvX8_44 (Or.inl ⟨8, by decide, (by first | (simp only [zKS]; first | assumption | exact TBm.k (by assumption)) | assumption | exact TBm.k (by assumption) | exact zk_nself _ _ _ | (simp [zKS, zNS, *]; done)), rfl⟩) (sp_take E _ sg (d - 1) tb tx sp nm 40 (by decide) r _ hm1) rfl rfl (by first | exact Nat.le_of_ble_eq_true rfl | (simp [zcat_rf, Value.category]; done)) (by omega) (Nat.le_of_eq (Nat.zero_add _)) (Nat.le_of_eq (Nat.zero_add _)) dX8_readFactor_40 rfl (fun v_ w_ sg_ hq_ => ?_)
              obtain ⟨rfl, hu4, rfl, hm4⟩ := hq_
              simp only [h2.1, h2.2] at hm4 ⊢
              refine r_if_eqB (r := 71) dX8_readFactor_43 (by decide) rfl (fun c_43 => ?_) (fun c_43 => ?_)
              · refine r_aload_n dX8_readFactor_71 rfl (zRv_ref _) rfl ?_
                refine r_bipush dX8_readFactor_72 kb_36 rfl ?_
                refine r_callV MX8_take 1 [_] lvX8_44 (Or.inl ⟨8, by decide, (by first | (simp only [zKS]; first | assumption | exact TBm.k (by assumption)) | assumption | exact TBm.k (by assumption) | exact zk_nself _ _ _ | (simp [zKS, zNS, *]; done)), rfl⟩) (sp_take E _ sg (d - 1) tb tx sp nm 36 (by decide) r _ hm4) rfl rfl (by first | exact Nat.le_of_ble_eq_true rfl | (simp [zcat_rf, Value.category]; done)) (by omega) (Nat.le_of_eq (Nat.zero_add _)) (Nat.le_of_eq (Nat.zero_add _)) dX8_readFactor_74 rfl (fun v_ w_ sg_ hq_ => ?_)
                obtain ⟨rfl, hu5, rfl, hm5⟩ := hq_
                simp only [h3.1, h3.2] at hm5 ⊢
                refine r_if_eqB (r := 103) dX8_readFactor_77 (by decide) rfl (fun c_77 => ?_) (fun c_77 => ?_)
                · refine r_aload_n dX8_readFactor_103 rfl (zRv_ref _) rfl ?_
                  refine r_callV MX8_readNumber 0 [] lvX8_171 (Or.inl ⟨8, by decide, (by first | (simp only [zKS]; first | assumption | exact TBm.k (by assumption)) | assumption | exact TBm.k (by assumption) | exact zk_nself _ _ _ | (simp [zKS, zNS, *]; done)), rfl⟩) (sp_X8_readNumber E _ sg (d - 1) (by omega) tb tx sp nm r _ hm5 (by omega)) rfl rfl (by first | exact Nat.le_of_ble_eq_true rfl | (simp [zcat_rf, Value.category]; done)) (by omega) (Nat.le_of_eq (Nat.zero_add _)) (Nat.le_of_eq (Nat.zero_add _)) dX8_readFactor_104 rfl (fun v_ w_ sg_ hq_ => ?_)
                  obtain ⟨rfl, hu6, rfl, hm6⟩ := hq_
                  refine r_zret .boolean rfl (zb_nar _) dX8_readFactor_107 ?_
                  exact ⟨rfl, ((hu1.tr hu4).tr hu5).tr hu6, rfl, hm6⟩
                · exact absurd c_77 (by decide)
              · exact absurd c_43 (by decide)
            · exact absurd c_14 (by decide)
          · exact absurd c_3 (by omega)
