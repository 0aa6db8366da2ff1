theorem zS_none {o : Option (List PStep × List Nat)} (h : o = none) : o.isSome = false := by rw [h]; rfl
theorem zS_some {o : Option (List PStep × List Nat)} {q : List PStep × List Nat} (h : o = some q) : o.isSome = true := by rw [h]; rfl
def CFac (E : ZE) (sg : ZM) (tb tx sp nm k : Nat) : Prop := ∀ (d : Nat) (w : ZW) (r : List Nat) (ss : List PStep), 3 * k + 4 ≤ d → TBm w tb tx sp nm r ss → ss.length + r.length ≤ 120 → CallQ E MX8_readFactor [.ref tb, .int (nI (7 - k))] w sg d 0 0 (zqS tb tx sp nm w sg ss (pFac k r))
/-- the answer of a reader whose text is known, as a caller meets it -/
theorem zqS_none {tb tx sp nm : Nat} {w w' : ZW} {sg sg' : ZM} {ss : List PStep} {o : Option (List PStep × List Nat)} {v : Option Value} (h : zqS tb tx sp nm w sg ss o v w' sg') (e : o = none) : sg = sg' ∧ TBu tb sp nm w w' ∧ v = some (.int (zb false)) ∧ TBx w' tb tx sp nm := by
  subst e
  exact h
theorem zqS_some {tb tx sp nm : Nat} {w w' : ZW} {sg sg' : ZM} {ss s : List PStep} {r : List Nat} {o : Option (List PStep × List Nat)} {v : Option Value} (h : zqS tb tx sp nm w sg ss o v w' sg') (e : o = some (s, r)) : sg = sg' ∧ TBu tb sp nm w w' ∧ v = some (.int (zb true)) ∧ TBm w' tb tx sp nm r (ss ++ s) := by
  subst e
  exact h
theorem prod_loop (E : ZE) (sg : ZM) (tb tx sp nm k : Nat) (hF : CFac E sg tb tx sp nm k) (d : Nat) (hd : 3 * k + 5 ≤ d) (w0 : ZW) (ss : List PStep) (a3 : Option Value) : ∀ (n : Nat) (w : ZW) (acc : List PStep) (r : List Nat) (a3 : Option Value), n ≤ 120 → TBu tb sp nm w0 w → TBm w tb tx sp nm r (ss ++ acc) → (ss ++ acc).length + r.length ≤ 120 →
    RW E MX8_readProduct 12 [some (.ref tb), some (.int (nI (7 - k))), some (.int (nI (120 - n))), a3] [] w sg d 0 0 (PN E (zqS tb tx sp nm w0 sg ss (pProdL (pFac k) n acc r)))
  | 0, w, acc, r, a3, hn, hu, hm, hb => by
    refine r_iload_n dX8_readProduct_12 rfl rfl ?_
    refine r_bipush dX8_readProduct_13 kb_120 rfl ?_
    refine r_icmp_geN (by omega) (by omega) (r := 78) dX8_readProduct_15 (by decide) rfl (fun c_15 => ?_) (fun c_15 => ?_)
    · refine r_iconst dX8_readProduct_78 kc_1 rfl ?_
      refine r_zret .boolean rfl rfl dX8_readProduct_79 ?_
      exact ⟨rfl, hu, rfl, hm⟩
    · exact absurd c_15 (by omega)
  | n + 1, w, acc, r, a3, hn, hu, hm, hb => by
    unfold pProdL
    cases e1 : pCh 42 r with
    | some r1 =>
      have h1 := pCh_some e1
      have l1 := pCh_len e1
      dsimp only
      cases e3 : pFac k r1 with
      | none =>
        refine r_iload_n dX8_readProduct_12 rfl rfl ?_
        refine r_bipush dX8_readProduct_13 kb_120 rfl ?_
        refine r_icmp_geN (by omega) (by omega) (r := 78) dX8_readProduct_15 (by decide) rfl (fun c_15 => ?_) (fun c_15 => ?_)
        · exact absurd c_15 (by omega)
        · refine r_aload_n dX8_readProduct_18 rfl (zRv_ref _) rfl ?_
          refine r_bipush dX8_readProduct_19 kb_42 rfl ?_
          refine r_callV MX8_take 1 [_] lvX8_44 (Or.inl ⟨8, by decide, (by first | (simp only [zKS]; first | assumption | exact TBm.k (by assumption)) | assumption | exact TBm.k (by assumption) | exact zk_nself _ _ _ | (simp [zKS, zNS, *]; done)), rfl⟩) (sp_take E _ sg (d - 1) tb tx sp nm 42 (by decide) r _ hm) rfl rfl (by first | exact Nat.le_of_ble_eq_true rfl | (simp [zcat_rf, Value.category]; done)) (by omega) (Nat.le_of_eq (Nat.zero_add _)) (Nat.le_of_eq (Nat.zero_add _)) dX8_readProduct_21 rfl (fun v_ w_ sg_ hq_ => ?_)
          obtain ⟨rfl, hu1, rfl, hm1⟩ := hq_
          simp only [h1.1, h1.2] at hm1 ⊢
          refine r_if_eqB (r := 32) dX8_readProduct_24 (by decide) rfl (fun c_24 => ?_) (fun c_24 => ?_)
          · exact absurd c_24 (by decide)
          · refine r_bipush dX8_readProduct_27 kb_7 rfl ?_
            refine r_goto (r := 47) dX8_readProduct_29 (by decide) ?_
            refine r_istore_n (ls' := [_, _, _, _]) dX8_readProduct_47 (Nat.le_of_ble_eq_true rfl) rfl rfl ?_
            refine r_iload_n dX8_readProduct_48 rfl rfl ?_
            refine r_iconst dX8_readProduct_49 kc_m1 rfl ?_
            refine r_icmp_ne (r := 56) dX8_readProduct_50 (by decide) rfl (fun c_50 => ?_) (fun c_50 => ?_)
            · refine r_aload_n dX8_readProduct_56 rfl (zRv_ref _) rfl ?_
              refine r_iload_n dX8_readProduct_57 rfl rfl ?_
              refine r_callV MX8_readFactor 1 [_] lvX8_168 (Or.inl ⟨8, by decide, (by first | (simp only [zKS]; first | assumption | exact TBm.k (by assumption)) | assumption | exact TBm.k (by assumption) | exact zk_nself _ _ _ | (simp [zKS, zNS, *]; done)), rfl⟩) (hF (d - 1) _ r1 _ (by omega) hm1 (by simp at *; omega)) rfl rfl (by first | exact Nat.le_of_ble_eq_true rfl | (simp [zcat_rf, Value.category]; done)) (by omega) (Nat.le_of_eq (Nat.zero_add _)) (Nat.le_of_eq (Nat.zero_add _)) dX8_readProduct_58 rfl (fun v_ w_ sg_ hq_ => ?_)
              obtain ⟨rfl, hu2, rfl, hm2⟩ := zqS_none hq_ e3
              refine r_if_neB (r := 66) dX8_readProduct_61 (by decide) rfl (fun c_61 => ?_) (fun c_61 => ?_)
              · exact absurd c_61 (by decide)
              · refine r_iconst dX8_readProduct_64 kc_0 rfl ?_
                refine r_zret .boolean rfl rfl dX8_readProduct_65 ?_
                exact ⟨rfl, (hu.tr hu1).tr hu2, rfl, hm2⟩
            · exact absurd c_50 (by decide)
      | some q =>
        obtain ⟨s2, r2⟩ := q
        have l2 := pFac_thin k _ _ _ e3
        dsimp only
        refine r_iload_n dX8_readProduct_12 rfl rfl ?_
        refine r_bipush dX8_readProduct_13 kb_120 rfl ?_
        refine r_icmp_geN (by omega) (by omega) (r := 78) dX8_readProduct_15 (by decide) rfl (fun c_15 => ?_) (fun c_15 => ?_)
        · exact absurd c_15 (by omega)
        · refine r_aload_n dX8_readProduct_18 rfl (zRv_ref _) rfl ?_
          refine r_bipush dX8_readProduct_19 kb_42 rfl ?_
          refine r_callV MX8_take 1 [_] lvX8_44 (Or.inl ⟨8, by decide, (by first | (simp only [zKS]; first | assumption | exact TBm.k (by assumption)) | assumption | exact TBm.k (by assumption) | exact zk_nself _ _ _ | (simp [zKS, zNS, *]; done)), rfl⟩) (sp_take E _ sg (d - 1) tb tx sp nm 42 (by decide) r _ hm) rfl rfl (by first | exact Nat.le_of_ble_eq_true rfl | (simp [zcat_rf, Value.category]; done)) (by omega) (Nat.le_of_eq (Nat.zero_add _)) (Nat.le_of_eq (Nat.zero_add _)) dX8_readProduct_21 rfl (fun v_ w_ sg_ hq_ => ?_)
          obtain ⟨rfl, hu1, rfl, hm1⟩ := hq_
          simp only [h1.1, h1.2] at hm1 ⊢
          refine r_if_eqB (r := 32) dX8_readProduct_24 (by decide) rfl (fun c_24 => ?_) (fun c_24 => ?_)
          · exact absurd c_24 (by decide)
          · refine r_bipush dX8_readProduct_27 kb_7 rfl ?_
            refine r_goto (r := 47) dX8_readProduct_29 (by decide) ?_
            refine r_istore_n (ls' := [_, _, _, _]) dX8_readProduct_47 (Nat.le_of_ble_eq_true rfl) rfl rfl ?_
            refine r_iload_n dX8_readProduct_48 rfl rfl ?_
            refine r_iconst dX8_readProduct_49 kc_m1 rfl ?_
            refine r_icmp_ne (r := 56) dX8_readProduct_50 (by decide) rfl (fun c_50 => ?_) (fun c_50 => ?_)
            · refine r_aload_n dX8_readProduct_56 rfl (zRv_ref _) rfl ?_
              refine r_iload_n dX8_readProduct_57 rfl rfl ?_
              refine r_callV MX8_readFactor 1 [_] lvX8_168 (Or.inl ⟨8, by decide, (by first | (simp only [zKS]; first | assumption | exact TBm.k (by assumption)) | assumption | exact TBm.k (by assumption) | exact zk_nself _ _ _ | (simp [zKS, zNS, *]; done)), rfl⟩) (hF (d - 1) _ r1 _ (by omega) hm1 (by simp at *; omega)) rfl rfl (by first | exact Nat.le_of_ble_eq_true rfl | (simp [zcat_rf, Value.category]; done)) (by omega) (Nat.le_of_eq (Nat.zero_add _)) (Nat.le_of_eq (Nat.zero_add _)) dX8_readProduct_58 rfl (fun v_ w_ sg_ hq_ => ?_)
              obtain ⟨rfl, hu2, rfl, hm2⟩ := zqS_some hq_ e3
              refine r_if_neB (r := 66) dX8_readProduct_61 (by decide) rfl (fun c_61 => ?_) (fun c_61 => ?_)
              · refine r_aload_n dX8_readProduct_66 rfl (zRv_ref _) rfl ?_
                refine r_iload_n dX8_readProduct_67 rfl rfl ?_
                refine r_fconst0 dX8_readProduct_68 rfl ?_
                refine r_callV MX8_keep 2 [_, _] lvX8_164 (Or.inl ⟨8, by decide, (by first | (simp only [zKS]; first | assumption | exact TBm.k (by assumption)) | assumption | exact TBm.k (by assumption) | exact zk_nself _ _ _ | (simp [zKS, zNS, *]; done)), rfl⟩) (sp_X8_keep E _ sg (d - 1) tb tx sp nm 7 FP.fconst0 r2 _ (by simp at *; omega) hm2) rfl rfl (by first | exact Nat.le_of_ble_eq_true rfl | (simp [zcat_rf, Value.category]; done)) (by omega) (Nat.le_of_eq (Nat.zero_add _)) (Nat.le_of_eq (Nat.zero_add _)) dX8_readProduct_69 rfl (fun v_ w_ sg_ hq_ => ?_)
                obtain ⟨rfl, hu3, rfl, hm3⟩ := hq_
                refine r_iinc (ls' := [_, _, _, _]) dX8_readProduct_72 (Nat.le_of_ble_eq_true rfl) rfl (zinc1 _) rfl rfl ?_
                refine r_goto (r := 12) dX8_readProduct_75 (by decide) ?_
                rw [show 120 - (n + 1) + 1 = 120 - n by omega]
                refine prod_loop E sg tb tx sp nm k hF d hd w0 ss a3 n _ (acc ++ s2 ++ [(7, 0)]) r2 _ (by omega) (((hu.tr hu1).tr hu2).tr hu3) ?_ (by simp at *; omega)
                simpa [show FP.fconst0 = 0 from rfl] using hm3
              · exact absurd c_61 (by decide)
            · exact absurd c_50 (by decide)
    | none =>
      have h1 := pCh_none e1
      dsimp only
      cases e2 : pCh 47 r with
      | some r1 =>
        have h2 := pCh_some e2
        have l1 := pCh_len e2
        dsimp only
        cases e3 : pFac k r1 with
        | none =>
          refine r_iload_n dX8_readProduct_12 rfl rfl ?_
          refine r_bipush dX8_readProduct_13 kb_120 rfl ?_
          refine r_icmp_geN (by omega) (by omega) (r := 78) dX8_readProduct_15 (by decide) rfl (fun c_15 => ?_) (fun c_15 => ?_)
          · exact absurd c_15 (by omega)
          · refine r_aload_n dX8_readProduct_18 rfl (zRv_ref _) rfl ?_
            refine r_bipush dX8_readProduct_19 kb_42 rfl ?_
            refine r_callV MX8_take 1 [_] lvX8_44 (Or.inl ⟨8, by decide, (by first | (simp only [zKS]; first | assumption | exact TBm.k (by assumption)) | assumption | exact TBm.k (by assumption) | exact zk_nself _ _ _ | (simp [zKS, zNS, *]; done)), rfl⟩) (sp_take E _ sg (d - 1) tb tx sp nm 42 (by decide) r _ hm) rfl rfl (by first | exact Nat.le_of_ble_eq_true rfl | (simp [zcat_rf, Value.category]; done)) (by omega) (Nat.le_of_eq (Nat.zero_add _)) (Nat.le_of_eq (Nat.zero_add _)) dX8_readProduct_21 rfl (fun v_ w_ sg_ hq_ => ?_)
            obtain ⟨rfl, hu1, rfl, hm1⟩ := hq_
            simp only [h1.1, h1.2] at hm1 ⊢
            refine r_if_eqB (r := 32) dX8_readProduct_24 (by decide) rfl (fun c_24 => ?_) (fun c_24 => ?_)
            · refine r_aload_n dX8_readProduct_32 rfl (zRv_ref _) rfl ?_
              refine r_bipush dX8_readProduct_33 kb_47 rfl ?_
              refine r_callV MX8_take 1 [_] lvX8_44 (Or.inl ⟨8, by decide, (by first | (simp only [zKS]; first | assumption | exact TBm.k (by assumption)) | assumption | exact TBm.k (by assumption) | exact zk_nself _ _ _ | (simp [zKS, zNS, *]; done)), rfl⟩) (sp_take E _ sg (d - 1) tb tx sp nm 47 (by decide) r _ hm1) rfl rfl (by first | exact Nat.le_of_ble_eq_true rfl | (simp [zcat_rf, Value.category]; done)) (by omega) (Nat.le_of_eq (Nat.zero_add _)) (Nat.le_of_eq (Nat.zero_add _)) dX8_readProduct_35 rfl (fun v_ w_ sg_ hq_ => ?_)
              obtain ⟨rfl, hu4, rfl, hm4⟩ := hq_
              simp only [h2.1, h2.2] at hm4 ⊢
              refine r_if_eqB (r := 46) dX8_readProduct_38 (by decide) rfl (fun c_38 => ?_) (fun c_38 => ?_)
              · exact absurd c_38 (by decide)
              · refine r_bipush dX8_readProduct_41 kb_8 rfl ?_
                refine r_goto (r := 47) dX8_readProduct_43 (by decide) ?_
                refine r_istore_n (ls' := [_, _, _, _]) dX8_readProduct_47 (Nat.le_of_ble_eq_true rfl) rfl rfl ?_
                refine r_iload_n dX8_readProduct_48 rfl rfl ?_
                refine r_iconst dX8_readProduct_49 kc_m1 rfl ?_
                refine r_icmp_ne (r := 56) dX8_readProduct_50 (by decide) rfl (fun c_50 => ?_) (fun c_50 => ?_)
                · refine r_aload_n dX8_readProduct_56 rfl (zRv_ref _) rfl ?_
                  refine r_iload_n dX8_readProduct_57 rfl rfl ?_
                  refine r_callV MX8_readFactor 1 [_] lvX8_168 (Or.inl ⟨8, by decide, (by first | (simp only [zKS]; first | assumption | exact TBm.k (by assumption)) | assumption | exact TBm.k (by assumption) | exact zk_nself _ _ _ | (simp [zKS, zNS, *]; done)), rfl⟩) (hF (d - 1) _ r1 _ (by omega) hm4 (by simp at *; omega)) rfl rfl (by first | exact Nat.le_of_ble_eq_true rfl | (simp [zcat_rf, Value.category]; done)) (by omega) (Nat.le_of_eq (Nat.zero_add _)) (Nat.le_of_eq (Nat.zero_add _)) dX8_readProduct_58 rfl (fun v_ w_ sg_ hq_ => ?_)
                  obtain ⟨rfl, hu2, rfl, hm2⟩ := zqS_none hq_ e3
                  refine r_if_neB (r := 66) dX8_readProduct_61 (by decide) rfl (fun c_61 => ?_) (fun c_61 => ?_)
                  · exact absurd c_61 (by decide)
                  · refine r_iconst dX8_readProduct_64 kc_0 rfl ?_
                    refine r_zret .boolean rfl rfl dX8_readProduct_65 ?_
                    exact ⟨rfl, ((hu.tr hu1).tr hu4).tr hu2, rfl, hm2⟩
                · exact absurd c_50 (by decide)
            · exact absurd c_24 (by decide)
        | some q =>
          obtain ⟨s2, r2⟩ := q
          have l2 := pFac_thin k _ _ _ e3
          dsimp only
          refine r_iload_n dX8_readProduct_12 rfl rfl ?_
          refine r_bipush dX8_readProduct_13 kb_120 rfl ?_
          refine r_icmp_geN (by omega) (by omega) (r := 78) dX8_readProduct_15 (by decide) rfl (fun c_15 => ?_) (fun c_15 => ?_)
          · exact absurd c_15 (by omega)
          · refine r_aload_n dX8_readProduct_18 rfl (zRv_ref _) rfl ?_
            refine r_bipush dX8_readProduct_19 kb_42 rfl ?_
            refine r_callV MX8_take 1 [_] lvX8_44 (Or.inl ⟨8, by decide, (by first | (simp only [zKS]; first | assumption | exact TBm.k (by assumption)) | assumption | exact TBm.k (by assumption) | exact zk_nself _ _ _ | (simp [zKS, zNS, *]; done)), rfl⟩) (sp_take E _ sg (d - 1) tb tx sp nm 42 (by decide) r _ hm) rfl rfl (by first | exact Nat.le_of_ble_eq_true rfl | (simp [zcat_rf, Value.category]; done)) (by omega) (Nat.le_of_eq (Nat.zero_add _)) (Nat.le_of_eq (Nat.zero_add _)) dX8_readProduct_21 rfl (fun v_ w_ sg_ hq_ => ?_)
            obtain ⟨rfl, hu1, rfl, hm1⟩ := hq_
            simp only [h1.1, h1.2] at hm1 ⊢
            refine r_if_eqB (r := 32) dX8_readProduct_24 (by decide) rfl (fun c_24 => ?_) (fun c_24 => ?_)
            · refine r_aload_n dX8_readProduct_32 rfl (zRv_ref _) rfl ?_
              refine r_bipush dX8_readProduct_33 kb_47 rfl ?_
              refine r_callV MX8_take 1 [_] lvX8_44 (Or.inl ⟨8, by decide, (by first | (simp only [zKS]; first | assumption | exact TBm.k (by assumption)) | assumption | exact TBm.k (by assumption) | exact zk_nself _ _ _ | (simp [zKS, zNS, *]; done)), rfl⟩) (sp_take E _ sg (d - 1) tb tx sp nm 47 (by decide) r _ hm1) rfl rfl (by first | exact Nat.le_of_ble_eq_true rfl | (simp [zcat_rf, Value.category]; done)) (by omega) (Nat.le_of_eq (Nat.zero_add _)) (Nat.le_of_eq (Nat.zero_add _)) dX8_readProduct_35 rfl (fun v_ w_ sg_ hq_ => ?_)
              obtain ⟨rfl, hu4, rfl, hm4⟩ := hq_
              simp only [h2.1, h2.2] at hm4 ⊢
              refine r_if_eqB (r := 46) dX8_readProduct_38 (by decide) rfl (fun c_38 => ?_) (fun c_38 => ?_)
              · exact absurd c_38 (by decide)
              · refine r_bipush dX8_readProduct_41 kb_8 rfl ?_
                refine r_goto (r := 47) dX8_readProduct_43 (by decide) ?_
                refine r_istore_n (ls' := [_, _, _, _]) dX8_readProduct_47 (Nat.le_of_ble_eq_true rfl) rfl rfl ?_
                refine r_iload_n dX8_readProduct_48 rfl rfl ?_
                refine r_iconst dX8_readProduct_49 kc_m1 rfl ?_
                refine r_icmp_ne (r := 56) dX8_readProduct_50 (by decide) rfl (fun c_50 => ?_) (fun c_50 => ?_)
                · refine r_aload_n dX8_readProduct_56 rfl (zRv_ref _) rfl ?_
                  refine r_iload_n dX8_readProduct_57 rfl rfl ?_
                  refine r_callV MX8_readFactor 1 [_] lvX8_168 (Or.inl ⟨8, by decide, (by first | (simp only [zKS]; first | assumption | exact TBm.k (by assumption)) | assumption | exact TBm.k (by assumption) | exact zk_nself _ _ _ | (simp [zKS, zNS, *]; done)), rfl⟩) (hF (d - 1) _ r1 _ (by omega) hm4 (by simp at *; omega)) rfl rfl (by first | exact Nat.le_of_ble_eq_true rfl | (simp [zcat_rf, Value.category]; done)) (by omega) (Nat.le_of_eq (Nat.zero_add _)) (Nat.le_of_eq (Nat.zero_add _)) dX8_readProduct_58 rfl (fun v_ w_ sg_ hq_ => ?_)
                  obtain ⟨rfl, hu2, rfl, hm2⟩ := zqS_some hq_ e3
                  refine r_if_neB (r := 66) dX8_readProduct_61 (by decide) rfl (fun c_61 => ?_) (fun c_61 => ?_)
                  · refine r_aload_n dX8_readProduct_66 rfl (zRv_ref _) rfl ?_
                    refine r_iload_n dX8_readProduct_67 rfl rfl ?_
                    refine r_fconst0 dX8_readProduct_68 rfl ?_
                    refine r_callV MX8_keep 2 [_, _] lvX8_164 (Or.inl ⟨8, by decide, (by first | (simp only [zKS]; first | assumption | exact TBm.k (by assumption)) | assumption | exact TBm.k (by assumption) | exact zk_nself _ _ _ | (simp [zKS, zNS, *]; done)), rfl⟩) (sp_X8_keep E _ sg (d - 1) tb tx sp nm 8 FP.fconst0 r2 _ (by simp at *; omega) hm2) rfl rfl (by first | exact Nat.le_of_ble_eq_true rfl | (simp [zcat_rf, Value.category]; done)) (by omega) (Nat.le_of_eq (Nat.zero_add _)) (Nat.le_of_eq (Nat.zero_add _)) dX8_readProduct_69 rfl (fun v_ w_ sg_ hq_ => ?_)
                    obtain ⟨rfl, hu3, rfl, hm3⟩ := hq_
                    refine r_iinc (ls' := [_, _, _, _]) dX8_readProduct_72 (Nat.le_of_ble_eq_true rfl) rfl (zinc1 _) rfl rfl ?_
                    refine r_goto (r := 12) dX8_readProduct_75 (by decide) ?_
                    rw [show 120 - (n + 1) + 1 = 120 - n by omega]
                    refine prod_loop E sg tb tx sp nm k hF d hd w0 ss a3 n _ (acc ++ s2 ++ [(8, 0)]) r2 _ (by omega) ((((hu.tr hu1).tr hu4).tr hu2).tr hu3) ?_ (by simp at *; omega)
                    simpa [show FP.fconst0 = 0 from rfl] using hm3
                  · exact absurd c_61 (by decide)
                · exact absurd c_50 (by decide)
            · exact absurd c_24 (by decide)
      | none =>
        have h2 := pCh_none e2
        refine r_iload_n dX8_readProduct_12 rfl rfl ?_
        refine r_bipush dX8_readProduct_13 kb_120 rfl ?_
        refine r_icmp_geN (by omega) (by omega) (r := 78) dX8_readProduct_15 (by decide) rfl (fun c_15 => ?_) (fun c_15 => ?_)
        · exact absurd c_15 (by omega)
        · refine r_aload_n dX8_readProduct_18 rfl (zRv_ref _) rfl ?_
          refine r_bipush dX8_readProduct_19 kb_42 rfl ?_
          refine r_callV MX8_take 1 [_] lvX8_44 (Or.inl ⟨8, by decide, (by first | (simp only [zKS]; first | assumption | exact TBm.k (by assumption)) | assumption | exact TBm.k (by assumption) | exact zk_nself _ _ _ | (simp [zKS, zNS, *]; done)), rfl⟩) (sp_take E _ sg (d - 1) tb tx sp nm 42 (by decide) r _ hm) rfl rfl (by first | exact Nat.le_of_ble_eq_true rfl | (simp [zcat_rf, Value.category]; done)) (by omega) (Nat.le_of_eq (Nat.zero_add _)) (Nat.le_of_eq (Nat.zero_add _)) dX8_readProduct_21 rfl (fun v_ w_ sg_ hq_ => ?_)
          obtain ⟨rfl, hu1, rfl, hm1⟩ := hq_
          simp only [h1.1, h1.2] at hm1 ⊢
          refine r_if_eqB (r := 32) dX8_readProduct_24 (by decide) rfl (fun c_24 => ?_) (fun c_24 => ?_)
          · refine r_aload_n dX8_readProduct_32 rfl (zRv_ref _) rfl ?_
            refine r_bipush dX8_readProduct_33 kb_47 rfl ?_
            refine r_callV MX8_take 1 [_] lvX8_44 (Or.inl ⟨8, by decide, (by first | (simp only [zKS]; first | assumption | exact TBm.k (by assumption)) | assumption | exact TBm.k (by assumption) | exact zk_nself _ _ _ | (simp [zKS, zNS, *]; done)), rfl⟩) (sp_take E _ sg (d - 1) tb tx sp nm 47 (by decide) r _ hm1) rfl rfl (by first | exact Nat.le_of_ble_eq_true rfl | (simp [zcat_rf, Value.category]; done)) (by omega) (Nat.le_of_eq (Nat.zero_add _)) (Nat.le_of_eq (Nat.zero_add _)) dX8_readProduct_35 rfl (fun v_ w_ sg_ hq_ => ?_)
            obtain ⟨rfl, hu4, rfl, hm4⟩ := hq_
            simp only [h2.1, h2.2] at hm4 ⊢
            refine r_if_eqB (r := 46) dX8_readProduct_38 (by decide) rfl (fun c_38 => ?_) (fun c_38 => ?_)
            · refine r_iconst dX8_readProduct_46 kc_m1 rfl ?_
              refine r_istore_n (ls' := [_, _, _, _]) dX8_readProduct_47 (Nat.le_of_ble_eq_true rfl) rfl rfl ?_
              refine r_iload_n dX8_readProduct_48 rfl rfl ?_
              refine r_iconst dX8_readProduct_49 kc_m1 rfl ?_
              refine r_icmp_ne (r := 56) dX8_readProduct_50 (by decide) rfl (fun c_50 => ?_) (fun c_50 => ?_)
              · exact absurd rfl c_50
              · refine r_goto (r := 78) dX8_readProduct_53 (by decide) ?_
                refine r_iconst dX8_readProduct_78 kc_1 rfl ?_
                refine r_zret .boolean rfl rfl dX8_readProduct_79 ?_
                exact ⟨rfl, (hu.tr hu1).tr hu4, rfl, hm4⟩
            · exact absurd c_38 (by decide)
          · exact absurd c_24 (by decide)
theorem sp_X8_readProduct (E : ZE) (sg : ZM) (tb tx sp nm k : Nat) (hF : CFac E sg tb tx sp nm k) (d : Nat) (w : ZW) (r : List Nat) (ss : List PStep) (hd : 3 * k + 5 ≤ d) (hm : TBm w tb tx sp nm r ss) (hb : ss.length + r.length ≤ 120) : CallQ E MX8_readProduct [.ref tb, .int (nI (7 - k))] w sg d 0 0 (zqS tb tx sp nm w sg ss (pProd (pFac k) r)) := by
  refine CallQ.of rfl (by simp [Value.category]) (Nat.le_of_ble_eq_true rfl) ?_
  unfold pProd
  cases e1 : pFac k r with
  | none =>
    refine r_aload_n dX8_readProduct_0 rfl (zRv_ref _) rfl ?_
    refine r_iload_n dX8_readProduct_1 rfl rfl ?_
    refine r_callV MX8_readFactor 1 [_] lvX8_168 (Or.inl ⟨8, by decide, (by first | (simp only [zKS]; first | assumption | exact TBm.k (by assumption)) | assumption | exact TBm.k (by assumption) | exact zk_nself _ _ _ | (simp [zKS, zNS, *]; done)), rfl⟩) (hF (d - 1) _ r _ (by omega) hm hb) rfl rfl (by first | exact Nat.le_of_ble_eq_true rfl | (simp [zcat_rf, Value.category]; done)) (by omega) (Nat.le_of_eq (Nat.zero_add _)) (Nat.le_of_eq (Nat.zero_add _)) dX8_readProduct_2 rfl (fun v_ w_ sg_ hq_ => ?_)
    obtain ⟨rfl, hu2, rfl, hm2⟩ := zqS_none hq_ e1
    refine r_if_neB (r := 10) dX8_readProduct_5 (by decide) rfl (fun c_5 => ?_) (fun c_5 => ?_)
    · exact absurd c_5 (by decide)
    · refine r_iconst dX8_readProduct_8 kc_0 rfl ?_
      refine r_zret .boolean rfl rfl dX8_readProduct_9 ?_
      exact ⟨rfl, hu2, rfl, hm2⟩
  | some q =>
    obtain ⟨s, r1⟩ := q
    have l2 := pFac_thin k _ _ _ e1
    dsimp only
    refine r_aload_n dX8_readProduct_0 rfl (zRv_ref _) rfl ?_
    refine r_iload_n dX8_readProduct_1 rfl rfl ?_
    refine r_callV MX8_readFactor 1 [_] lvX8_168 (Or.inl ⟨8, by decide, (by first | (simp only [zKS]; first | assumption | exact TBm.k (by assumption)) | assumption | exact TBm.k (by assumption) | exact zk_nself _ _ _ | (simp [zKS, zNS, *]; done)), rfl⟩) (hF (d - 1) _ r _ (by omega) hm hb) rfl rfl (by first | exact Nat.le_of_ble_eq_true rfl | (simp [zcat_rf, Value.category]; done)) (by omega) (Nat.le_of_eq (Nat.zero_add _)) (Nat.le_of_eq (Nat.zero_add _)) dX8_readProduct_2 rfl (fun v_ w_ sg_ hq_ => ?_)
    obtain ⟨rfl, hu2, rfl, hm2⟩ := zqS_some hq_ e1
    refine r_if_neB (r := 10) dX8_readProduct_5 (by decide) rfl (fun c_5 => ?_) (fun c_5 => ?_)
    · refine r_iconst dX8_readProduct_10 kc_0 rfl ?_
      refine r_istore_n (ls' := [_, _, _, _]) dX8_readProduct_11 (Nat.le_of_ble_eq_true rfl) rfl rfl ?_
      exact prod_loop E sg tb tx sp nm k hF d hd w ss none 120 _ s r1 _ (by omega) hu2 hm2 (by simp at *; omega)
    · exact absurd c_5 (by decide)
theorem sum_loop (E : ZE) (sg : ZM) (tb tx sp nm k : Nat) (hF : CFac E sg tb tx sp nm k) (d : Nat) (hd : 3 * k + 6 ≤ d) (w0 : ZW) (ss : List PStep) (a3 : Option Value) : ∀ (n : Nat) (w : ZW) (acc : List PStep) (r : List Nat) (a3 : Option Value), n ≤ 120 → TBu tb sp nm w0 w → TBm w tb tx sp nm r (ss ++ acc) → (ss ++ acc).length + r.length ≤ 120 →
    RW E MX8_readSum 12 [some (.ref tb), some (.int (nI (7 - k))), some (.int (nI (120 - n))), a3] [] w sg d 0 0 (PN E (zqS tb tx sp nm w0 sg ss (pSumL (pFac k) n acc r)))
  | 0, w, acc, r, a3, hn, hu, hm, hb => by
    refine r_iload_n dX8_readSum_12 rfl rfl ?_
    refine r_bipush dX8_readSum_13 kb_120 rfl ?_
    refine r_icmp_geN (by omega) (by omega) (r := 77) dX8_readSum_15 (by decide) rfl (fun c_15 => ?_) (fun c_15 => ?_)
    · refine r_iconst dX8_readSum_77 kc_1 rfl ?_
      refine r_zret .boolean rfl rfl dX8_readSum_78 ?_
      exact ⟨rfl, hu, rfl, hm⟩
    · exact absurd c_15 (by omega)
  | n + 1, w, acc, r, a3, hn, hu, hm, hb => by
    unfold pSumL
    cases e1 : pCh 43 r with
    | some r1 =>
      have h1 := pCh_some e1
      have l1 := pCh_len e1
      dsimp only
      cases e3 : pProd (pFac k) r1 with
      | none =>
        refine r_iload_n dX8_readSum_12 rfl rfl ?_
        refine r_bipush dX8_readSum_13 kb_120 rfl ?_
        refine r_icmp_geN (by omega) (by omega) (r := 77) dX8_readSum_15 (by decide) rfl (fun c_15 => ?_) (fun c_15 => ?_)
        · exact absurd c_15 (by omega)
        · refine r_aload_n dX8_readSum_18 rfl (zRv_ref _) rfl ?_
          refine r_bipush dX8_readSum_19 kb_43 rfl ?_
          refine r_callV MX8_take 1 [_] lvX8_44 (Or.inl ⟨8, by decide, (by first | (simp only [zKS]; first | assumption | exact TBm.k (by assumption)) | assumption | exact TBm.k (by assumption) | exact zk_nself _ _ _ | (simp [zKS, zNS, *]; done)), rfl⟩) (sp_take E _ sg (d - 1) tb tx sp nm 43 (by decide) r _ hm) rfl rfl (by first | exact Nat.le_of_ble_eq_true rfl | (simp [zcat_rf, Value.category]; done)) (by omega) (Nat.le_of_eq (Nat.zero_add _)) (Nat.le_of_eq (Nat.zero_add _)) dX8_readSum_21 rfl (fun v_ w_ sg_ hq_ => ?_)
          obtain ⟨rfl, hu1, rfl, hm1⟩ := hq_
          simp only [h1.1, h1.2] at hm1 ⊢
          refine r_if_eqB (r := 31) dX8_readSum_24 (by decide) rfl (fun c_24 => ?_) (fun c_24 => ?_)
          · exact absurd c_24 (by decide)
          · refine r_iconst dX8_readSum_27 kc_5 rfl ?_
            refine r_goto (r := 46) dX8_readSum_28 (by decide) ?_
            refine r_istore_n (ls' := [_, _, _, _]) dX8_readSum_46 (Nat.le_of_ble_eq_true rfl) rfl rfl ?_
            refine r_iload_n dX8_readSum_47 rfl rfl ?_
            refine r_iconst dX8_readSum_48 kc_m1 rfl ?_
            refine r_icmp_ne (r := 55) dX8_readSum_49 (by decide) rfl (fun c_49 => ?_) (fun c_49 => ?_)
            · refine r_aload_n dX8_readSum_55 rfl (zRv_ref _) rfl ?_
              refine r_iload_n dX8_readSum_56 rfl rfl ?_
              refine r_callV MX8_readProduct 1 [_] lvX8_161 (Or.inl ⟨8, by decide, (by first | (simp only [zKS]; first | assumption | exact TBm.k (by assumption)) | assumption | exact TBm.k (by assumption) | exact zk_nself _ _ _ | (simp [zKS, zNS, *]; done)), rfl⟩) (sp_X8_readProduct E sg tb tx sp nm k hF (d - 1) _ r1 _ (by omega) hm1 (by simp at *; omega)) rfl rfl (by first | exact Nat.le_of_ble_eq_true rfl | (simp [zcat_rf, Value.category]; done)) (by omega) (Nat.le_of_eq (Nat.zero_add _)) (Nat.le_of_eq (Nat.zero_add _)) dX8_readSum_57 rfl (fun v_ w_ sg_ hq_ => ?_)
              obtain ⟨rfl, hu2, rfl, hm2⟩ := zqS_none hq_ e3
              refine r_if_neB (r := 65) dX8_readSum_60 (by decide) rfl (fun c_60 => ?_) (fun c_60 => ?_)
              · exact absurd c_60 (by decide)
              · refine r_iconst dX8_readSum_63 kc_0 rfl ?_
                refine r_zret .boolean rfl rfl dX8_readSum_64 ?_
                exact ⟨rfl, (hu.tr hu1).tr hu2, rfl, hm2⟩
            · exact absurd c_49 (by decide)
      | some q =>
        obtain ⟨s2, r2⟩ := q
        have l2 := pProd_thin (pFac_thin k) _ _ _ e3
        dsimp only
        refine r_iload_n dX8_readSum_12 rfl rfl ?_
        refine r_bipush dX8_readSum_13 kb_120 rfl ?_
        refine r_icmp_geN (by omega) (by omega) (r := 77) dX8_readSum_15 (by decide) rfl (fun c_15 => ?_) (fun c_15 => ?_)
        · exact absurd c_15 (by omega)
        · refine r_aload_n dX8_readSum_18 rfl (zRv_ref _) rfl ?_
          refine r_bipush dX8_readSum_19 kb_43 rfl ?_
          refine r_callV MX8_take 1 [_] lvX8_44 (Or.inl ⟨8, by decide, (by first | (simp only [zKS]; first | assumption | exact TBm.k (by assumption)) | assumption | exact TBm.k (by assumption) | exact zk_nself _ _ _ | (simp [zKS, zNS, *]; done)), rfl⟩) (sp_take E _ sg (d - 1) tb tx sp nm 43 (by decide) r _ hm) rfl rfl (by first | exact Nat.le_of_ble_eq_true rfl | (simp [zcat_rf, Value.category]; done)) (by omega) (Nat.le_of_eq (Nat.zero_add _)) (Nat.le_of_eq (Nat.zero_add _)) dX8_readSum_21 rfl (fun v_ w_ sg_ hq_ => ?_)
          obtain ⟨rfl, hu1, rfl, hm1⟩ := hq_
          simp only [h1.1, h1.2] at hm1 ⊢
          refine r_if_eqB (r := 31) dX8_readSum_24 (by decide) rfl (fun c_24 => ?_) (fun c_24 => ?_)
          · exact absurd c_24 (by decide)
          · refine r_iconst dX8_readSum_27 kc_5 rfl ?_
            refine r_goto (r := 46) dX8_readSum_28 (by decide) ?_
            refine r_istore_n (ls' := [_, _, _, _]) dX8_readSum_46 (Nat.le_of_ble_eq_true rfl) rfl rfl ?_
            refine r_iload_n dX8_readSum_47 rfl rfl ?_
            refine r_iconst dX8_readSum_48 kc_m1 rfl ?_
            refine r_icmp_ne (r := 55) dX8_readSum_49 (by decide) rfl (fun c_49 => ?_) (fun c_49 => ?_)
            · refine r_aload_n dX8_readSum_55 rfl (zRv_ref _) rfl ?_
              refine r_iload_n dX8_readSum_56 rfl rfl ?_
              refine r_callV MX8_readProduct 1 [_] lvX8_161 (Or.inl ⟨8, by decide, (by first | (simp only [zKS]; first | assumption | exact TBm.k (by assumption)) | assumption | exact TBm.k (by assumption) | exact zk_nself _ _ _ | (simp [zKS, zNS, *]; done)), rfl⟩) (sp_X8_readProduct E sg tb tx sp nm k hF (d - 1) _ r1 _ (by omega) hm1 (by simp at *; omega)) rfl rfl (by first | exact Nat.le_of_ble_eq_true rfl | (simp [zcat_rf, Value.category]; done)) (by omega) (Nat.le_of_eq (Nat.zero_add _)) (Nat.le_of_eq (Nat.zero_add _)) dX8_readSum_57 rfl (fun v_ w_ sg_ hq_ => ?_)
              obtain ⟨rfl, hu2, rfl, hm2⟩ := zqS_some hq_ e3
              refine r_if_neB (r := 65) dX8_readSum_60 (by decide) rfl (fun c_60 => ?_) (fun c_60 => ?_)
              · refine r_aload_n dX8_readSum_65 rfl (zRv_ref _) rfl ?_
                refine r_iload_n dX8_readSum_66 rfl rfl ?_
                refine r_fconst0 dX8_readSum_67 rfl ?_
                refine r_callV MX8_keep 2 [_, _] lvX8_164 (Or.inl ⟨8, by decide, (by first | (simp only [zKS]; first | assumption | exact TBm.k (by assumption)) | assumption | exact TBm.k (by assumption) | exact zk_nself _ _ _ | (simp [zKS, zNS, *]; done)), rfl⟩) (sp_X8_keep E _ sg (d - 1) tb tx sp nm 5 FP.fconst0 r2 _ (by simp at *; omega) hm2) rfl rfl (by first | exact Nat.le_of_ble_eq_true rfl | (simp [zcat_rf, Value.category]; done)) (by omega) (Nat.le_of_eq (Nat.zero_add _)) (Nat.le_of_eq (Nat.zero_add _)) dX8_readSum_68 rfl (fun v_ w_ sg_ hq_ => ?_)
                obtain ⟨rfl, hu3, rfl, hm3⟩ := hq_
                refine r_iinc (ls' := [_, _, _, _]) dX8_readSum_71 (Nat.le_of_ble_eq_true rfl) rfl (zinc1 _) rfl rfl ?_
                refine r_goto (r := 12) dX8_readSum_74 (by decide) ?_
                rw [show 120 - (n + 1) + 1 = 120 - n by omega]
                refine sum_loop E sg tb tx sp nm k hF d hd w0 ss a3 n _ (acc ++ s2 ++ [(5, 0)]) r2 _ (by omega) (((hu.tr hu1).tr hu2).tr hu3) ?_ (by simp at *; omega)
                simpa [show FP.fconst0 = 0 from rfl] using hm3
              · exact absurd c_60 (by decide)
            · exact absurd c_49 (by decide)
    | none =>
      have h1 := pCh_none e1
      dsimp only
      cases e2 : pCh 45 r with
      | some r1 =>
        have h2 := pCh_some e2
        have l1 := pCh_len e2
        dsimp only
        cases e3 : pProd (pFac k) r1 with
        | none =>
          refine r_iload_n dX8_readSum_12 rfl rfl ?_
          refine r_bipush dX8_readSum_13 kb_120 rfl ?_
          refine r_icmp_geN (by omega) (by omega) (r := 77) dX8_readSum_15 (by decide) rfl (fun c_15 => ?_) (fun c_15 => ?_)
          · exact absurd c_15 (by omega)
          · refine r_aload_n dX8_readSum_18 rfl (zRv_ref _) rfl ?_
            refine r_bipush dX8_readSum_19 kb_43 rfl ?_
            refine r_callV MX8_take 1 [_] lvX8_44 (Or.inl ⟨8, by decide, (by first | (simp only [zKS]; first | assumption | exact TBm.k (by assumption)) | assumption | exact TBm.k (by assumption) | exact zk_nself _ _ _ | (simp [zKS, zNS, *]; done)), rfl⟩) (sp_take E _ sg (d - 1) tb tx sp nm 43 (by decide) r _ hm) rfl rfl (by first | exact Nat.le_of_ble_eq_true rfl | (simp [zcat_rf, Value.category]; done)) (by omega) (Nat.le_of_eq (Nat.zero_add _)) (Nat.le_of_eq (Nat.zero_add _)) dX8_readSum_21 rfl (fun v_ w_ sg_ hq_ => ?_)
            obtain ⟨rfl, hu1, rfl, hm1⟩ := hq_
            simp only [h1.1, h1.2] at hm1 ⊢
            refine r_if_eqB (r := 31) dX8_readSum_24 (by decide) rfl (fun c_24 => ?_) (fun c_24 => ?_)
            · refine r_aload_n dX8_readSum_31 rfl (zRv_ref _) rfl ?_
              refine r_bipush dX8_readSum_32 kb_45 rfl ?_
              refine r_callV MX8_take 1 [_] lvX8_44 (Or.inl ⟨8, by decide, (by first | (simp only [zKS]; first | assumption | exact TBm.k (by assumption)) | assumption | exact TBm.k (by assumption) | exact zk_nself _ _ _ | (simp [zKS, zNS, *]; done)), rfl⟩) (sp_take E _ sg (d - 1) tb tx sp nm 45 (by decide) r _ hm1) rfl rfl (by first | exact Nat.le_of_ble_eq_true rfl | (simp [zcat_rf, Value.category]; done)) (by omega) (Nat.le_of_eq (Nat.zero_add _)) (Nat.le_of_eq (Nat.zero_add _)) dX8_readSum_34 rfl (fun v_ w_ sg_ hq_ => ?_)
              obtain ⟨rfl, hu4, rfl, hm4⟩ := hq_
              simp only [h2.1, h2.2] at hm4 ⊢
              refine r_if_eqB (r := 45) dX8_readSum_37 (by decide) rfl (fun c_37 => ?_) (fun c_37 => ?_)
              · exact absurd c_37 (by decide)
              · refine r_bipush dX8_readSum_40 kb_6 rfl ?_
                refine r_goto (r := 46) dX8_readSum_42 (by decide) ?_
                refine r_istore_n (ls' := [_, _, _, _]) dX8_readSum_46 (Nat.le_of_ble_eq_true rfl) rfl rfl ?_
                refine r_iload_n dX8_readSum_47 rfl rfl ?_
                refine r_iconst dX8_readSum_48 kc_m1 rfl ?_
                refine r_icmp_ne (r := 55) dX8_readSum_49 (by decide) rfl (fun c_49 => ?_) (fun c_49 => ?_)
                · refine r_aload_n dX8_readSum_55 rfl (zRv_ref _) rfl ?_
                  refine r_iload_n dX8_readSum_56 rfl rfl ?_
                  refine r_callV MX8_readProduct 1 [_] lvX8_161 (Or.inl ⟨8, by decide, (by first | (simp only [zKS]; first | assumption | exact TBm.k (by assumption)) | assumption | exact TBm.k (by assumption) | exact zk_nself _ _ _ | (simp [zKS, zNS, *]; done)), rfl⟩) (sp_X8_readProduct E sg tb tx sp nm k hF (d - 1) _ r1 _ (by omega) hm4 (by simp at *; omega)) rfl rfl (by first | exact Nat.le_of_ble_eq_true rfl | (simp [zcat_rf, Value.category]; done)) (by omega) (Nat.le_of_eq (Nat.zero_add _)) (Nat.le_of_eq (Nat.zero_add _)) dX8_readSum_57 rfl (fun v_ w_ sg_ hq_ => ?_)
                  obtain ⟨rfl, hu2, rfl, hm2⟩ := zqS_none hq_ e3
                  refine r_if_neB (r := 65) dX8_readSum_60 (by decide) rfl (fun c_60 => ?_) (fun c_60 => ?_)
                  · exact absurd c_60 (by decide)
                  · refine r_iconst dX8_readSum_63 kc_0 rfl ?_
                    refine r_zret .boolean rfl rfl dX8_readSum_64 ?_
                    exact ⟨rfl, ((hu.tr hu1).tr hu4).tr hu2, rfl, hm2⟩
                · exact absurd c_49 (by decide)
            · exact absurd c_24 (by decide)
        | some q =>
          obtain ⟨s2, r2⟩ := q
          have l2 := pProd_thin (pFac_thin k) _ _ _ e3
          dsimp only
          refine r_iload_n dX8_readSum_12 rfl rfl ?_
          refine r_bipush dX8_readSum_13 kb_120 rfl ?_
          refine r_icmp_geN (by omega) (by omega) (r := 77) dX8_readSum_15 (by decide) rfl (fun c_15 => ?_) (fun c_15 => ?_)
          · exact absurd c_15 (by omega)
          · refine r_aload_n dX8_readSum_18 rfl (zRv_ref _) rfl ?_
            refine r_bipush dX8_readSum_19 kb_43 rfl ?_
            refine r_callV MX8_take 1 [_] lvX8_44 (Or.inl ⟨8, by decide, (by first | (simp only [zKS]; first | assumption | exact TBm.k (by assumption)) | assumption | exact TBm.k (by assumption) | exact zk_nself _ _ _ | (simp [zKS, zNS, *]; done)), rfl⟩) (sp_take E _ sg (d - 1) tb tx sp nm 43 (by decide) r _ hm) rfl rfl (by first | exact Nat.le_of_ble_eq_true rfl | (simp [zcat_rf, Value.category]; done)) (by omega) (Nat.le_of_eq (Nat.zero_add _)) (Nat.le_of_eq (Nat.zero_add _)) dX8_readSum_21 rfl (fun v_ w_ sg_ hq_ => ?_)
            obtain ⟨rfl, hu1, rfl, hm1⟩ := hq_
            simp only [h1.1, h1.2] at hm1 ⊢
            refine r_if_eqB (r := 31) dX8_readSum_24 (by decide) rfl (fun c_24 => ?_) (fun c_24 => ?_)
            · refine r_aload_n dX8_readSum_31 rfl (zRv_ref _) rfl ?_
              refine r_bipush dX8_readSum_32 kb_45 rfl ?_
              refine r_callV MX8_take 1 [_] lvX8_44 (Or.inl ⟨8, by decide, (by first | (simp only [zKS]; first | assumption | exact TBm.k (by assumption)) | assumption | exact TBm.k (by assumption) | exact zk_nself _ _ _ | (simp [zKS, zNS, *]; done)), rfl⟩) (sp_take E _ sg (d - 1) tb tx sp nm 45 (by decide) r _ hm1) rfl rfl (by first | exact Nat.le_of_ble_eq_true rfl | (simp [zcat_rf, Value.category]; done)) (by omega) (Nat.le_of_eq (Nat.zero_add _)) (Nat.le_of_eq (Nat.zero_add _)) dX8_readSum_34 rfl (fun v_ w_ sg_ hq_ => ?_)
              obtain ⟨rfl, hu4, rfl, hm4⟩ := hq_
              simp only [h2.1, h2.2] at hm4 ⊢
              refine r_if_eqB (r := 45) dX8_readSum_37 (by decide) rfl (fun c_37 => ?_) (fun c_37 => ?_)
              · exact absurd c_37 (by decide)
              · refine r_bipush dX8_readSum_40 kb_6 rfl ?_
                refine r_goto (r := 46) dX8_readSum_42 (by decide) ?_
                refine r_istore_n (ls' := [_, _, _, _]) dX8_readSum_46 (Nat.le_of_ble_eq_true rfl) rfl rfl ?_
                refine r_iload_n dX8_readSum_47 rfl rfl ?_
                refine r_iconst dX8_readSum_48 kc_m1 rfl ?_
                refine r_icmp_ne (r := 55) dX8_readSum_49 (by decide) rfl (fun c_49 => ?_) (fun c_49 => ?_)
                · refine r_aload_n dX8_readSum_55 rfl (zRv_ref _) rfl ?_
                  refine r_iload_n dX8_readSum_56 rfl rfl ?_
                  refine r_callV MX8_readProduct 1 [_] lvX8_161 (Or.inl ⟨8, by decide, (by first | (simp only [zKS]; first | assumption | exact TBm.k (by assumption)) | assumption | exact TBm.k (by assumption) | exact zk_nself _ _ _ | (simp [zKS, zNS, *]; done)), rfl⟩) (sp_X8_readProduct E sg tb tx sp nm k hF (d - 1) _ r1 _ (by omega) hm4 (by simp at *; omega)) rfl rfl (by first | exact Nat.le_of_ble_eq_true rfl | (simp [zcat_rf, Value.category]; done)) (by omega) (Nat.le_of_eq (Nat.zero_add _)) (Nat.le_of_eq (Nat.zero_add _)) dX8_readSum_57 rfl (fun v_ w_ sg_ hq_ => ?_)
                  obtain ⟨rfl, hu2, rfl, hm2⟩ := zqS_some hq_ e3
                  refine r_if_neB (r := 65) dX8_readSum_60 (by decide) rfl (fun c_60 => ?_) (fun c_60 => ?_)
                  · refine r_aload_n dX8_readSum_65 rfl (zRv_ref _) rfl ?_
                    refine r_iload_n dX8_readSum_66 rfl rfl ?_
                    refine r_fconst0 dX8_readSum_67 rfl ?_
                    refine r_callV MX8_keep 2 [_, _] lvX8_164 (Or.inl ⟨8, by decide, (by first | (simp only [zKS]; first | assumption | exact TBm.k (by assumption)) | assumption | exact TBm.k (by assumption) | exact zk_nself _ _ _ | (simp [zKS, zNS, *]; done)), rfl⟩) (sp_X8_keep E _ sg (d - 1) tb tx sp nm 6 FP.fconst0 r2 _ (by simp at *; omega) hm2) rfl rfl (by first | exact Nat.le_of_ble_eq_true rfl | (simp [zcat_rf, Value.category]; done)) (by omega) (Nat.le_of_eq (Nat.zero_add _)) (Nat.le_of_eq (Nat.zero_add _)) dX8_readSum_68 rfl (fun v_ w_ sg_ hq_ => ?_)
                    obtain ⟨rfl, hu3, rfl, hm3⟩ := hq_
                    refine r_iinc (ls' := [_, _, _, _]) dX8_readSum_71 (Nat.le_of_ble_eq_true rfl) rfl (zinc1 _) rfl rfl ?_
                    refine r_goto (r := 12) dX8_readSum_74 (by decide) ?_
                    rw [show 120 - (n + 1) + 1 = 120 - n by omega]
                    refine sum_loop E sg tb tx sp nm k hF d hd w0 ss a3 n _ (acc ++ s2 ++ [(6, 0)]) r2 _ (by omega) ((((hu.tr hu1).tr hu4).tr hu2).tr hu3) ?_ (by simp at *; omega)
                    simpa [show FP.fconst0 = 0 from rfl] using hm3
                  · exact absurd c_60 (by decide)
                · exact absurd c_49 (by decide)
            · exact absurd c_24 (by decide)
      | none =>
        have h2 := pCh_none e2
        refine r_iload_n dX8_readSum_12 rfl rfl ?_
        refine r_bipush dX8_readSum_13 kb_120 rfl ?_
        refine r_icmp_geN (by omega) (by omega) (r := 77) dX8_readSum_15 (by decide) rfl (fun c_15 => ?_) (fun c_15 => ?_)
        · exact absurd c_15 (by omega)
        · refine r_aload_n dX8_readSum_18 rfl (zRv_ref _) rfl ?_
          refine r_bipush dX8_readSum_19 kb_43 rfl ?_
          refine r_callV MX8_take 1 [_] lvX8_44 (Or.inl ⟨8, by decide, (by first | (simp only [zKS]; first | assumption | exact TBm.k (by assumption)) | assumption | exact TBm.k (by assumption) | exact zk_nself _ _ _ | (simp [zKS, zNS, *]; done)), rfl⟩) (sp_take E _ sg (d - 1) tb tx sp nm 43 (by decide) r _ hm) rfl rfl (by first | exact Nat.le_of_ble_eq_true rfl | (simp [zcat_rf, Value.category]; done)) (by omega) (Nat.le_of_eq (Nat.zero_add _)) (Nat.le_of_eq (Nat.zero_add _)) dX8_readSum_21 rfl (fun v_ w_ sg_ hq_ => ?_)
          obtain ⟨rfl, hu1, rfl, hm1⟩ := hq_
          simp only [h1.1, h1.2] at hm1 ⊢
          refine r_if_eqB (r := 31) dX8_readSum_24 (by decide) rfl (fun c_24 => ?_) (fun c_24 => ?_)
          · refine r_aload_n dX8_readSum_31 rfl (zRv_ref _) rfl ?_
            refine r_bipush dX8_readSum_32 kb_45 rfl ?_
            refine r_callV MX8_take 1 [_] lvX8_44 (Or.inl ⟨8, by decide, (by first | (simp only [zKS]; first | assumption | exact TBm.k (by assumption)) | assumption | exact TBm.k (by assumption) | exact zk_nself _ _ _ | (simp [zKS, zNS, *]; done)), rfl⟩) (sp_take E _ sg (d - 1) tb tx sp nm 45 (by decide) r _ hm1) rfl rfl (by first | exact Nat.le_of_ble_eq_true rfl | (simp [zcat_rf, Value.category]; done)) (by omega) (Nat.le_of_eq (Nat.zero_add _)) (Nat.le_of_eq (Nat.zero_add _)) dX8_readSum_34 rfl (fun v_ w_ sg_ hq_ => ?_)
            obtain ⟨rfl, hu4, rfl, hm4⟩ := hq_
            simp only [h2.1, h2.2] at hm4 ⊢
            refine r_if_eqB (r := 45) dX8_readSum_37 (by decide) rfl (fun c_37 => ?_) (fun c_37 => ?_)
            · refine r_iconst dX8_readSum_45 kc_m1 rfl ?_
              refine r_istore_n (ls' := [_, _, _, _]) dX8_readSum_46 (Nat.le_of_ble_eq_true rfl) rfl rfl ?_
              refine r_iload_n dX8_readSum_47 rfl rfl ?_
              refine r_iconst dX8_readSum_48 kc_m1 rfl ?_
              refine r_icmp_ne (r := 55) dX8_readSum_49 (by decide) rfl (fun c_49 => ?_) (fun c_49 => ?_)
              · exact absurd rfl c_49
              · refine r_goto (r := 77) dX8_readSum_52 (by decide) ?_
                refine r_iconst dX8_readSum_77 kc_1 rfl ?_
                refine r_zret .boolean rfl rfl dX8_readSum_78 ?_
                exact ⟨rfl, (hu.tr hu1).tr hu4, rfl, hm4⟩
            · exact absurd c_37 (by decide)
          · exact absurd c_24 (by decide)
theorem sp_X8_readSum (E : ZE) (sg : ZM) (tb tx sp nm k : Nat) (hF : CFac E sg tb tx sp nm k) (d : Nat) (w : ZW) (r : List Nat) (ss : List PStep) (hd : 3 * k + 6 ≤ d) (hm : TBm w tb tx sp nm r ss) (hb : ss.length + r.length ≤ 120) : CallQ E MX8_readSum [.ref tb, .int (nI (7 - k))] w sg d 0 0 (zqS tb tx sp nm w sg ss (pSum (pFac k) r)) := by
  refine CallQ.of rfl (by simp [Value.category]) (Nat.le_of_ble_eq_true rfl) ?_
  unfold pSum
  cases e1 : pProd (pFac k) r with
  | none =>
    refine r_aload_n dX8_readSum_0 rfl (zRv_ref _) rfl ?_
    refine r_iload_n dX8_readSum_1 rfl rfl ?_
    refine r_callV MX8_readProduct 1 [_] lvX8_161 (Or.inl ⟨8, by decide, (by first | (simp only [zKS]; first | assumption | exact TBm.k (by assumption)) | assumption | exact TBm.k (by assumption) | exact zk_nself _ _ _ | (simp [zKS, zNS, *]; done)), rfl⟩) (sp_X8_readProduct E sg tb tx sp nm k hF (d - 1) _ r _ (by omega) hm hb) rfl rfl (by first | exact Nat.le_of_ble_eq_true rfl | (simp [zcat_rf, Value.category]; done)) (by omega) (Nat.le_of_eq (Nat.zero_add _)) (Nat.le_of_eq (Nat.zero_add _)) dX8_readSum_2 rfl (fun v_ w_ sg_ hq_ => ?_)
    obtain ⟨rfl, hu2, rfl, hm2⟩ := zqS_none hq_ e1
    refine r_if_neB (r := 10) dX8_readSum_5 (by decide) rfl (fun c_5 => ?_) (fun c_5 => ?_)
    · exact absurd c_5 (by decide)
    · refine r_iconst dX8_readSum_8 kc_0 rfl ?_
      refine r_zret .boolean rfl rfl dX8_readSum_9 ?_
      exact ⟨rfl, hu2, rfl, hm2⟩
  | some q =>
    obtain ⟨s, r1⟩ := q
    have l2 := pProd_thin (pFac_thin k) _ _ _ e1
    dsimp only
    refine r_aload_n dX8_readSum_0 rfl (zRv_ref _) rfl ?_
    refine r_iload_n dX8_readSum_1 rfl rfl ?_
    refine r_callV MX8_readProduct 1 [_] lvX8_161 (Or.inl ⟨8, by decide, (by first | (simp only [zKS]; first | assumption | exact TBm.k (by assumption)) | assumption | exact TBm.k (by assumption) | exact zk_nself _ _ _ | (simp [zKS, zNS, *]; done)), rfl⟩) (sp_X8_readProduct E sg tb tx sp nm k hF (d - 1) _ r _ (by omega) hm hb) rfl rfl (by first | exact Nat.le_of_ble_eq_true rfl | (simp [zcat_rf, Value.category]; done)) (by omega) (Nat.le_of_eq (Nat.zero_add _)) (Nat.le_of_eq (Nat.zero_add _)) dX8_readSum_2 rfl (fun v_ w_ sg_ hq_ => ?_)
    obtain ⟨rfl, hu2, rfl, hm2⟩ := zqS_some hq_ e1
    refine r_if_neB (r := 10) dX8_readSum_5 (by decide) rfl (fun c_5 => ?_) (fun c_5 => ?_)
    · refine r_iconst dX8_readSum_10 kc_0 rfl ?_
      refine r_istore_n (ls' := [_, _, _, _]) dX8_readSum_11 (Nat.le_of_ble_eq_true rfl) rfl rfl ?_
      exact sum_loop E sg tb tx sp nm k hF d hd w ss none 120 _ s r1 _ (by omega) hu2 hm2 (by simp at *; omega)
    · exact absurd c_5 (by decide)
