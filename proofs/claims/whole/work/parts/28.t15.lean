theorem sp_part2 (E : ZE) (sg : ZM) (d : Nat) (hd : 4 ≤ d) (tb tx sp nm cp t : Nat) (w : ZW) (c : Nat) (r : List Nat) (ps : List PPart) (es : List PBare) (hps : isPS c = true) (hl : TBl cp tb tx sp nm) (hc : isComp w cp (zsz w) cp (t, ps, es)) (hn : TBn w tb tx sp nm (c :: r)) (hx : ∀ (w1 : ZW) (r1 : List Nat), isComp w1 cp (zsz w1) cp (t, ps, es) → TBn w1 tb tx sp nm r1 → CallQ E MX8_readExclusion [.ref tb, .ref cp] w1 sg (d - 1) 5 22 (zqQ tb tx sp nm w1 sg cp t (match pExcl r1 with | none => none | some (b, r2) => some (ps, b :: es, r2)))) : CallQ E MX8_readPart [.ref tb, .ref cp, .int (zb false)] w sg d 5 22 (zqQ tb tx sp nm w sg cp t (pPart (some pExcl) c r ps es)) := by
  obtain ⟨hb0, ss, hm⟩ := hn
  have hcs := hm.cs
  have hk := hc.2.2.1
  refine CallQ.of rfl (by simp [Value.category]) (Nat.le_of_ble_eq_true rfl) ?_
  have hps2 : c = 35 ∨ c = 46 ∨ c = 58 := by simpa [isPS] using hps
  have hcs0 : ∀ x ∈ ([] : List Nat), x < 128 := fun x h => absurd h List.not_mem_nil
  cases r with
  | nil =>
    have e0 : pPart (some pExcl) c [] ps es = none := by simp [pPart, pSimple]
    rw [e0]
    rcases hps2 with rfl | rfl | rfl
    · skip
      refine r_aload_n dX8_readPart_0 rfl (zRv_ref _) rfl ?_
      refine r_callV MX8_next 0 [] lvX8_71 (Or.inl ⟨8, by decide, (by first | (simp only [zKS]; first | assumption | exact TBm.k (by assumption)) | assumption | exact TBm.k (by assumption) | exact zk_nself _ _ _ | (simp [zKS, zNS, *]; done)), rfl⟩) (sp_next E _ sg (d - 1) tb tx sp nm _ _ hm) rfl rfl (by first | exact Nat.le_of_ble_eq_true rfl | (simp [zcat_rf, Value.category]; done)) (by omega) (Nat.le_of_eq (Nat.zero_add _)) (Nat.le_of_eq (Nat.zero_add _)) dX8_readPart_1 rfl (fun v_ w_ sg_ hq_ => ?_)
      obtain ⟨rfl, hu1, rfl, hm1⟩ := hq_
      simp only [hd0, List.tail_cons] at hm1 ⊢
      refine r_istore_n (ls' := [_, _, _, _, _, _, _]) dX8_readPart_4 (Nat.le_of_ble_eq_true rfl) rfl rfl ?_
      refine r_aload_n dX8_readPart_5 rfl (zRv_ref _) rfl ?_
      refine r_callV MX8_next 0 [] lvX8_71 (Or.inl ⟨8, by decide, (by first | (simp only [zKS]; first | assumption | exact TBm.k (by assumption)) | assumption | exact TBm.k (by assumption) | exact zk_nself _ _ _ | (simp [zKS, zNS, *]; done)), rfl⟩) (sp_next E _ sg (d - 1) tb tx sp nm [] _ hm1) rfl rfl (by first | exact Nat.le_of_ble_eq_true rfl | (simp [zcat_rf, Value.category]; done)) (by omega) (Nat.le_of_eq (Nat.zero_add _)) (Nat.le_of_eq (Nat.zero_add _)) dX8_readPart_6 rfl (fun v_ w_ sg_ hq_ => ?_)
      obtain ⟨rfl, hu2, rfl, hm2⟩ := hq_
      simp only [hd0, List.tail_cons, List.tail_nil] at hm2 ⊢
      refine r_istore (ls' := [_, _, _, _, _, _, _]) dX8_readPart_9 (Nat.le_of_ble_eq_true rfl) rfl rfl ?_
      refine r_aconst_null dX8_readPart_11 rfl ?_
      refine r_astore (ls' := [_, _, _, _, _, _, _]) dX8_readPart_12 (Nat.le_of_ble_eq_true rfl) (zRv_null) rfl rfl ?_
      refine r_iload_n dX8_readPart_14 rfl rfl ?_
      refine r_bipush dX8_readPart_15 kb_35 rfl ?_
      refine r_icmp_neN (by omega) (by omega) (r := 48) dX8_readPart_17 (by decide) rfl (fun c_17 => ?_) (fun c_17 => ?_)
      · exact absurd rfl c_17
      · refine r_iload dX8_readPart_20 rfl rfl ?_
        refine r_callN MX9_isLetter 1 "StyleDesk" [_] (fun s h9 => h9.2.2.1) lwX8_82 zy_X9_isLetter (Nat.le_of_ble_eq_true rfl) (sp_isLetter E _ sg (d - 1) [] hcs0) rfl rfl (by first | exact Nat.le_of_ble_eq_true rfl | (simp [zcat_rf, Value.category]; done)) (by omega) (Nat.le_of_eq (Nat.zero_add _)) (Nat.le_of_eq (Nat.zero_add _)) dX8_readPart_22 rfl (fun v_ w_ sg_ hq_ => ?_)
        obtain ⟨rfl, rfl, rfl⟩ := hq_
        refine r_if_eqB (r := 42) dX8_readPart_25 (by decide) rfl (fun c_25 => ?_) (fun c_25 => ?_)
        · refine r_aconst_null dX8_readPart_42 rfl ?_
          refine r_astore (ls' := [_, _, _, _, _, _, _]) dX8_readPart_43 (Nat.le_of_ble_eq_true rfl) (zRv_null) rfl rfl ?_
          refine r_goto (r := 182) dX8_readPart_45 (by decide) ?_
          refine r_aload dX8_readPart_182 rfl (zRv_null) rfl ?_
          refine r_ifnullZ (r := 193) dX8_readPart_184 (by decide) rfl (fun c_184 => ?_) (fun a_184 c_184 => ?_)
          · refine r_aload dX8_readPart_193 rfl (zRv_null) rfl ?_
            refine r_ifnullZ (r := 202) dX8_readPart_195 (by decide) rfl (fun c_195 => ?_) (fun a_195 c_195 => ?_)
            · refine r_iconst dX8_readPart_202 kc_0 rfl ?_
              refine r_zret .boolean rfl rfl dX8_readPart_203 ?_
              exact ⟨rfl, (hu1.tr hu2).v, rfl, (hu1.tr hu2).b hb0, hm2.x⟩
            · exact absurd c_195 (by simp)
          · exact absurd c_184 (by simp)
        · exact absurd c_25 (by decide)
    · skip
      refine r_aload_n dX8_readPart_0 rfl (zRv_ref _) rfl ?_
      refine r_callV MX8_next 0 [] lvX8_71 (Or.inl ⟨8, by decide, (by first | (simp only [zKS]; first | assumption | exact TBm.k (by assumption)) | assumption | exact TBm.k (by assumption) | exact zk_nself _ _ _ | (simp [zKS, zNS, *]; done)), rfl⟩) (sp_next E _ sg (d - 1) tb tx sp nm _ _ hm) rfl rfl (by first | exact Nat.le_of_ble_eq_true rfl | (simp [zcat_rf, Value.category]; done)) (by omega) (Nat.le_of_eq (Nat.zero_add _)) (Nat.le_of_eq (Nat.zero_add _)) dX8_readPart_1 rfl (fun v_ w_ sg_ hq_ => ?_)
      obtain ⟨rfl, hu1, rfl, hm1⟩ := hq_
      simp only [hd0, List.tail_cons] at hm1 ⊢
      refine r_istore_n (ls' := [_, _, _, _, _, _, _]) dX8_readPart_4 (Nat.le_of_ble_eq_true rfl) rfl rfl ?_
      refine r_aload_n dX8_readPart_5 rfl (zRv_ref _) rfl ?_
      refine r_callV MX8_next 0 [] lvX8_71 (Or.inl ⟨8, by decide, (by first | (simp only [zKS]; first | assumption | exact TBm.k (by assumption)) | assumption | exact TBm.k (by assumption) | exact zk_nself _ _ _ | (simp [zKS, zNS, *]; done)), rfl⟩) (sp_next E _ sg (d - 1) tb tx sp nm [] _ hm1) rfl rfl (by first | exact Nat.le_of_ble_eq_true rfl | (simp [zcat_rf, Value.category]; done)) (by omega) (Nat.le_of_eq (Nat.zero_add _)) (Nat.le_of_eq (Nat.zero_add _)) dX8_readPart_6 rfl (fun v_ w_ sg_ hq_ => ?_)
      obtain ⟨rfl, hu2, rfl, hm2⟩ := hq_
      simp only [hd0, List.tail_cons, List.tail_nil] at hm2 ⊢
      refine r_istore (ls' := [_, _, _, _, _, _, _]) dX8_readPart_9 (Nat.le_of_ble_eq_true rfl) rfl rfl ?_
      refine r_aconst_null dX8_readPart_11 rfl ?_
      refine r_astore (ls' := [_, _, _, _, _, _, _]) dX8_readPart_12 (Nat.le_of_ble_eq_true rfl) (zRv_null) rfl rfl ?_
      refine r_iload_n dX8_readPart_14 rfl rfl ?_
      refine r_bipush dX8_readPart_15 kb_35 rfl ?_
      refine r_icmp_neN (by omega) (by omega) (r := 48) dX8_readPart_17 (by decide) rfl (fun c_17 => ?_) (fun c_17 => ?_)
      · refine r_iload_n dX8_readPart_48 rfl rfl ?_
        refine r_bipush dX8_readPart_49 kb_46 rfl ?_
        refine r_icmp_neN (by omega) (by omega) (r := 105) dX8_readPart_51 (by decide) rfl (fun c_51 => ?_) (fun c_51 => ?_)
        · exact absurd rfl c_51
        · refine r_iload dX8_readPart_54 rfl rfl ?_
          refine r_bipush dX8_readPart_56 kb_97 rfl ?_
          refine r_icmp_lt (r := 72) dX8_readPart_58 (by decide) rfl (fun c_58 => ?_) (fun c_58 => ?_)
          · refine r_iconst dX8_readPart_72 kc_0 rfl ?_
            refine r_istore (ls' := [_, _, _, _, _, _, _]) dX8_readPart_73 (Nat.le_of_ble_eq_true rfl) rfl rfl ?_
            refine r_iload dX8_readPart_75 rfl rfl ?_
            refine r_if_eqN (by omega) (r := 99) dX8_readPart_77 (by decide) rfl (fun c_77 => ?_) (fun c_77 => ?_)
            · refine r_aconst_null dX8_readPart_99 rfl ?_
              refine r_astore (ls' := [_, _, _, _, _, _, _]) dX8_readPart_100 (Nat.le_of_ble_eq_true rfl) (zRv_null) rfl rfl ?_
              refine r_goto (r := 182) dX8_readPart_102 (by decide) ?_
              refine r_aload dX8_readPart_182 rfl (zRv_null) rfl ?_
              refine r_ifnullZ (r := 193) dX8_readPart_184 (by decide) rfl (fun c_184 => ?_) (fun a_184 c_184 => ?_)
              · refine r_aload dX8_readPart_193 rfl (zRv_null) rfl ?_
                refine r_ifnullZ (r := 202) dX8_readPart_195 (by decide) rfl (fun c_195 => ?_) (fun a_195 c_195 => ?_)
                · refine r_iconst dX8_readPart_202 kc_0 rfl ?_
                  refine r_zret .boolean rfl rfl dX8_readPart_203 ?_
                  exact ⟨rfl, (hu1.tr hu2).v, rfl, (hu1.tr hu2).b hb0, hm2.x⟩
                · exact absurd c_195 (by simp)
              · exact absurd c_184 (by simp)
            · exact absurd rfl c_77
          · exact absurd (show (-1 : Int32) < nI 97 by decide) c_58
      · exact absurd c_17 (by decide)
    · skip
      refine r_aload_n dX8_readPart_0 rfl (zRv_ref _) rfl ?_
      refine r_callV MX8_next 0 [] lvX8_71 (Or.inl ⟨8, by decide, (by first | (simp only [zKS]; first | assumption | exact TBm.k (by assumption)) | assumption | exact TBm.k (by assumption) | exact zk_nself _ _ _ | (simp [zKS, zNS, *]; done)), rfl⟩) (sp_next E _ sg (d - 1) tb tx sp nm _ _ hm) rfl rfl (by first | exact Nat.le_of_ble_eq_true rfl | (simp [zcat_rf, Value.category]; done)) (by omega) (Nat.le_of_eq (Nat.zero_add _)) (Nat.le_of_eq (Nat.zero_add _)) dX8_readPart_1 rfl (fun v_ w_ sg_ hq_ => ?_)
      obtain ⟨rfl, hu1, rfl, hm1⟩ := hq_
      simp only [hd0, List.tail_cons] at hm1 ⊢
      refine r_istore_n (ls' := [_, _, _, _, _, _, _]) dX8_readPart_4 (Nat.le_of_ble_eq_true rfl) rfl rfl ?_
      refine r_aload_n dX8_readPart_5 rfl (zRv_ref _) rfl ?_
      refine r_callV MX8_next 0 [] lvX8_71 (Or.inl ⟨8, by decide, (by first | (simp only [zKS]; first | assumption | exact TBm.k (by assumption)) | assumption | exact TBm.k (by assumption) | exact zk_nself _ _ _ | (simp [zKS, zNS, *]; done)), rfl⟩) (sp_next E _ sg (d - 1) tb tx sp nm [] _ hm1) rfl rfl (by first | exact Nat.le_of_ble_eq_true rfl | (simp [zcat_rf, Value.category]; done)) (by omega) (Nat.le_of_eq (Nat.zero_add _)) (Nat.le_of_eq (Nat.zero_add _)) dX8_readPart_6 rfl (fun v_ w_ sg_ hq_ => ?_)
      obtain ⟨rfl, hu2, rfl, hm2⟩ := hq_
      simp only [hd0, List.tail_cons, List.tail_nil] at hm2 ⊢
      refine r_istore (ls' := [_, _, _, _, _, _, _]) dX8_readPart_9 (Nat.le_of_ble_eq_true rfl) rfl rfl ?_
      refine r_aconst_null dX8_readPart_11 rfl ?_
      refine r_astore (ls' := [_, _, _, _, _, _, _]) dX8_readPart_12 (Nat.le_of_ble_eq_true rfl) (zRv_null) rfl rfl ?_
      refine r_iload_n dX8_readPart_14 rfl rfl ?_
      refine r_bipush dX8_readPart_15 kb_35 rfl ?_
      refine r_icmp_neN (by omega) (by omega) (r := 48) dX8_readPart_17 (by decide) rfl (fun c_17 => ?_) (fun c_17 => ?_)
      · refine r_iload_n dX8_readPart_48 rfl rfl ?_
        refine r_bipush dX8_readPart_49 kb_46 rfl ?_
        refine r_icmp_neN (by omega) (by omega) (r := 105) dX8_readPart_51 (by decide) rfl (fun c_51 => ?_) (fun c_51 => ?_)
        · refine r_iload dX8_readPart_105 rfl rfl ?_
          refine r_bipush dX8_readPart_107 kb_102 rfl ?_
          refine r_icmp_ne (r := 127) dX8_readPart_109 (by decide) rfl (fun c_109 => ?_) (fun c_109 => ?_)
          · refine r_iload dX8_readPart_127 rfl rfl ?_
            refine r_bipush dX8_readPart_129 kb_108 rfl ?_
            refine r_icmp_ne (r := 149) dX8_readPart_131 (by decide) rfl (fun c_131 => ?_) (fun c_131 => ?_)
            · refine r_iload dX8_readPart_149 rfl rfl ?_
              refine r_bipush dX8_readPart_151 kb_110 rfl ?_
              refine r_icmp_ne (r := 165) dX8_readPart_153 (by decide) rfl (fun c_153 => ?_) (fun c_153 => ?_)
              · refine r_iload dX8_readPart_165 rfl rfl ?_
                refine r_bipush dX8_readPart_167 kb_120 rfl ?_
                refine r_icmp_ne (r := 182) dX8_readPart_169 (by decide) rfl (fun c_169 => ?_) (fun c_169 => ?_)
                · refine r_aload dX8_readPart_182 rfl (zRv_null) rfl ?_
                  refine r_ifnullZ (r := 193) dX8_readPart_184 (by decide) rfl (fun c_184 => ?_) (fun a_184 c_184 => ?_)
                  · refine r_aload dX8_readPart_193 rfl (zRv_null) rfl ?_
                    refine r_ifnullZ (r := 202) dX8_readPart_195 (by decide) rfl (fun c_195 => ?_) (fun a_195 c_195 => ?_)
                    · refine r_iconst dX8_readPart_202 kc_0 rfl ?_
                      refine r_zret .boolean rfl rfl dX8_readPart_203 ?_
                      exact ⟨rfl, (hu1.tr hu2).v, rfl, (hu1.tr hu2).b hb0, hm2.x⟩
                    · exact absurd c_195 (by simp)
                  · exact absurd c_184 (by simp)
                · exact absurd c_169 (by decide)
              · exact absurd c_153 (by decide)
            · exact absurd c_131 (by decide)
          · exact absurd c_109 (by decide)
        · exact absurd c_51 (by decide)
      · exact absurd c_17 (by decide)
  | cons l r1 =>
    have hl128 : l < 128 := hcs l (List.mem_cons_of_mem _ List.mem_cons_self)
    have hcs2 : ∀ c ∈ l :: r1, c < 128 := fun c h => hcs c (List.mem_cons_of_mem _ h)
    rcases hps2 with rfl | rfl | rfl
    · by_cases hL : 97 ≤ l ∧ l ≤ 122
      · have e0 : pPart (some pExcl) 35 (l :: r1) ps es = some ((0, nI l, nI 0) :: ps, es, r1) := by simp [pPart, pSimple, hL]
        rw [e0]
        refine r_aload_n dX8_readPart_0 rfl (zRv_ref _) rfl ?_
        refine r_callV MX8_next 0 [] lvX8_71 (Or.inl ⟨8, by decide, (by first | (simp only [zKS]; first | assumption | exact TBm.k (by assumption)) | assumption | exact TBm.k (by assumption) | exact zk_nself _ _ _ | (simp [zKS, zNS, *]; done)), rfl⟩) (sp_next E _ sg (d - 1) tb tx sp nm _ _ hm) rfl rfl (by first | exact Nat.le_of_ble_eq_true rfl | (simp [zcat_rf, Value.category]; done)) (by omega) (Nat.le_of_eq (Nat.zero_add _)) (Nat.le_of_eq (Nat.zero_add _)) dX8_readPart_1 rfl (fun v_ w_ sg_ hq_ => ?_)
        obtain ⟨rfl, hu1, rfl, hm1⟩ := hq_
        simp only [hd0, List.tail_cons] at hm1 ⊢
        refine r_istore_n (ls' := [_, _, _, _, _, _, _]) dX8_readPart_4 (Nat.le_of_ble_eq_true rfl) rfl rfl ?_
        refine r_aload_n dX8_readPart_5 rfl (zRv_ref _) rfl ?_
        refine r_callV MX8_next 0 [] lvX8_71 (Or.inl ⟨8, by decide, (by first | (simp only [zKS]; first | assumption | exact TBm.k (by assumption)) | assumption | exact TBm.k (by assumption) | exact zk_nself _ _ _ | (simp [zKS, zNS, *]; done)), rfl⟩) (sp_next E _ sg (d - 1) tb tx sp nm (l :: r1) _ hm1) rfl rfl (by first | exact Nat.le_of_ble_eq_true rfl | (simp [zcat_rf, Value.category]; done)) (by omega) (Nat.le_of_eq (Nat.zero_add _)) (Nat.le_of_eq (Nat.zero_add _)) dX8_readPart_6 rfl (fun v_ w_ sg_ hq_ => ?_)
        obtain ⟨rfl, hu2, rfl, hm2⟩ := hq_
        simp only [hd0, List.tail_cons, List.tail_nil] at hm2 ⊢
        refine r_istore (ls' := [_, _, _, _, _, _, _]) dX8_readPart_9 (Nat.le_of_ble_eq_true rfl) rfl rfl ?_
        refine r_aconst_null dX8_readPart_11 rfl ?_
        refine r_astore (ls' := [_, _, _, _, _, _, _]) dX8_readPart_12 (Nat.le_of_ble_eq_true rfl) (zRv_null) rfl rfl ?_
        refine r_iload_n dX8_readPart_14 rfl rfl ?_
        refine r_bipush dX8_readPart_15 kb_35 rfl ?_
        refine r_icmp_neN (by omega) (by omega) (r := 48) dX8_readPart_17 (by decide) rfl (fun c_17 => ?_) (fun c_17 => ?_)
        · exact absurd rfl c_17
        · refine r_iload dX8_readPart_20 rfl rfl ?_
          refine r_callN MX9_isLetter 1 "StyleDesk" [_] (fun s h9 => h9.2.2.1) lwX8_82 zy_X9_isLetter (Nat.le_of_ble_eq_true rfl) (sp_isLetter E _ sg (d - 1) (l :: r1) hcs2) rfl rfl (by first | exact Nat.le_of_ble_eq_true rfl | (simp [zcat_rf, Value.category]; done)) (by omega) (Nat.le_of_eq (Nat.zero_add _)) (Nat.le_of_eq (Nat.zero_add _)) dX8_readPart_22 rfl (fun v_ w_ sg_ hq_ => ?_)
          obtain ⟨rfl, rfl, rfl⟩ := hq_
          refine r_if_eqB (r := 42) dX8_readPart_25 (by decide) rfl (fun c_25 => ?_) (fun c_25 => ?_)
          · exact absurd c_25 (by simp [isL, hL])
          · refine r_new (nc' := 4) (ns' := 18) 3 lnX8_95 (by decide) (by decide) dX8_readPart_28 rfl ?_
            refine r_dup dX8_readPart_31 (by first | rfl | exact zcat_rf _) rfl ?_
            refine r_iconst dX8_readPart_32 kc_0 rfl ?_
            refine r_iload dX8_readPart_33 rfl rfl ?_
            refine r_iconst dX8_readPart_35 kc_0 rfl ?_
            refine r_callI MX3_init 3 [_, _, _] liX8_97 (sp_X3_init E _ sg (d - 1) (by omega) _ _ _ _ (zk_nself _ _ _)) rfl rfl (by first | exact Nat.le_of_ble_eq_true rfl | (simp [zcat_rf, Value.category]; done)) (by omega) (Nat.le_of_eq (Nat.zero_add _)) (Nat.le_of_eq (Nat.zero_add _)) dX8_readPart_36 rfl (fun v_ w_ sg_ hq_ => ?_)
            obtain ⟨rfl, rfl, rfl⟩ := hq_
            refine r_goto (r := 43) dX8_readPart_39 (by decide) ?_
            refine r_astore (ls' := [_, _, _, _, _, _, _]) dX8_readPart_43 (Nat.le_of_ble_eq_true rfl) (zRv_ref _) rfl rfl ?_
            refine r_goto (r := 182) dX8_readPart_45 (by decide) ?_
            refine r_aload dX8_readPart_182 rfl (zRv_ref _) rfl ?_
            refine r_ifnullR (r := 193) dX8_readPart_184 (by decide) rfl (fun c_184 => ?_) (fun a_184 c_184 => ?_)
            · exact absurd c_184 (by simp)
            · refine r_aload_n dX8_readPart_187 rfl (by first | exact zRv_ref _ | exact zRv_null | exact zRv_rf _ | assumption) rfl ?_
              refine r_aload dX8_readPart_188 rfl (zRv_ref _) rfl ?_
              have hc2 := hc.u (hu1.tr hu2) hl
              obtain ⟨f1, f2, f3, f4⟩ := partFacts (tb := tb) (tx := tx) (sp := sp) (nm := nm) (k := 0) (y := nI l) (z := nI 0) hc2
              refine r_callV MX0_add 1 [_] lvX8_108 (Or.inl ⟨0, by decide, (by first | (simp only [zKS]; first | assumption | exact TBm.k (by assumption)) | assumption | exact TBm.k (by assumption) | exact zk_nself _ _ _ | (simp [zKS, zNS, *]; done)), rfl⟩) (sp_X0_add E _ sg (d - 1) cp _ 0 _ f1 f2 f3 (by decide) f4) rfl rfl (by first | exact Nat.le_of_ble_eq_true rfl | (simp [zcat_rf, Value.category]; done)) (by omega) (Nat.le_of_eq (Nat.zero_add _)) (Nat.le_of_eq (Nat.zero_add _)) dX8_readPart_190 rfl (fun v_ w_ sg_ hq_ => ?_)
              obtain ⟨rfl, rfl, rfl⟩ := hq_
              refine r_aload dX8_readPart_193 rfl (zRv_ref _) rfl ?_
              refine r_ifnullR (r := 202) dX8_readPart_195 (by decide) rfl (fun c_195 => ?_) (fun a_195 c_195 => ?_)
              · exact absurd c_195 (by simp)
              · refine r_iconst dX8_readPart_198 kc_1 rfl ?_
                refine r_goto (r := 203) dX8_readPart_199 (by decide) ?_
                refine r_zret .boolean rfl rfl dX8_readPart_203 ?_
                obtain ⟨g1, g2, g3⟩ := partDone (k := 0) (y := nI l) (z := nI 0) hl hc2 (hu1.tr hu2) ⟨(hu1.tr hu2).b hb0, _, hm2⟩
                exact ⟨rfl, g1, rfl, g2, g3⟩
      · have e0 : pPart (some pExcl) 35 (l :: r1) ps es = none := by simp [pPart, pSimple, hL]
        rw [e0]
        refine r_aload_n dX8_readPart_0 rfl (zRv_ref _) rfl ?_
        refine r_callV MX8_next 0 [] lvX8_71 (Or.inl ⟨8, by decide, (by first | (simp only [zKS]; first | assumption | exact TBm.k (by assumption)) | assumption | exact TBm.k (by assumption) | exact zk_nself _ _ _ | (simp [zKS, zNS, *]; done)), rfl⟩) (sp_next E _ sg (d - 1) tb tx sp nm _ _ hm) rfl rfl (by first | exact Nat.le_of_ble_eq_true rfl | (simp [zcat_rf, Value.category]; done)) (by omega) (Nat.le_of_eq (Nat.zero_add _)) (Nat.le_of_eq (Nat.zero_add _)) dX8_readPart_1 rfl (fun v_ w_ sg_ hq_ => ?_)
        obtain ⟨rfl, hu1, rfl, hm1⟩ := hq_
        simp only [hd0, List.tail_cons] at hm1 ⊢
        refine r_istore_n (ls' := [_, _, _, _, _, _, _]) dX8_readPart_4 (Nat.le_of_ble_eq_true rfl) rfl rfl ?_
        refine r_aload_n dX8_readPart_5 rfl (zRv_ref _) rfl ?_
        refine r_callV MX8_next 0 [] lvX8_71 (Or.inl ⟨8, by decide, (by first | (simp only [zKS]; first | assumption | exact TBm.k (by assumption)) | assumption | exact TBm.k (by assumption) | exact zk_nself _ _ _ | (simp [zKS, zNS, *]; done)), rfl⟩) (sp_next E _ sg (d - 1) tb tx sp nm (l :: r1) _ hm1) rfl rfl (by first | exact Nat.le_of_ble_eq_true rfl | (simp [zcat_rf, Value.category]; done)) (by omega) (Nat.le_of_eq (Nat.zero_add _)) (Nat.le_of_eq (Nat.zero_add _)) dX8_readPart_6 rfl (fun v_ w_ sg_ hq_ => ?_)
        obtain ⟨rfl, hu2, rfl, hm2⟩ := hq_
        simp only [hd0, List.tail_cons, List.tail_nil] at hm2 ⊢
        refine r_istore (ls' := [_, _, _, _, _, _, _]) dX8_readPart_9 (Nat.le_of_ble_eq_true rfl) rfl rfl ?_
        refine r_aconst_null dX8_readPart_11 rfl ?_
        refine r_astore (ls' := [_, _, _, _, _, _, _]) dX8_readPart_12 (Nat.le_of_ble_eq_true rfl) (zRv_null) rfl rfl ?_
        refine r_iload_n dX8_readPart_14 rfl rfl ?_
        refine r_bipush dX8_readPart_15 kb_35 rfl ?_
        refine r_icmp_neN (by omega) (by omega) (r := 48) dX8_readPart_17 (by decide) rfl (fun c_17 => ?_) (fun c_17 => ?_)
        · exact absurd rfl c_17
        · refine r_iload dX8_readPart_20 rfl rfl ?_
          refine r_callN MX9_isLetter 1 "StyleDesk" [_] (fun s h9 => h9.2.2.1) lwX8_82 zy_X9_isLetter (Nat.le_of_ble_eq_true rfl) (sp_isLetter E _ sg (d - 1) (l :: r1) hcs2) rfl rfl (by first | exact Nat.le_of_ble_eq_true rfl | (simp [zcat_rf, Value.category]; done)) (by omega) (Nat.le_of_eq (Nat.zero_add _)) (Nat.le_of_eq (Nat.zero_add _)) dX8_readPart_22 rfl (fun v_ w_ sg_ hq_ => ?_)
          obtain ⟨rfl, rfl, rfl⟩ := hq_
          refine r_if_eqB (r := 42) dX8_readPart_25 (by decide) rfl (fun c_25 => ?_) (fun c_25 => ?_)
          · refine r_aconst_null dX8_readPart_42 rfl ?_
            refine r_astore (ls' := [_, _, _, _, _, _, _]) dX8_readPart_43 (Nat.le_of_ble_eq_true rfl) (zRv_null) rfl rfl ?_
            refine r_goto (r := 182) dX8_readPart_45 (by decide) ?_
            refine r_aload dX8_readPart_182 rfl (zRv_null) rfl ?_
            refine r_ifnullZ (r := 193) dX8_readPart_184 (by decide) rfl (fun c_184 => ?_) (fun a_184 c_184 => ?_)
            · refine r_aload dX8_readPart_193 rfl (zRv_null) rfl ?_
              refine r_ifnullZ (r := 202) dX8_readPart_195 (by decide) rfl (fun c_195 => ?_) (fun a_195 c_195 => ?_)
              · refine r_iconst dX8_readPart_202 kc_0 rfl ?_
                refine r_zret .boolean rfl rfl dX8_readPart_203 ?_
                exact ⟨rfl, (hu1.tr hu2).v, rfl, (hu1.tr hu2).b hb0, hm2.x⟩
              · exact absurd c_195 (by simp)
            · exact absurd c_184 (by simp)
          · exact absurd c_25 (by simp [isL, hL])
    · by_cases hL : 97 ≤ l ∧ l ≤ 104
      · have e0 : pPart (some pExcl) 46 (l :: r1) ps es = some ((1, nI (2 ^ (l - 97)), nI 0) :: ps, es, r1) := by simp [pPart, pSimple, hL]
        rw [e0]
        refine r_aload_n dX8_readPart_0 rfl (zRv_ref _) rfl ?_
        refine r_callV MX8_next 0 [] lvX8_71 (Or.inl ⟨8, by decide, (by first | (simp only [zKS]; first | assumption | exact TBm.k (by assumption)) | assumption | exact TBm.k (by assumption) | exact zk_nself _ _ _ | (simp [zKS, zNS, *]; done)), rfl⟩) (sp_next E _ sg (d - 1) tb tx sp nm _ _ hm) rfl rfl (by first | exact Nat.le_of_ble_eq_true rfl | (simp [zcat_rf, Value.category]; done)) (by omega) (Nat.le_of_eq (Nat.zero_add _)) (Nat.le_of_eq (Nat.zero_add _)) dX8_readPart_1 rfl (fun v_ w_ sg_ hq_ => ?_)
        obtain ⟨rfl, hu1, rfl, hm1⟩ := hq_
        simp only [hd0, List.tail_cons] at hm1 ⊢
        refine r_istore_n (ls' := [_, _, _, _, _, _, _]) dX8_readPart_4 (Nat.le_of_ble_eq_true rfl) rfl rfl ?_
        refine r_aload_n dX8_readPart_5 rfl (zRv_ref _) rfl ?_
        refine r_callV MX8_next 0 [] lvX8_71 (Or.inl ⟨8, by decide, (by first | (simp only [zKS]; first | assumption | exact TBm.k (by assumption)) | assumption | exact TBm.k (by assumption) | exact zk_nself _ _ _ | (simp [zKS, zNS, *]; done)), rfl⟩) (sp_next E _ sg (d - 1) tb tx sp nm (l :: r1) _ hm1) rfl rfl (by first | exact Nat.le_of_ble_eq_true rfl | (simp [zcat_rf, Value.category]; done)) (by omega) (Nat.le_of_eq (Nat.zero_add _)) (Nat.le_of_eq (Nat.zero_add _)) dX8_readPart_6 rfl (fun v_ w_ sg_ hq_ => ?_)
        obtain ⟨rfl, hu2, rfl, hm2⟩ := hq_
        simp only [hd0, List.tail_cons, List.tail_nil] at hm2 ⊢
        refine r_istore (ls' := [_, _, _, _, _, _, _]) dX8_readPart_9 (Nat.le_of_ble_eq_true rfl) rfl rfl ?_
        refine r_aconst_null dX8_readPart_11 rfl ?_
        refine r_astore (ls' := [_, _, _, _, _, _, _]) dX8_readPart_12 (Nat.le_of_ble_eq_true rfl) (zRv_null) rfl rfl ?_
        refine r_iload_n dX8_readPart_14 rfl rfl ?_
        refine r_bipush dX8_readPart_15 kb_35 rfl ?_
        refine r_icmp_neN (by omega) (by omega) (r := 48) dX8_readPart_17 (by decide) rfl (fun c_17 => ?_) (fun c_17 => ?_)
        · refine r_iload_n dX8_readPart_48 rfl rfl ?_
          refine r_bipush dX8_readPart_49 kb_46 rfl ?_
          refine r_icmp_neN (by omega) (by omega) (r := 105) dX8_readPart_51 (by decide) rfl (fun c_51 => ?_) (fun c_51 => ?_)
          · exact absurd rfl c_51
          · refine r_iload dX8_readPart_54 rfl rfl ?_
            refine r_bipush dX8_readPart_56 kb_97 rfl ?_
            refine r_icmp_ltN (by omega) (by omega) (r := 72) dX8_readPart_58 (by decide) rfl (fun c_58 => ?_) (fun c_58 => ?_)
            · exact absurd c_58 (by omega)
            · refine r_iload dX8_readPart_61 rfl rfl ?_
              refine r_bipush dX8_readPart_63 kb_104 rfl ?_
              refine r_icmp_gtN (by omega) (by omega) (r := 72) dX8_readPart_65 (by decide) rfl (fun c_65 => ?_) (fun c_65 => ?_)
              · exact absurd c_65 (by omega)
              · refine r_iconst dX8_readPart_68 kc_1 rfl ?_
                refine r_goto (r := 73) dX8_readPart_69 (by decide) ?_
                refine r_istore (ls' := [_, _, _, _, _, _, _]) dX8_readPart_73 (Nat.le_of_ble_eq_true rfl) rfl rfl ?_
                refine r_iload dX8_readPart_75 rfl rfl ?_
                refine r_if_eqN (by omega) (r := 99) dX8_readPart_77 (by decide) rfl (fun c_77 => ?_) (fun c_77 => ?_)
                · exact absurd c_77 (by decide)
                · refine r_new (nc' := 4) (ns' := 18) 3 lnX8_95 (by decide) (by decide) dX8_readPart_80 rfl ?_
                  refine r_dup dX8_readPart_83 (by first | rfl | exact zcat_rf _) rfl ?_
                  refine r_iconst dX8_readPart_84 kc_1 rfl ?_
                  refine r_iconst dX8_readPart_85 kc_1 rfl ?_
                  refine r_iload dX8_readPart_86 rfl rfl ?_
                  refine r_bipush dX8_readPart_88 kb_97 rfl ?_
                  refine r_isubN (by omega) dX8_readPart_90 rfl ?_
                  refine r_ishl dX8_readPart_91 rfl ?_
                  rw [zbit (l - 97) (by omega)]
                  refine r_iconst dX8_readPart_92 kc_0 rfl ?_
                  refine r_callI MX3_init 3 [_, _, _] liX8_97 (sp_X3_init E _ sg (d - 1) (by omega) _ _ _ _ (zk_nself _ _ _)) rfl rfl (by first | exact Nat.le_of_ble_eq_true rfl | (simp [zcat_rf, Value.category]; done)) (by omega) (Nat.le_of_eq (Nat.zero_add _)) (Nat.le_of_eq (Nat.zero_add _)) dX8_readPart_93 rfl (fun v_ w_ sg_ hq_ => ?_)
                  obtain ⟨rfl, rfl, rfl⟩ := hq_
                  refine r_goto (r := 100) dX8_readPart_96 (by decide) ?_
                  refine r_astore (ls' := [_, _, _, _, _, _, _]) dX8_readPart_100 (Nat.le_of_ble_eq_true rfl) (zRv_ref _) rfl rfl ?_
                  refine r_goto (r := 182) dX8_readPart_102 (by decide) ?_
                  refine r_aload dX8_readPart_182 rfl (zRv_ref _) rfl ?_
                  refine r_ifnullR (r := 193) dX8_readPart_184 (by decide) rfl (fun c_184 => ?_) (fun a_184 c_184 => ?_)
                  · exact absurd c_184 (by simp)
                  · refine r_aload_n dX8_readPart_187 rfl (by first | exact zRv_ref _ | exact zRv_null | exact zRv_rf _ | assumption) rfl ?_
                    refine r_aload dX8_readPart_188 rfl (zRv_ref _) rfl ?_
                    have hc2 := hc.u (hu1.tr hu2) hl
                    obtain ⟨f1, f2, f3, f4⟩ := partFacts (tb := tb) (tx := tx) (sp := sp) (nm := nm) (k := 1) (y := nI (2 ^ (l - 97))) (z := nI 0) hc2
                    refine r_callV MX0_add 1 [_] lvX8_108 (Or.inl ⟨0, by decide, (by first | (simp only [zKS]; first | assumption | exact TBm.k (by assumption)) | assumption | exact TBm.k (by assumption) | exact zk_nself _ _ _ | (simp [zKS, zNS, *]; done)), rfl⟩) (sp_X0_add E _ sg (d - 1) cp _ 1 _ f1 f2 f3 (by decide) f4) rfl rfl (by first | exact Nat.le_of_ble_eq_true rfl | (simp [zcat_rf, Value.category]; done)) (by omega) (Nat.le_of_eq (Nat.zero_add _)) (Nat.le_of_eq (Nat.zero_add _)) dX8_readPart_190 rfl (fun v_ w_ sg_ hq_ => ?_)
                    obtain ⟨rfl, rfl, rfl⟩ := hq_
                    refine r_aload dX8_readPart_193 rfl (zRv_ref _) rfl ?_
                    refine r_ifnullR (r := 202) dX8_readPart_195 (by decide) rfl (fun c_195 => ?_) (fun a_195 c_195 => ?_)
                    · exact absurd c_195 (by simp)
                    · refine r_iconst dX8_readPart_198 kc_1 rfl ?_
                      refine r_goto (r := 203) dX8_readPart_199 (by decide) ?_
                      refine r_zret .boolean rfl rfl dX8_readPart_203 ?_
                      obtain ⟨g1, g2, g3⟩ := partDone (k := 1) (y := nI (2 ^ (l - 97))) (z := nI 0) hl hc2 (hu1.tr hu2) ⟨(hu1.tr hu2).b hb0, _, hm2⟩
                      exact ⟨rfl, g1, rfl, g2, g3⟩
        · exact absurd c_17 (by decide)
      · have e0 : pPart (some pExcl) 46 (l :: r1) ps es = none := by simp [pPart, pSimple, hL]
        rw [e0]
        refine r_aload_n dX8_readPart_0 rfl (zRv_ref _) rfl ?_
        refine r_callV MX8_next 0 [] lvX8_71 (Or.inl ⟨8, by decide, (by first | (simp only [zKS]; first | assumption | exact TBm.k (by assumption)) | assumption | exact TBm.k (by assumption) | exact zk_nself _ _ _ | (simp [zKS, zNS, *]; done)), rfl⟩) (sp_next E _ sg (d - 1) tb tx sp nm _ _ hm) rfl rfl (by first | exact Nat.le_of_ble_eq_true rfl | (simp [zcat_rf, Value.category]; done)) (by omega) (Nat.le_of_eq (Nat.zero_add _)) (Nat.le_of_eq (Nat.zero_add _)) dX8_readPart_1 rfl (fun v_ w_ sg_ hq_ => ?_)
        obtain ⟨rfl, hu1, rfl, hm1⟩ := hq_
        simp only [hd0, List.tail_cons] at hm1 ⊢
        refine r_istore_n (ls' := [_, _, _, _, _, _, _]) dX8_readPart_4 (Nat.le_of_ble_eq_true rfl) rfl rfl ?_
        refine r_aload_n dX8_readPart_5 rfl (zRv_ref _) rfl ?_
        refine r_callV MX8_next 0 [] lvX8_71 (Or.inl ⟨8, by decide, (by first | (simp only [zKS]; first | assumption | exact TBm.k (by assumption)) | assumption | exact TBm.k (by assumption) | exact zk_nself _ _ _ | (simp [zKS, zNS, *]; done)), rfl⟩) (sp_next E _ sg (d - 1) tb tx sp nm (l :: r1) _ hm1) rfl rfl (by first | exact Nat.le_of_ble_eq_true rfl | (simp [zcat_rf, Value.category]; done)) (by omega) (Nat.le_of_eq (Nat.zero_add _)) (Nat.le_of_eq (Nat.zero_add _)) dX8_readPart_6 rfl (fun v_ w_ sg_ hq_ => ?_)
        obtain ⟨rfl, hu2, rfl, hm2⟩ := hq_
        simp only [hd0, List.tail_cons, List.tail_nil] at hm2 ⊢
        refine r_istore (ls' := [_, _, _, _, _, _, _]) dX8_readPart_9 (Nat.le_of_ble_eq_true rfl) rfl rfl ?_
        refine r_aconst_null dX8_readPart_11 rfl ?_
        refine r_astore (ls' := [_, _, _, _, _, _, _]) dX8_readPart_12 (Nat.le_of_ble_eq_true rfl) (zRv_null) rfl rfl ?_
        refine r_iload_n dX8_readPart_14 rfl rfl ?_
        refine r_bipush dX8_readPart_15 kb_35 rfl ?_
        refine r_icmp_neN (by omega) (by omega) (r := 48) dX8_readPart_17 (by decide) rfl (fun c_17 => ?_) (fun c_17 => ?_)
        · refine r_iload_n dX8_readPart_48 rfl rfl ?_
          refine r_bipush dX8_readPart_49 kb_46 rfl ?_
          refine r_icmp_neN (by omega) (by omega) (r := 105) dX8_readPart_51 (by decide) rfl (fun c_51 => ?_) (fun c_51 => ?_)
          · exact absurd rfl c_51
          · refine r_iload dX8_readPart_54 rfl rfl ?_
            refine r_bipush dX8_readPart_56 kb_97 rfl ?_
            refine r_icmp_ltN (by omega) (by omega) (r := 72) dX8_readPart_58 (by decide) rfl (fun c_58 => ?_) (fun c_58 => ?_)
            · refine r_iconst dX8_readPart_72 kc_0 rfl ?_
              refine r_istore (ls' := [_, _, _, _, _, _, _]) dX8_readPart_73 (Nat.le_of_ble_eq_true rfl) rfl rfl ?_
              refine r_iload dX8_readPart_75 rfl rfl ?_
              refine r_if_eqN (by omega) (r := 99) dX8_readPart_77 (by decide) rfl (fun c_77 => ?_) (fun c_77 => ?_)
              · refine r_aconst_null dX8_readPart_99 rfl ?_
                refine r_astore (ls' := [_, _, _, _, _, _, _]) dX8_readPart_100 (Nat.le_of_ble_eq_true rfl) (zRv_null) rfl rfl ?_
                refine r_goto (r := 182) dX8_readPart_102 (by decide) ?_
                refine r_aload dX8_readPart_182 rfl (zRv_null) rfl ?_
                refine r_ifnullZ (r := 193) dX8_readPart_184 (by decide) rfl (fun c_184 => ?_) (fun a_184 c_184 => ?_)
                · refine r_aload dX8_readPart_193 rfl (zRv_null) rfl ?_
                  refine r_ifnullZ (r := 202) dX8_readPart_195 (by decide) rfl (fun c_195 => ?_) (fun a_195 c_195 => ?_)
                  · refine r_iconst dX8_readPart_202 kc_0 rfl ?_
                    refine r_zret .boolean rfl rfl dX8_readPart_203 ?_
                    exact ⟨rfl, (hu1.tr hu2).v, rfl, (hu1.tr hu2).b hb0, hm2.x⟩
                  · exact absurd c_195 (by simp)
                · exact absurd c_184 (by simp)
              · exact absurd rfl c_77
            · refine r_iload dX8_readPart_61 rfl rfl ?_
              refine r_bipush dX8_readPart_63 kb_104 rfl ?_
              refine r_icmp_gtN (by omega) (by omega) (r := 72) dX8_readPart_65 (by decide) rfl (fun c_65 => ?_) (fun c_65 => ?_)
              · refine r_iconst dX8_readPart_72 kc_0 rfl ?_
                refine r_istore (ls' := [_, _, _, _, _, _, _]) dX8_readPart_73 (Nat.le_of_ble_eq_true rfl) rfl rfl ?_
                refine r_iload dX8_readPart_75 rfl rfl ?_
                refine r_if_eqN (by omega) (r := 99) dX8_readPart_77 (by decide) rfl (fun c_77 => ?_) (fun c_77 => ?_)
                · refine r_aconst_null dX8_readPart_99 rfl ?_
                  refine r_astore (ls' := [_, _, _, _, _, _, _]) dX8_readPart_100 (Nat.le_of_ble_eq_true rfl) (zRv_null) rfl rfl ?_
                  refine r_goto (r := 182) dX8_readPart_102 (by decide) ?_
                  refine r_aload dX8_readPart_182 rfl (zRv_null) rfl ?_
                  refine r_ifnullZ (r := 193) dX8_readPart_184 (by decide) rfl (fun c_184 => ?_) (fun a_184 c_184 => ?_)
                  · refine r_aload dX8_readPart_193 rfl (zRv_null) rfl ?_
                    refine r_ifnullZ (r := 202) dX8_readPart_195 (by decide) rfl (fun c_195 => ?_) (fun a_195 c_195 => ?_)
                    · refine r_iconst dX8_readPart_202 kc_0 rfl ?_
                      refine r_zret .boolean rfl rfl dX8_readPart_203 ?_
                      exact ⟨rfl, (hu1.tr hu2).v, rfl, (hu1.tr hu2).b hb0, hm2.x⟩
                    · exact absurd c_195 (by simp)
                  · exact absurd c_184 (by simp)
                · exact absurd rfl c_77
              · exact absurd (⟨c_58, c_65⟩ : 97 ≤ l ∧ l ≤ 104) hL
        · exact absurd c_17 (by decide)
    · by_cases hF : l = 102
      · subst hF
        have e0 : pPart (some pExcl) 58 (102 :: r1) ps es = some ((3, nI 1, nI 0) :: ps, es, r1) := by simp [pPart, pSimple]
        rw [e0]
        refine r_aload_n dX8_readPart_0 rfl (zRv_ref _) rfl ?_
        refine r_callV MX8_next 0 [] lvX8_71 (Or.inl ⟨8, by decide, (by first | (simp only [zKS]; first | assumption | exact TBm.k (by assumption)) | assumption | exact TBm.k (by assumption) | exact zk_nself _ _ _ | (simp [zKS, zNS, *]; done)), rfl⟩) (sp_next E _ sg (d - 1) tb tx sp nm _ _ hm) rfl rfl (by first | exact Nat.le_of_ble_eq_true rfl | (simp [zcat_rf, Value.category]; done)) (by omega) (Nat.le_of_eq (Nat.zero_add _)) (Nat.le_of_eq (Nat.zero_add _)) dX8_readPart_1 rfl (fun v_ w_ sg_ hq_ => ?_)
        obtain ⟨rfl, hu1, rfl, hm1⟩ := hq_
        simp only [hd0, List.tail_cons] at hm1 ⊢
        refine r_istore_n (ls' := [_, _, _, _, _, _, _]) dX8_readPart_4 (Nat.le_of_ble_eq_true rfl) rfl rfl ?_
        refine r_aload_n dX8_readPart_5 rfl (zRv_ref _) rfl ?_
        refine r_callV MX8_next 0 [] lvX8_71 (Or.inl ⟨8, by decide, (by first | (simp only [zKS]; first | assumption | exact TBm.k (by assumption)) | assumption | exact TBm.k (by assumption) | exact zk_nself _ _ _ | (simp [zKS, zNS, *]; done)), rfl⟩) (sp_next E _ sg (d - 1) tb tx sp nm (102 :: r1) _ hm1) rfl rfl (by first | exact Nat.le_of_ble_eq_true rfl | (simp [zcat_rf, Value.category]; done)) (by omega) (Nat.le_of_eq (Nat.zero_add _)) (Nat.le_of_eq (Nat.zero_add _)) dX8_readPart_6 rfl (fun v_ w_ sg_ hq_ => ?_)
        obtain ⟨rfl, hu2, rfl, hm2⟩ := hq_
        simp only [hd0, List.tail_cons, List.tail_nil] at hm2 ⊢
        refine r_istore (ls' := [_, _, _, _, _, _, _]) dX8_readPart_9 (Nat.le_of_ble_eq_true rfl) rfl rfl ?_
        refine r_aconst_null dX8_readPart_11 rfl ?_
        refine r_astore (ls' := [_, _, _, _, _, _, _]) dX8_readPart_12 (Nat.le_of_ble_eq_true rfl) (zRv_null) rfl rfl ?_
        refine r_iload_n dX8_readPart_14 rfl rfl ?_
        refine r_bipush dX8_readPart_15 kb_35 rfl ?_
        refine r_icmp_neN (by omega) (by omega) (r := 48) dX8_readPart_17 (by decide) rfl (fun c_17 => ?_) (fun c_17 => ?_)
        · refine r_iload_n dX8_readPart_48 rfl rfl ?_
          refine r_bipush dX8_readPart_49 kb_46 rfl ?_
          refine r_icmp_neN (by omega) (by omega) (r := 105) dX8_readPart_51 (by decide) rfl (fun c_51 => ?_) (fun c_51 => ?_)
          · refine r_iload dX8_readPart_105 rfl rfl ?_
            refine r_bipush dX8_readPart_107 kb_102 rfl ?_
            refine r_icmp_neN (by omega) (by omega) (r := 127) dX8_readPart_109 (by decide) rfl (fun c_109 => ?_) (fun c_109 => ?_)
            · exact absurd rfl c_109
            · refine r_new (nc' := 4) (ns' := 18) 3 lnX8_95 (by decide) (by decide) dX8_readPart_112 rfl ?_
              refine r_dup dX8_readPart_115 (by first | rfl | exact zcat_rf _) rfl ?_
              refine r_iconst dX8_readPart_116 kc_3 rfl ?_
              refine r_iconst dX8_readPart_117 kc_1 rfl ?_
              refine r_iconst dX8_readPart_118 kc_0 rfl ?_
              refine r_callI MX3_init 3 [_, _, _] liX8_97 (sp_X3_init E _ sg (d - 1) (by omega) _ _ _ _ (zk_nself _ _ _)) rfl rfl (by first | exact Nat.le_of_ble_eq_true rfl | (simp [zcat_rf, Value.category]; done)) (by omega) (Nat.le_of_eq (Nat.zero_add _)) (Nat.le_of_eq (Nat.zero_add _)) dX8_readPart_119 rfl (fun v_ w_ sg_ hq_ => ?_)
              obtain ⟨rfl, rfl, rfl⟩ := hq_
              refine r_astore (ls' := [_, _, _, _, _, _, _]) dX8_readPart_122 (Nat.le_of_ble_eq_true rfl) (zRv_ref _) rfl rfl ?_
              refine r_goto (r := 182) dX8_readPart_124 (by decide) ?_
              refine r_aload dX8_readPart_182 rfl (zRv_ref _) rfl ?_
              refine r_ifnullR (r := 193) dX8_readPart_184 (by decide) rfl (fun c_184 => ?_) (fun a_184 c_184 => ?_)
              · exact absurd c_184 (by simp)
              · refine r_aload_n dX8_readPart_187 rfl (by first | exact zRv_ref _ | exact zRv_null | exact zRv_rf _ | assumption) rfl ?_
                refine r_aload dX8_readPart_188 rfl (zRv_ref _) rfl ?_
                have hc2 := hc.u (hu1.tr hu2) hl
                obtain ⟨f1, f2, f3, f4⟩ := partFacts (tb := tb) (tx := tx) (sp := sp) (nm := nm) (k := 3) (y := nI 1) (z := nI 0) hc2
                refine r_callV MX0_add 1 [_] lvX8_108 (Or.inl ⟨0, by decide, (by first | (simp only [zKS]; first | assumption | exact TBm.k (by assumption)) | assumption | exact TBm.k (by assumption) | exact zk_nself _ _ _ | (simp [zKS, zNS, *]; done)), rfl⟩) (sp_X0_add E _ sg (d - 1) cp _ 3 _ f1 f2 f3 (by decide) f4) rfl rfl (by first | exact Nat.le_of_ble_eq_true rfl | (simp [zcat_rf, Value.category]; done)) (by omega) (Nat.le_of_eq (Nat.zero_add _)) (Nat.le_of_eq (Nat.zero_add _)) dX8_readPart_190 rfl (fun v_ w_ sg_ hq_ => ?_)
                obtain ⟨rfl, rfl, rfl⟩ := hq_
                refine r_aload dX8_readPart_193 rfl (zRv_ref _) rfl ?_
                refine r_ifnullR (r := 202) dX8_readPart_195 (by decide) rfl (fun c_195 => ?_) (fun a_195 c_195 => ?_)
                · exact absurd c_195 (by simp)
                · refine r_iconst dX8_readPart_198 kc_1 rfl ?_
                  refine r_goto (r := 203) dX8_readPart_199 (by decide) ?_
                  refine r_zret .boolean rfl rfl dX8_readPart_203 ?_
                  obtain ⟨g1, g2, g3⟩ := partDone (k := 3) (y := nI 1) (z := nI 0) hl hc2 (hu1.tr hu2) ⟨(hu1.tr hu2).b hb0, _, hm2⟩
                  exact ⟨rfl, g1, rfl, g2, g3⟩
          · exact absurd c_51 (by decide)
        · exact absurd c_17 (by decide)
      · by_cases hF2 : l = 108
        · subst hF2
          have e0 : pPart (some pExcl) 58 (108 :: r1) ps es = some ((2, nI 0, nI 0) :: ps, es, r1) := by simp [pPart, pSimple]
          rw [e0]
          refine r_aload_n dX8_readPart_0 rfl (zRv_ref _) rfl ?_
          refine r_callV MX8_next 0 [] lvX8_71 (Or.inl ⟨8, by decide, (by first | (simp only [zKS]; first | assumption | exact TBm.k (by assumption)) | assumption | exact TBm.k (by assumption) | exact zk_nself _ _ _ | (simp [zKS, zNS, *]; done)), rfl⟩) (sp_next E _ sg (d - 1) tb tx sp nm _ _ hm) rfl rfl (by first | exact Nat.le_of_ble_eq_true rfl | (simp [zcat_rf, Value.category]; done)) (by omega) (Nat.le_of_eq (Nat.zero_add _)) (Nat.le_of_eq (Nat.zero_add _)) dX8_readPart_1 rfl (fun v_ w_ sg_ hq_ => ?_)
          obtain ⟨rfl, hu1, rfl, hm1⟩ := hq_
          simp only [hd0, List.tail_cons] at hm1 ⊢
          refine r_istore_n (ls' := [_, _, _, _, _, _, _]) dX8_readPart_4 (Nat.le_of_ble_eq_true rfl) rfl rfl ?_
          refine r_aload_n dX8_readPart_5 rfl (zRv_ref _) rfl ?_
          refine r_callV MX8_next 0 [] lvX8_71 (Or.inl ⟨8, by decide, (by first | (simp only [zKS]; first | assumption | exact TBm.k (by assumption)) | assumption | exact TBm.k (by assumption) | exact zk_nself _ _ _ | (simp [zKS, zNS, *]; done)), rfl⟩) (sp_next E _ sg (d - 1) tb tx sp nm (108 :: r1) _ hm1) rfl rfl (by first | exact Nat.le_of_ble_eq_true rfl | (simp [zcat_rf, Value.category]; done)) (by omega) (Nat.le_of_eq (Nat.zero_add _)) (Nat.le_of_eq (Nat.zero_add _)) dX8_readPart_6 rfl (fun v_ w_ sg_ hq_ => ?_)
          obtain ⟨rfl, hu2, rfl, hm2⟩ := hq_
          simp only [hd0, List.tail_cons, List.tail_nil] at hm2 ⊢
          refine r_istore (ls' := [_, _, _, _, _, _, _]) dX8_readPart_9 (Nat.le_of_ble_eq_true rfl) rfl rfl ?_
          refine r_aconst_null dX8_readPart_11 rfl ?_
          refine r_astore (ls' := [_, _, _, _, _, _, _]) dX8_readPart_12 (Nat.le_of_ble_eq_true rfl) (zRv_null) rfl rfl ?_
          refine r_iload_n dX8_readPart_14 rfl rfl ?_
          refine r_bipush dX8_readPart_15 kb_35 rfl ?_
          refine r_icmp_neN (by omega) (by omega) (r := 48) dX8_readPart_17 (by decide) rfl (fun c_17 => ?_) (fun c_17 => ?_)
          · refine r_iload_n dX8_readPart_48 rfl rfl ?_
            refine r_bipush dX8_readPart_49 kb_46 rfl ?_
            refine r_icmp_neN (by omega) (by omega) (r := 105) dX8_readPart_51 (by decide) rfl (fun c_51 => ?_) (fun c_51 => ?_)
            · refine r_iload dX8_readPart_105 rfl rfl ?_
              refine r_bipush dX8_readPart_107 kb_102 rfl ?_
              refine r_icmp_neN (by omega) (by omega) (r := 127) dX8_readPart_109 (by decide) rfl (fun c_109 => ?_) (fun c_109 => ?_)
              · refine r_iload dX8_readPart_127 rfl rfl ?_
                refine r_bipush dX8_readPart_129 kb_108 rfl ?_
                refine r_icmp_neN (by omega) (by omega) (r := 149) dX8_readPart_131 (by decide) rfl (fun c_131 => ?_) (fun c_131 => ?_)
                · exact absurd rfl c_131
                · refine r_new (nc' := 4) (ns' := 18) 3 lnX8_95 (by decide) (by decide) dX8_readPart_134 rfl ?_
                  refine r_dup dX8_readPart_137 (by first | rfl | exact zcat_rf _) rfl ?_
                  refine r_iconst dX8_readPart_138 kc_2 rfl ?_
                  refine r_iconst dX8_readPart_139 kc_0 rfl ?_
                  refine r_iconst dX8_readPart_140 kc_0 rfl ?_
                  refine r_callI MX3_init 3 [_, _, _] liX8_97 (sp_X3_init E _ sg (d - 1) (by omega) _ _ _ _ (zk_nself _ _ _)) rfl rfl (by first | exact Nat.le_of_ble_eq_true rfl | (simp [zcat_rf, Value.category]; done)) (by omega) (Nat.le_of_eq (Nat.zero_add _)) (Nat.le_of_eq (Nat.zero_add _)) dX8_readPart_141 rfl (fun v_ w_ sg_ hq_ => ?_)
                  obtain ⟨rfl, rfl, rfl⟩ := hq_
                  refine r_astore (ls' := [_, _, _, _, _, _, _]) dX8_readPart_144 (Nat.le_of_ble_eq_true rfl) (zRv_ref _) rfl rfl ?_
                  refine r_goto (r := 182) dX8_readPart_146 (by decide) ?_
                  refine r_aload dX8_readPart_182 rfl (zRv_ref _) rfl ?_
                  refine r_ifnullR (r := 193) dX8_readPart_184 (by decide) rfl (fun c_184 => ?_) (fun a_184 c_184 => ?_)
                  · exact absurd c_184 (by simp)
                  · refine r_aload_n dX8_readPart_187 rfl (by first | exact zRv_ref _ | exact zRv_null | exact zRv_rf _ | assumption) rfl ?_
                    refine r_aload dX8_readPart_188 rfl (zRv_ref _) rfl ?_
                    have hc2 := hc.u (hu1.tr hu2) hl
                    obtain ⟨f1, f2, f3, f4⟩ := partFacts (tb := tb) (tx := tx) (sp := sp) (nm := nm) (k := 2) (y := nI 0) (z := nI 0) hc2
                    refine r_callV MX0_add 1 [_] lvX8_108 (Or.inl ⟨0, by decide, (by first | (simp only [zKS]; first | assumption | exact TBm.k (by assumption)) | assumption | exact TBm.k (by assumption) | exact zk_nself _ _ _ | (simp [zKS, zNS, *]; done)), rfl⟩) (sp_X0_add E _ sg (d - 1) cp _ 2 _ f1 f2 f3 (by decide) f4) rfl rfl (by first | exact Nat.le_of_ble_eq_true rfl | (simp [zcat_rf, Value.category]; done)) (by omega) (Nat.le_of_eq (Nat.zero_add _)) (Nat.le_of_eq (Nat.zero_add _)) dX8_readPart_190 rfl (fun v_ w_ sg_ hq_ => ?_)
                    obtain ⟨rfl, rfl, rfl⟩ := hq_
                    refine r_aload dX8_readPart_193 rfl (zRv_ref _) rfl ?_
                    refine r_ifnullR (r := 202) dX8_readPart_195 (by decide) rfl (fun c_195 => ?_) (fun a_195 c_195 => ?_)
                    · exact absurd c_195 (by simp)
                    · refine r_iconst dX8_readPart_198 kc_1 rfl ?_
                      refine r_goto (r := 203) dX8_readPart_199 (by decide) ?_
                      refine r_zret .boolean rfl rfl dX8_readPart_203 ?_
                      obtain ⟨g1, g2, g3⟩ := partDone (k := 2) (y := nI 0) (z := nI 0) hl hc2 (hu1.tr hu2) ⟨(hu1.tr hu2).b hb0, _, hm2⟩
                      exact ⟨rfl, g1, rfl, g2, g3⟩
              · exact absurd c_109 (by decide)
            · exact absurd c_51 (by decide)
          · exact absurd c_17 (by decide)
        · by_cases hF3 : l = 110
          · subst hF3
            rcases hC : pCount r1 with _ | q
            · have e0 : pPart (some pExcl) 58 (110 :: r1) ps es = none := by simp [pPart, pSimple, hC]
              rw [e0]
              refine r_aload_n dX8_readPart_0 rfl (zRv_ref _) rfl ?_
              refine r_callV MX8_next 0 [] lvX8_71 (Or.inl ⟨8, by decide, (by first | (simp only [zKS]; first | assumption | exact TBm.k (by assumption)) | assumption | exact TBm.k (by assumption) | exact zk_nself _ _ _ | (simp [zKS, zNS, *]; done)), rfl⟩) (sp_next E _ sg (d - 1) tb tx sp nm _ _ hm) rfl rfl (by first | exact Nat.le_of_ble_eq_true rfl | (simp [zcat_rf, Value.category]; done)) (by omega) (Nat.le_of_eq (Nat.zero_add _)) (Nat.le_of_eq (Nat.zero_add _)) dX8_readPart_1 rfl (fun v_ w_ sg_ hq_ => ?_)
              obtain ⟨rfl, hu1, rfl, hm1⟩ := hq_
              simp only [hd0, List.tail_cons] at hm1 ⊢
              refine r_istore_n (ls' := [_, _, _, _, _, _, _]) dX8_readPart_4 (Nat.le_of_ble_eq_true rfl) rfl rfl ?_
              refine r_aload_n dX8_readPart_5 rfl (zRv_ref _) rfl ?_
              refine r_callV MX8_next 0 [] lvX8_71 (Or.inl ⟨8, by decide, (by first | (simp only [zKS]; first | assumption | exact TBm.k (by assumption)) | assumption | exact TBm.k (by assumption) | exact zk_nself _ _ _ | (simp [zKS, zNS, *]; done)), rfl⟩) (sp_next E _ sg (d - 1) tb tx sp nm (110 :: r1) _ hm1) rfl rfl (by first | exact Nat.le_of_ble_eq_true rfl | (simp [zcat_rf, Value.category]; done)) (by omega) (Nat.le_of_eq (Nat.zero_add _)) (Nat.le_of_eq (Nat.zero_add _)) dX8_readPart_6 rfl (fun v_ w_ sg_ hq_ => ?_)
              obtain ⟨rfl, hu2, rfl, hm2⟩ := hq_
              simp only [hd0, List.tail_cons, List.tail_nil] at hm2 ⊢
              refine r_istore (ls' := [_, _, _, _, _, _, _]) dX8_readPart_9 (Nat.le_of_ble_eq_true rfl) rfl rfl ?_
              refine r_aconst_null dX8_readPart_11 rfl ?_
              refine r_astore (ls' := [_, _, _, _, _, _, _]) dX8_readPart_12 (Nat.le_of_ble_eq_true rfl) (zRv_null) rfl rfl ?_
              refine r_iload_n dX8_readPart_14 rfl rfl ?_
              refine r_bipush dX8_readPart_15 kb_35 rfl ?_
              refine r_icmp_neN (by omega) (by omega) (r := 48) dX8_readPart_17 (by decide) rfl (fun c_17 => ?_) (fun c_17 => ?_)
              · refine r_iload_n dX8_readPart_48 rfl rfl ?_
                refine r_bipush dX8_readPart_49 kb_46 rfl ?_
                refine r_icmp_neN (by omega) (by omega) (r := 105) dX8_readPart_51 (by decide) rfl (fun c_51 => ?_) (fun c_51 => ?_)
                · refine r_iload dX8_readPart_105 rfl rfl ?_
                  refine r_bipush dX8_readPart_107 kb_102 rfl ?_
                  refine r_icmp_neN (by omega) (by omega) (r := 127) dX8_readPart_109 (by decide) rfl (fun c_109 => ?_) (fun c_109 => ?_)
                  · refine r_iload dX8_readPart_127 rfl rfl ?_
                    refine r_bipush dX8_readPart_129 kb_108 rfl ?_
                    refine r_icmp_neN (by omega) (by omega) (r := 149) dX8_readPart_131 (by decide) rfl (fun c_131 => ?_) (fun c_131 => ?_)
                    · refine r_iload dX8_readPart_149 rfl rfl ?_
                      refine r_bipush dX8_readPart_151 kb_110 rfl ?_
                      refine r_icmp_neN (by omega) (by omega) (r := 165) dX8_readPart_153 (by decide) rfl (fun c_153 => ?_) (fun c_153 => ?_)
                      · exact absurd rfl c_153
                      · refine r_aload_n dX8_readPart_156 rfl (zRv_ref _) rfl ?_
                        refine r_callV MX8_readChildNumber 0 (a := 4) (a' := 18) [] lvX8_100 (Or.inl ⟨8, by decide, (by first | (simp only [zKS]; first | assumption | exact TBm.k (by assumption)) | assumption | exact TBm.k (by assumption) | exact zk_nself _ _ _ | (simp [zKS, zNS, *]; done)), rfl⟩) (sp_X8_readChildNumber E sg (d - 1) (by omega) tb tx sp nm _ r1 ⟨(hu1.tr hu2).b hb0, _, hm2⟩) rfl rfl (by first | exact Nat.le_of_ble_eq_true rfl | (simp [zcat_rf, Value.category]; done)) (by omega) (by decide) (by decide) dX8_readPart_157 rfl (fun v_ w_ sg_ hq_ => ?_)
                        rw [hC] at hq_
                        obtain ⟨rfl, hv3, rfl, hb3, hm3⟩ := hq_
                        refine r_astore (ls' := [_, _, _, _, _, _, _]) dX8_readPart_160 (Nat.le_of_ble_eq_true rfl) (by first | exact zRv_ref _ | exact zRv_null | exact zRv_rf _ | assumption) rfl rfl ?_
                        refine r_goto (r := 182) dX8_readPart_162 (by decide) ?_
                        refine r_aload dX8_readPart_182 rfl (by first | exact zRv_ref _ | exact zRv_null | exact zRv_rf _ | assumption) rfl ?_
                        refine r_ifnullZ (r := 193) dX8_readPart_184 (by decide) rfl (fun c_184 => ?_) (fun a_184 c_184 => ?_)
                        · refine r_aload dX8_readPart_193 rfl (by first | exact zRv_ref _ | exact zRv_null | exact zRv_rf _ | assumption) rfl ?_
                          refine r_ifnullZ (r := 202) dX8_readPart_195 (by decide) rfl (fun c_195 => ?_) (fun a_195 c_195 => ?_)
                          · refine r_iconst dX8_readPart_202 kc_0 rfl ?_
                            refine r_zret .boolean rfl rfl dX8_readPart_203 ?_
                            exact ⟨rfl, ((hu1.tr hu2).v (X := fun a => a = cp)).tr hv3 (fun _ _ h => h.elim), rfl, hb3, hm3⟩
                          · exact absurd c_195 (by simp)
                        · exact absurd c_184 (by simp)
                    · exact absurd c_131 (by decide)
                  · exact absurd c_109 (by decide)
                · exact absurd c_51 (by decide)
              · exact absurd c_17 (by decide)
            · obtain ⟨p, r2⟩ := q
              have e0 : pPart (some pExcl) 58 (110 :: r1) ps es = some (p :: ps, es, r2) := by simp [pPart, pSimple, hC]
              rw [e0]
              refine r_aload_n dX8_readPart_0 rfl (zRv_ref _) rfl ?_
              refine r_callV MX8_next 0 [] lvX8_71 (Or.inl ⟨8, by decide, (by first | (simp only [zKS]; first | assumption | exact TBm.k (by assumption)) | assumption | exact TBm.k (by assumption) | exact zk_nself _ _ _ | (simp [zKS, zNS, *]; done)), rfl⟩) (sp_next E _ sg (d - 1) tb tx sp nm _ _ hm) rfl rfl (by first | exact Nat.le_of_ble_eq_true rfl | (simp [zcat_rf, Value.category]; done)) (by omega) (Nat.le_of_eq (Nat.zero_add _)) (Nat.le_of_eq (Nat.zero_add _)) dX8_readPart_1 rfl (fun v_ w_ sg_ hq_ => ?_)
              obtain ⟨rfl, hu1, rfl, hm1⟩ := hq_
              simp only [hd0, List.tail_cons] at hm1 ⊢
              refine r_istore_n (ls' := [_, _, _, _, _, _, _]) dX8_readPart_4 (Nat.le_of_ble_eq_true rfl) rfl rfl ?_
              refine r_aload_n dX8_readPart_5 rfl (zRv_ref _) rfl ?_
              refine r_callV MX8_next 0 [] lvX8_71 (Or.inl ⟨8, by decide, (by first | (simp only [zKS]; first | assumption | exact TBm.k (by assumption)) | assumption | exact TBm.k (by assumption) | exact zk_nself _ _ _ | (simp [zKS, zNS, *]; done)), rfl⟩) (sp_next E _ sg (d - 1) tb tx sp nm (110 :: r1) _ hm1) rfl rfl (by first | exact Nat.le_of_ble_eq_true rfl | (simp [zcat_rf, Value.category]; done)) (by omega) (Nat.le_of_eq (Nat.zero_add _)) (Nat.le_of_eq (Nat.zero_add _)) dX8_readPart_6 rfl (fun v_ w_ sg_ hq_ => ?_)
              obtain ⟨rfl, hu2, rfl, hm2⟩ := hq_
              simp only [hd0, List.tail_cons, List.tail_nil] at hm2 ⊢
              refine r_istore (ls' := [_, _, _, _, _, _, _]) dX8_readPart_9 (Nat.le_of_ble_eq_true rfl) rfl rfl ?_
              refine r_aconst_null dX8_readPart_11 rfl ?_
              refine r_astore (ls' := [_, _, _, _, _, _, _]) dX8_readPart_12 (Nat.le_of_ble_eq_true rfl) (zRv_null) rfl rfl ?_
              refine r_iload_n dX8_readPart_14 rfl rfl ?_
              refine r_bipush dX8_readPart_15 kb_35 rfl ?_
              refine r_icmp_neN (by omega) (by omega) (r := 48) dX8_readPart_17 (by decide) rfl (fun c_17 => ?_) (fun c_17 => ?_)
              · refine r_iload_n dX8_readPart_48 rfl rfl ?_
                refine r_bipush dX8_readPart_49 kb_46 rfl ?_
                refine r_icmp_neN (by omega) (by omega) (r := 105) dX8_readPart_51 (by decide) rfl (fun c_51 => ?_) (fun c_51 => ?_)
                · refine r_iload dX8_readPart_105 rfl rfl ?_
                  refine r_bipush dX8_readPart_107 kb_102 rfl ?_
                  refine r_icmp_neN (by omega) (by omega) (r := 127) dX8_readPart_109 (by decide) rfl (fun c_109 => ?_) (fun c_109 => ?_)
                  · refine r_iload dX8_readPart_127 rfl rfl ?_
                    refine r_bipush dX8_readPart_129 kb_108 rfl ?_
                    refine r_icmp_neN (by omega) (by omega) (r := 149) dX8_readPart_131 (by decide) rfl (fun c_131 => ?_) (fun c_131 => ?_)
                    · refine r_iload dX8_readPart_149 rfl rfl ?_
                      refine r_bipush dX8_readPart_151 kb_110 rfl ?_
                      refine r_icmp_neN (by omega) (by omega) (r := 165) dX8_readPart_153 (by decide) rfl (fun c_153 => ?_) (fun c_153 => ?_)
                      · exact absurd rfl c_153
                      · refine r_aload_n dX8_readPart_156 rfl (zRv_ref _) rfl ?_
                        refine r_callV MX8_readChildNumber 0 (a := 4) (a' := 18) [] lvX8_100 (Or.inl ⟨8, by decide, (by first | (simp only [zKS]; first | assumption | exact TBm.k (by assumption)) | assumption | exact TBm.k (by assumption) | exact zk_nself _ _ _ | (simp [zKS, zNS, *]; done)), rfl⟩) (sp_X8_readChildNumber E sg (d - 1) (by omega) tb tx sp nm _ r1 ⟨(hu1.tr hu2).b hb0, _, hm2⟩) rfl rfl (by first | exact Nat.le_of_ble_eq_true rfl | (simp [zcat_rf, Value.category]; done)) (by omega) (by decide) (by decide) dX8_readPart_157 rfl (fun v_ w_ sg_ hq_ => ?_)
                        rw [hC] at hq_
                        obtain ⟨rfl, hv3, rfl, hz3, hp3, hn3⟩ := hq_
                        refine r_astore (ls' := [_, _, _, _, _, _, _]) dX8_readPart_160 (Nat.le_of_ble_eq_true rfl) (by first | exact zRv_ref _ | exact zRv_null | exact zRv_rf _ | assumption) rfl rfl ?_
                        refine r_goto (r := 182) dX8_readPart_162 (by decide) ?_
                        refine r_aload dX8_readPart_182 rfl (by first | exact zRv_ref _ | exact zRv_null | exact zRv_rf _ | assumption) rfl ?_
                        refine r_ifnullR (r := 193) dX8_readPart_184 (by decide) rfl (fun c_184 => ?_) (fun a_184 c_184 => ?_)
                        · exact absurd c_184 (by simp)
                        · refine r_aload_n dX8_readPart_187 rfl (by first | exact zRv_ref _ | exact zRv_null | exact zRv_rf _ | assumption) rfl ?_
                          refine r_aload dX8_readPart_188 rfl (by first | exact zRv_ref _ | exact zRv_null | exact zRv_rf _ | assumption) rfl ?_
                          have hc2 := hc.u (hu1.tr hu2) hl
                          obtain ⟨hc3, hlt3⟩ := partMade hl hc2 hv3 hz3
                          have hp4 := hp3.2.2.2.1
                          have hkc : zk _ cp = 1 := hc3.2.2.1
                          refine r_callV MX0_add 1 [_] lvX8_108 (Or.inl ⟨0, by decide, (by first | (simp only [zKS]; first | assumption | exact TBm.k (by assumption)) | assumption | exact TBm.k (by assumption) | exact zk_nself _ _ _ | (simp [zKS, zNS, *]; done)), rfl⟩) (sp_X0_add E _ sg (d - 1) cp _ p.1 _ hkc hp3.2.2.1 hp4 (pCount_k hC) hc3.2.2.2.2.2.2.1) rfl rfl (by first | exact Nat.le_of_ble_eq_true rfl | (simp [zcat_rf, Value.category]; done)) (by omega) (Nat.le_of_eq (Nat.zero_add _)) (Nat.le_of_eq (Nat.zero_add _)) dX8_readPart_190 rfl (fun v_ w_ sg_ hq_ => ?_)
                          obtain ⟨rfl, rfl, rfl⟩ := hq_
                          refine r_aload dX8_readPart_193 rfl (by first | exact zRv_ref _ | exact zRv_null | exact zRv_rf _ | assumption) rfl ?_
                          refine r_ifnullR (r := 202) dX8_readPart_195 (by decide) rfl (fun c_195 => ?_) (fun a_195 c_195 => ?_)
                          · exact absurd c_195 (by simp)
                          · refine r_iconst dX8_readPart_198 kc_1 rfl ?_
                            refine r_goto (r := 203) dX8_readPart_199 (by decide) ?_
                            refine r_zret .boolean rfl rfl dX8_readPart_203 ?_
                            obtain ⟨j1, j2, j3⟩ := addTail hc3 hp3 hz3 hn3 hlt3
                            refine ⟨rfl, ?_, rfl, j2, j3⟩
                            refine (((hu1.tr hu2).v (X := fun a => a = cp)).tr hv3 (fun _ _ h => h.elim)).tr j1 (fun a ha h => ?_)
                            exact h.elim id (fun h => absurd ha (by rw [h, (hu1.tr hu2).1]; exact Nat.lt_irrefl _))
                    · exact absurd c_131 (by decide)
                  · exact absurd c_109 (by decide)
                · exact absurd c_51 (by decide)
              · exact absurd c_17 (by decide)
          · by_cases hF4 : l = 120
            · subst hF4
              rcases hC : pExcl r1 with _ | q
              · have e0 : pPart (some pExcl) 58 (120 :: r1) ps es = none := by simp [pPart, pSimple, hC]
                rw [e0]
                refine r_aload_n dX8_readPart_0 rfl (zRv_ref _) rfl ?_
                refine r_callV MX8_next 0 [] lvX8_71 (Or.inl ⟨8, by decide, (by first | (simp only [zKS]; first | assumption | exact TBm.k (by assumption)) | assumption | exact TBm.k (by assumption) | exact zk_nself _ _ _ | (simp [zKS, zNS, *]; done)), rfl⟩) (sp_next E _ sg (d - 1) tb tx sp nm _ _ hm) rfl rfl (by first | exact Nat.le_of_ble_eq_true rfl | (simp [zcat_rf, Value.category]; done)) (by omega) (Nat.le_of_eq (Nat.zero_add _)) (Nat.le_of_eq (Nat.zero_add _)) dX8_readPart_1 rfl (fun v_ w_ sg_ hq_ => ?_)
                obtain ⟨rfl, hu1, rfl, hm1⟩ := hq_
                simp only [hd0, List.tail_cons] at hm1 ⊢
                refine r_istore_n (ls' := [_, _, _, _, _, _, _]) dX8_readPart_4 (Nat.le_of_ble_eq_true rfl) rfl rfl ?_
                refine r_aload_n dX8_readPart_5 rfl (zRv_ref _) rfl ?_
                refine r_callV MX8_next 0 [] lvX8_71 (Or.inl ⟨8, by decide, (by first | (simp only [zKS]; first | assumption | exact TBm.k (by assumption)) | assumption | exact TBm.k (by assumption) | exact zk_nself _ _ _ | (simp [zKS, zNS, *]; done)), rfl⟩) (sp_next E _ sg (d - 1) tb tx sp nm (120 :: r1) _ hm1) rfl rfl (by first | exact Nat.le_of_ble_eq_true rfl | (simp [zcat_rf, Value.category]; done)) (by omega) (Nat.le_of_eq (Nat.zero_add _)) (Nat.le_of_eq (Nat.zero_add _)) dX8_readPart_6 rfl (fun v_ w_ sg_ hq_ => ?_)
                obtain ⟨rfl, hu2, rfl, hm2⟩ := hq_
                simp only [hd0, List.tail_cons, List.tail_nil] at hm2 ⊢
                refine r_istore (ls' := [_, _, _, _, _, _, _]) dX8_readPart_9 (Nat.le_of_ble_eq_true rfl) rfl rfl ?_
                refine r_aconst_null dX8_readPart_11 rfl ?_
                refine r_astore (ls' := [_, _, _, _, _, _, _]) dX8_readPart_12 (Nat.le_of_ble_eq_true rfl) (zRv_null) rfl rfl ?_
                refine r_iload_n dX8_readPart_14 rfl rfl ?_
                refine r_bipush dX8_readPart_15 kb_35 rfl ?_
                refine r_icmp_neN (by omega) (by omega) (r := 48) dX8_readPart_17 (by decide) rfl (fun c_17 => ?_) (fun c_17 => ?_)
                · refine r_iload_n dX8_readPart_48 rfl rfl ?_
                  refine r_bipush dX8_readPart_49 kb_46 rfl ?_
                  refine r_icmp_neN (by omega) (by omega) (r := 105) dX8_readPart_51 (by decide) rfl (fun c_51 => ?_) (fun c_51 => ?_)
                  · refine r_iload dX8_readPart_105 rfl rfl ?_
                    refine r_bipush dX8_readPart_107 kb_102 rfl ?_
                    refine r_icmp_neN (by omega) (by omega) (r := 127) dX8_readPart_109 (by decide) rfl (fun c_109 => ?_) (fun c_109 => ?_)
                    · refine r_iload dX8_readPart_127 rfl rfl ?_
                      refine r_bipush dX8_readPart_129 kb_108 rfl ?_
                      refine r_icmp_neN (by omega) (by omega) (r := 149) dX8_readPart_131 (by decide) rfl (fun c_131 => ?_) (fun c_131 => ?_)
                      · refine r_iload dX8_readPart_149 rfl rfl ?_
                        refine r_bipush dX8_readPart_151 kb_110 rfl ?_
                        refine r_icmp_neN (by omega) (by omega) (r := 165) dX8_readPart_153 (by decide) rfl (fun c_153 => ?_) (fun c_153 => ?_)
                        · refine r_iload dX8_readPart_165 rfl rfl ?_
                          refine r_bipush dX8_readPart_167 kb_120 rfl ?_
                          refine r_icmp_neN (by omega) (by omega) (r := 182) dX8_readPart_169 (by decide) rfl (fun c_169 => ?_) (fun c_169 => ?_)
                          · exact absurd rfl c_169
                          · refine r_iload_n dX8_readPart_172 rfl rfl ?_
                            refine r_if_neB (r := 182) dX8_readPart_173 (by decide) rfl (fun c_173 => ?_) (fun c_173 => ?_)
                            · exact absurd c_173 (by decide)
                            · refine r_aload_n dX8_readPart_176 rfl (zRv_ref _) rfl ?_
                              refine r_aload_n dX8_readPart_177 rfl (by first | exact zRv_ref _ | exact zRv_null | exact zRv_rf _ | assumption) rfl ?_
                              refine r_callV MX8_readExclusion 1 (a := 0) (a' := 0) [_] lvX8_104 (Or.inl ⟨8, by decide, (by first | (simp only [zKS]; first | assumption | exact TBm.k (by assumption)) | assumption | exact TBm.k (by assumption) | exact zk_nself _ _ _ | (simp [zKS, zNS, *]; done)), rfl⟩) (hx _ r1 (hc.u (hu1.tr hu2) hl) ⟨(hu1.tr hu2).b hb0, _, hm2⟩) rfl rfl (by first | exact Nat.le_of_ble_eq_true rfl | (simp [zcat_rf, Value.category]; done)) (by omega) (by decide) (by decide) dX8_readPart_178 rfl (fun v_ w_ sg_ hq_ => ?_)
                              rw [hC] at hq_
                              obtain ⟨rfl, hv3, rfl, hb3, hm3⟩ := hq_
                              refine r_zret .boolean rfl (zb_nar _) dX8_readPart_181 ?_
                              exact ⟨rfl, (hu1.tr hu2).v.tr hv3 (fun _ _ h => h), rfl, hb3, hm3⟩
                        · exact absurd c_153 (by decide)
                      · exact absurd c_131 (by decide)
                    · exact absurd c_109 (by decide)
                  · exact absurd c_51 (by decide)
                · exact absurd c_17 (by decide)
              · obtain ⟨b, r2⟩ := q
                have e0 : pPart (some pExcl) 58 (120 :: r1) ps es = some (ps, b :: es, r2) := by simp [pPart, pSimple, hC]
                rw [e0]
                refine r_aload_n dX8_readPart_0 rfl (zRv_ref _) rfl ?_
                refine r_callV MX8_next 0 [] lvX8_71 (Or.inl ⟨8, by decide, (by first | (simp only [zKS]; first | assumption | exact TBm.k (by assumption)) | assumption | exact TBm.k (by assumption) | exact zk_nself _ _ _ | (simp [zKS, zNS, *]; done)), rfl⟩) (sp_next E _ sg (d - 1) tb tx sp nm _ _ hm) rfl rfl (by first | exact Nat.le_of_ble_eq_true rfl | (simp [zcat_rf, Value.category]; done)) (by omega) (Nat.le_of_eq (Nat.zero_add _)) (Nat.le_of_eq (Nat.zero_add _)) dX8_readPart_1 rfl (fun v_ w_ sg_ hq_ => ?_)
                obtain ⟨rfl, hu1, rfl, hm1⟩ := hq_
                simp only [hd0, List.tail_cons] at hm1 ⊢
                refine r_istore_n (ls' := [_, _, _, _, _, _, _]) dX8_readPart_4 (Nat.le_of_ble_eq_true rfl) rfl rfl ?_
                refine r_aload_n dX8_readPart_5 rfl (zRv_ref _) rfl ?_
                refine r_callV MX8_next 0 [] lvX8_71 (Or.inl ⟨8, by decide, (by first | (simp only [zKS]; first | assumption | exact TBm.k (by assumption)) | assumption | exact TBm.k (by assumption) | exact zk_nself _ _ _ | (simp [zKS, zNS, *]; done)), rfl⟩) (sp_next E _ sg (d - 1) tb tx sp nm (120 :: r1) _ hm1) rfl rfl (by first | exact Nat.le_of_ble_eq_true rfl | (simp [zcat_rf, Value.category]; done)) (by omega) (Nat.le_of_eq (Nat.zero_add _)) (Nat.le_of_eq (Nat.zero_add _)) dX8_readPart_6 rfl (fun v_ w_ sg_ hq_ => ?_)
                obtain ⟨rfl, hu2, rfl, hm2⟩ := hq_
                simp only [hd0, List.tail_cons, List.tail_nil] at hm2 ⊢
                refine r_istore (ls' := [_, _, _, _, _, _, _]) dX8_readPart_9 (Nat.le_of_ble_eq_true rfl) rfl rfl ?_
                refine r_aconst_null dX8_readPart_11 rfl ?_
                refine r_astore (ls' := [_, _, _, _, _, _, _]) dX8_readPart_12 (Nat.le_of_ble_eq_true rfl) (zRv_null) rfl rfl ?_
                refine r_iload_n dX8_readPart_14 rfl rfl ?_
                refine r_bipush dX8_readPart_15 kb_35 rfl ?_
                refine r_icmp_neN (by omega) (by omega) (r := 48) dX8_readPart_17 (by decide) rfl (fun c_17 => ?_) (fun c_17 => ?_)
                · refine r_iload_n dX8_readPart_48 rfl rfl ?_
                  refine r_bipush dX8_readPart_49 kb_46 rfl ?_
                  refine r_icmp_neN (by omega) (by omega) (r := 105) dX8_readPart_51 (by decide) rfl (fun c_51 => ?_) (fun c_51 => ?_)
                  · refine r_iload dX8_readPart_105 rfl rfl ?_
                    refine r_bipush dX8_readPart_107 kb_102 rfl ?_
                    refine r_icmp_neN (by omega) (by omega) (r := 127) dX8_readPart_109 (by decide) rfl (fun c_109 => ?_) (fun c_109 => ?_)
                    · refine r_iload dX8_readPart_127 rfl rfl ?_
                      refine r_bipush dX8_readPart_129 kb_108 rfl ?_
                      refine r_icmp_neN (by omega) (by omega) (r := 149) dX8_readPart_131 (by decide) rfl (fun c_131 => ?_) (fun c_131 => ?_)
                      · refine r_iload dX8_readPart_149 rfl rfl ?_
                        refine r_bipush dX8_readPart_151 kb_110 rfl ?_
                        refine r_icmp_neN (by omega) (by omega) (r := 165) dX8_readPart_153 (by decide) rfl (fun c_153 => ?_) (fun c_153 => ?_)
                        · refine r_iload dX8_readPart_165 rfl rfl ?_
                          refine r_bipush dX8_readPart_167 kb_120 rfl ?_
                          refine r_icmp_neN (by omega) (by omega) (r := 182) dX8_readPart_169 (by decide) rfl (fun c_169 => ?_) (fun c_169 => ?_)
                          · exact absurd rfl c_169
                          · refine r_iload_n dX8_readPart_172 rfl rfl ?_
                            refine r_if_neB (r := 182) dX8_readPart_173 (by decide) rfl (fun c_173 => ?_) (fun c_173 => ?_)
                            · exact absurd c_173 (by decide)
                            · refine r_aload_n dX8_readPart_176 rfl (zRv_ref _) rfl ?_
                              refine r_aload_n dX8_readPart_177 rfl (by first | exact zRv_ref _ | exact zRv_null | exact zRv_rf _ | assumption) rfl ?_
                              refine r_callV MX8_readExclusion 1 (a := 0) (a' := 0) [_] lvX8_104 (Or.inl ⟨8, by decide, (by first | (simp only [zKS]; first | assumption | exact TBm.k (by assumption)) | assumption | exact TBm.k (by assumption) | exact zk_nself _ _ _ | (simp [zKS, zNS, *]; done)), rfl⟩) (hx _ r1 (hc.u (hu1.tr hu2) hl) ⟨(hu1.tr hu2).b hb0, _, hm2⟩) rfl rfl (by first | exact Nat.le_of_ble_eq_true rfl | (simp [zcat_rf, Value.category]; done)) (by omega) (by decide) (by decide) dX8_readPart_178 rfl (fun v_ w_ sg_ hq_ => ?_)
                              rw [hC] at hq_
                              obtain ⟨rfl, hv3, rfl, hc3, hn3⟩ := hq_
                              refine r_zret .boolean rfl (zb_nar _) dX8_readPart_181 ?_
                              exact ⟨rfl, (hu1.tr hu2).v.tr hv3 (fun _ _ h => h), rfl, hc3, hn3⟩
                        · exact absurd c_153 (by decide)
                      · exact absurd c_131 (by decide)
                    · exact absurd c_109 (by decide)
                  · exact absurd c_51 (by decide)
                · exact absurd c_17 (by decide)
            · have e0 : pPart (some pExcl) 58 (l :: r1) ps es = none := by simp [pPart, pSimple, hF, hF2, hF3, hF4]
              rw [e0]
              refine r_aload_n dX8_readPart_0 rfl (zRv_ref _) rfl ?_
              refine r_callV MX8_next 0 [] lvX8_71 (Or.inl ⟨8, by decide, (by first | (simp only [zKS]; first | assumption | exact TBm.k (by assumption)) | assumption | exact TBm.k (by assumption) | exact zk_nself _ _ _ | (simp [zKS, zNS, *]; done)), rfl⟩) (sp_next E _ sg (d - 1) tb tx sp nm _ _ hm) rfl rfl (by first | exact Nat.le_of_ble_eq_true rfl | (simp [zcat_rf, Value.category]; done)) (by omega) (Nat.le_of_eq (Nat.zero_add _)) (Nat.le_of_eq (Nat.zero_add _)) dX8_readPart_1 rfl (fun v_ w_ sg_ hq_ => ?_)
              obtain ⟨rfl, hu1, rfl, hm1⟩ := hq_
              simp only [hd0, List.tail_cons] at hm1 ⊢
              refine r_istore_n (ls' := [_, _, _, _, _, _, _]) dX8_readPart_4 (Nat.le_of_ble_eq_true rfl) rfl rfl ?_
              refine r_aload_n dX8_readPart_5 rfl (zRv_ref _) rfl ?_
              refine r_callV MX8_next 0 [] lvX8_71 (Or.inl ⟨8, by decide, (by first | (simp only [zKS]; first | assumption | exact TBm.k (by assumption)) | assumption | exact TBm.k (by assumption) | exact zk_nself _ _ _ | (simp [zKS, zNS, *]; done)), rfl⟩) (sp_next E _ sg (d - 1) tb tx sp nm (l :: r1) _ hm1) rfl rfl (by first | exact Nat.le_of_ble_eq_true rfl | (simp [zcat_rf, Value.category]; done)) (by omega) (Nat.le_of_eq (Nat.zero_add _)) (Nat.le_of_eq (Nat.zero_add _)) dX8_readPart_6 rfl (fun v_ w_ sg_ hq_ => ?_)
              obtain ⟨rfl, hu2, rfl, hm2⟩ := hq_
              simp only [hd0, List.tail_cons, List.tail_nil] at hm2 ⊢
              refine r_istore (ls' := [_, _, _, _, _, _, _]) dX8_readPart_9 (Nat.le_of_ble_eq_true rfl) rfl rfl ?_
              refine r_aconst_null dX8_readPart_11 rfl ?_
              refine r_astore (ls' := [_, _, _, _, _, _, _]) dX8_readPart_12 (Nat.le_of_ble_eq_true rfl) (zRv_null) rfl rfl ?_
              refine r_iload_n dX8_readPart_14 rfl rfl ?_
              refine r_bipush dX8_readPart_15 kb_35 rfl ?_
              refine r_icmp_neN (by omega) (by omega) (r := 48) dX8_readPart_17 (by decide) rfl (fun c_17 => ?_) (fun c_17 => ?_)
              · refine r_iload_n dX8_readPart_48 rfl rfl ?_
                refine r_bipush dX8_readPart_49 kb_46 rfl ?_
                refine r_icmp_neN (by omega) (by omega) (r := 105) dX8_readPart_51 (by decide) rfl (fun c_51 => ?_) (fun c_51 => ?_)
                · refine r_iload dX8_readPart_105 rfl rfl ?_
                  refine r_bipush dX8_readPart_107 kb_102 rfl ?_
                  refine r_icmp_neN (by omega) (by omega) (r := 127) dX8_readPart_109 (by decide) rfl (fun c_109 => ?_) (fun c_109 => ?_)
                  · refine r_iload dX8_readPart_127 rfl rfl ?_
                    refine r_bipush dX8_readPart_129 kb_108 rfl ?_
                    refine r_icmp_neN (by omega) (by omega) (r := 149) dX8_readPart_131 (by decide) rfl (fun c_131 => ?_) (fun c_131 => ?_)
                    · refine r_iload dX8_readPart_149 rfl rfl ?_
                      refine r_bipush dX8_readPart_151 kb_110 rfl ?_
                      refine r_icmp_neN (by omega) (by omega) (r := 165) dX8_readPart_153 (by decide) rfl (fun c_153 => ?_) (fun c_153 => ?_)
                      · refine r_iload dX8_readPart_165 rfl rfl ?_
                        refine r_bipush dX8_readPart_167 kb_120 rfl ?_
                        refine r_icmp_neN (by omega) (by omega) (r := 182) dX8_readPart_169 (by decide) rfl (fun c_169 => ?_) (fun c_169 => ?_)
                        · refine r_aload dX8_readPart_182 rfl (zRv_null) rfl ?_
                          refine r_ifnullZ (r := 193) dX8_readPart_184 (by decide) rfl (fun c_184 => ?_) (fun a_184 c_184 => ?_)
                          · refine r_aload dX8_readPart_193 rfl (zRv_null) rfl ?_
                            refine r_ifnullZ (r := 202) dX8_readPart_195 (by decide) rfl (fun c_195 => ?_) (fun a_195 c_195 => ?_)
                            · refine r_iconst dX8_readPart_202 kc_0 rfl ?_
                              refine r_zret .boolean rfl rfl dX8_readPart_203 ?_
                              exact ⟨rfl, (hu1.tr hu2).v, rfl, (hu1.tr hu2).b hb0, hm2.x⟩
                            · exact absurd c_195 (by simp)
                          · exact absurd c_184 (by simp)
                        · exact absurd c_169 hF4
                      · exact absurd c_153 hF3
                    · exact absurd c_131 hF2
                  · exact absurd c_109 hF
                · exact absurd c_51 (by decide)
              · exact absurd c_17 (by decide)
theorem sp_comp2 (E : ZE) (sg : ZM) (d : Nat) (hd : 8 ≤ d) (tb tx sp nm : Nat) (w : ZW) (r : List Nat) (hn : TBn w tb tx sp nm r) : CallQ E MX8_readCompound [.ref tb, .int (zb false)] w sg d 21 94 (zqC tb tx sp nm w sg (pComp r)) :=
  sp_compG E sg d (by omega) tb tx sp nm w false 5 22 (some pExcl) (fun t w1 c r1 ps es h1 h2 h3 => sp_part2 E sg (d - 1) (by omega) tb tx sp nm (zsz w) t w1 c r1 ps es h1 hn.1 h2 h3 (fun w2 r2 g1 g2 => sp_excl E sg (d - 1 - 1) (by omega) tb tx sp nm (zsz w) t w2 r2 ps es hn.1 g1 g2)) r hn
