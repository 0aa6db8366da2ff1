theorem TBx.fr {w w' : ZW} {tb tx sp nm : Nat} (h : TBx w tb tx sp nm) (e1 : zeq w w' tb) (e2 : zeq w w' tx) (e3 : zeq w w' sp) (e4 : zeq w w' nm) : TBx w' tb tx sp nm := by
  obtain ⟨h1, a, r, h2⟩ := h
  exact ⟨h1.fr e1 e2 e3 e4, a, r, h2.fr e1 e2⟩
def pSelR (l : List (Nat × PComp)) (o : Option (List (Nat × PComp) × List Nat)) : Option (List (Nat × PComp) × List Nat) := match o with
  | none => none
  | some (l2, r2) => some (l ++ l2, r2)
theorem rsel_loop (E : ZE) (sg : ZM) (d : Nat) (hd : 9 ≤ d) (tb tx sp nm : Nat) (w0 : ZW) (a0 : Nat) (hbb : TBb w0 tb tx sp nm) : ∀ (k : Nat) (w : ZW) (last : Nat) (l : List (Nat × PComp)) (x : Nat × PComp) (x5 x6 : Option Value) (r : List Nat), k ≤ 3 → TBv zno tb sp nm w0 w → isSelP w (zsz w0) a0 last (zsz w) l x → TBn w tb tx sp nm r →
    RW E MX8_readSelector 24 [some (.ref tb), some (.ref a0), some (.ref last), some (.int (nI (wSel (l ++ [x])))), some (.int (nI (4 - k))), x5, x6] [] w sg d (1 + k * 21) (4 + k * 94) (PN E (zqS1 tb tx sp nm w0 sg (pSelR (l ++ [x]) (pSelL k r))))
  | 0, w, last, l, x, x5, x6, r, _, hv, h, hn => by
    have e9 : pSelR (l ++ [x]) (pSelL 0 r) = some (l ++ [x], r) := by simp [pSelR, pSelL]
    rw [e9]
    refine r_iload dX8_readSelector_24 rfl rfl ?_
    refine r_iconst dX8_readSelector_26 kc_4 rfl ?_
    refine r_icmp_geN (by omega) (by omega) (r := 92) dX8_readSelector_27 (by decide) rfl (fun c_27 => ?_) (fun c_27 => ?_)
    · exact rsel_end E sg d (by omega) tb tx sp nm w0 w a0 last l x _ _ _ r hv h hn _ _
    · exact absurd c_27 (by omega)
  | k + 1, w, last, l, x, x5, x6, r, hk, hv, h, hn => by
    have hn0 := hn
    obtain ⟨hb0, ss, hm⟩ := hn
    cases hS : nJn r with
    | false =>
      have e9 : pSelR (l ++ [x]) (pSelL (k + 1) r) = some (l ++ [x], r) := by
        cases r with
        | nil => simp [pSelR, pSelL]
        | cons c r => simp only [nJn] at hS; simp [pSelR, pSelL, hS]
      rw [e9]
      refine r_iload dX8_readSelector_24 rfl rfl ?_
      refine r_iconst dX8_readSelector_26 kc_4 rfl ?_
      refine r_icmp_geN (by omega) (by omega) (r := 92) dX8_readSelector_27 (by decide) rfl (fun c_27 => ?_) (fun c_27 => ?_)
      · exact absurd c_27 (by omega)
      · refine r_aload_n dX8_readSelector_30 rfl (by first | exact zRv_ref _ | exact zRv_null | exact zRv_rf _ | assumption) rfl ?_
        refine r_ifnullR (r := 92) dX8_readSelector_31 (by decide) rfl (fun c_31 => ?_) (fun a_31 c_31 => ?_)
        · exact absurd c_31 (by simp)
        · refine r_aload_n dX8_readSelector_34 rfl (zRv_ref _) rfl ?_
          refine r_callV MX8_peek 0 [] lvX8_63 (Or.inl ⟨8, by decide, (by first | (simp only [zKS]; first | assumption | exact TBm.k (by assumption)) | assumption | exact TBm.k (by assumption) | exact zk_nself _ _ _ | (simp [zKS, zNS, *]; done)), rfl⟩) (sp_peek E w sg (d - 1) tb tx sp nm r ss hm) rfl rfl (by first | exact Nat.le_of_ble_eq_true rfl | (simp [zcat_rf, Value.category]; done)) (by omega) (Nat.le_of_eq (Nat.zero_add _)) (Nat.le_of_eq (Nat.zero_add _)) dX8_readSelector_35 rfl (fun v_ w_ sg_ hq_ => ?_)
          obtain ⟨rfl, rfl, rfl⟩ := hq_
          refine r_callS MX8_isJoin 1 [_] lsX8_67 (sp_isJn E w sg (d - 1) r hm.cs) rfl rfl (by first | exact Nat.le_of_ble_eq_true rfl | (simp [zcat_rf, Value.category]; done)) (by omega) (Nat.le_of_eq (Nat.zero_add _)) (Nat.le_of_eq (Nat.zero_add _)) dX8_readSelector_38 rfl (fun v_ w_ sg_ hq_ => ?_)
          obtain ⟨rfl, rfl, rfl⟩ := hq_
          refine r_if_eqB (r := 92) dX8_readSelector_41 (by decide) rfl (fun c_41 => ?_) (fun c_41 => ?_)
          · exact rsel_end E sg d (by omega) tb tx sp nm w0 w a0 last l x _ _ _ r hv h hn0 _ _
          · exact absurd c_41 (by simp [hS])
    | true =>
      cases r with
      | nil => cases hS
      | cons c r1 =>
        have hS2 : isJn c = true := hS
        have hkl : zk w last = 1 := h.2.2.1.2.2.1
        have hlt := h.2.2.1.2.1
        have hle := h.1
        obtain ⟨b1, b2, b3, b4⟩ := hbb
        have hne : last ≠ tb ∧ last ≠ sp ∧ last ≠ nm := ⟨by omega, by omega, by omega⟩
        cases hP : pComp r1 with
        | none =>
          have e9 : pSelR (l ++ [x]) (pSelL (k + 1) (c :: r1)) = none := by simp [pSelR, pSelL, hS2, hP]
          rw [e9]
          refine r_iload dX8_readSelector_24 rfl rfl ?_
          refine r_iconst dX8_readSelector_26 kc_4 rfl ?_
          refine r_icmp_geN (by omega) (by omega) (r := 92) dX8_readSelector_27 (by decide) rfl (fun c_27 => ?_) (fun c_27 => ?_)
          · exact absurd c_27 (by omega)
          · refine r_aload_n dX8_readSelector_30 rfl (by first | exact zRv_ref _ | exact zRv_null | exact zRv_rf _ | assumption) rfl ?_
            refine r_ifnullR (r := 92) dX8_readSelector_31 (by decide) rfl (fun c_31 => ?_) (fun a_31 c_31 => ?_)
            · exact absurd c_31 (by simp)
            · refine r_aload_n dX8_readSelector_34 rfl (zRv_ref _) rfl ?_
              refine r_callV MX8_peek 0 [] lvX8_63 (Or.inl ⟨8, by decide, (by first | (simp only [zKS]; first | assumption | exact TBm.k (by assumption)) | assumption | exact TBm.k (by assumption) | exact zk_nself _ _ _ | (simp [zKS, zNS, *]; done)), rfl⟩) (sp_peek E w sg (d - 1) tb tx sp nm (c :: r1) ss hm) rfl rfl (by first | exact Nat.le_of_ble_eq_true rfl | (simp [zcat_rf, Value.category]; done)) (by omega) (Nat.le_of_eq (Nat.zero_add _)) (Nat.le_of_eq (Nat.zero_add _)) dX8_readSelector_35 rfl (fun v_ w_ sg_ hq_ => ?_)
              obtain ⟨rfl, rfl, rfl⟩ := hq_
              refine r_callS MX8_isJoin 1 [_] lsX8_67 (sp_isJn E w sg (d - 1) (c :: r1) hm.cs) rfl rfl (by first | exact Nat.le_of_ble_eq_true rfl | (simp [zcat_rf, Value.category]; done)) (by omega) (Nat.le_of_eq (Nat.zero_add _)) (Nat.le_of_eq (Nat.zero_add _)) dX8_readSelector_38 rfl (fun v_ w_ sg_ hq_ => ?_)
              obtain ⟨rfl, rfl, rfl⟩ := hq_
              refine r_if_eqB (r := 92) dX8_readSelector_41 (by decide) rfl (fun c_41 => ?_) (fun c_41 => ?_)
              · exact absurd c_41 (by simp [hS])
              · refine r_aload_n dX8_readSelector_44 rfl (zRv_ref _) rfl ?_
                refine r_callV MX8_next 0 [] lvX8_71 (Or.inl ⟨8, by decide, (by first | (simp only [zKS]; first | assumption | exact TBm.k (by assumption)) | assumption | exact TBm.k (by assumption) | exact zk_nself _ _ _ | (simp [zKS, zNS, *]; done)), rfl⟩) (sp_next E w sg (d - 1) tb tx sp nm (c :: r1) ss hm) rfl rfl (by first | exact Nat.le_of_ble_eq_true rfl | (simp [zcat_rf, Value.category]; done)) (by omega) (Nat.le_of_eq (Nat.zero_add _)) (Nat.le_of_eq (Nat.zero_add _)) dX8_readSelector_45 rfl (fun v_ w_ sg_ hq_ => ?_)
                obtain ⟨rfl, hu1, rfl, hm1⟩ := hq_
                simp only [hd0, List.tail_cons] at hm1 ⊢
                refine r_istore (ls' := [_, _, _, _, _, _, _]) dX8_readSelector_48 (Nat.le_of_ble_eq_true rfl) rfl rfl ?_
                refine r_aload_n dX8_readSelector_50 rfl (zRv_ref _) rfl ?_
                refine r_iconst dX8_readSelector_51 kc_0 rfl ?_
                refine r_callV MX8_readCompound 1 (a := 1 + k * 21) (a' := 4 + k * 94) [_] lvX8_54 (Or.inl ⟨8, by decide, (by first | (simp only [zKS]; first | assumption | exact TBm.k (by assumption)) | assumption | exact TBm.k (by assumption) | exact zk_nself _ _ _ | (simp [zKS, zNS, *]; done)), rfl⟩) (sp_comp2 E sg (d - 1) (by omega) tb tx sp nm _ r1 ⟨hu1.b hb0, _, hm1⟩) rfl rfl (by first | exact Nat.le_of_ble_eq_true rfl | (simp [zcat_rf, Value.category]; done)) (by omega) (by first | omega | exact Nat.le_of_eq ((Nat.add_comm _ _).trans (Nat.succ_mul _ _).symm)) (by first | omega | exact Nat.le_of_eq ((Nat.add_comm _ _).trans (Nat.succ_mul _ _).symm)) dX8_readSelector_52 rfl (fun v_ w_ sg_ hq_ => ?_)
                rw [hP] at hq_
                obtain ⟨rfl, hv2, rfl, hb2, hx2⟩ := hq_
                have hv12 := (hu1.v (X := zno)).tr hv2 (fun _ _ h => h)
                have hkl2 := ((hv12.2.1 last hlt (fun e => e) hne.1 hne.2.1 hne.2.2).k).trans hkl
                refine r_astore (ls' := [_, _, _, _, _, _, _]) dX8_readSelector_55 (Nat.le_of_ble_eq_true rfl) (by first | exact zRv_ref _ | exact zRv_null | exact zRv_rf _ | assumption) rfl rfl ?_
                refine r_aload dX8_readSelector_57 rfl (by first | exact zRv_ref _ | exact zRv_null | exact zRv_rf _ | assumption) rfl ?_
                refine r_ifnullZ (r := 77) dX8_readSelector_59 (by decide) rfl (fun c_59 => ?_) (fun a_59 c_59 => ?_)
                · refine r_aload_n dX8_readSelector_77 rfl (by first | exact zRv_ref _ | exact zRv_null | exact zRv_rf _ | assumption) rfl ?_
                  refine r_aload dX8_readSelector_78 rfl (by first | exact zRv_ref _ | exact zRv_null | exact zRv_rf _ | assumption) rfl ?_
                  refine r_putn 0 5 105 lfX8_76 (by first | (simp only [zKS]; first | assumption | exact TBm.k (by assumption)) | assumption | exact TBm.k (by assumption) | exact zk_nself _ _ _ | (simp [zKS, zNS, *]; done)) rfl rfl rfl (Or.inl rfl) dX8_readSelector_80 rfl ?_
                  refine r_aload dX8_readSelector_83 rfl (by first | exact zRv_ref _ | exact zRv_null | exact zRv_rf _ | assumption) rfl ?_
                  refine r_astore_n (ls' := [_, _, _, _, _, _, _]) dX8_readSelector_85 (Nat.le_of_ble_eq_true rfl) (by first | exact zRv_ref _ | exact zRv_null | exact zRv_rf _ | assumption) rfl rfl ?_
                  refine r_iinc (ls' := [_, _, _, _, _, _, _]) dX8_readSelector_86 (Nat.le_of_ble_eq_true rfl) rfl (zinc1 _) rfl rfl ?_
                  refine r_goto (r := 24) dX8_readSelector_89 (by decide) ?_
                  have hv3 := hv.tr hv12 (fun _ _ h => h)
                  exact rsel_null E sg d tb tx sp nm w0 _ _ _ _ _ (4 - (k + 1) + 1) _ _ (by omega) ⟨hv3.1, fun y g1 g2 g3 g4 g5 => (hv3.2.1 y g1 g2 g3 g4 g5).tr (zeq.sr (by omega)), ((zeq.sr (Ne.symm hne.1)).i 901).trans hv3.2.2⟩ hb2 (hx2.fr (zeq.sr (by omega)) (zeq.sr (by omega)) (zeq.sr (by omega)) (zeq.sr (by omega)))
                · exact absurd c_59 (by simp)
        | some q =>
          obtain ⟨cx, r2⟩ := q
          have e9 : pSelR (l ++ [x]) (pSelL (k + 1) (c :: r1)) = pSelR ((l ++ [x]) ++ [(c, cx)]) (pSelL k r2) := by
            simp only [pSelL, hS2, hP, if_true]
            cases pSelL k r2 with
            | none => rfl
            | some q => simp [pSelR]
          rw [e9]
          refine r_iload dX8_readSelector_24 rfl rfl ?_
          refine r_iconst dX8_readSelector_26 kc_4 rfl ?_
          refine r_icmp_geN (by omega) (by omega) (r := 92) dX8_readSelector_27 (by decide) rfl (fun c_27 => ?_) (fun c_27 => ?_)
          · exact absurd c_27 (by omega)
          · refine r_aload_n dX8_readSelector_30 rfl (by first | exact zRv_ref _ | exact zRv_null | exact zRv_rf _ | assumption) rfl ?_
            refine r_ifnullR (r := 92) dX8_readSelector_31 (by decide) rfl (fun c_31 => ?_) (fun a_31 c_31 => ?_)
            · exact absurd c_31 (by simp)
            · refine r_aload_n dX8_readSelector_34 rfl (zRv_ref _) rfl ?_
              refine r_callV MX8_peek 0 [] lvX8_63 (Or.inl ⟨8, by decide, (by first | (simp only [zKS]; first | assumption | exact TBm.k (by assumption)) | assumption | exact TBm.k (by assumption) | exact zk_nself _ _ _ | (simp [zKS, zNS, *]; done)), rfl⟩) (sp_peek E w sg (d - 1) tb tx sp nm (c :: r1) ss hm) rfl rfl (by first | exact Nat.le_of_ble_eq_true rfl | (simp [zcat_rf, Value.category]; done)) (by omega) (Nat.le_of_eq (Nat.zero_add _)) (Nat.le_of_eq (Nat.zero_add _)) dX8_readSelector_35 rfl (fun v_ w_ sg_ hq_ => ?_)
              obtain ⟨rfl, rfl, rfl⟩ := hq_
              refine r_callS MX8_isJoin 1 [_] lsX8_67 (sp_isJn E w sg (d - 1) (c :: r1) hm.cs) rfl rfl (by first | exact Nat.le_of_ble_eq_true rfl | (simp [zcat_rf, Value.category]; done)) (by omega) (Nat.le_of_eq (Nat.zero_add _)) (Nat.le_of_eq (Nat.zero_add _)) dX8_readSelector_38 rfl (fun v_ w_ sg_ hq_ => ?_)
              obtain ⟨rfl, rfl, rfl⟩ := hq_
              refine r_if_eqB (r := 92) dX8_readSelector_41 (by decide) rfl (fun c_41 => ?_) (fun c_41 => ?_)
              · exact absurd c_41 (by simp [hS])
              · refine r_aload_n dX8_readSelector_44 rfl (zRv_ref _) rfl ?_
                refine r_callV MX8_next 0 [] lvX8_71 (Or.inl ⟨8, by decide, (by first | (simp only [zKS]; first | assumption | exact TBm.k (by assumption)) | assumption | exact TBm.k (by assumption) | exact zk_nself _ _ _ | (simp [zKS, zNS, *]; done)), rfl⟩) (sp_next E w sg (d - 1) tb tx sp nm (c :: r1) ss hm) rfl rfl (by first | exact Nat.le_of_ble_eq_true rfl | (simp [zcat_rf, Value.category]; done)) (by omega) (Nat.le_of_eq (Nat.zero_add _)) (Nat.le_of_eq (Nat.zero_add _)) dX8_readSelector_45 rfl (fun v_ w_ sg_ hq_ => ?_)
                obtain ⟨rfl, hu1, rfl, hm1⟩ := hq_
                simp only [hd0, List.tail_cons] at hm1 ⊢
                refine r_istore (ls' := [_, _, _, _, _, _, _]) dX8_readSelector_48 (Nat.le_of_ble_eq_true rfl) rfl rfl ?_
                refine r_aload_n dX8_readSelector_50 rfl (zRv_ref _) rfl ?_
                refine r_iconst dX8_readSelector_51 kc_0 rfl ?_
                refine r_callV MX8_readCompound 1 (a := 1 + k * 21) (a' := 4 + k * 94) [_] lvX8_54 (Or.inl ⟨8, by decide, (by first | (simp only [zKS]; first | assumption | exact TBm.k (by assumption)) | assumption | exact TBm.k (by assumption) | exact zk_nself _ _ _ | (simp [zKS, zNS, *]; done)), rfl⟩) (sp_comp2 E sg (d - 1) (by omega) tb tx sp nm _ r1 ⟨hu1.b hb0, _, hm1⟩) rfl rfl (by first | exact Nat.le_of_ble_eq_true rfl | (simp [zcat_rf, Value.category]; done)) (by omega) (by first | omega | exact Nat.le_of_eq ((Nat.add_comm _ _).trans (Nat.succ_mul _ _).symm)) (by first | omega | exact Nat.le_of_eq ((Nat.add_comm _ _).trans (Nat.succ_mul _ _).symm)) dX8_readSelector_52 rfl (fun v_ w_ sg_ hq_ => ?_)
                rw [hP] at hq_
                obtain ⟨rfl, hv2, rfl, hc2, hn2⟩ := hq_
                have hv12 := (hu1.v (X := zno)).tr hv2 (fun _ _ h => h)
                have hkl2 := ((hv12.2.1 last hlt (fun e => e) hne.1 hne.2.1 hne.2.2).k).trans hkl
                have hkb := hc2.2.2.1
                have e103 := hc2.2.2.2.2.2.2.1
                refine r_astore (ls' := [_, _, _, _, _, _, _]) dX8_readSelector_55 (Nat.le_of_ble_eq_true rfl) (by first | exact zRv_ref _ | exact zRv_null | exact zRv_rf _ | assumption) rfl rfl ?_
                refine r_aload dX8_readSelector_57 rfl (by first | exact zRv_ref _ | exact zRv_null | exact zRv_rf _ | assumption) rfl ?_
                refine r_ifnullR (r := 77) dX8_readSelector_59 (by decide) rfl (fun c_59 => ?_) (fun a_59 c_59 => ?_)
                · exact absurd c_59 (by simp)
                · refine r_aload dX8_readSelector_62 rfl (by first | exact zRv_ref _ | exact zRv_null | exact zRv_rf _ | assumption) rfl ?_
                  refine r_iload dX8_readSelector_64 rfl rfl ?_
                  refine r_puti 0 4 104 lfX8_73 (by first | (simp only [zKS]; first | assumption | exact TBm.k (by assumption)) | assumption | exact TBm.k (by assumption) | exact zk_nself _ _ _ | (simp [zKS, zNS, *]; done)) rfl rfl rfl (Or.inl rfl) dX8_readSelector_66 rfl ?_
                  refine r_iload_n dX8_readSelector_69 rfl rfl ?_
                  refine r_aload dX8_readSelector_70 rfl (by first | exact zRv_ref _ | exact zRv_null | exact zRv_rf _ | assumption) rfl ?_
                  refine r_getiv 0 3 103 lfX8_58 (by first | (simp only [zKS]; first | assumption | exact TBm.k (by assumption)) | assumption | exact TBm.k (by assumption) | exact zk_nself _ _ _ | (simp [zKS, zNS, *]; done)) rfl rfl (by first | (simp only [zGS, zMS, Nat.reduceEqDiff, OfNat.ofNat_ne_ofNat, false_and, and_false, true_and, and_true, and_self, if_true, if_false, ite_true, ite_false, reduceIte, reduceCtorEq]; first | done | assumption | rfl) | assumption | exact z2_eq | exact z1_eq | (simp [zGS, zMS]; first | done | assumption) | rfl) dX8_readSelector_72 rfl ?_
                  refine r_iaddN dX8_readSelector_75 rfl ?_
                  refine r_istore_n (ls' := [_, _, _, _, _, _, _]) dX8_readSelector_76 (Nat.le_of_ble_eq_true rfl) rfl rfl ?_
                  refine r_aload_n dX8_readSelector_77 rfl (by first | exact zRv_ref _ | exact zRv_null | exact zRv_rf _ | assumption) rfl ?_
                  refine r_aload dX8_readSelector_78 rfl (by first | exact zRv_ref _ | exact zRv_null | exact zRv_rf _ | assumption) rfl ?_
                  refine r_puts 0 5 105 lfX8_76 (by first | (simp only [zKS]; first | assumption | exact TBm.k (by assumption)) | assumption | exact TBm.k (by assumption) | exact zk_nself _ _ _ | (simp [zKS, zNS, *]; done)) rfl rfl rfl (Or.inl rfl) dX8_readSelector_80 rfl ?_
                  refine r_aload dX8_readSelector_83 rfl (by first | exact zRv_ref _ | exact zRv_null | exact zRv_rf _ | assumption) rfl ?_
                  refine r_astore_n (ls' := [_, _, _, _, _, _, _]) dX8_readSelector_85 (Nat.le_of_ble_eq_true rfl) (by first | exact zRv_ref _ | exact zRv_null | exact zRv_rf _ | assumption) rfl rfl ?_
                  refine r_iinc (ls' := [_, _, _, _, _, _, _]) dX8_readSelector_86 (Nat.le_of_ble_eq_true rfl) rfl (zinc1 _) rfl rfl ?_
                  refine r_goto (r := 24) dX8_readSelector_89 (by decide) ?_
                  rw [show 4 - (k + 1) + 1 = 4 - k by omega, ← wSel_snoc (l ++ [x]) (c, cx)]
                  obtain ⟨j1, j2, j3⟩ := selStep (j := c) ⟨b1, b2, b3, b4⟩ hv h hu1 hv2 hc2 hn2
                  exact rsel_loop E sg d hd tb tx sp nm w0 a0 ⟨b1, b2, b3, b4⟩ k _ _ (l ++ [x]) (c, cx) _ _ r2 (by omega) j1 j2 j3
theorem sp_sel (E : ZE) (sg : ZM) (d : Nat) (hd : 9 ≤ d) (tb tx sp nm : Nat) (w : ZW) (r : List Nat) (hn : TBn w tb tx sp nm r) : CallQ E MX8_readSelector [.ref tb] w sg d 85 380 (zqS1 tb tx sp nm w sg (pSel r)) := by
  have hk := hn.2.choose_spec.k
  refine CallQ.of rfl (by simp [Value.category]) (Nat.le_of_ble_eq_true rfl) ?_
  cases hP : pComp r with
  | none =>
    have e9 : pSel r = none := by simp [pSel, hP]
    rw [e9]
    refine r_aload_n dX8_readSelector_0 rfl (zRv_ref _) rfl ?_
    refine r_iconst dX8_readSelector_1 kc_0 rfl ?_
    refine r_callV MX8_readCompound 1 (a := 1 + 3 * 21) (a' := 4 + 3 * 94) [_] lvX8_54 (Or.inl ⟨8, by decide, (by first | (simp only [zKS]; first | assumption | exact TBm.k (by assumption)) | assumption | exact TBm.k (by assumption) | exact zk_nself _ _ _ | (simp [zKS, zNS, *]; done)), rfl⟩) (sp_comp2 E sg (d - 1) (by omega) tb tx sp nm _ r hn) rfl rfl (by first | exact Nat.le_of_ble_eq_true rfl | (simp [zcat_rf, Value.category]; done)) (by omega) (by first | omega | exact Nat.le_of_eq ((Nat.add_comm _ _).trans (Nat.succ_mul _ _).symm)) (by first | omega | exact Nat.le_of_eq ((Nat.add_comm _ _).trans (Nat.succ_mul _ _).symm)) dX8_readSelector_2 rfl (fun v_ w_ sg_ hq_ => ?_)
    rw [hP] at hq_
    obtain ⟨rfl, hv2, rfl, hb2, hx2⟩ := hq_
    refine r_astore_n (ls' := [_, _, _, _, _, _, _]) dX8_readSelector_5 (Nat.le_of_ble_eq_true rfl) (by first | exact zRv_ref _ | exact zRv_null | exact zRv_rf _ | assumption) rfl rfl ?_
    refine r_aload_n dX8_readSelector_6 rfl (by first | exact zRv_ref _ | exact zRv_null | exact zRv_rf _ | assumption) rfl ?_
    refine r_astore_n (ls' := [_, _, _, _, _, _, _]) dX8_readSelector_7 (Nat.le_of_ble_eq_true rfl) (by first | exact zRv_ref _ | exact zRv_null | exact zRv_rf _ | assumption) rfl rfl ?_
    refine r_aload_n dX8_readSelector_8 rfl (by first | exact zRv_ref _ | exact zRv_null | exact zRv_rf _ | assumption) rfl ?_
    refine r_ifnonnullZ (r := 16) dX8_readSelector_9 (by decide) rfl (fun c_9 => ?_) (fun a_9 c_9 => ?_)
    · refine r_iconst dX8_readSelector_12 kc_0 rfl ?_
      refine r_goto (r := 20) dX8_readSelector_13 (by decide) ?_
      refine r_istore_n (ls' := [_, _, _, _, _, _, _]) dX8_readSelector_20 (Nat.le_of_ble_eq_true rfl) rfl rfl ?_
      refine r_iconst dX8_readSelector_21 kc_1 rfl ?_
      refine r_istore (ls' := [_, _, _, _, _, _, _]) dX8_readSelector_22 (Nat.le_of_ble_eq_true rfl) rfl rfl ?_
      exact rsel_null E sg d tb tx sp nm w _ _ _ _ _ 1 _ _ (by decide) hv2 hb2 hx2
    · exact absurd c_9 (by simp)
  | some q =>
    obtain ⟨c, r1⟩ := q
    have e9 : pSel r = pSelR ([] ++ [(0, c)]) (pSelL 3 r1) := by
      simp only [pSel, hP]
      cases pSelL 3 r1 with
      | none => rfl
      | some q => rfl
    have hw : wSel ([] ++ [(0, c)]) = wComp c := by simp [wSel]
    rw [e9]
    refine r_aload_n dX8_readSelector_0 rfl (zRv_ref _) rfl ?_
    refine r_iconst dX8_readSelector_1 kc_0 rfl ?_
    refine r_callV MX8_readCompound 1 (a := 1 + 3 * 21) (a' := 4 + 3 * 94) [_] lvX8_54 (Or.inl ⟨8, by decide, (by first | (simp only [zKS]; first | assumption | exact TBm.k (by assumption)) | assumption | exact TBm.k (by assumption) | exact zk_nself _ _ _ | (simp [zKS, zNS, *]; done)), rfl⟩) (sp_comp2 E sg (d - 1) (by omega) tb tx sp nm _ r hn) rfl rfl (by first | exact Nat.le_of_ble_eq_true rfl | (simp [zcat_rf, Value.category]; done)) (by omega) (by first | omega | exact Nat.le_of_eq ((Nat.add_comm _ _).trans (Nat.succ_mul _ _).symm)) (by first | omega | exact Nat.le_of_eq ((Nat.add_comm _ _).trans (Nat.succ_mul _ _).symm)) dX8_readSelector_2 rfl (fun v_ w_ sg_ hq_ => ?_)
    rw [hP] at hq_
    obtain ⟨rfl, hv2, rfl, hc2, hn2⟩ := hq_
    have hkb := hc2.2.2.1
    have e103 := hc2.2.2.2.2.2.2.1
    refine r_astore_n (ls' := [_, _, _, _, _, _, _]) dX8_readSelector_5 (Nat.le_of_ble_eq_true rfl) (by first | exact zRv_ref _ | exact zRv_null | exact zRv_rf _ | assumption) rfl rfl ?_
    refine r_aload_n dX8_readSelector_6 rfl (by first | exact zRv_ref _ | exact zRv_null | exact zRv_rf _ | assumption) rfl ?_
    refine r_astore_n (ls' := [_, _, _, _, _, _, _]) dX8_readSelector_7 (Nat.le_of_ble_eq_true rfl) (by first | exact zRv_ref _ | exact zRv_null | exact zRv_rf _ | assumption) rfl rfl ?_
    refine r_aload_n dX8_readSelector_8 rfl (by first | exact zRv_ref _ | exact zRv_null | exact zRv_rf _ | assumption) rfl ?_
    refine r_ifnonnullR (r := 16) dX8_readSelector_9 (by decide) rfl (fun c_9 => ?_) (fun a_9 c_9 => ?_)
    · exact absurd c_9 (by simp)
    · refine r_aload_n dX8_readSelector_16 rfl (by first | exact zRv_ref _ | exact zRv_null | exact zRv_rf _ | assumption) rfl ?_
      refine r_getiv 0 3 103 lfX8_58 (by first | (simp only [zKS]; first | assumption | exact TBm.k (by assumption)) | assumption | exact TBm.k (by assumption) | exact zk_nself _ _ _ | (simp [zKS, zNS, *]; done)) rfl rfl (by first | (simp only [zGS, zMS, Nat.reduceEqDiff, OfNat.ofNat_ne_ofNat, false_and, and_false, true_and, and_true, and_self, if_true, if_false, ite_true, ite_false, reduceIte, reduceCtorEq]; first | done | assumption | rfl) | assumption | exact z2_eq | exact z1_eq | (simp [zGS, zMS]; first | done | assumption) | rfl) dX8_readSelector_17 rfl ?_
      refine r_istore_n (ls' := [_, _, _, _, _, _, _]) dX8_readSelector_20 (Nat.le_of_ble_eq_true rfl) rfl rfl ?_
      refine r_iconst dX8_readSelector_21 kc_1 rfl ?_
      refine r_istore (ls' := [_, _, _, _, _, _, _]) dX8_readSelector_22 (Nat.le_of_ble_eq_true rfl) rfl rfl ?_
      rw [← hw]
      exact rsel_loop E sg d hd tb tx sp nm w _ hn.1 3 _ _ [] (0, c) _ _ r1 (Nat.le_refl _) hv2 ⟨Nat.le_refl _, rfl, hc2.j, hc2.2.2.2.2.2.2.2.2⟩ hn2
