theorem rsels_loop (E : ZE) (sg : ZM) (d : Nat) (hd : 10 ≤ d) (tb tx sp nm : Nat) (w0 : ZW) (f0 : Nat) (hbb : TBb w0 tb tx sp nm) : ∀ (k : Nat) (w : ZW) (last : Nat) (ls : List (List (Nat × PComp))) (x : List (Nat × PComp)) (r : List Nat), k ≤ 2 → TBv zno tb sp nm w0 w → isSelsP w (zsz w0) f0 last (zsz w) ls x → TBn w tb tx sp nm r →
    RW E MX8_readSelectors 9 [some (.ref tb), some (.ref f0), some (.ref last), some (.int (nI (3 - k)))] [] w sg d (k * 85) (k * 380) (PN E (zqSS tb tx sp nm w0 sg (pSelsR (ls ++ [x]) (pSelsL k r))))
  | 0, w, last, ls, x, r, _, hv, h, hn => by
    have e9 : pSelsR (ls ++ [x]) (pSelsL 0 r) = some (ls ++ [x], r) := by simp [pSelsR, pSelsL]
    rw [e9]
    refine r_iload_n dX8_readSelectors_9 rfl rfl ?_
    refine r_iconst dX8_readSelectors_10 kc_3 rfl ?_
    refine r_icmp_geN (by omega) (by omega) (r := 46) dX8_readSelectors_11 (by decide) rfl (fun c_11 => ?_) (fun c_11 => ?_)
    · exact rsels_end E sg d tb tx sp nm w0 w f0 last ls x _ _ r hv h hn _ _
    · exact absurd c_11 (by omega)
  | k + 1, w, last, ls, x, r, hk, hv, h, hn => by
    have hn0 := hn
    obtain ⟨hb0, ss, hm⟩ := hn
    obtain ⟨b1, b2, b3, b4⟩ := hbb
    have hkl : zk w last = 7 := by
      obtain ⟨m, h1, h2, h3, h4, h5, h6⟩ := h
      exact h5.1
    have hlt : zsz w0 ≤ last ∧ last < zsz w := by
      obtain ⟨m, h1, h2, h3, h4, h5, h6⟩ := h
      exact ⟨by omega, h3⟩
    have hne : last ≠ tb ∧ last ≠ sp ∧ last ≠ nm := ⟨by omega, by omega, by omega⟩
    cases e1 : pCh 44 r with
    | none =>
      have h1 := pCh_none e1
      have e9 : pSelsR (ls ++ [x]) (pSelsL (k + 1) r) = some (ls ++ [x], r) := by simp [pSelsR, pSelsL, e1]
      rw [e9]
      refine r_iload_n dX8_readSelectors_9 rfl rfl ?_
      refine r_iconst dX8_readSelectors_10 kc_3 rfl ?_
      refine r_icmp_geN (by omega) (by omega) (r := 46) dX8_readSelectors_11 (by decide) rfl (fun c_11 => ?_) (fun c_11 => ?_)
      · exact absurd c_11 (by omega)
      · refine r_aload_n dX8_readSelectors_14 rfl (by first | exact zRv_ref _ | exact zRv_null | exact zRv_rf _ | assumption) rfl ?_
        refine r_ifnullR (r := 46) dX8_readSelectors_15 (by decide) rfl (fun c_15 => ?_) (fun a_15 c_15 => ?_)
        · exact absurd c_15 (by simp)
        · refine r_aload_n dX8_readSelectors_18 rfl (zRv_ref _) rfl ?_
          refine r_bipush dX8_readSelectors_19 kb_44 rfl ?_
          refine r_callV MX8_take 1 [_] lvX8_44 (Or.inl ⟨8, by decide, (by first | (simp only [zKS]; first | assumption | exact TBm.k (by assumption)) | assumption | exact TBm.k (by assumption) | exact zk_nself _ _ _ | (simp [zKS, zNS, *]; done)), rfl⟩) (sp_take E w sg (d - 1) tb tx sp nm 44 (by decide) r ss hm) rfl rfl (by first | exact Nat.le_of_ble_eq_true rfl | (simp [zcat_rf, Value.category]; done)) (by omega) (Nat.le_of_eq (Nat.zero_add _)) (Nat.le_of_eq (Nat.zero_add _)) dX8_readSelectors_21 rfl (fun v_ w_ sg_ hq_ => ?_)
          obtain ⟨rfl, hu1, rfl, hm1⟩ := hq_
          simp only [h1.1, h1.2] at hm1 ⊢
          refine r_if_eqB (r := 46) dX8_readSelectors_24 (by decide) rfl (fun c_24 => ?_) (fun c_24 => ?_)
          · have hv1 := hv.tr (hu1.v (X := zno)) (fun _ _ h => h)
            refine rsels_end E sg d tb tx sp nm w0 _ f0 last ls x _ _ r hv1 ?_ ⟨hu1.b hb0, _, hm1⟩ _ _
            obtain ⟨m, g1, g2, g3, g4, g5, g6⟩ := h
            have e12 : ∀ b, zsz w0 ≤ b → b < zsz w → zeq w _ b := fun b q1 q2 => (hu1.v (X := zno)).2.1 b q2 (fun e => e) (by omega) (by omega) (by omega)
            exact ⟨m, g1, g2, by rw [hu1.1]; exact g3, Seg.imp g4 (fun a z hz => ⟨hz.fr (Nat.le_refl _) (Nat.le_refl _) (fun b q1 q2 => e12 b q1 (by omega)), (e12 a (by obtain ⟨-, m2, k1, k2, -⟩ := hz; omega) (by have := hz.1; omega)).r 703⟩), g5.fr g2 (fun b q1 q2 => e12 b (by omega) (by omega)), ((e12 last hlt.1 hlt.2).r 703).trans g6⟩
          · exact absurd c_24 (by decide)
    | some r1 =>
      have h1 := pCh_some e1
      cases hP : pSel r1 with
      | none =>
        have e9 : pSelsR (ls ++ [x]) (pSelsL (k + 1) r) = none := by simp [pSelsR, pSelsL, e1, hP]
        rw [e9]
        refine r_iload_n dX8_readSelectors_9 rfl rfl ?_
        refine r_iconst dX8_readSelectors_10 kc_3 rfl ?_
        refine r_icmp_geN (by omega) (by omega) (r := 46) dX8_readSelectors_11 (by decide) rfl (fun c_11 => ?_) (fun c_11 => ?_)
        · exact absurd c_11 (by omega)
        · refine r_aload_n dX8_readSelectors_14 rfl (by first | exact zRv_ref _ | exact zRv_null | exact zRv_rf _ | assumption) rfl ?_
          refine r_ifnullR (r := 46) dX8_readSelectors_15 (by decide) rfl (fun c_15 => ?_) (fun a_15 c_15 => ?_)
          · exact absurd c_15 (by simp)
          · refine r_aload_n dX8_readSelectors_18 rfl (zRv_ref _) rfl ?_
            refine r_bipush dX8_readSelectors_19 kb_44 rfl ?_
            refine r_callV MX8_take 1 [_] lvX8_44 (Or.inl ⟨8, by decide, (by first | (simp only [zKS]; first | assumption | exact TBm.k (by assumption)) | assumption | exact TBm.k (by assumption) | exact zk_nself _ _ _ | (simp [zKS, zNS, *]; done)), rfl⟩) (sp_take E w sg (d - 1) tb tx sp nm 44 (by decide) r ss hm) rfl rfl (by first | exact Nat.le_of_ble_eq_true rfl | (simp [zcat_rf, Value.category]; done)) (by omega) (Nat.le_of_eq (Nat.zero_add _)) (Nat.le_of_eq (Nat.zero_add _)) dX8_readSelectors_21 rfl (fun v_ w_ sg_ hq_ => ?_)
            obtain ⟨rfl, hu1, rfl, hm1⟩ := hq_
            simp only [h1.1, h1.2] at hm1 ⊢
            refine r_if_eqB (r := 46) dX8_readSelectors_24 (by decide) rfl (fun c_24 => ?_) (fun c_24 => ?_)
            · exact absurd c_24 (by decide)
            · refine r_aload_n dX8_readSelectors_27 rfl (by first | exact zRv_ref _ | exact zRv_null | exact zRv_rf _ | assumption) rfl ?_
              refine r_aload_n dX8_readSelectors_28 rfl (zRv_ref _) rfl ?_
              refine r_callV MX8_readSelector 0 (a := k * 85) (a' := k * 380) [] lvX8_40 (Or.inl ⟨8, by decide, (by first | (simp only [zKS]; first | assumption | exact TBm.k (by assumption)) | assumption | exact TBm.k (by assumption) | exact zk_nself _ _ _ | (simp [zKS, zNS, *]; done)), rfl⟩) (sp_sel E sg (d - 1) (by omega) tb tx sp nm _ r1 ⟨hu1.b hb0, _, hm1⟩) rfl rfl (by first | exact Nat.le_of_ble_eq_true rfl | (simp [zcat_rf, Value.category]; done)) (by omega) (by first | omega | exact Nat.le_of_eq ((Nat.add_comm _ _).trans (Nat.succ_mul _ _).symm)) (by first | omega | exact Nat.le_of_eq ((Nat.add_comm _ _).trans (Nat.succ_mul _ _).symm)) dX8_readSelectors_29 rfl (fun v_ w_ sg_ hq_ => ?_)
              rw [hP] at hq_
              obtain ⟨rfl, hv2, rfl, hb2, hx2⟩ := hq_
              have hv12 := (hu1.v (X := zno)).tr hv2 (fun _ _ h => h)
              have hkl2 := ((hv12.2.1 last hlt.2 (fun e => e) hne.1 hne.2.1 hne.2.2).k).trans hkl
              refine r_putn 6 3 703 lfX8_48 (by first | (simp only [zKS]; first | assumption | exact TBm.k (by assumption)) | assumption | exact TBm.k (by assumption) | exact zk_nself _ _ _ | (simp [zKS, zNS, *]; done)) rfl rfl rfl (Or.inl rfl) dX8_readSelectors_32 rfl ?_
              refine r_aload_n dX8_readSelectors_35 rfl (by first | exact zRv_ref _ | exact zRv_null | exact zRv_rf _ | assumption) rfl ?_
              refine r_getr 6 3 703 lfX8_48 (by first | (simp only [zKS]; first | assumption | exact TBm.k (by assumption)) | assumption | exact TBm.k (by assumption) | exact zk_nself _ _ _ | (simp [zKS, zNS, *]; done)) rfl rfl dX8_readSelectors_36 rfl ?_
              refine r_astore_n (ls' := [_, _, _, _]) dX8_readSelectors_39 (Nat.le_of_ble_eq_true rfl) (by first | exact zRv_ref _ | exact zRv_null | exact zRv_rf _ | assumption) rfl rfl ?_
              refine r_iinc (ls' := [_, _, _, _]) dX8_readSelectors_40 (Nat.le_of_ble_eq_true rfl) rfl (zinc1 _) rfl rfl ?_
              refine r_goto (r := 9) dX8_readSelectors_43 (by decide) ?_
              have hv3 := hv.tr hv12 (fun _ _ h => h)
              rw [show zr (zsr _ 703 last none) 703 last = none by simp [zGS]]
              exact rsels_null E sg d tb tx sp nm w0 _ _ _ (3 - (k + 1) + 1) _ _ (by omega) ⟨hv3.1, fun y g1 g2 g3 g4 g5 => (hv3.2.1 y g1 g2 g3 g4 g5).tr (zeq.sr (by omega)), ((zeq.sr (Ne.symm hne.1)).i 901).trans hv3.2.2⟩ hb2 (hx2.fr (zeq.sr (by omega)) (zeq.sr (by omega)) (zeq.sr (by omega)) (zeq.sr (by omega)))
      | some q =>
        obtain ⟨y, r2⟩ := q
        have e9 : pSelsR (ls ++ [x]) (pSelsL (k + 1) r) = pSelsR ((ls ++ [x]) ++ [y]) (pSelsL k r2) := by
          simp only [pSelsL, e1, hP]
          cases pSelsL k r2 with
          | none => rfl
          | some q => simp [pSelsR]
        rw [e9]
        refine r_iload_n dX8_readSelectors_9 rfl rfl ?_
        refine r_iconst dX8_readSelectors_10 kc_3 rfl ?_
        refine r_icmp_geN (by omega) (by omega) (r := 46) dX8_readSelectors_11 (by decide) rfl (fun c_11 => ?_) (fun c_11 => ?_)
        · exact absurd c_11 (by omega)
        · refine r_aload_n dX8_readSelectors_14 rfl (by first | exact zRv_ref _ | exact zRv_null | exact zRv_rf _ | assumption) rfl ?_
          refine r_ifnullR (r := 46) dX8_readSelectors_15 (by decide) rfl (fun c_15 => ?_) (fun a_15 c_15 => ?_)
          · exact absurd c_15 (by simp)
          · refine r_aload_n dX8_readSelectors_18 rfl (zRv_ref _) rfl ?_
            refine r_bipush dX8_readSelectors_19 kb_44 rfl ?_
            refine r_callV MX8_take 1 [_] lvX8_44 (Or.inl ⟨8, by decide, (by first | (simp only [zKS]; first | assumption | exact TBm.k (by assumption)) | assumption | exact TBm.k (by assumption) | exact zk_nself _ _ _ | (simp [zKS, zNS, *]; done)), rfl⟩) (sp_take E w sg (d - 1) tb tx sp nm 44 (by decide) r ss hm) rfl rfl (by first | exact Nat.le_of_ble_eq_true rfl | (simp [zcat_rf, Value.category]; done)) (by omega) (Nat.le_of_eq (Nat.zero_add _)) (Nat.le_of_eq (Nat.zero_add _)) dX8_readSelectors_21 rfl (fun v_ w_ sg_ hq_ => ?_)
            obtain ⟨rfl, hu1, rfl, hm1⟩ := hq_
            simp only [h1.1, h1.2] at hm1 ⊢
            refine r_if_eqB (r := 46) dX8_readSelectors_24 (by decide) rfl (fun c_24 => ?_) (fun c_24 => ?_)
            · exact absurd c_24 (by decide)
            · refine r_aload_n dX8_readSelectors_27 rfl (by first | exact zRv_ref _ | exact zRv_null | exact zRv_rf _ | assumption) rfl ?_
              refine r_aload_n dX8_readSelectors_28 rfl (zRv_ref _) rfl ?_
              refine r_callV MX8_readSelector 0 (a := k * 85) (a' := k * 380) [] lvX8_40 (Or.inl ⟨8, by decide, (by first | (simp only [zKS]; first | assumption | exact TBm.k (by assumption)) | assumption | exact TBm.k (by assumption) | exact zk_nself _ _ _ | (simp [zKS, zNS, *]; done)), rfl⟩) (sp_sel E sg (d - 1) (by omega) tb tx sp nm _ r1 ⟨hu1.b hb0, _, hm1⟩) rfl rfl (by first | exact Nat.le_of_ble_eq_true rfl | (simp [zcat_rf, Value.category]; done)) (by omega) (by first | omega | exact Nat.le_of_eq ((Nat.add_comm _ _).trans (Nat.succ_mul _ _).symm)) (by first | omega | exact Nat.le_of_eq ((Nat.add_comm _ _).trans (Nat.succ_mul _ _).symm)) dX8_readSelectors_29 rfl (fun v_ w_ sg_ hq_ => ?_)
              rw [hP] at hq_
              obtain ⟨rfl, hv2, s2, rfl, hs1, hs2, hc2, hc3, hn2⟩ := hq_
              have hv12 := (hu1.v (X := zno)).tr hv2 (fun _ _ h => h)
              have hkl2 := ((hv12.2.1 last hlt.2 (fun e => e) hne.1 hne.2.1 hne.2.2).k).trans hkl
              refine r_puts 6 3 703 lfX8_48 (by first | (simp only [zKS]; first | assumption | exact TBm.k (by assumption)) | assumption | exact TBm.k (by assumption) | exact zk_nself _ _ _ | (simp [zKS, zNS, *]; done)) rfl rfl rfl (Or.inl rfl) dX8_readSelectors_32 rfl ?_
              refine r_aload_n dX8_readSelectors_35 rfl (by first | exact zRv_ref _ | exact zRv_null | exact zRv_rf _ | assumption) rfl ?_
              refine r_gets 6 3 703 lfX8_48 (by first | (simp only [zKS]; first | assumption | exact TBm.k (by assumption)) | assumption | exact TBm.k (by assumption) | exact zk_nself _ _ _ | (simp [zKS, zNS, *]; done)) rfl rfl (by first | (simp only [zGS, Nat.reduceEqDiff, OfNat.ofNat_ne_ofNat, false_and, and_false, true_and, and_true, and_self, if_true, if_false, ite_true, ite_false, reduceIte, reduceCtorEq]; first | done | assumption) | assumption | exact z2_eq | (simp [zGS]; first | done | assumption)) dX8_readSelectors_36 rfl ?_
              refine r_astore_n (ls' := [_, _, _, _]) dX8_readSelectors_39 (Nat.le_of_ble_eq_true rfl) (zRv_ref _) rfl rfl ?_
              refine r_iinc (ls' := [_, _, _, _]) dX8_readSelectors_40 (Nat.le_of_ble_eq_true rfl) rfl (zinc1 _) rfl rfl ?_
              refine r_goto (r := 9) dX8_readSelectors_43 (by decide) ?_
              rw [show 3 - (k + 1) + 1 = 3 - k by omega]
              obtain ⟨j1, j2, j3⟩ := selsStep ⟨b1, b2, b3, b4⟩ hv h hu1 hv2 hs1 hs2 hc2 hc3 hn2
              exact rsels_loop E sg d hd tb tx sp nm w0 f0 ⟨b1, b2, b3, b4⟩ k _ _ (ls ++ [x]) y r2 (by omega) j1 j2 j3
theorem sp_sels (E : ZE) (sg : ZM) (d : Nat) (hd : 10 ≤ d) (tb tx sp nm : Nat) (w : ZW) (r : List Nat) (hn : TBn w tb tx sp nm r) : CallQ E MX8_readSelectors [.ref tb] w sg d 255 1140 (zqSS tb tx sp nm w sg (pSels r)) := by
  have hk := hn.2.choose_spec.k
  refine CallQ.of rfl (by simp [Value.category]) (Nat.le_of_ble_eq_true rfl) ?_
  cases hP : pSel r with
  | none =>
    have e9 : pSels r = none := by simp [pSels, hP]
    rw [e9]
    refine r_aload_n dX8_readSelectors_0 rfl (zRv_ref _) rfl ?_
    refine r_callV MX8_readSelector 0 (a := 2 * 85) (a' := 2 * 380) [] lvX8_40 (Or.inl ⟨8, by decide, (by first | (simp only [zKS]; first | assumption | exact TBm.k (by assumption)) | assumption | exact TBm.k (by assumption) | exact zk_nself _ _ _ | (simp [zKS, zNS, *]; done)), rfl⟩) (sp_sel E sg (d - 1) (by omega) tb tx sp nm _ r hn) rfl rfl (by first | exact Nat.le_of_ble_eq_true rfl | (simp [zcat_rf, Value.category]; done)) (by omega) (by first | omega | exact Nat.le_of_eq ((Nat.add_comm _ _).trans (Nat.succ_mul _ _).symm)) (by first | omega | exact Nat.le_of_eq ((Nat.add_comm _ _).trans (Nat.succ_mul _ _).symm)) dX8_readSelectors_1 rfl (fun v_ w_ sg_ hq_ => ?_)
    rw [hP] at hq_
    obtain ⟨rfl, hv2, rfl, hb2, hx2⟩ := hq_
    refine r_astore_n (ls' := [_, _, _, _]) dX8_readSelectors_4 (Nat.le_of_ble_eq_true rfl) (by first | exact zRv_ref _ | exact zRv_null | exact zRv_rf _ | assumption) rfl rfl ?_
    refine r_aload_n dX8_readSelectors_5 rfl (by first | exact zRv_ref _ | exact zRv_null | exact zRv_rf _ | assumption) rfl ?_
    refine r_astore_n (ls' := [_, _, _, _]) dX8_readSelectors_6 (Nat.le_of_ble_eq_true rfl) (by first | exact zRv_ref _ | exact zRv_null | exact zRv_rf _ | assumption) rfl rfl ?_
    refine r_iconst dX8_readSelectors_7 kc_1 rfl ?_
    refine r_istore_n (ls' := [_, _, _, _]) dX8_readSelectors_8 (Nat.le_of_ble_eq_true rfl) rfl rfl ?_
    exact rsels_null E sg d tb tx sp nm w _ _ _ 1 _ _ (by decide) hv2 hb2 hx2
  | some q =>
    obtain ⟨x, r1⟩ := q
    have e9 : pSels r = pSelsR ([] ++ [x]) (pSelsL 2 r1) := by
      simp only [pSels, hP]
      cases pSelsL 2 r1 with
      | none => rfl
      | some q => rfl
    rw [e9]
    refine r_aload_n dX8_readSelectors_0 rfl (zRv_ref _) rfl ?_
    refine r_callV MX8_readSelector 0 (a := 2 * 85) (a' := 2 * 380) [] lvX8_40 (Or.inl ⟨8, by decide, (by first | (simp only [zKS]; first | assumption | exact TBm.k (by assumption)) | assumption | exact TBm.k (by assumption) | exact zk_nself _ _ _ | (simp [zKS, zNS, *]; done)), rfl⟩) (sp_sel E sg (d - 1) (by omega) tb tx sp nm _ r hn) rfl rfl (by first | exact Nat.le_of_ble_eq_true rfl | (simp [zcat_rf, Value.category]; done)) (by omega) (by first | omega | exact Nat.le_of_eq ((Nat.add_comm _ _).trans (Nat.succ_mul _ _).symm)) (by first | omega | exact Nat.le_of_eq ((Nat.add_comm _ _).trans (Nat.succ_mul _ _).symm)) dX8_readSelectors_1 rfl (fun v_ w_ sg_ hq_ => ?_)
    rw [hP] at hq_
    obtain ⟨rfl, hv2, s2, rfl, hs1, hs2, hc2, hc3, hn2⟩ := hq_
    refine r_astore_n (ls' := [_, _, _, _]) dX8_readSelectors_4 (Nat.le_of_ble_eq_true rfl) (by first | exact zRv_ref _ | exact zRv_null | exact zRv_rf _ | assumption) rfl rfl ?_
    refine r_aload_n dX8_readSelectors_5 rfl (by first | exact zRv_ref _ | exact zRv_null | exact zRv_rf _ | assumption) rfl ?_
    refine r_astore_n (ls' := [_, _, _, _]) dX8_readSelectors_6 (Nat.le_of_ble_eq_true rfl) (by first | exact zRv_ref _ | exact zRv_null | exact zRv_rf _ | assumption) rfl rfl ?_
    refine r_iconst dX8_readSelectors_7 kc_1 rfl ?_
    refine r_istore_n (ls' := [_, _, _, _]) dX8_readSelectors_8 (Nat.le_of_ble_eq_true rfl) rfl rfl ?_
    exact rsels_loop E sg d hd tb tx sp nm w s2 hn.1 2 _ s2 [] x r1 (Nat.le_refl _) hv2 ⟨zsz w, Nat.le_refl _, hs1, Nat.le_of_eq hs2, rfl, hc2, hc3⟩ hn2
