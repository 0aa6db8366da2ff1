/-! ===== compounds ===== -/
def okPs (ps : List PPart) : Prop := ∀ p ∈ ps, p.1 < 4
theorem rbare_loop (E : ZE) (w : ZW) (sg : ZM) (d lo hi c e : Nat) (hd : 2 ≤ d) (T : List PEl) (A : Nat → Nat) (hT : isEls w T A) (he : e < T.length) : ∀ (ps : List PPart) (o : Option Nat), Seg (isPart w lo hi) w 403 o ps none → okPs ps → RW E MX0_fitsBare 25 [some (.ref c), some (.ref (A e)), some (va_rf o)] [] w sg d 0 0 (PN E (fun v w' sg' => v = some (.int (zb (ps.all (holdP T e)))) ∧ w = w' ∧ sg = sg'))
  | [], o, h, hk => by
    have h9 : o = none := h
    subst h9
    refine r_aload_n dX0_fitsBare_25 rfl (by first | exact zRv_ref _ | exact zRv_null | exact zRv_rf _ | assumption) rfl ?_
    refine r_ifnullZ (r := 47) dX0_fitsBare_26 (by decide) rfl (fun c_26 => ?_) (fun a_26 c_26 => ?_)
    · refine r_iconst dX0_fitsBare_47 kc_1 rfl ?_
      refine r_zret .boolean rfl rfl dX0_fitsBare_48 ?_
      exact ⟨rfl, rfl, rfl⟩
    · cases c_26
  | p :: ps, o, h, hk => by
    obtain ⟨a, rfl, h1, h2⟩ := h
    have k1 := h1.2.2.1
    have hk1 := hk p List.mem_cons_self
    refine r_aload_n dX0_fitsBare_25 rfl (by first | exact zRv_ref _ | exact zRv_null | exact zRv_rf _ | assumption) rfl ?_
    refine r_ifnullR (r := 47) dX0_fitsBare_26 (by decide) rfl (fun c_26 => ?_) (fun a_26 c_26 => ?_)
    · cases c_26
    · refine r_aload_n dX0_fitsBare_29 rfl (by first | exact zRv_ref _ | exact zRv_null | exact zRv_rf _ | assumption) rfl ?_
      refine r_aload_n dX0_fitsBare_30 rfl (by first | exact zRv_ref _ | exact zRv_null | exact zRv_rf _ | assumption) rfl ?_
      refine r_callV MX3_holds 1 [_] lvX0_44 (Or.inl ⟨3, by decide, (by first | (simp only [zKS]; first | assumption) | assumption | exact zk_nself _ _ _ | (simp [zKS, zNS, *]; done)), rfl⟩) (sp_holds E w sg (d - 1) lo hi a e (by omega) p h1 hk1 T A hT he) rfl rfl (by first | exact Nat.le_of_ble_eq_true rfl | (simp [zcat_rf, Value.category]; done)) (by omega) (Nat.le_of_eq (Nat.zero_add _)) (Nat.le_of_eq (Nat.zero_add _)) dX0_fitsBare_31 rfl (fun v_ w_ sg_ hq_ => ?_)
      obtain ⟨rfl, rfl, rfl⟩ := hq_
      refine r_if_neB (r := 39) dX0_fitsBare_34 (by decide) rfl (fun c_34 => ?_) (fun c_34 => ?_)
      · refine r_aload_n dX0_fitsBare_39 rfl (by first | exact zRv_ref _ | exact zRv_null | exact zRv_rf _ | assumption) rfl ?_
        refine r_getr 3 3 403 lfX0_30 (by first | (simp only [zKS]; first | assumption) | assumption | exact zk_nself _ _ _ | (simp [zKS, zNS, *]; done)) rfl rfl dX0_fitsBare_40 rfl ?_
        refine r_astore_n (ls' := [_, _, _]) dX0_fitsBare_43 (Nat.le_of_ble_eq_true rfl) (by first | exact zRv_ref _ | exact zRv_null | exact zRv_rf _ | assumption) rfl rfl ?_
        refine r_goto (r := 25) dX0_fitsBare_44 (by decide) ?_
        rw [List.all_cons, c_34, Bool.true_and]
        exact rbare_loop E w sg d lo hi c e hd T A hT he ps _ h2 (fun x hx => hk x (List.mem_cons_of_mem _ hx))
      · refine r_iconst dX0_fitsBare_37 kc_0 rfl ?_
        refine r_zret .boolean rfl rfl dX0_fitsBare_38 ?_
        rw [List.all_cons, c_34, Bool.false_and]
        exact ⟨rfl, rfl, rfl⟩
theorem sp_fitsBare (E : ZE) (w : ZW) (sg : ZM) (d lo hi c e t : Nat) (hd : 2 ≤ d) (ht : t < 128) (ps : List PPart) (hc : zk w c = 1) (hg : zi w 100 c = nI t) (hps : Seg (isPart w lo hi) w 403 (zr w 101 c) ps none) (hk : okPs ps) (T : List PEl) (A : Nat → Nat) (hT : isEls w T A) (he : e < T.length) : CallQ E MX0_fitsBare [.ref c, .ref (A e)] w sg d 0 0 (fun v w' sg' => v = some (.int (zb (fitB T e t ps))) ∧ w = w' ∧ sg = sg') := by
  have hw := hT.1
  obtain ⟨f0, -, f1, f2, -⟩ := hT.2 e he
  have hg2 := (hw.2.2 e).1
  refine CallQ.of rfl (by simp [Value.category]) (Nat.le_of_ble_eq_true rfl) ?_
  unfold fitB
  have hl := rbare_loop E w sg d lo hi c e hd T A hT he ps (zr w 101 c) hps hk
  by_cases h0 : t = 0
  · subst h0
    refine r_aload_n dX0_fitsBare_0 rfl (zRv_ref _) rfl ?_
    refine r_getiv 0 0 100 lfX0_7 (by first | (simp only [zKS]; first | assumption) | assumption | exact zk_nself _ _ _ | (simp [zKS, zNS, *]; done)) rfl rfl (by first | (simp only [zGS, zMS, Nat.reduceEqDiff, OfNat.ofNat_ne_ofNat, false_and, and_false, true_and, and_true, and_self, if_true, if_false, ite_true, ite_false, reduceIte, reduceCtorEq]; first | done | assumption | rfl) | assumption | exact z2_eq | exact z1_eq | (simp [zGS, zMS]; first | done | assumption) | rfl) dX0_fitsBare_1 rfl ?_
    refine r_if_eqN (by omega) (r := 20) dX0_fitsBare_4 (by decide) rfl (fun c_4 => ?_) (fun c_4 => ?_)
    · refine r_aload_n dX0_fitsBare_20 rfl (zRv_ref _) rfl ?_
      refine r_getr 0 1 101 lfX0_13 (by first | (simp only [zKS]; first | assumption) | assumption | exact zk_nself _ _ _ | (simp [zKS, zNS, *]; done)) rfl rfl dX0_fitsBare_21 rfl ?_
      refine r_astore_n (ls' := [_, _, _]) dX0_fitsBare_24 (Nat.le_of_ble_eq_true rfl) (by first | exact zRv_ref _ | exact zRv_null | exact zRv_rf _ | assumption) rfl rfl ?_
      rw [show (decide (0 = 0) || decide (0 = tG T e)) = true from rfl, Bool.true_and]
      exact hl
    · exact absurd rfl c_4
  · by_cases h1 : t = tG T e
    · skip
      refine r_aload_n dX0_fitsBare_0 rfl (zRv_ref _) rfl ?_
      refine r_getiv 0 0 100 lfX0_7 (by first | (simp only [zKS]; first | assumption) | assumption | exact zk_nself _ _ _ | (simp [zKS, zNS, *]; done)) rfl rfl (by first | (simp only [zGS, zMS, Nat.reduceEqDiff, OfNat.ofNat_ne_ofNat, false_and, and_false, true_and, and_true, and_self, if_true, if_false, ite_true, ite_false, reduceIte, reduceCtorEq]; first | done | assumption | rfl) | assumption | exact z2_eq | exact z1_eq | (simp [zGS, zMS]; first | done | assumption) | rfl) dX0_fitsBare_1 rfl ?_
      refine r_if_eqN (by omega) (r := 20) dX0_fitsBare_4 (by decide) rfl (fun c_4 => ?_) (fun c_4 => ?_)
      · exact absurd c_4 h0
      · refine r_aload_n dX0_fitsBare_7 rfl (zRv_ref _) rfl ?_
        refine r_getiv 0 0 100 lfX0_7 (by first | (simp only [zKS]; first | assumption) | assumption | exact zk_nself _ _ _ | (simp [zKS, zNS, *]; done)) rfl rfl (by first | (simp only [zGS, zMS, Nat.reduceEqDiff, OfNat.ofNat_ne_ofNat, false_and, and_false, true_and, and_true, and_self, if_true, if_false, ite_true, ite_false, reduceIte, reduceCtorEq]; first | done | assumption | rfl) | assumption | exact z2_eq | exact z1_eq | (simp [zGS, zMS]; first | done | assumption) | rfl) dX0_fitsBare_8 rfl ?_
        refine r_aload_n dX0_fitsBare_11 rfl (by first | exact zRv_ref _ | exact zRv_null | exact zRv_rf _ | assumption) rfl ?_
        refine r_getiv 2 1 301 lfX0_41 (by first | (simp only [zKS]; first | assumption) | assumption | exact zk_nself _ _ _ | (simp [zKS, zNS, *]; done)) rfl rfl (by first | (simp only [zGS, zMS, Nat.reduceEqDiff, OfNat.ofNat_ne_ofNat, false_and, and_false, true_and, and_true, and_self, if_true, if_false, ite_true, ite_false, reduceIte, reduceCtorEq]; first | done | assumption | rfl) | assumption | exact z2_eq | exact z1_eq | (simp [zGS, zMS]; first | done | assumption) | rfl) dX0_fitsBare_12 rfl ?_
        refine r_icmp_eqN (by omega) (by omega) (r := 20) dX0_fitsBare_15 (by decide) rfl (fun c_15 => ?_) (fun c_15 => ?_)
        · refine r_aload_n dX0_fitsBare_20 rfl (zRv_ref _) rfl ?_
          refine r_getr 0 1 101 lfX0_13 (by first | (simp only [zKS]; first | assumption) | assumption | exact zk_nself _ _ _ | (simp [zKS, zNS, *]; done)) rfl rfl dX0_fitsBare_21 rfl ?_
          refine r_astore_n (ls' := [_, _, _]) dX0_fitsBare_24 (Nat.le_of_ble_eq_true rfl) (by first | exact zRv_ref _ | exact zRv_null | exact zRv_rf _ | assumption) rfl rfl ?_
          rw [decide_eq_true h1, Bool.or_true, Bool.true_and]
          exact hl
        · exact absurd h1 c_15
    · skip
      refine r_aload_n dX0_fitsBare_0 rfl (zRv_ref _) rfl ?_
      refine r_getiv 0 0 100 lfX0_7 (by first | (simp only [zKS]; first | assumption) | assumption | exact zk_nself _ _ _ | (simp [zKS, zNS, *]; done)) rfl rfl (by first | (simp only [zGS, zMS, Nat.reduceEqDiff, OfNat.ofNat_ne_ofNat, false_and, and_false, true_and, and_true, and_self, if_true, if_false, ite_true, ite_false, reduceIte, reduceCtorEq]; first | done | assumption | rfl) | assumption | exact z2_eq | exact z1_eq | (simp [zGS, zMS]; first | done | assumption) | rfl) dX0_fitsBare_1 rfl ?_
      refine r_if_eqN (by omega) (r := 20) dX0_fitsBare_4 (by decide) rfl (fun c_4 => ?_) (fun c_4 => ?_)
      · exact absurd c_4 h0
      · refine r_aload_n dX0_fitsBare_7 rfl (zRv_ref _) rfl ?_
        refine r_getiv 0 0 100 lfX0_7 (by first | (simp only [zKS]; first | assumption) | assumption | exact zk_nself _ _ _ | (simp [zKS, zNS, *]; done)) rfl rfl (by first | (simp only [zGS, zMS, Nat.reduceEqDiff, OfNat.ofNat_ne_ofNat, false_and, and_false, true_and, and_true, and_self, if_true, if_false, ite_true, ite_false, reduceIte, reduceCtorEq]; first | done | assumption | rfl) | assumption | exact z2_eq | exact z1_eq | (simp [zGS, zMS]; first | done | assumption) | rfl) dX0_fitsBare_8 rfl ?_
        refine r_aload_n dX0_fitsBare_11 rfl (by first | exact zRv_ref _ | exact zRv_null | exact zRv_rf _ | assumption) rfl ?_
        refine r_getiv 2 1 301 lfX0_41 (by first | (simp only [zKS]; first | assumption) | assumption | exact zk_nself _ _ _ | (simp [zKS, zNS, *]; done)) rfl rfl (by first | (simp only [zGS, zMS, Nat.reduceEqDiff, OfNat.ofNat_ne_ofNat, false_and, and_false, true_and, and_true, and_self, if_true, if_false, ite_true, ite_false, reduceIte, reduceCtorEq]; first | done | assumption | rfl) | assumption | exact z2_eq | exact z1_eq | (simp [zGS, zMS]; first | done | assumption) | rfl) dX0_fitsBare_12 rfl ?_
        refine r_icmp_eqN (by omega) (by omega) (r := 20) dX0_fitsBare_15 (by decide) rfl (fun c_15 => ?_) (fun c_15 => ?_)
        · exact absurd c_15 h1
        · refine r_iconst dX0_fitsBare_18 kc_0 rfl ?_
          refine r_zret .boolean rfl rfl dX0_fitsBare_19 ?_
          rw [decide_eq_false h0, decide_eq_false h1, Bool.or_false, Bool.false_and]
          exact ⟨rfl, rfl, rfl⟩
def okB1 (b : PBare) : Prop := b.1 < 128 ∧ okPs b.2
def okC (c : PComp) : Prop := c.1 < 128 ∧ okPs c.2.1 ∧ ∀ b ∈ c.2.2, okB1 b
theorem rfits_loop (E : ZE) (w : ZW) (sg : ZM) (d lo hi c e t : Nat) (hd : 3 ≤ d) (ht : t < 128) (ps : List PPart) (hc : zk w c = 1) (hg : zi w 100 c = nI t) (hps : Seg (isPart w lo hi) w 403 (zr w 101 c) ps none) (hk : okPs ps) (T : List PEl) (A : Nat → Nat) (hT : isEls w T A) (he : e < T.length) : ∀ (bs : List PBare) (o : Option Nat), Seg (isBare w lo hi) w 105 o bs none → (∀ b ∈ bs, okB1 b) → RW E MX0_fits 5 [some (.ref c), some (.ref (A e)), some (va_rf o)] [] w sg d 0 0 (PN E (fun v w' sg' => v = some (.int (zb ((bs.all fun b => !fitB T e b.1 b.2) && fitB T e t ps))) ∧ w = w' ∧ sg = sg'))
  | [], o, h, hk9 => by
    have h9 : o = none := h
    subst h9
    refine r_aload_n dX0_fits_5 rfl (by first | exact zRv_ref _ | exact zRv_null | exact zRv_rf _ | assumption) rfl ?_
    refine r_ifnullZ (r := 27) dX0_fits_6 (by decide) rfl (fun c_6 => ?_) (fun a_6 c_6 => ?_)
    · refine r_aload_n dX0_fits_27 rfl (zRv_ref _) rfl ?_
      refine r_aload_n dX0_fits_28 rfl (by first | exact zRv_ref _ | exact zRv_null | exact zRv_rf _ | assumption) rfl ?_
      refine r_callV MX0_fitsBare 1 [_] lvX0_37 (Or.inl ⟨0, by decide, (by first | (simp only [zKS]; first | assumption) | assumption | exact zk_nself _ _ _ | (simp [zKS, zNS, *]; done)), rfl⟩) (sp_fitsBare E w sg (d - 1) lo hi c e t (by omega) ht ps hc hg hps hk T A hT he) rfl rfl (by first | exact Nat.le_of_ble_eq_true rfl | (simp [zcat_rf, Value.category]; done)) (by omega) (Nat.le_of_eq (Nat.zero_add _)) (Nat.le_of_eq (Nat.zero_add _)) dX0_fits_29 rfl (fun v_ w_ sg_ hq_ => ?_)
      obtain ⟨rfl, rfl, rfl⟩ := hq_
      refine r_zret .boolean rfl (zb_nar _) dX0_fits_32 ?_
      exact ⟨rfl, rfl, rfl⟩
    · cases c_6
  | b :: bs, o, h, hk9 => by
    obtain ⟨a, rfl, h1, h2⟩ := h
    have k1 := h1.2.2.1
    have hk1 := hk9 b List.mem_cons_self
    refine r_aload_n dX0_fits_5 rfl (by first | exact zRv_ref _ | exact zRv_null | exact zRv_rf _ | assumption) rfl ?_
    refine r_ifnullR (r := 27) dX0_fits_6 (by decide) rfl (fun c_6 => ?_) (fun a_6 c_6 => ?_)
    · cases c_6
    · refine r_aload_n dX0_fits_9 rfl (by first | exact zRv_ref _ | exact zRv_null | exact zRv_rf _ | assumption) rfl ?_
      refine r_aload_n dX0_fits_10 rfl (by first | exact zRv_ref _ | exact zRv_null | exact zRv_rf _ | assumption) rfl ?_
      refine r_callV MX0_fitsBare 1 [_] lvX0_37 (Or.inl ⟨0, by decide, (by first | (simp only [zKS]; first | assumption) | assumption | exact zk_nself _ _ _ | (simp [zKS, zNS, *]; done)), rfl⟩) (sp_fitsBare E w sg (d - 1) (a + 1) hi a e b.1 (by omega) hk1.1 b.2 k1 h1.2.2.2.1 h1.2.2.2.2.1 hk1.2 T A hT he) rfl rfl (by first | exact Nat.le_of_ble_eq_true rfl | (simp [zcat_rf, Value.category]; done)) (by omega) (Nat.le_of_eq (Nat.zero_add _)) (Nat.le_of_eq (Nat.zero_add _)) dX0_fits_11 rfl (fun v_ w_ sg_ hq_ => ?_)
      obtain ⟨rfl, rfl, rfl⟩ := hq_
      refine r_if_eqB (r := 19) dX0_fits_14 (by decide) rfl (fun c_14 => ?_) (fun c_14 => ?_)
      · refine r_aload_n dX0_fits_19 rfl (by first | exact zRv_ref _ | exact zRv_null | exact zRv_rf _ | assumption) rfl ?_
        refine r_getr 0 5 105 lfX0_27 (by first | (simp only [zKS]; first | assumption) | assumption | exact zk_nself _ _ _ | (simp [zKS, zNS, *]; done)) rfl rfl dX0_fits_20 rfl ?_
        refine r_astore_n (ls' := [_, _, _]) dX0_fits_23 (Nat.le_of_ble_eq_true rfl) (by first | exact zRv_ref _ | exact zRv_null | exact zRv_rf _ | assumption) rfl rfl ?_
        refine r_goto (r := 5) dX0_fits_24 (by decide) ?_
        rw [List.all_cons, c_14, Bool.not_false, Bool.true_and]
        exact rfits_loop E w sg d lo hi c e t hd ht ps hc hg hps hk T A hT he bs _ h2 (fun x hx => hk9 x (List.mem_cons_of_mem _ hx))
      · refine r_iconst dX0_fits_17 kc_0 rfl ?_
        refine r_zret .boolean rfl rfl dX0_fits_18 ?_
        rw [List.all_cons, c_14, Bool.not_true, Bool.false_and, Bool.false_and]
        exact ⟨rfl, rfl, rfl⟩
theorem sp_fits (E : ZE) (w : ZW) (sg : ZM) (d lo hi c e : Nat) (hd : 3 ≤ d) (C : PComp) (hC : okC C) (hc : zk w c = 1) (hg : zi w 100 c = nI C.1) (hps : isParts w lo hi (zr w 101 c) C.2.1) (hbs : isBares w lo hi (zr w 102 c) C.2.2) (T : List PEl) (A : Nat → Nat) (hT : isEls w T A) (he : e < T.length) : CallQ E MX0_fits [.ref c, .ref (A e)] w sg d 0 0 (fun v w' sg' => v = some (.int (zb (fitC T e C))) ∧ w = w' ∧ sg = sg') := by
  refine CallQ.of rfl (by simp [Value.category]) (Nat.le_of_ble_eq_true rfl) ?_
  refine r_aload_n dX0_fits_0 rfl (zRv_ref _) rfl ?_
  refine r_getr 0 2 102 lfX0_17 (by first | (simp only [zKS]; first | assumption) | assumption | exact zk_nself _ _ _ | (simp [zKS, zNS, *]; done)) rfl rfl dX0_fits_1 rfl ?_
  refine r_astore_n (ls' := [_, _, _]) dX0_fits_4 (Nat.le_of_ble_eq_true rfl) (by first | exact zRv_ref _ | exact zRv_null | exact zRv_rf _ | assumption) rfl rfl ?_
  exact rfits_loop E w sg d lo hi c e C.1 hd hC.1 C.2.1 hc hg hps hC.2.1 T A hT he C.2.2 _ hbs hC.2.2
