/-! ===== drop ===== -/
abbrev XR (x : Nat) : Nat → Prop := fun a => a = x ∨ a = x + 2
def skp (k : Nat) (f : Nat → Nat) : Nat → Nat := fun j => if j < k then f j else f (j + 1)
theorem rdr_1 (E : ZE) (sg : ZM) (d x nT k m : Nat) (hm : m < 16) (Bk : Nat → Nat) (w0 : ZW) (hb : ∀ j, j < m + 1 → zk w0 (Bk j) = 6) (Q : ZQ) (X : ZX) (hQ : ∀ w', ech (XR x) w0 w' → isDesk w' x nT m → zk w' (x + 2) = 28 → zln w' (x + 2) = 16 → (∀ j, j < m → zq w' (x + 2) j = some (skp k Bk j)) → zi w' 1006 x = nI 1 → Q none w' sg) : ∀ (r i : Nat) (w : ZW), i + r = m → k ≤ i → ech (XR x) w0 w → isDesk w x nT m → zk w (x + 2) = 28 → zln w (x + 2) = 16 → (∀ j, j < i → zq w (x + 2) j = some (skp k Bk j)) → (∀ j, i ≤ j → j < m + 1 → zq w (x + 2) j = some (Bk j)) → RW E MX9_drop 17 [some (.ref x), some (.int (nI k)), some (.int (nI i))] [] w sg d 0 0 (PX E Q X)
  | 0, i, w, hi, hk, he, hD, h1, h2, h3, h4 => by
    have him : i = m := by omega
    subst him
    obtain ⟨k1, k2, k3, k4, k5, k6, k7⟩ := id hD
    refine r_iload_n dX9_drop_17 rfl rfl ?_
    refine r_aload_n dX9_drop_18 rfl (zRv_ref _) rfl ?_
    refine r_getiv 9 3 1003 lfX9_25 (by first | (simp only [zKS]; first | assumption) | assumption | exact zk_nself _ _ _ | (simp [zKS, zNS, *]; done)) rfl rfl (by first | (simp only [zGS, zMS, Nat.reduceEqDiff, OfNat.ofNat_ne_ofNat, false_and, and_false, true_and, and_true, and_self, if_true, if_false, ite_true, ite_false, reduceIte, reduceCtorEq]; first | done | assumption | rfl) | assumption | exact z2_eq | exact z1_eq | (simp [zGS, zMS]; first | done | assumption) | rfl) dX9_drop_19 rfl ?_
    refine r_icmp_geN (by omega) (by omega) (r := 45) dX9_drop_22 (by decide) rfl (fun c_22 => ?_) (fun c_22 => ?_)
    · refine r_aload_n dX9_drop_45 rfl (zRv_ref _) rfl ?_
      refine r_gets 9 2 1002 lfX9_21 (by first | (simp only [zKS]; first | assumption) | assumption | exact zk_nself _ _ _ | (simp [zKS, zNS, *]; done)) rfl rfl (by first | (simp only [zGS, Nat.reduceEqDiff, OfNat.ofNat_ne_ofNat, false_and, and_false, true_and, and_true, and_self, if_true, if_false, ite_true, ite_false, reduceIte, reduceCtorEq]; first | done | assumption) | assumption | exact z2_eq | (simp [zGS]; first | done | assumption)) dX9_drop_46 rfl ?_
      refine r_aload_n dX9_drop_49 rfl (zRv_ref _) rfl ?_
      refine r_getiv 9 3 1003 lfX9_25 (by first | (simp only [zKS]; first | assumption) | assumption | exact zk_nself _ _ _ | (simp [zKS, zNS, *]; done)) rfl rfl (by first | (simp only [zGS, zMS, Nat.reduceEqDiff, OfNat.ofNat_ne_ofNat, false_and, and_false, true_and, and_true, and_self, if_true, if_false, ite_true, ite_false, reduceIte, reduceCtorEq]; first | done | assumption | rfl) | assumption | exact z2_eq | exact z1_eq | (simp [zGS, zMS]; first | done | assumption) | rfl) dX9_drop_50 rfl ?_
      refine r_aconst_null dX9_drop_53 rfl ?_
      refine r_aasn8 i h1 rfl (by rw [h2]; omega) (by omega) dX9_drop_54 rfl ?_
      refine r_aload_n dX9_drop_55 rfl (zRv_ref _) rfl ?_
      refine r_iconst dX9_drop_56 kc_1 rfl ?_
      refine r_putz 9 6 1006 (by first | exact Or.inl rfl | exact Or.inr rfl | exact zb01 _ | assumption) lfX9_42 (by first | (simp only [zKS]; first | assumption) | assumption | exact zk_nself _ _ _ | (simp [zKS, zNS, *]; done)) rfl rfl rfl (Or.inl rfl) dX9_drop_57 rfl ?_
      refine x_vret rfl dX9_drop_60 ?_
      refine hQ _ (ech.tr (ech.tr he (ech.sq (Or.inr rfl)) (fun _ q => q)) (ech.si (X := XR x) (Or.inl rfl)) (fun _ q => q)) ⟨k1, k2, ?_, k4, ?_, k6, k7⟩ h1 h2 (fun j hj => ?_) z2_eq
      · rw [zi_zsi, if_neg (by omega)]
        exact k3
      · rw [zi_zsi, if_neg (by omega)]
        exact k5
      · show zq (zsq w (x + 2) i none) (x + 2) j = _
        rw [zq_zsq, if_neg (fun q => by omega)]
        exact h3 j hj
    · exact absurd c_22 (by omega)
  | r + 1, i, w, hi, hk, he, hD, h1, h2, h3, h4 => by
    obtain ⟨k1, k2, k3, k4, k5, k6, k7⟩ := id hD
    have hb1 : zk w (Bk (i + 1)) = 6 := by rw [he.2.1]; exact hb (i + 1) (by omega)
    refine r_iload_n dX9_drop_17 rfl rfl ?_
    refine r_aload_n dX9_drop_18 rfl (zRv_ref _) rfl ?_
    refine r_getiv 9 3 1003 lfX9_25 (by first | (simp only [zKS]; first | assumption) | assumption | exact zk_nself _ _ _ | (simp [zKS, zNS, *]; done)) rfl rfl (by first | (simp only [zGS, zMS, Nat.reduceEqDiff, OfNat.ofNat_ne_ofNat, false_and, and_false, true_and, and_true, and_self, if_true, if_false, ite_true, ite_false, reduceIte, reduceCtorEq]; first | done | assumption | rfl) | assumption | exact z2_eq | exact z1_eq | (simp [zGS, zMS]; first | done | assumption) | rfl) dX9_drop_19 rfl ?_
    refine r_icmp_geN (by omega) (by omega) (r := 45) dX9_drop_22 (by decide) rfl (fun c_22 => ?_) (fun c_22 => ?_)
    · exact absurd c_22 (by omega)
    · refine r_aload_n dX9_drop_25 rfl (zRv_ref _) rfl ?_
      refine r_gets 9 2 1002 lfX9_21 (by first | (simp only [zKS]; first | assumption) | assumption | exact zk_nself _ _ _ | (simp [zKS, zNS, *]; done)) rfl rfl (by first | (simp only [zGS, Nat.reduceEqDiff, OfNat.ofNat_ne_ofNat, false_and, and_false, true_and, and_true, and_self, if_true, if_false, ite_true, ite_false, reduceIte, reduceCtorEq]; first | done | assumption) | assumption | exact z2_eq | (simp [zGS]; first | done | assumption)) dX9_drop_26 rfl ?_
      refine r_iload_n dX9_drop_29 rfl rfl ?_
      refine r_aload_n dX9_drop_30 rfl (zRv_ref _) rfl ?_
      refine r_gets 9 2 1002 lfX9_21 (by first | (simp only [zKS]; first | assumption) | assumption | exact zk_nself _ _ _ | (simp [zKS, zNS, *]; done)) rfl rfl (by first | (simp only [zGS, Nat.reduceEqDiff, OfNat.ofNat_ne_ofNat, false_and, and_false, true_and, and_true, and_self, if_true, if_false, ite_true, ite_false, reduceIte, reduceCtorEq]; first | done | assumption) | assumption | exact z2_eq | (simp [zGS]; first | done | assumption)) dX9_drop_31 rfl ?_
      refine r_iload_n dX9_drop_34 rfl rfl ?_
      refine r_iconst dX9_drop_35 kc_1 rfl ?_
      refine r_iaddN dX9_drop_36 rfl ?_
      refine r_aals8 (i + 1) (h4 (i + 1) (by omega) (by omega)) h1 rfl (by rw [h2]; omega) (by omega) dX9_drop_37 rfl ?_
      refine r_aast8 i hb1 h1 rfl (by rw [h2]; omega) (by omega) dX9_drop_38 rfl ?_
      refine r_iinc (ls' := [_, _, _]) dX9_drop_39 (Nat.le_of_ble_eq_true rfl) rfl (zinc1 _) rfl rfl ?_
      refine r_goto (r := 17) dX9_drop_42 (by decide) ?_
      refine rdr_1 E sg d x nT k m hm Bk w0 hb Q X hQ r (i + 1) _ (by omega) (by omega) (ech.tr he (ech.sq (X := XR x) (Or.inr rfl)) (fun _ q => q)) ⟨k1, k2, k3, k4, k5, k6, k7⟩ h1 h2 (fun j hj => ?_) (fun j hj hj2 => ?_)
      · rw [zq_zsq]
        by_cases c : j = i
        · subst c
          rw [if_pos ⟨rfl, rfl⟩]
          unfold skp
          rw [if_neg (by omega)]
        · rw [if_neg (fun q => c q.2)]
          exact h3 j (by omega)
      · rw [zq_zsq, if_neg (fun q => by omega)]
        exact h4 j (by omega) hj2
theorem drop_I {w w' : ZW} {x j : Nat} {T : List PEl} {Rs : List PRule} {B : List Nat} (hj : j < Rs.length) {A Lo Bk : Nat → Nat} {DC : Nat → PDecl → Prop} {RG : Nat → Nat → Prop} {K : PKn} (hB : dskB w x B) (hR : isRk w (x + 7)) (hok : okRs Rs) (h : dskE w x T Rs A Lo Bk DC RG K) (e : ech (XR x) w w') (hD : isDesk w' x T.length (Rs.length - 1)) (h1 : zk w' (x + 2) = 28) (h2 : zln w' (x + 2) = 16) (h3 : ∀ i, i < Rs.length - 1 → zq w' (x + 2) i = some (skp j Bk i)) (h4 : zi w' 1006 x = nI 1) : dskI w' x T (Rs.eraseIdx j) B := by
  obtain ⟨⟨hl, -, hT, hA, hSt, hF⟩, hlR, hRA, hU, ⟨hK, hK2⟩, ⟨hz1, hz2⟩, hDC⟩ := h
  obtain ⟨b1, b2, b3⟩ := hB
  have hlen : (Rs.eraseIdx j).length = Rs.length - 1 := List.length_eraseIdx_of_lt hj
  have hne : ∀ b, x + 2 < b → ¬ XR x b := fun b hb q => by rcases q with q | q <;> omega
  have hap : apRG RG (XR x) := fun lo hi b g1 g2 g3 => hne b (by have := (hl.2.2 lo hi g1).1; omega)
  have hz : ∀ b, x + 2 < b → zeq w w' b := fun b hb => e.2.2.2 b (hne b hb)
  have hsz : zsz w' = zsz w := e.1
  refine ⟨⟨by omega, b2.fr (hz _ (by omega)) (hz _ (by omega)) (hz _ (by omega)) (hz _ (by omega)), b3.1.z (hz _ (by omega)) (hz _ (by omega)), b3.2.e e.1 e.2.1 e.2.2.1⟩, hR.z (fun i hi => hz _ (by omega)), fun R hR => hok R (List.mem_of_mem_eraseIdx hR), A, skp j Lo, skp j Bk, DC, RG, K, ⟨⟨hl, by rw [hlen]; exact hD, hT.e e (fun i hi => hne _ (by have := hl.1 i hi; omega)), hA.e e (fun q => by rcases q with q | q <;> omega), fun i hi => (hSt i hi).e e (hne _ (by have := hl.1 i hi; omega)), hF.e e hap⟩, ?_, ?_, ?_, ⟨fun i hi p hp => ?_, hK2⟩, ⟨fun i hi => by rw [hsz]; exact hz1 i hi, fun lo hi q => by rw [hsz]; exact hz2 lo hi q⟩, hDC⟩, Or.inl h4⟩
  · rw [hlen]
    intro i hi
    unfold skp
    by_cases c : i < j
    · rw [if_pos c, if_pos c]
      obtain ⟨q1, q2, q3⟩ := hlR i (by omega)
      exact ⟨q1, q2, fun a ha => by rw [if_pos (by omega)]; exact q3 a ha⟩
    · rw [if_neg c, if_neg c]
      obtain ⟨q1, q2, q3⟩ := hlR (i + 1) (by omega)
      exact ⟨q1, q2, fun a ha => by split <;> exact q3 _ (by omega)⟩
  · rw [hlen]
    exact ⟨h1, h2, by have := hRA.2.2.1; omega, h3⟩
  · intro i R hRi
    rw [List.getElem?_eraseIdx] at hRi
    unfold skp
    by_cases c : i < j
    · rw [if_pos c] at hRi
      rw [if_pos c, if_pos c]
      obtain ⟨q1, q2, -⟩ := hlR i (by omega)
      exact (hU i R hRi).e e hap q1 q2 hF
    · rw [if_neg c] at hRi
      rw [if_neg c, if_neg c]
      obtain ⟨q1, q2, -⟩ := hlR (i + 1) (List.getElem?_eq_some_iff.mp hRi).1
      exact (hU (i + 1) R hRi).e e hap q1 q2 hF
  · have := hl.1 i hi
    rw [(hz (A i + 7) (by omega)).a, (hz (A i + 8) (by omega)).g]
    exact hK i hi p hp
theorem sp_drop (E : ZE) (sg : ZM) (d : Nat) (hd : 7 ≤ d) (x : Nat) (k : Int32) (T : List PEl) (Rs : List PRule) (B : List Nat) (w : ZW) (h : dskI w x T Rs B) : CallX E MX9_drop [.ref x, .int k] w sg d 1 6 (fun v w' sg' => inI k Rs.length = true ∧ v = none ∧ dskI w' x T (Rs.eraseIdx (ixD k)) B ∧ sg = sg') (fun C w' sg' => C = zNSE ∧ inI k Rs.length = false ∧ dskI w' x T Rs B ∧ sg = sg') := by
  have hD := h.desk
  have k1 : zk w x = 10 := hD.1
  have k5 := hD.2.2.2.2.1
  have h0 := h
  obtain ⟨⟨b1, b2, b3⟩, hR, hok, A, Lo, Bk, DC, RG, K, ⟨hE, hlR, hRA, hU, hK, ⟨hz1, hz2⟩, hDC⟩, -⟩ := h0
  have h16 := hRA.2.2.1
  refine CallX.of rfl (by simp [Value.category]) (Nat.le_of_ble_eq_true rfl) ?_
  refine r_aload_n dX9_drop_0 rfl (zRv_ref _) rfl ?_
  refine r_iload_n dX9_drop_1 rfl rfl ?_
  refine x_callV (a := 0) (a' := 0) MX9_checkRule 1 [_] rfl lvX9_87 (Or.inl ⟨9, by decide, k1, rfl⟩) (sp_checkRule E sg (d - 1) x T.length Rs.length (by omega) k w hD) rfl rfl (by first | exact Nat.le_of_ble_eq_true rfl | (simp [zcat_rf, Value.category]; done)) (by omega) (by decide) (by decide) dX9_drop_2 rfl (fun C w' sg' hX => by obtain ⟨rfl, q, rfl, n, rfl⟩ := hX; exact ⟨rfl, q, h.skip n, rfl⟩) (fun v_ w_ sg_ hq_ => ?_)
  obtain ⟨rfl, hk, rfl, rfl⟩ := hq_
  obtain ⟨j, hj, rfl⟩ := inI_nat (by omega) hk
  refine r_aload_n dX9_drop_5 rfl (zRv_ref _) rfl ?_
  refine r_dup dX9_drop_6 (by first | rfl | exact zcat_rf _) rfl ?_
  refine r_getiv 9 3 1003 lfX9_25 (by first | (simp only [zKS]; first | assumption) | assumption | exact zk_nself _ _ _ | (simp [zKS, zNS, *]; done)) rfl rfl (by first | (simp only [zGS, zMS, Nat.reduceEqDiff, OfNat.ofNat_ne_ofNat, false_and, and_false, true_and, and_true, and_self, if_true, if_false, ite_true, ite_false, reduceIte, reduceCtorEq]; first | done | assumption | rfl) | assumption | exact z2_eq | exact z1_eq | (simp [zGS, zMS]; first | done | assumption) | rfl) dX9_drop_7 rfl ?_
  refine r_iconst dX9_drop_10 kc_1 rfl ?_
  refine r_isubN (by omega) dX9_drop_11 rfl ?_
  refine r_puti 9 3 1003 lfX9_25 (by first | (simp only [zKS]; first | assumption) | assumption | exact zk_nself _ _ _ | (simp [zKS, zNS, *]; done)) rfl rfl rfl (Or.inl rfl) dX9_drop_12 rfl ?_
  refine r_iload_n dX9_drop_15 rfl rfl ?_
  refine r_istore_n (ls' := [_, _, _]) dX9_drop_16 (Nat.le_of_ble_eq_true rfl) rfl rfl ?_
  refine RW.gen (fun w1 e1 => ?_)
  have r1 : ech (fun a => a = x) w w1 := by rw [e1]; exact ech.si rfl
  have r2 : zi w1 1003 x = nI (Rs.length - 1) := by rw [e1]; exact z2_eq
  have r3 : ∀ f, f ≠ 1003 → zi w1 f x = zi w f x := by rw [e1]; exact fun f hf => by rw [zi_zsi, if_neg (fun q => hf q.1)]
  have r4 : ∀ f, zr w1 f x = zr w f x := by rw [e1]; exact fun f => rfl
  clear e1
  have f2 := r1.2.2.2 (x + 2) (by omega)
  have hbk : ∀ i, i < Rs.length - 1 + 1 → zk w1 (Bk i) = 6 := fun i hi => by
    rw [r1.2.1]
    exact (hU i (Rs[i]) (List.getElem?_eq_getElem (by omega))).1
  obtain ⟨-, m2, m3, m4, m5, m6, m7⟩ := id hD
  have hD1 : isDesk w1 x T.length (Rs.length - 1) := ⟨by rw [r1.2.1]; exact k1, (r4 _).trans m2, (r3 _ (by decide)).trans m3, (r4 _).trans m4, r2, (r4 _).trans m6, (r4 _).trans m7⟩
  refine rdr_1 E sg d x T.length j (Rs.length - 1) (by omega) Bk w1 hbk _ _ (fun w' q1 q2 q3 q4 q5 q6 => ?_) (Rs.length - 1 - j) j w1 (by omega) (Nat.le_refl _) ech.rf hD1 (f2.k.trans hRA.1) (f2.ln.trans hRA.2.1) (fun i hi => ?_) (fun i hi hi2 => ?_)
  · have e9 : ech (XR x) w w' := ech.tr (r1.to (fun a q => Or.inl q)) q1 (fun _ q => q)
    refine ⟨hk, rfl, ?_, rfl⟩
    rw [ixD_n (by omega)]
    exact drop_I hj ⟨b1, b2, b3⟩ hR hok ⟨hE, hlR, hRA, hU, hK, ⟨hz1, hz2⟩, hDC⟩ e9 q2 q3 q4 q5 q6
  · rw [f2.q]
    unfold skp
    rw [if_pos hi]
    exact hRA.2.2.2 i (by omega)
  · rw [f2.q]
    exact hRA.2.2.2 i (by omega)
