/-! ===== Reckoner.settle, its second loop ===== -/
theorem pth_up {T : List PEl} (hw : wfT T) : ∀ (f e : Nat), e < f → ∀ i a q, (pth T f e)[i]? = some a → tP T a = some q → (pth T f e)[i + 1]? = some q
  | 0, e, h, _, _, _, _, _ => absurd h (Nat.not_lt_zero e)
  | f + 1, e, h, 0, a, q, h1, h2 => by
    unfold pth at h1 ⊢
    cases h1
    rw [h2]
    have := hw.2.1 e q h2
    obtain ⟨g, rfl⟩ : ∃ g, f = g + 1 := ⟨f - 1, by omega⟩
    rfl
  | f + 1, e, h, i + 1, a, q, h1, h2 => by
    unfold pth at h1 ⊢
    cases hq : tP T e with
    | none => rw [hq] at h1; simp at h1
    | some q1 =>
      rw [hq] at h1
      have := hw.2.1 e q1 hq
      exact pth_up hw f q1 (by omega) i a q h1 h2
theorem pth_le {T : List PEl} (hw : wfT T) : ∀ (f e : Nat) (i a : Nat), (pth T f e)[i]? = some a → a ≤ e
  | 0, e, i, a, h => by cases h
  | f + 1, e, 0, a, h => by cases h; exact Nat.le_refl _
  | f + 1, e, i + 1, a, h => by
    unfold pth at h
    cases hq : tP T e with
    | none => rw [hq] at h; simp at h
    | some q =>
      rw [hq] at h
      have := hw.2.1 e q hq
      have := pth_le hw f q i a h
      omega
theorem rse_end (E : ZE) (sg : ZM) (d k : Nat) (x0 x2 x3 : Value) (w : ZW) (Q : ZQ) (h : Q none w sg) : RW E MX4_settle 45 [some (.ref k), some x0, some x2, some x3, some (.int (-1))] [] w sg d 0 0 (PN E Q) := by
  refine r_iload dX4_settle_45 rfl rfl ?_
  refine r_if_lt (r := 80) dX4_settle_47 (by decide) rfl (fun c_47 => ?_) (fun c_47 => ?_)
  · refine r_vret rfl dX4_settle_80 ?_
    exact h
  · exact absurd c_47 (by decide)
theorem rse_2 (E : ZE) (sg : ZM) (d : Nat) (hd : 5 ≤ d) (x nr : Nat) (T : List PEl) (A : Nat → Nat) (DC : Nat → PDecl → Prop) (RG : Nat → Nat → Prop) (hWD : ∀ a D, DC a D → D.2.1 = 2 → okD D) (L : Nat → Nat → PLd) (V : Nat → Nat → UInt32) (hV : isV T L V) (w0 : ZW) (e0 p : Nat) (he0 : e0 < T.length) (hp : p < 6) (l : List Nat) (hl : l = pth T (e0 + 1) e0) (x0 : Value) : ∀ (i : Nat) (w : ZW), i < l.length → seQ w0 w x nr T A DC RG L V → pthW w x A l → (∀ j e, i < j → l[j]? = some e → stdE w A T L V e 1 ∧ stdE w A T L V e p) → RW E MX4_settle 45 [some (.ref (x + 7)), some x0, some (.int (nI p)), some (.int (nI l.length)), some (.int (nI i))] [] w sg d 0 0 (PN E (saQ w0 sg x nr T A DC RG L V e0 p)) := by
  intro i
  induction i with
  | zero =>
    intro w hi hs hP hI
    obtain ⟨e, hle⟩ : ∃ e, l[0]? = some e := ⟨l[0], List.getElem?_eq_getElem hi⟩
    have hC := hs.2.1
    have hwf := hC.1.1.2.2.1.1
    have hee : e ≤ e0 := by rw [hl] at hle; exact pth_le hwf _ _ _ _ hle
    have hR := hC.2.1
    obtain ⟨⟨k1, k2, k3, k4, k5, k6⟩, ⟨a1, a2, a3, a4, a5⟩, l1, l2, l3, l4, l5⟩ := hR
    have hll : l.length ≤ 24 := by have := pth_len hwf (e0 + 1) e0; have := hwf.1; rw [hl]; omega
    have hup : ∀ q, tP T e = some q → stdE w A T L V q 1 ∧ stdE w A T L V q p := fun q hq => hI (1) q (by omega) (by rw [hl] at hle ⊢; exact pth_up hwf _ _ (Nat.lt_succ_self _) _ _ _ hle hq)
    have hz := hP (0) e hle
    have c1 : ∀ q, tP T e = some q → zg w (A q + 5) 1 = V q 1 := fun q hq => (hup q hq).1.2
    have c2 : 1 ≠ 1 → zg w (A e + 5) 1 = V e 1 := fun q => absurd rfl q
    refine r_iload dX4_settle_45 rfl rfl ?_
    refine r_if_ltN (by omega) (r := 80) dX4_settle_47 (by decide) rfl (fun c_47 => ?_) (fun c_47 => ?_)
    · exact absurd c_47 (by omega)
    · refine r_aload_n dX4_settle_50 rfl (zRv_ref _) rfl ?_
      refine r_aload_n dX4_settle_51 rfl (zRv_ref _) rfl ?_
      refine r_gets 4 0 500 lfX4_11 (by first | (simp only [zKS]; first | assumption) | assumption | exact zk_nself _ _ _ | (simp [zKS, zNS, *]; done)) rfl rfl (by first | (simp only [zGS, Nat.reduceEqDiff, OfNat.ofNat_ne_ofNat, false_and, and_false, true_and, and_true, and_self, if_true, if_false, ite_true, ite_false, reduceIte, reduceCtorEq]; first | done | assumption) | assumption | exact z2_eq | (simp [zGS]; first | done | assumption)) dX4_settle_52 rfl ?_
      refine r_iload dX4_settle_55 rfl rfl ?_
      refine r_aals7 (0) hz a1 rfl (by show 0 < zln w (x + 7 + 1); omega) (by omega) dX4_settle_57 rfl ?_
      refine r_iconst dX4_settle_58 kc_1 rfl ?_
      refine r_callV MX4_settleAt 2 [_, _] lvX4_35 (Or.inl ⟨4, by decide, (by first | (simp only [zKS]; first | assumption) | assumption | exact zk_nself _ _ _ | (simp [zKS, zNS, *]; done)), rfl⟩) (sp_settleAt E sg (d - 1) (by omega) x nr T A DC RG hWD L V hV w e 1 (by omega) (by decide) hC c1 c2) rfl rfl (by first | exact Nat.le_of_ble_eq_true rfl | (simp [zcat_rf, Value.category]; done)) (by omega) (Nat.le_of_eq (Nat.zero_add _)) (Nat.le_of_eq (Nat.zero_add _)) dX4_settle_59 rfl (fun v_ w_ sg_ hq_ => ?_)
      obtain ⟨rfl, rfl, hs1, hd1⟩ := hq_
      obtain ⟨w2, hw2⟩ : ∃ x, x = w_ := ⟨_, rfl⟩
      subst hw2
      have hC2 := hs1.2.1
      obtain ⟨⟨k1', k2', k3', k4', k5', k6'⟩, ⟨b1, b2, b3, b4, b5⟩, m1, m2, m3, m4, m5⟩ := id hC2.2.1
      have hz2 : zq w2 (x + 7 + 1) (0) = some (A e) := (hs1.2.2.1 (0)).trans hz
      have c3 : ∀ q, tP T e = some q → zg w2 (A q + 5) p = V q p := fun q hq => (hs1.2.2.2 q (by have := hwf.2.1 e q hq; omega) p hp (hup q hq).2).2
      have c4 : p ≠ 1 → zg w2 (A e + 5) 1 = V e 1 := fun q => hd1.2
      refine r_aload_n dX4_settle_62 rfl (zRv_ref _) rfl ?_
      refine r_aload_n dX4_settle_63 rfl (zRv_ref _) rfl ?_
      refine r_gets 4 0 500 lfX4_11 (by first | (simp only [zKS]; first | assumption) | assumption | exact zk_nself _ _ _ | (simp [zKS, zNS, *]; done)) rfl rfl (by first | (simp only [zGS, Nat.reduceEqDiff, OfNat.ofNat_ne_ofNat, false_and, and_false, true_and, and_true, and_self, if_true, if_false, ite_true, ite_false, reduceIte, reduceCtorEq]; first | done | assumption) | assumption | exact z2_eq | (simp [zGS]; first | done | assumption)) dX4_settle_64 rfl ?_
      refine r_iload dX4_settle_67 rfl rfl ?_
      refine r_aals7 (0) hz2 b1 rfl (by show 0 < zln w2 (x + 7 + 1); omega) (by omega) dX4_settle_69 rfl ?_
      refine r_iload_n dX4_settle_70 rfl rfl ?_
      refine r_callV MX4_settleAt 2 [_, _] lvX4_35 (Or.inl ⟨4, by decide, (by first | (simp only [zKS]; first | assumption) | assumption | exact zk_nself _ _ _ | (simp [zKS, zNS, *]; done)), rfl⟩) (sp_settleAt E sg (d - 1) (by omega) x nr T A DC RG hWD L V hV w2 e p (by omega) hp hC2 c3 c4) rfl rfl (by first | exact Nat.le_of_ble_eq_true rfl | (simp [zcat_rf, Value.category]; done)) (by omega) (Nat.le_of_eq (Nat.zero_add _)) (Nat.le_of_eq (Nat.zero_add _)) dX4_settle_71 rfl (fun v_ w_ sg_ hq_ => ?_)
      obtain ⟨rfl, rfl, hs2, hd2⟩ := hq_
      obtain ⟨w3, hw3⟩ : ∃ x, x = w_ := ⟨_, rfl⟩
      subst hw3
      refine r_iinc (ls' := [_, _, _, _, _]) (v := -1) dX4_settle_74 (Nat.le_of_ble_eq_true rfl) rfl (by decide) rfl rfl ?_
      refine r_goto (r := 45) dX4_settle_77 (by decide) ?_
      refine rse_end E sg d (x + 7) x0 _ _ w3 _ ?_
      have h0 : e = e0 := by rw [hl] at hle; cases hle; rfl
      rw [← h0]
      exact ⟨rfl, rfl, (hs.tr hs1).tr hs2, hd2⟩
  | succ i ih =>
    intro w hi hs hP hI
    obtain ⟨e, hle⟩ : ∃ e, l[i + 1]? = some e := ⟨l[i + 1], List.getElem?_eq_getElem hi⟩
    have hC := hs.2.1
    have hwf := hC.1.1.2.2.1.1
    have hee : e ≤ e0 := by rw [hl] at hle; exact pth_le hwf _ _ _ _ hle
    have hR := hC.2.1
    obtain ⟨⟨k1, k2, k3, k4, k5, k6⟩, ⟨a1, a2, a3, a4, a5⟩, l1, l2, l3, l4, l5⟩ := hR
    have hll : l.length ≤ 24 := by have := pth_len hwf (e0 + 1) e0; have := hwf.1; rw [hl]; omega
    have hup : ∀ q, tP T e = some q → stdE w A T L V q 1 ∧ stdE w A T L V q p := fun q hq => hI (i + 2) q (by omega) (by rw [hl] at hle ⊢; exact pth_up hwf _ _ (Nat.lt_succ_self _) _ _ _ hle hq)
    have hz := hP (i + 1) e hle
    have c1 : ∀ q, tP T e = some q → zg w (A q + 5) 1 = V q 1 := fun q hq => (hup q hq).1.2
    have c2 : 1 ≠ 1 → zg w (A e + 5) 1 = V e 1 := fun q => absurd rfl q
    refine r_iload dX4_settle_45 rfl rfl ?_
    refine r_if_ltN (by omega) (r := 80) dX4_settle_47 (by decide) rfl (fun c_47 => ?_) (fun c_47 => ?_)
    · exact absurd c_47 (by omega)
    · refine r_aload_n dX4_settle_50 rfl (zRv_ref _) rfl ?_
      refine r_aload_n dX4_settle_51 rfl (zRv_ref _) rfl ?_
      refine r_gets 4 0 500 lfX4_11 (by first | (simp only [zKS]; first | assumption) | assumption | exact zk_nself _ _ _ | (simp [zKS, zNS, *]; done)) rfl rfl (by first | (simp only [zGS, Nat.reduceEqDiff, OfNat.ofNat_ne_ofNat, false_and, and_false, true_and, and_true, and_self, if_true, if_false, ite_true, ite_false, reduceIte, reduceCtorEq]; first | done | assumption) | assumption | exact z2_eq | (simp [zGS]; first | done | assumption)) dX4_settle_52 rfl ?_
      refine r_iload dX4_settle_55 rfl rfl ?_
      refine r_aals7 (i + 1) hz a1 rfl (by show i + 1 < zln w (x + 7 + 1); omega) (by omega) dX4_settle_57 rfl ?_
      refine r_iconst dX4_settle_58 kc_1 rfl ?_
      refine r_callV MX4_settleAt 2 [_, _] lvX4_35 (Or.inl ⟨4, by decide, (by first | (simp only [zKS]; first | assumption) | assumption | exact zk_nself _ _ _ | (simp [zKS, zNS, *]; done)), rfl⟩) (sp_settleAt E sg (d - 1) (by omega) x nr T A DC RG hWD L V hV w e 1 (by omega) (by decide) hC c1 c2) rfl rfl (by first | exact Nat.le_of_ble_eq_true rfl | (simp [zcat_rf, Value.category]; done)) (by omega) (Nat.le_of_eq (Nat.zero_add _)) (Nat.le_of_eq (Nat.zero_add _)) dX4_settle_59 rfl (fun v_ w_ sg_ hq_ => ?_)
      obtain ⟨rfl, rfl, hs1, hd1⟩ := hq_
      obtain ⟨w2, hw2⟩ : ∃ x, x = w_ := ⟨_, rfl⟩
      subst hw2
      have hC2 := hs1.2.1
      obtain ⟨⟨k1', k2', k3', k4', k5', k6'⟩, ⟨b1, b2, b3, b4, b5⟩, m1, m2, m3, m4, m5⟩ := id hC2.2.1
      have hz2 : zq w2 (x + 7 + 1) (i + 1) = some (A e) := (hs1.2.2.1 (i + 1)).trans hz
      have c3 : ∀ q, tP T e = some q → zg w2 (A q + 5) p = V q p := fun q hq => (hs1.2.2.2 q (by have := hwf.2.1 e q hq; omega) p hp (hup q hq).2).2
      have c4 : p ≠ 1 → zg w2 (A e + 5) 1 = V e 1 := fun q => hd1.2
      refine r_aload_n dX4_settle_62 rfl (zRv_ref _) rfl ?_
      refine r_aload_n dX4_settle_63 rfl (zRv_ref _) rfl ?_
      refine r_gets 4 0 500 lfX4_11 (by first | (simp only [zKS]; first | assumption) | assumption | exact zk_nself _ _ _ | (simp [zKS, zNS, *]; done)) rfl rfl (by first | (simp only [zGS, Nat.reduceEqDiff, OfNat.ofNat_ne_ofNat, false_and, and_false, true_and, and_true, and_self, if_true, if_false, ite_true, ite_false, reduceIte, reduceCtorEq]; first | done | assumption) | assumption | exact z2_eq | (simp [zGS]; first | done | assumption)) dX4_settle_64 rfl ?_
      refine r_iload dX4_settle_67 rfl rfl ?_
      refine r_aals7 (i + 1) hz2 b1 rfl (by show i + 1 < zln w2 (x + 7 + 1); omega) (by omega) dX4_settle_69 rfl ?_
      refine r_iload_n dX4_settle_70 rfl rfl ?_
      refine r_callV MX4_settleAt 2 [_, _] lvX4_35 (Or.inl ⟨4, by decide, (by first | (simp only [zKS]; first | assumption) | assumption | exact zk_nself _ _ _ | (simp [zKS, zNS, *]; done)), rfl⟩) (sp_settleAt E sg (d - 1) (by omega) x nr T A DC RG hWD L V hV w2 e p (by omega) hp hC2 c3 c4) rfl rfl (by first | exact Nat.le_of_ble_eq_true rfl | (simp [zcat_rf, Value.category]; done)) (by omega) (Nat.le_of_eq (Nat.zero_add _)) (Nat.le_of_eq (Nat.zero_add _)) dX4_settle_71 rfl (fun v_ w_ sg_ hq_ => ?_)
      obtain ⟨rfl, rfl, hs2, hd2⟩ := hq_
      obtain ⟨w3, hw3⟩ : ∃ x, x = w_ := ⟨_, rfl⟩
      subst hw3
      refine r_iinc (ls' := [_, _, _, _, _]) dX4_settle_74 (Nat.le_of_ble_eq_true rfl) rfl (zdec1 (by omega)) rfl rfl ?_
      refine r_goto (r := 45) dX4_settle_77 (by decide) ?_
      refine ih w3 (by omega) ((hs.tr hs1).tr hs2) (fun j e' hj => ((hs1.tr hs2).2.2.1 j).trans (hP j e' hj)) (fun j e' hj hje => ?_)
      by_cases c : j = i + 1
      · subst c
        rw [hle] at hje
        cases hje
        exact ⟨hs2.2.2.2 e (by omega) 1 (by decide) hd1, hd2⟩
      · have h7 : e' ≤ e0 := by rw [hl] at hje; exact pth_le hwf _ _ _ _ hje
        obtain ⟨y1, y2⟩ := hI j e' (by omega) hje
        exact ⟨(hs1.tr hs2).2.2.2 e' (by omega) 1 (by decide) y1, (hs1.tr hs2).2.2.2 e' (by omega) p hp y2⟩
theorem sp_settle (E : ZE) (sg : ZM) (d : Nat) (hd : 5 ≤ d) (x nr : Nat) (T : List PEl) (A : Nat → Nat) (DC : Nat → PDecl → Prop) (RG : Nat → Nat → Prop) (hWD : ∀ a D, DC a D → D.2.1 = 2 → okD D) (L : Nat → Nat → PLd) (V : Nat → Nat → UInt32) (hV : isV T L V) (e0 p : Nat) (he0 : e0 < T.length) (hp : p < 6) (w : ZW) (hC : cchE w x nr T A DC RG L V) : CallQ E MX4_settle [.ref (x + 7), .ref (A e0), .int (nI p)] w sg d 0 0 (fun v w' sg' => v = none ∧ sg = sg' ∧ ech (X1 x A T.length) w w' ∧ cchE w' x nr T A DC RG L V ∧ stdE w' A T L V e0 p) := by
  have hwf := hC.1.1.2.2.1.1
  have h24 := hwf.1
  refine CallQ.of rfl (by simp [Value.category]) (Nat.le_of_ble_eq_true rfl) ?_
  refine r_iconst dX4_settle_0 kc_0 rfl ?_
  refine r_istore_n (ls' := [_, _, _, _, _]) dX4_settle_1 (Nat.le_of_ble_eq_true rfl) rfl rfl ?_
  refine r_aload_n dX4_settle_2 rfl (by first | exact zRv_ref _ | exact zRv_null | exact zRv_rf _ | assumption) rfl ?_
  refine r_astore (ls' := [_, _, _, _, _]) dX4_settle_3 (Nat.le_of_ble_eq_true rfl) (by first | exact zRv_ref _ | exact zRv_null | exact zRv_rf _ | assumption) rfl rfl ?_
  refine rse_1 E sg d x nr T A DC RG L V w e0 p (pth T (e0 + 1) e0) _ (fun w1 h1 h2 h3 => ?_) (e0 + 1) e0 0 w (Nat.lt_succ_self _) he0 rfl (by omega) ech.rf hC (fun i e hi => absurd hi (Nat.not_lt_zero i))
  have hlen : 0 < (pth T (e0 + 1) e0).length := Nat.zero_lt_succ _
  refine r_iload_n dX4_settle_40 rfl rfl ?_
  refine r_iconst dX4_settle_41 kc_1 rfl ?_
  refine r_isubN (by omega) dX4_settle_42 rfl ?_
  refine r_istore (ls' := [_, _, _, _, _]) dX4_settle_43 (Nat.le_of_ble_eq_true rfl) rfl rfl ?_
  refine RW.qmono (rse_2 E sg d hd x nr T A DC RG hWD L V hV w1 e0 p he0 hp (pth T (e0 + 1) e0) rfl _ ((pth T (e0 + 1) e0).length - 1) w1 (by omega) (seQ.rf h2) h3 (fun j e hj hje => absurd (List.getElem?_eq_some_iff.mp hje).1 (by omega))) ?_
  rintro v w' sg' ⟨q1, q2, q3, q4⟩
  exact ⟨q1, q2, h1.tr q3.1 (fun _ q => q), q3.2.1, q4⟩
