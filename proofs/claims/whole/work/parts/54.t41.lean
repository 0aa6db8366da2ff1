/-! ===== StyleDesk.catchUp, its loops ===== -/
def how4 (w : ZW) (A : Nat → Nat) (n : Nat) : Prop := ∀ e, e < n → ∀ p, p < 6 → za w (A e + 6) p = nI 4
theorem layA.nXL {x n : Nat} {A : Nat → Nat} {RG : Nat → Nat → Prop} (h : layA x n A RG) {i j : Nat} (hi : i < n) (hj : 5 ≤ j ∧ j < 9 ∨ j < 2) : ¬ XL A n (A i + j) := fun ⟨e, h4, h5⟩ => by
  rcases Nat.lt_trichotomy e i with q | q | q
  · have := h.2.1 e i q hi; rcases h5 with g | g | g <;> omega
  · subst q; rcases h5 with g | g | g <;> omega
  · have := h.2.1 i e q h4; rcases h5 with g | g | g <;> omega
def rulesU (w : ZW) (Rs : List PRule) (Lo B : Nat → Nat) (DC : Nat → PDecl → Prop) : Prop := ∀ k R, Rs[k]? = some R → isRu w (Lo k) (B k) DC R
theorem rcu_1 (E : ZE) (sg : ZM) (d : Nat) (hd : 2 ≤ d) (x nr : Nat) (T : List PEl) (A : Nat → Nat) (DC : Nat → PDecl → Prop) (RG : Nat → Nat → Prop) (w0 : ZW) (P : ZPhi) (K : ∀ (w : ZW) (x1 : Option Value), envA w x nr T A DC RG → ech (XSt A T.length) w0 w → (∀ e, e < T.length → ∀ n, n < 10 → isLd w (A e + 1) DC n none) → how4 w A T.length → RW E MX9_catchUp 36 [some (.ref x), x1] [] w sg d 0 0 P) : ∀ (m i : Nat) (w : ZW), i + m = T.length → envA w x nr T A DC RG → ech (XSt A T.length) w0 w → (∀ e, e < i → ∀ n, n < 10 → isLd w (A e + 1) DC n none) → how4 w A i → RW E MX9_catchUp 10 [some (.ref x), some (.int (nI i))] [] w sg d 0 0 P
  | 0, i, w, hm, hE, hw, hL, hH => by
    have : i = T.length := by omega
    subst this
    have hE0 := hE
    obtain ⟨hlay, ⟨k1, k2, k3, -⟩, hT, hA, hS, hF⟩ := hE
    have h24 := hT.1.1
    refine r_iload_n dX9_catchUp_10 rfl rfl ?_
    refine r_aload_n dX9_catchUp_11 rfl (zRv_ref _) rfl ?_
    refine r_getiv 9 1 1001 lfX9_15 (by first | (simp only [zKS]; first | assumption) | assumption | exact zk_nself _ _ _ | (simp [zKS, zNS, *]; done)) rfl rfl (by first | (simp only [zGS, zMS, Nat.reduceEqDiff, OfNat.ofNat_ne_ofNat, false_and, and_false, true_and, and_true, and_self, if_true, if_false, ite_true, ite_false, reduceIte, reduceCtorEq]; first | done | assumption | rfl) | assumption | exact z2_eq | exact z1_eq | (simp [zGS, zMS]; first | done | assumption) | rfl) dX9_catchUp_12 rfl ?_
    refine r_icmp_geN (by omega) (by omega) (r := 36) dX9_catchUp_15 (by decide) rfl (fun c_15 => ?_) (fun c_15 => ?_)
    · exact K w _ hE0 hw hL hH
    · exact absurd c_15 (by omega)
  | m + 1, i, w, hm, hE, hw, hL, hH => by
    have hE0 := hE
    obtain ⟨hlay, ⟨k1, k2, k3, -⟩, hT, hA, hS, hF⟩ := hE
    have h24 := hT.1.1
    have hi : i < T.length := by omega
    obtain ⟨ha1, ha2, ha3⟩ := hA
    have hq := ha3 i hi
    obtain ⟨f0, -, -, -, -, -, -, -, -, -, -, f10, -⟩ := hT.2 i hi
    have hs := hS i hi
    have ks := hs.1.1
    refine r_iload_n dX9_catchUp_10 rfl rfl ?_
    refine r_aload_n dX9_catchUp_11 rfl (zRv_ref _) rfl ?_
    refine r_getiv 9 1 1001 lfX9_15 (by first | (simp only [zKS]; first | assumption) | assumption | exact zk_nself _ _ _ | (simp [zKS, zNS, *]; done)) rfl rfl (by first | (simp only [zGS, zMS, Nat.reduceEqDiff, OfNat.ofNat_ne_ofNat, false_and, and_false, true_and, and_true, and_self, if_true, if_false, ite_true, ite_false, reduceIte, reduceCtorEq]; first | done | assumption | rfl) | assumption | exact z2_eq | exact z1_eq | (simp [zGS, zMS]; first | done | assumption) | rfl) dX9_catchUp_12 rfl ?_
    refine r_icmp_geN (by omega) (by omega) (r := 36) dX9_catchUp_15 (by decide) rfl (fun c_15 => ?_) (fun c_15 => ?_)
    · exact absurd c_15 (by omega)
    · refine r_aload_n dX9_catchUp_18 rfl (zRv_ref _) rfl ?_
      refine r_gets 9 0 1000 lfX9_11 (by first | (simp only [zKS]; first | assumption) | assumption | exact zk_nself _ _ _ | (simp [zKS, zNS, *]; done)) rfl rfl (by first | (simp only [zGS, Nat.reduceEqDiff, OfNat.ofNat_ne_ofNat, false_and, and_false, true_and, and_true, and_self, if_true, if_false, ite_true, ite_false, reduceIte, reduceCtorEq]; first | done | assumption) | assumption | exact z2_eq | (simp [zGS]; first | done | assumption)) dX9_catchUp_19 rfl ?_
      refine r_iload_n dX9_catchUp_22 rfl rfl ?_
      refine r_aals7 i hq ha1 rfl (by omega) (by omega) dX9_catchUp_23 rfl ?_
      refine r_gets 2 9 309 lfX9_121 (by first | (simp only [zKS]; first | assumption) | assumption | exact zk_nself _ _ _ | (simp [zKS, zNS, *]; done)) rfl rfl (by first | (simp only [zGS, Nat.reduceEqDiff, OfNat.ofNat_ne_ofNat, false_and, and_false, true_and, and_true, and_self, if_true, if_false, ite_true, ite_false, reduceIte, reduceCtorEq]; first | done | assumption) | assumption | exact z2_eq | (simp [zGS]; first | done | assumption)) dX9_catchUp_24 rfl ?_
      refine r_callV MX7_clear 0 [] lvX9_149 (Or.inl ⟨7, by decide, (by first | (simp only [zKS]; first | assumption) | assumption | exact zk_nself _ _ _ | (simp [zKS, zNS, *]; done)), rfl⟩) (sp_clear E sg (d - 1) (A i + 1) w (by omega) hs) rfl rfl (by first | exact Nat.le_of_ble_eq_true rfl | (simp [zcat_rf, Value.category]; done)) (by omega) (Nat.le_of_eq (Nat.zero_add _)) (Nat.le_of_eq (Nat.zero_add _)) dX9_catchUp_27 rfl (fun v_ w_ sg_ hq_ => ?_)
      obtain ⟨rfl, rfl, he, hn, hh⟩ := hq_
      obtain ⟨w2, hw2⟩ : ∃ x, x = w_ := ⟨_, rfl⟩
      subst hw2
      have hsub : ∀ a, (a = A i + 1 + 1 ∨ a = A i + 1 + 5) → XSt A T.length a := fun a g => ⟨i, hi, by rcases g with g | g <;> omega, by rcases g with g | g <;> omega⟩
      have e1 := he.to hsub
      refine r_iinc (ls' := [_, _]) dX9_catchUp_30 (Nat.le_of_ble_eq_true rfl) rfl (zinc1 _) rfl rfl ?_
      refine r_goto (r := 10) dX9_catchUp_33 (by decide) ?_
      refine rcu_1 E sg d hd x nr T A DC RG w0 P K m (i + 1) w2 (by omega) (hE0.e e1) (hw.tr e1 (fun _ q => q)) (fun e he2 n hn2 => ?_) (fun e he2 p hp => ?_)
      · by_cases q : e = i
        · subst q; exact hn n hn2
        · have q4 := hlay.2.1 e i (by omega) hi
          exact (hL e (by omega) n hn2).e he (by omega) (by omega) (by omega)
      · by_cases q : e = i
        · subst q; exact hh p hp
        · have q4 := hlay.2.1 e i (by omega) hi
          rw [(he.2.2.2 (A e + 6) (by omega)).a]
          exact hH e (by omega) p hp
theorem rcu_2 (E : ZE) (sg : ZM) (d : Nat) (hd : 6 ≤ d) (x : Nat) (T : List PEl) (A : Nat → Nat) (Rs : List PRule) (Lo B : Nat → Nat) (DC : Nat → PDecl → Prop) (RG : Nat → Nat → Prop) (hlR : layR Rs.length Lo B RG) (hok : ∀ R ∈ Rs, okSels R.1) (w0 : ZW) : ∀ (m k : Nat) (w : ZW), k + m = Rs.length → envA w x Rs.length T A DC RG → isRA w x B Rs.length → ecu x A T.length w0 w → (∀ j R, Rs[j]? = some R → j < k → isRuM w (Lo j) (B j) T DC R) → rulesU w Rs Lo B DC → (∀ e, e < T.length → ∀ n, n < 10 → isLd w (A e + 1) DC n (leadN T Rs k e n)) → how4 w A T.length → RW E MX9_catchUp 38 [some (.ref x), some (.int (nI k))] [] w sg d 0 0 (PN E (fun v w' sg' => v = none ∧ sg = sg' ∧ ecu x A T.length w0 w' ∧ envA w' x Rs.length T A DC RG ∧ isRA w' x B Rs.length ∧ caught w' x T A Rs Lo B DC ∧ how4 w' A T.length ∧ zi w' 1006 x = nI 0))
  | 0, k, w, hm, hE, hRA, hw, hM, hU, hL, hH => by
    have : k = Rs.length := by omega
    subst this
    have hE0 := hE
    obtain ⟨hlay, ⟨k1, k2, k3, k4, k5, -⟩, hT, hA, hS, hF⟩ := hE
    have h16 := hRA.2.2.1
    have e1 : ech (fun a => a = x) w (zsi w 1006 x (nI 0)) := ech.si rfl
    have hap : apRG RG (fun a => a = x) := fun lo hi b g1 g2 g3 g4 => by have := (hlay.2.2 lo hi g1).1; omega
    have hx : ∀ e, e < T.length → x + 56 ≤ A e := hlay.1
    refine r_iload_n dX9_catchUp_38 rfl rfl ?_
    refine r_aload_n dX9_catchUp_39 rfl (zRv_ref _) rfl ?_
    refine r_getiv 9 3 1003 lfX9_25 (by first | (simp only [zKS]; first | assumption) | assumption | exact zk_nself _ _ _ | (simp [zKS, zNS, *]; done)) rfl rfl (by first | (simp only [zGS, zMS, Nat.reduceEqDiff, OfNat.ofNat_ne_ofNat, false_and, and_false, true_and, and_true, and_self, if_true, if_false, ite_true, ite_false, reduceIte, reduceCtorEq]; first | done | assumption | rfl) | assumption | exact z2_eq | exact z1_eq | (simp [zGS, zMS]; first | done | assumption) | rfl) dX9_catchUp_40 rfl ?_
    refine r_icmp_geN (by omega) (by omega) (r := 80) dX9_catchUp_43 (by decide) rfl (fun c_43 => ?_) (fun c_43 => ?_)
    · refine r_aload_n dX9_catchUp_80 rfl (zRv_ref _) rfl ?_
      refine r_iconst dX9_catchUp_81 kc_0 rfl ?_
      refine r_putz 9 6 1006 (by first | exact Or.inl rfl | exact Or.inr rfl | exact zb01 _ | assumption) lfX9_42 (by first | (simp only [zKS]; first | assumption) | assumption | exact zk_nself _ _ _ | (simp [zKS, zNS, *]; done)) rfl rfl rfl (Or.inl rfl) dX9_catchUp_82 rfl ?_
      refine r_vret rfl dX9_catchUp_85 ?_
      refine ⟨rfl, rfl, hw.tr ⟨rfl, rfl, rfl, fun a ha => ⟨fun f e2 e3 => ?_, fun _ => rfl, fun _ => rfl, rfl, rfl, rfl, rfl, rfl⟩⟩, ?_, ?_, ⟨fun j R hj => ?_, fun e he n hn => ?_⟩, hH, z2_eq⟩
      · rw [zi_zsi, if_neg (fun q => e3 ⟨q.2, q.1⟩)]
      · refine ⟨hlay, ?_, hT.e e1 (fun i hi => by have := hx i hi; omega), hA.e e1 (by omega), fun i hi => (hS i hi).e e1 (by have := hx i hi; omega), hF.e e1 hap⟩
        obtain ⟨-, ⟨g1, g2, g3, g4, g5, g6, g7⟩, -⟩ := hE0
        exact ⟨k1, k2, by simpa [zGS] using k3, k4, by simpa [zGS] using k5, g6, g7⟩
      · exact hRA.e e1 (by omega)
      · obtain ⟨q1, q2, q3⟩ := hlR j (List.getElem?_eq_some_iff.mp hj).1
        exact (hM j R hj (List.getElem?_eq_some_iff.mp hj).1).e e1 hap q1 q2 hF
      · have := hx e he
        exact (hL e he n hn).e e1 (by omega) (by omega) (by omega)
    · exact absurd c_43 (by omega)
  | m + 1, k, w, hm, hE, hRA, hw, hM, hU, hL, hH => by
    have hE0 := hE
    have hRA0 := hRA
    obtain ⟨hlay, ⟨k1, k2, k3, k4, k5, -⟩, hT, hA, hS, hF⟩ := hE
    obtain ⟨ra1, ra2, h16, ra3⟩ := hRA
    have hk : k < Rs.length := by omega
    have hq := ra3 k hk
    obtain ⟨R, hR⟩ : ∃ R, Rs[k]? = some R := ⟨Rs[k], List.getElem?_eq_getElem hk⟩
    obtain ⟨l1, l2, l3⟩ := hlR k hk
    obtain ⟨u1, s0, d0, u2, u3, u4, u5⟩ := hU k R hR
    obtain ⟨as, hc, has⟩ := u4.ch
    have hdk := hE0.2.1
    refine r_iload_n dX9_catchUp_38 rfl rfl ?_
    refine r_aload_n dX9_catchUp_39 rfl (zRv_ref _) rfl ?_
    refine r_getiv 9 3 1003 lfX9_25 (by first | (simp only [zKS]; first | assumption) | assumption | exact zk_nself _ _ _ | (simp [zKS, zNS, *]; done)) rfl rfl (by first | (simp only [zGS, zMS, Nat.reduceEqDiff, OfNat.ofNat_ne_ofNat, false_and, and_false, true_and, and_true, and_self, if_true, if_false, ite_true, ite_false, reduceIte, reduceCtorEq]; first | done | assumption | rfl) | assumption | exact z2_eq | exact z1_eq | (simp [zGS, zMS]; first | done | assumption) | rfl) dX9_catchUp_40 rfl ?_
    refine r_icmp_geN (by omega) (by omega) (r := 80) dX9_catchUp_43 (by decide) rfl (fun c_43 => ?_) (fun c_43 => ?_)
    · exact absurd c_43 (by omega)
    · refine r_aload_n dX9_catchUp_46 rfl (zRv_ref _) rfl ?_
      refine r_gets 9 2 1002 lfX9_21 (by first | (simp only [zKS]; first | assumption) | assumption | exact zk_nself _ _ _ | (simp [zKS, zNS, *]; done)) rfl rfl (by first | (simp only [zGS, Nat.reduceEqDiff, OfNat.ofNat_ne_ofNat, false_and, and_false, true_and, and_true, and_self, if_true, if_false, ite_true, ite_false, reduceIte, reduceCtorEq]; first | done | assumption) | assumption | exact z2_eq | (simp [zGS]; first | done | assumption)) dX9_catchUp_47 rfl ?_
      refine r_iload_n dX9_catchUp_50 rfl rfl ?_
      refine r_aals8 k hq ra1 rfl (by omega) (by omega) dX9_catchUp_51 rfl ?_
      refine r_aload_n dX9_catchUp_52 rfl (zRv_ref _) rfl ?_
      refine r_gets 9 0 1000 lfX9_11 (by first | (simp only [zKS]; first | assumption) | assumption | exact zk_nself _ _ _ | (simp [zKS, zNS, *]; done)) rfl rfl (by first | (simp only [zGS, Nat.reduceEqDiff, OfNat.ofNat_ne_ofNat, false_and, and_false, true_and, and_true, and_self, if_true, if_false, ite_true, ite_false, reduceIte, reduceCtorEq]; first | done | assumption) | assumption | exact z2_eq | (simp [zGS]; first | done | assumption)) dX9_catchUp_53 rfl ?_
      refine r_aload_n dX9_catchUp_56 rfl (zRv_ref _) rfl ?_
      refine r_getiv 9 1 1001 lfX9_15 (by first | (simp only [zKS]; first | assumption) | assumption | exact zk_nself _ _ _ | (simp [zKS, zNS, *]; done)) rfl rfl (by first | (simp only [zGS, zMS, Nat.reduceEqDiff, OfNat.ofNat_ne_ofNat, false_and, and_false, true_and, and_true, and_self, if_true, if_false, ite_true, ite_false, reduceIte, reduceCtorEq]; first | done | assumption | rfl) | assumption | exact z2_eq | exact z1_eq | (simp [zGS, zMS]; first | done | assumption) | rfl) dX9_catchUp_57 rfl ?_
      refine r_callV MX5_meet 2 [_, _] lvX9_152 (Or.inl ⟨5, by decide, (by first | (simp only [zKS]; first | assumption) | assumption | exact zk_nself _ _ _ | (simp [zKS, zNS, *]; done)), rfl⟩) (sp_rmeet E sg (d - 1) (by omega) T A (x + 1) (B k) (Lo k) (B k) s0 R.1 as w u1 u2 hT hA u4 hc (hok R (List.mem_of_getElem? hR))) rfl rfl (by first | exact Nat.le_of_ble_eq_true rfl | (simp [zcat_rf, Value.category]; done)) (by omega) (Nat.le_of_eq (Nat.zero_add _)) (Nat.le_of_eq (Nat.zero_add _)) dX9_catchUp_60 rfl (fun v_ w_ sg_ hq_ => ?_)
      obtain ⟨rfl, rfl, ex, hnx, hsm⟩ := hq_
      obtain ⟨w2, hw2⟩ : ∃ x, x = w_ := ⟨_, rfl⟩
      subst hw2
      have hE2 := hE0.x ex
      have hRA2 := hRA0.x ex
      have hrm : isRuM w2 (Lo k) (B k) T DC R := ⟨by rw [ex.k]; exact u1, s0, d0, by rw [ex.r]; exact u2, by rw [ex.r]; exact u3, hsm, u5.x ex (fun _ _ g => g)⟩
      obtain ⟨-, ⟨y1, y2, y3, y4, y5, -⟩, -⟩ := id hE2
      obtain ⟨z1, z2, -, z3⟩ := id hRA2
      have hq2 := z3 k hk
      have hLx : ∀ e, e < T.length → ∀ n, n < 10 → isLd w2 (A e + 1) DC n (leadN T Rs k e n) := fun e he n hn => (hL e he n hn).x ex
      refine r_aload_n dX9_catchUp_63 rfl (zRv_ref _) rfl ?_
      refine r_aload_n dX9_catchUp_64 rfl (zRv_ref _) rfl ?_
      refine r_gets 9 2 1002 lfX9_21 (by first | (simp only [zKS]; first | assumption) | assumption | exact zk_nself _ _ _ | (simp [zKS, zNS, *]; done)) rfl rfl (by first | (simp only [zGS, Nat.reduceEqDiff, OfNat.ofNat_ne_ofNat, false_and, and_false, true_and, and_true, and_self, if_true, if_false, ite_true, ite_false, reduceIte, reduceCtorEq]; first | done | assumption) | assumption | exact z2_eq | (simp [zGS]; first | done | assumption)) dX9_catchUp_65 rfl ?_
      refine r_iload_n dX9_catchUp_68 rfl rfl ?_
      refine r_aals8 k hq2 z1 rfl (by omega) (by omega) dX9_catchUp_69 rfl ?_
      refine r_iload_n dX9_catchUp_70 rfl rfl ?_
      refine r_callV MX9_enter 2 [_, _] lvX9_153 (Or.inl ⟨9, by decide, (by first | (simp only [zKS]; first | assumption) | assumption | exact zk_nself _ _ _ | (simp [zKS, zNS, *]; done)), rfl⟩) (sp_enter E sg (d - 1) (by omega) x k (Lo k) (B k) Rs.length T A DC RG R l1 l2 w2 (leadN T Rs k) hE2 hrm hLx) rfl rfl (by first | exact Nat.le_of_ble_eq_true rfl | (simp [zcat_rf, Value.category]; done)) (by omega) (Nat.le_of_eq (Nat.zero_add _)) (Nat.le_of_eq (Nat.zero_add _)) dX9_catchUp_71 rfl (fun v_ w_ sg_ hq_ => ?_)
      obtain ⟨rfl, rfl, hel, hL2⟩ := hq_
      obtain ⟨w3, hw3⟩ : ∃ x, x = w_ := ⟨_, rfl⟩
      subst hw3
      have hes := hel.to (fun a g => XL.st a g)
      refine r_iinc (ls' := [_, _]) dX9_catchUp_74 (Nat.le_of_ble_eq_true rfl) rfl (zinc1 _) rfl rfl ?_
      refine r_goto (r := 38) dX9_catchUp_77 (by decide) ?_
      refine rcu_2 E sg d hd x T A Rs Lo B DC RG hlR hok w0 m (k + 1) w3 (by omega) (hE2.e hes) (hRA2.e hes (hlay.ndk (j := 2) (by decide))) (hw.tr (ex.cu.tr hes.cu)) (fun j R9 hj hjk => ?_) (fun j R9 hj => ?_) (fun e he n hn => ?_) (fun e he p hp => ?_)
      · obtain ⟨q1, q2, q3⟩ := hlR j (List.getElem?_eq_some_iff.mp hj).1
        by_cases e : j = k
        · subst e
          rw [hR] at hj
          cases hj
          exact hrm.e hes hlay.ap l1 l2 hE2.2.2.2.2.2
        · refine ((hM j R9 hj (by omega)).x ex (fun a g1 g2 => hnx a (fun q => ?_))).e hes hlay.ap q1 q2 hE2.2.2.2.2.2
          obtain ⟨l9, q9⟩ := has a q
          have g3 := q9.1
          have g4 := l3 j (by omega)
          omega
      · obtain ⟨q1, q2, q3⟩ := hlR j (List.getElem?_eq_some_iff.mp hj).1
        exact ((hU j R9 hj).x ex).e hes hlay.ap q1 q2 hE2.2.2.2.2.2
      · have := hL2 e he n hn
        show isLd w3 (A e + 1) DC n ((match Rs[k]? with | some R => entR T R k e (leadN T Rs k e) | none => leadN T Rs k e) n)
        rw [hR]
        exact this
      · rw [(hel.2.2.2 (A e + 6) (hlay.nXL he (by omega))).a, ex.2.2.2.2.2.2.1]
        exact hH e he p hp
theorem sp_catchUp1 (E : ZE) (sg : ZM) (d : Nat) (hd : 6 ≤ d) (x : Nat) (T : List PEl) (A : Nat → Nat) (Rs : List PRule) (Lo B : Nat → Nat) (DC : Nat → PDecl → Prop) (RG : Nat → Nat → Prop) (hlR : layR Rs.length Lo B RG) (hok : ∀ R ∈ Rs, okSels R.1) (w : ZW) (hE : envA w x Rs.length T A DC RG) (hRA : isRA w x B Rs.length) (hU : rulesU w Rs Lo B DC) (hst : zi w 1006 x = nI 1) : CallQ E MX9_catchUp [.ref x] w sg d 0 0 (fun v w' sg' => v = none ∧ sg = sg' ∧ ecu x A T.length w w' ∧ envA w' x Rs.length T A DC RG ∧ isRA w' x B Rs.length ∧ caught w' x T A Rs Lo B DC ∧ how4 w' A T.length ∧ zi w' 1006 x = nI 0) := by
  have hst2 : zi w 1006 x = zb true := hst
  have k1 := hE.2.1.1
  refine CallQ.of rfl (by simp [Value.category]) (Nat.le_of_ble_eq_true rfl) ?_
  refine r_aload_n dX9_catchUp_0 rfl (zRv_ref _) rfl ?_
  refine r_getiv 9 6 1006 lfX9_42 (by first | (simp only [zKS]; first | assumption) | assumption | exact zk_nself _ _ _ | (simp [zKS, zNS, *]; done)) rfl rfl (by first | (simp only [zGS, zMS, Nat.reduceEqDiff, OfNat.ofNat_ne_ofNat, false_and, and_false, true_and, and_true, and_self, if_true, if_false, ite_true, ite_false, reduceIte, reduceCtorEq]; first | done | assumption | rfl) | assumption | exact z2_eq | exact z1_eq | (simp [zGS, zMS]; first | done | assumption) | rfl) dX9_catchUp_1 rfl ?_
  refine r_if_neB (r := 8) dX9_catchUp_4 (by decide) rfl (fun c_4 => ?_) (fun c_4 => ?_)
  · refine r_iconst dX9_catchUp_8 kc_0 rfl ?_
    refine r_istore_n (ls' := [_, _]) dX9_catchUp_9 (Nat.le_of_ble_eq_true rfl) rfl rfl ?_
    refine rcu_1 E sg d (by omega) x Rs.length T A DC RG w _ (fun w2 x1 hE2 hw2 hL2 hH2 => ?_) T.length 0 w (by omega) hE ech.rf (fun e he => absurd he (Nat.not_lt_zero e)) (fun e he => absurd he (Nat.not_lt_zero e))
    refine r_iconst dX9_catchUp_36 kc_0 rfl ?_
    refine r_istore_n (ls' := [_, _]) dX9_catchUp_37 (Nat.le_of_ble_eq_true rfl) rfl rfl ?_
    exact rcu_2 E sg d hd x T A Rs Lo B DC RG hlR hok w Rs.length 0 w2 (by omega) hE2 (hRA.e hw2 (hE.1.ndk (j := 2) (by decide))) hw2.cu (fun j R _ hj => absurd hj (Nat.not_lt_zero j)) (fun j R hj => (hU j R hj).e hw2 hE.1.ap (hlR j (List.getElem?_eq_some_iff.mp hj).1).1 (hlR j (List.getElem?_eq_some_iff.mp hj).1).2.1 hE.2.2.2.2.2) hL2 hH2
  · exact absurd c_4 (by decide)
theorem sp_catchUp0 (E : ZE) (sg : ZM) (d : Nat) (x : Nat) (w : ZW) (k1 : zk w x = 10) (hst : zi w 1006 x = nI 0) : CallQ E MX9_catchUp [.ref x] w sg d 0 0 (fun v w' sg' => v = none ∧ sg = sg' ∧ w' = w) := by
  have hst2 : zi w 1006 x = zb false := hst
  refine CallQ.of rfl (by simp [Value.category]) (Nat.le_of_ble_eq_true rfl) ?_
  refine r_aload_n dX9_catchUp_0 rfl (zRv_ref _) rfl ?_
  refine r_getiv 9 6 1006 lfX9_42 (by first | (simp only [zKS]; first | assumption) | assumption | exact zk_nself _ _ _ | (simp [zKS, zNS, *]; done)) rfl rfl (by first | (simp only [zGS, zMS, Nat.reduceEqDiff, OfNat.ofNat_ne_ofNat, false_and, and_false, true_and, and_true, and_self, if_true, if_false, ite_true, ite_false, reduceIte, reduceCtorEq]; first | done | assumption | rfl) | assumption | exact z2_eq | exact z1_eq | (simp [zGS, zMS]; first | done | assumption) | rfl) dX9_catchUp_1 rfl ?_
  refine r_if_neB (r := 8) dX9_catchUp_4 (by decide) rfl (fun c_4 => ?_) (fun c_4 => ?_)
  · exact absurd c_4 (by decide)
  · refine r_vret rfl dX9_catchUp_7 ?_
    exact ⟨rfl, rfl, rfl⟩
