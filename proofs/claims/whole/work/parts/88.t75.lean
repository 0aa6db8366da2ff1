/-! ===== winner, value, how ===== -/
theorem layA.bX1 {x n : Nat} {A : Nat → Nat} {RG : Nat → Nat → Prop} (h : layA x n A RG) {j : Nat} (hj : j < 7) : ¬ X1 x A n (x + j) := fun q => by
  rcases q with ⟨q1, q2⟩ | ⟨e, h4, h5⟩
  · omega
  · have := h.1 e h4; omega
def xNI (w : ZW) (sg : ZM) (x : Nat) (T : List PEl) (Rs : List PRule) (B : List Nat) (e n : Int32) (m : Nat) : ZX := fun C w' sg' => (C = zNSE ∧ inI e T.length = false ∨ C = zIAE ∧ inI e T.length = true ∧ inI n m = false) ∧ dskI w' x T Rs B ∧ sg = sg'
theorem sp_winner (E : ZE) (sg : ZM) (d : Nat) (hd : 7 ≤ d) (x : Nat) (e n : Int32) (T : List PEl) (Rs : List PRule) (B : List Nat) (w : ZW) (h : dskI w x T Rs B) : CallX E MX9_winner [.ref x, .int e, .int n] w sg d 2 12 (fun v w' sg' => (inI e T.length = true ∧ inI n 10 = true) ∧ v = some (.int (winD T Rs e n)) ∧ dskI w' x T Rs B ∧ sg = sg') (xNI w sg x T Rs B e n 10) := by
  have hD := h.desk
  have k1 : zk w x = 10 := hD.1
  refine CallX.of rfl (by simp [Value.category]) (Nat.le_of_ble_eq_true rfl) ?_
  refine r_aload_n dX9_winner_0 rfl (zRv_ref _) rfl ?_
  refine r_iload_n dX9_winner_1 rfl rfl ?_
  refine x_callV (a := 1) (a' := 6) MX9_checkElement 1 [_] rfl lvX9_90 (Or.inl ⟨9, by decide, k1, rfl⟩) (sp_checkElement E sg (d - 1) x T.length Rs.length (by omega) e w hD) rfl rfl (by first | exact Nat.le_of_ble_eq_true rfl | (simp [zcat_rf, Value.category]; done)) (by omega) (by decide) (by decide) dX9_winner_2 rfl (fun C w' sg' hX => by obtain ⟨rfl, q, rfl, n, rfl⟩ := hX; exact ⟨Or.inl ⟨rfl, q⟩, h.skip n, rfl⟩) (fun v_ w_ sg_ hq_ => ?_)
  obtain ⟨rfl, he, rfl, rfl⟩ := hq_
  refine r_aload_n dX9_winner_5 rfl (zRv_ref _) rfl ?_
  refine r_iload_n dX9_winner_6 rfl rfl ?_
  refine r_bipush dX9_winner_7 kb_10 rfl ?_
  refine x_callV (a := 0) (a' := 0) MX9_checkName 2 [_, _] rfl lvX9_117 (Or.inl ⟨9, by decide, k1, rfl⟩) (sp_checkName E sg (d - 1) x T.length Rs.length 10 (by omega) n w hD) rfl rfl (by first | exact Nat.le_of_ble_eq_true rfl | (simp [zcat_rf, Value.category]; done)) (by omega) (by decide) (by decide) dX9_winner_9 rfl (fun C w' sg' hX => by obtain ⟨rfl, q, rfl, n, rfl⟩ := hX; exact ⟨Or.inr ⟨rfl, he, q⟩, h.skip n, rfl⟩) (fun v_ w_ sg_ hq_ => ?_)
  obtain ⟨rfl, hn, rfl, rfl⟩ := hq_
  refine r_aload_n dX9_winner_12 rfl (zRv_ref _) rfl ?_
  refine r_callV MX9_catchUp 0 (a := 0) (a' := 0) [] lvX9_110 (Or.inl ⟨9, by decide, (by first | (simp only [zKS]; first | assumption) | assumption | exact zk_nself _ _ _ | (simp [zKS, zNS, *]; done)), rfl⟩) (sp_cu E sg (d - 1) (by omega) x T Rs B w h) rfl rfl (by first | exact Nat.le_of_ble_eq_true rfl | (simp [zcat_rf, Value.category]; done)) (by omega) (by first | omega | exact Nat.le_of_eq ((Nat.add_comm _ _).trans (Nat.succ_mul _ _).symm)) (by first | omega | exact Nat.le_of_eq ((Nat.add_comm _ _).trans (Nat.succ_mul _ _).symm)) dX9_winner_13 rfl (fun v_ w_ sg_ hq_ => ?_)
  obtain ⟨rfl, rfl, g1, g2, g3, A, Lo, Bk, DC, RG, K, g4⟩ := hq_
  obtain ⟨w2, hw2⟩ : ∃ y, y = w_ := ⟨_, rfl⟩
  subst hw2
  obtain ⟨⟨⟨hl, ⟨m1, m2, m3, m4, m5, m6, m7⟩, hT, hA, hSt, hF⟩, hlR, hRA, hU, hK, hz, hDC⟩, c1, c2, c3⟩ := id g4
  have h24 := hT.1.1
  obtain ⟨i, hi, rfl⟩ := inI_nat (by omega) he
  obtain ⟨j, hj, rfl⟩ := inI_nat (by omega) hn
  have el := hT.2 i hi
  have n1 := el.1
  have n2 : zr w2 309 (A i) = some (A i + 1) := el.2.2.2.2.2.2.2.2.2.2.2.1
  have n3 : zk w2 (A i + 1) = 8 := (hSt i hi).1.1
  have hans : winD T Rs (nI i) (nI j) = (match ldD T Rs i j with | none => -1 | some (k, _, _) => nI k) := by
    unfold winD
    rw [ixD_n (by omega), ixD_n (by omega)]
    cases ldD T Rs i j <;> rfl
  obtain ⟨o, ho⟩ : ∃ o, o = ldD T Rs i j := ⟨_, rfl⟩
  have hld : isLd w2 (A i + 1) DC j o := by rw [ho]; exact c2.2 i hi j hj
  refine r_aload_n dX9_winner_16 rfl (zRv_ref _) rfl ?_
  refine r_gets 9 0 1000 lfX9_11 (by first | (simp only [zKS]; first | assumption) | assumption | exact zk_nself _ _ _ | (simp [zKS, zNS, *]; done)) rfl rfl (by first | (simp only [zGS, Nat.reduceEqDiff, OfNat.ofNat_ne_ofNat, false_and, and_false, true_and, and_true, and_self, if_true, if_false, ite_true, ite_false, reduceIte, reduceCtorEq]; first | done | assumption) | assumption | exact z2_eq | (simp [zGS]; first | done | assumption)) dX9_winner_17 rfl ?_
  refine r_iload_n dX9_winner_20 rfl rfl ?_
  refine r_aals7 i (hA.2.2 i hi) hA.1 rfl (by rw [hA.2.1]; omega) (by omega) dX9_winner_21 rfl ?_
  refine r_gets 2 9 309 lfX9_121 (by first | (simp only [zKS]; first | assumption) | assumption | exact zk_nself _ _ _ | (simp [zKS, zNS, *]; done)) rfl rfl (by first | (simp only [zGS, Nat.reduceEqDiff, OfNat.ofNat_ne_ofNat, false_and, and_false, true_and, and_true, and_self, if_true, if_false, ite_true, ite_false, reduceIte, reduceCtorEq]; first | done | assumption) | assumption | exact z2_eq | (simp [zGS]; first | done | assumption)) dX9_winner_22 rfl ?_
  refine r_iload_n dX9_winner_25 rfl rfl ?_
  refine r_callV MX7_leadingRule 1 (a := 0) (a' := 0) [_] lvX9_125 (Or.inl ⟨7, by decide, (by first | (simp only [zKS]; first | assumption) | assumption | exact zk_nself _ _ _ | (simp [zKS, zNS, *]; done)), rfl⟩) (sp_leadingRule E sg (d - 1) (A i + 1) j hj w2 (hSt i hi) DC o hld) rfl rfl (by first | exact Nat.le_of_ble_eq_true rfl | (simp [zcat_rf, Value.category]; done)) (by omega) (by first | omega | exact Nat.le_of_eq ((Nat.add_comm _ _).trans (Nat.succ_mul _ _).symm)) (by first | omega | exact Nat.le_of_eq ((Nat.add_comm _ _).trans (Nat.succ_mul _ _).symm)) dX9_winner_26 rfl (fun v_ w_ sg_ hq_ => ?_)
  obtain ⟨rfl, rfl, rfl⟩ := hq_
  refine x_iret rfl dX9_winner_29 ?_
  exact ⟨⟨he, hn⟩, by rw [hans, ← ho]; cases o <;> rfl, g4.i g1 g2 g3, rfl⟩
theorem dskS.set {w w' : ZW} {x : Nat} {T : List PEl} {Rs : List PRule} {B : List Nat} {A Lo Bk : Nat → Nat} {DC : Nat → PDecl → Prop} {RG : Nat → Nat → Prop} {K : PKn} (h : dskS w x T Rs A Lo Bk DC RG K) (hB : dskB w x B) (hk : okRs Rs) (e : ech (X1 x A T.length) w w') (hC : cchE w' x Rs.length T A DC RG (ldD T Rs) (vD T Rs)) : dskI w' x T Rs B := by
  obtain ⟨⟨hE, hlR, hRA, hU, hK, ⟨hz1, hz2⟩, hDC⟩, c1, c2, c3⟩ := h
  obtain ⟨⟨g1, g2, K', g3, g4⟩, g5, g6⟩ := hC
  obtain ⟨b1, b2, b3⟩ := hB
  have hl := hE.1
  have hx : ∀ j, j < 7 → zeq w w' (x + j) := fun j hj => e.2.2.2 _ (hl.bX1 hj)
  have hzz : zsz w' = zsz w := e.1
  refine ⟨⟨by omega, b2.fr (hx 3 (by decide)) (hx 4 (by decide)) (hx 5 (by decide)) (hx 6 (by decide)), b3.1.z (hx 3 (by decide)) (hx 4 (by decide)), b3.2.e e.1 e.2.1 e.2.2.1⟩, g5, hk, A, Lo, Bk, DC, RG, K', ⟨g1, hlR, hRA.z (hx 2 (by decide)), fun k R hR => ?_, ⟨g3, g4⟩, ⟨fun i hi => by rw [hzz]; exact hz1 i hi, fun lo hi q => by rw [hzz]; exact hz2 lo hi q⟩, hDC⟩, Or.inr ⟨((hx 0 (by decide)).i 1006).trans c1, ⟨fun k R hR => ?_, g2⟩, g6⟩⟩
  · obtain ⟨q1, q2, -⟩ := hlR k (List.getElem?_eq_some_iff.mp hR).1
    exact (hU k R hR).e e hl.rX1 q1 q2 hE.2.2.2.2.2
  · obtain ⟨q1, q2, -⟩ := hlR k (List.getElem?_eq_some_iff.mp hR).1
    exact (c2.1 k R hR).e e hl.rX1 q1 q2 hE.2.2.2.2.2
