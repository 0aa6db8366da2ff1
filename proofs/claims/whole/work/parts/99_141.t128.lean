/-! ===== the model: drop ===== -/
def drP (c : ZM) (T : List PEl) (Rs : List PRule) (B : List Nat) (k r : Nat) : Prop := mi c 0 = nI 0 ∧ mi c 8 = nI Rs.length ∧ (∀ j R, j < r - 1 → (Rs.eraseIdx k)[j]? = some R → ∃ q, rlA c j q R) ∧ (∀ j R, r - 1 ≤ j → Rs[j]? = some R → ∃ q, rlA c j q R) ∧ txA c 16 B ∧ mTx c ∧ mWd c ∧ mTree c T
theorem rlA.mvR {a b : ZM} {x k : Nat} {q : List Nat × Nat} {R : PRule} {v : Int32} (h : rlA a k q R) (m : mvR a b x) (hk : k ≠ x) : rlA (msa b 9 x v) k q R := by
  obtain ⟨h1, h2, h3⟩ := h
  obtain ⟨-, -, m3⟩ := m
  refine ⟨h1.fr ?_ (fun i _ _ => ?_), ?_, h3⟩
  · rw [ma_msa, if_neg (by omega)]
    exact m3 8 k (by omega) (by omega)
  · rw [ma_msa, if_neg (by omega)]
    exact m3 7 i (by omega) (by omega)
  · rw [ma_msa, if_neg (by omega), m3 9 k (by omega) (by omega)]
    exact h2
theorem rdr_35 (E : ZE) (mo : Nat) (hm : E.2.2.2.2 = some mo) (w : ZW) (d : Nat) (hd : 1 ≤ d) (T : List PEl) (Rs : List PRule) (B : List Nat) (k : Nat) (hk : k < Rs.length) (hn : Rs.length ≤ 16) : ∀ (m r : Nat) (c : ZM), r + m = Rs.length → k + 1 ≤ r → drP c T Rs B k r → RW E MX10_drop 35 [some (.ref mo), some (.int (nI k)), some (.int (nI r))] [] w c d 0 0 (PN E (fun v w' sg' => v = none ∧ w = w' ∧ mi sg' 0 = nI 0 ∧ mdI sg' T (Rs.eraseIdx k) B)) := by
  intro m
  induction m with
  | zero =>
    intro r c hr hkr h
    obtain ⟨h0, h1, h2, h3, h4, h5, h6, h7⟩ := h
    have hl : (Rs.eraseIdx k).length = Rs.length - 1 := by rw [List.length_eraseIdx_of_lt hk]
    refine r_iload_n dX10_drop_35 rfl rfl ?_
    refine r_aload_n dX10_drop_36 rfl (zRv_ref _) rfl ?_
    refine m_getiv hm 8 lfX10_274 rfl (by first | (simp only [zGS, zMS, Nat.reduceEqDiff, OfNat.ofNat_ne_ofNat, false_and, and_false, true_and, and_true, and_self, if_true, if_false, ite_true, ite_false, reduceIte, reduceCtorEq]; first | done | assumption | rfl) | assumption | exact z2_eq | exact z1_eq | (simp [zGS, zMS]; first | done | assumption) | rfl) dX10_drop_37 rfl ?_
    refine r_icmp_geN (by omega) (by omega) (r := 71) dX10_drop_40 (by decide) rfl (fun c_40 => ?_) (fun c_40 => ?_)
    · refine r_aload_n dX10_drop_71 rfl (zRv_ref _) rfl ?_
      refine r_dup dX10_drop_72 (by first | rfl | exact zcat_rf _) rfl ?_
      refine m_getiv hm 8 lfX10_274 rfl (by first | (simp only [zGS, zMS, Nat.reduceEqDiff, OfNat.ofNat_ne_ofNat, false_and, and_false, true_and, and_true, and_self, if_true, if_false, ite_true, ite_false, reduceIte, reduceCtorEq]; first | done | assumption | rfl) | assumption | exact z2_eq | exact z1_eq | (simp [zGS, zMS]; first | done | assumption) | rfl) dX10_drop_73 rfl ?_
      refine r_iconst dX10_drop_76 kc_1 rfl ?_
      refine r_isubN (by omega) dX10_drop_77 rfl ?_
      refine m_puti hm 8 lfX10_274 rfl rfl rfl dX10_drop_78 rfl ?_
      refine r_vret rfl dX10_drop_81 ?_
      refine ⟨rfl, rfl, by rw [mi_msi, if_neg (by decide)]; exact h0, h7.fr (by rw [mi_msi, if_neg (by decide)]) (fun _ _ _ _ => rfl), by omega, by rw [mi_msi, if_pos rfl, hl], fun j R hj => ?_, h4.fr rfl (fun _ _ _ => rfl), h5, h6⟩
      have hj9 := (List.getElem?_eq_some_iff.mp hj).1
      exact h2 j R (by omega) hj
    · exact absurd c_40 (by omega)
  | succ m ih =>
    intro r c hr hkr h
    obtain ⟨h0, h1, h2, h3, h4, h5, h6, h7⟩ := h
    obtain ⟨R, hR⟩ : ∃ R, Rs[r]? = some R := ⟨Rs[r], List.getElem?_eq_getElem (by omega)⟩
    obtain ⟨q, q1, q2, q3, q4⟩ := h3 r R (by omega) hR
    refine r_iload_n dX10_drop_35 rfl rfl ?_
    refine r_aload_n dX10_drop_36 rfl (zRv_ref _) rfl ?_
    refine m_getiv hm 8 lfX10_274 rfl (by first | (simp only [zGS, zMS, Nat.reduceEqDiff, OfNat.ofNat_ne_ofNat, false_and, and_false, true_and, and_true, and_self, if_true, if_false, ite_true, ite_false, reduceIte, reduceCtorEq]; first | done | assumption | rfl) | assumption | exact z2_eq | exact z1_eq | (simp [zGS, zMS]; first | done | assumption) | rfl) dX10_drop_37 rfl ?_
    refine r_icmp_geN (by omega) (by omega) (r := 71) dX10_drop_40 (by decide) rfl (fun c_40 => ?_) (fun c_40 => ?_)
    · exact absurd c_40 (by omega)
    · refine r_aload_n dX10_drop_43 rfl (zRv_ref _) rfl ?_
      refine r_iload_n dX10_drop_44 rfl rfl ?_
      refine r_iload_n dX10_drop_45 rfl rfl ?_
      refine r_iconst dX10_drop_46 kc_1 rfl ?_
      refine r_isubN (by omega) dX10_drop_47 rfl ?_
      refine r_callV MX10_move 2 [_, _] lvX10_280 (Or.inr (Or.inl ⟨hm, rfl⟩)) (q_move E mo hm w c (d - 1) r (r - 1) q.1 (by omega) (by omega) (by omega) h5 q1) rfl rfl (by first | exact Nat.le_of_ble_eq_true rfl | (simp [zcat_rf, Value.category]; done)) (by omega) (Nat.le_of_eq (Nat.zero_add _)) (Nat.le_of_eq (Nat.zero_add _)) dX10_drop_48 rfl (fun v_ w_ sg_ hq_ => ?_)
      obtain ⟨rfl, rfl, m1, m2, m3⟩ := hq_
      obtain ⟨c2, hc2⟩ : ∃ y, y = sg_ := ⟨_, rfl⟩
      subst hc2
      refine r_aload_n dX10_drop_51 rfl (zRv_ref _) rfl ?_
      refine m_geta hm 11 9 lfX10_35 rfl (by decide) dX10_drop_52 rfl ?_
      refine r_iload_n dX10_drop_55 rfl rfl ?_
      refine r_iconst dX10_drop_56 kc_1 rfl ?_
      refine r_isubN (by omega) dX10_drop_57 rfl ?_
      have e9 : ma c2 9 r = nI q.2 := (m1.2.2 9 r (by omega) (by omega)).trans q2
      refine r_aload_n dX10_drop_58 rfl (zRv_ref _) rfl ?_
      refine m_geta hm 11 9 lfX10_35 rfl (by decide) dX10_drop_59 rfl ?_
      refine r_iload_n dX10_drop_62 rfl rfl ?_
      refine m_ialdv hm 9 _ (by decide) (by decide) rfl rfl (by show _ < 16; omega) (by first | (simp only [zGS, zMS, Nat.reduceEqDiff, OfNat.ofNat_ne_ofNat, false_and, and_false, true_and, and_true, and_self, if_true, if_false, ite_true, ite_false, reduceIte, reduceCtorEq]; first | done | assumption | rfl) | assumption | exact z2_eq | exact z1_eq | (simp [zGS, zMS]; first | done | assumption) | rfl) dX10_drop_63 rfl ?_
      refine m_iast hm 9 _ (by decide) (by decide) rfl rfl (by show _ < 16; omega) dX10_drop_64 rfl ?_
      refine r_iinc (ls' := [_, _, _]) dX10_drop_65 (Nat.le_of_ble_eq_true rfl) rfl (zinc1 _) rfl rfl ?_
      refine r_goto (r := 35) dX10_drop_68 (by decide) ?_
      refine ih (r + 1) _ (by omega) (by omega) ⟨?_, ?_, fun j R9 hj hR9 => ?_, fun j R9 hj hR9 => ?_, ?_, ?_, ?_, ?_⟩
      · show mi c2 0 = _
        rw [m1.1]
        exact h0
      · show mi c2 8 = _
        rw [m1.1]
        exact h1
      · rcases Nat.lt_or_ge j (r - 1) with c9 | c9
        · obtain ⟨q9, z⟩ := h2 j R9 c9 hR9
          exact ⟨q9, z.mvR m1 (by omega)⟩
        · have hj2 : j = r - 1 := by omega
          subst hj2
          rw [List.getElem?_eraseIdx, if_neg (by omega), show r - 1 + 1 = r by omega, hR] at hR9
          cases hR9
          refine ⟨q, m3.fr ?_ (fun i _ _ => ?_), ?_, q3, q4⟩
          · rw [ma_msa, if_neg (by omega)]
          · rw [ma_msa, if_neg (by omega)]
          · rw [ma_msa, if_pos ⟨rfl, rfl⟩]
      · obtain ⟨q9, z⟩ := h3 j R9 (by omega) hR9
        exact ⟨q9, z.mvR m1 (by omega)⟩
      · refine h4.fr ?_ (fun i _ _ => ?_)
        · rw [ma_msa, if_neg (by omega)]
          exact m1.2.2 8 16 (by omega) (by omega)
        · rw [ma_msa, if_neg (by omega)]
          exact m1.2.2 7 i (by omega) (by omega)
      · exact m2.fr (fun i => by rw [ma_msa, if_neg (by omega)])
      · exact h6.kp (fun j i _ _ => by rw [ma_msa, if_neg (by omega)]; exact m1.2.2 j i (by omega) (by omega))
      · exact h7.fr (by show mi c2 1 = _; rw [m1.1]) (fun j i _ _ => by rw [ma_msa, if_neg (by omega)]; exact m1.2.2 j i (by omega) (by omega))
def mdrQ (T : List PEl) (Rs : List PRule) (B : List Nat) (k : Int32) (w : ZW) : ZQ := fun v w' sg' => v = none ∧ w = w' ∧ ((inI k Rs.length = true ∧ mi sg' 0 = nI 0 ∧ mdI sg' T (Rs.eraseIdx (ixD k)) B) ∨ (inI k Rs.length = false ∧ mi sg' 0 = nI 1 ∧ mdI sg' T Rs B))
theorem q_drop (E : ZE) (mo : Nat) (hm : E.2.2.2.2 = some mo) (w : ZW) (sg : ZM) (d : Nat) (hd : 1 ≤ d) (T : List PEl) (Rs : List PRule) (B : List Nat) (k : Int32) (h : mdI sg T Rs B) : CallQ E MX10_drop [.ref mo, .int k] w sg d 0 0 (mdrQ T Rs B k w) := by
  have h8 : mi sg 8 = nI Rs.length := h.2.2.1
  have hl : Rs.length ≤ 16 := h.2.1
  have hou := q_outE E w sg (d - 1) Rs.length k (nI Rs.length - nI 1) (by omega) rfl
  refine CallQ.of rfl (by simp [Value.category]) (Nat.le_of_ble_eq_true rfl) ?_
  cases hi : inI k Rs.length with
  | false =>
    rw [hi] at hou
    refine r_aload_n dX10_drop_0 rfl (zRv_ref _) rfl ?_
    refine r_iload_n dX10_drop_1 rfl rfl ?_
    refine r_iconst dX10_drop_2 kc_0 rfl ?_
    refine r_aload_n dX10_drop_3 rfl (zRv_ref _) rfl ?_
    refine m_getiv hm 8 lfX10_274 rfl (by first | (simp only [zGS, zMS, Nat.reduceEqDiff, OfNat.ofNat_ne_ofNat, false_and, and_false, true_and, and_true, and_self, if_true, if_false, ite_true, ite_false, reduceIte, reduceCtorEq]; first | done | assumption | rfl) | assumption | exact z2_eq | exact z1_eq | (simp [zGS, zMS]; first | done | assumption) | rfl) dX10_drop_4 rfl ?_
    refine r_iconst dX10_drop_7 kc_1 rfl ?_
    refine r_isub dX10_drop_8 rfl ?_
    refine r_callS MX10_outside 3 [_, _, _] lsX10_140 (hou) rfl rfl (by first | exact Nat.le_of_ble_eq_true rfl | (simp [zcat_rf, Value.category]; done)) (by omega) (Nat.le_of_eq (Nat.zero_add _)) (Nat.le_of_eq (Nat.zero_add _)) dX10_drop_9 rfl (fun v_ w_ sg_ hq_ => ?_)
    obtain ⟨rfl, rfl, rfl⟩ := hq_
    refine r_if_eqB (r := 19) dX10_drop_12 (by decide) rfl (fun c_12 => ?_) (fun c_12 => ?_)
    · cases c_12
    · refine r_iconst dX10_drop_15 kc_1 rfl ?_
      refine r_goto (r := 20) dX10_drop_16 (by decide) ?_
      refine m_puti hm 0 lfX10_133 rfl rfl rfl dX10_drop_20 rfl ?_
      refine r_aload_n dX10_drop_23 rfl (zRv_ref _) rfl ?_
      refine m_getiv hm 0 lfX10_133 rfl (by first | (simp only [zGS, zMS, Nat.reduceEqDiff, OfNat.ofNat_ne_ofNat, false_and, and_false, true_and, and_true, and_self, if_true, if_false, ite_true, ite_false, reduceIte, reduceCtorEq]; first | done | assumption | rfl) | assumption | exact z2_eq | exact z1_eq | (simp [zGS, zMS]; first | done | assumption) | rfl) dX10_drop_24 rfl ?_
      refine r_if_le (r := 31) dX10_drop_27 (by decide) rfl (fun c_27 => ?_) (fun c_27 => ?_)
      · exact absurd (show nI 1 ≤ 0 from c_27) (by decide)
      · refine r_vret rfl dX10_drop_30 ?_
        exact ⟨rfl, rfl, Or.inr ⟨hi, by rw [mi_msi, if_pos rfl], h.code _⟩⟩
  | true =>
    rw [hi] at hou
    obtain ⟨i, hi2, rfl⟩ := inI_nat (by omega) hi
    have hix : ixD (nI i) = i := ixD_n (by omega)
    refine r_aload_n dX10_drop_0 rfl (zRv_ref _) rfl ?_
    refine r_iload_n dX10_drop_1 rfl rfl ?_
    refine r_iconst dX10_drop_2 kc_0 rfl ?_
    refine r_aload_n dX10_drop_3 rfl (zRv_ref _) rfl ?_
    refine m_getiv hm 8 lfX10_274 rfl (by first | (simp only [zGS, zMS, Nat.reduceEqDiff, OfNat.ofNat_ne_ofNat, false_and, and_false, true_and, and_true, and_self, if_true, if_false, ite_true, ite_false, reduceIte, reduceCtorEq]; first | done | assumption | rfl) | assumption | exact z2_eq | exact z1_eq | (simp [zGS, zMS]; first | done | assumption) | rfl) dX10_drop_4 rfl ?_
    refine r_iconst dX10_drop_7 kc_1 rfl ?_
    refine r_isub dX10_drop_8 rfl ?_
    refine r_callS MX10_outside 3 [_, _, _] lsX10_140 (hou) rfl rfl (by first | exact Nat.le_of_ble_eq_true rfl | (simp [zcat_rf, Value.category]; done)) (by omega) (Nat.le_of_eq (Nat.zero_add _)) (Nat.le_of_eq (Nat.zero_add _)) dX10_drop_9 rfl (fun v_ w_ sg_ hq_ => ?_)
    obtain ⟨rfl, rfl, rfl⟩ := hq_
    refine r_if_eqB (r := 19) dX10_drop_12 (by decide) rfl (fun c_12 => ?_) (fun c_12 => ?_)
    · refine r_iconst dX10_drop_19 kc_0 rfl ?_
      refine m_puti hm 0 lfX10_133 rfl rfl rfl dX10_drop_20 rfl ?_
      refine r_aload_n dX10_drop_23 rfl (zRv_ref _) rfl ?_
      refine m_getiv hm 0 lfX10_133 rfl (by first | (simp only [zGS, zMS, Nat.reduceEqDiff, OfNat.ofNat_ne_ofNat, false_and, and_false, true_and, and_true, and_self, if_true, if_false, ite_true, ite_false, reduceIte, reduceCtorEq]; first | done | assumption | rfl) | assumption | exact z2_eq | exact z1_eq | (simp [zGS, zMS]; first | done | assumption) | rfl) dX10_drop_24 rfl ?_
      refine r_if_le (r := 31) dX10_drop_27 (by decide) rfl (fun c_27 => ?_) (fun c_27 => ?_)
      · refine r_iload_n dX10_drop_31 rfl rfl ?_
        refine r_iconst dX10_drop_32 kc_1 rfl ?_
        refine r_iaddN dX10_drop_33 rfl ?_
        refine r_istore_n (ls' := [_, _, _]) dX10_drop_34 (Nat.le_of_ble_eq_true rfl) rfl rfl ?_
        refine RW.qmono (rdr_35 E mo hm w d hd T Rs B i hi2 hl (Rs.length - (i + 1)) (i + 1) _ (by omega) (Nat.le_refl _) ?_) ?_
        · obtain ⟨z1, z2, z3, z4, z5, z6, z7⟩ := h.code (nI 0)
          refine ⟨by rw [mi_msi, if_pos rfl], z3, fun j R hj hR => ?_, fun j R hj hR => z4 j R hR, z5, z6, z7, z1⟩
          rw [List.getElem?_eraseIdx, if_pos (by omega)] at hR
          exact z4 j R hR
        · rintro v w' sg' ⟨q1, q2, q3, q4⟩
          exact ⟨q1, q2, Or.inl ⟨hi, q3, by rw [hix]; exact q4⟩⟩
      · exact absurd (show nI 0 ≤ 0 by decide) c_27
    · cases c_12
