/-! ===== the model: holds, but for counts ===== -/
def hldR (T : List PEl) (e : Nat) (q : PRow) : Bool := if q.2.1 = 0 then true else if q.2.1 = 1 then decide (nI (tG T e) = q.2.2.1) else if q.2.1 = 2 then decide (nI (tI T e) = q.2.2.1) else if q.2.1 = 3 then !decide (nI (tC T e) &&& q.2.2.1 = 0) else if q.2.1 = 4 then decide (idxT T e = 1) else if q.2.1 = 5 then lastB T e else reachI (nI (idxT T e)) q.2.2.2 q.2.2.1
theorem idxT_sm {T : List PEl} (h : wfT T) {e : Nat} (he : e < T.length) : idxT T e < 100 := by
  unfold idxT
  split
  · decide
  · rename_i p hp
    have := bcnt_le (isKid T p) e
    have := h.1
    omega
theorem q_holds5 (E : ZE) (mo : Nat) (hm : E.2.2.2.2 = some mo) (w : ZW) (sg : ZM) (d e p g k : Nat) (x y : Int32) (hd : 1 ≤ d) (T : List PEl) (he : e < T.length) (h : mTree sg T) (hp : p < 130) (r14 : ma sg 14 p = nI k) (r15 : ma sg 15 p = x) (hk : k < 6) : CallQ E MX10_holds [.ref mo, .int (nI p), .int (nI e)] w sg d 0 0 (fun v w' sg' => v = some (.int (zb (hldR T e (g, k, x, y)))) ∧ w = w' ∧ sg = sg') := by
  have h0 := h
  obtain ⟨hw, h1, h2⟩ := h0
  have h24 := hw.1
  obtain ⟨a1, a2, a3, a4, a5, a6⟩ := h2 e he
  have hi := idxT_sm hw he
  refine CallQ.of rfl (by simp [Value.category]) (Nat.le_of_ble_eq_true rfl) ?_
  rcases (by omega : k = 0 ∨ k = 1 ∨ k = 2 ∨ k = 3 ∨ k = 4 ∨ k = 5) with rfl | rfl | rfl | rfl | rfl | rfl
  · skip
    refine r_aload_n dX10_holds_0 rfl (zRv_ref _) rfl ?_
    refine m_geta hm 23 14 lfX10_50 rfl (by decide) dX10_holds_1 rfl ?_
    refine r_iload_n dX10_holds_4 rfl rfl ?_
    refine m_ialdv hm 14 _ (by decide) (by decide) rfl rfl (by show _ < 130; omega) (by first | (simp only [zGS, zMS, Nat.reduceEqDiff, OfNat.ofNat_ne_ofNat, false_and, and_false, true_and, and_true, and_self, if_true, if_false, ite_true, ite_false, reduceIte, reduceCtorEq]; first | done | assumption | rfl) | assumption | exact z2_eq | exact z1_eq | (simp [zGS, zMS]; first | done | assumption) | rfl) dX10_holds_5 rfl ?_
    refine r_tableIn (off := 38) (r := 44) dX10_holds_6 (by decide +kernel) (by decide +kernel) (by decide +kernel) (by decide) ?_
    refine r_iconst dX10_holds_44 kc_1 rfl ?_
    refine r_zret .boolean rfl rfl dX10_holds_45 ?_
    exact ⟨rfl, rfl, rfl⟩
  · have e1 : hldR T e (g, 1, x, y) = decide (nI (tG T e) = x) := rfl
    rw [e1]
    refine r_aload_n dX10_holds_0 rfl (zRv_ref _) rfl ?_
    refine m_geta hm 23 14 lfX10_50 rfl (by decide) dX10_holds_1 rfl ?_
    refine r_iload_n dX10_holds_4 rfl rfl ?_
    refine m_ialdv hm 14 _ (by decide) (by decide) rfl rfl (by show _ < 130; omega) (by first | (simp only [zGS, zMS, Nat.reduceEqDiff, OfNat.ofNat_ne_ofNat, false_and, and_false, true_and, and_true, and_self, if_true, if_false, ite_true, ite_false, reduceIte, reduceCtorEq]; first | done | assumption | rfl) | assumption | exact z2_eq | exact z1_eq | (simp [zGS, zMS]; first | done | assumption) | rfl) dX10_holds_5 rfl ?_
    refine r_tableIn (off := 40) (r := 46) dX10_holds_6 (by decide +kernel) (by decide +kernel) (by decide +kernel) (by decide) ?_
    refine r_aload_n dX10_holds_46 rfl (zRv_ref _) rfl ?_
    refine m_geta hm 3 2 lfX10_13 rfl (by decide) dX10_holds_47 rfl ?_
    refine r_iload_n dX10_holds_50 rfl rfl ?_
    refine m_ialdv hm 2 _ (by decide) (by decide) rfl rfl (by show _ < 24; omega) (by first | (simp only [zGS, zMS, Nat.reduceEqDiff, OfNat.ofNat_ne_ofNat, false_and, and_false, true_and, and_true, and_self, if_true, if_false, ite_true, ite_false, reduceIte, reduceCtorEq]; first | done | assumption | rfl) | assumption | exact z2_eq | exact z1_eq | (simp [zGS, zMS]; first | done | assumption) | rfl) dX10_holds_51 rfl ?_
    refine r_aload_n dX10_holds_52 rfl (zRv_ref _) rfl ?_
    refine m_geta hm 24 15 lfX10_53 rfl (by decide) dX10_holds_53 rfl ?_
    refine r_iload_n dX10_holds_56 rfl rfl ?_
    refine m_ialdv hm 15 _ (by decide) (by decide) rfl rfl (by show _ < 130; omega) (by first | (simp only [zGS, zMS, Nat.reduceEqDiff, OfNat.ofNat_ne_ofNat, false_and, and_false, true_and, and_true, and_self, if_true, if_false, ite_true, ite_false, reduceIte, reduceCtorEq]; first | done | assumption | rfl) | assumption | exact z2_eq | exact z1_eq | (simp [zGS, zMS]; first | done | assumption) | rfl) dX10_holds_57 rfl ?_
    refine r_icmp_ne (r := 65) dX10_holds_58 (by decide) rfl (fun c_58 => ?_) (fun c_58 => ?_)
    · refine r_iconst dX10_holds_65 kc_0 rfl ?_
      refine r_zret .boolean rfl rfl dX10_holds_66 ?_
      rw [decide_eq_false c_58]
      exact ⟨rfl, rfl, rfl⟩
    · refine r_iconst dX10_holds_61 kc_1 rfl ?_
      refine r_goto (r := 66) dX10_holds_62 (by decide) ?_
      refine r_zret .boolean rfl rfl dX10_holds_66 ?_
      rw [decide_eq_true c_58]
      exact ⟨rfl, rfl, rfl⟩
  · have e1 : hldR T e (g, 2, x, y) = decide (nI (tI T e) = x) := rfl
    rw [e1]
    refine r_aload_n dX10_holds_0 rfl (zRv_ref _) rfl ?_
    refine m_geta hm 23 14 lfX10_50 rfl (by decide) dX10_holds_1 rfl ?_
    refine r_iload_n dX10_holds_4 rfl rfl ?_
    refine m_ialdv hm 14 _ (by decide) (by decide) rfl rfl (by show _ < 130; omega) (by first | (simp only [zGS, zMS, Nat.reduceEqDiff, OfNat.ofNat_ne_ofNat, false_and, and_false, true_and, and_true, and_self, if_true, if_false, ite_true, ite_false, reduceIte, reduceCtorEq]; first | done | assumption | rfl) | assumption | exact z2_eq | exact z1_eq | (simp [zGS, zMS]; first | done | assumption) | rfl) dX10_holds_5 rfl ?_
    refine r_tableIn (off := 61) (r := 67) dX10_holds_6 (by decide +kernel) (by decide +kernel) (by decide +kernel) (by decide) ?_
    refine r_aload_n dX10_holds_67 rfl (zRv_ref _) rfl ?_
    refine m_geta hm 4 3 lfX10_16 rfl (by decide) dX10_holds_68 rfl ?_
    refine r_iload_n dX10_holds_71 rfl rfl ?_
    refine m_ialdv hm 3 _ (by decide) (by decide) rfl rfl (by show _ < 24; omega) (by first | (simp only [zGS, zMS, Nat.reduceEqDiff, OfNat.ofNat_ne_ofNat, false_and, and_false, true_and, and_true, and_self, if_true, if_false, ite_true, ite_false, reduceIte, reduceCtorEq]; first | done | assumption | rfl) | assumption | exact z2_eq | exact z1_eq | (simp [zGS, zMS]; first | done | assumption) | rfl) dX10_holds_72 rfl ?_
    refine r_aload_n dX10_holds_73 rfl (zRv_ref _) rfl ?_
    refine m_geta hm 24 15 lfX10_53 rfl (by decide) dX10_holds_74 rfl ?_
    refine r_iload_n dX10_holds_77 rfl rfl ?_
    refine m_ialdv hm 15 _ (by decide) (by decide) rfl rfl (by show _ < 130; omega) (by first | (simp only [zGS, zMS, Nat.reduceEqDiff, OfNat.ofNat_ne_ofNat, false_and, and_false, true_and, and_true, and_self, if_true, if_false, ite_true, ite_false, reduceIte, reduceCtorEq]; first | done | assumption | rfl) | assumption | exact z2_eq | exact z1_eq | (simp [zGS, zMS]; first | done | assumption) | rfl) dX10_holds_78 rfl ?_
    refine r_icmp_ne (r := 86) dX10_holds_79 (by decide) rfl (fun c_79 => ?_) (fun c_79 => ?_)
    · refine r_iconst dX10_holds_86 kc_0 rfl ?_
      refine r_zret .boolean rfl rfl dX10_holds_87 ?_
      rw [decide_eq_false c_79]
      exact ⟨rfl, rfl, rfl⟩
    · refine r_iconst dX10_holds_82 kc_1 rfl ?_
      refine r_goto (r := 87) dX10_holds_83 (by decide) ?_
      refine r_zret .boolean rfl rfl dX10_holds_87 ?_
      rw [decide_eq_true c_79]
      exact ⟨rfl, rfl, rfl⟩
  · have e1 : hldR T e (g, 3, x, y) = !decide (nI (tC T e) &&& x = 0) := rfl
    rw [e1]
    refine r_aload_n dX10_holds_0 rfl (zRv_ref _) rfl ?_
    refine m_geta hm 23 14 lfX10_50 rfl (by decide) dX10_holds_1 rfl ?_
    refine r_iload_n dX10_holds_4 rfl rfl ?_
    refine m_ialdv hm 14 _ (by decide) (by decide) rfl rfl (by show _ < 130; omega) (by first | (simp only [zGS, zMS, Nat.reduceEqDiff, OfNat.ofNat_ne_ofNat, false_and, and_false, true_and, and_true, and_self, if_true, if_false, ite_true, ite_false, reduceIte, reduceCtorEq]; first | done | assumption | rfl) | assumption | exact z2_eq | exact z1_eq | (simp [zGS, zMS]; first | done | assumption) | rfl) dX10_holds_5 rfl ?_
    refine r_tableIn (off := 82) (r := 88) dX10_holds_6 (by decide +kernel) (by decide +kernel) (by decide +kernel) (by decide) ?_
    refine r_aload_n dX10_holds_88 rfl (zRv_ref _) rfl ?_
    refine m_geta hm 5 4 lfX10_19 rfl (by decide) dX10_holds_89 rfl ?_
    refine r_iload_n dX10_holds_92 rfl rfl ?_
    refine m_ialdv hm 4 _ (by decide) (by decide) rfl rfl (by show _ < 24; omega) (by first | (simp only [zGS, zMS, Nat.reduceEqDiff, OfNat.ofNat_ne_ofNat, false_and, and_false, true_and, and_true, and_self, if_true, if_false, ite_true, ite_false, reduceIte, reduceCtorEq]; first | done | assumption | rfl) | assumption | exact z2_eq | exact z1_eq | (simp [zGS, zMS]; first | done | assumption) | rfl) dX10_holds_93 rfl ?_
    refine r_aload_n dX10_holds_94 rfl (zRv_ref _) rfl ?_
    refine m_geta hm 24 15 lfX10_53 rfl (by decide) dX10_holds_95 rfl ?_
    refine r_iload_n dX10_holds_98 rfl rfl ?_
    refine m_ialdv hm 15 _ (by decide) (by decide) rfl rfl (by show _ < 130; omega) (by first | (simp only [zGS, zMS, Nat.reduceEqDiff, OfNat.ofNat_ne_ofNat, false_and, and_false, true_and, and_true, and_self, if_true, if_false, ite_true, ite_false, reduceIte, reduceCtorEq]; first | done | assumption | rfl) | assumption | exact z2_eq | exact z1_eq | (simp [zGS, zMS]; first | done | assumption) | rfl) dX10_holds_99 rfl ?_
    refine r_iand dX10_holds_100 rfl ?_
    refine r_if_eq (r := 108) dX10_holds_101 (by decide) rfl (fun c_101 => ?_) (fun c_101 => ?_)
    · refine r_iconst dX10_holds_108 kc_0 rfl ?_
      refine r_zret .boolean rfl rfl dX10_holds_109 ?_
      rw [decide_eq_true c_101]
      exact ⟨rfl, rfl, rfl⟩
    · refine r_iconst dX10_holds_104 kc_1 rfl ?_
      refine r_goto (r := 109) dX10_holds_105 (by decide) ?_
      refine r_zret .boolean rfl rfl dX10_holds_109 ?_
      rw [decide_eq_false c_101]
      exact ⟨rfl, rfl, rfl⟩
  · have e1 : hldR T e (g, 4, x, y) = decide (idxT T e = 1) := rfl
    rw [e1]
    refine r_aload_n dX10_holds_0 rfl (zRv_ref _) rfl ?_
    refine m_geta hm 23 14 lfX10_50 rfl (by decide) dX10_holds_1 rfl ?_
    refine r_iload_n dX10_holds_4 rfl rfl ?_
    refine m_ialdv hm 14 _ (by decide) (by decide) rfl rfl (by show _ < 130; omega) (by first | (simp only [zGS, zMS, Nat.reduceEqDiff, OfNat.ofNat_ne_ofNat, false_and, and_false, true_and, and_true, and_self, if_true, if_false, ite_true, ite_false, reduceIte, reduceCtorEq]; first | done | assumption | rfl) | assumption | exact z2_eq | exact z1_eq | (simp [zGS, zMS]; first | done | assumption) | rfl) dX10_holds_5 rfl ?_
    refine r_tableIn (off := 104) (r := 110) dX10_holds_6 (by decide +kernel) (by decide +kernel) (by decide +kernel) (by decide) ?_
    refine r_aload_n dX10_holds_110 rfl (zRv_ref _) rfl ?_
    refine m_geta hm 6 5 lfX10_22 rfl (by decide) dX10_holds_111 rfl ?_
    refine r_iload_n dX10_holds_114 rfl rfl ?_
    refine m_ialdv hm 5 _ (by decide) (by decide) rfl rfl (by show _ < 24; omega) (by first | (simp only [zGS, zMS, Nat.reduceEqDiff, OfNat.ofNat_ne_ofNat, false_and, and_false, true_and, and_true, and_self, if_true, if_false, ite_true, ite_false, reduceIte, reduceCtorEq]; first | done | assumption | rfl) | assumption | exact z2_eq | exact z1_eq | (simp [zGS, zMS]; first | done | assumption) | rfl) dX10_holds_115 rfl ?_
    refine r_iconst dX10_holds_116 kc_1 rfl ?_
    refine r_icmp_neN (by omega) (by omega) (r := 124) dX10_holds_117 (by decide) rfl (fun c_117 => ?_) (fun c_117 => ?_)
    · refine r_iconst dX10_holds_124 kc_0 rfl ?_
      refine r_zret .boolean rfl rfl dX10_holds_125 ?_
      rw [decide_eq_false c_117]
      exact ⟨rfl, rfl, rfl⟩
    · refine r_iconst dX10_holds_120 kc_1 rfl ?_
      refine r_goto (r := 125) dX10_holds_121 (by decide) ?_
      refine r_zret .boolean rfl rfl dX10_holds_125 ?_
      rw [decide_eq_true c_117]
      exact ⟨rfl, rfl, rfl⟩
  · have e1 : hldR T e (g, 5, x, y) = lastB T e := rfl
    rw [e1]
    refine r_aload_n dX10_holds_0 rfl (zRv_ref _) rfl ?_
    refine m_geta hm 23 14 lfX10_50 rfl (by decide) dX10_holds_1 rfl ?_
    refine r_iload_n dX10_holds_4 rfl rfl ?_
    refine m_ialdv hm 14 _ (by decide) (by decide) rfl rfl (by show _ < 130; omega) (by first | (simp only [zGS, zMS, Nat.reduceEqDiff, OfNat.ofNat_ne_ofNat, false_and, and_false, true_and, and_true, and_self, if_true, if_false, ite_true, ite_false, reduceIte, reduceCtorEq]; first | done | assumption | rfl) | assumption | exact z2_eq | exact z1_eq | (simp [zGS, zMS]; first | done | assumption) | rfl) dX10_holds_5 rfl ?_
    refine r_tableIn (off := 120) (r := 126) dX10_holds_6 (by decide +kernel) (by decide +kernel) (by decide +kernel) (by decide) ?_
    refine r_aload_n dX10_holds_126 rfl (zRv_ref _) rfl ?_
    refine r_iload_n dX10_holds_127 rfl rfl ?_
    refine r_callV MX10_isLast 1 [_] lvX10_284 (Or.inr (Or.inl ⟨hm, rfl⟩)) (q_isLast E mo hm w sg (d - 1) e T he h) rfl rfl (by first | exact Nat.le_of_ble_eq_true rfl | (simp [zcat_rf, Value.category]; done)) (by omega) (Nat.le_of_eq (Nat.zero_add _)) (Nat.le_of_eq (Nat.zero_add _)) dX10_holds_128 rfl (fun v_ w_ sg_ hq_ => ?_)
    obtain ⟨rfl, rfl, rfl⟩ := hq_
    refine r_zret .boolean rfl (zb_nar _) dX10_holds_131 ?_
    exact ⟨rfl, rfl, rfl⟩
