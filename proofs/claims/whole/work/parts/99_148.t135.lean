/-! ===== the model: survey ===== -/
def sKp (a b : ZM) : Prop := (∀ j, ¬ (12 ≤ j ∧ j ≤ 32) → mi b j = mi a j) ∧ (∀ j i, ¬ (10 ≤ j ∧ j ≤ 23) → ¬ (26 ≤ j ∧ j ≤ 30) → ma b j i = ma a j i) ∧ ∀ j i, j ≠ 22 → mg b j i = mg a j i
theorem sKp.rf {a : ZM} : sKp a a := ⟨fun _ _ => rfl, fun _ _ _ _ => rfl, fun _ _ _ => rfl⟩
theorem sKp.tr {a b c : ZM} (h : sKp a b) (g : sKp b c) : sKp a c := ⟨fun j q => (g.1 j q).trans (h.1 j q), fun j i q r => (g.2.1 j i q r).trans (h.2.1 j i q r), fun j i q => (g.2.2 j i q).trans (h.2.2 j i q)⟩
theorem rKp.s {a b : ZM} (h : rKp a b) : sKp a b := ⟨h.1, fun j i q _ => h.2.1 j i q, h.2.2⟩
theorem sKp.I {a b : ZM} {T : List PEl} {Rs : List PRule} {B : List Nat} (h : sKp a b) (t : mdI a T Rs B) : mdI b T Rs B := ⟨t.1.fr (h.1 1 (by decide)) (fun j i _ _ => h.2.1 j i (by omega) (by omega)), t.2.fr (h.1 8 (by decide)) (fun j i _ _ => h.2.1 j i (by omega) (by omega)) (fun j i _ _ => h.2.1 j i (by omega) (by omega))⟩
/-- what survey keeps of rule r -/
def svR (c : ZM) (T : List PEl) (r : Nat) (R : PRule) : Prop := ma c 27 r = nI R.2.length ∧ R.2.length ≤ 4 ∧ (∃ og, og < 3 ∧ ma c 9 r = nI og ∧ ∀ d D, R.2[d]? = some D → ma c 28 (4 * r + d) = nI D.1 ∧ ma c 29 (4 * r + d) = nI (kdM D.2.1) ∧ D.1 < 10 ∧ D.2.1 < 3 ∧ ∃ b : Bool, ma c 30 (4 * r + d) = zb b ∧ D.2.2.1 = if b = true then 5 - og else og) ∧ ∀ e, e < T.length → ma c 26 (24 * r + e) = hvI T e R.1 (-1)
theorem svR.fr {a b : ZM} {T : List PEl} {r : Nat} {R : PRule} (h : svR a T r R) (hT : T.length ≤ 24) (e1 : ma b 27 r = ma a 27 r) (e2 : ma b 9 r = ma a 9 r) (e3 : ∀ j i, 28 ≤ j → j ≤ 30 → 4 * r ≤ i → i < 4 * r + 4 → ma b j i = ma a j i) (e4 : ∀ i, 24 * r ≤ i → i < 24 * r + 24 → ma b 26 i = ma a 26 i) : svR b T r R := by
  obtain ⟨h1, h2, ⟨og, h3, h4, h5⟩, h6⟩ := h
  refine ⟨e1.trans h1, h2, ⟨og, h3, e2.trans h4, fun d D hd => ?_⟩, fun e he => (e4 _ (by omega) (by omega)).trans (h6 e he)⟩
  have hd9 := (List.getElem?_eq_some_iff.mp hd).1
  obtain ⟨g1, g2, g3, g4, b9, g5, g6⟩ := h5 d D hd
  exact ⟨(e3 _ _ (by decide) (by decide) (by omega) (by omega)).trans g1, (e3 _ _ (by decide) (by decide) (by omega) (by omega)).trans g2, g3, g4, b9, (e3 _ _ (by decide) (by decide) (by omega) (by omega)).trans g5, g6⟩
def svD (c0 c : ZM) (r i : Nat) (ds : List PDm) : Prop := mi c = mi c0 ∧ mg c = mg c0 ∧ (∀ j k, ¬ (28 ≤ j ∧ j ≤ 30 ∧ 4 * r ≤ k ∧ k < 4 * r + i) → ma c j k = ma c0 j k) ∧ ∀ k x, k < i → ds[k]? = some x → ma c 28 (4 * r + k) = nI x.1 ∧ ma c 29 (4 * r + k) = nI (kdM x.2.1) ∧ ma c 30 (4 * r + k) = zb x.2.2.1
theorem sv_28 (E : ZE) (mo : Nat) (hm : E.2.2.2.2 = some mo) (w : ZW) (c0 : ZM) (d r : Nat) (hr : r < 16) (ds : List PDm) (hl : ds.length ≤ 4) (hG : dtG c0 ds) (P : ZPhi) (K : ∀ c x, svD c0 c r ds.length ds → RW E MX10_survey 90 [some (.ref mo), some (.int (nI r)), some x] [] w c d 0 0 P) : ∀ (m i : Nat) (c : ZM), i + m = ds.length → svD c0 c r i ds → RW E MX10_survey 28 [some (.ref mo), some (.int (nI r)), some (.int (nI i))] [] w c d 0 0 P := by
  intro m
  obtain ⟨⟨g1, g2⟩, g3, g4, g5⟩ := hG
  induction m with
  | zero =>
    intro i c hi h
    have hi2 : i = ds.length := by omega
    subst hi2
    have h27 : mi c 27 = nI ds.length := by rw [h.1]; exact g1
    refine r_iload_n dX10_survey_28 rfl rfl ?_
    refine r_aload_n dX10_survey_29 rfl (zRv_ref _) rfl ?_
    refine m_getiv hm 27 lfX10_166 rfl (by first | (simp only [zGS, zMS, Nat.reduceEqDiff, OfNat.ofNat_ne_ofNat, false_and, and_false, true_and, and_true, and_self, if_true, if_false, ite_true, ite_false, reduceIte, reduceCtorEq]; first | done | assumption | rfl) | assumption | exact z2_eq | exact z1_eq | (simp [zGS, zMS]; first | done | assumption) | rfl) dX10_survey_30 rfl ?_
    refine r_icmp_geN (by omega) (by omega) (r := 90) dX10_survey_33 (by decide) rfl (fun c_33 => ?_) (fun c_33 => ?_)
    · exact K c _ h
    · exact absurd c_33 (by omega)
  | succ m ih =>
    intro i c hi h
    obtain ⟨x, hx⟩ : ∃ x, ds[i]? = some x := ⟨ds[i], List.getElem?_eq_getElem (by omega)⟩
    obtain ⟨x1, x2, x3⟩ := g3 i x hx
    obtain ⟨h1, h2, h3, h4⟩ := h
    have h27 : mi c 27 = nI ds.length := by rw [h1]; exact g1
    have y1 : ma c 17 i = nI x.1 := (h3 17 i (by omega)).trans x1
    have y2 : ma c 18 i = nI (kdM x.2.1) := (h3 18 i (by omega)).trans x2
    have y3 : ma c 19 i = zb x.2.2.1 := (h3 19 i (by omega)).trans x3
    refine r_iload_n dX10_survey_28 rfl rfl ?_
    refine r_aload_n dX10_survey_29 rfl (zRv_ref _) rfl ?_
    refine m_getiv hm 27 lfX10_166 rfl (by first | (simp only [zGS, zMS, Nat.reduceEqDiff, OfNat.ofNat_ne_ofNat, false_and, and_false, true_and, and_true, and_self, if_true, if_false, ite_true, ite_false, reduceIte, reduceCtorEq]; first | done | assumption | rfl) | assumption | exact z2_eq | exact z1_eq | (simp [zGS, zMS]; first | done | assumption) | rfl) dX10_survey_30 rfl ?_
    refine r_icmp_geN (by omega) (by omega) (r := 90) dX10_survey_33 (by decide) rfl (fun c_33 => ?_) (fun c_33 => ?_)
    · exact absurd c_33 (by omega)
    · refine r_aload_n dX10_survey_36 rfl (zRv_ref _) rfl ?_
      refine m_geta hm 40 28 lfX10_94 rfl (by decide) dX10_survey_37 rfl ?_
      refine r_iconst dX10_survey_40 kc_4 rfl ?_
      refine r_iload_n dX10_survey_41 rfl rfl ?_
      refine r_imulN dX10_survey_42 rfl ?_
      refine r_iload_n dX10_survey_43 rfl rfl ?_
      refine r_iaddN dX10_survey_44 rfl ?_
      refine r_aload_n dX10_survey_45 rfl (zRv_ref _) rfl ?_
      refine m_geta hm 28 17 lfX10_59 rfl (by decide) dX10_survey_46 rfl ?_
      refine r_iload_n dX10_survey_49 rfl rfl ?_
      refine m_ialdv hm 17 _ (by decide) (by decide) rfl rfl (by show _ < 4; omega) (by first | (simp only [zGS, zMS, Nat.reduceEqDiff, OfNat.ofNat_ne_ofNat, false_and, and_false, true_and, and_true, and_self, if_true, if_false, ite_true, ite_false, reduceIte, reduceCtorEq]; first | done | assumption | rfl) | assumption | exact z2_eq | exact z1_eq | (simp [zGS, zMS]; first | done | assumption) | rfl) dX10_survey_50 rfl ?_
      refine m_iast hm 28 _ (by decide) (by decide) rfl rfl (by show _ < 64; omega) dX10_survey_51 rfl ?_
      refine r_aload_n dX10_survey_52 rfl (zRv_ref _) rfl ?_
      refine m_geta hm 41 29 lfX10_97 rfl (by decide) dX10_survey_53 rfl ?_
      refine r_iconst dX10_survey_56 kc_4 rfl ?_
      refine r_iload_n dX10_survey_57 rfl rfl ?_
      refine r_imulN dX10_survey_58 rfl ?_
      refine r_iload_n dX10_survey_59 rfl rfl ?_
      refine r_iaddN dX10_survey_60 rfl ?_
      refine r_aload_n dX10_survey_61 rfl (zRv_ref _) rfl ?_
      refine m_geta hm 29 18 lfX10_62 rfl (by decide) dX10_survey_62 rfl ?_
      refine r_iload_n dX10_survey_65 rfl rfl ?_
      refine m_ialdv hm 18 _ (by decide) (by decide) rfl rfl (by show _ < 4; omega) (by first | (simp only [zGS, zMS, Nat.reduceEqDiff, OfNat.ofNat_ne_ofNat, false_and, and_false, true_and, and_true, and_self, if_true, if_false, ite_true, ite_false, reduceIte, reduceCtorEq]; first | done | assumption | rfl) | assumption | exact z2_eq | exact z1_eq | (simp [zGS, zMS]; first | done | assumption) | rfl) dX10_survey_66 rfl ?_
      refine m_iast hm 29 _ (by decide) (by decide) rfl rfl (by show _ < 64; omega) dX10_survey_67 rfl ?_
      refine r_aload_n dX10_survey_68 rfl (zRv_ref _) rfl ?_
      refine m_geta hm 42 30 lfX10_100 rfl (by decide) dX10_survey_69 rfl ?_
      refine r_iconst dX10_survey_72 kc_4 rfl ?_
      refine r_iload_n dX10_survey_73 rfl rfl ?_
      refine r_imulN dX10_survey_74 rfl ?_
      refine r_iload_n dX10_survey_75 rfl rfl ?_
      refine r_iaddN dX10_survey_76 rfl ?_
      refine r_aload_n dX10_survey_77 rfl (zRv_ref _) rfl ?_
      refine m_geta hm 30 19 lfX10_65 rfl (by decide) dX10_survey_78 rfl ?_
      refine r_iload_n dX10_survey_81 rfl rfl ?_
      refine m_zaldv hm 19 _ (by decide) (by decide) rfl rfl (by show _ < 4; omega) (by first | (simp only [zGS, zMS, Nat.reduceEqDiff, OfNat.ofNat_ne_ofNat, false_and, and_false, true_and, and_true, and_self, if_true, if_false, ite_true, ite_false, reduceIte, reduceCtorEq]; first | done | assumption | rfl) | assumption | exact z2_eq | exact z1_eq | (simp [zGS, zMS]; first | done | assumption) | rfl) dX10_survey_82 rfl ?_
      refine m_zast hm 30 _ (by first | exact zb_nar _ | rfl | decide | (simp only [*]; first | exact zb_nar _ | rfl)) (by decide) (by decide) rfl rfl (by show _ < 64; omega) dX10_survey_83 rfl ?_
      refine r_iinc (ls' := [_, _, _]) dX10_survey_84 (Nat.le_of_ble_eq_true rfl) rfl (zinc1 _) rfl rfl ?_
      refine r_goto (r := 28) dX10_survey_87 (by decide) ?_
      refine ih (i + 1) _ (by omega) ⟨h1, h2, fun j k q => ?_, fun k y hk hy => ?_⟩
      · rw [ma_msa, if_neg (by omega), ma_msa, if_neg (by omega), ma_msa, if_neg (by omega)]
        exact h3 j k (by omega)
      · rcases Nat.lt_or_ge k i with c9 | c9
        · obtain ⟨z1, z2, z3⟩ := h4 k y c9 hy
          rw [ma_msa, if_neg (by omega), ma_msa, if_neg (by omega), ma_msa, if_neg (by omega), ma_msa, if_neg (by omega), ma_msa, if_neg (by omega), ma_msa, if_neg (by omega), ma_msa, if_neg (by omega), ma_msa, if_neg (by omega), ma_msa, if_neg (by omega)]
          exact ⟨z1, z2, z3⟩
        · have hki : k = i := by omega
          subst hki
          rw [hx] at hy
          cases hy
          refine ⟨?_, ?_, ?_⟩
          · rw [ma_msa, if_neg (by omega), ma_msa, if_neg (by omega), ma_msa, if_pos ⟨rfl, rfl⟩]
          · rw [ma_msa, if_neg (by omega), ma_msa, if_pos ⟨rfl, rfl⟩]
          · rw [ma_msa, if_pos ⟨rfl, rfl⟩]
def svE (c0 c : ZM) (T : List PEl) (R : PRule) (r i : Nat) : Prop := mi c = mi c0 ∧ mg c = mg c0 ∧ (∀ j k, ¬ (j = 26 ∧ 24 * r ≤ k ∧ k < 24 * r + i) → ma c j k = ma c0 j k) ∧ ∀ k, k < i → ma c 26 (24 * r + k) = hvI T k R.1 (-1)
theorem sv_92 (E : ZE) (mo : Nat) (hm : E.2.2.2.2 = some mo) (w : ZW) (c0 : ZM) (d r : Nat) (hd : 5 ≤ d) (hr : r < 16) (T : List PEl) (hrt : rootT T) (R : PRule) (ts : List (List PCr)) (hT : mTree c0 T) (hS : ssG c0 0 0 0 ts) (hb : ts.length ≤ 3 ∧ (rwsO (flS ts)).length ≤ 125 ∧ (flS ts).length ≤ 126) (hR : ssR ts R.1) (ho : okSels R.1) (hj : jnS R.1) (P : ZPhi) (K : ∀ c x, svE c0 c T R r T.length → RW E MX10_survey 122 [some (.ref mo), some (.int (nI r)), some x] [] w c d 0 0 P) : ∀ (m i : Nat) (c : ZM), i + m = T.length → svE c0 c T R r i → RW E MX10_survey 92 [some (.ref mo), some (.int (nI r)), some (.int (nI i))] [] w c d 0 0 P := by
  intro m
  have h24 := hT.1.1
  induction m with
  | zero =>
    intro i c hi h
    have hi2 : i = T.length := by omega
    subst hi2
    have h1 : mi c 1 = nI T.length := by rw [h.1]; exact hT.2.1
    refine r_iload_n dX10_survey_92 rfl rfl ?_
    refine r_aload_n dX10_survey_93 rfl (zRv_ref _) rfl ?_
    refine m_getiv hm 1 lfX10_137 rfl (by first | (simp only [zGS, zMS, Nat.reduceEqDiff, OfNat.ofNat_ne_ofNat, false_and, and_false, true_and, and_true, and_self, if_true, if_false, ite_true, ite_false, reduceIte, reduceCtorEq]; first | done | assumption | rfl) | assumption | exact z2_eq | exact z1_eq | (simp [zGS, zMS]; first | done | assumption) | rfl) dX10_survey_94 rfl ?_
    refine r_icmp_geN (by omega) (by omega) (r := 122) dX10_survey_97 (by decide) rfl (fun c_97 => ?_) (fun c_97 => ?_)
    · exact K c _ h
    · exact absurd c_97 (by omega)
  | succ m ih =>
    intro i c hi h
    obtain ⟨h1, h2, h3, h4⟩ := h
    have i1 : mi c 1 = nI T.length := by rw [h1]; exact hT.2.1
    have hT2 : mTree c T := hT.fr (by rw [h1]) (fun j k _ _ => h3 j k (by omega))
    have hS2 : ssG c 0 0 0 ts := hS.fr ⟨by rw [h1], by rw [h1], by rw [h1]⟩ (fun j k _ _ => h3 j k (by omega))
    have hhv := q_heaviest E mo hm w c (d - 1) i (by omega) T ts R.1 ⟨hT2, hrt, hS2, hb⟩ (by omega) hR ho hj
    refine r_iload_n dX10_survey_92 rfl rfl ?_
    refine r_aload_n dX10_survey_93 rfl (zRv_ref _) rfl ?_
    refine m_getiv hm 1 lfX10_137 rfl (by first | (simp only [zGS, zMS, Nat.reduceEqDiff, OfNat.ofNat_ne_ofNat, false_and, and_false, true_and, and_true, and_self, if_true, if_false, ite_true, ite_false, reduceIte, reduceCtorEq]; first | done | assumption | rfl) | assumption | exact z2_eq | exact z1_eq | (simp [zGS, zMS]; first | done | assumption) | rfl) dX10_survey_94 rfl ?_
    refine r_icmp_geN (by omega) (by omega) (r := 122) dX10_survey_97 (by decide) rfl (fun c_97 => ?_) (fun c_97 => ?_)
    · exact absurd c_97 (by omega)
    · refine r_aload_n dX10_survey_100 rfl (zRv_ref _) rfl ?_
      refine m_geta hm 38 26 lfX10_88 rfl (by decide) dX10_survey_101 rfl ?_
      refine r_bipush dX10_survey_104 kb_24 rfl ?_
      refine r_iload_n dX10_survey_106 rfl rfl ?_
      refine r_imulN dX10_survey_107 rfl ?_
      refine r_iload_n dX10_survey_108 rfl rfl ?_
      refine r_iaddN dX10_survey_109 rfl ?_
      refine r_aload_n dX10_survey_110 rfl (zRv_ref _) rfl ?_
      refine r_iload_n dX10_survey_111 rfl rfl ?_
      refine r_callV MX10_heaviest 1 [_] lvX10_304 (Or.inr (Or.inl ⟨hm, rfl⟩)) (hhv) rfl rfl (by first | exact Nat.le_of_ble_eq_true rfl | (simp [zcat_rf, Value.category]; done)) (by omega) (Nat.le_of_eq (Nat.zero_add _)) (Nat.le_of_eq (Nat.zero_add _)) dX10_survey_112 rfl (fun v_ w_ sg_ hq_ => ?_)
      obtain ⟨rfl, rfl, rfl⟩ := hq_
      refine m_iast hm 26 _ (by decide) (by decide) rfl rfl (by show _ < 384; omega) dX10_survey_115 rfl ?_
      refine r_iinc (ls' := [_, _, _]) dX10_survey_116 (Nat.le_of_ble_eq_true rfl) rfl (zinc1 _) rfl rfl ?_
      refine r_goto (r := 92) dX10_survey_119 (by decide) ?_
      refine ih (i + 1) _ (by omega) ⟨h1, h2, fun j k q => ?_, fun k hk => ?_⟩
      · rw [ma_msa, if_neg (by omega)]
        exact h3 j k (by omega)
      · rcases Nat.lt_or_ge k i with c9 | c9
        · rw [ma_msa, if_neg (by omega)]
          exact h4 k c9
        · have hki : k = i := by omega
          subst hki
          rw [ma_msa, if_pos ⟨rfl, rfl⟩]
/-- surveyed -/
def svT (c : ZM) (T : List PEl) (Rs : List PRule) : Prop := ∀ r R, Rs[r]? = some R → svR c T r R
theorem sv_2 (E : ZE) (mo : Nat) (hm : E.2.2.2.2 = some mo) (w : ZW) (sg : ZM) (d : Nat) (hd : 16 ≤ d) (T : List PEl) (hrt : rootT T) (Rs : List PRule) (B : List Nat) : ∀ (m r : Nat) (c : ZM) (x2 : Option Value), r + m = Rs.length → sKp sg c → mdI c T Rs B → (∀ k R, k < r → Rs[k]? = some R → svR c T k R) → RW E MX10_survey 2 [some (.ref mo), some (.int (nI r)), x2] [] w c d 0 0 (PN E (fun v w' sg' => v = none ∧ w = w' ∧ sKp sg sg' ∧ svT sg' T Rs)) := by
  intro m
  induction m with
  | zero =>
    intro r c x2 hr hk hI hs
    have hr2 : r = Rs.length := by omega
    subst hr2
    have h8 : mi c 8 = nI Rs.length := hI.2.2.1
    have hl : Rs.length ≤ 16 := hI.2.1
    refine r_iload_n dX10_survey_2 rfl rfl ?_
    refine r_aload_n dX10_survey_3 rfl (zRv_ref _) rfl ?_
    refine m_getiv hm 8 lfX10_274 rfl (by first | (simp only [zGS, zMS, Nat.reduceEqDiff, OfNat.ofNat_ne_ofNat, false_and, and_false, true_and, and_true, and_self, if_true, if_false, ite_true, ite_false, reduceIte, reduceCtorEq]; first | done | assumption | rfl) | assumption | exact z2_eq | exact z1_eq | (simp [zGS, zMS]; first | done | assumption) | rfl) dX10_survey_4 rfl ?_
    refine r_icmp_geN (by omega) (by omega) (r := 128) dX10_survey_7 (by decide) rfl (fun c_7 => ?_) (fun c_7 => ?_)
    · refine r_vret rfl dX10_survey_128 ?_
      exact ⟨rfl, rfl, hk, fun k R hR => hs k R (List.getElem?_eq_some_iff.mp hR).1 hR⟩
    · exact absurd c_7 (by omega)
  | succ m ih =>
    intro r c x2 hr hk hI hs
    have h8 : mi c 8 = nI Rs.length := hI.2.2.1
    have hl : Rs.length ≤ 16 := hI.2.1
    have h24 := hI.1.1.1
    obtain ⟨R, hR⟩ : ∃ R, Rs[r]? = some R := ⟨Rs[r], List.getElem?_eq_getElem (by omega)⟩
    have hrd := q_readK E mo hm w c (d - 1) r (by omega) T Rs B R hR hI
    refine r_iload_n dX10_survey_2 rfl rfl ?_
    refine r_aload_n dX10_survey_3 rfl (zRv_ref _) rfl ?_
    refine m_getiv hm 8 lfX10_274 rfl (by first | (simp only [zGS, zMS, Nat.reduceEqDiff, OfNat.ofNat_ne_ofNat, false_and, and_false, true_and, and_true, and_self, if_true, if_false, ite_true, ite_false, reduceIte, reduceCtorEq]; first | done | assumption | rfl) | assumption | exact z2_eq | exact z1_eq | (simp [zGS, zMS]; first | done | assumption) | rfl) dX10_survey_4 rfl ?_
    refine r_icmp_geN (by omega) (by omega) (r := 128) dX10_survey_7 (by decide) rfl (fun c_7 => ?_) (fun c_7 => ?_)
    · exact absurd c_7 (by omega)
    · refine r_aload_n dX10_survey_10 rfl (zRv_ref _) rfl ?_
      refine r_iload_n dX10_survey_11 rfl rfl ?_
      refine r_callV MX10_readRule 1 [_] lvX10_277 (Or.inr (Or.inl ⟨hm, rfl⟩)) (hrd) rfl rfl (by first | exact Nat.le_of_ble_eq_true rfl | (simp [zcat_rf, Value.category]; done)) (by omega) (Nat.le_of_eq (Nat.zero_add _)) (Nat.le_of_eq (Nat.zero_add _)) dX10_survey_12 rfl (fun v_ w_ sg_ hq_ => ?_)
      obtain ⟨rfl, rfl, kr, og, hog, h9, ts, ds, z1, z2, z3, z4, z5, z6, z7, z8, z9, z10⟩ := hq_
      obtain ⟨c1, hc1⟩ : ∃ y, y = sg_ := ⟨_, rfl⟩
      subst hc1
      have i27 : mi c1 27 = nI ds.length := z5.1.1
      have hG2 : dtG (msa c1 27 r (nI ds.length)) ds := by
        obtain ⟨g1, g2, g3, g4⟩ := z5
        refine ⟨g1, fun i x hx => ?_, fun hn i hi => ?_, fun q s hq => ?_⟩
        · rw [ma_msa, if_neg (by omega), ma_msa, if_neg (by omega), ma_msa, if_neg (by omega)]
          exact g2 i x hx
        · rw [ma_msa, if_neg (by omega)]
          exact g3 hn i hi
        · rw [ma_msa, if_neg (by omega)]
          exact g4 q s hq
      refine r_pop dX10_survey_15 (by first | rfl | exact zcat_rf _) rfl ?_
      refine r_aload_n dX10_survey_16 rfl (zRv_ref _) rfl ?_
      refine m_geta hm 39 27 lfX10_91 rfl (by decide) dX10_survey_17 rfl ?_
      refine r_iload_n dX10_survey_20 rfl rfl ?_
      refine r_aload_n dX10_survey_21 rfl (zRv_ref _) rfl ?_
      refine m_getiv hm 27 lfX10_166 rfl (by first | (simp only [zGS, zMS, Nat.reduceEqDiff, OfNat.ofNat_ne_ofNat, false_and, and_false, true_and, and_true, and_self, if_true, if_false, ite_true, ite_false, reduceIte, reduceCtorEq]; first | done | assumption | rfl) | assumption | exact z2_eq | exact z1_eq | (simp [zGS, zMS]; first | done | assumption) | rfl) dX10_survey_22 rfl ?_
      refine m_iast hm 27 _ (by decide) (by decide) rfl rfl (by show _ < 16; omega) dX10_survey_25 rfl ?_
      refine r_iconst dX10_survey_26 kc_0 rfl ?_
      refine r_istore_n (ls' := [_, _, _]) dX10_survey_27 (Nat.le_of_ble_eq_true rfl) rfl rfl ?_
      refine sv_28 E mo hm w _ d r (by omega) ds z8 hG2 _ (fun c2 x hd2 => ?_) ds.length 0 _ (Nat.zero_add _) ⟨rfl, rfl, fun _ _ _ => rfl, fun k x hk => absurd hk (Nat.not_lt_zero k)⟩
      obtain ⟨d1, d2, d3, d4⟩ := hd2
      have e2 : ∀ j k, ¬ (27 ≤ j ∧ j ≤ 30) → ma c2 j k = ma c1 j k := fun j k q => by
        rw [d3 j k (by omega), ma_msa, if_neg (by omega)]
      have hT2 : mTree c2 T := (kr.T hI.1).fr (by rw [d1]; rfl) (fun j k _ _ => e2 j k (by omega))
      have hS2 : ssG c2 0 0 0 ts := z3.fr ⟨by rw [d1]; rfl, by rw [d1]; rfl, by rw [d1]; rfl⟩ (fun j k _ _ => e2 j k (by omega))
      refine r_iconst dX10_survey_90 kc_0 rfl ?_
      refine r_istore_n (ls' := [_, _, _]) dX10_survey_91 (Nat.le_of_ble_eq_true rfl) rfl rfl ?_
      refine sv_92 E mo hm w c2 d r (by omega) (by omega) T hrt R ts hT2 hS2 z4 z2 z9 z10 _ (fun c3 x he3 => ?_) T.length 0 c2 (Nat.zero_add _) ⟨rfl, rfl, fun _ _ _ => rfl, fun k hk => absurd hk (Nat.not_lt_zero k)⟩
      obtain ⟨f1, f2, f3, f4⟩ := he3
      have e3 : ∀ j k, ¬ (26 ≤ j ∧ j ≤ 30) → ma c3 j k = ma c1 j k := fun j k q => by
        rw [f3 j k (by omega), e2 j k (by omega)]
      have k13 : sKp c1 c3 := ⟨fun j _ => by rw [f1, d1]; rfl, fun j i _ q => e3 j i q, fun j i _ => by rw [f2, d2]; rfl⟩
      have kc3 : sKp c c3 := kr.s.tr k13
      refine r_iinc (ls' := [_, _, _]) dX10_survey_122 (Nat.le_of_ble_eq_true rfl) rfl (zinc1 _) rfl rfl ?_
      refine r_goto (r := 2) dX10_survey_125 (by decide) ?_
      refine ih (r + 1) c3 _ (by omega) (hk.tr kc3) (kc3.I hI) (fun k R9 hk9 hR9 => ?_)
      rcases Nat.lt_or_ge k r with c9 | c9
      · refine (hs k R9 c9 hR9).fr h24 ?_ ?_ (fun j i _ _ _ _ => ?_) (fun i _ _ => ?_)
        · rw [f3 27 k (by omega), d3 27 k (by omega), ma_msa, if_neg (by omega)]
          exact kr.2.1 27 k (by decide)
        · rw [e3 9 k (by omega)]
          exact kr.2.1 9 k (by decide)
        · rw [f3 j i (by omega), d3 j i (by omega), ma_msa, if_neg (by omega)]
          exact kr.2.1 j i (by omega)
        · rw [f3 26 i (by omega), d3 26 i (by omega), ma_msa, if_neg (by omega)]
          exact kr.2.1 26 i (by omega)
      · have hkr : k = r := by omega
        subst hkr
        rw [hR] at hR9
        cases hR9
        have hlen : R.2.length = ds.length := by rw [z1, List.length_map]
        refine ⟨?_, by omega, ⟨og, hog, ?_, fun i D hD => ?_⟩, fun e he => f4 e he⟩
        · rw [f3 27 k (by omega), d3 27 k (by omega), ma_msa, if_pos ⟨rfl, rfl⟩, hlen]
        · rw [e3 9 k (by omega)]
          exact h9
        · rw [z1, List.getElem?_map] at hD
          obtain ⟨x9, hx9, rfl⟩ := Option.map_eq_some_iff.mp hD
          have hi9 := (List.getElem?_eq_some_iff.mp hx9).1
          obtain ⟨y1, y2, y3⟩ := d4 i x9 hi9 hx9
          obtain ⟨b1, b2⟩ := z7 x9 (List.mem_of_getElem? hx9)
          exact ⟨(f3 28 _ (by omega)).trans y1, (f3 29 _ (by omega)).trans y2, b1, b2, x9.2.2.1, (f3 30 _ (by omega)).trans y3, rfl⟩
theorem q_survey (E : ZE) (mo : Nat) (hm : E.2.2.2.2 = some mo) (w : ZW) (sg : ZM) (d : Nat) (hd : 16 ≤ d) (T : List PEl) (hrt : rootT T) (Rs : List PRule) (B : List Nat) (h : mdI sg T Rs B) : CallQ E MX10_survey [.ref mo] w sg d 0 0 (fun v w' sg' => v = none ∧ w = w' ∧ sKp sg sg' ∧ svT sg' T Rs) := by
  have h0 := sv_2 E mo hm w sg d hd T hrt Rs B Rs.length 0 sg none (Nat.zero_add _) sKp.rf h (fun k R hk => absurd hk (Nat.not_lt_zero k))
  refine CallQ.of rfl (by simp [Value.category]) (Nat.le_of_ble_eq_true rfl) ?_
  refine r_iconst dX10_survey_0 kc_0 rfl ?_
  refine r_istore_n (ls' := [_, _, _]) dX10_survey_1 (Nat.le_of_ble_eq_true rfl) rfl rfl ?_
  exact h0
