/-! ===== the model: readDeclaration, its walk ===== -/
theorem rd_143 (E : ZE) (mo : Nat) (hm : E.2.2.2.2 = some mo) (w : ZW) (sg : ZM) (d f m D : Nat) (hd : 2 ≤ d) (hD : D < 4) (M : Int32) (x2 : Value) (o : Option (List Nat)) (h27 : mi sg 27 = nI D) (h32 : mi sg 32 = M) (h : cuO sg f (m + 1) o) : RW E MX10_readDeclaration 143 [some (.ref mo), some (.int (nI D)), some x2] [] w sg d 0 0 (PN E (fun v w' sg' => v = none ∧ w = w' ∧ ∃ b sg1, mvC sg sg1 ∧ sg' = msa (msi (msa sg1 19 D (zb b)) 27 (nI (D + 1))) 20 (D + 1) M ∧ cuO sg' f m (bndO o fun r => some ((pCh 33 r).getD r)) ∧ ∀ r, o = some r → b = (pCh 33 r).isSome)) := by
  refine r_aload_n dX10_readDeclaration_143 rfl (zRv_ref _) rfl ?_
  refine m_geta hm 30 19 lfX10_65 rfl (by decide) dX10_readDeclaration_144 rfl ?_
  refine r_iload_n dX10_readDeclaration_147 rfl rfl ?_
  refine r_aload_n dX10_readDeclaration_148 rfl (zRv_ref _) rfl ?_
  refine r_bipush dX10_readDeclaration_149 kb_33 rfl ?_
  refine r_callV MX10_pass 1 [_] lvX10_176 (Or.inr (Or.inl ⟨hm, rfl⟩)) (o_pass E mo hm w sg (d - 1) f 33 m (by omega) (by decide) o h) rfl rfl (by first | exact Nat.le_of_ble_eq_true rfl | (simp [zcat_rf, Value.category]; done)) (by omega) (Nat.le_of_eq (Nat.zero_add _)) (Nat.le_of_eq (Nat.zero_add _)) dX10_readDeclaration_151 rfl (fun v_ w_ sg_ hq_ => ?_)
  obtain ⟨b, rfl, hb, rfl, v1, c1⟩ := hq_
  obtain ⟨sg1, hsg1⟩ : ∃ y, y = sg_ := ⟨_, rfl⟩
  subst hsg1
  have i27 : mi sg1 27 = nI D := (v1.1 27 (by decide) (by decide)).trans h27
  have i32 : mi sg1 32 = M := (v1.1 32 (by decide) (by decide)).trans h32
  refine m_zast hm 19 _ (by first | exact zb_nar _ | rfl | decide | (simp only [*]; first | exact zb_nar _ | rfl)) (by decide) (by decide) rfl rfl (by show _ < 4; omega) dX10_readDeclaration_154 rfl ?_
  refine r_aload_n dX10_readDeclaration_155 rfl (zRv_ref _) rfl ?_
  refine r_dup dX10_readDeclaration_156 (by first | rfl | exact zcat_rf _) rfl ?_
  refine m_getiv hm 27 lfX10_166 rfl (by first | (simp only [zGS, zMS, Nat.reduceEqDiff, OfNat.ofNat_ne_ofNat, false_and, and_false, true_and, and_true, and_self, if_true, if_false, ite_true, ite_false, reduceIte, reduceCtorEq]; first | done | assumption | rfl) | assumption | exact z2_eq | exact z1_eq | (simp [zGS, zMS]; first | done | assumption) | rfl) dX10_readDeclaration_157 rfl ?_
  refine r_iconst dX10_readDeclaration_160 kc_1 rfl ?_
  refine r_iaddN dX10_readDeclaration_161 rfl ?_
  refine m_puti hm 27 lfX10_166 rfl rfl rfl dX10_readDeclaration_162 rfl ?_
  refine r_aload_n dX10_readDeclaration_165 rfl (zRv_ref _) rfl ?_
  refine m_geta hm 31 20 lfX10_69 rfl (by decide) dX10_readDeclaration_166 rfl ?_
  refine r_iload_n dX10_readDeclaration_169 rfl rfl ?_
  refine r_iconst dX10_readDeclaration_170 kc_1 rfl ?_
  refine r_iaddN dX10_readDeclaration_171 rfl ?_
  refine r_aload_n dX10_readDeclaration_172 rfl (zRv_ref _) rfl ?_
  refine m_getiv hm 32 lfX10_169 rfl (by first | (simp only [zGS, zMS, Nat.reduceEqDiff, OfNat.ofNat_ne_ofNat, false_and, and_false, true_and, and_true, and_self, if_true, if_false, ite_true, ite_false, reduceIte, reduceCtorEq]; first | done | assumption | rfl) | assumption | exact z2_eq | exact z1_eq | (simp [zGS, zMS]; first | done | assumption) | rfl) dX10_readDeclaration_173 rfl ?_
  refine m_iast hm 20 _ (by decide) (by decide) rfl rfl (by show _ < 5; omega) dX10_readDeclaration_176 rfl ?_
  refine r_vret rfl dX10_readDeclaration_177 ?_
  refine ⟨rfl, rfl, b, sg1, v1, rfl, ?_, hb⟩
  refine c1.tab (fun i => ?_) ?_ ?_ ?_ ?_
  · rw [ma_msa, if_neg (by omega)]
    show ma (msa sg1 19 D (zb b)) 7 i = _
    rw [ma_msa, if_neg (by omega)]
  · show mi (msi (msa sg1 19 D (zb b)) 27 (nI (D + 1))) 12 = _
    rw [mi_msi, if_neg (by decide)]
    rfl
  · show mi (msi (msa sg1 19 D (zb b)) 27 (nI (D + 1))) 13 = _
    rw [mi_msi, if_neg (by decide)]
    rfl
  · show mi (msi (msa sg1 19 D (zb b)) 27 (nI (D + 1))) 14 = _
    rw [mi_msi, if_neg (by decide)]
    rfl
  · show mi (msi (msa sg1 19 D (zb b)) 27 (nI (D + 1))) 15 = _
    rw [mi_msi, if_neg (by decide)]
    rfl
def rdQ (sg : ZM) (f : Nat) (ds : List PDm) (r : List Nat) (w : ZW) : ZQ := fun v w' sg' => v = none ∧ w = w' ∧ ∃ o, dKw sg sg' ds.length (flD ds).length ∧ cuO sg' f 600 o ∧ ((o = none ∧ ∀ og, stD (pDecl og r)) ∨ ∃ x r', o = some r' ∧ (∀ og, pDecl og r = some (mkD og x, r')) ∧ dtG sg' (ds ++ [x]) ∧ x.2.2.2.length + r'.length ≤ r.length ∧ x.1 < 10 ∧ x.2.1 < 3)
theorem rd_bad (E : ZE) (mo : Nat) (hm : E.2.2.2.2 = some mo) (w : ZW) (sg sg1 : ZM) (d f : Nat) (hd : 2 ≤ d) (ds : List PDm) (hD : ds.length < 4) (x2 : Value) (r : List Nat) (h27 : mi sg1 27 = nI ds.length) (k : dKw sg sg1 ds.length (flD ds).length) (h : cuO sg1 f 640 none) (hb : ∀ og, stD (pDecl og r)) : RW E MX10_readDeclaration 143 [some (.ref mo), some (.int (nI ds.length)), some x2] [] w sg1 d 0 0 (PN E (rdQ sg f ds r w)) := by
  refine RW.qmono (rd_143 E mo hm w sg1 d f 639 ds.length hd hD _ x2 none h27 rfl h) ?_
  rintro v w' sg' ⟨q1, q2, b, sg2, q3, q4, q5, q6⟩
  have k2 : dKw sg1 sg' ds.length (flD ds).length := by
    rw [q4]
    exact ((q3.dk.tr (dKw.sa (Or.inl ⟨by omega, by omega, rfl⟩))).tr dKw.si).tr (dKw.sa (Or.inr ⟨rfl, Nat.le_succ _⟩))
  exact ⟨q1, q2, none, k.tr k2, cuO.mono q5 (by decide), Or.inl ⟨rfl, hb⟩⟩
theorem rd_good (E : ZE) (mo : Nat) (hm : E.2.2.2.2 = some mo) (w : ZW) (sg sg1 : ZM) (d f : Nat) (hd : 2 ≤ d) (ds : List PDm) (hD : ds.length < 4) (x2 : Value) (n v : Nat) (ss : List PStep) (r r3 : List Nat) (h0 : dtG sg ds) (k : dKw sg sg1 ds.length (flD ds).length) (h27 : mi sg1 27 = nI ds.length) (h32 : mi sg1 32 = nI ((flD ds).length + ss.length)) (g3 : ma sg1 17 ds.length = nI n ∧ ma sg1 18 ds.length = nI (kdM v) ∧ ma sg1 20 ds.length = nI (flD ds).length) (g5 : ∀ i q, (ss.map cvS)[i]? = some q → ma sg1 21 ((flD ds).length + i) = nI q.1 ∧ mg sg1 22 ((flD ds).length + i) = q.2) (h : cuG sg1 f r3) (hp : ∀ og, pDecl og r = pBang n v og ss r3) (hl : ss.length + r3.length ≤ r.length) (hn : n < 10) (hv : v < 3) : RW E MX10_readDeclaration 143 [some (.ref mo), some (.int (nI ds.length)), some x2] [] w sg1 d 0 0 (PN E (rdQ sg f ds r w)) := by
  refine RW.qmono (rd_143 E mo hm w sg1 d f 639 ds.length hd hD _ x2 (some r3) h27 h32 (cuO.z h)) ?_
  rintro v9 w' sg' ⟨q1, q2, b, sg2, q3, q4, q5, q6⟩
  have k2 : dKw sg1 sg' ds.length (flD ds).length := by
    rw [q4]
    exact ((q3.dk.tr (dKw.sa (Or.inl ⟨by omega, by omega, rfl⟩))).tr dKw.si).tr (dKw.sa (Or.inr ⟨rfl, Nat.le_succ _⟩))
  have hb := q6 r3 rfl
  have ma9 : ∀ j i, j ≠ 19 → ¬ (j = 20 ∧ i = ds.length + 1) → ma sg' j i = ma sg1 j i := fun j i z1 z2 => by
    rw [q4, ma_msa, if_neg z2]
    show ma (msa sg2 19 ds.length (zb b)) j i = _
    rw [ma_msa, if_neg (fun e => z1 e.1), q3.2.1]
  have mg9 : ∀ j i, mg sg' j i = mg sg1 j i := fun j i => by
    rw [q4]
    show mg sg2 j i = _
    rw [q3.2.2]
  have e27 : mi sg' 27 = nI (ds.length + 1) := by
    rw [q4]
    show mi (msi (msa sg2 19 ds.length (zb b)) 27 (nI (ds.length + 1))) 27 = _
    rw [mi_msi, if_pos rfl]
  have e32 : mi sg' 32 = nI ((flD ds).length + ss.length) := by
    rw [q4]
    show mi (msi (msa sg2 19 ds.length (zb b)) 27 (nI (ds.length + 1))) 32 = _
    rw [mi_msi, if_neg (by decide)]
    exact (q3.1 32 (by decide) (by decide)).trans h32
  have e19 : ma sg' 19 ds.length = zb b := by
    rw [q4, ma_msa, if_neg (by omega)]
    show ma (msa sg2 19 ds.length (zb b)) 19 ds.length = _
    rw [ma_msa, if_pos ⟨rfl, rfl⟩]
  have e20 : ma sg' 20 (ds.length + 1) = nI ((flD ds).length + ss.length) := by rw [q4, ma_msa, if_pos ⟨rfl, rfl⟩]
  have hT : dtG sg' (ds ++ [(n, v, b, ss)]) := dtG.add h0 (k.tr k2) e27 e32 ⟨(ma9 _ _ (by decide) (by omega)).trans g3.1, (ma9 _ _ (by decide) (by omega)).trans g3.2.1, e19⟩ ⟨(ma9 _ _ (by decide) (by omega)).trans g3.2.2, e20⟩ (fun i q hq => by rw [ma9 _ _ (by decide) (by omega), mg9]; exact g5 i q hq)
  refine ⟨q1, q2, some ((pCh 33 r3).getD r3), k.tr k2, cuO.mono q5 (by decide), Or.inr ⟨(n, v, b, ss), _, rfl, fun og => ?_, hT, ?_, hn, hv⟩⟩
  · rw [hp og]
    unfold pBang mkD
    rw [hb]
    cases h33 : pCh 33 r3 with
    | none => rfl
    | some r4 => rfl
  · show ss.length + ((pCh 33 r3).getD r3).length ≤ r.length
    cases h33 : pCh 33 r3 with
    | none => exact hl
    | some r4 =>
      have := pCh_len h33
      show ss.length + r4.length ≤ r.length
      omega
theorem pWord_x {r r' : List Nat} (h : pWord 1 r = some r') : pWord 0 r = none := by
  unfold pWord at h ⊢
  split at h
  · rename_i e
    refine if_neg (fun e2 => ?_)
    rw [e] at e2
    revert e2
    decide
  · cases h
theorem pWord_len {i : Nat} {r r' : List Nat} (h : pWord i r = some r') : r'.length ≤ r.length := by
  unfold pWord at h
  split at h
  · cases h
    rw [List.length_drop]
    omega
  · cases h
theorem rd_81 (E : ZE) (mo : Nat) (hm : E.2.2.2.2 = some mo) (w : ZW) (sg sg1 : ZM) (d f : Nat) (hd : 5 ≤ d) (ds : List PDm) (hD : ds.length < 4) (x2 : Value) (n : Nat) (r r1 r2 : List Nat) (hr : r.length ≤ 120) (h0 : dtG sg ds) (hW : mWd sg) (k : dKw sg sg1 ds.length (flD ds).length) (h27 : mi sg1 27 = nI ds.length) (h32 : mi sg1 32 = nI (flD ds).length) (g3 : ma sg1 17 ds.length = nI n ∧ ma sg1 20 ds.length = nI (flD ds).length) (h : cuG sg1 f r2) (hp : pName r = some (n, r1)) (hn : n < 10) (hc : pCh 58 r1 = some r2) (hl : r2.length ≤ r.length) (hN : (flD ds).length + r.length ≤ 125) : RW E MX10_readDeclaration 81 [some (.ref mo), some (.int (nI ds.length)), some x2] [] w sg1 d 0 0 (PN E (rdQ sg f ds r w)) := by
  have hW1 : mWd sg1 := hW.kp (fun j i a b => k.2.1 j i (by omega) (by omega) (by omega) (by omega))
  have g0 : mi sg1 15 = zb true := (cuO.z (m := 0) h).g
  have hpd : ∀ og, pDecl og r = (match pValue r2 with
    | none => none
    | some (v, ss, r3) => pBang n v og ss r3) := fun og => by
    unfold pDecl
    rw [hp]
    simp only []
    rw [hc]
    rfl
  have key : ∀ (sg2 sg3 : ZM) (v : Nat) (r3 : List Nat) (ss : List PStep), v < 3 → mvC sg1 sg2 → smG (msa sg2 18 ds.length (nI (kdM v))) sg3 (flD ds).length (ss.map cvS) → cuG sg3 f r3 → pValue r2 = some (v, ss, r3) → ss.length + r3.length ≤ r2.length → RW E MX10_readDeclaration 143 [some (.ref mo), some (.int (nI ds.length)), some x2] [] w sg3 d 0 0 (PN E (rdQ sg f ds r w)) := fun sg2 sg3 v r3 ss hv v12 s3 c3 hpv hl3 => by
    have k2 : dKw sg1 sg3 ds.length (flD ds).length := (v12.dk.tr (dKw.sa (Or.inl ⟨by decide, by decide, rfl⟩))).tr s3.dk
    have m32 := s3.2.1
    rw [List.length_map] at m32
    refine rd_good E mo hm w sg sg3 d f (by omega) ds hD x2 n v ss r r3 h0 (k.tr k2) ?_ m32 ⟨?_, ?_, ?_⟩ s3.2.2.2.2 c3 (fun og => by rw [hpd og, hpv]) (by omega) hn hv
    · rw [s3.1 27 (by decide) (by decide) (by decide)]
      exact (v12.1 27 (by decide) (by decide)).trans h27
    · rw [s3.2.2.1 17 ds.length (by omega) (by decide), ma_msa, if_neg (by omega), v12.2.1]
      exact g3.1
    · rw [s3.2.2.1 18 ds.length (by omega) (by decide), ma_msa, if_pos ⟨rfl, rfl⟩]
    · rw [s3.2.2.1 20 ds.length (by omega) (by decide), ma_msa, if_neg (by omega), v12.2.1]
      exact g3.2
  have hw1 := p_word E mo hm w sg1 (d - 1) f 1 (by decide) r2 h hW1
  cases hw : pWord 1 r2 with
  | some r3 =>
    unfold wdQ at hw1
    rw [hw] at hw1
    have hx := pWord_x hw
    have hl9 := pWord_len hw
    have hpv : pValue r2 = some (1, [], r3) := by unfold pValue; rw [hx, hw]
    refine r_aload_n dX10_readDeclaration_81 rfl (zRv_ref _) rfl ?_
    refine m_geta hm 29 18 lfX10_62 rfl (by decide) dX10_readDeclaration_82 rfl ?_
    refine r_iload_n dX10_readDeclaration_85 rfl rfl ?_
    refine r_aload_n dX10_readDeclaration_86 rfl (zRv_ref _) rfl ?_
    refine m_getiv hm 15 lfX10_153 rfl (by first | (simp only [zGS, zMS, Nat.reduceEqDiff, OfNat.ofNat_ne_ofNat, false_and, and_false, true_and, and_true, and_self, if_true, if_false, ite_true, ite_false, reduceIte, reduceCtorEq]; first | done | assumption | rfl) | assumption | exact z2_eq | exact z1_eq | (simp [zGS, zMS]; first | done | assumption) | rfl) dX10_readDeclaration_87 rfl ?_
    refine r_if_neB (r := 97) dX10_readDeclaration_90 (by decide) rfl (fun c_90 => ?_) (fun c_90 => ?_)
    · refine r_aload_n dX10_readDeclaration_97 rfl (zRv_ref _) rfl ?_
      refine r_iconst dX10_readDeclaration_98 kc_1 rfl ?_
      refine r_callV MX10_word 1 [_] lvX10_258 (Or.inr (Or.inl ⟨hm, rfl⟩)) (hw1) rfl rfl (by first | exact Nat.le_of_ble_eq_true rfl | (simp [zcat_rf, Value.category]; done)) (by omega) (Nat.le_of_eq (Nat.zero_add _)) (Nat.le_of_eq (Nat.zero_add _)) dX10_readDeclaration_99 rfl (fun v_ w_ sg_ hq_ => ?_)
      obtain ⟨rfl, rfl, v2, c2⟩ := hq_
      obtain ⟨sg2, hsg2⟩ : ∃ y, y = sg_ := ⟨_, rfl⟩
      subst hsg2
      have i15 : mi sg2 15 = zb true := (cuO.z (m := 0) (r := r3) c2).g
      refine r_if_eqB (r := 109) dX10_readDeclaration_102 (by decide) rfl (fun c_102 => ?_) (fun c_102 => ?_)
      · cases c_102
      · refine r_iconst dX10_readDeclaration_105 kc_2 rfl ?_
        refine r_goto (r := 122) dX10_readDeclaration_106 (by decide) ?_
        refine m_iast hm 18 _ (by decide) (by decide) rfl rfl (by show _ < 4; omega) dX10_readDeclaration_122 rfl ?_
        refine r_aload_n dX10_readDeclaration_123 rfl (zRv_ref _) rfl ?_
        refine m_getiv hm 15 lfX10_153 rfl (by first | (simp only [zGS, zMS, Nat.reduceEqDiff, OfNat.ofNat_ne_ofNat, false_and, and_false, true_and, and_true, and_self, if_true, if_false, ite_true, ite_false, reduceIte, reduceCtorEq]; first | done | assumption | rfl) | assumption | exact z2_eq | exact z1_eq | (simp [zGS, zMS]; first | done | assumption) | rfl) dX10_readDeclaration_124 rfl ?_
        refine r_if_eqB (r := 143) dX10_readDeclaration_127 (by decide) rfl (fun c_127 => ?_) (fun c_127 => ?_)
        · cases c_127
        · refine r_aload_n dX10_readDeclaration_130 rfl (zRv_ref _) rfl ?_
          refine m_geta hm 29 18 lfX10_62 rfl (by decide) dX10_readDeclaration_131 rfl ?_
          refine r_iload_n dX10_readDeclaration_134 rfl rfl ?_
          refine m_ialdv hm 18 _ (by decide) (by decide) rfl rfl (by show _ < 4; omega) (by first | (simp only [zGS, zMS, Nat.reduceEqDiff, OfNat.ofNat_ne_ofNat, false_and, and_false, true_and, and_true, and_self, if_true, if_false, ite_true, ite_false, reduceIte, reduceCtorEq]; first | done | assumption | rfl) | assumption | exact z2_eq | exact z1_eq | (simp [zGS, zMS]; first | done | assumption) | rfl) dX10_readDeclaration_135 rfl ?_
          refine r_if_neN (by omega) (r := 143) dX10_readDeclaration_136 (by decide) rfl (fun c_136 => ?_) (fun c_136 => ?_)
          · refine key sg2 _ 1 r3 [] (by decide) v2 (smG.rf ?_) ((cuO.z (m := 0) (r := r3) c2).tab (fun i => by rw [ma_msa, if_neg (by omega)]) rfl rfl rfl rfl) hpv (by show 0 + r3.length ≤ r2.length; omega)
            exact (v2.1 32 (by decide) (by decide)).trans h32
          · exact absurd c_136 (by decide)
    · cases c_90
  | none =>
    unfold wdQ at hw1
    rw [hw] at hw1
    have hw0 := fun sg2 (c2 : cuG sg2 f r2) (v2 : mvC sg1 sg2) => p_word E mo hm w sg2 (d - 1) f 0 (by decide) r2 c2 (hW1.kp (fun j i _ _ => by rw [v2.2.1]))
    cases hv : pWord 0 r2 with
    | some r3 =>
      unfold wdQ at hw0
      rw [hv] at hw0
      have hl9 := pWord_len hv
      have hpv : pValue r2 = some (0, [], r3) := by unfold pValue; rw [hv]
      refine r_aload_n dX10_readDeclaration_81 rfl (zRv_ref _) rfl ?_
      refine m_geta hm 29 18 lfX10_62 rfl (by decide) dX10_readDeclaration_82 rfl ?_
      refine r_iload_n dX10_readDeclaration_85 rfl rfl ?_
      refine r_aload_n dX10_readDeclaration_86 rfl (zRv_ref _) rfl ?_
      refine m_getiv hm 15 lfX10_153 rfl (by first | (simp only [zGS, zMS, Nat.reduceEqDiff, OfNat.ofNat_ne_ofNat, false_and, and_false, true_and, and_true, and_self, if_true, if_false, ite_true, ite_false, reduceIte, reduceCtorEq]; first | done | assumption | rfl) | assumption | exact z2_eq | exact z1_eq | (simp [zGS, zMS]; first | done | assumption) | rfl) dX10_readDeclaration_87 rfl ?_
      refine r_if_neB (r := 97) dX10_readDeclaration_90 (by decide) rfl (fun c_90 => ?_) (fun c_90 => ?_)
      · refine r_aload_n dX10_readDeclaration_97 rfl (zRv_ref _) rfl ?_
        refine r_iconst dX10_readDeclaration_98 kc_1 rfl ?_
        refine r_callV MX10_word 1 [_] lvX10_258 (Or.inr (Or.inl ⟨hm, rfl⟩)) (hw1) rfl rfl (by first | exact Nat.le_of_ble_eq_true rfl | (simp [zcat_rf, Value.category]; done)) (by omega) (Nat.le_of_eq (Nat.zero_add _)) (Nat.le_of_eq (Nat.zero_add _)) dX10_readDeclaration_99 rfl (fun v_ w_ sg_ hq_ => ?_)
        obtain ⟨rfl, rfl, v2, c2⟩ := hq_
        obtain ⟨sg2, hsg2⟩ : ∃ y, y = sg_ := ⟨_, rfl⟩
        subst hsg2
        refine r_if_eqB (r := 109) dX10_readDeclaration_102 (by decide) rfl (fun c_102 => ?_) (fun c_102 => ?_)
        · refine r_aload_n dX10_readDeclaration_109 rfl (zRv_ref _) rfl ?_
          refine r_iconst dX10_readDeclaration_110 kc_0 rfl ?_
          refine r_callV MX10_word 1 [_] lvX10_258 (Or.inr (Or.inl ⟨hm, rfl⟩)) (hw0 sg2 c2 v2) rfl rfl (by first | exact Nat.le_of_ble_eq_true rfl | (simp [zcat_rf, Value.category]; done)) (by omega) (Nat.le_of_eq (Nat.zero_add _)) (Nat.le_of_eq (Nat.zero_add _)) dX10_readDeclaration_111 rfl (fun v_ w_ sg_ hq_ => ?_)
          obtain ⟨rfl, rfl, v3, c3⟩ := hq_
          obtain ⟨sg3, hsg3⟩ : ∃ y, y = sg_ := ⟨_, rfl⟩
          subst hsg3
          have i15 : mi sg3 15 = zb true := (cuO.z (m := 0) (r := r3) c3).g
          refine r_if_eqB (r := 121) dX10_readDeclaration_114 (by decide) rfl (fun c_114 => ?_) (fun c_114 => ?_)
          · cases c_114
          · refine r_iconst dX10_readDeclaration_117 kc_1 rfl ?_
            refine r_goto (r := 122) dX10_readDeclaration_118 (by decide) ?_
            refine m_iast hm 18 _ (by decide) (by decide) rfl rfl (by show _ < 4; omega) dX10_readDeclaration_122 rfl ?_
            refine r_aload_n dX10_readDeclaration_123 rfl (zRv_ref _) rfl ?_
            refine m_getiv hm 15 lfX10_153 rfl (by first | (simp only [zGS, zMS, Nat.reduceEqDiff, OfNat.ofNat_ne_ofNat, false_and, and_false, true_and, and_true, and_self, if_true, if_false, ite_true, ite_false, reduceIte, reduceCtorEq]; first | done | assumption | rfl) | assumption | exact z2_eq | exact z1_eq | (simp [zGS, zMS]; first | done | assumption) | rfl) dX10_readDeclaration_124 rfl ?_
            refine r_if_eqB (r := 143) dX10_readDeclaration_127 (by decide) rfl (fun c_127 => ?_) (fun c_127 => ?_)
            · cases c_127
            · refine r_aload_n dX10_readDeclaration_130 rfl (zRv_ref _) rfl ?_
              refine m_geta hm 29 18 lfX10_62 rfl (by decide) dX10_readDeclaration_131 rfl ?_
              refine r_iload_n dX10_readDeclaration_134 rfl rfl ?_
              refine m_ialdv hm 18 _ (by decide) (by decide) rfl rfl (by show _ < 4; omega) (by first | (simp only [zGS, zMS, Nat.reduceEqDiff, OfNat.ofNat_ne_ofNat, false_and, and_false, true_and, and_true, and_self, if_true, if_false, ite_true, ite_false, reduceIte, reduceCtorEq]; first | done | assumption | rfl) | assumption | exact z2_eq | exact z1_eq | (simp [zGS, zMS]; first | done | assumption) | rfl) dX10_readDeclaration_135 rfl ?_
              refine r_if_neN (by omega) (r := 143) dX10_readDeclaration_136 (by decide) rfl (fun c_136 => ?_) (fun c_136 => ?_)
              · refine key sg3 _ 0 r3 [] (by decide) (v2.tr v3) (smG.rf ?_) ((cuO.z (m := 0) (r := r3) c3).tab (fun i => by rw [ma_msa, if_neg (by omega)]) rfl rfl rfl rfl) hpv (by show 0 + r3.length ≤ r2.length; omega)
                exact ((v2.tr v3).1 32 (by decide) (by decide)).trans h32
              · exact absurd c_136 (by decide)
        · cases c_102
      · cases c_90
    | none =>
      unfold wdQ at hw0
      rw [hv] at hw0
      have hpv : pValue r2 = (match pSum (pFac 7) r2 with
        | some (s, r') => some (2, s, r')
        | none => none) := by unfold pValue; rw [hv, hw]; rfl
      refine r_aload_n dX10_readDeclaration_81 rfl (zRv_ref _) rfl ?_
      refine m_geta hm 29 18 lfX10_62 rfl (by decide) dX10_readDeclaration_82 rfl ?_
      refine r_iload_n dX10_readDeclaration_85 rfl rfl ?_
      refine r_aload_n dX10_readDeclaration_86 rfl (zRv_ref _) rfl ?_
      refine m_getiv hm 15 lfX10_153 rfl (by first | (simp only [zGS, zMS, Nat.reduceEqDiff, OfNat.ofNat_ne_ofNat, false_and, and_false, true_and, and_true, and_self, if_true, if_false, ite_true, ite_false, reduceIte, reduceCtorEq]; first | done | assumption | rfl) | assumption | exact z2_eq | exact z1_eq | (simp [zGS, zMS]; first | done | assumption) | rfl) dX10_readDeclaration_87 rfl ?_
      refine r_if_neB (r := 97) dX10_readDeclaration_90 (by decide) rfl (fun c_90 => ?_) (fun c_90 => ?_)
      · refine r_aload_n dX10_readDeclaration_97 rfl (zRv_ref _) rfl ?_
        refine r_iconst dX10_readDeclaration_98 kc_1 rfl ?_
        refine r_callV MX10_word 1 [_] lvX10_258 (Or.inr (Or.inl ⟨hm, rfl⟩)) (hw1) rfl rfl (by first | exact Nat.le_of_ble_eq_true rfl | (simp [zcat_rf, Value.category]; done)) (by omega) (Nat.le_of_eq (Nat.zero_add _)) (Nat.le_of_eq (Nat.zero_add _)) dX10_readDeclaration_99 rfl (fun v_ w_ sg_ hq_ => ?_)
        obtain ⟨rfl, rfl, v2, c2⟩ := hq_
        obtain ⟨sg2, hsg2⟩ : ∃ y, y = sg_ := ⟨_, rfl⟩
        subst hsg2
        refine r_if_eqB (r := 109) dX10_readDeclaration_102 (by decide) rfl (fun c_102 => ?_) (fun c_102 => ?_)
        · refine r_aload_n dX10_readDeclaration_109 rfl (zRv_ref _) rfl ?_
          refine r_iconst dX10_readDeclaration_110 kc_0 rfl ?_
          refine r_callV MX10_word 1 [_] lvX10_258 (Or.inr (Or.inl ⟨hm, rfl⟩)) (hw0 sg2 c2 v2) rfl rfl (by first | exact Nat.le_of_ble_eq_true rfl | (simp [zcat_rf, Value.category]; done)) (by omega) (Nat.le_of_eq (Nat.zero_add _)) (Nat.le_of_eq (Nat.zero_add _)) dX10_readDeclaration_111 rfl (fun v_ w_ sg_ hq_ => ?_)
          obtain ⟨rfl, rfl, v3, c3⟩ := hq_
          obtain ⟨sg3, hsg3⟩ : ∃ y, y = sg_ := ⟨_, rfl⟩
          subst hsg3
          have i15 : mi sg3 15 = zb true := (cuO.z (m := 0) (r := r2) c3).g
          have c4 : cuG (msa sg3 18 ds.length (nI 0)) f r2 := (cuO.z (m := 0) (r := r2) c3).tab (fun i => by rw [ma_msa, if_neg (by omega)]) rfl rfl rfl rfl
          have i32 : mi (msa sg3 18 ds.length (nI 0)) 32 = nI (flD ds).length := ((v2.tr v3).1 32 (by decide) (by decide)).trans h32
          refine r_if_eqB (r := 121) dX10_readDeclaration_114 (by decide) rfl (fun c_114 => ?_) (fun c_114 => ?_)
          · refine r_iconst dX10_readDeclaration_121 kc_0 rfl ?_
            refine m_iast hm 18 _ (by decide) (by decide) rfl rfl (by show _ < 4; omega) dX10_readDeclaration_122 rfl ?_
            refine r_aload_n dX10_readDeclaration_123 rfl (zRv_ref _) rfl ?_
            refine m_getiv hm 15 lfX10_153 rfl (by first | (simp only [zGS, zMS, Nat.reduceEqDiff, OfNat.ofNat_ne_ofNat, false_and, and_false, true_and, and_true, and_self, if_true, if_false, ite_true, ite_false, reduceIte, reduceCtorEq]; first | done | assumption | rfl) | assumption | exact z2_eq | exact z1_eq | (simp [zGS, zMS]; first | done | assumption) | rfl) dX10_readDeclaration_124 rfl ?_
            refine r_if_eqB (r := 143) dX10_readDeclaration_127 (by decide) rfl (fun c_127 => ?_) (fun c_127 => ?_)
            · cases c_127
            · refine r_aload_n dX10_readDeclaration_130 rfl (zRv_ref _) rfl ?_
              refine m_geta hm 29 18 lfX10_62 rfl (by decide) dX10_readDeclaration_131 rfl ?_
              refine r_iload_n dX10_readDeclaration_134 rfl rfl ?_
              refine m_ialdv hm 18 _ (by decide) (by decide) rfl rfl (by show _ < 4; omega) (by first | (simp only [zGS, zMS, Nat.reduceEqDiff, OfNat.ofNat_ne_ofNat, false_and, and_false, true_and, and_true, and_self, if_true, if_false, ite_true, ite_false, reduceIte, reduceCtorEq]; first | done | assumption | rfl) | assumption | exact z2_eq | exact z1_eq | (simp [zGS, zMS]; first | done | assumption) | rfl) dX10_readDeclaration_135 rfl ?_
              refine r_if_neN (by omega) (r := 143) dX10_readDeclaration_136 (by decide) rfl (fun c_136 => ?_) (fun c_136 => ?_)
              · exact absurd rfl c_136
              · refine r_aload_n dX10_readDeclaration_139 rfl (zRv_ref _) rfl ?_
                refine r_callV MX10_readSum 0 [] lvX10_262 (Or.inr (Or.inl ⟨hm, rfl⟩)) (p_readSum E mo hm w _ (d - 1) f (flD ds).length (by omega) r2 (by omega) (by omega) i32 c4) rfl rfl (by first | exact Nat.le_of_ble_eq_true rfl | (simp [zcat_rf, Value.category]; done)) (by omega) (Nat.le_of_eq (Nat.zero_add _)) (Nat.le_of_eq (Nat.zero_add _)) dX10_readDeclaration_140 rfl (fun v_ w_ sg_ hq_ => ?_)
                obtain ⟨rfl, rfl, out, o, s5, c5, hk⟩ := hq_
                rcases hk with ⟨rfl, hk⟩ | ⟨l, r', rfl, hk, rfl, hll⟩
                · have k5 : dKw sg1 sg_ ds.length (flD ds).length := ((v2.tr v3).dk.tr (dKw.sa (Or.inl ⟨by decide, by decide, rfl⟩))).tr s5.dk
                  refine rd_bad E mo hm w sg sg_ d f (by omega) ds hD x2 r ?_ (k.tr k5) (cuO.mono c5 (by decide)) (fun og => ?_)
                  · rw [s5.1 27 (by decide) (by decide) (by decide)]
                    exact ((v2.tr v3).1 27 (by decide) (by decide)).trans h27
                  · rw [hpd og, hpv]
                    rcases hk with hk | ⟨l, r', hk, hk2⟩
                    · rw [hk]
                      exact Or.inl rfl
                    · rw [hk]
                      have hd9 := dg_hd hk2
                      have e33 : pCh 33 r' = none := ch_ne (by omega)
                      refine Or.inr ⟨(n, 2, og, l), r', ?_, hk2⟩
                      show pBang n 2 og l r' = _
                      unfold pBang
                      rw [e33]
                · rw [List.length_map] at hll
                  exact key sg3 sg_ 2 r' l (by decide) (v2.tr v3) s5 c5 (by rw [hpv, hk]) hll
          · cases c_114
        · cases c_102
      · cases c_90
theorem pName_len {r r1 : List Nat} {n : Nat} (h : pName r = some (n, r1)) : r1.length + 1 ≤ r.length := by
  cases r with
  | nil => cases h
  | cons c r0 =>
    have h2 : (if c = 99 then some (0, r0) else if c = 102 then some (1, r0) else if c = 119 then some (2, r0) else if c = 104 then some (3, r0) else if c = 109 then some (4, r0) else if c = 122 then some (5, r0) else if c = 36 then (match pNamed r0 with
      | none => none
      | some (x, r2) => some (6 + x, r2)) else none) = some (n, r1) := h
    by_cases c0 : c = 99
    · rw [if_pos c0] at h2
      cases h2
      exact Nat.le_refl _
    rw [if_neg c0] at h2
    by_cases c1 : c = 102
    · rw [if_pos c1] at h2
      cases h2
      exact Nat.le_refl _
    rw [if_neg c1] at h2
    by_cases c2 : c = 119
    · rw [if_pos c2] at h2
      cases h2
      exact Nat.le_refl _
    rw [if_neg c2] at h2
    by_cases c3 : c = 104
    · rw [if_pos c3] at h2
      cases h2
      exact Nat.le_refl _
    rw [if_neg c3] at h2
    by_cases c4 : c = 109
    · rw [if_pos c4] at h2
      cases h2
      exact Nat.le_refl _
    rw [if_neg c4] at h2
    by_cases c5 : c = 122
    · rw [if_pos c5] at h2
      cases h2
      exact Nat.le_refl _
    rw [if_neg c5] at h2
    by_cases c9 : c = 36
    · rw [if_pos c9] at h2
      cases hn : pNamed r0 with
      | none => rw [hn] at h2; cases h2
      | some q =>
        obtain ⟨x, r2⟩ := q
        rw [hn] at h2
        have := (pNamed_len hn).1
        cases h2
        rw [List.length_cons]
        omega
    · rw [if_neg c9] at h2
      cases h2
theorem rd_81b (E : ZE) (mo : Nat) (hm : E.2.2.2.2 = some mo) (w : ZW) (sg sg1 : ZM) (d f : Nat) (hd : 5 ≤ d) (ds : List PDm) (hD : ds.length < 4) (x2 : Value) (r : List Nat) (k : dKw sg sg1 ds.length (flD ds).length) (h27 : mi sg1 27 = nI ds.length) (h : cuO sg1 f 640 none) (hb : ∀ og, stD (pDecl og r)) : RW E MX10_readDeclaration 81 [some (.ref mo), some (.int (nI ds.length)), some x2] [] w sg1 d 0 0 (PN E (rdQ sg f ds r w)) := by
  have g0 : mi sg1 15 = zb false := h.g
  refine r_aload_n dX10_readDeclaration_81 rfl (zRv_ref _) rfl ?_
  refine m_geta hm 29 18 lfX10_62 rfl (by decide) dX10_readDeclaration_82 rfl ?_
  refine r_iload_n dX10_readDeclaration_85 rfl rfl ?_
  refine r_aload_n dX10_readDeclaration_86 rfl (zRv_ref _) rfl ?_
  refine m_getiv hm 15 lfX10_153 rfl (by first | (simp only [zGS, zMS, Nat.reduceEqDiff, OfNat.ofNat_ne_ofNat, false_and, and_false, true_and, and_true, and_self, if_true, if_false, ite_true, ite_false, reduceIte, reduceCtorEq]; first | done | assumption | rfl) | assumption | exact z2_eq | exact z1_eq | (simp [zGS, zMS]; first | done | assumption) | rfl) dX10_readDeclaration_87 rfl ?_
  refine r_if_neB (r := 97) dX10_readDeclaration_90 (by decide) rfl (fun c_90 => ?_) (fun c_90 => ?_)
  · cases c_90
  · refine r_iconst dX10_readDeclaration_93 kc_1 rfl ?_
    refine r_goto (r := 122) dX10_readDeclaration_94 (by decide) ?_
    refine m_iast hm 18 _ (by decide) (by decide) rfl rfl (by show _ < 4; omega) dX10_readDeclaration_122 rfl ?_
    refine r_aload_n dX10_readDeclaration_123 rfl (zRv_ref _) rfl ?_
    refine m_getiv hm 15 lfX10_153 rfl (by first | (simp only [zGS, zMS, Nat.reduceEqDiff, OfNat.ofNat_ne_ofNat, false_and, and_false, true_and, and_true, and_self, if_true, if_false, ite_true, ite_false, reduceIte, reduceCtorEq]; first | done | assumption | rfl) | assumption | exact z2_eq | exact z1_eq | (simp [zGS, zMS]; first | done | assumption) | rfl) dX10_readDeclaration_124 rfl ?_
    refine r_if_eqB (r := 143) dX10_readDeclaration_127 (by decide) rfl (fun c_127 => ?_) (fun c_127 => ?_)
    · exact rd_bad E mo hm w sg _ d f (by omega) ds hD x2 r h27 (k.tr (dKw.sa (Or.inl ⟨by decide, by decide, rfl⟩))) (h.tab (fun i => by rw [ma_msa, if_neg (by omega)]) rfl rfl rfl rfl) hb
    · cases c_127
theorem rd_46 (E : ZE) (mo : Nat) (hm : E.2.2.2.2 = some mo) (w : ZW) (sg sg1 : ZM) (d f : Nat) (hd : 5 ≤ d) (ds : List PDm) (hD : ds.length < 4) (x2 : Value) (X : Int32) (r : List Nat) (o : Option (List Nat)) (hr : r.length ≤ 120) (h0 : dtG sg ds) (hW : mWd sg) (hN : (flD ds).length + r.length ≤ 125) (v1 : mvC sg sg1) (h : cuO sg1 f 880 o) (hx : nameP r X o) : RW E MX10_readDeclaration 46 [some (.ref mo), some (.int (nI ds.length)), some x2] [] w (msa sg1 17 ds.length X) d 0 0 (PN E (rdQ sg f ds r w)) := by
  obtain ⟨hx1, hx2⟩ := hx
  have h17 : ma (msa sg1 17 ds.length X) 17 ds.length = X := by rw [ma_msa, if_pos ⟨rfl, rfl⟩]
  have hcA : cuO (msa sg1 17 ds.length X) f 880 o := h.tab (fun i => by rw [ma_msa, if_neg (by omega)]) rfl rfl rfl rfl
  have kA : dKw sg (msa sg1 17 ds.length X) ds.length (flD ds).length := v1.dk.tr (dKw.sa (Or.inl ⟨by decide, by decide, rfl⟩))
  have i27 : mi (msa sg1 17 ds.length X) 27 = nI ds.length := (v1.1 27 (by decide) (by decide)).trans h0.1.1
  have i32 : mi (msa sg1 17 ds.length X) 32 = nI (flD ds).length := (v1.1 32 (by decide) (by decide)).trans h0.1.2
  obtain ⟨sgA, hA⟩ : ∃ y, y = msa sg1 17 ds.length X := ⟨_, rfl⟩
  rw [← hA] at h17 hcA kA i27 i32 ⊢
  have hmt := o_must E mo hm w sgA (d - 1) f 880 (by decide) (decide (X ≠ -1)) o hcA
  rw [hx1] at hmt
  have fin : ∀ sg3 : ZM, mvC sgA sg3 → cuO sg3 f 879 (bndO (rsP (pName r)) (pCh 58)) → RW E MX10_readDeclaration 81 [some (.ref mo), some (.int (nI ds.length)), some x2] [] w (msa sg3 20 ds.length (nI (flD ds).length)) d 0 0 (PN E (rdQ sg f ds r w)) := fun sg3 v3 c3 => by
    have kB : dKw sg (msa sg3 20 ds.length (nI (flD ds).length)) ds.length (flD ds).length := (kA.tr v3.dk).tr (dKw.sa (Or.inr ⟨rfl, Nat.le_refl _⟩))
    have j27 : mi (msa sg3 20 ds.length (nI (flD ds).length)) 27 = nI ds.length := (v3.1 27 (by decide) (by decide)).trans i27
    have j32 : mi (msa sg3 20 ds.length (nI (flD ds).length)) 32 = nI (flD ds).length := (v3.1 32 (by decide) (by decide)).trans i32
    have cB : cuO (msa sg3 20 ds.length (nI (flD ds).length)) f 879 (bndO (rsP (pName r)) (pCh 58)) := c3.tab (fun i => by rw [ma_msa, if_neg (by omega)]) rfl rfl rfl rfl
    cases hp : pName r with
    | none =>
      rw [hp] at cB
      exact rd_81b E mo hm w sg _ d f hd ds hD x2 r kB j27 (cuO.mono cB (by decide)) (fun og => Or.inl (by unfold pDecl; rw [hp]))
    | some q =>
      obtain ⟨n, r1⟩ := q
      rw [hp] at cB
      have cB2 : cuO (msa sg3 20 ds.length (nI (flD ds).length)) f 879 (pCh 58 r1) := cB
      obtain ⟨e1, e2⟩ := hx2 n r1 hp
      have hl1 := pName_len hp
      cases hc : pCh 58 r1 with
      | none =>
        rw [hc] at cB2
        exact rd_81b E mo hm w sg _ d f hd ds hD x2 r kB j27 (cuO.mono cB2 (by decide)) (fun og => Or.inl (by unfold pDecl; rw [hp]; simp only []; rw [hc]))
      | some r2 =>
        rw [hc] at cB2
        have := pCh_len hc
        exact rd_81 E mo hm w sg _ d f hd ds hD x2 n r r1 r2 hr h0 hW kB j27 j32 ⟨by rw [ma_msa, if_neg (by omega), v3.2.1, h17, e1], by rw [ma_msa, if_pos ⟨rfl, rfl⟩]⟩ cB2 hp e2 hc (by omega) hN
  by_cases hX : X = -1
  · rw [decide_eq_false (p := X ≠ -1) (fun e => e hX)] at hmt
    refine r_aload_n dX10_readDeclaration_46 rfl (zRv_ref _) rfl ?_
    refine r_aload_n dX10_readDeclaration_47 rfl (zRv_ref _) rfl ?_
    refine m_geta hm 28 17 lfX10_59 rfl (by decide) dX10_readDeclaration_48 rfl ?_
    refine r_iload_n dX10_readDeclaration_51 rfl rfl ?_
    refine m_ialdv hm 17 _ (by decide) (by decide) rfl rfl (by show _ < 4; omega) (by first | (simp only [zGS, zMS, Nat.reduceEqDiff, OfNat.ofNat_ne_ofNat, false_and, and_false, true_and, and_true, and_self, if_true, if_false, ite_true, ite_false, reduceIte, reduceCtorEq]; first | done | assumption | rfl) | assumption | exact z2_eq | exact z1_eq | (simp [zGS, zMS]; first | done | assumption) | rfl) dX10_readDeclaration_52 rfl ?_
    refine r_iconst dX10_readDeclaration_53 kc_m1 rfl ?_
    refine r_icmp_eq (r := 61) dX10_readDeclaration_54 (by decide) rfl (fun c_54 => ?_) (fun c_54 => ?_)
    · refine r_iconst dX10_readDeclaration_61 kc_0 rfl ?_
      refine r_callV MX10_must 1 [_] lvX10_180 (Or.inr (Or.inl ⟨hm, rfl⟩)) (hmt) rfl rfl (by first | exact Nat.le_of_ble_eq_true rfl | (simp [zcat_rf, Value.category]; done)) (by omega) (Nat.le_of_eq (Nat.zero_add _)) (Nat.le_of_eq (Nat.zero_add _)) dX10_readDeclaration_62 rfl (fun v_ w_ sg_ hq_ => ?_)
      obtain ⟨rfl, rfl, v2, c2⟩ := hq_
      obtain ⟨sg2, hsg2⟩ : ∃ y, y = sg_ := ⟨_, rfl⟩
      subst hsg2
      refine r_aload_n dX10_readDeclaration_65 rfl (zRv_ref _) rfl ?_
      refine r_bipush dX10_readDeclaration_66 kb_58 rfl ?_
      refine r_callV MX10_expect 1 [_] lvX10_188 (Or.inr (Or.inl ⟨hm, rfl⟩)) (o_expect E mo hm w sg2 (d - 1) f 58 879 (by decide) (by omega) (by decide) _ c2) rfl rfl (by first | exact Nat.le_of_ble_eq_true rfl | (simp [zcat_rf, Value.category]; done)) (by omega) (Nat.le_of_eq (Nat.zero_add _)) (Nat.le_of_eq (Nat.zero_add _)) dX10_readDeclaration_68 rfl (fun v_ w_ sg_ hq_ => ?_)
      obtain ⟨rfl, rfl, v3, c3⟩ := hq_
      obtain ⟨sg3, hsg3⟩ : ∃ y, y = sg_ := ⟨_, rfl⟩
      subst hsg3
      have l32 : mi sg3 32 = nI (flD ds).length := ((v2.tr v3).1 32 (by decide) (by decide)).trans i32
      refine r_aload_n dX10_readDeclaration_71 rfl (zRv_ref _) rfl ?_
      refine m_geta hm 31 20 lfX10_69 rfl (by decide) dX10_readDeclaration_72 rfl ?_
      refine r_iload_n dX10_readDeclaration_75 rfl rfl ?_
      refine r_aload_n dX10_readDeclaration_76 rfl (zRv_ref _) rfl ?_
      refine m_getiv hm 32 lfX10_169 rfl (by first | (simp only [zGS, zMS, Nat.reduceEqDiff, OfNat.ofNat_ne_ofNat, false_and, and_false, true_and, and_true, and_self, if_true, if_false, ite_true, ite_false, reduceIte, reduceCtorEq]; first | done | assumption | rfl) | assumption | exact z2_eq | exact z1_eq | (simp [zGS, zMS]; first | done | assumption) | rfl) dX10_readDeclaration_77 rfl ?_
      refine m_iast hm 20 _ (by decide) (by decide) rfl rfl (by show _ < 5; omega) dX10_readDeclaration_80 rfl ?_
      exact fin sg3 (v2.tr v3) c3
    · exact absurd hX c_54
  · rw [decide_eq_true (p := X ≠ -1) hX] at hmt
    refine r_aload_n dX10_readDeclaration_46 rfl (zRv_ref _) rfl ?_
    refine r_aload_n dX10_readDeclaration_47 rfl (zRv_ref _) rfl ?_
    refine m_geta hm 28 17 lfX10_59 rfl (by decide) dX10_readDeclaration_48 rfl ?_
    refine r_iload_n dX10_readDeclaration_51 rfl rfl ?_
    refine m_ialdv hm 17 _ (by decide) (by decide) rfl rfl (by show _ < 4; omega) (by first | (simp only [zGS, zMS, Nat.reduceEqDiff, OfNat.ofNat_ne_ofNat, false_and, and_false, true_and, and_true, and_self, if_true, if_false, ite_true, ite_false, reduceIte, reduceCtorEq]; first | done | assumption | rfl) | assumption | exact z2_eq | exact z1_eq | (simp [zGS, zMS]; first | done | assumption) | rfl) dX10_readDeclaration_52 rfl ?_
    refine r_iconst dX10_readDeclaration_53 kc_m1 rfl ?_
    refine r_icmp_eq (r := 61) dX10_readDeclaration_54 (by decide) rfl (fun c_54 => ?_) (fun c_54 => ?_)
    · exact absurd c_54 hX
    · refine r_iconst dX10_readDeclaration_57 kc_1 rfl ?_
      refine r_goto (r := 62) dX10_readDeclaration_58 (by decide) ?_
      refine r_callV MX10_must 1 [_] lvX10_180 (Or.inr (Or.inl ⟨hm, rfl⟩)) (hmt) rfl rfl (by first | exact Nat.le_of_ble_eq_true rfl | (simp [zcat_rf, Value.category]; done)) (by omega) (Nat.le_of_eq (Nat.zero_add _)) (Nat.le_of_eq (Nat.zero_add _)) dX10_readDeclaration_62 rfl (fun v_ w_ sg_ hq_ => ?_)
      obtain ⟨rfl, rfl, v2, c2⟩ := hq_
      obtain ⟨sg2, hsg2⟩ : ∃ y, y = sg_ := ⟨_, rfl⟩
      subst hsg2
      refine r_aload_n dX10_readDeclaration_65 rfl (zRv_ref _) rfl ?_
      refine r_bipush dX10_readDeclaration_66 kb_58 rfl ?_
      refine r_callV MX10_expect 1 [_] lvX10_188 (Or.inr (Or.inl ⟨hm, rfl⟩)) (o_expect E mo hm w sg2 (d - 1) f 58 879 (by decide) (by omega) (by decide) _ c2) rfl rfl (by first | exact Nat.le_of_ble_eq_true rfl | (simp [zcat_rf, Value.category]; done)) (by omega) (Nat.le_of_eq (Nat.zero_add _)) (Nat.le_of_eq (Nat.zero_add _)) dX10_readDeclaration_68 rfl (fun v_ w_ sg_ hq_ => ?_)
      obtain ⟨rfl, rfl, v3, c3⟩ := hq_
      obtain ⟨sg3, hsg3⟩ : ∃ y, y = sg_ := ⟨_, rfl⟩
      subst hsg3
      have l32 : mi sg3 32 = nI (flD ds).length := ((v2.tr v3).1 32 (by decide) (by decide)).trans i32
      refine r_aload_n dX10_readDeclaration_71 rfl (zRv_ref _) rfl ?_
      refine m_geta hm 31 20 lfX10_69 rfl (by decide) dX10_readDeclaration_72 rfl ?_
      refine r_iload_n dX10_readDeclaration_75 rfl rfl ?_
      refine r_aload_n dX10_readDeclaration_76 rfl (zRv_ref _) rfl ?_
      refine m_getiv hm 32 lfX10_169 rfl (by first | (simp only [zGS, zMS, Nat.reduceEqDiff, OfNat.ofNat_ne_ofNat, false_and, and_false, true_and, and_true, and_self, if_true, if_false, ite_true, ite_false, reduceIte, reduceCtorEq]; first | done | assumption | rfl) | assumption | exact z2_eq | exact z1_eq | (simp [zGS, zMS]; first | done | assumption) | rfl) dX10_readDeclaration_77 rfl ?_
      refine m_iast hm 20 _ (by decide) (by decide) rfl rfl (by show _ < 5; omega) dX10_readDeclaration_80 rfl ?_
      exact fin sg3 (v2.tr v3) c3
theorem p_readDeclaration (E : ZE) (mo : Nat) (hm : E.2.2.2.2 = some mo) (w : ZW) (sg : ZM) (d f : Nat) (hd : 5 ≤ d) (ds : List PDm) (hD : ds.length < 4) (r : List Nat) (hr : r.length ≤ 120) (h0 : dtG sg ds) (hW : mWd sg) (hN : (flD ds).length + r.length ≤ 125) (h : cuG sg f r) : CallQ E MX10_readDeclaration [.ref mo] w sg d 0 0 (rdQ sg f ds r w) := by
  have h27 := h0.1.1
  have hp := p_pass E mo hm w sg (d - 1) f 36 (by omega) (by decide) r h
  refine CallQ.of rfl (by simp [Value.category]) (Nat.le_of_ble_eq_true rfl) ?_
  cases h36 : pCh 36 r with
  | some r1 =>
    rw [h36] at hp
    refine r_aload_n dX10_readDeclaration_0 rfl (zRv_ref _) rfl ?_
    refine m_getiv hm 27 lfX10_166 rfl (by first | (simp only [zGS, zMS, Nat.reduceEqDiff, OfNat.ofNat_ne_ofNat, false_and, and_false, true_and, and_true, and_self, if_true, if_false, ite_true, ite_false, reduceIte, reduceCtorEq]; first | done | assumption | rfl) | assumption | exact z2_eq | exact z1_eq | (simp [zGS, zMS]; first | done | assumption) | rfl) dX10_readDeclaration_1 rfl ?_
    refine r_istore_n (ls' := [_, _, _]) dX10_readDeclaration_4 (Nat.le_of_ble_eq_true rfl) rfl rfl ?_
    refine r_aload_n dX10_readDeclaration_5 rfl (zRv_ref _) rfl ?_
    refine r_bipush dX10_readDeclaration_6 kb_36 rfl ?_
    refine r_callV MX10_pass 1 [_] lvX10_176 (Or.inr (Or.inl ⟨hm, rfl⟩)) (hp) rfl rfl (by first | exact Nat.le_of_ble_eq_true rfl | (simp [zcat_rf, Value.category]; done)) (by omega) (Nat.le_of_eq (Nat.zero_add _)) (Nat.le_of_eq (Nat.zero_add _)) dX10_readDeclaration_8 rfl (fun v_ w_ sg_ hq_ => ?_)
    obtain ⟨rfl, rfl, v1, c1⟩ := hq_
    obtain ⟨sg1, hsg1⟩ : ∃ y, y = sg_ := ⟨_, rfl⟩
    subst hsg1
    refine r_istore_n (ls' := [_, _, _]) dX10_readDeclaration_11 (Nat.le_of_ble_eq_true rfl) rfl rfl ?_
    refine r_aload_n dX10_readDeclaration_12 rfl (zRv_ref _) rfl ?_
    refine m_geta hm 28 17 lfX10_59 rfl (by decide) dX10_readDeclaration_13 rfl ?_
    refine r_iload_n dX10_readDeclaration_16 rfl rfl ?_
    refine r_iload_n dX10_readDeclaration_17 rfl rfl ?_
    refine r_if_eqB (r := 36) dX10_readDeclaration_18 (by decide) rfl (fun c_18 => ?_) (fun c_18 => ?_)
    · cases c_18
    · refine r_bipush dX10_readDeclaration_21 kb_6 rfl ?_
      refine r_aload_n dX10_readDeclaration_23 rfl (zRv_ref _) rfl ?_
      refine r_bipush dX10_readDeclaration_24 kb_100 rfl ?_
      refine r_callV MX10_letter 1 [_] lvX10_200 (Or.inr (Or.inl ⟨hm, rfl⟩)) (o_letter E mo hm w sg1 (d - 1) f 100 880 (by decide) (by decide) (by omega) (some r1) (cuO.z c1)) rfl rfl (by first | exact Nat.le_of_ble_eq_true rfl | (simp [zcat_rf, Value.category]; done)) (by omega) (Nat.le_of_eq (Nat.zero_add _)) (Nat.le_of_eq (Nat.zero_add _)) dX10_readDeclaration_26 rfl (fun v_ w_ sg_ hq_ => ?_)
      obtain ⟨⟨x, rfl, hx1, hx2, -, hx⟩, rfl, v2, c2⟩ := hq_
      obtain ⟨sg2, hsg2⟩ : ∃ y, y = sg_ := ⟨_, rfl⟩
      subst hsg2
      refine r_iaddN dX10_readDeclaration_29 rfl ?_
      refine r_bipush dX10_readDeclaration_30 kb_97 rfl ?_
      refine r_isubN (by omega) dX10_readDeclaration_32 rfl ?_
      refine r_goto (r := 45) dX10_readDeclaration_33 (by decide) ?_
      refine m_iast hm 17 _ (by decide) (by decide) rfl rfl (by show _ < 4; omega) dX10_readDeclaration_45 rfl ?_
      exact rd_46 E mo hm w sg sg2 d f hd ds hD _ _ r _ hr h0 hW hN (v1.tr v2) c2 (nm_dollar h36 hx1 hx2 (hx r1 rfl))
  | none =>
    rw [h36] at hp
    refine r_aload_n dX10_readDeclaration_0 rfl (zRv_ref _) rfl ?_
    refine m_getiv hm 27 lfX10_166 rfl (by first | (simp only [zGS, zMS, Nat.reduceEqDiff, OfNat.ofNat_ne_ofNat, false_and, and_false, true_and, and_true, and_self, if_true, if_false, ite_true, ite_false, reduceIte, reduceCtorEq]; first | done | assumption | rfl) | assumption | exact z2_eq | exact z1_eq | (simp [zGS, zMS]; first | done | assumption) | rfl) dX10_readDeclaration_1 rfl ?_
    refine r_istore_n (ls' := [_, _, _]) dX10_readDeclaration_4 (Nat.le_of_ble_eq_true rfl) rfl rfl ?_
    refine r_aload_n dX10_readDeclaration_5 rfl (zRv_ref _) rfl ?_
    refine r_bipush dX10_readDeclaration_6 kb_36 rfl ?_
    refine r_callV MX10_pass 1 [_] lvX10_176 (Or.inr (Or.inl ⟨hm, rfl⟩)) (hp) rfl rfl (by first | exact Nat.le_of_ble_eq_true rfl | (simp [zcat_rf, Value.category]; done)) (by omega) (Nat.le_of_eq (Nat.zero_add _)) (Nat.le_of_eq (Nat.zero_add _)) dX10_readDeclaration_8 rfl (fun v_ w_ sg_ hq_ => ?_)
    obtain ⟨rfl, rfl, v1, c1⟩ := hq_
    obtain ⟨sg1, hsg1⟩ : ∃ y, y = sg_ := ⟨_, rfl⟩
    subst hsg1
    refine r_istore_n (ls' := [_, _, _]) dX10_readDeclaration_11 (Nat.le_of_ble_eq_true rfl) rfl rfl ?_
    refine r_aload_n dX10_readDeclaration_12 rfl (zRv_ref _) rfl ?_
    refine m_geta hm 28 17 lfX10_59 rfl (by decide) dX10_readDeclaration_13 rfl ?_
    refine r_iload_n dX10_readDeclaration_16 rfl rfl ?_
    refine r_iload_n dX10_readDeclaration_17 rfl rfl ?_
    refine r_if_eqB (r := 36) dX10_readDeclaration_18 (by decide) rfl (fun c_18 => ?_) (fun c_18 => ?_)
    · refine r_aload_n dX10_readDeclaration_36 rfl (zRv_ref _) rfl ?_
      refine r_bipush dX10_readDeclaration_37 kb_122 rfl ?_
      refine r_callV MX10_letter 1 [_] lvX10_200 (Or.inr (Or.inl ⟨hm, rfl⟩)) (o_letter E mo hm w sg1 (d - 1) f 122 880 (by decide) (by decide) (by omega) (some r) (cuO.z c1)) rfl rfl (by first | exact Nat.le_of_ble_eq_true rfl | (simp [zcat_rf, Value.category]; done)) (by omega) (Nat.le_of_eq (Nat.zero_add _)) (Nat.le_of_eq (Nat.zero_add _)) dX10_readDeclaration_39 rfl (fun v_ w_ sg_ hq_ => ?_)
      obtain ⟨⟨x, rfl, hx1, hx2, -, hx⟩, rfl, v2, c2⟩ := hq_
      obtain ⟨sg2, hsg2⟩ : ∃ y, y = sg_ := ⟨_, rfl⟩
      subst hsg2
      refine r_callS MX10_property 1 [_] lsX10_255 (q_property E w sg2 (d - 1) x (by omega)) rfl rfl (by first | exact Nat.le_of_ble_eq_true rfl | (simp [zcat_rf, Value.category]; done)) (by omega) (Nat.le_of_eq (Nat.zero_add _)) (Nat.le_of_eq (Nat.zero_add _)) dX10_readDeclaration_42 rfl (fun v_ w_ sg_ hq_ => ?_)
      obtain ⟨rfl, rfl, rfl⟩ := hq_
      refine m_iast hm 17 _ (by decide) (by decide) rfl rfl (by show _ < 4; omega) dX10_readDeclaration_45 rfl ?_
      exact rd_46 E mo hm w sg sg2 d f hd ds hD _ _ r _ hr h0 hW hN (v1.tr v2) c2 (nm_let h36 (hx r rfl))
    · cases c_18
