/-! ===== the model: readSum, its steps ===== -/
/-- the end when all is not good, or what is open stays open -/
def sBad (E : ZE) (mo : Nat) (w : ZW) (d f : Nat) (sg0 : ZM) (N : Nat) (P : ZPhi) : Prop := ∀ (sg' : ZM) (W' : List Nat) (o' : Option (List Nat)) (out' : List PStep) (x2 x3 x4 : Value) (x5 : Option Value), smG sg0 sg' N out' → wtG sg' W' → W'.length ≤ 130 → cuO sg' f 700 o' → (o' = none ∨ 20 ∈ W') → RW E MX10_readSum 285 [some (.ref mo), some (.int (nI W'.length)), some x2, some x3, some x4, x5] [] w sg' d 0 0 P
theorem sm_9b (E : ZE) (mo : Nat) (hm : E.2.2.2.2 = some mo) (w : ZW) (sg : ZM) (d : Nat) (x1 x2 x3 x4 : Value) (x5 : Option Value) (P : ZPhi) (h : mi sg 15 = zb false) (K : RW E MX10_readSum 285 [some (.ref mo), some x1, some x2, some x3, some x4, x5] [] w sg d 0 0 P) : RW E MX10_readSum 9 [some (.ref mo), some x1, some x2, some x3, some x4, x5] [] w sg d 0 0 P := by
  refine r_aload_n dX10_readSum_9 rfl (zRv_ref _) rfl ?_
  refine m_getiv hm 15 lfX10_153 rfl (by first | (simp only [zGS, zMS, Nat.reduceEqDiff, OfNat.ofNat_ne_ofNat, false_and, and_false, true_and, and_true, and_self, if_true, if_false, ite_true, ite_false, reduceIte, reduceCtorEq]; first | done | assumption | rfl) | assumption | exact z2_eq | exact z1_eq | (simp [zGS, zMS]; first | done | assumption) | rfl) dX10_readSum_10 rfl ?_
  refine r_if_eqB (r := 285) dX10_readSum_13 (by decide) rfl (fun c_13 => ?_) (fun c_13 => ?_)
  · exact K
  · cases c_13
theorem sm_op (E : ZE) (mo : Nat) (hm : E.2.2.2.2 = some mo) (w : ZW) (sg0 sg : ZM) (d f N c x st : Nat) (hd : 2 ≤ d) (dp : Value) (W r1 : List Nat) (out : List PStep) (x5 : Option Value) (P : ZPhi) (hc : (c = 43 ∧ x = 9 ∧ st = 1) ∨ (c = 45 ∧ x = 10 ∧ st = 1) ∨ (c = 42 ∧ x = 11 ∧ st = 2) ∨ (c = 47 ∧ x = 12 ∧ st = 2)) (h : ssI sg0 sg N f out W (c :: r1)) (K : ∀ sg' s, ssI sg0 sg' N f (out ++ prO st W) (x :: prW st W) r1 → RW E MX10_readSum 9 [some (.ref mo), some (.int (nI ((prW st W).length + 1))), some dp, some (.int (zb true)), some (.int (zb true)), some s] [] w sg' d 0 0 P) : RW E MX10_readSum 9 [some (.ref mo), some (.int (nI W.length)), some dp, some (.int (zb false)), some (.int (zb true)), x5] [] w sg d 0 0 P := by
  obtain ⟨h1, h2, h3, h4⟩ := h
  have g0 : mi sg 15 = zb true := (cuO.z (m := 0) h3).g
  have hl : CallQ E MX10_look [.ref mo] w sg (d - 1) 0 0 (fun v w' sg' => v = some (.int (nI c)) ∧ w = w' ∧ sg = sg') := p_look E mo hm w sg (d - 1) f (c :: r1) h3
  have hsg : sgnI c = nI x ∧ strN x = st ∧ c < 128 ∧ x < 128 ∧ st < 4 := by rcases hc with ⟨rfl, rfl, rfl⟩ | ⟨rfl, rfl, rfl⟩ | ⟨rfl, rfl, rfl⟩ | ⟨rfl, rfl, rfl⟩ <;> decide
  obtain ⟨s1, s2, s3, s4, s5⟩ := hsg
  have hlen : (c :: r1).length = r1.length + 1 := List.length_cons
  have hpl := pr_len st W
  have hst := q_strength E w sg (d - 1) x s4
  rw [s2] at hst
  have hp := q_pour E mo hm w sg (d - 1) st (N + out.length) (by omega) s5 W h2 h1.2.1 (by omega)
  refine r_aload_n dX10_readSum_9 rfl (zRv_ref _) rfl ?_
  refine m_getiv hm 15 lfX10_153 rfl (by first | (simp only [zGS, zMS, Nat.reduceEqDiff, OfNat.ofNat_ne_ofNat, false_and, and_false, true_and, and_true, and_self, if_true, if_false, ite_true, ite_false, reduceIte, reduceCtorEq]; first | done | assumption | rfl) | assumption | exact z2_eq | exact z1_eq | (simp [zGS, zMS]; first | done | assumption) | rfl) dX10_readSum_10 rfl ?_
  refine r_if_eqB (r := 285) dX10_readSum_13 (by decide) rfl (fun c_13 => ?_) (fun c_13 => ?_)
  · cases c_13
  · refine r_iload dX10_readSum_16 rfl rfl ?_
    refine r_if_eqB (r := 285) dX10_readSum_18 (by decide) rfl (fun c_18 => ?_) (fun c_18 => ?_)
    · cases c_18
    · refine r_aload_n dX10_readSum_21 rfl (zRv_ref _) rfl ?_
      refine r_aload_n dX10_readSum_22 rfl (zRv_ref _) rfl ?_
      refine r_callV MX10_look 0 [] lvX10_172 (Or.inr (Or.inl ⟨hm, rfl⟩)) (hl) rfl rfl (by first | exact Nat.le_of_ble_eq_true rfl | (simp [zcat_rf, Value.category]; done)) (by omega) (Nat.le_of_eq (Nat.zero_add _)) (Nat.le_of_eq (Nat.zero_add _)) dX10_readSum_23 rfl (fun v_ w_ sg_ hq_ => ?_)
      obtain ⟨rfl, rfl, rfl⟩ := hq_
      refine r_callV MX10_signOf 1 [_] lvX10_238 (Or.inr (Or.inl ⟨hm, rfl⟩)) (q_signOf E mo w sg (d - 1) c s3) rfl rfl (by first | exact Nat.le_of_ble_eq_true rfl | (simp [zcat_rf, Value.category]; done)) (by omega) (Nat.le_of_eq (Nat.zero_add _)) (Nat.le_of_eq (Nat.zero_add _)) dX10_readSum_26 rfl (fun v_ w_ sg_ hq_ => ?_)
      obtain ⟨rfl, rfl, rfl⟩ := hq_
      rw [s1]
      refine r_istore (ls' := [_, _, _, _, _, _]) dX10_readSum_29 (Nat.le_of_ble_eq_true rfl) rfl rfl ?_
      refine r_iload_n dX10_readSum_31 rfl rfl ?_
      refine r_if_eqB (r := 109) dX10_readSum_32 (by decide) rfl (fun c_32 => ?_) (fun c_32 => ?_)
      · refine r_iload_n dX10_readSum_109 rfl rfl ?_
        refine r_if_eqB (r := 180) dX10_readSum_110 (by decide) rfl (fun c_110 => ?_) (fun c_110 => ?_)
        · refine r_iload dX10_readSum_180 rfl rfl ?_
          refine r_iconst dX10_readSum_182 kc_m1 rfl ?_
          refine r_icmp_eq (r := 223) dX10_readSum_183 (by decide) rfl (fun c_183 => ?_) (fun c_183 => ?_)
          · exact absurd c_183 (nI_neg (by omega))
          · refine r_aload_n dX10_readSum_186 rfl (zRv_ref _) rfl ?_
            refine r_iload_n dX10_readSum_187 rfl rfl ?_
            refine r_iload dX10_readSum_188 rfl rfl ?_
            refine r_callS MX10_strength 1 [_] lsX10_235 (hst) rfl rfl (by first | exact Nat.le_of_ble_eq_true rfl | (simp [zcat_rf, Value.category]; done)) (by omega) (Nat.le_of_eq (Nat.zero_add _)) (Nat.le_of_eq (Nat.zero_add _)) dX10_readSum_190 rfl (fun v_ w_ sg_ hq_ => ?_)
            obtain ⟨rfl, rfl, rfl⟩ := hq_
            refine r_callV MX10_pour 2 [_, _] lvX10_248 (Or.inr (Or.inl ⟨hm, rfl⟩)) (hp) rfl rfl (by first | exact Nat.le_of_ble_eq_true rfl | (simp [zcat_rf, Value.category]; done)) (by omega) (Nat.le_of_eq (Nat.zero_add _)) (Nat.le_of_eq (Nat.zero_add _)) dX10_readSum_193 rfl (fun v_ w_ sg_ hq_ => ?_)
            obtain ⟨rfl, rfl, p1⟩ := hq_
            obtain ⟨sg1, hsg1⟩ : ∃ y, y = sg_ := ⟨_, rfl⟩
            subst hsg1
            have h2' : wtG sg1 (prW st W) := (h2.ad p1).tl
            obtain ⟨a, a1, a2, a3⟩ := (cuO.wt (i := (prW st W).length) (v := nI x) ((cuO.z (m := 1) h3).ds p1)).inc (fun r hr => by cases hr; simp)
            have a1' : mi sg1 14 = nI a := a1
            refine r_istore_n (ls' := [_, _, _, _, _, _]) dX10_readSum_196 (Nat.le_of_ble_eq_true rfl) rfl rfl ?_
            refine r_aload_n dX10_readSum_197 rfl (zRv_ref _) rfl ?_
            refine m_geta hm 35 23 lfX10_79 rfl (by decide) dX10_readSum_198 rfl ?_
            refine r_iload_n dX10_readSum_201 rfl rfl ?_
            refine r_iload dX10_readSum_202 rfl rfl ?_
            refine m_iast hm 23 _ (by decide) (by decide) rfl rfl (by show _ < 130; omega) dX10_readSum_204 rfl ?_
            refine r_iinc (ls' := [_, _, _, _, _, _]) dX10_readSum_205 (Nat.le_of_ble_eq_true rfl) rfl (zinc1 _) rfl rfl ?_
            refine r_aload_n dX10_readSum_208 rfl (zRv_ref _) rfl ?_
            refine r_dup dX10_readSum_209 (by first | rfl | exact zcat_rf _) rfl ?_
            refine m_getiv hm 14 lfX10_147 rfl (by first | (simp only [zGS, zMS, Nat.reduceEqDiff, OfNat.ofNat_ne_ofNat, false_and, and_false, true_and, and_true, and_self, if_true, if_false, ite_true, ite_false, reduceIte, reduceCtorEq]; first | done | assumption | rfl) | assumption | exact z2_eq | exact z1_eq | (simp [zGS, zMS]; first | done | assumption) | rfl) dX10_readSum_210 rfl ?_
            refine r_iconst dX10_readSum_213 kc_1 rfl ?_
            refine r_iaddN dX10_readSum_214 rfl ?_
            refine m_puti hm 14 lfX10_147 rfl rfl rfl dX10_readSum_215 rfl ?_
            refine r_iconst dX10_readSum_218 kc_1 rfl ?_
            refine r_istore_n (ls' := [_, _, _, _, _, _]) dX10_readSum_219 (Nat.le_of_ble_eq_true rfl) rfl rfl ?_
            refine r_goto (r := 282) dX10_readSum_220 (by decide) ?_
            refine r_goto (r := 9) dX10_readSum_282 (by decide) ?_
            exact K _ _ ⟨(h1.ad p1).wt.mv mvC.m14, (h2'.push s4).mv mvC.m14, a3, by rw [List.length_append, List.length_cons]; omega⟩
        · cases c_110
      · cases c_32
theorem sm_160 (E : ZE) (mo : Nat) (hm : E.2.2.2.2 = some mo) (w : ZW) (sg0 sg1 : ZM) (d f m N dp : Nat) (hd : 2 ≤ d) (W : List Nat) (out : List PStep) (o : Option (List Nat)) (x3 x4 : Value) (x5 : Option Value) (P : ZPhi) (h1 : smG sg0 sg1 N out) (h2 : wtG sg1 W) (h3 : cuO sg1 f m o) (hb : N + out.length + W.length ≤ 126) (hdp : negsN W ≤ dp) (K : ∀ sg', smG sg0 sg' N (out ++ prO 3 W) → wtG sg' (prW 3 W) → cuO sg' f m o → RW E MX10_readSum 9 [some (.ref mo), some (.int (nI (prW 3 W).length)), some (.int (nI (dp - negsN W))), some (.int (zb false)), some x4, x5] [] w sg' d 0 0 P) : RW E MX10_readSum 160 [some (.ref mo), some (.int (nI W.length)), some (.int (nI dp)), some x3, some x4, x5] [] w sg1 d 0 0 P := by
  have hp := q_pour E mo hm w sg1 (d - 1) 3 (N + out.length) (by omega) (by decide) W h2 h1.2.1 (by omega)
  refine r_iload_n dX10_readSum_160 rfl rfl ?_
  refine r_aload_n dX10_readSum_161 rfl (zRv_ref _) rfl ?_
  refine r_iload_n dX10_readSum_162 rfl rfl ?_
  refine r_callV MX10_turned 1 [_] lvX10_245 (Or.inr (Or.inl ⟨hm, rfl⟩)) (q_turned E mo hm w sg1 (d - 1) W (by omega) h2) rfl rfl (by first | exact Nat.le_of_ble_eq_true rfl | (simp [zcat_rf, Value.category]; done)) (by omega) (Nat.le_of_eq (Nat.zero_add _)) (Nat.le_of_eq (Nat.zero_add _)) dX10_readSum_163 rfl (fun v_ w_ sg_ hq_ => ?_)
  obtain ⟨rfl, rfl, rfl⟩ := hq_
  refine r_isubN hdp dX10_readSum_166 rfl ?_
  refine r_istore_n (ls' := [_, _, _, _, _, _]) dX10_readSum_167 (Nat.le_of_ble_eq_true rfl) rfl rfl ?_
  refine r_aload_n dX10_readSum_168 rfl (zRv_ref _) rfl ?_
  refine r_iload_n dX10_readSum_169 rfl rfl ?_
  refine r_iconst dX10_readSum_170 kc_3 rfl ?_
  refine r_callV MX10_pour 2 [_, _] lvX10_248 (Or.inr (Or.inl ⟨hm, rfl⟩)) (hp) rfl rfl (by first | exact Nat.le_of_ble_eq_true rfl | (simp [zcat_rf, Value.category]; done)) (by omega) (Nat.le_of_eq (Nat.zero_add _)) (Nat.le_of_eq (Nat.zero_add _)) dX10_readSum_171 rfl (fun v_ w_ sg_ hq_ => ?_)
  obtain ⟨rfl, rfl, p1⟩ := hq_
  refine r_istore_n (ls' := [_, _, _, _, _, _]) dX10_readSum_174 (Nat.le_of_ble_eq_true rfl) rfl rfl ?_
  refine r_iconst dX10_readSum_175 kc_0 rfl ?_
  refine r_istore_n (ls' := [_, _, _, _, _, _]) dX10_readSum_176 (Nat.le_of_ble_eq_true rfl) rfl rfl ?_
  refine r_goto (r := 282) dX10_readSum_177 (by decide) ?_
  refine r_goto (r := 9) dX10_readSum_282 (by decide) ?_
  exact K _ (h1.ad p1) (h2.ad p1).tl (h3.ds p1)
theorem sm_open (E : ZE) (mo : Nat) (hm : E.2.2.2.2 = some mo) (w : ZW) (sg0 sg : ZM) (d f N c x dp : Nat) (hd : 2 ≤ d) (W r1 : List Nat) (out : List PStep) (x5 : Option Value) (P : ZPhi) (hdp : dp < 100) (hc : (c = 45 ∧ x = 8) ∨ (c = 40 ∧ x = 20)) (h : ssI sg0 sg N f out W (c :: r1)) (Kb : ¬ dp < 6 → sBad E mo w d f sg0 N P) (K : dp < 6 → ∀ sg' s, ssI sg0 sg' N f out (x :: W) r1 → RW E MX10_readSum 9 [some (.ref mo), some (.int (nI (W.length + 1))), some (.int (nI (dp + 1))), some (.int (zb true)), some (.int (zb true)), some s] [] w sg' d 0 0 P) : RW E MX10_readSum 9 [some (.ref mo), some (.int (nI W.length)), some (.int (nI dp)), some (.int (zb true)), some (.int (zb true)), x5] [] w sg d 0 0 P := by
  obtain ⟨h1, h2, h3, h4⟩ := h
  have g0 : mi sg 15 = zb true := (cuO.z (m := 0) h3).g
  have hl : CallQ E MX10_look [.ref mo] w sg (d - 1) 0 0 (fun v w' sg' => v = some (.int (nI c)) ∧ w = w' ∧ sg = sg') := p_look E mo hm w sg (d - 1) f (c :: r1) h3
  have s3 : c < 128 ∧ x < 128 := by omega
  have hlen : (c :: r1).length = r1.length + 1 := List.length_cons
  by_cases hq : dp < 6
  · have hmt := o_must E mo hm w sg (d - 1) f 800 (by decide) true (some (c :: r1)) (cuO.z h3)
    refine r_aload_n dX10_readSum_9 rfl (zRv_ref _) rfl ?_
    refine m_getiv hm 15 lfX10_153 rfl (by first | (simp only [zGS, zMS, Nat.reduceEqDiff, OfNat.ofNat_ne_ofNat, false_and, and_false, true_and, and_true, and_self, if_true, if_false, ite_true, ite_false, reduceIte, reduceCtorEq]; first | done | assumption | rfl) | assumption | exact z2_eq | exact z1_eq | (simp [zGS, zMS]; first | done | assumption) | rfl) dX10_readSum_10 rfl ?_
    refine r_if_eqB (r := 285) dX10_readSum_13 (by decide) rfl (fun c_13 => ?_) (fun c_13 => ?_)
    · cases c_13
    · refine r_iload dX10_readSum_16 rfl rfl ?_
      refine r_if_eqB (r := 285) dX10_readSum_18 (by decide) rfl (fun c_18 => ?_) (fun c_18 => ?_)
      · cases c_18
      · refine r_aload_n dX10_readSum_21 rfl (zRv_ref _) rfl ?_
        refine r_aload_n dX10_readSum_22 rfl (zRv_ref _) rfl ?_
        refine r_callV MX10_look 0 [] lvX10_172 (Or.inr (Or.inl ⟨hm, rfl⟩)) (hl) rfl rfl (by first | exact Nat.le_of_ble_eq_true rfl | (simp [zcat_rf, Value.category]; done)) (by omega) (Nat.le_of_eq (Nat.zero_add _)) (Nat.le_of_eq (Nat.zero_add _)) dX10_readSum_23 rfl (fun v_ w_ sg_ hq_ => ?_)
        obtain ⟨rfl, rfl, rfl⟩ := hq_
        refine r_callV MX10_signOf 1 [_] lvX10_238 (Or.inr (Or.inl ⟨hm, rfl⟩)) (q_signOf E mo w sg (d - 1) c s3.1) rfl rfl (by first | exact Nat.le_of_ble_eq_true rfl | (simp [zcat_rf, Value.category]; done)) (by omega) (Nat.le_of_eq (Nat.zero_add _)) (Nat.le_of_eq (Nat.zero_add _)) dX10_readSum_26 rfl (fun v_ w_ sg_ hq_ => ?_)
        obtain ⟨rfl, rfl, rfl⟩ := hq_
        refine r_istore (ls' := [_, _, _, _, _, _]) dX10_readSum_29 (Nat.le_of_ble_eq_true rfl) rfl rfl ?_
        refine r_iload_n dX10_readSum_31 rfl rfl ?_
        refine r_if_eqB (r := 109) dX10_readSum_32 (by decide) rfl (fun c_32 => ?_) (fun c_32 => ?_)
        · cases c_32
        · refine r_aload_n dX10_readSum_35 rfl (zRv_ref _) rfl ?_
          refine r_callV MX10_look 0 [] lvX10_172 (Or.inr (Or.inl ⟨hm, rfl⟩)) (hl) rfl rfl (by first | exact Nat.le_of_ble_eq_true rfl | (simp [zcat_rf, Value.category]; done)) (by omega) (Nat.le_of_eq (Nat.zero_add _)) (Nat.le_of_eq (Nat.zero_add _)) dX10_readSum_36 rfl (fun v_ w_ sg_ hq_ => ?_)
          obtain ⟨rfl, rfl, rfl⟩ := hq_
          refine r_bipush dX10_readSum_39 kb_45 rfl ?_
          refine r_icmp_eqN (by omega) (by omega) (r := 53) dX10_readSum_41 (by decide) rfl (fun c_41 => ?_) (fun c_41 => ?_)
          · refine r_aload_n dX10_readSum_53 rfl (zRv_ref _) rfl ?_
            refine r_iload_n dX10_readSum_54 rfl rfl ?_
            refine r_bipush dX10_readSum_55 kb_6 rfl ?_
            refine r_icmp_geN (by omega) (by omega) (r := 64) dX10_readSum_57 (by decide) rfl (fun c_57 => ?_) (fun c_57 => ?_)
            · exact absurd c_57 (by omega)
            · refine r_iconst dX10_readSum_60 kc_1 rfl ?_
              refine r_goto (r := 65) dX10_readSum_61 (by decide) ?_
              refine r_callV MX10_must 1 [_] lvX10_180 (Or.inr (Or.inl ⟨hm, rfl⟩)) (hmt) rfl rfl (by first | exact Nat.le_of_ble_eq_true rfl | (simp [zcat_rf, Value.category]; done)) (by omega) (Nat.le_of_eq (Nat.zero_add _)) (Nat.le_of_eq (Nat.zero_add _)) dX10_readSum_65 rfl (fun v_ w_ sg_ hq_ => ?_)
              obtain ⟨rfl, rfl, v1, c1⟩ := hq_
              obtain ⟨sg1, hsg1⟩ : ∃ y, y = sg_ := ⟨_, rfl⟩
              subst hsg1
              have hl1 : CallQ E MX10_look [.ref mo] w sg1 (d - 1) 0 0 (fun v w' sg' => v = some (.int (nI c)) ∧ w = w' ∧ sg1 = sg') := p_look E mo hm w sg1 (d - 1) f (c :: r1) c1
              obtain ⟨a, a1, a2, a3⟩ := (cuO.wt (i := W.length) (v := nI x) (cuO.z (m := 1) (r := c :: r1) c1)).inc (fun r hr => by cases hr; simp)
              have a1' : mi sg1 14 = nI a := a1
              refine r_iinc (ls' := [_, _, _, _, _, _]) dX10_readSum_68 (Nat.le_of_ble_eq_true rfl) rfl (zinc1 _) rfl rfl ?_
              refine r_aload_n dX10_readSum_71 rfl (zRv_ref _) rfl ?_
              refine m_geta hm 35 23 lfX10_79 rfl (by decide) dX10_readSum_72 rfl ?_
              refine r_iload_n dX10_readSum_75 rfl rfl ?_
              refine r_aload_n dX10_readSum_76 rfl (zRv_ref _) rfl ?_
              refine r_callV MX10_look 0 [] lvX10_172 (Or.inr (Or.inl ⟨hm, rfl⟩)) (hl1) rfl rfl (by first | exact Nat.le_of_ble_eq_true rfl | (simp [zcat_rf, Value.category]; done)) (by omega) (Nat.le_of_eq (Nat.zero_add _)) (Nat.le_of_eq (Nat.zero_add _)) dX10_readSum_77 rfl (fun v_ w_ sg_ hq_ => ?_)
              obtain ⟨rfl, rfl, rfl⟩ := hq_
              refine r_bipush dX10_readSum_80 kb_45 rfl ?_
              refine r_icmp_neN (by omega) (by omega) (r := 90) dX10_readSum_82 (by decide) rfl (fun c_82 => ?_) (fun c_82 => ?_)
              · refine r_bipush dX10_readSum_90 kb_20 rfl ?_
                refine m_iast hm 23 _ (by decide) (by decide) rfl rfl (by show _ < 130; omega) dX10_readSum_92 rfl ?_
                refine r_iinc (ls' := [_, _, _, _, _, _]) dX10_readSum_93 (Nat.le_of_ble_eq_true rfl) rfl (zinc1 _) rfl rfl ?_
                refine r_aload_n dX10_readSum_96 rfl (zRv_ref _) rfl ?_
                refine r_dup dX10_readSum_97 (by first | rfl | exact zcat_rf _) rfl ?_
                refine m_getiv hm 14 lfX10_147 rfl (by first | (simp only [zGS, zMS, Nat.reduceEqDiff, OfNat.ofNat_ne_ofNat, false_and, and_false, true_and, and_true, and_self, if_true, if_false, ite_true, ite_false, reduceIte, reduceCtorEq]; first | done | assumption | rfl) | assumption | exact z2_eq | exact z1_eq | (simp [zGS, zMS]; first | done | assumption) | rfl) dX10_readSum_98 rfl ?_
                refine r_iconst dX10_readSum_101 kc_1 rfl ?_
                refine r_iaddN dX10_readSum_102 rfl ?_
                refine m_puti hm 14 lfX10_147 rfl rfl rfl dX10_readSum_103 rfl ?_
                refine r_goto (r := 282) dX10_readSum_106 (by decide) ?_
                refine r_goto (r := 9) dX10_readSum_282 (by decide) ?_
                have hx : x = 20 := by omega
                subst hx
                exact K hq _ _ ⟨(h1.mv v1).wt.mv mvC.m14, ((h2.mv v1).push (by decide)).mv mvC.m14, a3, by rw [List.length_cons]; omega⟩
              · refine r_bipush dX10_readSum_85 kb_8 rfl ?_
                refine r_goto (r := 92) dX10_readSum_87 (by decide) ?_
                refine m_iast hm 23 _ (by decide) (by decide) rfl rfl (by show _ < 130; omega) dX10_readSum_92 rfl ?_
                refine r_iinc (ls' := [_, _, _, _, _, _]) dX10_readSum_93 (Nat.le_of_ble_eq_true rfl) rfl (zinc1 _) rfl rfl ?_
                refine r_aload_n dX10_readSum_96 rfl (zRv_ref _) rfl ?_
                refine r_dup dX10_readSum_97 (by first | rfl | exact zcat_rf _) rfl ?_
                refine m_getiv hm 14 lfX10_147 rfl (by first | (simp only [zGS, zMS, Nat.reduceEqDiff, OfNat.ofNat_ne_ofNat, false_and, and_false, true_and, and_true, and_self, if_true, if_false, ite_true, ite_false, reduceIte, reduceCtorEq]; first | done | assumption | rfl) | assumption | exact z2_eq | exact z1_eq | (simp [zGS, zMS]; first | done | assumption) | rfl) dX10_readSum_98 rfl ?_
                refine r_iconst dX10_readSum_101 kc_1 rfl ?_
                refine r_iaddN dX10_readSum_102 rfl ?_
                refine m_puti hm 14 lfX10_147 rfl rfl rfl dX10_readSum_103 rfl ?_
                refine r_goto (r := 282) dX10_readSum_106 (by decide) ?_
                refine r_goto (r := 9) dX10_readSum_282 (by decide) ?_
                have hx : x = 8 := by omega
                subst hx
                exact K hq _ _ ⟨(h1.mv v1).wt.mv mvC.m14, ((h2.mv v1).push (by decide)).mv mvC.m14, a3, by rw [List.length_cons]; omega⟩
          · refine r_aload_n dX10_readSum_44 rfl (zRv_ref _) rfl ?_
            refine r_callV MX10_look 0 [] lvX10_172 (Or.inr (Or.inl ⟨hm, rfl⟩)) (hl) rfl rfl (by first | exact Nat.le_of_ble_eq_true rfl | (simp [zcat_rf, Value.category]; done)) (by omega) (Nat.le_of_eq (Nat.zero_add _)) (Nat.le_of_eq (Nat.zero_add _)) dX10_readSum_45 rfl (fun v_ w_ sg_ hq_ => ?_)
            obtain ⟨rfl, rfl, rfl⟩ := hq_
            refine r_bipush dX10_readSum_48 kb_40 rfl ?_
            refine r_icmp_neN (by omega) (by omega) (r := 109) dX10_readSum_50 (by decide) rfl (fun c_50 => ?_) (fun c_50 => ?_)
            · exact absurd c_50 (by omega)
            · refine r_aload_n dX10_readSum_53 rfl (zRv_ref _) rfl ?_
              refine r_iload_n dX10_readSum_54 rfl rfl ?_
              refine r_bipush dX10_readSum_55 kb_6 rfl ?_
              refine r_icmp_geN (by omega) (by omega) (r := 64) dX10_readSum_57 (by decide) rfl (fun c_57 => ?_) (fun c_57 => ?_)
              · exact absurd c_57 (by omega)
              · refine r_iconst dX10_readSum_60 kc_1 rfl ?_
                refine r_goto (r := 65) dX10_readSum_61 (by decide) ?_
                refine r_callV MX10_must 1 [_] lvX10_180 (Or.inr (Or.inl ⟨hm, rfl⟩)) (hmt) rfl rfl (by first | exact Nat.le_of_ble_eq_true rfl | (simp [zcat_rf, Value.category]; done)) (by omega) (Nat.le_of_eq (Nat.zero_add _)) (Nat.le_of_eq (Nat.zero_add _)) dX10_readSum_65 rfl (fun v_ w_ sg_ hq_ => ?_)
                obtain ⟨rfl, rfl, v1, c1⟩ := hq_
                obtain ⟨sg1, hsg1⟩ : ∃ y, y = sg_ := ⟨_, rfl⟩
                subst hsg1
                have hl1 : CallQ E MX10_look [.ref mo] w sg1 (d - 1) 0 0 (fun v w' sg' => v = some (.int (nI c)) ∧ w = w' ∧ sg1 = sg') := p_look E mo hm w sg1 (d - 1) f (c :: r1) c1
                obtain ⟨a, a1, a2, a3⟩ := (cuO.wt (i := W.length) (v := nI x) (cuO.z (m := 1) (r := c :: r1) c1)).inc (fun r hr => by cases hr; simp)
                have a1' : mi sg1 14 = nI a := a1
                refine r_iinc (ls' := [_, _, _, _, _, _]) dX10_readSum_68 (Nat.le_of_ble_eq_true rfl) rfl (zinc1 _) rfl rfl ?_
                refine r_aload_n dX10_readSum_71 rfl (zRv_ref _) rfl ?_
                refine m_geta hm 35 23 lfX10_79 rfl (by decide) dX10_readSum_72 rfl ?_
                refine r_iload_n dX10_readSum_75 rfl rfl ?_
                refine r_aload_n dX10_readSum_76 rfl (zRv_ref _) rfl ?_
                refine r_callV MX10_look 0 [] lvX10_172 (Or.inr (Or.inl ⟨hm, rfl⟩)) (hl1) rfl rfl (by first | exact Nat.le_of_ble_eq_true rfl | (simp [zcat_rf, Value.category]; done)) (by omega) (Nat.le_of_eq (Nat.zero_add _)) (Nat.le_of_eq (Nat.zero_add _)) dX10_readSum_77 rfl (fun v_ w_ sg_ hq_ => ?_)
                obtain ⟨rfl, rfl, rfl⟩ := hq_
                refine r_bipush dX10_readSum_80 kb_45 rfl ?_
                refine r_icmp_neN (by omega) (by omega) (r := 90) dX10_readSum_82 (by decide) rfl (fun c_82 => ?_) (fun c_82 => ?_)
                · refine r_bipush dX10_readSum_90 kb_20 rfl ?_
                  refine m_iast hm 23 _ (by decide) (by decide) rfl rfl (by show _ < 130; omega) dX10_readSum_92 rfl ?_
                  refine r_iinc (ls' := [_, _, _, _, _, _]) dX10_readSum_93 (Nat.le_of_ble_eq_true rfl) rfl (zinc1 _) rfl rfl ?_
                  refine r_aload_n dX10_readSum_96 rfl (zRv_ref _) rfl ?_
                  refine r_dup dX10_readSum_97 (by first | rfl | exact zcat_rf _) rfl ?_
                  refine m_getiv hm 14 lfX10_147 rfl (by first | (simp only [zGS, zMS, Nat.reduceEqDiff, OfNat.ofNat_ne_ofNat, false_and, and_false, true_and, and_true, and_self, if_true, if_false, ite_true, ite_false, reduceIte, reduceCtorEq]; first | done | assumption | rfl) | assumption | exact z2_eq | exact z1_eq | (simp [zGS, zMS]; first | done | assumption) | rfl) dX10_readSum_98 rfl ?_
                  refine r_iconst dX10_readSum_101 kc_1 rfl ?_
                  refine r_iaddN dX10_readSum_102 rfl ?_
                  refine m_puti hm 14 lfX10_147 rfl rfl rfl dX10_readSum_103 rfl ?_
                  refine r_goto (r := 282) dX10_readSum_106 (by decide) ?_
                  refine r_goto (r := 9) dX10_readSum_282 (by decide) ?_
                  have hx : x = 20 := by omega
                  subst hx
                  exact K hq _ _ ⟨(h1.mv v1).wt.mv mvC.m14, ((h2.mv v1).push (by decide)).mv mvC.m14, a3, by rw [List.length_cons]; omega⟩
                · refine r_bipush dX10_readSum_85 kb_8 rfl ?_
                  refine r_goto (r := 92) dX10_readSum_87 (by decide) ?_
                  refine m_iast hm 23 _ (by decide) (by decide) rfl rfl (by show _ < 130; omega) dX10_readSum_92 rfl ?_
                  refine r_iinc (ls' := [_, _, _, _, _, _]) dX10_readSum_93 (Nat.le_of_ble_eq_true rfl) rfl (zinc1 _) rfl rfl ?_
                  refine r_aload_n dX10_readSum_96 rfl (zRv_ref _) rfl ?_
                  refine r_dup dX10_readSum_97 (by first | rfl | exact zcat_rf _) rfl ?_
                  refine m_getiv hm 14 lfX10_147 rfl (by first | (simp only [zGS, zMS, Nat.reduceEqDiff, OfNat.ofNat_ne_ofNat, false_and, and_false, true_and, and_true, and_self, if_true, if_false, ite_true, ite_false, reduceIte, reduceCtorEq]; first | done | assumption | rfl) | assumption | exact z2_eq | exact z1_eq | (simp [zGS, zMS]; first | done | assumption) | rfl) dX10_readSum_98 rfl ?_
                  refine r_iconst dX10_readSum_101 kc_1 rfl ?_
                  refine r_iaddN dX10_readSum_102 rfl ?_
                  refine m_puti hm 14 lfX10_147 rfl rfl rfl dX10_readSum_103 rfl ?_
                  refine r_goto (r := 282) dX10_readSum_106 (by decide) ?_
                  refine r_goto (r := 9) dX10_readSum_282 (by decide) ?_
                  have hx : x = 8 := by omega
                  subst hx
                  exact K hq _ _ ⟨(h1.mv v1).wt.mv mvC.m14, ((h2.mv v1).push (by decide)).mv mvC.m14, a3, by rw [List.length_cons]; omega⟩
  · have hmf := o_must E mo hm w sg (d - 1) f 800 (by decide) false (some (c :: r1)) (cuO.z h3)
    refine r_aload_n dX10_readSum_9 rfl (zRv_ref _) rfl ?_
    refine m_getiv hm 15 lfX10_153 rfl (by first | (simp only [zGS, zMS, Nat.reduceEqDiff, OfNat.ofNat_ne_ofNat, false_and, and_false, true_and, and_true, and_self, if_true, if_false, ite_true, ite_false, reduceIte, reduceCtorEq]; first | done | assumption | rfl) | assumption | exact z2_eq | exact z1_eq | (simp [zGS, zMS]; first | done | assumption) | rfl) dX10_readSum_10 rfl ?_
    refine r_if_eqB (r := 285) dX10_readSum_13 (by decide) rfl (fun c_13 => ?_) (fun c_13 => ?_)
    · cases c_13
    · refine r_iload dX10_readSum_16 rfl rfl ?_
      refine r_if_eqB (r := 285) dX10_readSum_18 (by decide) rfl (fun c_18 => ?_) (fun c_18 => ?_)
      · cases c_18
      · refine r_aload_n dX10_readSum_21 rfl (zRv_ref _) rfl ?_
        refine r_aload_n dX10_readSum_22 rfl (zRv_ref _) rfl ?_
        refine r_callV MX10_look 0 [] lvX10_172 (Or.inr (Or.inl ⟨hm, rfl⟩)) (hl) rfl rfl (by first | exact Nat.le_of_ble_eq_true rfl | (simp [zcat_rf, Value.category]; done)) (by omega) (Nat.le_of_eq (Nat.zero_add _)) (Nat.le_of_eq (Nat.zero_add _)) dX10_readSum_23 rfl (fun v_ w_ sg_ hq_ => ?_)
        obtain ⟨rfl, rfl, rfl⟩ := hq_
        refine r_callV MX10_signOf 1 [_] lvX10_238 (Or.inr (Or.inl ⟨hm, rfl⟩)) (q_signOf E mo w sg (d - 1) c s3.1) rfl rfl (by first | exact Nat.le_of_ble_eq_true rfl | (simp [zcat_rf, Value.category]; done)) (by omega) (Nat.le_of_eq (Nat.zero_add _)) (Nat.le_of_eq (Nat.zero_add _)) dX10_readSum_26 rfl (fun v_ w_ sg_ hq_ => ?_)
        obtain ⟨rfl, rfl, rfl⟩ := hq_
        refine r_istore (ls' := [_, _, _, _, _, _]) dX10_readSum_29 (Nat.le_of_ble_eq_true rfl) rfl rfl ?_
        refine r_iload_n dX10_readSum_31 rfl rfl ?_
        refine r_if_eqB (r := 109) dX10_readSum_32 (by decide) rfl (fun c_32 => ?_) (fun c_32 => ?_)
        · cases c_32
        · refine r_aload_n dX10_readSum_35 rfl (zRv_ref _) rfl ?_
          refine r_callV MX10_look 0 [] lvX10_172 (Or.inr (Or.inl ⟨hm, rfl⟩)) (hl) rfl rfl (by first | exact Nat.le_of_ble_eq_true rfl | (simp [zcat_rf, Value.category]; done)) (by omega) (Nat.le_of_eq (Nat.zero_add _)) (Nat.le_of_eq (Nat.zero_add _)) dX10_readSum_36 rfl (fun v_ w_ sg_ hq_ => ?_)
          obtain ⟨rfl, rfl, rfl⟩ := hq_
          refine r_bipush dX10_readSum_39 kb_45 rfl ?_
          refine r_icmp_eqN (by omega) (by omega) (r := 53) dX10_readSum_41 (by decide) rfl (fun c_41 => ?_) (fun c_41 => ?_)
          · refine r_aload_n dX10_readSum_53 rfl (zRv_ref _) rfl ?_
            refine r_iload_n dX10_readSum_54 rfl rfl ?_
            refine r_bipush dX10_readSum_55 kb_6 rfl ?_
            refine r_icmp_geN (by omega) (by omega) (r := 64) dX10_readSum_57 (by decide) rfl (fun c_57 => ?_) (fun c_57 => ?_)
            · refine r_iconst dX10_readSum_64 kc_0 rfl ?_
              refine r_callV MX10_must 1 [_] lvX10_180 (Or.inr (Or.inl ⟨hm, rfl⟩)) (hmf) rfl rfl (by first | exact Nat.le_of_ble_eq_true rfl | (simp [zcat_rf, Value.category]; done)) (by omega) (Nat.le_of_eq (Nat.zero_add _)) (Nat.le_of_eq (Nat.zero_add _)) dX10_readSum_65 rfl (fun v_ w_ sg_ hq_ => ?_)
              obtain ⟨rfl, rfl, v1, c1⟩ := hq_
              obtain ⟨sg1, hsg1⟩ : ∃ y, y = sg_ := ⟨_, rfl⟩
              subst hsg1
              have c1' : cuO sg1 f 800 none := c1
              obtain ⟨a, a1, a2, -⟩ := (c1'.mono (m' := 799 + 1) (by decide)).inc (fun r hr => by cases hr)
              have a1' : mi sg1 14 = nI a := a1
              refine r_iinc (ls' := [_, _, _, _, _, _]) dX10_readSum_68 (Nat.le_of_ble_eq_true rfl) rfl (zinc1 _) rfl rfl ?_
              refine r_aload_n dX10_readSum_71 rfl (zRv_ref _) rfl ?_
              refine m_geta hm 35 23 lfX10_79 rfl (by decide) dX10_readSum_72 rfl ?_
              refine r_iload_n dX10_readSum_75 rfl rfl ?_
              refine r_aload_n dX10_readSum_76 rfl (zRv_ref _) rfl ?_
              refine r_callV MX10_look 0 [] lvX10_172 (Or.inr (Or.inl ⟨hm, rfl⟩)) (o_look E mo hm w sg1 (d - 1) f 800 none c1') rfl rfl (by first | exact Nat.le_of_ble_eq_true rfl | (simp [zcat_rf, Value.category]; done)) (by omega) (Nat.le_of_eq (Nat.zero_add _)) (Nat.le_of_eq (Nat.zero_add _)) dX10_readSum_77 rfl (fun v_ w_ sg_ hq_ => ?_)
              obtain ⟨c2, rfl, l2, -, rfl, rfl⟩ := hq_
              refine r_bipush dX10_readSum_80 kb_45 rfl ?_
              refine r_icmp_neN (by omega) (by omega) (r := 90) dX10_readSum_82 (by decide) rfl (fun c_82 => ?_) (fun c_82 => ?_)
              · refine r_bipush dX10_readSum_90 kb_20 rfl ?_
                refine m_iast hm 23 _ (by decide) (by decide) rfl rfl (by show _ < 130; omega) dX10_readSum_92 rfl ?_
                refine r_iinc (ls' := [_, _, _, _, _, _]) dX10_readSum_93 (Nat.le_of_ble_eq_true rfl) rfl (zinc1 _) rfl rfl ?_
                refine r_aload_n dX10_readSum_96 rfl (zRv_ref _) rfl ?_
                refine r_dup dX10_readSum_97 (by first | rfl | exact zcat_rf _) rfl ?_
                refine m_getiv hm 14 lfX10_147 rfl (by first | (simp only [zGS, zMS, Nat.reduceEqDiff, OfNat.ofNat_ne_ofNat, false_and, and_false, true_and, and_true, and_self, if_true, if_false, ite_true, ite_false, reduceIte, reduceCtorEq]; first | done | assumption | rfl) | assumption | exact z2_eq | exact z1_eq | (simp [zGS, zMS]; first | done | assumption) | rfl) dX10_readSum_98 rfl ?_
                refine r_iconst dX10_readSum_101 kc_1 rfl ?_
                refine r_iaddN dX10_readSum_102 rfl ?_
                refine m_puti hm 14 lfX10_147 rfl rfl rfl dX10_readSum_103 rfl ?_
                refine r_goto (r := 282) dX10_readSum_106 (by decide) ?_
                refine r_goto (r := 9) dX10_readSum_282 (by decide) ?_
                obtain ⟨a9, b1, b2, a3⟩ := (cuO.wt (i := W.length) (v := nI 20) (c1'.mono (m' := 799 + 1) (by decide))).inc (fun r hr => by cases hr)
                have e9 : nI a9 = nI a := b1.symm.trans a1
                rw [← nI_add, e9, nI_add] at a3
                exact sm_9b E mo hm w _ d _ _ _ _ _ P a3.g (Kb hq _ (20 :: W) none out _ _ _ _ ((h1.mv v1).wt.mv mvC.m14) (((h2.mv v1).push (by decide)).mv mvC.m14) (by rw [List.length_cons]; omega) (a3.mono (by decide)) (Or.inl rfl))
              · refine r_bipush dX10_readSum_85 kb_8 rfl ?_
                refine r_goto (r := 92) dX10_readSum_87 (by decide) ?_
                refine m_iast hm 23 _ (by decide) (by decide) rfl rfl (by show _ < 130; omega) dX10_readSum_92 rfl ?_
                refine r_iinc (ls' := [_, _, _, _, _, _]) dX10_readSum_93 (Nat.le_of_ble_eq_true rfl) rfl (zinc1 _) rfl rfl ?_
                refine r_aload_n dX10_readSum_96 rfl (zRv_ref _) rfl ?_
                refine r_dup dX10_readSum_97 (by first | rfl | exact zcat_rf _) rfl ?_
                refine m_getiv hm 14 lfX10_147 rfl (by first | (simp only [zGS, zMS, Nat.reduceEqDiff, OfNat.ofNat_ne_ofNat, false_and, and_false, true_and, and_true, and_self, if_true, if_false, ite_true, ite_false, reduceIte, reduceCtorEq]; first | done | assumption | rfl) | assumption | exact z2_eq | exact z1_eq | (simp [zGS, zMS]; first | done | assumption) | rfl) dX10_readSum_98 rfl ?_
                refine r_iconst dX10_readSum_101 kc_1 rfl ?_
                refine r_iaddN dX10_readSum_102 rfl ?_
                refine m_puti hm 14 lfX10_147 rfl rfl rfl dX10_readSum_103 rfl ?_
                refine r_goto (r := 282) dX10_readSum_106 (by decide) ?_
                refine r_goto (r := 9) dX10_readSum_282 (by decide) ?_
                obtain ⟨a9, b1, b2, a3⟩ := (cuO.wt (i := W.length) (v := nI 8) (c1'.mono (m' := 799 + 1) (by decide))).inc (fun r hr => by cases hr)
                have e9 : nI a9 = nI a := b1.symm.trans a1
                rw [← nI_add, e9, nI_add] at a3
                exact sm_9b E mo hm w _ d _ _ _ _ _ P a3.g (Kb hq _ (8 :: W) none out _ _ _ _ ((h1.mv v1).wt.mv mvC.m14) (((h2.mv v1).push (by decide)).mv mvC.m14) (by rw [List.length_cons]; omega) (a3.mono (by decide)) (Or.inl rfl))
            · exact absurd c_57 (by omega)
          · refine r_aload_n dX10_readSum_44 rfl (zRv_ref _) rfl ?_
            refine r_callV MX10_look 0 [] lvX10_172 (Or.inr (Or.inl ⟨hm, rfl⟩)) (hl) rfl rfl (by first | exact Nat.le_of_ble_eq_true rfl | (simp [zcat_rf, Value.category]; done)) (by omega) (Nat.le_of_eq (Nat.zero_add _)) (Nat.le_of_eq (Nat.zero_add _)) dX10_readSum_45 rfl (fun v_ w_ sg_ hq_ => ?_)
            obtain ⟨rfl, rfl, rfl⟩ := hq_
            refine r_bipush dX10_readSum_48 kb_40 rfl ?_
            refine r_icmp_neN (by omega) (by omega) (r := 109) dX10_readSum_50 (by decide) rfl (fun c_50 => ?_) (fun c_50 => ?_)
            · exact absurd c_50 (by omega)
            · refine r_aload_n dX10_readSum_53 rfl (zRv_ref _) rfl ?_
              refine r_iload_n dX10_readSum_54 rfl rfl ?_
              refine r_bipush dX10_readSum_55 kb_6 rfl ?_
              refine r_icmp_geN (by omega) (by omega) (r := 64) dX10_readSum_57 (by decide) rfl (fun c_57 => ?_) (fun c_57 => ?_)
              · refine r_iconst dX10_readSum_64 kc_0 rfl ?_
                refine r_callV MX10_must 1 [_] lvX10_180 (Or.inr (Or.inl ⟨hm, rfl⟩)) (hmf) rfl rfl (by first | exact Nat.le_of_ble_eq_true rfl | (simp [zcat_rf, Value.category]; done)) (by omega) (Nat.le_of_eq (Nat.zero_add _)) (Nat.le_of_eq (Nat.zero_add _)) dX10_readSum_65 rfl (fun v_ w_ sg_ hq_ => ?_)
                obtain ⟨rfl, rfl, v1, c1⟩ := hq_
                obtain ⟨sg1, hsg1⟩ : ∃ y, y = sg_ := ⟨_, rfl⟩
                subst hsg1
                have c1' : cuO sg1 f 800 none := c1
                obtain ⟨a, a1, a2, -⟩ := (c1'.mono (m' := 799 + 1) (by decide)).inc (fun r hr => by cases hr)
                have a1' : mi sg1 14 = nI a := a1
                refine r_iinc (ls' := [_, _, _, _, _, _]) dX10_readSum_68 (Nat.le_of_ble_eq_true rfl) rfl (zinc1 _) rfl rfl ?_
                refine r_aload_n dX10_readSum_71 rfl (zRv_ref _) rfl ?_
                refine m_geta hm 35 23 lfX10_79 rfl (by decide) dX10_readSum_72 rfl ?_
                refine r_iload_n dX10_readSum_75 rfl rfl ?_
                refine r_aload_n dX10_readSum_76 rfl (zRv_ref _) rfl ?_
                refine r_callV MX10_look 0 [] lvX10_172 (Or.inr (Or.inl ⟨hm, rfl⟩)) (o_look E mo hm w sg1 (d - 1) f 800 none c1') rfl rfl (by first | exact Nat.le_of_ble_eq_true rfl | (simp [zcat_rf, Value.category]; done)) (by omega) (Nat.le_of_eq (Nat.zero_add _)) (Nat.le_of_eq (Nat.zero_add _)) dX10_readSum_77 rfl (fun v_ w_ sg_ hq_ => ?_)
                obtain ⟨c2, rfl, l2, -, rfl, rfl⟩ := hq_
                refine r_bipush dX10_readSum_80 kb_45 rfl ?_
                refine r_icmp_neN (by omega) (by omega) (r := 90) dX10_readSum_82 (by decide) rfl (fun c_82 => ?_) (fun c_82 => ?_)
                · refine r_bipush dX10_readSum_90 kb_20 rfl ?_
                  refine m_iast hm 23 _ (by decide) (by decide) rfl rfl (by show _ < 130; omega) dX10_readSum_92 rfl ?_
                  refine r_iinc (ls' := [_, _, _, _, _, _]) dX10_readSum_93 (Nat.le_of_ble_eq_true rfl) rfl (zinc1 _) rfl rfl ?_
                  refine r_aload_n dX10_readSum_96 rfl (zRv_ref _) rfl ?_
                  refine r_dup dX10_readSum_97 (by first | rfl | exact zcat_rf _) rfl ?_
                  refine m_getiv hm 14 lfX10_147 rfl (by first | (simp only [zGS, zMS, Nat.reduceEqDiff, OfNat.ofNat_ne_ofNat, false_and, and_false, true_and, and_true, and_self, if_true, if_false, ite_true, ite_false, reduceIte, reduceCtorEq]; first | done | assumption | rfl) | assumption | exact z2_eq | exact z1_eq | (simp [zGS, zMS]; first | done | assumption) | rfl) dX10_readSum_98 rfl ?_
                  refine r_iconst dX10_readSum_101 kc_1 rfl ?_
                  refine r_iaddN dX10_readSum_102 rfl ?_
                  refine m_puti hm 14 lfX10_147 rfl rfl rfl dX10_readSum_103 rfl ?_
                  refine r_goto (r := 282) dX10_readSum_106 (by decide) ?_
                  refine r_goto (r := 9) dX10_readSum_282 (by decide) ?_
                  obtain ⟨a9, b1, b2, a3⟩ := (cuO.wt (i := W.length) (v := nI 20) (c1'.mono (m' := 799 + 1) (by decide))).inc (fun r hr => by cases hr)
                  have e9 : nI a9 = nI a := b1.symm.trans a1
                  rw [← nI_add, e9, nI_add] at a3
                  exact sm_9b E mo hm w _ d _ _ _ _ _ P a3.g (Kb hq _ (20 :: W) none out _ _ _ _ ((h1.mv v1).wt.mv mvC.m14) (((h2.mv v1).push (by decide)).mv mvC.m14) (by rw [List.length_cons]; omega) (a3.mono (by decide)) (Or.inl rfl))
                · refine r_bipush dX10_readSum_85 kb_8 rfl ?_
                  refine r_goto (r := 92) dX10_readSum_87 (by decide) ?_
                  refine m_iast hm 23 _ (by decide) (by decide) rfl rfl (by show _ < 130; omega) dX10_readSum_92 rfl ?_
                  refine r_iinc (ls' := [_, _, _, _, _, _]) dX10_readSum_93 (Nat.le_of_ble_eq_true rfl) rfl (zinc1 _) rfl rfl ?_
                  refine r_aload_n dX10_readSum_96 rfl (zRv_ref _) rfl ?_
                  refine r_dup dX10_readSum_97 (by first | rfl | exact zcat_rf _) rfl ?_
                  refine m_getiv hm 14 lfX10_147 rfl (by first | (simp only [zGS, zMS, Nat.reduceEqDiff, OfNat.ofNat_ne_ofNat, false_and, and_false, true_and, and_true, and_self, if_true, if_false, ite_true, ite_false, reduceIte, reduceCtorEq]; first | done | assumption | rfl) | assumption | exact z2_eq | exact z1_eq | (simp [zGS, zMS]; first | done | assumption) | rfl) dX10_readSum_98 rfl ?_
                  refine r_iconst dX10_readSum_101 kc_1 rfl ?_
                  refine r_iaddN dX10_readSum_102 rfl ?_
                  refine m_puti hm 14 lfX10_147 rfl rfl rfl dX10_readSum_103 rfl ?_
                  refine r_goto (r := 282) dX10_readSum_106 (by decide) ?_
                  refine r_goto (r := 9) dX10_readSum_282 (by decide) ?_
                  obtain ⟨a9, b1, b2, a3⟩ := (cuO.wt (i := W.length) (v := nI 8) (c1'.mono (m' := 799 + 1) (by decide))).inc (fun r hr => by cases hr)
                  have e9 : nI a9 = nI a := b1.symm.trans a1
                  rw [← nI_add, e9, nI_add] at a3
                  exact sm_9b E mo hm w _ d _ _ _ _ _ P a3.g (Kb hq _ (8 :: W) none out _ _ _ _ ((h1.mv v1).wt.mv mvC.m14) (((h2.mv v1).push (by decide)).mv mvC.m14) (by rw [List.length_cons]; omega) (a3.mono (by decide)) (Or.inl rfl))
              · exact absurd c_57 (by omega)
theorem sm_close (E : ZE) (mo : Nat) (hm : E.2.2.2.2 = some mo) (w : ZW) (sg0 sg : ZM) (d f N dp : Nat) (hd : 2 ≤ d) (W Pd W2 r1 : List Nat) (out : List PStep) (x5 : Option Value) (P : ZPhi) (hW : W = Pd ++ 20 :: W2) (hPd : ∀ x ∈ Pd, 1 ≤ strN x) (h : ssI sg0 sg N f out W (41 :: r1)) (hdp : 1 + negsN W2 ≤ dp) (K : ∀ sg' s, ssI sg0 sg' N f (out ++ Pd.map z0S ++ prO 3 W2) (prW 3 W2) r1 → RW E MX10_readSum 9 [some (.ref mo), some (.int (nI (prW 3 W2).length)), some (.int (nI (dp - (1 + negsN W2)))), some (.int (zb false)), some (.int (zb true)), some s] [] w sg' d 0 0 P) : RW E MX10_readSum 9 [some (.ref mo), some (.int (nI W.length)), some (.int (nI dp)), some (.int (zb false)), some (.int (zb true)), x5] [] w sg d 0 0 P := by
  obtain ⟨h1, h2, h3, h4⟩ := h
  have g0 : mi sg 15 = zb true := (cuO.z (m := 0) h3).g
  have hl : CallQ E MX10_look [.ref mo] w sg (d - 1) 0 0 (fun v w' sg' => v = some (.int (nI 41)) ∧ w = w' ∧ sg = sg') := p_look E mo hm w sg (d - 1) f (41 :: r1) h3
  have hlen : (41 :: r1).length = r1.length + 1 := List.length_cons
  have hWl : W.length = Pd.length + (W2.length + 1) := by rw [hW, List.length_append, List.length_cons]
  have hio := q_isOpen E mo hm w sg (d - 1) W (by omega) h2
  rw [decide_eq_true (show 20 ∈ W by rw [hW]; simp)] at hio
  obtain ⟨e1, e2⟩ := pr_app (s := 1) (B := 20 :: W2) (show strN 20 < 1 by decide) hPd
  rw [← hW] at e1 e2
  obtain ⟨a, a1, a2, a3⟩ := (cuO.z (m := 1) h3).inc (fun r hr => by cases hr; simp)
  obtain ⟨sgA, hA⟩ : ∃ y, y = msi sg 14 (nI (a + 1)) := ⟨_, rfl⟩
  have vA : mvC sg sgA := by rw [hA]; exact mvC.m14
  rw [← hA] at a3
  have hp := q_pour E mo hm w sgA (d - 1) 1 (N + out.length) (by omega) (by decide) W (h2.mv vA) (h1.mv vA).2.1 (by omega)
  rw [e1, e2, List.length_cons] at hp
  refine r_aload_n dX10_readSum_9 rfl (zRv_ref _) rfl ?_
  refine m_getiv hm 15 lfX10_153 rfl (by first | (simp only [zGS, zMS, Nat.reduceEqDiff, OfNat.ofNat_ne_ofNat, false_and, and_false, true_and, and_true, and_self, if_true, if_false, ite_true, ite_false, reduceIte, reduceCtorEq]; first | done | assumption | rfl) | assumption | exact z2_eq | exact z1_eq | (simp [zGS, zMS]; first | done | assumption) | rfl) dX10_readSum_10 rfl ?_
  refine r_if_eqB (r := 285) dX10_readSum_13 (by decide) rfl (fun c_13 => ?_) (fun c_13 => ?_)
  · cases c_13
  · refine r_iload dX10_readSum_16 rfl rfl ?_
    refine r_if_eqB (r := 285) dX10_readSum_18 (by decide) rfl (fun c_18 => ?_) (fun c_18 => ?_)
    · cases c_18
    · refine r_aload_n dX10_readSum_21 rfl (zRv_ref _) rfl ?_
      refine r_aload_n dX10_readSum_22 rfl (zRv_ref _) rfl ?_
      refine r_callV MX10_look 0 [] lvX10_172 (Or.inr (Or.inl ⟨hm, rfl⟩)) (hl) rfl rfl (by first | exact Nat.le_of_ble_eq_true rfl | (simp [zcat_rf, Value.category]; done)) (by omega) (Nat.le_of_eq (Nat.zero_add _)) (Nat.le_of_eq (Nat.zero_add _)) dX10_readSum_23 rfl (fun v_ w_ sg_ hq_ => ?_)
      obtain ⟨rfl, rfl, rfl⟩ := hq_
      refine r_callV MX10_signOf 1 [_] lvX10_238 (Or.inr (Or.inl ⟨hm, rfl⟩)) (q_signOf E mo w sg (d - 1) 41 (by decide)) rfl rfl (by first | exact Nat.le_of_ble_eq_true rfl | (simp [zcat_rf, Value.category]; done)) (by omega) (Nat.le_of_eq (Nat.zero_add _)) (Nat.le_of_eq (Nat.zero_add _)) dX10_readSum_26 rfl (fun v_ w_ sg_ hq_ => ?_)
      obtain ⟨rfl, rfl, rfl⟩ := hq_
      rw [show sgnI 41 = -1 by decide]
      refine r_istore (ls' := [_, _, _, _, _, _]) dX10_readSum_29 (Nat.le_of_ble_eq_true rfl) rfl rfl ?_
      refine r_iload_n dX10_readSum_31 rfl rfl ?_
      refine r_if_eqB (r := 109) dX10_readSum_32 (by decide) rfl (fun c_32 => ?_) (fun c_32 => ?_)
      · refine r_iload_n dX10_readSum_109 rfl rfl ?_
        refine r_if_eqB (r := 180) dX10_readSum_110 (by decide) rfl (fun c_110 => ?_) (fun c_110 => ?_)
        · refine r_iload dX10_readSum_180 rfl rfl ?_
          refine r_iconst dX10_readSum_182 kc_m1 rfl ?_
          refine r_icmp_eq (r := 223) dX10_readSum_183 (by decide) rfl (fun c_183 => ?_) (fun c_183 => ?_)
          · refine r_aload_n dX10_readSum_223 rfl (zRv_ref _) rfl ?_
            refine r_callV MX10_look 0 [] lvX10_172 (Or.inr (Or.inl ⟨hm, rfl⟩)) (hl) rfl rfl (by first | exact Nat.le_of_ble_eq_true rfl | (simp [zcat_rf, Value.category]; done)) (by omega) (Nat.le_of_eq (Nat.zero_add _)) (Nat.le_of_eq (Nat.zero_add _)) dX10_readSum_224 rfl (fun v_ w_ sg_ hq_ => ?_)
            obtain ⟨rfl, rfl, rfl⟩ := hq_
            refine r_bipush dX10_readSum_227 kb_41 rfl ?_
            refine r_icmp_neN (by omega) (by omega) (r := 279) dX10_readSum_229 (by decide) rfl (fun c_229 => ?_) (fun c_229 => ?_)
            · exact absurd rfl c_229
            · refine r_aload_n dX10_readSum_232 rfl (zRv_ref _) rfl ?_
              refine r_iload_n dX10_readSum_233 rfl rfl ?_
              refine r_callV MX10_isOpen 1 [_] lvX10_252 (Or.inr (Or.inl ⟨hm, rfl⟩)) (hio) rfl rfl (by first | exact Nat.le_of_ble_eq_true rfl | (simp [zcat_rf, Value.category]; done)) (by omega) (Nat.le_of_eq (Nat.zero_add _)) (Nat.le_of_eq (Nat.zero_add _)) dX10_readSum_234 rfl (fun v_ w_ sg_ hq_ => ?_)
              obtain ⟨rfl, rfl, rfl⟩ := hq_
              refine r_if_eqB (r := 279) dX10_readSum_237 (by decide) rfl (fun c_237 => ?_) (fun c_237 => ?_)
              · cases c_237
              · refine r_aload_n dX10_readSum_240 rfl (zRv_ref _) rfl ?_
                refine r_dup dX10_readSum_241 (by first | rfl | exact zcat_rf _) rfl ?_
                refine m_getiv hm 14 lfX10_147 rfl (by first | (simp only [zGS, zMS, Nat.reduceEqDiff, OfNat.ofNat_ne_ofNat, false_and, and_false, true_and, and_true, and_self, if_true, if_false, ite_true, ite_false, reduceIte, reduceCtorEq]; first | done | assumption | rfl) | assumption | exact z2_eq | exact z1_eq | (simp [zGS, zMS]; first | done | assumption) | rfl) dX10_readSum_242 rfl ?_
                refine r_iconst dX10_readSum_245 kc_1 rfl ?_
                refine r_iaddN dX10_readSum_246 rfl ?_
                refine m_puti hm 14 lfX10_147 rfl rfl rfl dX10_readSum_247 rfl ?_
                rw [← hA]
                refine r_aload_n dX10_readSum_250 rfl (zRv_ref _) rfl ?_
                refine r_iload_n dX10_readSum_251 rfl rfl ?_
                refine r_iconst dX10_readSum_252 kc_1 rfl ?_
                refine r_callV MX10_pour 2 [_, _] lvX10_248 (Or.inr (Or.inl ⟨hm, rfl⟩)) (hp) rfl rfl (by first | exact Nat.le_of_ble_eq_true rfl | (simp [zcat_rf, Value.category]; done)) (by omega) (Nat.le_of_eq (Nat.zero_add _)) (Nat.le_of_eq (Nat.zero_add _)) dX10_readSum_253 rfl (fun v_ w_ sg_ hq_ => ?_)
                obtain ⟨rfl, rfl, p1⟩ := hq_
                obtain ⟨sg1, hsg1⟩ : ∃ y, y = sg_ := ⟨_, rfl⟩
                subst hsg1
                have h2' : wtG sg1 (20 :: W2) := by rw [← e2]; exact ((h2.mv vA).ad p1).tl
                have h1' := (h1.mv vA).ad p1
                have h32 := h1'.2.1
                rw [List.length_append, List.length_map] at h32
                have hp2 := q_pour E mo hm w sg1 (d - 1) 3 (N + (out.length + Pd.length)) (by omega) (by decide) W2 h2'.2.2 h32 (by omega)
                refine r_iconst dX10_readSum_256 kc_1 rfl ?_
                refine r_isubN (by omega) dX10_readSum_257 rfl ?_
                rw [Nat.add_sub_cancel]
                refine r_istore_n (ls' := [_, _, _, _, _, _]) dX10_readSum_258 (Nat.le_of_ble_eq_true rfl) rfl rfl ?_
                refine r_iload_n dX10_readSum_259 rfl rfl ?_
                refine r_iconst dX10_readSum_260 kc_1 rfl ?_
                refine r_aload_n dX10_readSum_261 rfl (zRv_ref _) rfl ?_
                refine r_iload_n dX10_readSum_262 rfl rfl ?_
                refine r_callV MX10_turned 1 [_] lvX10_245 (Or.inr (Or.inl ⟨hm, rfl⟩)) (q_turned E mo hm w sg1 (d - 1) W2 (by omega) h2'.2.2) rfl rfl (by first | exact Nat.le_of_ble_eq_true rfl | (simp [zcat_rf, Value.category]; done)) (by omega) (Nat.le_of_eq (Nat.zero_add _)) (Nat.le_of_eq (Nat.zero_add _)) dX10_readSum_263 rfl (fun v_ w_ sg_ hq_ => ?_)
                obtain ⟨rfl, rfl, rfl⟩ := hq_
                refine r_iaddN dX10_readSum_266 rfl ?_
                refine r_isubN hdp dX10_readSum_267 rfl ?_
                refine r_istore_n (ls' := [_, _, _, _, _, _]) dX10_readSum_268 (Nat.le_of_ble_eq_true rfl) rfl rfl ?_
                refine r_aload_n dX10_readSum_269 rfl (zRv_ref _) rfl ?_
                refine r_iload_n dX10_readSum_270 rfl rfl ?_
                refine r_iconst dX10_readSum_271 kc_3 rfl ?_
                refine r_callV MX10_pour 2 [_, _] lvX10_248 (Or.inr (Or.inl ⟨hm, rfl⟩)) (hp2) rfl rfl (by first | exact Nat.le_of_ble_eq_true rfl | (simp [zcat_rf, Value.category]; done)) (by omega) (Nat.le_of_eq (Nat.zero_add _)) (Nat.le_of_eq (Nat.zero_add _)) dX10_readSum_272 rfl (fun v_ w_ sg_ hq_ => ?_)
                obtain ⟨rfl, rfl, p2⟩ := hq_
                have hpl := pr_len 3 W2
                refine r_istore_n (ls' := [_, _, _, _, _, _]) dX10_readSum_275 (Nat.le_of_ble_eq_true rfl) rfl rfl ?_
                refine r_goto (r := 282) dX10_readSum_276 (by decide) ?_
                refine r_goto (r := 9) dX10_readSum_282 (by decide) ?_
                refine K _ _ ⟨h1'.ad (by rw [List.length_append, List.length_map]; exact p2), (h2'.2.2.ad p2).tl, ((cuO.ds (m := 0) a3 p1).ds p2), ?_⟩
                rw [List.length_append, List.length_append, List.length_map]
                omega
          · exact absurd rfl c_183
        · cases c_110
      · cases c_32
theorem sm_stop (E : ZE) (mo : Nat) (hm : E.2.2.2.2 = some mo) (w : ZW) (sg : ZM) (d f : Nat) (hd : 2 ≤ d) (W r : List Nat) (x2 : Value) (x5 : Option Value) (P : ZPhi) (h2 : wtG sg W) (hW : W.length ≤ 130) (h3 : cuG sg f r) (n1 : hdN r ≠ 43) (n2 : hdN r ≠ 45) (n3 : hdN r ≠ 42) (n4 : hdN r ≠ 47) (n5 : hdN r ≠ 41 ∨ ¬ 20 ∈ W) (K : ∀ s, RW E MX10_readSum 285 [some (.ref mo), some (.int (nI W.length)), some x2, some (.int (zb false)), some (.int (zb false)), some s] [] w sg d 0 0 P) : RW E MX10_readSum 9 [some (.ref mo), some (.int (nI W.length)), some x2, some (.int (zb false)), some (.int (zb true)), x5] [] w sg d 0 0 P := by
  have g0 : mi sg 15 = zb true := (cuO.z (m := 0) h3).g
  have hl := p_look E mo hm w sg (d - 1) f r h3
  have h7 : hdN r < 128 := by
    obtain ⟨a, -, -, -, -, -, -, h7⟩ := h3
    cases r with
    | nil => exact (by decide : 0 < 128)
    | cons c r => exact (h7 c List.mem_cons_self).2
  have hs : sgnI (hdN r) = -1 := by unfold sgnI; rw [if_neg n1, if_neg n2, if_neg n3, if_neg n4]
  have hio := q_isOpen E mo hm w sg (d - 1) W hW h2
  by_cases h41 : hdN r = 41
  · have hno : ¬ 20 ∈ W := n5.elim (fun q => absurd h41 q) id
    rw [decide_eq_false hno] at hio
    refine r_aload_n dX10_readSum_9 rfl (zRv_ref _) rfl ?_
    refine m_getiv hm 15 lfX10_153 rfl (by first | (simp only [zGS, zMS, Nat.reduceEqDiff, OfNat.ofNat_ne_ofNat, false_and, and_false, true_and, and_true, and_self, if_true, if_false, ite_true, ite_false, reduceIte, reduceCtorEq]; first | done | assumption | rfl) | assumption | exact z2_eq | exact z1_eq | (simp [zGS, zMS]; first | done | assumption) | rfl) dX10_readSum_10 rfl ?_
    refine r_if_eqB (r := 285) dX10_readSum_13 (by decide) rfl (fun c_13 => ?_) (fun c_13 => ?_)
    · cases c_13
    · refine r_iload dX10_readSum_16 rfl rfl ?_
      refine r_if_eqB (r := 285) dX10_readSum_18 (by decide) rfl (fun c_18 => ?_) (fun c_18 => ?_)
      · cases c_18
      · refine r_aload_n dX10_readSum_21 rfl (zRv_ref _) rfl ?_
        refine r_aload_n dX10_readSum_22 rfl (zRv_ref _) rfl ?_
        refine r_callV MX10_look 0 [] lvX10_172 (Or.inr (Or.inl ⟨hm, rfl⟩)) (hl) rfl rfl (by first | exact Nat.le_of_ble_eq_true rfl | (simp [zcat_rf, Value.category]; done)) (by omega) (Nat.le_of_eq (Nat.zero_add _)) (Nat.le_of_eq (Nat.zero_add _)) dX10_readSum_23 rfl (fun v_ w_ sg_ hq_ => ?_)
        obtain ⟨rfl, rfl, rfl⟩ := hq_
        refine r_callV MX10_signOf 1 [_] lvX10_238 (Or.inr (Or.inl ⟨hm, rfl⟩)) (q_signOf E mo w sg (d - 1) (hdN r) h7) rfl rfl (by first | exact Nat.le_of_ble_eq_true rfl | (simp [zcat_rf, Value.category]; done)) (by omega) (Nat.le_of_eq (Nat.zero_add _)) (Nat.le_of_eq (Nat.zero_add _)) dX10_readSum_26 rfl (fun v_ w_ sg_ hq_ => ?_)
        obtain ⟨rfl, rfl, rfl⟩ := hq_
        rw [hs]
        refine r_istore (ls' := [_, _, _, _, _, _]) dX10_readSum_29 (Nat.le_of_ble_eq_true rfl) rfl rfl ?_
        refine r_iload_n dX10_readSum_31 rfl rfl ?_
        refine r_if_eqB (r := 109) dX10_readSum_32 (by decide) rfl (fun c_32 => ?_) (fun c_32 => ?_)
        · refine r_iload_n dX10_readSum_109 rfl rfl ?_
          refine r_if_eqB (r := 180) dX10_readSum_110 (by decide) rfl (fun c_110 => ?_) (fun c_110 => ?_)
          · refine r_iload dX10_readSum_180 rfl rfl ?_
            refine r_iconst dX10_readSum_182 kc_m1 rfl ?_
            refine r_icmp_eq (r := 223) dX10_readSum_183 (by decide) rfl (fun c_183 => ?_) (fun c_183 => ?_)
            · refine r_aload_n dX10_readSum_223 rfl (zRv_ref _) rfl ?_
              refine r_callV MX10_look 0 [] lvX10_172 (Or.inr (Or.inl ⟨hm, rfl⟩)) (hl) rfl rfl (by first | exact Nat.le_of_ble_eq_true rfl | (simp [zcat_rf, Value.category]; done)) (by omega) (Nat.le_of_eq (Nat.zero_add _)) (Nat.le_of_eq (Nat.zero_add _)) dX10_readSum_224 rfl (fun v_ w_ sg_ hq_ => ?_)
              obtain ⟨rfl, rfl, rfl⟩ := hq_
              refine r_bipush dX10_readSum_227 kb_41 rfl ?_
              refine r_icmp_neN (by omega) (by omega) (r := 279) dX10_readSum_229 (by decide) rfl (fun c_229 => ?_) (fun c_229 => ?_)
              · exact absurd h41 c_229
              · refine r_aload_n dX10_readSum_232 rfl (zRv_ref _) rfl ?_
                refine r_iload_n dX10_readSum_233 rfl rfl ?_
                refine r_callV MX10_isOpen 1 [_] lvX10_252 (Or.inr (Or.inl ⟨hm, rfl⟩)) (hio) rfl rfl (by first | exact Nat.le_of_ble_eq_true rfl | (simp [zcat_rf, Value.category]; done)) (by omega) (Nat.le_of_eq (Nat.zero_add _)) (Nat.le_of_eq (Nat.zero_add _)) dX10_readSum_234 rfl (fun v_ w_ sg_ hq_ => ?_)
                obtain ⟨rfl, rfl, rfl⟩ := hq_
                refine r_if_eqB (r := 279) dX10_readSum_237 (by decide) rfl (fun c_237 => ?_) (fun c_237 => ?_)
                · refine r_iconst dX10_readSum_279 kc_0 rfl ?_
                  refine r_istore (ls' := [_, _, _, _, _, _]) dX10_readSum_280 (Nat.le_of_ble_eq_true rfl) rfl rfl ?_
                  refine r_goto (r := 9) dX10_readSum_282 (by decide) ?_
                  skip
                  refine r_aload_n dX10_readSum_9 rfl (zRv_ref _) rfl ?_
                  refine m_getiv hm 15 lfX10_153 rfl (by first | (simp only [zGS, zMS, Nat.reduceEqDiff, OfNat.ofNat_ne_ofNat, false_and, and_false, true_and, and_true, and_self, if_true, if_false, ite_true, ite_false, reduceIte, reduceCtorEq]; first | done | assumption | rfl) | assumption | exact z2_eq | exact z1_eq | (simp [zGS, zMS]; first | done | assumption) | rfl) dX10_readSum_10 rfl ?_
                  refine r_if_eqB (r := 285) dX10_readSum_13 (by decide) rfl (fun c_13 => ?_) (fun c_13 => ?_)
                  · cases c_13
                  · refine r_iload dX10_readSum_16 rfl rfl ?_
                    refine r_if_eqN (by omega) (r := 285) dX10_readSum_18 (by decide) rfl (fun c_18 => ?_) (fun c_18 => ?_)
                    · exact K _
                    · exact absurd rfl c_18
                · cases c_237
            · exact absurd rfl c_183
          · cases c_110
        · cases c_32
  · skip
    refine r_aload_n dX10_readSum_9 rfl (zRv_ref _) rfl ?_
    refine m_getiv hm 15 lfX10_153 rfl (by first | (simp only [zGS, zMS, Nat.reduceEqDiff, OfNat.ofNat_ne_ofNat, false_and, and_false, true_and, and_true, and_self, if_true, if_false, ite_true, ite_false, reduceIte, reduceCtorEq]; first | done | assumption | rfl) | assumption | exact z2_eq | exact z1_eq | (simp [zGS, zMS]; first | done | assumption) | rfl) dX10_readSum_10 rfl ?_
    refine r_if_eqB (r := 285) dX10_readSum_13 (by decide) rfl (fun c_13 => ?_) (fun c_13 => ?_)
    · cases c_13
    · refine r_iload dX10_readSum_16 rfl rfl ?_
      refine r_if_eqB (r := 285) dX10_readSum_18 (by decide) rfl (fun c_18 => ?_) (fun c_18 => ?_)
      · cases c_18
      · refine r_aload_n dX10_readSum_21 rfl (zRv_ref _) rfl ?_
        refine r_aload_n dX10_readSum_22 rfl (zRv_ref _) rfl ?_
        refine r_callV MX10_look 0 [] lvX10_172 (Or.inr (Or.inl ⟨hm, rfl⟩)) (hl) rfl rfl (by first | exact Nat.le_of_ble_eq_true rfl | (simp [zcat_rf, Value.category]; done)) (by omega) (Nat.le_of_eq (Nat.zero_add _)) (Nat.le_of_eq (Nat.zero_add _)) dX10_readSum_23 rfl (fun v_ w_ sg_ hq_ => ?_)
        obtain ⟨rfl, rfl, rfl⟩ := hq_
        refine r_callV MX10_signOf 1 [_] lvX10_238 (Or.inr (Or.inl ⟨hm, rfl⟩)) (q_signOf E mo w sg (d - 1) (hdN r) h7) rfl rfl (by first | exact Nat.le_of_ble_eq_true rfl | (simp [zcat_rf, Value.category]; done)) (by omega) (Nat.le_of_eq (Nat.zero_add _)) (Nat.le_of_eq (Nat.zero_add _)) dX10_readSum_26 rfl (fun v_ w_ sg_ hq_ => ?_)
        obtain ⟨rfl, rfl, rfl⟩ := hq_
        rw [hs]
        refine r_istore (ls' := [_, _, _, _, _, _]) dX10_readSum_29 (Nat.le_of_ble_eq_true rfl) rfl rfl ?_
        refine r_iload_n dX10_readSum_31 rfl rfl ?_
        refine r_if_eqB (r := 109) dX10_readSum_32 (by decide) rfl (fun c_32 => ?_) (fun c_32 => ?_)
        · refine r_iload_n dX10_readSum_109 rfl rfl ?_
          refine r_if_eqB (r := 180) dX10_readSum_110 (by decide) rfl (fun c_110 => ?_) (fun c_110 => ?_)
          · refine r_iload dX10_readSum_180 rfl rfl ?_
            refine r_iconst dX10_readSum_182 kc_m1 rfl ?_
            refine r_icmp_eq (r := 223) dX10_readSum_183 (by decide) rfl (fun c_183 => ?_) (fun c_183 => ?_)
            · refine r_aload_n dX10_readSum_223 rfl (zRv_ref _) rfl ?_
              refine r_callV MX10_look 0 [] lvX10_172 (Or.inr (Or.inl ⟨hm, rfl⟩)) (hl) rfl rfl (by first | exact Nat.le_of_ble_eq_true rfl | (simp [zcat_rf, Value.category]; done)) (by omega) (Nat.le_of_eq (Nat.zero_add _)) (Nat.le_of_eq (Nat.zero_add _)) dX10_readSum_224 rfl (fun v_ w_ sg_ hq_ => ?_)
              obtain ⟨rfl, rfl, rfl⟩ := hq_
              refine r_bipush dX10_readSum_227 kb_41 rfl ?_
              refine r_icmp_neN (by omega) (by omega) (r := 279) dX10_readSum_229 (by decide) rfl (fun c_229 => ?_) (fun c_229 => ?_)
              · refine r_iconst dX10_readSum_279 kc_0 rfl ?_
                refine r_istore (ls' := [_, _, _, _, _, _]) dX10_readSum_280 (Nat.le_of_ble_eq_true rfl) rfl rfl ?_
                refine r_goto (r := 9) dX10_readSum_282 (by decide) ?_
                skip
                refine r_aload_n dX10_readSum_9 rfl (zRv_ref _) rfl ?_
                refine m_getiv hm 15 lfX10_153 rfl (by first | (simp only [zGS, zMS, Nat.reduceEqDiff, OfNat.ofNat_ne_ofNat, false_and, and_false, true_and, and_true, and_self, if_true, if_false, ite_true, ite_false, reduceIte, reduceCtorEq]; first | done | assumption | rfl) | assumption | exact z2_eq | exact z1_eq | (simp [zGS, zMS]; first | done | assumption) | rfl) dX10_readSum_10 rfl ?_
                refine r_if_eqB (r := 285) dX10_readSum_13 (by decide) rfl (fun c_13 => ?_) (fun c_13 => ?_)
                · cases c_13
                · refine r_iload dX10_readSum_16 rfl rfl ?_
                  refine r_if_eqN (by omega) (r := 285) dX10_readSum_18 (by decide) rfl (fun c_18 => ?_) (fun c_18 => ?_)
                  · exact K _
                  · exact absurd rfl c_18
              · exact absurd c_229 h41
            · exact absurd rfl c_183
          · cases c_110
        · cases c_32
theorem sm_atom (E : ZE) (mo : Nat) (hm : E.2.2.2.2 = some mo) (w : ZW) (sg0 sg : ZM) (d f N dp : Nat) (hd : 4 ≤ d) (W r : List Nat) (out : List PStep) (x5 : Option Value) (P : ZPhi) (h : ssI sg0 sg N f out W r) (h45 : hdN r ≠ 45) (h40 : hdN r ≠ 40) (hdp : negsN W ≤ dp) (Kb : stB (pAtm r) → sBad E mo w d f sg0 N P) (K : ∀ sg' s l r', pAtm r = some (l, r') → ssI sg0 sg' N f (out ++ l.map cvS ++ prO 3 W) (prW 3 W) r' → RW E MX10_readSum 9 [some (.ref mo), some (.int (nI (prW 3 W).length)), some (.int (nI (dp - negsN W))), some (.int (zb false)), some (.int (zb true)), some s] [] w sg' d 0 0 P) : RW E MX10_readSum 9 [some (.ref mo), some (.int (nI W.length)), some (.int (nI dp)), some (.int (zb true)), some (.int (zb true)), x5] [] w sg d 0 0 P := by
  obtain ⟨h1, h2, h3, h4⟩ := h
  have g0 : mi sg 15 = zb true := (cuO.z (m := 0) h3).g
  have hl := p_look E mo hm w sg (d - 1) f r h3
  have h7 : hdN r < 128 := by
    obtain ⟨a, -, -, -, -, -, -, h7⟩ := h3
    cases r with
    | nil => exact (by decide : 0 < 128)
    | cons c r => exact (h7 c List.mem_cons_self).2
  have hpl := pr_len 3 W
  have hp := p_pass E mo hm w sg (d - 1) f 36 (by omega) (by decide) r h3
  cases h36 : pCh 36 r with
  | some r1 =>
    rw [h36] at hp
    have hlr := pCh_len h36
    have hat : pAtm r = (match pNamed r1 with
      | none => none
      | some (n, r2) => some ([(9 + n, 0)], r2)) := by unfold pAtm; rw [h36]; rfl
    refine r_aload_n dX10_readSum_9 rfl (zRv_ref _) rfl ?_
    refine m_getiv hm 15 lfX10_153 rfl (by first | (simp only [zGS, zMS, Nat.reduceEqDiff, OfNat.ofNat_ne_ofNat, false_and, and_false, true_and, and_true, and_self, if_true, if_false, ite_true, ite_false, reduceIte, reduceCtorEq]; first | done | assumption | rfl) | assumption | exact z2_eq | exact z1_eq | (simp [zGS, zMS]; first | done | assumption) | rfl) dX10_readSum_10 rfl ?_
    refine r_if_eqB (r := 285) dX10_readSum_13 (by decide) rfl (fun c_13 => ?_) (fun c_13 => ?_)
    · cases c_13
    · refine r_iload dX10_readSum_16 rfl rfl ?_
      refine r_if_eqB (r := 285) dX10_readSum_18 (by decide) rfl (fun c_18 => ?_) (fun c_18 => ?_)
      · cases c_18
      · refine r_aload_n dX10_readSum_21 rfl (zRv_ref _) rfl ?_
        refine r_aload_n dX10_readSum_22 rfl (zRv_ref _) rfl ?_
        refine r_callV MX10_look 0 [] lvX10_172 (Or.inr (Or.inl ⟨hm, rfl⟩)) (hl) rfl rfl (by first | exact Nat.le_of_ble_eq_true rfl | (simp [zcat_rf, Value.category]; done)) (by omega) (Nat.le_of_eq (Nat.zero_add _)) (Nat.le_of_eq (Nat.zero_add _)) dX10_readSum_23 rfl (fun v_ w_ sg_ hq_ => ?_)
        obtain ⟨rfl, rfl, rfl⟩ := hq_
        refine r_callV MX10_signOf 1 [_] lvX10_238 (Or.inr (Or.inl ⟨hm, rfl⟩)) (q_signOf E mo w sg (d - 1) (hdN r) h7) rfl rfl (by first | exact Nat.le_of_ble_eq_true rfl | (simp [zcat_rf, Value.category]; done)) (by omega) (Nat.le_of_eq (Nat.zero_add _)) (Nat.le_of_eq (Nat.zero_add _)) dX10_readSum_26 rfl (fun v_ w_ sg_ hq_ => ?_)
        obtain ⟨rfl, rfl, rfl⟩ := hq_
        refine r_istore (ls' := [_, _, _, _, _, _]) dX10_readSum_29 (Nat.le_of_ble_eq_true rfl) rfl rfl ?_
        refine r_iload_n dX10_readSum_31 rfl rfl ?_
        refine r_if_eqB (r := 109) dX10_readSum_32 (by decide) rfl (fun c_32 => ?_) (fun c_32 => ?_)
        · cases c_32
        · refine r_aload_n dX10_readSum_35 rfl (zRv_ref _) rfl ?_
          refine r_callV MX10_look 0 [] lvX10_172 (Or.inr (Or.inl ⟨hm, rfl⟩)) (hl) rfl rfl (by first | exact Nat.le_of_ble_eq_true rfl | (simp [zcat_rf, Value.category]; done)) (by omega) (Nat.le_of_eq (Nat.zero_add _)) (Nat.le_of_eq (Nat.zero_add _)) dX10_readSum_36 rfl (fun v_ w_ sg_ hq_ => ?_)
          obtain ⟨rfl, rfl, rfl⟩ := hq_
          refine r_bipush dX10_readSum_39 kb_45 rfl ?_
          refine r_icmp_eqN (by omega) (by omega) (r := 53) dX10_readSum_41 (by decide) rfl (fun c_41 => ?_) (fun c_41 => ?_)
          · exact absurd c_41 h45
          · refine r_aload_n dX10_readSum_44 rfl (zRv_ref _) rfl ?_
            refine r_callV MX10_look 0 [] lvX10_172 (Or.inr (Or.inl ⟨hm, rfl⟩)) (hl) rfl rfl (by first | exact Nat.le_of_ble_eq_true rfl | (simp [zcat_rf, Value.category]; done)) (by omega) (Nat.le_of_eq (Nat.zero_add _)) (Nat.le_of_eq (Nat.zero_add _)) dX10_readSum_45 rfl (fun v_ w_ sg_ hq_ => ?_)
            obtain ⟨rfl, rfl, rfl⟩ := hq_
            refine r_bipush dX10_readSum_48 kb_40 rfl ?_
            refine r_icmp_neN (by omega) (by omega) (r := 109) dX10_readSum_50 (by decide) rfl (fun c_50 => ?_) (fun c_50 => ?_)
            · refine r_iload_n dX10_readSum_109 rfl rfl ?_
              refine r_if_eqB (r := 180) dX10_readSum_110 (by decide) rfl (fun c_110 => ?_) (fun c_110 => ?_)
              · cases c_110
              · refine r_aload_n dX10_readSum_113 rfl (zRv_ref _) rfl ?_
                refine r_bipush dX10_readSum_114 kb_36 rfl ?_
                refine r_callV MX10_pass 1 [_] lvX10_176 (Or.inr (Or.inl ⟨hm, rfl⟩)) (hp) rfl rfl (by first | exact Nat.le_of_ble_eq_true rfl | (simp [zcat_rf, Value.category]; done)) (by omega) (Nat.le_of_eq (Nat.zero_add _)) (Nat.le_of_eq (Nat.zero_add _)) dX10_readSum_116 rfl (fun v_ w_ sg_ hq_ => ?_)
                obtain ⟨rfl, rfl, v1, c1⟩ := hq_
                obtain ⟨sg1, hsg1⟩ : ∃ y, y = sg_ := ⟨_, rfl⟩
                subst hsg1
                refine r_if_eqB (r := 141) dX10_readSum_119 (by decide) rfl (fun c_119 => ?_) (fun c_119 => ?_)
                · cases c_119
                · refine r_aload_n dX10_readSum_122 rfl (zRv_ref _) rfl ?_
                  refine r_iconst dX10_readSum_123 kc_4 rfl ?_
                  refine r_aload_n dX10_readSum_124 rfl (zRv_ref _) rfl ?_
                  refine r_bipush dX10_readSum_125 kb_100 rfl ?_
                  refine r_callV MX10_letter 1 [_] lvX10_200 (Or.inr (Or.inl ⟨hm, rfl⟩)) (o_letter E mo hm w sg1 (d - 1) f 100 880 (by decide) (by decide) (by omega) (some r1) (cuO.z c1)) rfl rfl (by first | exact Nat.le_of_ble_eq_true rfl | (simp [zcat_rf, Value.category]; done)) (by omega) (Nat.le_of_eq (Nat.zero_add _)) (Nat.le_of_eq (Nat.zero_add _)) dX10_readSum_127 rfl (fun v_ w_ sg_ hq_ => ?_)
                  obtain ⟨⟨x, rfl, hx1, hx2, -, hx⟩, rfl, v2, c2⟩ := hq_
                  obtain ⟨sg2, hsg2⟩ : ∃ y, y = sg_ := ⟨_, rfl⟩
                  subst hsg2
                  refine r_iaddN dX10_readSum_130 rfl ?_
                  refine r_bipush dX10_readSum_131 kb_97 rfl ?_
                  refine r_isubN (by omega) dX10_readSum_133 rfl ?_
                  refine r_fconst0 dX10_readSum_134 rfl ?_
                  refine r_callV MX10_add 2 [_, _] lvX10_231 (Or.inr (Or.inl ⟨hm, rfl⟩)) (q_add E mo hm w sg2 (d - 1) (N + out.length) (nI (4 + x - 97)) 0 (by omega) ((h1.mv v1).mv v2).2.1) rfl rfl (by first | exact Nat.le_of_ble_eq_true rfl | (simp [zcat_rf, Value.category]; done)) (by omega) (Nat.le_of_eq (Nat.zero_add _)) (Nat.le_of_eq (Nat.zero_add _)) dX10_readSum_135 rfl (fun v_ w_ sg_ hq_ => ?_)
                  obtain ⟨rfl, rfl, hs9⟩ := hq_
                  obtain ⟨sg3, hsg3⟩ : ∃ y, y = sg_ := ⟨_, rfl⟩
                  subst hsg3
                  have p3 : adS sg2 sg3 (N + out.length) [(4 + x - 97, 0)] := by rw [hs9]; exact adS.one
                  have e9 : (out ++ [(4 + x - 97, (0 : UInt32))]).length = out.length + 1 := by rw [List.length_append]; rfl
                  refine r_goto (r := 160) dX10_readSum_138 (by decide) ?_
                  refine sm_160 E mo hm w sg0 sg3 d f 880 N dp (by omega) W _ _ _ _ _ P (((h1.mv v1).mv v2).ad p3) (((h2.mv v1).mv v2).ad p3) (c2.ds p3) (by omega) hdp (fun sg' a1 a2 a3 => ?_)
                  have hxr := hx r1 rfl
                  have hb9 : bndO (some r1) (fun r => rstO (pLet 100 r)) = rstO (pLet 100 r1) := rfl
                  rw [hb9] at a3
                  rw [pNamed_eq] at hat
                  unfold letV at hxr
                  cases hL : pLet 100 r1 with
                  | none =>
                    rw [hL] at a3 hat
                    exact sm_9b E mo hm w sg' d _ _ _ _ _ P a3.g (Kb (Or.inl hat) sg' _ none _ _ _ _ _ a1 a2 (by omega) (cuO.mono a3 (by decide)) (Or.inl rfl))
                  | some q =>
                    obtain ⟨y, r2⟩ := q
                    rw [hL] at a3 hat hxr
                    have hxy : x = y := hxr
                    subst hxy
                    have hl9 := (pLet_some hL).1
                    refine K sg' _ [(9 + (x - 97), 0)] r2 hat ⟨?_, a2, a3, ?_⟩
                    · have e8 : [(9 + (x - 97), (0 : UInt32))].map cvS = [(4 + x - 97, 0)] := by
                        show [(cvC (9 + (x - 97)), (0 : UInt32))] = _
                        unfold cvC
                        rw [if_neg (by omega), if_neg (by omega), show 9 + (x - 97) - 5 = 4 + x - 97 by omega]
                      rw [e8]
                      exact a1
                    · rw [List.length_append, List.length_append]
                      rw [hl9, List.length_cons] at hlr
                      show N + (out.length + 1 + (prO 3 W).length) + (prW 3 W).length + r2.length ≤ 125
                      omega
            · exact absurd c_50 h40
  | none =>
    rw [h36] at hp
    have hat : pAtm r = pNum r := by unfold pAtm; rw [h36]
    cases hD : pDig r with
    | none =>
      have hno : pAtm r = none := by rw [hat]; unfold pNum; rw [hD]
      refine r_aload_n dX10_readSum_9 rfl (zRv_ref _) rfl ?_
      refine m_getiv hm 15 lfX10_153 rfl (by first | (simp only [zGS, zMS, Nat.reduceEqDiff, OfNat.ofNat_ne_ofNat, false_and, and_false, true_and, and_true, and_self, if_true, if_false, ite_true, ite_false, reduceIte, reduceCtorEq]; first | done | assumption | rfl) | assumption | exact z2_eq | exact z1_eq | (simp [zGS, zMS]; first | done | assumption) | rfl) dX10_readSum_10 rfl ?_
      refine r_if_eqB (r := 285) dX10_readSum_13 (by decide) rfl (fun c_13 => ?_) (fun c_13 => ?_)
      · cases c_13
      · refine r_iload dX10_readSum_16 rfl rfl ?_
        refine r_if_eqB (r := 285) dX10_readSum_18 (by decide) rfl (fun c_18 => ?_) (fun c_18 => ?_)
        · cases c_18
        · refine r_aload_n dX10_readSum_21 rfl (zRv_ref _) rfl ?_
          refine r_aload_n dX10_readSum_22 rfl (zRv_ref _) rfl ?_
          refine r_callV MX10_look 0 [] lvX10_172 (Or.inr (Or.inl ⟨hm, rfl⟩)) (hl) rfl rfl (by first | exact Nat.le_of_ble_eq_true rfl | (simp [zcat_rf, Value.category]; done)) (by omega) (Nat.le_of_eq (Nat.zero_add _)) (Nat.le_of_eq (Nat.zero_add _)) dX10_readSum_23 rfl (fun v_ w_ sg_ hq_ => ?_)
          obtain ⟨rfl, rfl, rfl⟩ := hq_
          refine r_callV MX10_signOf 1 [_] lvX10_238 (Or.inr (Or.inl ⟨hm, rfl⟩)) (q_signOf E mo w sg (d - 1) (hdN r) h7) rfl rfl (by first | exact Nat.le_of_ble_eq_true rfl | (simp [zcat_rf, Value.category]; done)) (by omega) (Nat.le_of_eq (Nat.zero_add _)) (Nat.le_of_eq (Nat.zero_add _)) dX10_readSum_26 rfl (fun v_ w_ sg_ hq_ => ?_)
          obtain ⟨rfl, rfl, rfl⟩ := hq_
          refine r_istore (ls' := [_, _, _, _, _, _]) dX10_readSum_29 (Nat.le_of_ble_eq_true rfl) rfl rfl ?_
          refine r_iload_n dX10_readSum_31 rfl rfl ?_
          refine r_if_eqB (r := 109) dX10_readSum_32 (by decide) rfl (fun c_32 => ?_) (fun c_32 => ?_)
          · cases c_32
          · refine r_aload_n dX10_readSum_35 rfl (zRv_ref _) rfl ?_
            refine r_callV MX10_look 0 [] lvX10_172 (Or.inr (Or.inl ⟨hm, rfl⟩)) (hl) rfl rfl (by first | exact Nat.le_of_ble_eq_true rfl | (simp [zcat_rf, Value.category]; done)) (by omega) (Nat.le_of_eq (Nat.zero_add _)) (Nat.le_of_eq (Nat.zero_add _)) dX10_readSum_36 rfl (fun v_ w_ sg_ hq_ => ?_)
            obtain ⟨rfl, rfl, rfl⟩ := hq_
            refine r_bipush dX10_readSum_39 kb_45 rfl ?_
            refine r_icmp_eqN (by omega) (by omega) (r := 53) dX10_readSum_41 (by decide) rfl (fun c_41 => ?_) (fun c_41 => ?_)
            · exact absurd c_41 h45
            · refine r_aload_n dX10_readSum_44 rfl (zRv_ref _) rfl ?_
              refine r_callV MX10_look 0 [] lvX10_172 (Or.inr (Or.inl ⟨hm, rfl⟩)) (hl) rfl rfl (by first | exact Nat.le_of_ble_eq_true rfl | (simp [zcat_rf, Value.category]; done)) (by omega) (Nat.le_of_eq (Nat.zero_add _)) (Nat.le_of_eq (Nat.zero_add _)) dX10_readSum_45 rfl (fun v_ w_ sg_ hq_ => ?_)
              obtain ⟨rfl, rfl, rfl⟩ := hq_
              refine r_bipush dX10_readSum_48 kb_40 rfl ?_
              refine r_icmp_neN (by omega) (by omega) (r := 109) dX10_readSum_50 (by decide) rfl (fun c_50 => ?_) (fun c_50 => ?_)
              · refine r_iload_n dX10_readSum_109 rfl rfl ?_
                refine r_if_eqB (r := 180) dX10_readSum_110 (by decide) rfl (fun c_110 => ?_) (fun c_110 => ?_)
                · cases c_110
                · refine r_aload_n dX10_readSum_113 rfl (zRv_ref _) rfl ?_
                  refine r_bipush dX10_readSum_114 kb_36 rfl ?_
                  refine r_callV MX10_pass 1 [_] lvX10_176 (Or.inr (Or.inl ⟨hm, rfl⟩)) (hp) rfl rfl (by first | exact Nat.le_of_ble_eq_true rfl | (simp [zcat_rf, Value.category]; done)) (by omega) (Nat.le_of_eq (Nat.zero_add _)) (Nat.le_of_eq (Nat.zero_add _)) dX10_readSum_116 rfl (fun v_ w_ sg_ hq_ => ?_)
                  obtain ⟨rfl, rfl, v1, c1⟩ := hq_
                  obtain ⟨sg1, hsg1⟩ : ∃ y, y = sg_ := ⟨_, rfl⟩
                  subst hsg1
                  have hdg := p_isDigit E mo hm w sg1 (d - 1) f (by omega) r c1
                  rw [hD] at hdg
                  refine r_if_eqB (r := 141) dX10_readSum_119 (by decide) rfl (fun c_119 => ?_) (fun c_119 => ?_)
                  · refine r_aload_n dX10_readSum_141 rfl (zRv_ref _) rfl ?_
                    refine r_callV MX10_isDigit 0 [] lvX10_184 (Or.inr (Or.inl ⟨hm, rfl⟩)) (hdg) rfl rfl (by first | exact Nat.le_of_ble_eq_true rfl | (simp [zcat_rf, Value.category]; done)) (by omega) (Nat.le_of_eq (Nat.zero_add _)) (Nat.le_of_eq (Nat.zero_add _)) dX10_readSum_142 rfl (fun v_ w_ sg_ hq_ => ?_)
                    obtain ⟨rfl, rfl, rfl⟩ := hq_
                    refine r_if_eqB (r := 155) dX10_readSum_145 (by decide) rfl (fun c_145 => ?_) (fun c_145 => ?_)
                    · refine r_aload_n dX10_readSum_155 rfl (zRv_ref _) rfl ?_
                      refine r_iconst dX10_readSum_156 kc_0 rfl ?_
                      refine r_callV MX10_must 1 [_] lvX10_180 (Or.inr (Or.inl ⟨hm, rfl⟩)) (o_must E mo hm w sg1 (d - 1) f 880 (by decide) false (some r) (cuO.z c1)) rfl rfl (by first | exact Nat.le_of_ble_eq_true rfl | (simp [zcat_rf, Value.category]; done)) (by omega) (Nat.le_of_eq (Nat.zero_add _)) (Nat.le_of_eq (Nat.zero_add _)) dX10_readSum_157 rfl (fun v_ w_ sg_ hq_ => ?_)
                      obtain ⟨rfl, rfl, v2, c2⟩ := hq_
                      obtain ⟨sg2, hsg2⟩ : ∃ y, y = sg_ := ⟨_, rfl⟩
                      subst hsg2
                      refine sm_160 E mo hm w sg0 sg2 d f 880 N dp (by omega) W out none _ _ _ P ((h1.mv v1).mv v2) ((h2.mv v1).mv v2) c2 (by omega) hdp (fun sg' a1 a2 a3 => ?_)
                      exact sm_9b E mo hm w sg' d _ _ _ _ _ P a3.g (Kb (Or.inl hno) sg' _ none _ _ _ _ _ a1 a2 (by omega) (cuO.mono a3 (by decide)) (Or.inl rfl))
                    · cases c_145
                  · cases c_119
              · exact absurd c_50 h40
    | some q =>
      obtain ⟨x0, r0⟩ := q
      have hl0 := (pDig_len hD).1
      refine r_aload_n dX10_readSum_9 rfl (zRv_ref _) rfl ?_
      refine m_getiv hm 15 lfX10_153 rfl (by first | (simp only [zGS, zMS, Nat.reduceEqDiff, OfNat.ofNat_ne_ofNat, false_and, and_false, true_and, and_true, and_self, if_true, if_false, ite_true, ite_false, reduceIte, reduceCtorEq]; first | done | assumption | rfl) | assumption | exact z2_eq | exact z1_eq | (simp [zGS, zMS]; first | done | assumption) | rfl) dX10_readSum_10 rfl ?_
      refine r_if_eqB (r := 285) dX10_readSum_13 (by decide) rfl (fun c_13 => ?_) (fun c_13 => ?_)
      · cases c_13
      · refine r_iload dX10_readSum_16 rfl rfl ?_
        refine r_if_eqB (r := 285) dX10_readSum_18 (by decide) rfl (fun c_18 => ?_) (fun c_18 => ?_)
        · cases c_18
        · refine r_aload_n dX10_readSum_21 rfl (zRv_ref _) rfl ?_
          refine r_aload_n dX10_readSum_22 rfl (zRv_ref _) rfl ?_
          refine r_callV MX10_look 0 [] lvX10_172 (Or.inr (Or.inl ⟨hm, rfl⟩)) (hl) rfl rfl (by first | exact Nat.le_of_ble_eq_true rfl | (simp [zcat_rf, Value.category]; done)) (by omega) (Nat.le_of_eq (Nat.zero_add _)) (Nat.le_of_eq (Nat.zero_add _)) dX10_readSum_23 rfl (fun v_ w_ sg_ hq_ => ?_)
          obtain ⟨rfl, rfl, rfl⟩ := hq_
          refine r_callV MX10_signOf 1 [_] lvX10_238 (Or.inr (Or.inl ⟨hm, rfl⟩)) (q_signOf E mo w sg (d - 1) (hdN r) h7) rfl rfl (by first | exact Nat.le_of_ble_eq_true rfl | (simp [zcat_rf, Value.category]; done)) (by omega) (Nat.le_of_eq (Nat.zero_add _)) (Nat.le_of_eq (Nat.zero_add _)) dX10_readSum_26 rfl (fun v_ w_ sg_ hq_ => ?_)
          obtain ⟨rfl, rfl, rfl⟩ := hq_
          refine r_istore (ls' := [_, _, _, _, _, _]) dX10_readSum_29 (Nat.le_of_ble_eq_true rfl) rfl rfl ?_
          refine r_iload_n dX10_readSum_31 rfl rfl ?_
          refine r_if_eqB (r := 109) dX10_readSum_32 (by decide) rfl (fun c_32 => ?_) (fun c_32 => ?_)
          · cases c_32
          · refine r_aload_n dX10_readSum_35 rfl (zRv_ref _) rfl ?_
            refine r_callV MX10_look 0 [] lvX10_172 (Or.inr (Or.inl ⟨hm, rfl⟩)) (hl) rfl rfl (by first | exact Nat.le_of_ble_eq_true rfl | (simp [zcat_rf, Value.category]; done)) (by omega) (Nat.le_of_eq (Nat.zero_add _)) (Nat.le_of_eq (Nat.zero_add _)) dX10_readSum_36 rfl (fun v_ w_ sg_ hq_ => ?_)
            obtain ⟨rfl, rfl, rfl⟩ := hq_
            refine r_bipush dX10_readSum_39 kb_45 rfl ?_
            refine r_icmp_eqN (by omega) (by omega) (r := 53) dX10_readSum_41 (by decide) rfl (fun c_41 => ?_) (fun c_41 => ?_)
            · exact absurd c_41 h45
            · refine r_aload_n dX10_readSum_44 rfl (zRv_ref _) rfl ?_
              refine r_callV MX10_look 0 [] lvX10_172 (Or.inr (Or.inl ⟨hm, rfl⟩)) (hl) rfl rfl (by first | exact Nat.le_of_ble_eq_true rfl | (simp [zcat_rf, Value.category]; done)) (by omega) (Nat.le_of_eq (Nat.zero_add _)) (Nat.le_of_eq (Nat.zero_add _)) dX10_readSum_45 rfl (fun v_ w_ sg_ hq_ => ?_)
              obtain ⟨rfl, rfl, rfl⟩ := hq_
              refine r_bipush dX10_readSum_48 kb_40 rfl ?_
              refine r_icmp_neN (by omega) (by omega) (r := 109) dX10_readSum_50 (by decide) rfl (fun c_50 => ?_) (fun c_50 => ?_)
              · refine r_iload_n dX10_readSum_109 rfl rfl ?_
                refine r_if_eqB (r := 180) dX10_readSum_110 (by decide) rfl (fun c_110 => ?_) (fun c_110 => ?_)
                · cases c_110
                · refine r_aload_n dX10_readSum_113 rfl (zRv_ref _) rfl ?_
                  refine r_bipush dX10_readSum_114 kb_36 rfl ?_
                  refine r_callV MX10_pass 1 [_] lvX10_176 (Or.inr (Or.inl ⟨hm, rfl⟩)) (hp) rfl rfl (by first | exact Nat.le_of_ble_eq_true rfl | (simp [zcat_rf, Value.category]; done)) (by omega) (Nat.le_of_eq (Nat.zero_add _)) (Nat.le_of_eq (Nat.zero_add _)) dX10_readSum_116 rfl (fun v_ w_ sg_ hq_ => ?_)
                  obtain ⟨rfl, rfl, v1, c1⟩ := hq_
                  obtain ⟨sg1, hsg1⟩ : ∃ y, y = sg_ := ⟨_, rfl⟩
                  subst hsg1
                  have hdg := p_isDigit E mo hm w sg1 (d - 1) f (by omega) r c1
                  rw [hD] at hdg
                  refine r_if_eqB (r := 141) dX10_readSum_119 (by decide) rfl (fun c_119 => ?_) (fun c_119 => ?_)
                  · refine r_aload_n dX10_readSum_141 rfl (zRv_ref _) rfl ?_
                    refine r_callV MX10_isDigit 0 [] lvX10_184 (Or.inr (Or.inl ⟨hm, rfl⟩)) (hdg) rfl rfl (by first | exact Nat.le_of_ble_eq_true rfl | (simp [zcat_rf, Value.category]; done)) (by omega) (Nat.le_of_eq (Nat.zero_add _)) (Nat.le_of_eq (Nat.zero_add _)) dX10_readSum_142 rfl (fun v_ w_ sg_ hq_ => ?_)
                    obtain ⟨rfl, rfl, rfl⟩ := hq_
                    refine r_if_eqB (r := 155) dX10_readSum_145 (by decide) rfl (fun c_145 => ?_) (fun c_145 => ?_)
                    · cases c_145
                    · refine r_aload_n dX10_readSum_148 rfl (zRv_ref _) rfl ?_
                      refine r_callV MX10_readNumber 0 [] lvX10_242 (Or.inr (Or.inl ⟨hm, rfl⟩)) (p_readNumber E mo hm w sg1 (d - 1) f (N + out.length) x0 (by omega) (by omega) r r0 hD (h1.mv v1).2.1 c1) rfl rfl (by first | exact Nat.le_of_ble_eq_true rfl | (simp [zcat_rf, Value.category]; done)) (by omega) (Nat.le_of_eq (Nat.zero_add _)) (Nat.le_of_eq (Nat.zero_add _)) dX10_readSum_149 rfl (fun v_ w_ sg_ hq_ => ?_)
                      obtain ⟨rfl, rfl, u, fv, sg2, o, hu, v2, hs9, c2, hk⟩ := hq_
                      obtain ⟨sg3, hsg3⟩ : ∃ y, y = sg_ := ⟨_, rfl⟩
                      subst hsg3
                      have p3 : adS sg2 sg3 (N + out.length) [(u, fv)] := by rw [hs9]; exact adS.one
                      have e9 : (out ++ [(u, fv)]).length = out.length + 1 := by rw [List.length_append]; rfl
                      refine r_goto (r := 160) dX10_readSum_152 (by decide) ?_
                      refine sm_160 E mo hm w sg0 sg3 d f 800 N dp (by omega) W _ _ _ _ _ P (((h1.mv v1).mv v2).ad p3) (((h2.mv v1).mv v2).ad p3) (c2.ds p3) (by omega) hdp (fun sg' a1 a2 a3 => ?_)
                      rcases hk with ⟨rfl, hk⟩ | ⟨r', rfl, hk⟩
                      · exact sm_9b E mo hm w sg' d _ _ _ _ _ P a3.g (Kb (by rw [hat]; exact hk) sg' _ none _ _ _ _ _ a1 a2 (by omega) (cuO.mono a3 (by decide)) (Or.inl rfl))
                      · have hl9 := pNum_len hk
                        refine K sg' _ [(u, fv)] r' (by rw [hat]; exact hk) ⟨?_, a2, a3, ?_⟩
                        · have e8 : [(u, fv)].map cvS = [(u, fv)] := by
                            show [(cvC u, fv)] = _
                            unfold cvC
                            rw [if_pos (by omega)]
                          rw [e8]
                          exact a1
                        · rw [List.length_append, List.length_append]
                          have hl8 : [(u, fv)].length = 1 := rfl
                          show N + (out.length + 1 + (prO 3 W).length) + (prW 3 W).length + r'.length ≤ 125
                          omega
                  · cases c_119
              · exact absurd c_50 h40
