/-! ===== the model: work's steps ===== -/
theorem wk_num (E : ZE) (mo : Nat) (hm : E.2.2.2.2 = some mo) (w : ZW) (sg : ZM) (d e p k H : Nat) (hd : 2 ≤ d) (T : List PEl) (hT : mTree sg T) (he : e < T.length) (hp : p < 6) (V : Nat → Nat → UInt32) (hV : vlE sg T V e p) (hVf : ∀ a b, fFin (V a b)) (u : Nat) (v : UInt32) (hu : u ≤ 3) (hv : fFin v) (hk : k < 130) (h22' : mg sg 22 k = v) (st : List PVal) (h56 : mi sg 56 = zb false) (h45 : mi sg 45 = nI (H + st.length)) (hA : stA sg H st) (hH : H + st.length < 3000) (x1 x5 : Value) (P : ZPhi) (K : ∀ sg2, stO sg sg2 H (numS (wantP p) (emU T V e p) (whU T V e p) u v st) → RW E MX10_work 46 [some (.ref mo), some x1, some (.int (nI e)), some (.int (nI p)), some (.int (nI k)), some x5, some (.int (nI u))] [] w sg2 d 0 0 P) : RW E MX10_work 150 [some (.ref mo), some x1, some (.int (nI e)), some (.int (nI p)), some (.int (nI k)), some x5, some (.int (nI u))] [] w sg d 0 0 P := by
  have hw := hT.1
  have h24 := hw.1
  obtain ⟨a1, -⟩ := hT.2.2 e he
  have hpu := fun (kd : Nat) hkd (x : UInt32) hx (b : Bool) hb => p_push E mo hm w sg (d - 1) H kd hkd x hx b hb st h56 h45 hA hH
  have hem : fFin (emU T V e p) := by
    unfold emU
    split
    · cases tP T e with
      | none => exact fFin_of (x := 1098907648) (by decide)
      | some q => exact hVf q 1
    · exact hVf e 1
  have hwp : wantP p ≤ 1 ∧ decide (wantP p = 0) = decide (p = 0 ∨ p = 5) := by
    unfold wantP
    split
    · rename_i c; exact ⟨by decide, by rw [decide_eq_true c]; rfl⟩
    · rename_i c; exact ⟨by decide, by rw [decide_eq_false c]; rfl⟩
  rcases (by omega : u = 0 ∨ u = 1 ∨ u = 2 ∨ u = 3) with rfl | rfl | rfl | rfl
  · have en : numS (wantP p) (emU T V e p) (whU T V e p) 0 v st = pushS 0 v st := rfl
    have h1 := hpu 0 (by decide) v hv.n true rfl
    refine r_iload dX10_work_150 rfl rfl ?_
    refine r_iconst dX10_work_152 kc_4 rfl ?_
    refine r_icmp_geN (by omega) (by omega) (r := 267) dX10_work_153 (by decide) rfl (fun c_153 => ?_) (fun c_153 => ?_)
    · exact absurd c_153 (by decide)
    · refine r_aload_n dX10_work_156 rfl (zRv_ref _) rfl ?_
      refine r_iload dX10_work_157 rfl rfl ?_
      refine r_iconst dX10_work_159 kc_2 rfl ?_
      refine r_icmp_neN (by omega) (by omega) (r := 180) dX10_work_160 (by decide) rfl (fun c_160 => ?_) (fun c_160 => ?_)
      · refine r_iload dX10_work_180 rfl rfl ?_
        refine r_iconst dX10_work_182 kc_3 rfl ?_
        refine r_icmp_neN (by omega) (by omega) (r := 231) dX10_work_183 (by decide) rfl (fun c_183 => ?_) (fun c_183 => ?_)
        · refine r_aload_n dX10_work_231 rfl (zRv_ref _) rfl ?_
          refine m_geta hm 34 22 lfX10_75 rfl (by decide) dX10_work_232 rfl ?_
          refine r_iload dX10_work_235 rfl rfl ?_
          refine m_faldv hm 22 _ (by decide) (by decide) rfl rfl (by show _ < 130; omega) (by first | (simp only [zGS, zMS, Nat.reduceEqDiff, OfNat.ofNat_ne_ofNat, false_and, and_false, true_and, and_true, and_self, if_true, if_false, ite_true, ite_false, reduceIte, reduceCtorEq]; first | done | assumption | rfl) | assumption | exact z2_eq | exact z1_eq | (simp [zGS, zMS]; first | done | assumption) | rfl) dX10_work_237 rfl ?_
          refine r_iload dX10_work_238 rfl rfl ?_
          refine r_if_eqN (by omega) (r := 256) dX10_work_240 (by decide) rfl (fun c_240 => ?_) (fun c_240 => ?_)
          · refine r_iconst dX10_work_256 kc_1 rfl ?_
            refine r_goto (r := 261) dX10_work_257 (by decide) ?_
            refine r_callV MX10_push 2 [_, _] lvX10_331 (Or.inr (Or.inl ⟨hm, rfl⟩)) (h1) rfl rfl (by first | exact Nat.le_of_ble_eq_true rfl | (simp [zcat_rf, Value.category]; done)) (by omega) (Nat.le_of_eq (Nat.zero_add _)) (Nat.le_of_eq (Nat.zero_add _)) dX10_work_261 rfl (fun v_ w_ sg_ hq_ => ?_)
            obtain ⟨rfl, rfl, q3⟩ := hq_
            refine r_goto (r := 327) dX10_work_264 (by decide) ?_
            refine r_goto (r := 46) dX10_work_327 (by decide) ?_
            exact K _ q3
          · exact absurd rfl c_240
        · exact absurd c_183 (by decide)
      · exact absurd c_160 (by decide)
  · have en : numS (wantP p) (emU T V e p) (whU T V e p) 1 v st = pushS 1 v st := rfl
    have h1 := hpu 1 (by decide) v hv.n false rfl
    refine r_iload dX10_work_150 rfl rfl ?_
    refine r_iconst dX10_work_152 kc_4 rfl ?_
    refine r_icmp_geN (by omega) (by omega) (r := 267) dX10_work_153 (by decide) rfl (fun c_153 => ?_) (fun c_153 => ?_)
    · exact absurd c_153 (by decide)
    · refine r_aload_n dX10_work_156 rfl (zRv_ref _) rfl ?_
      refine r_iload dX10_work_157 rfl rfl ?_
      refine r_iconst dX10_work_159 kc_2 rfl ?_
      refine r_icmp_neN (by omega) (by omega) (r := 180) dX10_work_160 (by decide) rfl (fun c_160 => ?_) (fun c_160 => ?_)
      · refine r_iload dX10_work_180 rfl rfl ?_
        refine r_iconst dX10_work_182 kc_3 rfl ?_
        refine r_icmp_neN (by omega) (by omega) (r := 231) dX10_work_183 (by decide) rfl (fun c_183 => ?_) (fun c_183 => ?_)
        · refine r_aload_n dX10_work_231 rfl (zRv_ref _) rfl ?_
          refine m_geta hm 34 22 lfX10_75 rfl (by decide) dX10_work_232 rfl ?_
          refine r_iload dX10_work_235 rfl rfl ?_
          refine m_faldv hm 22 _ (by decide) (by decide) rfl rfl (by show _ < 130; omega) (by first | (simp only [zGS, zMS, Nat.reduceEqDiff, OfNat.ofNat_ne_ofNat, false_and, and_false, true_and, and_true, and_self, if_true, if_false, ite_true, ite_false, reduceIte, reduceCtorEq]; first | done | assumption | rfl) | assumption | exact z2_eq | exact z1_eq | (simp [zGS, zMS]; first | done | assumption) | rfl) dX10_work_237 rfl ?_
          refine r_iload dX10_work_238 rfl rfl ?_
          refine r_if_eqN (by omega) (r := 256) dX10_work_240 (by decide) rfl (fun c_240 => ?_) (fun c_240 => ?_)
          · exact absurd c_240 (by decide)
          · refine r_iload dX10_work_243 rfl rfl ?_
            refine r_iconst dX10_work_245 kc_3 rfl ?_
            refine r_icmp_neN (by omega) (by omega) (r := 260) dX10_work_246 (by decide) rfl (fun c_246 => ?_) (fun c_246 => ?_)
            · refine r_iconst dX10_work_260 kc_0 rfl ?_
              refine r_callV MX10_push 2 [_, _] lvX10_331 (Or.inr (Or.inl ⟨hm, rfl⟩)) (h1) rfl rfl (by first | exact Nat.le_of_ble_eq_true rfl | (simp [zcat_rf, Value.category]; done)) (by omega) (Nat.le_of_eq (Nat.zero_add _)) (Nat.le_of_eq (Nat.zero_add _)) dX10_work_261 rfl (fun v_ w_ sg_ hq_ => ?_)
              obtain ⟨rfl, rfl, q3⟩ := hq_
              refine r_goto (r := 327) dX10_work_264 (by decide) ?_
              refine r_goto (r := 46) dX10_work_327 (by decide) ?_
              exact K _ q3
            · exact absurd c_246 (by decide)
        · exact absurd c_183 (by decide)
      · exact absurd c_160 (by decide)
  · have en : numS (wantP p) (emU T V e p) (whU T V e p) 2 v st = pushS 1 (FP.fmul v (emU T V e p)) st := rfl
    have hn := fmul_n hv hem
    have h1 := hpu 1 (by decide) (FP.fmul v (emU T V e p)) hn false rfl
    have hfo := q_fontOf E mo hm w sg (d - 1) e p T hT he hp V hV
    refine r_iload dX10_work_150 rfl rfl ?_
    refine r_iconst dX10_work_152 kc_4 rfl ?_
    refine r_icmp_geN (by omega) (by omega) (r := 267) dX10_work_153 (by decide) rfl (fun c_153 => ?_) (fun c_153 => ?_)
    · exact absurd c_153 (by decide)
    · refine r_aload_n dX10_work_156 rfl (zRv_ref _) rfl ?_
      refine r_iload dX10_work_157 rfl rfl ?_
      refine r_iconst dX10_work_159 kc_2 rfl ?_
      refine r_icmp_neN (by omega) (by omega) (r := 180) dX10_work_160 (by decide) rfl (fun c_160 => ?_) (fun c_160 => ?_)
      · exact absurd rfl c_160
      · refine r_aload_n dX10_work_163 rfl (zRv_ref _) rfl ?_
        refine m_geta hm 34 22 lfX10_75 rfl (by decide) dX10_work_164 rfl ?_
        refine r_iload dX10_work_167 rfl rfl ?_
        refine m_faldv hm 22 _ (by decide) (by decide) rfl rfl (by show _ < 130; omega) (by first | (simp only [zGS, zMS, Nat.reduceEqDiff, OfNat.ofNat_ne_ofNat, false_and, and_false, true_and, and_true, and_self, if_true, if_false, ite_true, ite_false, reduceIte, reduceCtorEq]; first | done | assumption | rfl) | assumption | exact z2_eq | exact z1_eq | (simp [zGS, zMS]; first | done | assumption) | rfl) dX10_work_169 rfl ?_
        refine r_aload_n dX10_work_170 rfl (zRv_ref _) rfl ?_
        refine r_iload_n dX10_work_171 rfl rfl ?_
        refine r_iload_n dX10_work_172 rfl rfl ?_
        refine r_callV MX10_fontOf 2 [_, _] lvX10_342 (Or.inr (Or.inl ⟨hm, rfl⟩)) (hfo) rfl rfl (by first | exact Nat.le_of_ble_eq_true rfl | (simp [zcat_rf, Value.category]; done)) (by omega) (Nat.le_of_eq (Nat.zero_add _)) (Nat.le_of_eq (Nat.zero_add _)) dX10_work_173 rfl (fun v_ w_ sg_ hq_ => ?_)
        obtain ⟨rfl, rfl, rfl⟩ := hq_
        refine r_fmul dX10_work_176 hn rfl ?_
        refine r_goto (r := 238) dX10_work_177 (by decide) ?_
        refine r_iload dX10_work_238 rfl rfl ?_
        refine r_if_eqN (by omega) (r := 256) dX10_work_240 (by decide) rfl (fun c_240 => ?_) (fun c_240 => ?_)
        · exact absurd c_240 (by decide)
        · refine r_iload dX10_work_243 rfl rfl ?_
          refine r_iconst dX10_work_245 kc_3 rfl ?_
          refine r_icmp_neN (by omega) (by omega) (r := 260) dX10_work_246 (by decide) rfl (fun c_246 => ?_) (fun c_246 => ?_)
          · refine r_iconst dX10_work_260 kc_0 rfl ?_
            refine r_callV MX10_push 2 [_, _] lvX10_331 (Or.inr (Or.inl ⟨hm, rfl⟩)) (h1) rfl rfl (by first | exact Nat.le_of_ble_eq_true rfl | (simp [zcat_rf, Value.category]; done)) (by omega) (Nat.le_of_eq (Nat.zero_add _)) (Nat.le_of_eq (Nat.zero_add _)) dX10_work_261 rfl (fun v_ w_ sg_ hq_ => ?_)
            obtain ⟨rfl, rfl, q3⟩ := hq_
            refine r_goto (r := 327) dX10_work_264 (by decide) ?_
            refine r_goto (r := 46) dX10_work_327 (by decide) ?_
            exact K _ q3
          · exact absurd c_246 (by decide)
  · have en : numS (wantP p) (emU T V e p) (whU T V e p) 3 v st = pushS (wantP p) (FP.fdiv (FP.fmul v (whU T V e p)) 1120403456) st := rfl
    have hwh : fFin (whU T V e p) := by
      unfold whU
      cases tP T e with
      | none => exact fFin_of (x := FP.fconst0) (by decide)
      | some q => exact hVf q p
    have hn1 := fmul_n hv hwh
    have hn2 : vf_n32 (FP.fdiv (FP.fmul v (whU T V e p)) 1120403456) := fdiv_n hn1 (fFin_of (by decide)) (by decide)
    have h1 := hpu (wantP p) hwp.1 _ hn2 (decide (p = 0 ∨ p = 5)) hwp.2.symm
    have hwt := q_wantsPlain E w sg (d - 1) p hp
    have tl : RW E MX10_work 238 [some (.ref mo), some x1, some (.int (nI e)), some (.int (nI p)), some (.int (nI k)), some x5, some (.int (nI 3))] [.float (FP.fdiv (FP.fmul v (whU T V e p)) 1120403456), .ref mo] w sg d 0 0 P := by
      cases hb : decide (p = 0 ∨ p = 5) with
      | true =>
        rw [hb] at h1 hwt
        refine r_iload dX10_work_238 rfl rfl ?_
        refine r_if_eqN (by omega) (r := 256) dX10_work_240 (by decide) rfl (fun c_240 => ?_) (fun c_240 => ?_)
        · exact absurd c_240 (by decide)
        · skip -- go
          refine r_iload dX10_work_243 rfl rfl ?_
          refine r_iconst dX10_work_245 kc_3 rfl ?_
          refine r_icmp_neN (by omega) (by omega) (r := 260) dX10_work_246 (by decide) rfl (fun c_246 => ?_) (fun c_246 => ?_)
          · exact absurd rfl c_246
          · refine r_iload_n dX10_work_249 rfl rfl ?_
            refine r_callS MX10_wantsPlain 1 [_] lsX10_347 (hwt) rfl rfl (by first | exact Nat.le_of_ble_eq_true rfl | (simp [zcat_rf, Value.category]; done)) (by omega) (Nat.le_of_eq (Nat.zero_add _)) (Nat.le_of_eq (Nat.zero_add _)) dX10_work_250 rfl (fun v_ w_ sg_ hq_ => ?_)
            obtain ⟨rfl, rfl, rfl⟩ := hq_
            refine r_if_eqB (r := 260) dX10_work_253 (by decide) rfl (fun c_253 => ?_) (fun c_253 => ?_)
            · cases c_253
            · refine r_iconst dX10_work_256 kc_1 rfl ?_
              refine r_goto (r := 261) dX10_work_257 (by decide) ?_
              refine r_callV MX10_push 2 [_, _] lvX10_331 (Or.inr (Or.inl ⟨hm, rfl⟩)) (h1) rfl rfl (by first | exact Nat.le_of_ble_eq_true rfl | (simp [zcat_rf, Value.category]; done)) (by omega) (Nat.le_of_eq (Nat.zero_add _)) (Nat.le_of_eq (Nat.zero_add _)) dX10_work_261 rfl (fun v_ w_ sg_ hq_ => ?_)
              obtain ⟨rfl, rfl, q3⟩ := hq_
              refine r_goto (r := 327) dX10_work_264 (by decide) ?_
              refine r_goto (r := 46) dX10_work_327 (by decide) ?_
              exact K _ q3
      | false =>
        rw [hb] at h1 hwt
        refine r_iload dX10_work_238 rfl rfl ?_
        refine r_if_eqN (by omega) (r := 256) dX10_work_240 (by decide) rfl (fun c_240 => ?_) (fun c_240 => ?_)
        · exact absurd c_240 (by decide)
        · refine r_iload dX10_work_243 rfl rfl ?_
          refine r_iconst dX10_work_245 kc_3 rfl ?_
          refine r_icmp_neN (by omega) (by omega) (r := 260) dX10_work_246 (by decide) rfl (fun c_246 => ?_) (fun c_246 => ?_)
          · exact absurd rfl c_246
          · refine r_iload_n dX10_work_249 rfl rfl ?_
            refine r_callS MX10_wantsPlain 1 [_] lsX10_347 (hwt) rfl rfl (by first | exact Nat.le_of_ble_eq_true rfl | (simp [zcat_rf, Value.category]; done)) (by omega) (Nat.le_of_eq (Nat.zero_add _)) (Nat.le_of_eq (Nat.zero_add _)) dX10_work_250 rfl (fun v_ w_ sg_ hq_ => ?_)
            obtain ⟨rfl, rfl, rfl⟩ := hq_
            refine r_if_eqB (r := 260) dX10_work_253 (by decide) rfl (fun c_253 => ?_) (fun c_253 => ?_)
            · refine r_iconst dX10_work_260 kc_0 rfl ?_
              refine r_callV MX10_push 2 [_, _] lvX10_331 (Or.inr (Or.inl ⟨hm, rfl⟩)) (h1) rfl rfl (by first | exact Nat.le_of_ble_eq_true rfl | (simp [zcat_rf, Value.category]; done)) (by omega) (Nat.le_of_eq (Nat.zero_add _)) (Nat.le_of_eq (Nat.zero_add _)) dX10_work_261 rfl (fun v_ w_ sg_ hq_ => ?_)
              obtain ⟨rfl, rfl, q3⟩ := hq_
              refine r_goto (r := 327) dX10_work_264 (by decide) ?_
              refine r_goto (r := 46) dX10_work_327 (by decide) ?_
              exact K _ q3
            · cases c_253
    cases hq : tP T e with
    | none =>
      rw [parI_n hq] at a1
      have ew : whU T V e p = FP.fconst0 := by unfold whU; rw [hq]
      rw [ew] at tl hn1 hn2
      refine r_iload dX10_work_150 rfl rfl ?_
      refine r_iconst dX10_work_152 kc_4 rfl ?_
      refine r_icmp_geN (by omega) (by omega) (r := 267) dX10_work_153 (by decide) rfl (fun c_153 => ?_) (fun c_153 => ?_)
      · exact absurd c_153 (by decide)
      · refine r_aload_n dX10_work_156 rfl (zRv_ref _) rfl ?_
        refine r_iload dX10_work_157 rfl rfl ?_
        refine r_iconst dX10_work_159 kc_2 rfl ?_
        refine r_icmp_neN (by omega) (by omega) (r := 180) dX10_work_160 (by decide) rfl (fun c_160 => ?_) (fun c_160 => ?_)
        · refine r_iload dX10_work_180 rfl rfl ?_
          refine r_iconst dX10_work_182 kc_3 rfl ?_
          refine r_icmp_neN (by omega) (by omega) (r := 231) dX10_work_183 (by decide) rfl (fun c_183 => ?_) (fun c_183 => ?_)
          · exact absurd rfl c_183
          · refine r_aload_n dX10_work_186 rfl (zRv_ref _) rfl ?_
            refine m_geta hm 34 22 lfX10_75 rfl (by decide) dX10_work_187 rfl ?_
            refine r_iload dX10_work_190 rfl rfl ?_
            refine m_faldv hm 22 _ (by decide) (by decide) rfl rfl (by show _ < 130; omega) (by first | (simp only [zGS, zMS, Nat.reduceEqDiff, OfNat.ofNat_ne_ofNat, false_and, and_false, true_and, and_true, and_self, if_true, if_false, ite_true, ite_false, reduceIte, reduceCtorEq]; first | done | assumption | rfl) | assumption | exact z2_eq | exact z1_eq | (simp [zGS, zMS]; first | done | assumption) | rfl) dX10_work_192 rfl ?_
            refine r_aload_n dX10_work_193 rfl (zRv_ref _) rfl ?_
            refine m_geta hm 2 1 lfX10_7 rfl (by decide) dX10_work_194 rfl ?_
            refine r_iload_n dX10_work_197 rfl rfl ?_
            refine m_ialdv hm 1 _ (by decide) (by decide) rfl rfl (by show _ < 24; omega) (by first | (simp only [zGS, zMS, Nat.reduceEqDiff, OfNat.ofNat_ne_ofNat, false_and, and_false, true_and, and_true, and_self, if_true, if_false, ite_true, ite_false, reduceIte, reduceCtorEq]; first | done | assumption | rfl) | assumption | exact z2_eq | exact z1_eq | (simp [zGS, zMS]; first | done | assumption) | rfl) dX10_work_198 rfl ?_
            refine r_iconst dX10_work_199 kc_m1 rfl ?_
            refine r_icmp_ne (r := 207) dX10_work_200 (by decide) rfl (fun c_200 => ?_) (fun c_200 => ?_)
            · exact absurd rfl c_200
            · refine r_fconst0 dX10_work_203 rfl ?_
              refine r_goto (r := 223) dX10_work_204 (by decide) ?_
              refine r_fmul dX10_work_223 hn1 rfl ?_
              refine r_ldcwf dX10_work_224 tw_1328 rfl ?_
              refine r_fdiv dX10_work_227 hn2 rfl ?_
              refine r_goto (r := 238) dX10_work_228 (by decide) ?_
              exact tl
        · exact absurd c_160 (by decide)
    | some q =>
      rw [parI_s hq] at a1
      have hqe := hw.2.1 e q hq
      have v3 := (hV.1 q hq).1
      have ew : whU T V e p = V q p := by unfold whU; rw [hq]
      rw [ew] at tl hn1 hn2
      refine r_iload dX10_work_150 rfl rfl ?_
      refine r_iconst dX10_work_152 kc_4 rfl ?_
      refine r_icmp_geN (by omega) (by omega) (r := 267) dX10_work_153 (by decide) rfl (fun c_153 => ?_) (fun c_153 => ?_)
      · exact absurd c_153 (by decide)
      · refine r_aload_n dX10_work_156 rfl (zRv_ref _) rfl ?_
        refine r_iload dX10_work_157 rfl rfl ?_
        refine r_iconst dX10_work_159 kc_2 rfl ?_
        refine r_icmp_neN (by omega) (by omega) (r := 180) dX10_work_160 (by decide) rfl (fun c_160 => ?_) (fun c_160 => ?_)
        · refine r_iload dX10_work_180 rfl rfl ?_
          refine r_iconst dX10_work_182 kc_3 rfl ?_
          refine r_icmp_neN (by omega) (by omega) (r := 231) dX10_work_183 (by decide) rfl (fun c_183 => ?_) (fun c_183 => ?_)
          · exact absurd rfl c_183
          · refine r_aload_n dX10_work_186 rfl (zRv_ref _) rfl ?_
            refine m_geta hm 34 22 lfX10_75 rfl (by decide) dX10_work_187 rfl ?_
            refine r_iload dX10_work_190 rfl rfl ?_
            refine m_faldv hm 22 _ (by decide) (by decide) rfl rfl (by show _ < 130; omega) (by first | (simp only [zGS, zMS, Nat.reduceEqDiff, OfNat.ofNat_ne_ofNat, false_and, and_false, true_and, and_true, and_self, if_true, if_false, ite_true, ite_false, reduceIte, reduceCtorEq]; first | done | assumption | rfl) | assumption | exact z2_eq | exact z1_eq | (simp [zGS, zMS]; first | done | assumption) | rfl) dX10_work_192 rfl ?_
            refine r_aload_n dX10_work_193 rfl (zRv_ref _) rfl ?_
            refine m_geta hm 2 1 lfX10_7 rfl (by decide) dX10_work_194 rfl ?_
            refine r_iload_n dX10_work_197 rfl rfl ?_
            refine m_ialdv hm 1 _ (by decide) (by decide) rfl rfl (by show _ < 24; omega) (by first | (simp only [zGS, zMS, Nat.reduceEqDiff, OfNat.ofNat_ne_ofNat, false_and, and_false, true_and, and_true, and_self, if_true, if_false, ite_true, ite_false, reduceIte, reduceCtorEq]; first | done | assumption | rfl) | assumption | exact z2_eq | exact z1_eq | (simp [zGS, zMS]; first | done | assumption) | rfl) dX10_work_198 rfl ?_
            refine r_iconst dX10_work_199 kc_m1 rfl ?_
            refine r_icmp_ne (r := 207) dX10_work_200 (by decide) rfl (fun c_200 => ?_) (fun c_200 => ?_)
            · refine r_aload_n dX10_work_207 rfl (zRv_ref _) rfl ?_
              refine m_geta hm 43 31 lfX10_103 rfl (by decide) dX10_work_208 rfl ?_
              refine r_bipush dX10_work_211 kb_6 rfl ?_
              refine r_aload_n dX10_work_213 rfl (zRv_ref _) rfl ?_
              refine m_geta hm 2 1 lfX10_7 rfl (by decide) dX10_work_214 rfl ?_
              refine r_iload_n dX10_work_217 rfl rfl ?_
              refine m_ialdv hm 1 _ (by decide) (by decide) rfl rfl (by show _ < 24; omega) (by first | (simp only [zGS, zMS, Nat.reduceEqDiff, OfNat.ofNat_ne_ofNat, false_and, and_false, true_and, and_true, and_self, if_true, if_false, ite_true, ite_false, reduceIte, reduceCtorEq]; first | done | assumption | rfl) | assumption | exact z2_eq | exact z1_eq | (simp [zGS, zMS]; first | done | assumption) | rfl) dX10_work_218 rfl ?_
              refine r_imulN dX10_work_219 rfl ?_
              refine r_iload_n dX10_work_220 rfl rfl ?_
              refine r_iaddN dX10_work_221 rfl ?_
              refine m_faldv hm 31 _ (by decide) (by decide) rfl rfl (by show _ < 144; omega) (by first | (simp only [zGS, zMS, Nat.reduceEqDiff, OfNat.ofNat_ne_ofNat, false_and, and_false, true_and, and_true, and_self, if_true, if_false, ite_true, ite_false, reduceIte, reduceCtorEq]; first | done | assumption | rfl) | assumption | exact z2_eq | exact z1_eq | (simp [zGS, zMS]; first | done | assumption) | rfl) dX10_work_222 rfl ?_
              refine r_fmul dX10_work_223 hn1 rfl ?_
              refine r_ldcwf dX10_work_224 tw_1328 rfl ?_
              refine r_fdiv dX10_work_227 hn2 rfl ?_
              refine r_goto (r := 238) dX10_work_228 (by decide) ?_
              exact tl
            · exact absurd c_200 (nI_neg (by omega))
        · exact absurd c_160 (by decide)
theorem wk_neg (E : ZE) (mo : Nat) (hm : E.2.2.2.2 = some mo) (w : ZW) (sg : ZM) (d H : Nat) (st : List PVal) (h1 : 1 ≤ st.length) (h56 : mi sg 56 = zb false) (h45 : mi sg 45 = nI (H + st.length)) (hA : stA sg H st) (hH : H + st.length < 3000) (x1 x2 x3 x4 x5 : Value) (P : ZPhi) (K : ∀ sg2, stO sg sg2 H (negS st) → RW E MX10_work 46 [some (.ref mo), some x1, some x2, some x3, some x4, some x5, some (.int (nI 8))] [] w sg2 d 0 0 P) : RW E MX10_work 150 [some (.ref mo), some x1, some x2, some x3, some x4, some x5, some (.int (nI 8))] [] w sg d 0 0 P := by
  match st, h1, h45, hA, hH with
  | (kd, a) :: st, h1, h45, hA, hH =>
    obtain ⟨g1, g2, g3⟩ := hA
    have e45 : mi sg 45 = nI (H + st.length + 1) := h45
    have hH' : H + st.length + 1 < 3000 := hH
    have hO : stO sg (msg sg 32 (H + st.length) (FP.fneg a)) H (negS ((kd, a) :: st)) := by
      refine ⟨⟨fun _ _ _ => rfl, fun _ _ _ => rfl, fun j i q => by rw [mg_msg, if_neg (by omega)]⟩, h56, h45, ?_, g2, g3.fr (fun i hi => ⟨by rw [mg_msg, if_neg (by omega)], rfl⟩)⟩
      rw [mg_msg, if_pos ⟨rfl, rfl⟩]
    refine r_iload dX10_work_150 rfl rfl ?_
    refine r_iconst dX10_work_152 kc_4 rfl ?_
    refine r_icmp_geN (by omega) (by omega) (r := 267) dX10_work_153 (by decide) rfl (fun c_153 => ?_) (fun c_153 => ?_)
    · refine r_iload dX10_work_267 rfl rfl ?_
      refine r_bipush dX10_work_269 kb_8 rfl ?_
      refine r_icmp_geN (by omega) (by omega) (r := 288) dX10_work_271 (by decide) rfl (fun c_271 => ?_) (fun c_271 => ?_)
      · refine r_iload dX10_work_288 rfl rfl ?_
        refine r_bipush dX10_work_290 kb_8 rfl ?_
        refine r_icmp_neN (by omega) (by omega) (r := 321) dX10_work_292 (by decide) rfl (fun c_292 => ?_) (fun c_292 => ?_)
        · exact absurd rfl c_292
        · refine r_aload_n dX10_work_295 rfl (zRv_ref _) rfl ?_
          refine m_geta hm 46 32 lfX10_106 rfl (by decide) dX10_work_296 rfl ?_
          refine r_aload_n dX10_work_299 rfl (zRv_ref _) rfl ?_
          refine m_getiv hm 45 lfX10_324 rfl (by first | (simp only [zGS, zMS, Nat.reduceEqDiff, OfNat.ofNat_ne_ofNat, false_and, and_false, true_and, and_true, and_self, if_true, if_false, ite_true, ite_false, reduceIte, reduceCtorEq]; first | done | assumption | rfl) | assumption | exact z2_eq | exact z1_eq | (simp [zGS, zMS]; first | done | assumption) | rfl) dX10_work_300 rfl ?_
          refine r_iconst dX10_work_303 kc_1 rfl ?_
          refine r_isubN (by omega) dX10_work_304 rfl ?_
          rw [Nat.add_sub_cancel]
          refine r_aload_n dX10_work_305 rfl (zRv_ref _) rfl ?_
          refine m_geta hm 46 32 lfX10_106 rfl (by decide) dX10_work_306 rfl ?_
          refine r_aload_n dX10_work_309 rfl (zRv_ref _) rfl ?_
          refine m_getiv hm 45 lfX10_324 rfl (by first | (simp only [zGS, zMS, Nat.reduceEqDiff, OfNat.ofNat_ne_ofNat, false_and, and_false, true_and, and_true, and_self, if_true, if_false, ite_true, ite_false, reduceIte, reduceCtorEq]; first | done | assumption | rfl) | assumption | exact z2_eq | exact z1_eq | (simp [zGS, zMS]; first | done | assumption) | rfl) dX10_work_310 rfl ?_
          refine r_iconst dX10_work_313 kc_1 rfl ?_
          refine r_isubN (by omega) dX10_work_314 rfl ?_
          rw [Nat.add_sub_cancel]
          refine m_faldv hm 32 _ (by decide) (by decide) rfl rfl (by show _ < 3000; omega) (by first | (simp only [zGS, zMS, Nat.reduceEqDiff, OfNat.ofNat_ne_ofNat, false_and, and_false, true_and, and_true, and_self, if_true, if_false, ite_true, ite_false, reduceIte, reduceCtorEq]; first | done | assumption | rfl) | assumption | exact z2_eq | exact z1_eq | (simp [zGS, zMS]; first | done | assumption) | rfl) dX10_work_315 rfl ?_
          refine r_fneg dX10_work_316 rfl ?_
          refine m_fast hm 32 _ (by decide) (by decide) rfl rfl (by show _ < 3000; omega) dX10_work_317 rfl ?_
          refine r_goto (r := 327) dX10_work_318 (by decide) ?_
          refine r_goto (r := 46) dX10_work_327 (by decide) ?_
          exact K _ hO
      · exact absurd c_271 (by decide)
    · exact absurd c_153 (by decide)
theorem wk_two (E : ZE) (mo : Nat) (hm : E.2.2.2.2 = some mo) (w : ZW) (sg : ZM) (d H s : Nat) (hd : 3 ≤ d) (hs : 5 ≤ s ∧ s < 9) (st : List PVal) (h2 : 2 ≤ st.length) (ho : okStk st) (h56 : mi sg 56 = zb false) (h45 : mi sg 45 = nI (H + st.length)) (hA : stA sg H st) (hH : H + st.length < 3000) (x1 x2 x3 x4 x5 : Value) (P : ZPhi) (K : ∀ sg2, stO sg sg2 H (comS s st) → RW E MX10_work 46 [some (.ref mo), some x1, some x2, some x3, some x4, some x5, some (.int (nI (s + 4)))] [] w sg2 d 0 0 P) : RW E MX10_work 150 [some (.ref mo), some x1, some x2, some x3, some x4, some x5, some (.int (nI (s + 4)))] [] w sg d 0 0 P := by
  have hb := p_both E mo hm w sg (d - 1) H s (by omega) hs st h56 h45 hA hH h2 ho
  refine r_iload dX10_work_150 rfl rfl ?_
  refine r_iconst dX10_work_152 kc_4 rfl ?_
  refine r_icmp_geN (by omega) (by omega) (r := 267) dX10_work_153 (by decide) rfl (fun c_153 => ?_) (fun c_153 => ?_)
  · refine r_iload dX10_work_267 rfl rfl ?_
    refine r_bipush dX10_work_269 kb_8 rfl ?_
    refine r_icmp_geN (by omega) (by omega) (r := 288) dX10_work_271 (by decide) rfl (fun c_271 => ?_) (fun c_271 => ?_)
    · refine r_iload dX10_work_288 rfl rfl ?_
      refine r_bipush dX10_work_290 kb_8 rfl ?_
      refine r_icmp_neN (by omega) (by omega) (r := 321) dX10_work_292 (by decide) rfl (fun c_292 => ?_) (fun c_292 => ?_)
      · refine r_aload_n dX10_work_321 rfl (zRv_ref _) rfl ?_
        refine r_iload dX10_work_322 rfl rfl ?_
        refine r_callV MX10_both 1 [_] lvX10_353 (Or.inr (Or.inl ⟨hm, rfl⟩)) (hb) rfl rfl (by first | exact Nat.le_of_ble_eq_true rfl | (simp [zcat_rf, Value.category]; done)) (by omega) (Nat.le_of_eq (Nat.zero_add _)) (Nat.le_of_eq (Nat.zero_add _)) dX10_work_324 rfl (fun v_ w_ sg_ hq_ => ?_)
        obtain ⟨rfl, rfl, q3⟩ := hq_
        refine r_goto (r := 46) dX10_work_327 (by decide) ?_
        exact K _ q3
      · exact absurd c_292 (by omega)
    · exact absurd c_271 (by omega)
  · exact absurd c_153 (by omega)
