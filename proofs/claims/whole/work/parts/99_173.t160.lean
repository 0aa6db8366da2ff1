/-! ===== the law's cases ===== -/
theorem lw_element (E : ZE) (b x L m i d : Nat) (xs : Nat → Int32) (hd : 40 ≤ d) (hb : b < E.2.1) (hm : E.2.2.2.2 = some (x + 13)) (hL : L ≤ 240) (hi : i + 4 < L) (w : ZW) (sg : ZM) (T : List PEl) (Rs : List PRule) (B : List Nat) (h : lwI w sg x T Rs B) (l6 l7 : Option Value) (K : ∀ k6 k7 w' sg' T' Rs' B', lwI w' sg' x T' Rs' B' → RW E ML_law 703 [some (.ref b), some (.ref x), some (.ref (x + 13)), some (.ref (x + 54)), some (.ref (x + 55)), some (.int (nI i)), k6, k7] [] w' sg' d (268 * m) (2130 * m) (PScr b L xs (PN E (fun v _ _ => v = some (.int 1))))) : RW E ML_law 100 [some (.ref b), some (.ref x), some (.ref (x + 13)), some (.ref (x + 54)), some (.ref (x + 55)), some (.int (nI i)), l6, l7] [] w sg d (268 * (m + 1)) (2130 * (m + 1)) (PScr b L xs (PN E (fun v _ _ => v = some (.int 1)))) := by
  obtain ⟨hD, hI, hr⟩ := h
  have k1 : zk w x = 10 := hD.desk.1
  refine r_aload_n dL_law_100 rfl (by first | exact zRv_ref _ | exact zRv_null | exact zRv_rf _ | assumption) rfl ?_
  refine r_aload_n dL_law_101 rfl (zRv_ref _) rfl ?_
  refine r_iload dL_law_102 rfl rfl ?_
  refine r_iconst dL_law_104 kc_1 rfl ?_
  refine r_iaddN dL_law_105 rfl ?_
  refine r_sld (i + 1) hb rfl (by omega) hL dL_law_106 rfl ?_
  refine r_aload_n dL_law_107 rfl (zRv_ref _) rfl ?_
  refine r_iload dL_law_108 rfl rfl ?_
  refine r_iconst dL_law_110 kc_2 rfl ?_
  refine r_iaddN dL_law_111 rfl ?_
  refine r_sld (i + 2) hb rfl (by omega) hL dL_law_112 rfl ?_
  refine r_aload_n dL_law_113 rfl (zRv_ref _) rfl ?_
  refine r_iload dL_law_114 rfl rfl ?_
  refine r_iconst dL_law_116 kc_3 rfl ?_
  refine r_iaddN dL_law_117 rfl ?_
  refine r_sld (i + 3) hb rfl (by omega) hL dL_law_118 rfl ?_
  refine r_aload_n dL_law_119 rfl (zRv_ref _) rfl ?_
  refine r_iload dL_law_120 rfl rfl ?_
  refine r_iconst dL_law_122 kc_4 rfl ?_
  refine r_iaddN dL_law_123 rfl ?_
  refine r_sld (i + 4) hb rfl (by omega) hL dL_law_124 rfl ?_
  refine r_aload_n dL_law_125 rfl (by first | exact zRv_ref _ | exact zRv_null | exact zRv_rf _ | assumption) rfl ?_
  refine x_callW (a := 268 * m) (a' := 2130 * m) ML_element 6 [_, _, _, _, _, _] (rest := []) lsL_49 (w_element E sg (d - 1) (by omega) x (xs (i + 1)) (xs (i + 2)) (xs (i + 3)) (xs (i + 4)) T Rs B w hD) rfl rfl (by first | exact Nat.le_of_ble_eq_true rfl | (simp [zcat_rf, Value.category]; done)) (by omega) (by omega) (by omega) dL_law_126 rfl (fun v_ w_ sg_ hq_ => ?_)
  obtain ⟨w1, hw1⟩ : ∃ y, y = w_ := ⟨_, rfl⟩
  subst hw1
  obtain ⟨v1, hv1⟩ : ∃ y, y = v_ := ⟨_, rfl⟩
  subst hv1
  obtain ⟨k, rfl⟩ := weQ.int hq_
  have h1 := hq_
  obtain ⟨rfl, -⟩ := hq_
  refine r_istore (ls' := [_, _, _, _, _, _, _, _]) dL_law_129 (Nat.le_of_ble_eq_true rfl) rfl rfl ?_
  refine r_aload_n dL_law_131 rfl (by first | exact zRv_ref _ | exact zRv_null | exact zRv_rf _ | assumption) rfl ?_
  refine r_aload_n dL_law_132 rfl (zRv_ref _) rfl ?_
  refine r_iload dL_law_133 rfl rfl ?_
  refine r_iconst dL_law_135 kc_1 rfl ?_
  refine r_iaddN dL_law_136 rfl ?_
  refine r_sld (i + 1) hb rfl (by omega) hL dL_law_137 rfl ?_
  refine r_aload_n dL_law_138 rfl (zRv_ref _) rfl ?_
  refine r_iload dL_law_139 rfl rfl ?_
  refine r_iconst dL_law_141 kc_2 rfl ?_
  refine r_iaddN dL_law_142 rfl ?_
  refine r_sld (i + 2) hb rfl (by omega) hL dL_law_143 rfl ?_
  refine r_aload_n dL_law_144 rfl (zRv_ref _) rfl ?_
  refine r_iload dL_law_145 rfl rfl ?_
  refine r_iconst dL_law_147 kc_3 rfl ?_
  refine r_iaddN dL_law_148 rfl ?_
  refine r_sld (i + 3) hb rfl (by omega) hL dL_law_149 rfl ?_
  refine r_aload_n dL_law_150 rfl (zRv_ref _) rfl ?_
  refine r_iload dL_law_151 rfl rfl ?_
  refine r_iconst dL_law_153 kc_4 rfl ?_
  refine r_iaddN dL_law_154 rfl ?_
  refine r_sld (i + 4) hb rfl (by omega) hL dL_law_155 rfl ?_
  refine r_callV MX10_element 4 (a := 268 * m) (a' := 2130 * m) [_, _, _, _] lvL_54 (Or.inr (Or.inl ⟨hm, rfl⟩)) (q_element E (x + 13) hm w1 sg (d - 1) (by omega) (xs (i + 1)) (xs (i + 2)) (xs (i + 3)) (xs (i + 4)) T Rs B hI) rfl rfl (by first | exact Nat.le_of_ble_eq_true rfl | (simp [zcat_rf, Value.category]; done)) (by omega) (by first | omega | exact Nat.le_of_eq ((Nat.add_comm _ _).trans (Nat.succ_mul _ _).symm)) (by first | omega | exact Nat.le_of_eq ((Nat.add_comm _ _).trans (Nat.succ_mul _ _).symm)) dL_law_156 rfl (fun v_ w_ sg_ hq_ => ?_)
  skip
  obtain ⟨sg2, hs2⟩ : ∃ y, y = sg_ := ⟨_, rfl⟩
  subst hs2
  have h2 := hq_
  obtain ⟨rfl, ⟨y, rfl⟩, -⟩ := hq_
  have hj := jn_element h1 h2 hr
  obtain ⟨T2, hW⟩ := hj.2.2
  have ho1 : zk w1 (x + 54) = 24 := hW.1.o.2.1
  have ho2 : zln w1 (x + 54) = 1 := hW.1.o.2.2.1
  refine r_istore (ls' := [_, _, _, _, _, _, _, _]) dL_law_159 (Nat.le_of_ble_eq_true rfl) rfl rfl ?_
  refine r_aload_n dL_law_161 rfl (by first | exact zRv_ref _ | exact zRv_null | exact zRv_rf _ | assumption) rfl ?_
  refine r_callV MX10_thrown 0 (a := 268 * m) (a' := 2130 * m) [] lvL_55 (Or.inr (Or.inl ⟨hm, rfl⟩)) (q_thrown E (x + 13) hm w1 sg2 (d - 1)) rfl rfl (by first | exact Nat.le_of_ble_eq_true rfl | (simp [zcat_rf, Value.category]; done)) (by omega) (by first | omega | exact Nat.le_of_eq ((Nat.add_comm _ _).trans (Nat.succ_mul _ _).symm)) (by first | omega | exact Nat.le_of_eq ((Nat.add_comm _ _).trans (Nat.succ_mul _ _).symm)) dL_law_162 rfl (fun v_ w_ sg_ hq_ => ?_)
  obtain ⟨rfl, rfl, rfl⟩ := hq_
  refine r_iload dL_law_165 rfl rfl ?_
  refine r_icmp_eq (r := 172) dL_law_167 (by decide) rfl (fun c_167 => ?_) (fun c_167 => ?_)
  · refine r_iload dL_law_172 rfl rfl ?_
    refine r_if_ne (r := 189) dL_law_174 (by decide) rfl (fun c_174 => ?_) (fun c_174 => ?_)
    · refine r_goto (r := 703) dL_law_189 (by decide) ?_
      exact K _ _ _ _ _ _ _ hW
    · refine r_aload_n dL_law_177 rfl (by first | exact zRv_ref _ | exact zRv_null | exact zRv_rf _ | assumption) rfl ?_
      refine r_iconst dL_law_178 kc_0 rfl ?_
      refine r_laldv 0 ho1 rfl (by rw [ho2]; decide) (by decide) (hj.2.1 c_174) dL_law_179 rfl ?_
      refine r_iload dL_law_180 rfl rfl ?_
      refine r_i2l dL_law_182 rfl rfl ?_
      refine r_lcmp dL_law_183 rfl ?_
      refine r_if_eq (r := 189) dL_law_184 (by decide) rfl (fun c_184 => ?_) (fun c_184 => ?_)
      · refine r_goto (r := 703) dL_law_189 (by decide) ?_
        exact K _ _ _ _ _ _ _ hW
      · exact absurd (lcmp_self _) c_184
  · exact absurd hj.1 c_167
theorem lw_rule (E : ZE) (b x L m i d : Nat) (xs : Nat → Int32) (hd : 40 ≤ d) (hb : b < E.2.1) (hm : E.2.2.2.2 = some (x + 13)) (hL : L ≤ 240) (hi : i + 4 < L) (w : ZW) (sg : ZM) (T : List PEl) (Rs : List PRule) (B : List Nat) (h : lwI w sg x T Rs B) (l6 l7 : Option Value) (K : ∀ k6 k7 w' sg' T' Rs' B', lwI w' sg' x T' Rs' B' → RW E ML_law 703 [some (.ref b), some (.ref x), some (.ref (x + 13)), some (.ref (x + 54)), some (.ref (x + 55)), some (.int (nI i)), k6, k7] [] w' sg' d (268 * m) (2130 * m) (PScr b L xs (PN E (fun v _ _ => v = some (.int 1))))) : RW E ML_law 229 [some (.ref b), some (.ref x), some (.ref (x + 13)), some (.ref (x + 54)), some (.ref (x + 55)), some (.int (nI i)), l6, l7] [] w sg d (268 * (m + 1)) (2130 * (m + 1)) (PScr b L xs (PN E (fun v _ _ => v = some (.int 1)))) := by
  obtain ⟨hD, hI, hr⟩ := h
  have k1 : zk w x = 10 := hD.desk.1
  refine r_aload_n dL_law_229 rfl (by first | exact zRv_ref _ | exact zRv_null | exact zRv_rf _ | assumption) rfl ?_
  refine r_aload_n dL_law_230 rfl (zRv_ref _) rfl ?_
  refine r_iload dL_law_231 rfl rfl ?_
  refine r_iconst dL_law_233 kc_1 rfl ?_
  refine r_iaddN dL_law_234 rfl ?_
  refine r_sld (i + 1) hb rfl (by omega) hL dL_law_235 rfl ?_
  refine r_aload_n dL_law_236 rfl (by first | exact zRv_ref _ | exact zRv_null | exact zRv_rf _ | assumption) rfl ?_
  refine x_callW (a := 268 * m) (a' := 2130 * m) ML_rule 3 [_, _, _] (rest := []) lsL_64 (w_rule E sg (d - 1) (by omega) x (xs (i + 1)) T Rs B w hD) rfl rfl (by first | exact Nat.le_of_ble_eq_true rfl | (simp [zcat_rf, Value.category]; done)) (by omega) (by omega) (by omega) dL_law_237 rfl (fun v_ w_ sg_ hq_ => ?_)
  obtain ⟨w1, hw1⟩ : ∃ y, y = w_ := ⟨_, rfl⟩
  subst hw1
  obtain ⟨v1, hv1⟩ : ∃ y, y = v_ := ⟨_, rfl⟩
  subst hv1
  obtain ⟨k, rfl⟩ := wrQ.int hq_
  have h1 := hq_
  obtain ⟨rfl, -⟩ := hq_
  refine r_istore (ls' := [_, _, _, _, _, _, _, _]) dL_law_240 (Nat.le_of_ble_eq_true rfl) rfl rfl ?_
  refine r_aload_n dL_law_242 rfl (by first | exact zRv_ref _ | exact zRv_null | exact zRv_rf _ | assumption) rfl ?_
  refine r_aload_n dL_law_243 rfl (zRv_ref _) rfl ?_
  refine r_iload dL_law_244 rfl rfl ?_
  refine r_iconst dL_law_246 kc_1 rfl ?_
  refine r_iaddN dL_law_247 rfl ?_
  refine r_sld (i + 1) hb rfl (by omega) hL dL_law_248 rfl ?_
  refine r_callV MX10_rule 1 (a := 268 * m) (a' := 2130 * m) [_] lvL_67 (Or.inr (Or.inl ⟨hm, rfl⟩)) (q_rule E (x + 13) hm w1 sg (d - 1) (by omega) T Rs B (xs (i + 1)) hI) rfl rfl (by first | exact Nat.le_of_ble_eq_true rfl | (simp [zcat_rf, Value.category]; done)) (by omega) (by first | omega | exact Nat.le_of_eq ((Nat.add_comm _ _).trans (Nat.succ_mul _ _).symm)) (by first | omega | exact Nat.le_of_eq ((Nat.add_comm _ _).trans (Nat.succ_mul _ _).symm)) dL_law_249 rfl (fun v_ w_ sg_ hq_ => ?_)
  skip
  obtain ⟨sg2, hs2⟩ : ∃ y, y = sg_ := ⟨_, rfl⟩
  subst hs2
  have h2 := hq_
  obtain ⟨y, hy⟩ := mruQ.int hq_
  obtain ⟨rfl, -⟩ := hq_
  subst hy
  have hj := jn_rule h1 h2 hr
  obtain ⟨R2, B2, hW⟩ := hj.2.2
  have ho1 : zk w1 (x + 54) = 24 := hW.1.o.2.1
  have ho2 : zln w1 (x + 54) = 1 := hW.1.o.2.2.1
  refine r_istore (ls' := [_, _, _, _, _, _, _, _]) dL_law_252 (Nat.le_of_ble_eq_true rfl) rfl rfl ?_
  refine r_aload_n dL_law_254 rfl (by first | exact zRv_ref _ | exact zRv_null | exact zRv_rf _ | assumption) rfl ?_
  refine r_callV MX10_thrown 0 (a := 268 * m) (a' := 2130 * m) [] lvL_55 (Or.inr (Or.inl ⟨hm, rfl⟩)) (q_thrown E (x + 13) hm w1 sg2 (d - 1)) rfl rfl (by first | exact Nat.le_of_ble_eq_true rfl | (simp [zcat_rf, Value.category]; done)) (by omega) (by first | omega | exact Nat.le_of_eq ((Nat.add_comm _ _).trans (Nat.succ_mul _ _).symm)) (by first | omega | exact Nat.le_of_eq ((Nat.add_comm _ _).trans (Nat.succ_mul _ _).symm)) dL_law_255 rfl (fun v_ w_ sg_ hq_ => ?_)
  obtain ⟨rfl, rfl, rfl⟩ := hq_
  refine r_iload dL_law_258 rfl rfl ?_
  refine r_icmp_eq (r := 265) dL_law_260 (by decide) rfl (fun c_260 => ?_) (fun c_260 => ?_)
  · refine r_iload dL_law_265 rfl rfl ?_
    refine r_if_ne (r := 282) dL_law_267 (by decide) rfl (fun c_267 => ?_) (fun c_267 => ?_)
    · refine r_goto (r := 703) dL_law_282 (by decide) ?_
      exact K _ _ _ _ _ _ _ hW
    · refine r_aload_n dL_law_270 rfl (by first | exact zRv_ref _ | exact zRv_null | exact zRv_rf _ | assumption) rfl ?_
      refine r_iconst dL_law_271 kc_0 rfl ?_
      refine r_laldv 0 ho1 rfl (by rw [ho2]; decide) (by decide) (hj.2.1 c_267) dL_law_272 rfl ?_
      refine r_iload dL_law_273 rfl rfl ?_
      refine r_i2l dL_law_275 rfl rfl ?_
      refine r_lcmp dL_law_276 rfl ?_
      refine r_if_eq (r := 282) dL_law_277 (by decide) rfl (fun c_277 => ?_) (fun c_277 => ?_)
      · refine r_goto (r := 703) dL_law_282 (by decide) ?_
        exact K _ _ _ _ _ _ _ hW
      · exact absurd (lcmp_self _) c_277
  · exact absurd hj.1 c_260
theorem lw_drop (E : ZE) (b x L m i d : Nat) (xs : Nat → Int32) (hd : 40 ≤ d) (hb : b < E.2.1) (hm : E.2.2.2.2 = some (x + 13)) (hL : L ≤ 240) (hi : i + 4 < L) (w : ZW) (sg : ZM) (T : List PEl) (Rs : List PRule) (B : List Nat) (h : lwI w sg x T Rs B) (l6 l7 : Option Value) (K : ∀ k6 k7 w' sg' T' Rs' B', lwI w' sg' x T' Rs' B' → RW E ML_law 703 [some (.ref b), some (.ref x), some (.ref (x + 13)), some (.ref (x + 54)), some (.ref (x + 55)), some (.int (nI i)), k6, k7] [] w' sg' d (268 * m) (2130 * m) (PScr b L xs (PN E (fun v _ _ => v = some (.int 1))))) : RW E ML_law 285 [some (.ref b), some (.ref x), some (.ref (x + 13)), some (.ref (x + 54)), some (.ref (x + 55)), some (.int (nI i)), l6, l7] [] w sg d (268 * (m + 1)) (2130 * (m + 1)) (PScr b L xs (PN E (fun v _ _ => v = some (.int 1)))) := by
  obtain ⟨hD, hI, hr⟩ := h
  have k1 : zk w x = 10 := hD.desk.1
  refine r_aload_n dL_law_285 rfl (by first | exact zRv_ref _ | exact zRv_null | exact zRv_rf _ | assumption) rfl ?_
  refine r_aload_n dL_law_286 rfl (zRv_ref _) rfl ?_
  refine r_iload dL_law_287 rfl rfl ?_
  refine r_iconst dL_law_289 kc_1 rfl ?_
  refine r_iaddN dL_law_290 rfl ?_
  refine r_sld (i + 1) hb rfl (by omega) hL dL_law_291 rfl ?_
  refine x_callW (a := 268 * m) (a' := 2130 * m) ML_drop 2 [_, _] (rest := []) lsL_68 (w_drop E sg (d - 1) (by omega) x (xs (i + 1)) T Rs B w hD) rfl rfl (by first | exact Nat.le_of_ble_eq_true rfl | (simp [zcat_rf, Value.category]; done)) (by omega) (by omega) (by omega) dL_law_292 rfl (fun v_ w_ sg_ hq_ => ?_)
  obtain ⟨w1, hw1⟩ : ∃ y, y = w_ := ⟨_, rfl⟩
  subst hw1
  obtain ⟨v1, hv1⟩ : ∃ y, y = v_ := ⟨_, rfl⟩
  subst hv1
  obtain ⟨k, rfl⟩ := wdrQ.int hq_
  have h1 := hq_
  obtain ⟨rfl, -⟩ := hq_
  refine r_istore (ls' := [_, _, _, _, _, _, _, _]) dL_law_295 (Nat.le_of_ble_eq_true rfl) rfl rfl ?_
  refine r_aload_n dL_law_297 rfl (by first | exact zRv_ref _ | exact zRv_null | exact zRv_rf _ | assumption) rfl ?_
  refine r_aload_n dL_law_298 rfl (zRv_ref _) rfl ?_
  refine r_iload dL_law_299 rfl rfl ?_
  refine r_iconst dL_law_301 kc_1 rfl ?_
  refine r_iaddN dL_law_302 rfl ?_
  refine r_sld (i + 1) hb rfl (by omega) hL dL_law_303 rfl ?_
  refine r_callV MX10_drop 1 (a := 268 * m) (a' := 2130 * m) [_] lvL_71 (Or.inr (Or.inl ⟨hm, rfl⟩)) (q_drop E (x + 13) hm w1 sg (d - 1) (by omega) T Rs B (xs (i + 1)) hI) rfl rfl (by first | exact Nat.le_of_ble_eq_true rfl | (simp [zcat_rf, Value.category]; done)) (by omega) (by first | omega | exact Nat.le_of_eq ((Nat.add_comm _ _).trans (Nat.succ_mul _ _).symm)) (by first | omega | exact Nat.le_of_eq ((Nat.add_comm _ _).trans (Nat.succ_mul _ _).symm)) dL_law_304 rfl (fun v_ w_ sg_ hq_ => ?_)
  skip
  obtain ⟨sg2, hs2⟩ : ∃ y, y = sg_ := ⟨_, rfl⟩
  subst hs2
  have h2 := hq_
  obtain ⟨rfl, rfl, -⟩ := hq_
  have hj := jn_drop h1 h2 hr
  obtain ⟨R2, hW⟩ := hj.2
  refine r_aload_n dL_law_307 rfl (by first | exact zRv_ref _ | exact zRv_null | exact zRv_rf _ | assumption) rfl ?_
  refine r_callV MX10_thrown 0 (a := 268 * m) (a' := 2130 * m) [] lvL_55 (Or.inr (Or.inl ⟨hm, rfl⟩)) (q_thrown E (x + 13) hm w1 sg2 (d - 1)) rfl rfl (by first | exact Nat.le_of_ble_eq_true rfl | (simp [zcat_rf, Value.category]; done)) (by omega) (by first | omega | exact Nat.le_of_eq ((Nat.add_comm _ _).trans (Nat.succ_mul _ _).symm)) (by first | omega | exact Nat.le_of_eq ((Nat.add_comm _ _).trans (Nat.succ_mul _ _).symm)) dL_law_308 rfl (fun v_ w_ sg_ hq_ => ?_)
  obtain ⟨rfl, rfl, rfl⟩ := hq_
  refine r_iload dL_law_311 rfl rfl ?_
  refine r_icmp_eq (r := 318) dL_law_313 (by decide) rfl (fun c_313 => ?_) (fun c_313 => ?_)
  · refine r_goto (r := 703) dL_law_318 (by decide) ?_
    exact K _ _ _ _ _ _ _ hW
  · exact absurd hj.1 c_313
theorem lw_matches (E : ZE) (b x L m i d : Nat) (xs : Nat → Int32) (hd : 40 ≤ d) (hb : b < E.2.1) (hm : E.2.2.2.2 = some (x + 13)) (hL : L ≤ 240) (hi : i + 4 < L) (w : ZW) (sg : ZM) (T : List PEl) (Rs : List PRule) (B : List Nat) (h : lwI w sg x T Rs B) (l6 l7 : Option Value) (K : ∀ k6 k7 w' sg' T' Rs' B', lwI w' sg' x T' Rs' B' → RW E ML_law 703 [some (.ref b), some (.ref x), some (.ref (x + 13)), some (.ref (x + 54)), some (.ref (x + 55)), some (.int (nI i)), k6, k7] [] w' sg' d (268 * m) (2130 * m) (PScr b L xs (PN E (fun v _ _ => v = some (.int 1))))) : RW E ML_law 321 [some (.ref b), some (.ref x), some (.ref (x + 13)), some (.ref (x + 54)), some (.ref (x + 55)), some (.int (nI i)), l6, l7] [] w sg d (268 * (m + 1)) (2130 * (m + 1)) (PScr b L xs (PN E (fun v _ _ => v = some (.int 1)))) := by
  obtain ⟨hD, hI, hr⟩ := h
  have k1 : zk w x = 10 := hD.desk.1
  refine r_aload_n dL_law_321 rfl (by first | exact zRv_ref _ | exact zRv_null | exact zRv_rf _ | assumption) rfl ?_
  refine r_aload_n dL_law_322 rfl (zRv_ref _) rfl ?_
  refine r_iload dL_law_323 rfl rfl ?_
  refine r_iconst dL_law_325 kc_1 rfl ?_
  refine r_iaddN dL_law_326 rfl ?_
  refine r_sld (i + 1) hb rfl (by omega) hL dL_law_327 rfl ?_
  refine r_aload_n dL_law_328 rfl (by first | exact zRv_ref _ | exact zRv_null | exact zRv_rf _ | assumption) rfl ?_
  refine x_callW (a := 268 * m) (a' := 2130 * m) ML_matches 3 [_, _, _] (rest := []) lsL_72 (w_matches E sg (d - 1) (by omega) x (xs (i + 1)) T Rs B w hD) rfl rfl (by first | exact Nat.le_of_ble_eq_true rfl | (simp [zcat_rf, Value.category]; done)) (by omega) (by omega) (by omega) dL_law_329 rfl (fun v_ w_ sg_ hq_ => ?_)
  obtain ⟨w1, hw1⟩ : ∃ y, y = w_ := ⟨_, rfl⟩
  subst hw1
  obtain ⟨v1, hv1⟩ : ∃ y, y = v_ := ⟨_, rfl⟩
  subst hv1
  obtain ⟨k, rfl⟩ := wmQ.int hq_
  have h1 := hq_
  obtain ⟨rfl, -⟩ := hq_
  refine r_istore (ls' := [_, _, _, _, _, _, _, _]) dL_law_332 (Nat.le_of_ble_eq_true rfl) rfl rfl ?_
  refine r_aload_n dL_law_334 rfl (by first | exact zRv_ref _ | exact zRv_null | exact zRv_rf _ | assumption) rfl ?_
  refine r_aload_n dL_law_335 rfl (zRv_ref _) rfl ?_
  refine r_iload dL_law_336 rfl rfl ?_
  refine r_iconst dL_law_338 kc_1 rfl ?_
  refine r_iaddN dL_law_339 rfl ?_
  refine r_sld (i + 1) hb rfl (by omega) hL dL_law_340 rfl ?_
  refine r_callV MX10_matches 1 (a := 268 * m) (a' := 2130 * m) [_] lvL_74 (Or.inr (Or.inl ⟨hm, rfl⟩)) (q_matches E (x + 13) hm w1 sg (d - 1) (by omega) T Rs B (xs (i + 1)) hI hr) rfl rfl (by first | exact Nat.le_of_ble_eq_true rfl | (simp [zcat_rf, Value.category]; done)) (by omega) (by first | omega | exact Nat.le_of_eq ((Nat.add_comm _ _).trans (Nat.succ_mul _ _).symm)) (by first | omega | exact Nat.le_of_eq ((Nat.add_comm _ _).trans (Nat.succ_mul _ _).symm)) dL_law_341 rfl (fun v_ w_ sg_ hq_ => ?_)
  skip
  obtain ⟨sg2, hs2⟩ : ∃ y, y = sg_ := ⟨_, rfl⟩
  subst hs2
  have h2 := hq_
  obtain ⟨rfl, -, ⟨y, rfl⟩, -⟩ := hq_
  have hj := jn_matches h1 h2 hr
  have hW := hj.2.2
  have ho1 : zk w1 (x + 54) = 24 := hW.1.o.2.1
  have ho2 : zln w1 (x + 54) = 1 := hW.1.o.2.2.1
  refine r_istore (ls' := [_, _, _, _, _, _, _, _]) dL_law_344 (Nat.le_of_ble_eq_true rfl) rfl rfl ?_
  refine r_aload_n dL_law_346 rfl (by first | exact zRv_ref _ | exact zRv_null | exact zRv_rf _ | assumption) rfl ?_
  refine r_callV MX10_thrown 0 (a := 268 * m) (a' := 2130 * m) [] lvL_55 (Or.inr (Or.inl ⟨hm, rfl⟩)) (q_thrown E (x + 13) hm w1 sg2 (d - 1)) rfl rfl (by first | exact Nat.le_of_ble_eq_true rfl | (simp [zcat_rf, Value.category]; done)) (by omega) (by first | omega | exact Nat.le_of_eq ((Nat.add_comm _ _).trans (Nat.succ_mul _ _).symm)) (by first | omega | exact Nat.le_of_eq ((Nat.add_comm _ _).trans (Nat.succ_mul _ _).symm)) dL_law_347 rfl (fun v_ w_ sg_ hq_ => ?_)
  obtain ⟨rfl, rfl, rfl⟩ := hq_
  refine r_iload dL_law_350 rfl rfl ?_
  refine r_icmp_eq (r := 357) dL_law_352 (by decide) rfl (fun c_352 => ?_) (fun c_352 => ?_)
  · refine r_iload dL_law_357 rfl rfl ?_
    refine r_if_ne (r := 381) dL_law_359 (by decide) rfl (fun c_359 => ?_) (fun c_359 => ?_)
    · refine r_goto (r := 703) dL_law_381 (by decide) ?_
      exact K _ _ _ _ _ _ _ hW
    · refine r_aload_n dL_law_362 rfl (by first | exact zRv_ref _ | exact zRv_null | exact zRv_rf _ | assumption) rfl ?_
      refine r_iconst dL_law_363 kc_0 rfl ?_
      refine r_laldv 0 ho1 rfl (by rw [ho2]; decide) (by decide) (hj.2.1 c_359) dL_law_364 rfl ?_
      refine r_iload dL_law_365 rfl rfl ?_
      refine r_if_eqB (r := 374) dL_law_367 (by decide) rfl (fun c_367 => ?_) (fun c_367 => ?_)
      · refine r_lconst dL_law_374 rfl rfl ?_
        refine r_lcmp dL_law_375 rfl ?_
        refine r_if_eq (r := 381) dL_law_376 (by decide) rfl (fun c_376 => ?_) (fun c_376 => ?_)
        · refine r_goto (r := 703) dL_law_381 (by decide) ?_
          exact K _ _ _ _ _ _ _ hW
        · exact absurd (by rw [c_367]; exact lcmp_self 0) c_376
      · refine r_lconst dL_law_370 rfl rfl ?_
        refine r_goto (r := 375) dL_law_371 (by decide) ?_
        refine r_lcmp dL_law_375 rfl ?_
        refine r_if_eq (r := 381) dL_law_376 (by decide) rfl (fun c_376 => ?_) (fun c_376 => ?_)
        · refine r_goto (r := 703) dL_law_381 (by decide) ?_
          exact K _ _ _ _ _ _ _ hW
        · exact absurd (by rw [c_367]; exact lcmp_self 1) c_376
  · exact absurd hj.1 c_352
theorem lw_weight (E : ZE) (b x L m i d : Nat) (xs : Nat → Int32) (hd : 40 ≤ d) (hb : b < E.2.1) (hm : E.2.2.2.2 = some (x + 13)) (hL : L ≤ 240) (hi : i + 4 < L) (w : ZW) (sg : ZM) (T : List PEl) (Rs : List PRule) (B : List Nat) (h : lwI w sg x T Rs B) (l6 l7 : Option Value) (K : ∀ k6 k7 w' sg' T' Rs' B', lwI w' sg' x T' Rs' B' → RW E ML_law 703 [some (.ref b), some (.ref x), some (.ref (x + 13)), some (.ref (x + 54)), some (.ref (x + 55)), some (.int (nI i)), k6, k7] [] w' sg' d (268 * m) (2130 * m) (PScr b L xs (PN E (fun v _ _ => v = some (.int 1))))) : RW E ML_law 384 [some (.ref b), some (.ref x), some (.ref (x + 13)), some (.ref (x + 54)), some (.ref (x + 55)), some (.int (nI i)), l6, l7] [] w sg d (268 * (m + 1)) (2130 * (m + 1)) (PScr b L xs (PN E (fun v _ _ => v = some (.int 1)))) := by
  obtain ⟨hD, hI, hr⟩ := h
  have k1 : zk w x = 10 := hD.desk.1
  refine r_aload_n dL_law_384 rfl (by first | exact zRv_ref _ | exact zRv_null | exact zRv_rf _ | assumption) rfl ?_
  refine r_aload_n dL_law_385 rfl (zRv_ref _) rfl ?_
  refine r_iload dL_law_386 rfl rfl ?_
  refine r_iconst dL_law_388 kc_1 rfl ?_
  refine r_iaddN dL_law_389 rfl ?_
  refine r_sld (i + 1) hb rfl (by omega) hL dL_law_390 rfl ?_
  refine r_aload_n dL_law_391 rfl (zRv_ref _) rfl ?_
  refine r_iload dL_law_392 rfl rfl ?_
  refine r_iconst dL_law_394 kc_2 rfl ?_
  refine r_iaddN dL_law_395 rfl ?_
  refine r_sld (i + 2) hb rfl (by omega) hL dL_law_396 rfl ?_
  refine r_aload_n dL_law_397 rfl (by first | exact zRv_ref _ | exact zRv_null | exact zRv_rf _ | assumption) rfl ?_
  refine x_callW (a := 268 * m) (a' := 2130 * m) ML_weight 4 [_, _, _, _] (rest := []) lsL_75 (w_weight E sg (d - 1) (by omega) x (xs (i + 1)) (xs (i + 2)) T Rs B w hD) rfl rfl (by first | exact Nat.le_of_ble_eq_true rfl | (simp [zcat_rf, Value.category]; done)) (by omega) (by omega) (by omega) dL_law_398 rfl (fun v_ w_ sg_ hq_ => ?_)
  obtain ⟨w1, hw1⟩ : ∃ y, y = w_ := ⟨_, rfl⟩
  subst hw1
  obtain ⟨v1, hv1⟩ : ∃ y, y = v_ := ⟨_, rfl⟩
  subst hv1
  obtain ⟨k, rfl⟩ := wwQ.int hq_
  have h1 := hq_
  obtain ⟨rfl, -⟩ := hq_
  refine r_istore (ls' := [_, _, _, _, _, _, _, _]) dL_law_401 (Nat.le_of_ble_eq_true rfl) rfl rfl ?_
  refine r_aload_n dL_law_403 rfl (by first | exact zRv_ref _ | exact zRv_null | exact zRv_rf _ | assumption) rfl ?_
  refine r_aload_n dL_law_404 rfl (zRv_ref _) rfl ?_
  refine r_iload dL_law_405 rfl rfl ?_
  refine r_iconst dL_law_407 kc_1 rfl ?_
  refine r_iaddN dL_law_408 rfl ?_
  refine r_sld (i + 1) hb rfl (by omega) hL dL_law_409 rfl ?_
  refine r_aload_n dL_law_410 rfl (zRv_ref _) rfl ?_
  refine r_iload dL_law_411 rfl rfl ?_
  refine r_iconst dL_law_413 kc_2 rfl ?_
  refine r_iaddN dL_law_414 rfl ?_
  refine r_sld (i + 2) hb rfl (by omega) hL dL_law_415 rfl ?_
  refine r_callV MX10_weight 2 (a := 268 * m) (a' := 2130 * m) [_, _] lvL_78 (Or.inr (Or.inl ⟨hm, rfl⟩)) (q_weight E (x + 13) hm w1 sg (d - 1) (by omega) T Rs B (xs (i + 1)) (xs (i + 2)) hI hr) rfl rfl (by first | exact Nat.le_of_ble_eq_true rfl | (simp [zcat_rf, Value.category]; done)) (by omega) (by first | omega | exact Nat.le_of_eq ((Nat.add_comm _ _).trans (Nat.succ_mul _ _).symm)) (by first | omega | exact Nat.le_of_eq ((Nat.add_comm _ _).trans (Nat.succ_mul _ _).symm)) dL_law_416 rfl (fun v_ w_ sg_ hq_ => ?_)
  skip
  obtain ⟨sg2, hs2⟩ : ∃ y, y = sg_ := ⟨_, rfl⟩
  subst hs2
  have h2 := hq_
  obtain ⟨y, hy⟩ := mwtQ.int hq_
  obtain ⟨rfl, -⟩ := hq_
  subst hy
  have hj := jn_weight h1 h2 hr
  have hW := hj.2.2
  have ho1 : zk w1 (x + 54) = 24 := hW.1.o.2.1
  have ho2 : zln w1 (x + 54) = 1 := hW.1.o.2.2.1
  refine r_istore (ls' := [_, _, _, _, _, _, _, _]) dL_law_419 (Nat.le_of_ble_eq_true rfl) rfl rfl ?_
  refine r_aload_n dL_law_421 rfl (by first | exact zRv_ref _ | exact zRv_null | exact zRv_rf _ | assumption) rfl ?_
  refine r_callV MX10_thrown 0 (a := 268 * m) (a' := 2130 * m) [] lvL_55 (Or.inr (Or.inl ⟨hm, rfl⟩)) (q_thrown E (x + 13) hm w1 sg2 (d - 1)) rfl rfl (by first | exact Nat.le_of_ble_eq_true rfl | (simp [zcat_rf, Value.category]; done)) (by omega) (by first | omega | exact Nat.le_of_eq ((Nat.add_comm _ _).trans (Nat.succ_mul _ _).symm)) (by first | omega | exact Nat.le_of_eq ((Nat.add_comm _ _).trans (Nat.succ_mul _ _).symm)) dL_law_422 rfl (fun v_ w_ sg_ hq_ => ?_)
  obtain ⟨rfl, rfl, rfl⟩ := hq_
  refine r_iload dL_law_425 rfl rfl ?_
  refine r_icmp_eq (r := 432) dL_law_427 (by decide) rfl (fun c_427 => ?_) (fun c_427 => ?_)
  · refine r_iload dL_law_432 rfl rfl ?_
    refine r_if_ne (r := 449) dL_law_434 (by decide) rfl (fun c_434 => ?_) (fun c_434 => ?_)
    · refine r_goto (r := 703) dL_law_449 (by decide) ?_
      exact K _ _ _ _ _ _ _ hW
    · refine r_aload_n dL_law_437 rfl (by first | exact zRv_ref _ | exact zRv_null | exact zRv_rf _ | assumption) rfl ?_
      refine r_iconst dL_law_438 kc_0 rfl ?_
      refine r_laldv 0 ho1 rfl (by rw [ho2]; decide) (by decide) (hj.2.1 c_434) dL_law_439 rfl ?_
      refine r_iload dL_law_440 rfl rfl ?_
      refine r_i2l dL_law_442 rfl rfl ?_
      refine r_lcmp dL_law_443 rfl ?_
      refine r_if_eq (r := 449) dL_law_444 (by decide) rfl (fun c_444 => ?_) (fun c_444 => ?_)
      · refine r_goto (r := 703) dL_law_449 (by decide) ?_
        exact K _ _ _ _ _ _ _ hW
      · exact absurd (lcmp_self _) c_444
  · exact absurd hj.1 c_427
theorem lw_winner (E : ZE) (b x L m i d : Nat) (xs : Nat → Int32) (hd : 40 ≤ d) (hb : b < E.2.1) (hm : E.2.2.2.2 = some (x + 13)) (hL : L ≤ 240) (hi : i + 4 < L) (w : ZW) (sg : ZM) (T : List PEl) (Rs : List PRule) (B : List Nat) (h : lwI w sg x T Rs B) (l6 l7 : Option Value) (K : ∀ k6 k7 w' sg' T' Rs' B', lwI w' sg' x T' Rs' B' → RW E ML_law 703 [some (.ref b), some (.ref x), some (.ref (x + 13)), some (.ref (x + 54)), some (.ref (x + 55)), some (.int (nI i)), k6, k7] [] w' sg' d (268 * m) (2130 * m) (PScr b L xs (PN E (fun v _ _ => v = some (.int 1))))) : RW E ML_law 452 [some (.ref b), some (.ref x), some (.ref (x + 13)), some (.ref (x + 54)), some (.ref (x + 55)), some (.int (nI i)), l6, l7] [] w sg d (268 * (m + 1)) (2130 * (m + 1)) (PScr b L xs (PN E (fun v _ _ => v = some (.int 1)))) := by
  obtain ⟨hD, hI, hr⟩ := h
  have k1 : zk w x = 10 := hD.desk.1
  refine r_aload_n dL_law_452 rfl (by first | exact zRv_ref _ | exact zRv_null | exact zRv_rf _ | assumption) rfl ?_
  refine r_aload_n dL_law_453 rfl (zRv_ref _) rfl ?_
  refine r_iload dL_law_454 rfl rfl ?_
  refine r_iconst dL_law_456 kc_1 rfl ?_
  refine r_iaddN dL_law_457 rfl ?_
  refine r_sld (i + 1) hb rfl (by omega) hL dL_law_458 rfl ?_
  refine r_aload_n dL_law_459 rfl (zRv_ref _) rfl ?_
  refine r_iload dL_law_460 rfl rfl ?_
  refine r_iconst dL_law_462 kc_2 rfl ?_
  refine r_iaddN dL_law_463 rfl ?_
  refine r_sld (i + 2) hb rfl (by omega) hL dL_law_464 rfl ?_
  refine r_aload_n dL_law_465 rfl (by first | exact zRv_ref _ | exact zRv_null | exact zRv_rf _ | assumption) rfl ?_
  refine x_callW (a := 268 * m) (a' := 2130 * m) ML_winner 4 [_, _, _, _] (rest := []) lsL_79 (w_winner E sg (d - 1) (by omega) x (xs (i + 1)) (xs (i + 2)) T Rs B w hD) rfl rfl (by first | exact Nat.le_of_ble_eq_true rfl | (simp [zcat_rf, Value.category]; done)) (by omega) (by omega) (by omega) dL_law_466 rfl (fun v_ w_ sg_ hq_ => ?_)
  obtain ⟨w1, hw1⟩ : ∃ y, y = w_ := ⟨_, rfl⟩
  subst hw1
  obtain ⟨v1, hv1⟩ : ∃ y, y = v_ := ⟨_, rfl⟩
  subst hv1
  obtain ⟨k, rfl⟩ := wnQ.int hq_
  have h1 := hq_
  obtain ⟨rfl, -⟩ := hq_
  refine r_istore (ls' := [_, _, _, _, _, _, _, _]) dL_law_469 (Nat.le_of_ble_eq_true rfl) rfl rfl ?_
  refine r_aload_n dL_law_471 rfl (by first | exact zRv_ref _ | exact zRv_null | exact zRv_rf _ | assumption) rfl ?_
  refine r_aload_n dL_law_472 rfl (zRv_ref _) rfl ?_
  refine r_iload dL_law_473 rfl rfl ?_
  refine r_iconst dL_law_475 kc_1 rfl ?_
  refine r_iaddN dL_law_476 rfl ?_
  refine r_sld (i + 1) hb rfl (by omega) hL dL_law_477 rfl ?_
  refine r_aload_n dL_law_478 rfl (zRv_ref _) rfl ?_
  refine r_iload dL_law_479 rfl rfl ?_
  refine r_iconst dL_law_481 kc_2 rfl ?_
  refine r_iaddN dL_law_482 rfl ?_
  refine r_sld (i + 2) hb rfl (by omega) hL dL_law_483 rfl ?_
  refine r_callV MX10_winner 2 (a := 268 * m) (a' := 2130 * m) [_, _] lvL_81 (Or.inr (Or.inl ⟨hm, rfl⟩)) (q_winner E (x + 13) hm w1 sg (d - 1) (by omega) T Rs B (xs (i + 1)) (xs (i + 2)) hI hr) rfl rfl (by first | exact Nat.le_of_ble_eq_true rfl | (simp [zcat_rf, Value.category]; done)) (by omega) (by first | omega | exact Nat.le_of_eq ((Nat.add_comm _ _).trans (Nat.succ_mul _ _).symm)) (by first | omega | exact Nat.le_of_eq ((Nat.add_comm _ _).trans (Nat.succ_mul _ _).symm)) dL_law_484 rfl (fun v_ w_ sg_ hq_ => ?_)
  skip
  obtain ⟨sg2, hs2⟩ : ∃ y, y = sg_ := ⟨_, rfl⟩
  subst hs2
  have h2 := hq_
  obtain ⟨y, hy⟩ := mwiQ.int hq_
  obtain ⟨rfl, -⟩ := hq_
  subst hy
  have hj := jn_winner h1 h2 hr
  have hW := hj.2.2
  have ho1 : zk w1 (x + 54) = 24 := hW.1.o.2.1
  have ho2 : zln w1 (x + 54) = 1 := hW.1.o.2.2.1
  refine r_istore (ls' := [_, _, _, _, _, _, _, _]) dL_law_487 (Nat.le_of_ble_eq_true rfl) rfl rfl ?_
  refine r_aload_n dL_law_489 rfl (by first | exact zRv_ref _ | exact zRv_null | exact zRv_rf _ | assumption) rfl ?_
  refine r_callV MX10_thrown 0 (a := 268 * m) (a' := 2130 * m) [] lvL_55 (Or.inr (Or.inl ⟨hm, rfl⟩)) (q_thrown E (x + 13) hm w1 sg2 (d - 1)) rfl rfl (by first | exact Nat.le_of_ble_eq_true rfl | (simp [zcat_rf, Value.category]; done)) (by omega) (by first | omega | exact Nat.le_of_eq ((Nat.add_comm _ _).trans (Nat.succ_mul _ _).symm)) (by first | omega | exact Nat.le_of_eq ((Nat.add_comm _ _).trans (Nat.succ_mul _ _).symm)) dL_law_490 rfl (fun v_ w_ sg_ hq_ => ?_)
  obtain ⟨rfl, rfl, rfl⟩ := hq_
  refine r_iload dL_law_493 rfl rfl ?_
  refine r_icmp_eq (r := 500) dL_law_495 (by decide) rfl (fun c_495 => ?_) (fun c_495 => ?_)
  · refine r_iload dL_law_500 rfl rfl ?_
    refine r_if_ne (r := 517) dL_law_502 (by decide) rfl (fun c_502 => ?_) (fun c_502 => ?_)
    · refine r_goto (r := 703) dL_law_517 (by decide) ?_
      exact K _ _ _ _ _ _ _ hW
    · refine r_aload_n dL_law_505 rfl (by first | exact zRv_ref _ | exact zRv_null | exact zRv_rf _ | assumption) rfl ?_
      refine r_iconst dL_law_506 kc_0 rfl ?_
      refine r_laldv 0 ho1 rfl (by rw [ho2]; decide) (by decide) (hj.2.1 c_502) dL_law_507 rfl ?_
      refine r_iload dL_law_508 rfl rfl ?_
      refine r_i2l dL_law_510 rfl rfl ?_
      refine r_lcmp dL_law_511 rfl ?_
      refine r_if_eq (r := 517) dL_law_512 (by decide) rfl (fun c_512 => ?_) (fun c_512 => ?_)
      · refine r_goto (r := 703) dL_law_517 (by decide) ?_
        exact K _ _ _ _ _ _ _ hW
      · exact absurd (lcmp_self _) c_512
  · exact absurd hj.1 c_495
theorem lw_value (E : ZE) (b x L m i d : Nat) (xs : Nat → Int32) (hd : 40 ≤ d) (hb : b < E.2.1) (hm : E.2.2.2.2 = some (x + 13)) (hL : L ≤ 240) (hi : i + 4 < L) (w : ZW) (sg : ZM) (T : List PEl) (Rs : List PRule) (B : List Nat) (h : lwI w sg x T Rs B) (l6 l7 : Option Value) (K : ∀ k6 k7 w' sg' T' Rs' B', lwI w' sg' x T' Rs' B' → RW E ML_law 703 [some (.ref b), some (.ref x), some (.ref (x + 13)), some (.ref (x + 54)), some (.ref (x + 55)), some (.int (nI i)), k6, k7] [] w' sg' d (268 * m) (2130 * m) (PScr b L xs (PN E (fun v _ _ => v = some (.int 1))))) : RW E ML_law 520 [some (.ref b), some (.ref x), some (.ref (x + 13)), some (.ref (x + 54)), some (.ref (x + 55)), some (.int (nI i)), l6, l7] [] w sg d (268 * (m + 1)) (2130 * (m + 1)) (PScr b L xs (PN E (fun v _ _ => v = some (.int 1)))) := by
  obtain ⟨hD, hI, hr⟩ := h
  have k1 : zk w x = 10 := hD.desk.1
  refine r_aload_n dL_law_520 rfl (by first | exact zRv_ref _ | exact zRv_null | exact zRv_rf _ | assumption) rfl ?_
  refine r_aload_n dL_law_521 rfl (zRv_ref _) rfl ?_
  refine r_iload dL_law_522 rfl rfl ?_
  refine r_iconst dL_law_524 kc_1 rfl ?_
  refine r_iaddN dL_law_525 rfl ?_
  refine r_sld (i + 1) hb rfl (by omega) hL dL_law_526 rfl ?_
  refine r_aload_n dL_law_527 rfl (zRv_ref _) rfl ?_
  refine r_iload dL_law_528 rfl rfl ?_
  refine r_iconst dL_law_530 kc_2 rfl ?_
  refine r_iaddN dL_law_531 rfl ?_
  refine r_sld (i + 2) hb rfl (by omega) hL dL_law_532 rfl ?_
  refine r_aload dL_law_533 rfl (by first | exact zRv_ref _ | exact zRv_null | exact zRv_rf _ | assumption) rfl ?_
  refine x_callW (a := 268 * m) (a' := 2130 * m) ML_value 4 [_, _, _, _] (rest := []) lsL_82 (w_value E sg (d - 1) (by omega) x (xs (i + 1)) (xs (i + 2)) T Rs B w hD) rfl rfl (by first | exact Nat.le_of_ble_eq_true rfl | (simp [zcat_rf, Value.category]; done)) (by omega) (by omega) (by omega) dL_law_535 rfl (fun v_ w_ sg_ hq_ => ?_)
  obtain ⟨w1, hw1⟩ : ∃ y, y = w_ := ⟨_, rfl⟩
  subst hw1
  obtain ⟨v1, hv1⟩ : ∃ y, y = v_ := ⟨_, rfl⟩
  subst hv1
  obtain ⟨k, rfl⟩ := wvQ.int hq_
  have h1 := hq_
  obtain ⟨rfl, -⟩ := hq_
  refine r_istore (ls' := [_, _, _, _, _, _, _, _]) dL_law_538 (Nat.le_of_ble_eq_true rfl) rfl rfl ?_
  refine r_aload_n dL_law_540 rfl (by first | exact zRv_ref _ | exact zRv_null | exact zRv_rf _ | assumption) rfl ?_
  refine r_aload_n dL_law_541 rfl (zRv_ref _) rfl ?_
  refine r_iload dL_law_542 rfl rfl ?_
  refine r_iconst dL_law_544 kc_1 rfl ?_
  refine r_iaddN dL_law_545 rfl ?_
  refine r_sld (i + 1) hb rfl (by omega) hL dL_law_546 rfl ?_
  refine r_aload_n dL_law_547 rfl (zRv_ref _) rfl ?_
  refine r_iload dL_law_548 rfl rfl ?_
  refine r_iconst dL_law_550 kc_2 rfl ?_
  refine r_iaddN dL_law_551 rfl ?_
  refine r_sld (i + 2) hb rfl (by omega) hL dL_law_552 rfl ?_
  refine r_callV MX10_value 2 (a := 268 * m) (a' := 2130 * m) [_, _] lvL_85 (Or.inr (Or.inl ⟨hm, rfl⟩)) (q_value E (x + 13) hm w1 sg (d - 1) (by omega) T Rs B (xs (i + 1)) (xs (i + 2)) hI hr) rfl rfl (by first | exact Nat.le_of_ble_eq_true rfl | (simp [zcat_rf, Value.category]; done)) (by omega) (by first | omega | exact Nat.le_of_eq ((Nat.add_comm _ _).trans (Nat.succ_mul _ _).symm)) (by first | omega | exact Nat.le_of_eq ((Nat.add_comm _ _).trans (Nat.succ_mul _ _).symm)) dL_law_553 rfl (fun v_ w_ sg_ hq_ => ?_)
  skip
  obtain ⟨sg2, hs2⟩ : ∃ y, y = sg_ := ⟨_, rfl⟩
  subst hs2
  have h2 := hq_
  obtain ⟨y, hy⟩ := mvlQ.flt hq_
  obtain ⟨rfl, -⟩ := hq_
  subst hy
  have hj := jn_value h1 h2 hr
  have hW := hj.2.2
  have ho1 : zk w1 (x + 55) = 25 := hW.1.o.2.2.2.1
  have ho2 : zln w1 (x + 55) = 1 := hW.1.o.2.2.2.2
  refine r_fstore (ls' := [_, _, _, _, _, _, _, _]) dL_law_556 (Nat.le_of_ble_eq_true rfl) rfl rfl ?_
  refine r_aload_n dL_law_558 rfl (by first | exact zRv_ref _ | exact zRv_null | exact zRv_rf _ | assumption) rfl ?_
  refine r_callV MX10_thrown 0 (a := 268 * m) (a' := 2130 * m) [] lvL_55 (Or.inr (Or.inl ⟨hm, rfl⟩)) (q_thrown E (x + 13) hm w1 sg2 (d - 1)) rfl rfl (by first | exact Nat.le_of_ble_eq_true rfl | (simp [zcat_rf, Value.category]; done)) (by omega) (by first | omega | exact Nat.le_of_eq ((Nat.add_comm _ _).trans (Nat.succ_mul _ _).symm)) (by first | omega | exact Nat.le_of_eq ((Nat.add_comm _ _).trans (Nat.succ_mul _ _).symm)) dL_law_559 rfl (fun v_ w_ sg_ hq_ => ?_)
  obtain ⟨rfl, rfl, rfl⟩ := hq_
  refine r_iload dL_law_562 rfl rfl ?_
  refine r_icmp_eq (r := 569) dL_law_564 (by decide) rfl (fun c_564 => ?_) (fun c_564 => ?_)
  · refine r_iload dL_law_569 rfl rfl ?_
    refine r_if_ne (r := 607) dL_law_571 (by decide) rfl (fun c_571 => ?_) (fun c_571 => ?_)
    · refine r_goto (r := 703) dL_law_607 (by decide) ?_
      exact K _ _ _ _ _ _ _ hW
    · refine r_aload dL_law_574 rfl (by first | exact zRv_ref _ | exact zRv_null | exact zRv_rf _ | assumption) rfl ?_
      refine r_iconst dL_law_576 kc_0 rfl ?_
      refine r_daldv 0 ho1 rfl (by rw [ho2]; decide) (by decide) (hj.2.1 c_571).1 dL_law_577 rfl ?_
      refine r_fload dL_law_578 rfl rfl ?_
      refine r_f2d dL_law_580 (f2d_n (hj.2.1 c_571).2) rfl ?_
      refine r_dcmp dL_law_581 rfl ?_
      refine r_if_eq (r := 607) dL_law_582 (by decide) rfl (fun c_582 => ?_) (fun c_582 => ?_)
      · refine r_goto (r := 703) dL_law_607 (by decide) ?_
        exact K _ _ _ _ _ _ _ hW
      · exact absurd (cmpv_eq (dcmp_self (hj.2.1 c_571).2)) c_582
  · exact absurd hj.1 c_564
theorem lw_how (E : ZE) (b x L m i d : Nat) (xs : Nat → Int32) (hd : 40 ≤ d) (hb : b < E.2.1) (hm : E.2.2.2.2 = some (x + 13)) (hL : L ≤ 240) (hi : i + 4 < L) (w : ZW) (sg : ZM) (T : List PEl) (Rs : List PRule) (B : List Nat) (h : lwI w sg x T Rs B) (l6 l7 : Option Value) (K : ∀ k6 k7 w' sg' T' Rs' B', lwI w' sg' x T' Rs' B' → RW E ML_law 703 [some (.ref b), some (.ref x), some (.ref (x + 13)), some (.ref (x + 54)), some (.ref (x + 55)), some (.int (nI i)), k6, k7] [] w' sg' d (268 * m) (2130 * m) (PScr b L xs (PN E (fun v _ _ => v = some (.int 1))))) : RW E ML_law 610 [some (.ref b), some (.ref x), some (.ref (x + 13)), some (.ref (x + 54)), some (.ref (x + 55)), some (.int (nI i)), l6, l7] [] w sg d (268 * (m + 1)) (2130 * (m + 1)) (PScr b L xs (PN E (fun v _ _ => v = some (.int 1)))) := by
  obtain ⟨hD, hI, hr⟩ := h
  have k1 : zk w x = 10 := hD.desk.1
  refine r_aload_n dL_law_610 rfl (by first | exact zRv_ref _ | exact zRv_null | exact zRv_rf _ | assumption) rfl ?_
  refine r_aload_n dL_law_611 rfl (zRv_ref _) rfl ?_
  refine r_iload dL_law_612 rfl rfl ?_
  refine r_iconst dL_law_614 kc_1 rfl ?_
  refine r_iaddN dL_law_615 rfl ?_
  refine r_sld (i + 1) hb rfl (by omega) hL dL_law_616 rfl ?_
  refine r_aload_n dL_law_617 rfl (zRv_ref _) rfl ?_
  refine r_iload dL_law_618 rfl rfl ?_
  refine r_iconst dL_law_620 kc_2 rfl ?_
  refine r_iaddN dL_law_621 rfl ?_
  refine r_sld (i + 2) hb rfl (by omega) hL dL_law_622 rfl ?_
  refine r_aload_n dL_law_623 rfl (by first | exact zRv_ref _ | exact zRv_null | exact zRv_rf _ | assumption) rfl ?_
  refine x_callW (a := 268 * m) (a' := 2130 * m) ML_how 4 [_, _, _, _] (rest := []) lsL_86 (w_how E sg (d - 1) (by omega) x (xs (i + 1)) (xs (i + 2)) T Rs B w hD) rfl rfl (by first | exact Nat.le_of_ble_eq_true rfl | (simp [zcat_rf, Value.category]; done)) (by omega) (by omega) (by omega) dL_law_624 rfl (fun v_ w_ sg_ hq_ => ?_)
  obtain ⟨w1, hw1⟩ : ∃ y, y = w_ := ⟨_, rfl⟩
  subst hw1
  obtain ⟨v1, hv1⟩ : ∃ y, y = v_ := ⟨_, rfl⟩
  subst hv1
  obtain ⟨k, rfl⟩ := whQ.int hq_
  have h1 := hq_
  obtain ⟨rfl, -⟩ := hq_
  refine r_istore (ls' := [_, _, _, _, _, _, _, _]) dL_law_627 (Nat.le_of_ble_eq_true rfl) rfl rfl ?_
  refine r_aload_n dL_law_629 rfl (by first | exact zRv_ref _ | exact zRv_null | exact zRv_rf _ | assumption) rfl ?_
  refine r_aload_n dL_law_630 rfl (zRv_ref _) rfl ?_
  refine r_iload dL_law_631 rfl rfl ?_
  refine r_iconst dL_law_633 kc_1 rfl ?_
  refine r_iaddN dL_law_634 rfl ?_
  refine r_sld (i + 1) hb rfl (by omega) hL dL_law_635 rfl ?_
  refine r_aload_n dL_law_636 rfl (zRv_ref _) rfl ?_
  refine r_iload dL_law_637 rfl rfl ?_
  refine r_iconst dL_law_639 kc_2 rfl ?_
  refine r_iaddN dL_law_640 rfl ?_
  refine r_sld (i + 2) hb rfl (by omega) hL dL_law_641 rfl ?_
  refine r_callV MX10_how 2 (a := 268 * m) (a' := 2130 * m) [_, _] lvL_88 (Or.inr (Or.inl ⟨hm, rfl⟩)) (q_how E (x + 13) hm w1 sg (d - 1) (by omega) T Rs B (xs (i + 1)) (xs (i + 2)) hI hr) rfl rfl (by first | exact Nat.le_of_ble_eq_true rfl | (simp [zcat_rf, Value.category]; done)) (by omega) (by first | omega | exact Nat.le_of_eq ((Nat.add_comm _ _).trans (Nat.succ_mul _ _).symm)) (by first | omega | exact Nat.le_of_eq ((Nat.add_comm _ _).trans (Nat.succ_mul _ _).symm)) dL_law_642 rfl (fun v_ w_ sg_ hq_ => ?_)
  skip
  obtain ⟨sg2, hs2⟩ : ∃ y, y = sg_ := ⟨_, rfl⟩
  subst hs2
  have h2 := hq_
  obtain ⟨y, hy⟩ := mhwQ.int hq_
  obtain ⟨rfl, -⟩ := hq_
  subst hy
  have hj := jn_how h1 h2 hr
  have hW := hj.2.2
  have ho1 : zk w1 (x + 54) = 24 := hW.1.o.2.1
  have ho2 : zln w1 (x + 54) = 1 := hW.1.o.2.2.1
  refine r_istore (ls' := [_, _, _, _, _, _, _, _]) dL_law_645 (Nat.le_of_ble_eq_true rfl) rfl rfl ?_
  refine r_aload_n dL_law_647 rfl (by first | exact zRv_ref _ | exact zRv_null | exact zRv_rf _ | assumption) rfl ?_
  refine r_callV MX10_thrown 0 (a := 268 * m) (a' := 2130 * m) [] lvL_55 (Or.inr (Or.inl ⟨hm, rfl⟩)) (q_thrown E (x + 13) hm w1 sg2 (d - 1)) rfl rfl (by first | exact Nat.le_of_ble_eq_true rfl | (simp [zcat_rf, Value.category]; done)) (by omega) (by first | omega | exact Nat.le_of_eq ((Nat.add_comm _ _).trans (Nat.succ_mul _ _).symm)) (by first | omega | exact Nat.le_of_eq ((Nat.add_comm _ _).trans (Nat.succ_mul _ _).symm)) dL_law_648 rfl (fun v_ w_ sg_ hq_ => ?_)
  obtain ⟨rfl, rfl, rfl⟩ := hq_
  refine r_iload dL_law_651 rfl rfl ?_
  refine r_icmp_eq (r := 658) dL_law_653 (by decide) rfl (fun c_653 => ?_) (fun c_653 => ?_)
  · refine r_iload dL_law_658 rfl rfl ?_
    refine r_if_ne (r := 675) dL_law_660 (by decide) rfl (fun c_660 => ?_) (fun c_660 => ?_)
    · refine r_goto (r := 703) dL_law_675 (by decide) ?_
      exact K _ _ _ _ _ _ _ hW
    · refine r_aload_n dL_law_663 rfl (by first | exact zRv_ref _ | exact zRv_null | exact zRv_rf _ | assumption) rfl ?_
      refine r_iconst dL_law_664 kc_0 rfl ?_
      refine r_laldv 0 ho1 rfl (by rw [ho2]; decide) (by decide) (hj.2.1 c_660) dL_law_665 rfl ?_
      refine r_iload dL_law_666 rfl rfl ?_
      refine r_i2l dL_law_668 rfl rfl ?_
      refine r_lcmp dL_law_669 rfl ?_
      refine r_if_eq (r := 675) dL_law_670 (by decide) rfl (fun c_670 => ?_) (fun c_670 => ?_)
      · refine r_goto (r := 703) dL_law_675 (by decide) ?_
        exact K _ _ _ _ _ _ _ hW
      · exact absurd (lcmp_self _) c_670
  · exact absurd hj.1 c_653
theorem lw_put (E : ZE) (b x L m i d : Nat) (xs : Nat → Int32) (hd : 40 ≤ d) (hb : b < E.2.1) (hm : E.2.2.2.2 = some (x + 13)) (hL : L ≤ 240) (hi : i + 4 < L) (w : ZW) (sg : ZM) (T : List PEl) (Rs : List PRule) (B : List Nat) (h : lwI w sg x T Rs B) (l6 l7 : Option Value) (K : ∀ k6 k7 w' sg' T' Rs' B', lwI w' sg' x T' Rs' B' → RW E ML_law 703 [some (.ref b), some (.ref x), some (.ref (x + 13)), some (.ref (x + 54)), some (.ref (x + 55)), some (.int (nI i)), k6, k7] [] w' sg' d (268 * m) (2130 * m) (PScr b L xs (PN E (fun v _ _ => v = some (.int 1))))) : RW E ML_law 192 [some (.ref b), some (.ref x), some (.ref (x + 13)), some (.ref (x + 54)), some (.ref (x + 55)), some (.int (nI i)), l6, l7] [] w sg d (268 * (m + 1)) (2130 * (m + 1)) (PScr b L xs (PN E (fun v _ _ => v = some (.int 1)))) := by
  obtain ⟨hD, hI, hr⟩ := h
  have k1 : zk w x = 10 := hD.desk.1
  refine r_aload_n dL_law_192 rfl (by first | exact zRv_ref _ | exact zRv_null | exact zRv_rf _ | assumption) rfl ?_
  refine r_aload_n dL_law_193 rfl (zRv_ref _) rfl ?_
  refine r_iload dL_law_194 rfl rfl ?_
  refine r_iconst dL_law_196 kc_1 rfl ?_
  refine r_iaddN dL_law_197 rfl ?_
  refine r_sld (i + 1) hb rfl (by omega) hL dL_law_198 rfl ?_
  refine r_aload_n dL_law_199 rfl (zRv_ref _) rfl ?_
  refine r_iload dL_law_200 rfl rfl ?_
  refine r_iconst dL_law_202 kc_2 rfl ?_
  refine r_iaddN dL_law_203 rfl ?_
  refine r_sld (i + 2) hb rfl (by omega) hL dL_law_204 rfl ?_
  refine r_callV MX9_put 2 (a := 268 * m) (a' := 2130 * m) [_, _] lvL_59 (Or.inl ⟨9, by decide, (by first | (simp only [zKS]; first | assumption) | assumption | exact zk_nself _ _ _ | (simp [zKS, zNS, *]; done)), rfl⟩) (sp_put E sg (d - 1) (by omega) x (xs (i + 1)) (xs (i + 2)) T Rs B w hD) rfl rfl (by first | exact Nat.le_of_ble_eq_true rfl | (simp [zcat_rf, Value.category]; done)) (by omega) (by first | omega | exact Nat.le_of_eq ((Nat.add_comm _ _).trans (Nat.succ_mul _ _).symm)) (by first | omega | exact Nat.le_of_eq ((Nat.add_comm _ _).trans (Nat.succ_mul _ _).symm)) dL_law_205 rfl (fun v_ w_ sg_ hq_ => ?_)
  obtain ⟨rfl, hD2, rfl⟩ := hq_
  obtain ⟨w1, hw1⟩ : ∃ y, y = w_ := ⟨_, rfl⟩
  subst hw1
  refine r_aload_n dL_law_208 rfl (by first | exact zRv_ref _ | exact zRv_null | exact zRv_rf _ | assumption) rfl ?_
  refine r_aload_n dL_law_209 rfl (zRv_ref _) rfl ?_
  refine r_iload dL_law_210 rfl rfl ?_
  refine r_iconst dL_law_212 kc_1 rfl ?_
  refine r_iaddN dL_law_213 rfl ?_
  refine r_sld (i + 1) hb rfl (by omega) hL dL_law_214 rfl ?_
  refine r_aload_n dL_law_215 rfl (zRv_ref _) rfl ?_
  refine r_iload dL_law_216 rfl rfl ?_
  refine r_iconst dL_law_218 kc_2 rfl ?_
  refine r_iaddN dL_law_219 rfl ?_
  refine r_sld (i + 2) hb rfl (by omega) hL dL_law_220 rfl ?_
  refine r_callV MX10_put 2 (a := 268 * m) (a' := 2130 * m) [_, _] lvL_63 (Or.inr (Or.inl ⟨hm, rfl⟩)) (q_put E (x + 13) hm w1 sg (d - 1) (by omega) T Rs B (xs (i + 1)) (xs (i + 2)) hI) rfl rfl (by first | exact Nat.le_of_ble_eq_true rfl | (simp [zcat_rf, Value.category]; done)) (by omega) (by first | omega | exact Nat.le_of_eq ((Nat.add_comm _ _).trans (Nat.succ_mul _ _).symm)) (by first | omega | exact Nat.le_of_eq ((Nat.add_comm _ _).trans (Nat.succ_mul _ _).symm)) dL_law_221 rfl (fun v_ w_ sg_ hq_ => ?_)
  obtain ⟨rfl, rfl, -, hI2⟩ := hq_
  refine r_icmp_eq (r := 703) dL_law_224 (by decide) rfl (fun c_224 => ?_) (fun c_224 => ?_)
  · exact K _ _ _ _ _ _ _ ⟨hD2, hI2, hr⟩
  · exact absurd rfl c_224
theorem lw_count (E : ZE) (b x L m i d : Nat) (xs : Nat → Int32) (hd : 40 ≤ d) (hb : b < E.2.1) (hm : E.2.2.2.2 = some (x + 13)) (hL : L ≤ 240) (hi : i + 4 < L) (w : ZW) (sg : ZM) (T : List PEl) (Rs : List PRule) (B : List Nat) (h : lwI w sg x T Rs B) (l6 l7 : Option Value) (K : ∀ k6 k7 w' sg' T' Rs' B', lwI w' sg' x T' Rs' B' → RW E ML_law 703 [some (.ref b), some (.ref x), some (.ref (x + 13)), some (.ref (x + 54)), some (.ref (x + 55)), some (.int (nI i)), k6, k7] [] w' sg' d (268 * m) (2130 * m) (PScr b L xs (PN E (fun v _ _ => v = some (.int 1))))) : RW E ML_law 678 [some (.ref b), some (.ref x), some (.ref (x + 13)), some (.ref (x + 54)), some (.ref (x + 55)), some (.int (nI i)), l6, l7] [] w sg d (268 * (m + 1)) (2130 * (m + 1)) (PScr b L xs (PN E (fun v _ _ => v = some (.int 1)))) := by
  obtain ⟨hD, hI, hr⟩ := h
  have k1 : zk w x = 10 := hD.desk.1
  refine r_aload_n dL_law_678 rfl (by first | exact zRv_ref _ | exact zRv_null | exact zRv_rf _ | assumption) rfl ?_
  refine r_aload_n dL_law_679 rfl (zRv_ref _) rfl ?_
  refine r_iload dL_law_680 rfl rfl ?_
  refine r_iconst dL_law_682 kc_1 rfl ?_
  refine r_iaddN dL_law_683 rfl ?_
  refine r_sld (i + 1) hb rfl (by omega) hL dL_law_684 rfl ?_
  refine r_callV MX9_count 1 (a := 268 * m) (a' := 2130 * m) [_] lvL_89 (Or.inl ⟨9, by decide, (by first | (simp only [zKS]; first | assumption) | assumption | exact zk_nself _ _ _ | (simp [zKS, zNS, *]; done)), rfl⟩) (sp_count E sg (d - 1) (by omega) x (xs (i + 1)) T Rs B w hD) rfl rfl (by first | exact Nat.le_of_ble_eq_true rfl | (simp [zcat_rf, Value.category]; done)) (by omega) (by first | omega | exact Nat.le_of_eq ((Nat.add_comm _ _).trans (Nat.succ_mul _ _).symm)) (by first | omega | exact Nat.le_of_eq ((Nat.add_comm _ _).trans (Nat.succ_mul _ _).symm)) dL_law_685 rfl (fun v_ w_ sg_ hq_ => ?_)
  obtain ⟨rfl, rfl, rfl⟩ := hq_
  refine r_aload_n dL_law_688 rfl (by first | exact zRv_ref _ | exact zRv_null | exact zRv_rf _ | assumption) rfl ?_
  refine r_aload_n dL_law_689 rfl (zRv_ref _) rfl ?_
  refine r_iload dL_law_690 rfl rfl ?_
  refine r_iconst dL_law_692 kc_1 rfl ?_
  refine r_iaddN dL_law_693 rfl ?_
  refine r_sld (i + 1) hb rfl (by omega) hL dL_law_694 rfl ?_
  refine r_callV MX10_count 1 (a := 268 * m) (a' := 2130 * m) [_] lvL_92 (Or.inr (Or.inl ⟨hm, rfl⟩)) (q_count E (x + 13) hm w sg (d - 1) T Rs B (xs (i + 1)) hI) rfl rfl (by first | exact Nat.le_of_ble_eq_true rfl | (simp [zcat_rf, Value.category]; done)) (by omega) (by first | omega | exact Nat.le_of_eq ((Nat.add_comm _ _).trans (Nat.succ_mul _ _).symm)) (by first | omega | exact Nat.le_of_eq ((Nat.add_comm _ _).trans (Nat.succ_mul _ _).symm)) dL_law_695 rfl (fun v_ w_ sg_ hq_ => ?_)
  obtain ⟨rfl, rfl, -, hI2⟩ := hq_
  refine r_icmp_eq (r := 703) dL_law_698 (by decide) rfl (fun c_698 => ?_) (fun c_698 => ?_)
  · exact K _ _ _ _ _ _ _ ⟨hD, hI2, hr⟩
  · exact absurd rfl c_698
theorem lw_loop (E : ZE) (b x L d : Nat) (xs : Nat → Int32) (hd : 40 ≤ d) (hb : b < E.2.1) (hm : E.2.2.2.2 = some (x + 13)) (hL : L ≤ 240) : ∀ (m i : Nat) (w : ZW) (sg : ZM) (T : List PEl) (Rs : List PRule) (B : List Nat) (l6 l7 : Option Value), L ≤ i + 5 * m + 4 → i ≤ L → lwI w sg x T Rs B → RW E ML_law 28 [some (.ref b), some (.ref x), some (.ref (x + 13)), some (.ref (x + 54)), some (.ref (x + 55)), some (.int (nI i)), l6, l7] [] w sg d (268 * m) (2130 * m) (PScr b L xs (PN E (fun v _ _ => v = some (.int 1)))) := by
  intro m
  induction m with
  | zero =>
    intro i w sg T Rs B l6 l7 h1 h2 h
    refine r_iload dL_law_28 rfl rfl ?_
    refine r_aload_n dL_law_30 rfl (zRv_ref _) rfl ?_
    refine r_slen hb dL_law_31 rfl ?_
    refine r_iconst dL_law_32 kc_5 rfl ?_
    refine r_isub dL_law_33 rfl ?_
    refine r_icmp_gt (r := 709) dL_law_34 (by decide) rfl (fun c_34 => ?_) (fun c_34 => ?_)
    · refine r_iconst dL_law_709 kc_1 rfl ?_
      refine s_zret .boolean rfl rfl dL_law_710 ?_
      rfl
    · exact absurd ((lw_gt hL (by omega)).mpr (by omega)) c_34
  | succ m ih =>
    intro i w sg T Rs B l6 l7 h1 h2 h
    refine r_iload dL_law_28 rfl rfl ?_
    refine r_aload_n dL_law_30 rfl (zRv_ref _) rfl ?_
    refine r_slen hb dL_law_31 rfl ?_
    refine r_iconst dL_law_32 kc_5 rfl ?_
    refine r_isub dL_law_33 rfl ?_
    refine r_icmp_gt (r := 709) dL_law_34 (by decide) rfl (fun c_34 => ?_) (fun c_34 => ?_)
    · refine r_iconst dL_law_709 kc_1 rfl ?_
      refine s_zret .boolean rfl rfl dL_law_710 ?_
      rfl
    · have hi : i + 4 < L := by
        have h9 : ¬ L < i + 5 := fun q => c_34 ((lw_gt hL (by omega)).mpr q)
        omega
      have K : ∀ k6 k7 w' sg' T' Rs' B', lwI w' sg' x T' Rs' B' → RW E ML_law 703 [some (.ref b), some (.ref x), some (.ref (x + 13)), some (.ref (x + 54)), some (.ref (x + 55)), some (.int (nI i)), k6, k7] [] w' sg' d (268 * m) (2130 * m) (PScr b L xs (PN E (fun v _ _ => v = some (.int 1)))) := fun k6 k7 w' sg' T' Rs' B' h' => by
        refine r_iinc (ls' := [_, _, _, _, _, _, _, _]) dL_law_703 (Nat.le_of_ble_eq_true rfl) rfl (zincn _ 5) rfl rfl ?_
        refine r_goto (r := 28) dL_law_706 (by decide) ?_
        exact ih (i + 5) w' sg' T' Rs' B' k6 k7 (by omega) (by omega) h'
      -- go
      refine r_aload_n dL_law_37 rfl (zRv_ref _) rfl ?_
      refine r_iload dL_law_38 rfl rfl ?_
      refine r_sld i hb rfl (by omega) hL dL_law_40 rfl ?_
      refine r_bipush dL_law_41 kb_15 rfl ?_
      refine r_iand dL_law_43 rfl ?_
      obtain ⟨k, hk, ek⟩ := and15 (xs i)
      rw [ek]
      have hk2 : k = 0 ∨ k = 1 ∨ k = 2 ∨ k = 3 ∨ k = 4 ∨ k = 5 ∨ k = 6 ∨ k = 7 ∨ k = 8 ∨ k = 9 ∨ 10 ≤ k := by omega
      rcases hk2 with rfl | rfl | rfl | rfl | rfl | rfl | rfl | rfl | rfl | rfl | h10
      · exact r_tableIn (off := 56) (r := 100) dL_law_44 (by decide +kernel) (by decide +kernel) (by decide +kernel) (by decide) (lw_element E b x L m i d xs hd hb hm hL hi w sg T Rs B h l6 l7 K)
      · exact r_tableIn (off := 148) (r := 192) dL_law_44 (by decide +kernel) (by decide +kernel) (by decide +kernel) (by decide) (lw_put E b x L m i d xs hd hb hm hL hi w sg T Rs B h l6 l7 K)
      · exact r_tableIn (off := 185) (r := 229) dL_law_44 (by decide +kernel) (by decide +kernel) (by decide +kernel) (by decide) (lw_rule E b x L m i d xs hd hb hm hL hi w sg T Rs B h l6 l7 K)
      · exact r_tableIn (off := 241) (r := 285) dL_law_44 (by decide +kernel) (by decide +kernel) (by decide +kernel) (by decide) (lw_drop E b x L m i d xs hd hb hm hL hi w sg T Rs B h l6 l7 K)
      · exact r_tableIn (off := 277) (r := 321) dL_law_44 (by decide +kernel) (by decide +kernel) (by decide +kernel) (by decide) (lw_matches E b x L m i d xs hd hb hm hL hi w sg T Rs B h l6 l7 K)
      · exact r_tableIn (off := 340) (r := 384) dL_law_44 (by decide +kernel) (by decide +kernel) (by decide +kernel) (by decide) (lw_weight E b x L m i d xs hd hb hm hL hi w sg T Rs B h l6 l7 K)
      · exact r_tableIn (off := 408) (r := 452) dL_law_44 (by decide +kernel) (by decide +kernel) (by decide +kernel) (by decide) (lw_winner E b x L m i d xs hd hb hm hL hi w sg T Rs B h l6 l7 K)
      · exact r_tableIn (off := 476) (r := 520) dL_law_44 (by decide +kernel) (by decide +kernel) (by decide +kernel) (by decide) (lw_value E b x L m i d xs hd hb hm hL hi w sg T Rs B h l6 l7 K)
      · exact r_tableIn (off := 566) (r := 610) dL_law_44 (by decide +kernel) (by decide +kernel) (by decide +kernel) (by decide) (lw_how E b x L m i d xs hd hb hm hL hi w sg T Rs B h l6 l7 K)
      · exact r_tableIn (off := 634) (r := 678) dL_law_44 (by decide +kernel) (by decide +kernel) (by decide +kernel) (by decide) (lw_count E b x L m i d xs hd hb hm hL hi w sg T Rs B h l6 l7 K)
      · refine r_tableOut (r := 703) dL_law_44 (Or.inr ?_) (by decide) ((K l6 l7 w sg T Rs B h).wide ?_ ?_)
        · rw [nI_toInt (by omega)]
          omega
        · omega
        · omega
