/-! ===== the model: element ===== -/
def parV (v : PEl) : Int32 := match v.1 with
  | none => -1
  | some p => nI p
def idxV (T : List PEl) (v : PEl) : Nat := match v.1 with
  | none => 1
  | some p => bcnt (isKid T p) T.length + 1
theorem bcnt_0 {f : Nat → Bool} : ∀ {n : Nat}, (∀ i, i < n → f i = false) → bcnt f n = 0
  | 0, _ => rfl
  | n + 1, h => by
    show bcnt f n + (if f n = true then 1 else 0) = 0
    rw [bcnt_0 (fun i hi => h i (by omega)), h n (by omega)]
    rfl
theorem mTree.app {a b : ZM} {T : List PEl} {v : PEl} (h : mTree a T) (hl : T.length < 24) (hp : ∀ p, v.1 = some p → p < T.length) (h1 : v.2.1 < 128) (h2 : v.2.2.1 < 128) (h3 : v.2.2.2 < 256) (m1 : mi b 1 = nI (T.length + 1)) (od : ∀ j i, 1 ≤ j → j ≤ 5 → i ≠ T.length → ma b j i = ma a j i) (o6 : ∀ i, i < T.length → ma b 6 i = if v.1 = some i then ma a 6 i + nI 1 else ma a 6 i) (n1 : ma b 1 T.length = parV v) (n2 : ma b 2 T.length = nI v.2.1) (n3 : ma b 3 T.length = nI v.2.2.1) (n4 : ma b 4 T.length = nI v.2.2.2) (n5 : ma b 5 T.length = nI (idxV T v)) (n6 : ma b 6 T.length = nI 0) : mTree b (T ++ [v]) := by
  obtain ⟨hw, g1, g2⟩ := h
  have hlen : (T ++ [v]).length = T.length + 1 := by rw [List.length_append]; rfl
  have hbc : ∀ p n, n ≤ T.length → bcnt (isKid (T ++ [v]) p) n = bcnt (isKid T p) n := fun p n hn => bcnt_congr (fun i hi => isKid_app (by omega))
  have hbn : ∀ p, bcnt (isKid (T ++ [v]) p) (T.length + 1) = bcnt (isKid T p) T.length + (if v.1 = some p then 1 else 0) := fun p => by
    show bcnt (isKid (T ++ [v]) p) T.length + (if isKid (T ++ [v]) p T.length = true then 1 else 0) = _
    rw [hbc p _ (Nat.le_refl _)]
    unfold isKid
    rw [tP_new]
    congr 1
    by_cases q : v.1 = some p
    · rw [if_pos q, if_pos (decide_eq_true q)]
    · rw [if_neg q, if_neg (by rw [decide_eq_false q]; decide)]
  refine ⟨wfT_app hw hl hp h1 h2 h3, by rw [hlen]; exact m1, fun e he => ?_⟩
  rw [hlen] at he ⊢
  rcases Nat.lt_or_ge e T.length with c | c
  · obtain ⟨a1, a2, a3, a4, a5, a6⟩ := g2 e c
    rw [od 1 e (by decide) (by decide) (by omega), od 2 e (by decide) (by decide) (by omega), od 3 e (by decide) (by decide) (by omega), od 4 e (by decide) (by decide) (by omega), od 5 e (by decide) (by decide) (by omega), o6 e c, hbn e]
    refine ⟨?_, ?_, ?_, ?_, ?_, ?_⟩
    · unfold parI; rw [tP_app c]; exact a1
    · rw [show tG (T ++ [v]) e = tG T e by unfold tG; rw [tE_app c]]; exact a2
    · rw [show tI (T ++ [v]) e = tI T e by unfold tI; rw [tE_app c]]; exact a3
    · rw [show tC (T ++ [v]) e = tC T e by unfold tC; rw [tE_app c]]; exact a4
    · rw [(old_sets hw c).2.2.2.1]; exact a5
    · rw [a6]
      by_cases q : v.1 = some e
      · rw [if_pos q, if_pos q, nI_add]
      · rw [if_neg q, if_neg q]; rfl
  · have he2 : e = T.length := by omega
    subst he2
    rw [n1, n2, n3, n4, n5, n6]
    refine ⟨?_, ?_, ?_, ?_, ?_, ?_⟩
    · unfold parI parV; rw [tP_new]; rfl
    · rw [show tG (T ++ [v]) T.length = v.2.1 by unfold tG; rw [tE_new]]
    · rw [show tI (T ++ [v]) T.length = v.2.2.1 by unfold tI; rw [tE_new]]
    · rw [show tC (T ++ [v]) T.length = v.2.2.2 by unfold tC; rw [tE_new]]
    · unfold idxT idxV
      rw [tP_new]
      cases v.1 with
      | none => rfl
      | some p =>
        simp only []
        rw [hbc p _ (Nat.le_refl _)]
    · rw [bcnt_0 (fun i hi => ?_)]
      rcases Nat.lt_or_ge i T.length with c9 | c9
      · rw [isKid_app c9]
        refine decide_eq_false (fun q => ?_)
        have := hw.2.1 i T.length q
        omega
      · have hi2 : i = T.length := by omega
        subst hi2
        unfold isKid
        rw [tP_new]
        refine decide_eq_false (fun q => ?_)
        have := hp T.length q
        omega
theorem rootT.app {T : List PEl} {v : PEl} (h : rootT T) (hv : T.length ≠ 0 → ∃ p, v.1 = some p) : rootT (T ++ [v]) := fun e he hl => by
  have hlen : (T ++ [v]).length = T.length + 1 := by rw [List.length_append]; rfl
  rw [hlen] at hl
  rcases Nat.lt_or_ge e T.length with c | c
  · rw [tP_app c]
    exact h e he c
  · have he2 : e = T.length := by omega
    subst he2
    rw [tP_new]
    exact hv (by omega)
def melQ (T : List PEl) (Rs : List PRule) (B : List Nat) (p t i c : Int32) (w : ZW) : ZQ := fun v w' sg' => w = w' ∧ (∃ y, v = some (.int y)) ∧ ((okEl T p t i c = false ∧ mi sg' 0 = nI 1 ∧ mdI sg' T Rs B) ∨ (okEl T p t i c = true ∧ T.length = 24 ∧ mi sg' 0 = nI 2 ∧ mdI sg' T Rs B) ∨ (okEl T p t i c = true ∧ T.length ≠ 24 ∧ mi sg' 0 = nI 0 ∧ v = some (.int (nI T.length)) ∧ mdI sg' (T ++ [newV p t i c]) Rs B ∧ (rootT T → rootT (T ++ [newV p t i c]))))
theorem mdT.tree {a b : ZM} {Rs : List PRule} {B : List Nat} (h : mdT a Rs B) (e1 : mi b 8 = mi a 8) (e2 : ∀ j i, 7 ≤ j → ma b j i = ma a j i) : mdT b Rs B := h.fr e1 (fun j i q _ => e2 j i q) (fun j i q _ => e2 j i (by omega))
theorem mel_r (E : ZE) (mo : Nat) (hm : E.2.2.2.2 = some mo) (w : ZW) (sg : ZM) (d a b c : Nat) (ha : a < 128) (hb : b < 128) (hc : c < 256) (T : List PEl) (Rs : List PRule) (B : List Nat) (h : mdI sg T Rs B) (hl : T.length = 0) (x5 x6 : Option Value) : RW E MX10_element 127 [some (.ref mo), some (.int (-1)), some (.int (nI a)), some (.int (nI b)), some (.int (nI c)), x5, x6] [] w sg d 0 0 (PN E (fun v w' sg' => w = w' ∧ v = some (.int (nI T.length)) ∧ mi sg' 0 = mi sg 0 ∧ mdI sg' (T ++ [(none, a, b, c)]) Rs B)) := by
  have h1 : mi sg 1 = nI T.length := h.1.2.1
  have fin : ∀ s : ZM, s = msi (msa (msa (msa (msa (msa (msa sg 1 T.length (-1)) 2 T.length (nI a)) 3 T.length (nI b)) 4 T.length (nI c)) 5 T.length (nI 1)) 6 T.length (nI 0)) 1 (nI (T.length + 1)) → mi s 0 = mi sg 0 ∧ mdI s (T ++ [(none, a, b, c)]) Rs B := by
    intro s hs
    have m1 : mi s 1 = nI (T.length + 1) := by rw [hs, mi_msi, if_pos rfl]
    have m0 : ∀ j, j ≠ 1 → mi s j = mi sg j := fun j q => by rw [hs, mi_msi, if_neg q]; rfl
    have e0 : ∀ j i, ¬ (1 ≤ j ∧ j ≤ 6 ∧ i = T.length) → ma s j i = ma sg j i := fun j i q => by
      rw [hs]
      show ma (msa (msa (msa (msa (msa (msa sg 1 T.length (-1)) 2 T.length (nI a)) 3 T.length (nI b)) 4 T.length (nI c)) 5 T.length (nI 1)) 6 T.length (nI 0)) j i = _
      rw [ma_msa, if_neg (by omega), ma_msa, if_neg (by omega), ma_msa, if_neg (by omega), ma_msa, if_neg (by omega), ma_msa, if_neg (by omega), ma_msa, if_neg (by omega)]
    have e6 : ma s 1 T.length = -1 ∧ ma s 2 T.length = nI a ∧ ma s 3 T.length = nI b ∧ ma s 4 T.length = nI c ∧ ma s 5 T.length = nI 1 ∧ ma s 6 T.length = nI 0 := by
      rw [hs]
      simp [ma, msi, msa, z2]
    refine ⟨m0 0 (by decide), h.1.app (v := (none, a, b, c)) (by omega) (fun p q => by cases q) ha hb hc m1 (fun j i _ _ q => e0 j i (by omega)) (fun i hi => ?_) e6.1 e6.2.1 e6.2.2.1 e6.2.2.2.1 e6.2.2.2.2.1 e6.2.2.2.2.2, h.2.tree (m0 8 (by decide)) (fun j i q => e0 j i (by omega))⟩
    omega
  refine r_aload_n dX10_element_127 rfl (zRv_ref _) rfl ?_
  refine m_geta hm 2 1 lfX10_7 rfl (by decide) dX10_element_128 rfl ?_
  refine r_aload_n dX10_element_131 rfl (zRv_ref _) rfl ?_
  refine m_getiv hm 1 lfX10_137 rfl (by first | (simp only [zGS, zMS, Nat.reduceEqDiff, OfNat.ofNat_ne_ofNat, false_and, and_false, true_and, and_true, and_self, if_true, if_false, ite_true, ite_false, reduceIte, reduceCtorEq]; first | done | assumption | rfl) | assumption | exact z2_eq | exact z1_eq | (simp [zGS, zMS]; first | done | assumption) | rfl) dX10_element_132 rfl ?_
  refine r_iload_n dX10_element_135 rfl rfl ?_
  refine m_iast hm 1 _ (by decide) (by decide) rfl rfl (by show _ < 24; omega) dX10_element_136 rfl ?_
  refine r_aload_n dX10_element_137 rfl (zRv_ref _) rfl ?_
  refine m_geta hm 3 2 lfX10_13 rfl (by decide) dX10_element_138 rfl ?_
  refine r_aload_n dX10_element_141 rfl (zRv_ref _) rfl ?_
  refine m_getiv hm 1 lfX10_137 rfl (by first | (simp only [zGS, zMS, Nat.reduceEqDiff, OfNat.ofNat_ne_ofNat, false_and, and_false, true_and, and_true, and_self, if_true, if_false, ite_true, ite_false, reduceIte, reduceCtorEq]; first | done | assumption | rfl) | assumption | exact z2_eq | exact z1_eq | (simp [zGS, zMS]; first | done | assumption) | rfl) dX10_element_142 rfl ?_
  refine r_iload_n dX10_element_145 rfl rfl ?_
  refine m_iast hm 2 _ (by decide) (by decide) rfl rfl (by show _ < 24; omega) dX10_element_146 rfl ?_
  refine r_aload_n dX10_element_147 rfl (zRv_ref _) rfl ?_
  refine m_geta hm 4 3 lfX10_16 rfl (by decide) dX10_element_148 rfl ?_
  refine r_aload_n dX10_element_151 rfl (zRv_ref _) rfl ?_
  refine m_getiv hm 1 lfX10_137 rfl (by first | (simp only [zGS, zMS, Nat.reduceEqDiff, OfNat.ofNat_ne_ofNat, false_and, and_false, true_and, and_true, and_self, if_true, if_false, ite_true, ite_false, reduceIte, reduceCtorEq]; first | done | assumption | rfl) | assumption | exact z2_eq | exact z1_eq | (simp [zGS, zMS]; first | done | assumption) | rfl) dX10_element_152 rfl ?_
  refine r_iload_n dX10_element_155 rfl rfl ?_
  refine m_iast hm 3 _ (by decide) (by decide) rfl rfl (by show _ < 24; omega) dX10_element_156 rfl ?_
  refine r_aload_n dX10_element_157 rfl (zRv_ref _) rfl ?_
  refine m_geta hm 5 4 lfX10_19 rfl (by decide) dX10_element_158 rfl ?_
  refine r_aload_n dX10_element_161 rfl (zRv_ref _) rfl ?_
  refine m_getiv hm 1 lfX10_137 rfl (by first | (simp only [zGS, zMS, Nat.reduceEqDiff, OfNat.ofNat_ne_ofNat, false_and, and_false, true_and, and_true, and_self, if_true, if_false, ite_true, ite_false, reduceIte, reduceCtorEq]; first | done | assumption | rfl) | assumption | exact z2_eq | exact z1_eq | (simp [zGS, zMS]; first | done | assumption) | rfl) dX10_element_162 rfl ?_
  refine r_iload dX10_element_165 rfl rfl ?_
  refine m_iast hm 4 _ (by decide) (by decide) rfl rfl (by show _ < 24; omega) dX10_element_167 rfl ?_
  refine r_aload_n dX10_element_168 rfl (zRv_ref _) rfl ?_
  refine m_geta hm 6 5 lfX10_22 rfl (by decide) dX10_element_169 rfl ?_
  refine r_aload_n dX10_element_172 rfl (zRv_ref _) rfl ?_
  refine m_getiv hm 1 lfX10_137 rfl (by first | (simp only [zGS, zMS, Nat.reduceEqDiff, OfNat.ofNat_ne_ofNat, false_and, and_false, true_and, and_true, and_self, if_true, if_false, ite_true, ite_false, reduceIte, reduceCtorEq]; first | done | assumption | rfl) | assumption | exact z2_eq | exact z1_eq | (simp [zGS, zMS]; first | done | assumption) | rfl) dX10_element_173 rfl ?_
  refine r_iload_n dX10_element_176 rfl rfl ?_
  refine r_iconst dX10_element_177 kc_m1 rfl ?_
  refine r_icmp_ne (r := 185) dX10_element_178 (by decide) rfl (fun c_178 => ?_) (fun c_178 => ?_)
  · exact absurd rfl c_178
  · refine r_iconst dX10_element_181 kc_1 rfl ?_
    refine r_goto (r := 193) dX10_element_182 (by decide) ?_
    refine m_iast hm 5 _ (by decide) (by decide) rfl rfl (by show _ < 24; omega) dX10_element_193 rfl ?_
    refine r_iload_n dX10_element_194 rfl rfl ?_
    refine r_iconst dX10_element_195 kc_m1 rfl ?_
    refine r_icmp_eq (r := 209) dX10_element_196 (by decide) rfl (fun c_196 => ?_) (fun c_196 => ?_)
    · refine r_aload_n dX10_element_209 rfl (zRv_ref _) rfl ?_
      refine m_geta hm 7 6 lfX10_25 rfl (by decide) dX10_element_210 rfl ?_
      refine r_aload_n dX10_element_213 rfl (zRv_ref _) rfl ?_
      refine m_getiv hm 1 lfX10_137 rfl (by first | (simp only [zGS, zMS, Nat.reduceEqDiff, OfNat.ofNat_ne_ofNat, false_and, and_false, true_and, and_true, and_self, if_true, if_false, ite_true, ite_false, reduceIte, reduceCtorEq]; first | done | assumption | rfl) | assumption | exact z2_eq | exact z1_eq | (simp [zGS, zMS]; first | done | assumption) | rfl) dX10_element_214 rfl ?_
      refine r_iconst dX10_element_217 kc_0 rfl ?_
      refine m_iast hm 6 _ (by decide) (by decide) rfl rfl (by show _ < 24; omega) dX10_element_218 rfl ?_
      refine r_aload_n dX10_element_219 rfl (zRv_ref _) rfl ?_
      refine r_dup dX10_element_220 (by first | rfl | exact zcat_rf _) rfl ?_
      refine m_getiv hm 1 lfX10_137 rfl (by first | (simp only [zGS, zMS, Nat.reduceEqDiff, OfNat.ofNat_ne_ofNat, false_and, and_false, true_and, and_true, and_self, if_true, if_false, ite_true, ite_false, reduceIte, reduceCtorEq]; first | done | assumption | rfl) | assumption | exact z2_eq | exact z1_eq | (simp [zGS, zMS]; first | done | assumption) | rfl) dX10_element_221 rfl ?_
      refine r_iconst dX10_element_224 kc_1 rfl ?_
      refine r_iaddN dX10_element_225 rfl ?_
      refine m_puti hm 1 lfX10_137 rfl rfl rfl dX10_element_226 rfl ?_
      refine r_aload_n dX10_element_229 rfl (zRv_ref _) rfl ?_
      refine m_getiv hm 1 lfX10_137 rfl (by first | (simp only [zGS, zMS, Nat.reduceEqDiff, OfNat.ofNat_ne_ofNat, false_and, and_false, true_and, and_true, and_self, if_true, if_false, ite_true, ite_false, reduceIte, reduceCtorEq]; first | done | assumption | rfl) | assumption | exact z2_eq | exact z1_eq | (simp [zGS, zMS]; first | done | assumption) | rfl) dX10_element_230 rfl ?_
      refine r_iconst dX10_element_233 kc_1 rfl ?_
      refine r_isubN (by omega) dX10_element_234 rfl ?_
      refine r_iret rfl dX10_element_235 ?_
      refine ⟨rfl, rfl, ?_⟩
      exact fin _ rfl
    · exact absurd rfl c_196
theorem mel_c (E : ZE) (mo : Nat) (hm : E.2.2.2.2 = some mo) (w : ZW) (sg : ZM) (d q a b c : Nat) (ha : a < 128) (hb : b < 128) (hc : c < 256) (T : List PEl) (Rs : List PRule) (B : List Nat) (h : mdI sg T Rs B) (hq : q < T.length) (hl : T.length < 24) (x5 x6 : Option Value) : RW E MX10_element 127 [some (.ref mo), some (.int (nI q)), some (.int (nI a)), some (.int (nI b)), some (.int (nI c)), x5, x6] [] w sg d 0 0 (PN E (fun v w' sg' => w = w' ∧ v = some (.int (nI T.length)) ∧ mi sg' 0 = mi sg 0 ∧ mdI sg' (T ++ [(some q, a, b, c)]) Rs B)) := by
  have h1 : mi sg 1 = nI T.length := h.1.2.1
  have h6 : ma sg 6 q = nI (bcnt (isKid T q) T.length) := (h.1.2.2 q hq).2.2.2.2.2
  have hne : nI q ≠ -1 := nI_neg (by omega)
  have fin : ∀ s : ZM, s = msi (msa (msa (msa (msa (msa (msa (msa sg 1 T.length (nI q)) 2 T.length (nI a)) 3 T.length (nI b)) 4 T.length (nI c)) 5 T.length (nI (bcnt (isKid T q) T.length + 1))) 6 q (nI (bcnt (isKid T q) T.length + 1))) 6 T.length (nI 0)) 1 (nI (T.length + 1)) → mi s 0 = mi sg 0 ∧ mdI s (T ++ [(some q, a, b, c)]) Rs B := by
    intro s hs
    have m1 : mi s 1 = nI (T.length + 1) := by rw [hs, mi_msi, if_pos rfl]
    have m0 : ∀ j, j ≠ 1 → mi s j = mi sg j := fun j q => by rw [hs, mi_msi, if_neg q]; rfl
    have e0 : ∀ j i, ¬ (1 ≤ j ∧ j ≤ 6 ∧ i = T.length) → ¬ (j = 6 ∧ i = q) → ma s j i = ma sg j i := fun j i z1 z2 => by
      rw [hs]
      show ma (msa (msa (msa (msa (msa (msa (msa sg 1 T.length (nI q)) 2 T.length (nI a)) 3 T.length (nI b)) 4 T.length (nI c)) 5 T.length (nI (bcnt (isKid T q) T.length + 1))) 6 q (nI (bcnt (isKid T q) T.length + 1))) 6 T.length (nI 0)) j i = _
      rw [ma_msa, if_neg (by omega), ma_msa, if_neg (by omega), ma_msa, if_neg (by omega), ma_msa, if_neg (by omega), ma_msa, if_neg (by omega), ma_msa, if_neg (by omega), ma_msa, if_neg (by omega)]
    have hq2 : ¬ T.length = q := by omega
    have e6 : ma s 1 T.length = nI q ∧ ma s 2 T.length = nI a ∧ ma s 3 T.length = nI b ∧ ma s 4 T.length = nI c ∧ ma s 5 T.length = nI (bcnt (isKid T q) T.length + 1) ∧ ma s 6 T.length = nI 0 := by
      rw [hs]
      simp [ma, msi, msa, z2, hq2]
    have e7 : ma s 6 q = nI (bcnt (isKid T q) T.length + 1) := by
      have hq3 : ¬ q = T.length := by omega
      rw [hs]
      simp [ma, msi, msa, z2, hq3]
    refine ⟨m0 0 (by decide), h.1.app (v := (some q, a, b, c)) hl (fun p z => by cases z; exact hq) ha hb hc m1 (fun j i _ _ z => e0 j i (by omega) (by omega)) (fun i hi => ?_) e6.1 e6.2.1 e6.2.2.1 e6.2.2.2.1 e6.2.2.2.2.1 e6.2.2.2.2.2, h.2.tree (m0 8 (by decide)) (fun j i z => e0 j i (by omega) (by omega))⟩
    by_cases z : i = q
    · subst z
      rw [if_pos rfl, e7, h6, nI_add]
    · rw [if_neg (fun y => z (Option.some.inj y).symm)]
      exact e0 6 i (by omega) (by omega)
  refine r_aload_n dX10_element_127 rfl (zRv_ref _) rfl ?_
  refine m_geta hm 2 1 lfX10_7 rfl (by decide) dX10_element_128 rfl ?_
  refine r_aload_n dX10_element_131 rfl (zRv_ref _) rfl ?_
  refine m_getiv hm 1 lfX10_137 rfl (by first | (simp only [zGS, zMS, Nat.reduceEqDiff, OfNat.ofNat_ne_ofNat, false_and, and_false, true_and, and_true, and_self, if_true, if_false, ite_true, ite_false, reduceIte, reduceCtorEq]; first | done | assumption | rfl) | assumption | exact z2_eq | exact z1_eq | (simp [zGS, zMS]; first | done | assumption) | rfl) dX10_element_132 rfl ?_
  refine r_iload_n dX10_element_135 rfl rfl ?_
  refine m_iast hm 1 _ (by decide) (by decide) rfl rfl (by show _ < 24; omega) dX10_element_136 rfl ?_
  refine r_aload_n dX10_element_137 rfl (zRv_ref _) rfl ?_
  refine m_geta hm 3 2 lfX10_13 rfl (by decide) dX10_element_138 rfl ?_
  refine r_aload_n dX10_element_141 rfl (zRv_ref _) rfl ?_
  refine m_getiv hm 1 lfX10_137 rfl (by first | (simp only [zGS, zMS, Nat.reduceEqDiff, OfNat.ofNat_ne_ofNat, false_and, and_false, true_and, and_true, and_self, if_true, if_false, ite_true, ite_false, reduceIte, reduceCtorEq]; first | done | assumption | rfl) | assumption | exact z2_eq | exact z1_eq | (simp [zGS, zMS]; first | done | assumption) | rfl) dX10_element_142 rfl ?_
  refine r_iload_n dX10_element_145 rfl rfl ?_
  refine m_iast hm 2 _ (by decide) (by decide) rfl rfl (by show _ < 24; omega) dX10_element_146 rfl ?_
  refine r_aload_n dX10_element_147 rfl (zRv_ref _) rfl ?_
  refine m_geta hm 4 3 lfX10_16 rfl (by decide) dX10_element_148 rfl ?_
  refine r_aload_n dX10_element_151 rfl (zRv_ref _) rfl ?_
  refine m_getiv hm 1 lfX10_137 rfl (by first | (simp only [zGS, zMS, Nat.reduceEqDiff, OfNat.ofNat_ne_ofNat, false_and, and_false, true_and, and_true, and_self, if_true, if_false, ite_true, ite_false, reduceIte, reduceCtorEq]; first | done | assumption | rfl) | assumption | exact z2_eq | exact z1_eq | (simp [zGS, zMS]; first | done | assumption) | rfl) dX10_element_152 rfl ?_
  refine r_iload_n dX10_element_155 rfl rfl ?_
  refine m_iast hm 3 _ (by decide) (by decide) rfl rfl (by show _ < 24; omega) dX10_element_156 rfl ?_
  refine r_aload_n dX10_element_157 rfl (zRv_ref _) rfl ?_
  refine m_geta hm 5 4 lfX10_19 rfl (by decide) dX10_element_158 rfl ?_
  refine r_aload_n dX10_element_161 rfl (zRv_ref _) rfl ?_
  refine m_getiv hm 1 lfX10_137 rfl (by first | (simp only [zGS, zMS, Nat.reduceEqDiff, OfNat.ofNat_ne_ofNat, false_and, and_false, true_and, and_true, and_self, if_true, if_false, ite_true, ite_false, reduceIte, reduceCtorEq]; first | done | assumption | rfl) | assumption | exact z2_eq | exact z1_eq | (simp [zGS, zMS]; first | done | assumption) | rfl) dX10_element_162 rfl ?_
  refine r_iload dX10_element_165 rfl rfl ?_
  refine m_iast hm 4 _ (by decide) (by decide) rfl rfl (by show _ < 24; omega) dX10_element_167 rfl ?_
  refine r_aload_n dX10_element_168 rfl (zRv_ref _) rfl ?_
  refine m_geta hm 6 5 lfX10_22 rfl (by decide) dX10_element_169 rfl ?_
  refine r_aload_n dX10_element_172 rfl (zRv_ref _) rfl ?_
  refine m_getiv hm 1 lfX10_137 rfl (by first | (simp only [zGS, zMS, Nat.reduceEqDiff, OfNat.ofNat_ne_ofNat, false_and, and_false, true_and, and_true, and_self, if_true, if_false, ite_true, ite_false, reduceIte, reduceCtorEq]; first | done | assumption | rfl) | assumption | exact z2_eq | exact z1_eq | (simp [zGS, zMS]; first | done | assumption) | rfl) dX10_element_173 rfl ?_
  refine r_iload_n dX10_element_176 rfl rfl ?_
  refine r_iconst dX10_element_177 kc_m1 rfl ?_
  refine r_icmp_ne (r := 185) dX10_element_178 (by decide) rfl (fun c_178 => ?_) (fun c_178 => ?_)
  · refine r_aload_n dX10_element_185 rfl (zRv_ref _) rfl ?_
    refine m_geta hm 7 6 lfX10_25 rfl (by decide) dX10_element_186 rfl ?_
    refine r_iload_n dX10_element_189 rfl rfl ?_
    refine m_ialdv hm 6 _ (by decide) (by decide) rfl rfl (by show _ < 24; omega) (by first | (simp only [zGS, zMS, Nat.reduceEqDiff, OfNat.ofNat_ne_ofNat, false_and, and_false, true_and, and_true, and_self, if_true, if_false, ite_true, ite_false, reduceIte, reduceCtorEq]; first | done | assumption | rfl) | assumption | exact z2_eq | exact z1_eq | (simp [zGS, zMS]; first | done | assumption) | rfl) dX10_element_190 rfl ?_
    refine r_iconst dX10_element_191 kc_1 rfl ?_
    refine r_iaddN dX10_element_192 rfl ?_
    refine m_iast hm 5 _ (by decide) (by decide) rfl rfl (by show _ < 24; omega) dX10_element_193 rfl ?_
    refine r_iload_n dX10_element_194 rfl rfl ?_
    refine r_iconst dX10_element_195 kc_m1 rfl ?_
    refine r_icmp_eq (r := 209) dX10_element_196 (by decide) rfl (fun c_196 => ?_) (fun c_196 => ?_)
    · exact absurd c_196 hne
    · refine r_aload_n dX10_element_199 rfl (zRv_ref _) rfl ?_
      refine m_geta hm 7 6 lfX10_25 rfl (by decide) dX10_element_200 rfl ?_
      refine r_iload_n dX10_element_203 rfl rfl ?_
      refine r_dup2 dX10_element_204 (by first | rfl | exact zcat_rf _) (by first | rfl | exact zcat_rf _) rfl ?_
      refine m_ialdv hm 6 _ (by decide) (by decide) rfl rfl (by show _ < 24; omega) (by first | (simp only [zGS, zMS, Nat.reduceEqDiff, OfNat.ofNat_ne_ofNat, false_and, and_false, true_and, and_true, and_self, if_true, if_false, ite_true, ite_false, reduceIte, reduceCtorEq]; first | done | assumption | rfl) | assumption | exact z2_eq | exact z1_eq | (simp [zGS, zMS]; first | done | assumption) | rfl) dX10_element_205 rfl ?_
      refine r_iconst dX10_element_206 kc_1 rfl ?_
      refine r_iaddN dX10_element_207 rfl ?_
      refine m_iast hm 6 _ (by decide) (by decide) rfl rfl (by show _ < 24; omega) dX10_element_208 rfl ?_
      refine r_aload_n dX10_element_209 rfl (zRv_ref _) rfl ?_
      refine m_geta hm 7 6 lfX10_25 rfl (by decide) dX10_element_210 rfl ?_
      refine r_aload_n dX10_element_213 rfl (zRv_ref _) rfl ?_
      refine m_getiv hm 1 lfX10_137 rfl (by first | (simp only [zGS, zMS, Nat.reduceEqDiff, OfNat.ofNat_ne_ofNat, false_and, and_false, true_and, and_true, and_self, if_true, if_false, ite_true, ite_false, reduceIte, reduceCtorEq]; first | done | assumption | rfl) | assumption | exact z2_eq | exact z1_eq | (simp [zGS, zMS]; first | done | assumption) | rfl) dX10_element_214 rfl ?_
      refine r_iconst dX10_element_217 kc_0 rfl ?_
      refine m_iast hm 6 _ (by decide) (by decide) rfl rfl (by show _ < 24; omega) dX10_element_218 rfl ?_
      refine r_aload_n dX10_element_219 rfl (zRv_ref _) rfl ?_
      refine r_dup dX10_element_220 (by first | rfl | exact zcat_rf _) rfl ?_
      refine m_getiv hm 1 lfX10_137 rfl (by first | (simp only [zGS, zMS, Nat.reduceEqDiff, OfNat.ofNat_ne_ofNat, false_and, and_false, true_and, and_true, and_self, if_true, if_false, ite_true, ite_false, reduceIte, reduceCtorEq]; first | done | assumption | rfl) | assumption | exact z2_eq | exact z1_eq | (simp [zGS, zMS]; first | done | assumption) | rfl) dX10_element_221 rfl ?_
      refine r_iconst dX10_element_224 kc_1 rfl ?_
      refine r_iaddN dX10_element_225 rfl ?_
      refine m_puti hm 1 lfX10_137 rfl rfl rfl dX10_element_226 rfl ?_
      refine r_aload_n dX10_element_229 rfl (zRv_ref _) rfl ?_
      refine m_getiv hm 1 lfX10_137 rfl (by first | (simp only [zGS, zMS, Nat.reduceEqDiff, OfNat.ofNat_ne_ofNat, false_and, and_false, true_and, and_true, and_self, if_true, if_false, ite_true, ite_false, reduceIte, reduceCtorEq]; first | done | assumption | rfl) | assumption | exact z2_eq | exact z1_eq | (simp [zGS, zMS]; first | done | assumption) | rfl) dX10_element_230 rfl ?_
      refine r_iconst dX10_element_233 kc_1 rfl ?_
      refine r_isubN (by omega) dX10_element_234 rfl ?_
      refine r_iret rfl dX10_element_235 ?_
      refine ⟨rfl, rfl, ?_⟩
      exact fin _ rfl
  · exact absurd c_178 hne
theorem mel_127 (E : ZE) (mo : Nat) (hm : E.2.2.2.2 = some mo) (w : ZW) (sg : ZM) (d : Nat) (p t i c : Int32) (T : List PEl) (Rs : List PRule) (B : List Nat) (h : mdI sg T Rs B) (hc0 : mi sg 0 = nI 0) (ho : okEl T p t i c = true) (h24 : T.length ≠ 24) (x5 x6 : Option Value) : RW E MX10_element 127 [some (.ref mo), some (.int p), some (.int t), some (.int i), some (.int c), x5, x6] [] w sg d 0 0 (PN E (melQ T Rs B p t i c w)) := by
  have h0 := ho
  unfold okEl okN okCl at h0
  rw [Bool.and_eq_true, Bool.and_eq_true, Bool.and_eq_true, Bool.and_eq_true, decide_eq_true_eq, decide_eq_true_eq] at h0
  obtain ⟨⟨h1, h2, h3⟩, h4, h5⟩ := h0
  obtain ⟨a, ha, rfl⟩ := lttI_n h2
  have h6 : ∃ b, b < 128 ∧ i = nI b := by
    rw [Bool.or_eq_true, decide_eq_true_eq] at h3
    rcases h3 with h3 | h3
    · exact ⟨0, by decide, h3⟩
    · exact lttI_n h3
  obtain ⟨b, hb, rfl⟩ := h6
  obtain ⟨c, hc, rfl⟩ := nI_of h4
  have hc2 : c < 256 := by
    rw [nI_lt' (by decide) hc] at h5
    omega
  have hT24 : T.length ≤ 24 := h.1.1.1
  unfold okP at h1
  by_cases hz : T.length = 0
  · rw [if_pos hz, decide_eq_true_eq] at h1
    subst h1
    have e1 : newV (-1) (nI a) (nI b) (nI c) = (none, a, b, c) := by
      unfold newV
      rw [if_pos rfl, ixD_n (by omega), ixD_n (by omega), ixD_n (by omega)]
    refine RW.qmono (mel_r E mo hm w sg d a b c ha hb hc2 T Rs B h hz x5 x6) ?_
    rintro v w' sg' ⟨q1, q2, q3, q4⟩
    refine ⟨q1, ⟨_, q2⟩, Or.inr (Or.inr ⟨ho, h24, q3.trans hc0, q2, ?_, fun r => ?_⟩)⟩
    · rw [e1]; exact q4
    · exact r.app (fun z => absurd hz z)
  · rw [if_neg hz] at h1
    obtain ⟨q, hq, rfl⟩ := inI_nat (by omega) h1
    have e1 : newV (nI q) (nI a) (nI b) (nI c) = (some q, a, b, c) := by
      unfold newV
      rw [if_neg (nI_neg (by omega)), ixD_n (by omega), ixD_n (by omega), ixD_n (by omega), ixD_n (by omega)]
    refine RW.qmono (mel_c E mo hm w sg d q a b c ha hb hc2 T Rs B h hq (by omega) x5 x6) ?_
    rintro v w' sg' ⟨q1, q2, q3, q4⟩
    refine ⟨q1, ⟨_, q2⟩, Or.inr (Or.inr ⟨ho, h24, q3.trans hc0, q2, ?_, fun r => ?_⟩)⟩
    · rw [e1]; exact q4
    · rw [e1]; exact r.app (fun _ => ⟨q, rfl⟩)
theorem mel_91 (E : ZE) (mo : Nat) (hm : E.2.2.2.2 = some mo) (w : ZW) (sg : ZM) (d : Nat) (p t i c : Int32) (T : List PEl) (Rs : List PRule) (B : List Nat) (h : mdI sg T Rs B) (x5 : Option Value) (f : Bool) (hf : f = okEl T p t i c) : RW E MX10_element 91 [some (.ref mo), some (.int p), some (.int t), some (.int i), some (.int c), x5, some (.int (zb f))] [] w sg d 0 0 (PN E (melQ T Rs B p t i c w)) := by
  have h1 : mi sg 1 = nI T.length := h.1.2.1
  have hT24 : T.length ≤ 24 := h.1.1.1
  cases f with
  | false =>
    refine r_aload_n dX10_element_91 rfl (zRv_ref _) rfl ?_
    refine r_iload dX10_element_92 rfl rfl ?_
    refine r_if_neB (r := 101) dX10_element_94 (by decide) rfl (fun c_94 => ?_) (fun c_94 => ?_)
    · cases c_94
    · refine r_iconst dX10_element_97 kc_1 rfl ?_
      refine r_goto (r := 115) dX10_element_98 (by decide) ?_
      refine m_puti hm 0 lfX10_133 rfl rfl rfl dX10_element_115 rfl ?_
      refine r_aload_n dX10_element_118 rfl (zRv_ref _) rfl ?_
      refine m_getiv hm 0 lfX10_133 rfl (by first | (simp only [zGS, zMS, Nat.reduceEqDiff, OfNat.ofNat_ne_ofNat, false_and, and_false, true_and, and_true, and_self, if_true, if_false, ite_true, ite_false, reduceIte, reduceCtorEq]; first | done | assumption | rfl) | assumption | exact z2_eq | exact z1_eq | (simp [zGS, zMS]; first | done | assumption) | rfl) dX10_element_119 rfl ?_
      refine r_if_le (r := 127) dX10_element_122 (by decide) rfl (fun c_122 => ?_) (fun c_122 => ?_)
      · exact absurd (show nI 1 ≤ 0 from c_122) (by decide)
      · refine r_iconst dX10_element_125 kc_0 rfl ?_
        refine r_iret rfl dX10_element_126 ?_
        exact ⟨rfl, ⟨_, rfl⟩, Or.inl ⟨hf.symm, by rw [mi_msi, if_pos rfl], h.code _⟩⟩
  | true =>
    by_cases h24 : T.length = 24
    · skip
      refine r_aload_n dX10_element_91 rfl (zRv_ref _) rfl ?_
      refine r_iload dX10_element_92 rfl rfl ?_
      refine r_if_neB (r := 101) dX10_element_94 (by decide) rfl (fun c_94 => ?_) (fun c_94 => ?_)
      · refine r_aload_n dX10_element_101 rfl (zRv_ref _) rfl ?_
        refine m_getiv hm 1 lfX10_137 rfl (by first | (simp only [zGS, zMS, Nat.reduceEqDiff, OfNat.ofNat_ne_ofNat, false_and, and_false, true_and, and_true, and_self, if_true, if_false, ite_true, ite_false, reduceIte, reduceCtorEq]; first | done | assumption | rfl) | assumption | exact z2_eq | exact z1_eq | (simp [zGS, zMS]; first | done | assumption) | rfl) dX10_element_102 rfl ?_
        refine r_bipush dX10_element_105 kb_24 rfl ?_
        refine r_icmp_neN (by omega) (by omega) (r := 114) dX10_element_107 (by decide) rfl (fun c_107 => ?_) (fun c_107 => ?_)
        · exact absurd h24 c_107
        · refine r_iconst dX10_element_110 kc_2 rfl ?_
          refine r_goto (r := 115) dX10_element_111 (by decide) ?_
          refine m_puti hm 0 lfX10_133 rfl rfl rfl dX10_element_115 rfl ?_
          refine r_aload_n dX10_element_118 rfl (zRv_ref _) rfl ?_
          refine m_getiv hm 0 lfX10_133 rfl (by first | (simp only [zGS, zMS, Nat.reduceEqDiff, OfNat.ofNat_ne_ofNat, false_and, and_false, true_and, and_true, and_self, if_true, if_false, ite_true, ite_false, reduceIte, reduceCtorEq]; first | done | assumption | rfl) | assumption | exact z2_eq | exact z1_eq | (simp [zGS, zMS]; first | done | assumption) | rfl) dX10_element_119 rfl ?_
          refine r_if_le (r := 127) dX10_element_122 (by decide) rfl (fun c_122 => ?_) (fun c_122 => ?_)
          · exact absurd (show nI 2 ≤ 0 from c_122) (by decide)
          · refine r_iconst dX10_element_125 kc_0 rfl ?_
            refine r_iret rfl dX10_element_126 ?_
            exact ⟨rfl, ⟨_, rfl⟩, Or.inr (Or.inl ⟨hf.symm, h24, by rw [mi_msi, if_pos rfl], h.code _⟩)⟩
      · cases c_94
    · skip
      refine r_aload_n dX10_element_91 rfl (zRv_ref _) rfl ?_
      refine r_iload dX10_element_92 rfl rfl ?_
      refine r_if_neB (r := 101) dX10_element_94 (by decide) rfl (fun c_94 => ?_) (fun c_94 => ?_)
      · refine r_aload_n dX10_element_101 rfl (zRv_ref _) rfl ?_
        refine m_getiv hm 1 lfX10_137 rfl (by first | (simp only [zGS, zMS, Nat.reduceEqDiff, OfNat.ofNat_ne_ofNat, false_and, and_false, true_and, and_true, and_self, if_true, if_false, ite_true, ite_false, reduceIte, reduceCtorEq]; first | done | assumption | rfl) | assumption | exact z2_eq | exact z1_eq | (simp [zGS, zMS]; first | done | assumption) | rfl) dX10_element_102 rfl ?_
        refine r_bipush dX10_element_105 kb_24 rfl ?_
        refine r_icmp_neN (by omega) (by omega) (r := 114) dX10_element_107 (by decide) rfl (fun c_107 => ?_) (fun c_107 => ?_)
        · refine r_iconst dX10_element_114 kc_0 rfl ?_
          refine m_puti hm 0 lfX10_133 rfl rfl rfl dX10_element_115 rfl ?_
          refine r_aload_n dX10_element_118 rfl (zRv_ref _) rfl ?_
          refine m_getiv hm 0 lfX10_133 rfl (by first | (simp only [zGS, zMS, Nat.reduceEqDiff, OfNat.ofNat_ne_ofNat, false_and, and_false, true_and, and_true, and_self, if_true, if_false, ite_true, ite_false, reduceIte, reduceCtorEq]; first | done | assumption | rfl) | assumption | exact z2_eq | exact z1_eq | (simp [zGS, zMS]; first | done | assumption) | rfl) dX10_element_119 rfl ?_
          refine r_if_le (r := 127) dX10_element_122 (by decide) rfl (fun c_122 => ?_) (fun c_122 => ?_)
          · exact mel_127 E mo hm w _ d p t i c T Rs B (h.code _) (by rw [mi_msi, if_pos rfl]) hf.symm h24 _ _
          · exact absurd (show nI 0 ≤ 0 by decide) c_122
        · exact absurd c_107 h24
      · cases c_94
theorem mel_41 (E : ZE) (mo : Nat) (hm : E.2.2.2.2 = some mo) (w : ZW) (sg : ZM) (d : Nat) (hd : 1 ≤ d) (p t i c : Int32) (T : List PEl) (Rs : List PRule) (B : List Nat) (h : mdI sg T Rs B) (pl : Bool) (hp : pl = okP T p) : RW E MX10_element 41 [some (.ref mo), some (.int p), some (.int t), some (.int i), some (.int c), some (.int (zb pl)), none] [] w sg d 0 0 (PN E (melQ T Rs B p t i c w)) := by
  have o1 := q_outI E w sg (d - 1) t (nI 97) (nI 122)
  have o2 := q_outI E w sg (d - 1) i (nI 97) (nI 122)
  have o3 := q_outI E w sg (d - 1) c (nI 0) (nI 255)
  have K := mel_91 E mo hm w sg d p t i c T Rs B h (some (.int (zb pl)))
  have e1 : (decide (¬ t < nI 97) && decide (¬ nI 122 < t)) = lttI t := rfl
  have e2 : (decide (¬ i < nI 97) && decide (¬ nI 122 < i)) = lttI i := rfl
  have e3 : (decide (¬ c < nI 0) && decide (¬ nI 255 < c)) = okCl c := rfl
  rw [e1] at o1
  rw [e2] at o2
  rw [e3] at o3
  have ho : okEl T p t i c = ((pl && (lttI t && (decide (i = 0) || lttI i))) && okCl c) := by unfold okEl okN; rw [hp]
  refine r_iload dX10_element_41 rfl rfl ?_
  refine r_if_eqB (r := 88) dX10_element_43 (by decide) rfl (fun c_43 => ?_) (fun c_43 => ?_)
  · refine r_iconst dX10_element_88 kc_0 rfl ?_
    refine r_istore (ls' := [_, _, _, _, _, _, _]) dX10_element_89 (Nat.le_of_ble_eq_true rfl) rfl rfl ?_
    exact K false (by rw [ho]; simp_all)
  · refine r_iload_n dX10_element_46 rfl rfl ?_
    refine r_bipush dX10_element_47 kb_97 rfl ?_
    refine r_bipush dX10_element_49 kb_122 rfl ?_
    refine r_callS MX10_outside 3 [_, _, _] lsX10_140 (o1) rfl rfl (by first | exact Nat.le_of_ble_eq_true rfl | (simp [zcat_rf, Value.category]; done)) (by omega) (Nat.le_of_eq (Nat.zero_add _)) (Nat.le_of_eq (Nat.zero_add _)) dX10_element_51 rfl (fun v_ w_ sg_ hq_ => ?_)
    obtain ⟨rfl, rfl, rfl⟩ := hq_
    refine r_if_neB (r := 88) dX10_element_54 (by decide) rfl (fun c_54 => ?_) (fun c_54 => ?_)
    · refine r_iconst dX10_element_88 kc_0 rfl ?_
      refine r_istore (ls' := [_, _, _, _, _, _, _]) dX10_element_89 (Nat.le_of_ble_eq_true rfl) rfl rfl ?_
      exact K false (by rw [ho]; simp_all)
    · refine r_iload_n dX10_element_57 rfl rfl ?_
      refine r_if_eq (r := 72) dX10_element_58 (by decide) rfl (fun c_58 => ?_) (fun c_58 => ?_)
      · refine r_iload dX10_element_72 rfl rfl ?_
        refine r_iconst dX10_element_74 kc_0 rfl ?_
        refine r_sipush dX10_element_75 ks_255 rfl ?_
        refine r_callS MX10_outside 3 [_, _, _] lsX10_140 (o3) rfl rfl (by first | exact Nat.le_of_ble_eq_true rfl | (simp [zcat_rf, Value.category]; done)) (by omega) (Nat.le_of_eq (Nat.zero_add _)) (Nat.le_of_eq (Nat.zero_add _)) dX10_element_78 rfl (fun v_ w_ sg_ hq_ => ?_)
        obtain ⟨rfl, rfl, rfl⟩ := hq_
        refine r_if_neB (r := 88) dX10_element_81 (by decide) rfl (fun c_81 => ?_) (fun c_81 => ?_)
        · refine r_iconst dX10_element_88 kc_0 rfl ?_
          refine r_istore (ls' := [_, _, _, _, _, _, _]) dX10_element_89 (Nat.le_of_ble_eq_true rfl) rfl rfl ?_
          exact K false (by rw [ho]; simp_all)
        · refine r_iconst dX10_element_84 kc_1 rfl ?_
          refine r_goto (r := 89) dX10_element_85 (by decide) ?_
          refine r_istore (ls' := [_, _, _, _, _, _, _]) dX10_element_89 (Nat.le_of_ble_eq_true rfl) rfl rfl ?_
          exact K true (by rw [ho]; simp_all)
      · refine r_iload_n dX10_element_61 rfl rfl ?_
        refine r_bipush dX10_element_62 kb_97 rfl ?_
        refine r_bipush dX10_element_64 kb_122 rfl ?_
        refine r_callS MX10_outside 3 [_, _, _] lsX10_140 (o2) rfl rfl (by first | exact Nat.le_of_ble_eq_true rfl | (simp [zcat_rf, Value.category]; done)) (by omega) (Nat.le_of_eq (Nat.zero_add _)) (Nat.le_of_eq (Nat.zero_add _)) dX10_element_66 rfl (fun v_ w_ sg_ hq_ => ?_)
        obtain ⟨rfl, rfl, rfl⟩ := hq_
        refine r_if_neB (r := 88) dX10_element_69 (by decide) rfl (fun c_69 => ?_) (fun c_69 => ?_)
        · refine r_iconst dX10_element_88 kc_0 rfl ?_
          refine r_istore (ls' := [_, _, _, _, _, _, _]) dX10_element_89 (Nat.le_of_ble_eq_true rfl) rfl rfl ?_
          exact K false (by rw [ho]; simp_all)
        · refine r_iload dX10_element_72 rfl rfl ?_
          refine r_iconst dX10_element_74 kc_0 rfl ?_
          refine r_sipush dX10_element_75 ks_255 rfl ?_
          refine r_callS MX10_outside 3 [_, _, _] lsX10_140 (o3) rfl rfl (by first | exact Nat.le_of_ble_eq_true rfl | (simp [zcat_rf, Value.category]; done)) (by omega) (Nat.le_of_eq (Nat.zero_add _)) (Nat.le_of_eq (Nat.zero_add _)) dX10_element_78 rfl (fun v_ w_ sg_ hq_ => ?_)
          obtain ⟨rfl, rfl, rfl⟩ := hq_
          refine r_if_neB (r := 88) dX10_element_81 (by decide) rfl (fun c_81 => ?_) (fun c_81 => ?_)
          · refine r_iconst dX10_element_88 kc_0 rfl ?_
            refine r_istore (ls' := [_, _, _, _, _, _, _]) dX10_element_89 (Nat.le_of_ble_eq_true rfl) rfl rfl ?_
            exact K false (by rw [ho]; simp_all)
          · refine r_iconst dX10_element_84 kc_1 rfl ?_
            refine r_goto (r := 89) dX10_element_85 (by decide) ?_
            refine r_istore (ls' := [_, _, _, _, _, _, _]) dX10_element_89 (Nat.le_of_ble_eq_true rfl) rfl rfl ?_
            exact K true (by rw [ho]; simp_all)
theorem q_element (E : ZE) (mo : Nat) (hm : E.2.2.2.2 = some mo) (w : ZW) (sg : ZM) (d : Nat) (hd : 1 ≤ d) (p t i c : Int32) (T : List PEl) (Rs : List PRule) (B : List Nat) (h : mdI sg T Rs B) : CallQ E MX10_element [.ref mo, .int p, .int t, .int i, .int c] w sg d 0 0 (melQ T Rs B p t i c w) := by
  have h1 : mi sg 1 = nI T.length := h.1.2.1
  have hT24 : T.length ≤ 24 := h.1.1.1
  have K := mel_41 E mo hm w sg d hd p t i c T Rs B h
  have ou := q_outE E w sg (d - 1) T.length p (nI T.length - nI 1) (by omega) rfl
  refine CallQ.of rfl (by simp [Value.category]) (Nat.le_of_ble_eq_true rfl) ?_
  by_cases hz : T.length = 0
  · have ep : okP T p = decide (p = -1) := by unfold okP; rw [if_pos hz]
    refine r_aload_n dX10_element_0 rfl (zRv_ref _) rfl ?_
    refine m_getiv hm 1 lfX10_137 rfl (by first | (simp only [zGS, zMS, Nat.reduceEqDiff, OfNat.ofNat_ne_ofNat, false_and, and_false, true_and, and_true, and_self, if_true, if_false, ite_true, ite_false, reduceIte, reduceCtorEq]; first | done | assumption | rfl) | assumption | exact z2_eq | exact z1_eq | (simp [zGS, zMS]; first | done | assumption) | rfl) dX10_element_1 rfl ?_
    refine r_if_neN (by omega) (r := 20) dX10_element_4 (by decide) rfl (fun c_4 => ?_) (fun c_4 => ?_)
    · exact absurd hz c_4
    · refine r_iload_n dX10_element_7 rfl rfl ?_
      refine r_iconst dX10_element_8 kc_m1 rfl ?_
      refine r_icmp_ne (r := 16) dX10_element_9 (by decide) rfl (fun c_9 => ?_) (fun c_9 => ?_)
      · refine r_iconst dX10_element_16 kc_0 rfl ?_
        refine r_goto (r := 39) dX10_element_17 (by decide) ?_
        refine r_istore (ls' := [_, _, _, _, _, _, _]) dX10_element_39 (Nat.le_of_ble_eq_true rfl) rfl rfl ?_
        exact K false (by rw [ep, decide_eq_false c_9])
      · refine r_iconst dX10_element_12 kc_1 rfl ?_
        refine r_goto (r := 39) dX10_element_13 (by decide) ?_
        refine r_istore (ls' := [_, _, _, _, _, _, _]) dX10_element_39 (Nat.le_of_ble_eq_true rfl) rfl rfl ?_
        exact K true (by rw [ep, decide_eq_true c_9])
  · have ep : okP T p = inI p T.length := by unfold okP; rw [if_neg hz]
    refine r_aload_n dX10_element_0 rfl (zRv_ref _) rfl ?_
    refine m_getiv hm 1 lfX10_137 rfl (by first | (simp only [zGS, zMS, Nat.reduceEqDiff, OfNat.ofNat_ne_ofNat, false_and, and_false, true_and, and_true, and_self, if_true, if_false, ite_true, ite_false, reduceIte, reduceCtorEq]; first | done | assumption | rfl) | assumption | exact z2_eq | exact z1_eq | (simp [zGS, zMS]; first | done | assumption) | rfl) dX10_element_1 rfl ?_
    refine r_if_neN (by omega) (r := 20) dX10_element_4 (by decide) rfl (fun c_4 => ?_) (fun c_4 => ?_)
    · refine r_iload_n dX10_element_20 rfl rfl ?_
      refine r_iconst dX10_element_21 kc_0 rfl ?_
      refine r_aload_n dX10_element_22 rfl (zRv_ref _) rfl ?_
      refine m_getiv hm 1 lfX10_137 rfl (by first | (simp only [zGS, zMS, Nat.reduceEqDiff, OfNat.ofNat_ne_ofNat, false_and, and_false, true_and, and_true, and_self, if_true, if_false, ite_true, ite_false, reduceIte, reduceCtorEq]; first | done | assumption | rfl) | assumption | exact z2_eq | exact z1_eq | (simp [zGS, zMS]; first | done | assumption) | rfl) dX10_element_23 rfl ?_
      refine r_iconst dX10_element_26 kc_1 rfl ?_
      refine r_isub dX10_element_27 rfl ?_
      refine r_callS MX10_outside 3 [_, _, _] lsX10_140 (ou) rfl rfl (by first | exact Nat.le_of_ble_eq_true rfl | (simp [zcat_rf, Value.category]; done)) (by omega) (Nat.le_of_eq (Nat.zero_add _)) (Nat.le_of_eq (Nat.zero_add _)) dX10_element_28 rfl (fun v_ w_ sg_ hq_ => ?_)
      obtain ⟨rfl, rfl, rfl⟩ := hq_
      refine r_if_neB (r := 38) dX10_element_31 (by decide) rfl (fun c_31 => ?_) (fun c_31 => ?_)
      · refine r_iconst dX10_element_38 kc_0 rfl ?_
        refine r_istore (ls' := [_, _, _, _, _, _, _]) dX10_element_39 (Nat.le_of_ble_eq_true rfl) rfl rfl ?_
        exact K false (by rw [ep]; simp_all)
      · refine r_iconst dX10_element_34 kc_1 rfl ?_
        refine r_goto (r := 39) dX10_element_35 (by decide) ?_
        refine r_istore (ls' := [_, _, _, _, _, _, _]) dX10_element_39 (Nat.le_of_ble_eq_true rfl) rfl rfl ?_
        exact K true (by rw [ep]; simp_all)
    · exact absurd c_4 hz
