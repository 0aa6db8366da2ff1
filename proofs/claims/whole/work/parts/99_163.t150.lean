/-! ===== the model: count, put ===== -/
theorem q_count (E : ZE) (mo : Nat) (hm : E.2.2.2.2 = some mo) (w : ZW) (sg : ZM) (d : Nat) (T : List PEl) (Rs : List PRule) (B : List Nat) (what : Int32) (h : mdI sg T Rs B) : CallQ E MX10_count [.ref mo, .int what] w sg d 0 0 (fun v w' sg' => v = some (.int (cntD what T Rs B)) ∧ w = w' ∧ mi sg' 0 = nI 0 ∧ mdI sg' T Rs B) := by
  have h8 : mi sg 8 = nI Rs.length := h.2.2.1
  have h1 : mi sg 1 = nI T.length := h.1.2.1
  have hB : ma sg 8 16 = nI B.length := h.2.2.2.2.1.1
  have hc := h.code (nI 0)
  have h0 : mi (msi sg 0 (nI 0)) 0 = nI 0 := by rw [mi_msi, if_pos rfl]
  refine CallQ.of rfl (by simp [Value.category]) (Nat.le_of_ble_eq_true rfl) ?_
  unfold cntD
  refine r_aload_n dX10_count_0 rfl (zRv_ref _) rfl ?_
  refine r_iconst dX10_count_1 kc_0 rfl ?_
  refine m_puti hm 0 lfX10_133 rfl rfl rfl dX10_count_2 rfl ?_
  refine r_iload_n dX10_count_5 rfl rfl ?_
  refine r_if_ne (r := 16) dX10_count_6 (by decide) rfl (fun c_6 => ?_) (fun c_6 => ?_)
  · refine r_iload_n dX10_count_16 rfl rfl ?_
    refine r_iconst dX10_count_17 kc_1 rfl ?_
    refine r_icmp_ne (r := 28) dX10_count_18 (by decide) rfl (fun c_18 => ?_) (fun c_18 => ?_)
    · refine r_iload_n dX10_count_28 rfl rfl ?_
      refine r_iconst dX10_count_29 kc_2 rfl ?_
      refine r_icmp_ne (r := 43) dX10_count_30 (by decide) rfl (fun c_30 => ?_) (fun c_30 => ?_)
      · refine r_iconst dX10_count_43 kc_m1 rfl ?_
        refine r_iret rfl dX10_count_44 ?_
        rw [if_neg c_6, if_neg (show ¬ what = 1 from c_18), if_neg (show ¬ what = 2 from c_30)]
        exact ⟨rfl, rfl, h0, hc⟩
      · refine r_aload_n dX10_count_33 rfl (zRv_ref _) rfl ?_
        refine m_geta hm 10 8 lfX10_32 rfl (by decide) dX10_count_34 rfl ?_
        refine r_bipush dX10_count_37 kb_16 rfl ?_
        refine m_ialdv hm 8 _ (by decide) (by decide) rfl rfl (by show _ < 17; omega) (by first | (simp only [zGS, zMS, Nat.reduceEqDiff, OfNat.ofNat_ne_ofNat, false_and, and_false, true_and, and_true, and_self, if_true, if_false, ite_true, ite_false, reduceIte, reduceCtorEq]; first | done | assumption | rfl) | assumption | exact z2_eq | exact z1_eq | (simp [zGS, zMS]; first | done | assumption) | rfl) dX10_count_39 rfl ?_
        refine r_goto (r := 44) dX10_count_40 (by decide) ?_
        refine r_iret rfl dX10_count_44 ?_
        rw [if_neg c_6, if_neg (show ¬ what = 1 from c_18), if_pos (show what = 2 from c_30)]
        exact ⟨rfl, rfl, h0, hc⟩
    · refine r_aload_n dX10_count_21 rfl (zRv_ref _) rfl ?_
      refine m_getiv hm 8 lfX10_274 rfl (by first | (simp only [zGS, zMS, Nat.reduceEqDiff, OfNat.ofNat_ne_ofNat, false_and, and_false, true_and, and_true, and_self, if_true, if_false, ite_true, ite_false, reduceIte, reduceCtorEq]; first | done | assumption | rfl) | assumption | exact z2_eq | exact z1_eq | (simp [zGS, zMS]; first | done | assumption) | rfl) dX10_count_22 rfl ?_
      refine r_goto (r := 44) dX10_count_25 (by decide) ?_
      refine r_iret rfl dX10_count_44 ?_
      rw [if_neg c_6, if_pos (show what = 1 from c_18)]
      exact ⟨rfl, rfl, h0, hc⟩
  · refine r_aload_n dX10_count_9 rfl (zRv_ref _) rfl ?_
    refine m_getiv hm 1 lfX10_137 rfl (by first | (simp only [zGS, zMS, Nat.reduceEqDiff, OfNat.ofNat_ne_ofNat, false_and, and_false, true_and, and_true, and_self, if_true, if_false, ite_true, ite_false, reduceIte, reduceCtorEq]; first | done | assumption | rfl) | assumption | exact z2_eq | exact z1_eq | (simp [zGS, zMS]; first | done | assumption) | rfl) dX10_count_10 rfl ?_
    refine r_goto (r := 44) dX10_count_13 (by decide) ?_
    refine r_iret rfl dX10_count_44 ?_
    rw [if_pos (c_6)]
    exact ⟨rfl, rfl, h0, hc⟩
theorem bv_int (x : Int32) : (x.toBitVec.toNat : Int) = x.toInt % 4294967296 := by
  have h1 : x.toInt = x.toBitVec.toInt := rfl
  have h2 := x.toBitVec.isLt
  rw [h1, BitVec.toInt_eq_toNat_cond]
  split <;> omega
theorem shr_byte (x : Int32) {k : Nat} (hk : k < 4) : (x >>> (nI (8 * k) &&& 31)) &&& nI 255 = nI (byteN x k) := by
  unfold byteN
  rw [pk_and _ 8 (by decide +kernel)]
  congr 1
  have h1 := bv_int x
  have h4 : k = 0 ∨ k = 1 ∨ k = 2 ∨ k = 3 := by omega
  rcases h4 with rfl | rfl | rfl | rfl
  · have h2 := bv_int (x >>> (nI (8 * 0) &&& 31))
    rw [pk_shr x _ 0 (by decide +kernel), Int.shiftRight_eq_div_pow] at h2
    omega
  · have h2 := bv_int (x >>> (nI (8 * 1) &&& 31))
    rw [pk_shr x _ 8 (by decide +kernel), Int.shiftRight_eq_div_pow] at h2
    omega
  · have h2 := bv_int (x >>> (nI (8 * 2) &&& 31))
    rw [pk_shr x _ 16 (by decide +kernel), Int.shiftRight_eq_div_pow] at h2
    omega
  · have h2 := bv_int (x >>> (nI (8 * 3) &&& 31))
    rw [pk_shr x _ 24 (by decide +kernel), Int.shiftRight_eq_div_pow] at h2
    omega
theorem mdI.push {a : ZM} {T : List PEl} {Rs : List PRule} {B : List Nat} (h : mdI a T Rs B) (hl : B.length < 120) {c : Nat} (hc : 32 ≤ c ∧ c ≤ 126) : mdI (msa (msa a 7 (1920 + B.length) (nI c)) 8 16 (nI (B.length + 1))) T Rs (B ++ [c]) := by
  obtain ⟨hT, h1, h2, h3, h4, h5, h6⟩ := h
  have e7 : ∀ i, i ≠ 1920 + B.length → ma (msa (msa a 7 (1920 + B.length) (nI c)) 8 16 (nI (B.length + 1))) 7 i = ma a 7 i := fun i q => by
    rw [ma_msa, if_neg (by omega), ma_msa, if_neg (by omega)]
  have e0 : ∀ j i, j ≠ 7 → ¬ (j = 8 ∧ i = 16) → ma (msa (msa a 7 (1920 + B.length) (nI c)) 8 16 (nI (B.length + 1))) j i = ma a j i := fun j i p q => by
    rw [ma_msa, if_neg q, ma_msa, if_neg (by omega)]
  have e8 : ma (msa (msa a 7 (1920 + B.length) (nI c)) 8 16 (nI (B.length + 1))) 7 (1920 + B.length) = nI c := by
    rw [ma_msa, if_neg (by omega), ma_msa, if_pos ⟨rfl, rfl⟩]
  have e9 : ma (msa (msa a 7 (1920 + B.length) (nI c)) 8 16 (nI (B.length + 1))) 8 16 = nI (B.length + 1) := by
    rw [ma_msa, if_pos ⟨rfl, rfl⟩]
  have hmi : mi (msa (msa a 7 (1920 + B.length) (nI c)) 8 16 (nI (B.length + 1))) = mi a := rfl
  generalize msa (msa a 7 (1920 + B.length) (nI c)) 8 16 (nI (B.length + 1)) = b at e7 e0 e8 e9 hmi ⊢
  have hlen : (B ++ [c]).length = B.length + 1 := by rw [List.length_append]; rfl
  refine ⟨hT.fr (by rw [hmi]) (fun j i _ _ => e0 j i (by omega) (by omega)), h1, by rw [hmi]; exact h2, fun k R hR => ?_, ⟨by rw [hlen]; exact e9, by omega, fun i x hx => ?_, fun x hx => ?_⟩, fun i hi => ?_, h6.kp (fun j i _ _ => e0 j i (by omega) (by omega))⟩
  · have hk := (List.getElem?_eq_some_iff.mp hR).1
    obtain ⟨q, q1, q2, q3⟩ := h3 k R hR
    exact ⟨q, q1.fr (e0 8 k (by decide) (by omega)) (fun i _ _ => e7 i (by omega)), (e0 9 k (by decide) (by omega)).trans q2, q3⟩
  · have hi := (List.getElem?_eq_some_iff.mp hx).1
    rw [hlen] at hi
    rcases Nat.lt_or_ge i B.length with c9 | c9
    · rw [List.getElem?_append_left c9] at hx
      have := h4.2.2.1 i x hx
      unfold chN at this ⊢
      rw [e7 _ (by omega)]
      exact this
    · have hi2 : i = B.length := by omega
      subst hi2
      rw [List.getElem?_append_right c9, Nat.sub_self] at hx
      cases hx
      unfold chN
      rw [show 120 * 16 + B.length = 1920 + B.length by omega, e8, zcl (by omega)]
  · rcases List.mem_append.mp hx with g | g
    · exact h4.2.2.2 x g
    · rw [List.mem_singleton] at g
      omega
  · rcases Nat.lt_or_ge i (1920 + B.length) with c9 | c9
    · rw [e7 i (by omega)]
      exact h5 i hi
    · by_cases c8 : i = 1920 + B.length
      · rw [c8]
        exact ⟨c, by omega, e8⟩
      · rw [e7 i c8]
        exact h5 i hi
theorem rput_1 (E : ZE) (w : ZW) (sg : ZM) (d mo n : Nat) (hd : 1 ≤ d) (x : Int32) (hn : n ≤ 4) (P : ZPhi) (hF : (¬ ∀ j, j < n → okb x j) → ∀ i, RW E MX10_put 57 [some (.ref mo), some (.int x), some (.int (nI n)), some (.int (nI i))] [] w sg d 0 0 P) (hK : (∀ j, j < n → okb x j) → RW E MX10_put 65 [some (.ref mo), some (.int x), some (.int (nI n)), some (.int (nI n))] [] w sg d 0 0 P) : ∀ (m i : Nat), i + m = n → (∀ j, j < i → okb x j) → RW E MX10_put 32 [some (.ref mo), some (.int x), some (.int (nI n)), some (.int (nI i))] [] w sg d 0 0 P
  | 0, i, hi, hj => by
    have : i = n := by omega
    subst this
    refine r_iload_n dX10_put_32 rfl rfl ?_
    refine r_iload_n dX10_put_33 rfl rfl ?_
    refine r_icmp_geN (by omega) (by omega) (r := 65) dX10_put_34 (by decide) rfl (fun c_34 => ?_) (fun c_34 => ?_)
    · exact hK hj
    · exact absurd c_34 (by omega)
  | m + 1, i, hi, hj => by
    have h9 := byteN_lt x i
    have hb := shr_byte x (show i < 4 by omega)
    refine r_iload_n dX10_put_32 rfl rfl ?_
    refine r_iload_n dX10_put_33 rfl rfl ?_
    refine r_icmp_geN (by omega) (by omega) (r := 65) dX10_put_34 (by decide) rfl (fun c_34 => ?_) (fun c_34 => ?_)
    · exact absurd c_34 (by omega)
    · refine r_iload_n dX10_put_37 rfl rfl ?_
      refine r_bipush dX10_put_38 kb_8 rfl ?_
      refine r_iload_n dX10_put_40 rfl rfl ?_
      refine r_imulN dX10_put_41 rfl ?_
      refine r_ishr dX10_put_42 rfl ?_
      refine r_sipush dX10_put_43 ks_255 rfl ?_
      refine r_iand dX10_put_46 rfl ?_
      rw [hb]
      refine r_bipush dX10_put_47 kb_32 rfl ?_
      refine r_bipush dX10_put_49 kb_126 rfl ?_
      refine r_callS MX10_outside 3 [_, _, _] lsX10_140 (q_outside E w sg (d - 1) (byteN x i) 32 126 (by omega) (by decide) (by decide)) rfl rfl (by first | exact Nat.le_of_ble_eq_true rfl | (simp [zcat_rf, Value.category]; done)) (by omega) (Nat.le_of_eq (Nat.zero_add _)) (Nat.le_of_eq (Nat.zero_add _)) dX10_put_51 rfl (fun v_ w_ sg_ hq_ => ?_)
      obtain ⟨rfl, rfl, rfl⟩ := hq_
      refine r_if_eqB (r := 59) dX10_put_54 (by decide) rfl (fun c_54 => ?_) (fun c_54 => ?_)
      · refine r_iinc (ls' := [_, _, _, _]) dX10_put_59 (Nat.le_of_ble_eq_true rfl) rfl (zinc1 _) rfl rfl ?_
        refine r_goto (r := 32) dX10_put_62 (by decide) ?_
        exact rput_1 E w sg d mo n hd x hn P hF hK m (i + 1) (by omega) (fun j hj2 => (Nat.lt_or_ge j i).elim (fun q9 => hj j q9) (fun q9 => by rw [show j = i by omega]; unfold inN at c_54; have c9 : 32 ≤ byteN x i ∧ byteN x i ≤ 126 := (by simpa using c_54); exact c9))
      · exact hF (fun h => by have := h i (by omega); unfold okb at this; unfold inN at c_54; rcases (by simpa using c_54 : byteN x i < 32 ∨ 126 < byteN x i) with q | q <;> omega) i
theorem rput_2 (E : ZE) (mo : Nat) (hm : E.2.2.2.2 = some mo) (w : ZW) (d n : Nat) (x : Int32) (T : List PEl) (Rs : List PRule) (B0 : List Nat) (hok : ∀ j, j < n → okb x j) (hn : n ≤ 4) : ∀ (k : Nat) (sg : ZM) (B : List Nat), k ≤ n → B.length + k ≤ 120 → B ++ pBytes x k = B0 ++ pBytes x n → mdI sg T Rs B → mi sg 0 = nI 0 → RW E MX10_put 69 [some (.ref mo), some (.int x), some (.int (nI n)), some (.int (iV k))] [] w sg d 0 0 (PN E (fun v w' sg' => v = some (.int (zb true)) ∧ w = w' ∧ mi sg' 0 = nI 0 ∧ mdI sg' T Rs (B0 ++ pBytes x n)))
  | 0, sg, B, hk, hl, he, h, h0 => by
    rw [show iV 0 = -1 from rfl]
    rw [show pBytes x 0 = [] from rfl, List.append_nil] at he
    subst he
    refine r_iload_n dX10_put_69 rfl rfl ?_
    refine r_if_lt (r := 117) dX10_put_70 (by decide) rfl (fun c_70 => ?_) (fun c_70 => ?_)
    · refine r_iconst dX10_put_117 kc_1 rfl ?_
      refine r_zret .boolean rfl rfl dX10_put_118 ?_
      exact ⟨rfl, rfl, h0, h⟩
    · exact absurd (by decide) c_70
  | k + 1, sg, B, hk, hl, he, h, h0 => by
    rw [show iV (k + 1) = nI k from rfl]
    have h9 := byteN_lt x k
    have hc := hok k (by omega)
    unfold okb at hc
    have hb := shr_byte x (show k < 4 by omega)
    have hB : ma sg 8 16 = nI B.length := h.2.2.2.2.1.1
    refine r_iload_n dX10_put_69 rfl rfl ?_
    refine r_if_ltN (by omega) (r := 117) dX10_put_70 (by decide) rfl (fun c_70 => ?_) (fun c_70 => ?_)
    · exact absurd c_70 (by omega)
    · refine r_aload_n dX10_put_73 rfl (zRv_ref _) rfl ?_
      refine m_geta hm 9 7 lfX10_28 rfl (by decide) dX10_put_74 rfl ?_
      refine r_sipush dX10_put_77 ks_1920 rfl ?_
      refine r_aload_n dX10_put_80 rfl (zRv_ref _) rfl ?_
      refine m_geta hm 10 8 lfX10_32 rfl (by decide) dX10_put_81 rfl ?_
      refine r_bipush dX10_put_84 kb_16 rfl ?_
      refine m_ialdv hm 8 _ (by decide) (by decide) rfl rfl (by show _ < 17; omega) (by first | (simp only [zGS, zMS, Nat.reduceEqDiff, OfNat.ofNat_ne_ofNat, false_and, and_false, true_and, and_true, and_self, if_true, if_false, ite_true, ite_false, reduceIte, reduceCtorEq]; first | done | assumption | rfl) | assumption | exact z2_eq | exact z1_eq | (simp [zGS, zMS]; first | done | assumption) | rfl) dX10_put_86 rfl ?_
      refine r_iaddN dX10_put_87 rfl ?_
      refine r_iload_n dX10_put_88 rfl rfl ?_
      refine r_bipush dX10_put_89 kb_8 rfl ?_
      refine r_iload_n dX10_put_91 rfl rfl ?_
      refine r_imulN dX10_put_92 rfl ?_
      refine r_ishr dX10_put_93 rfl ?_
      refine r_sipush dX10_put_94 ks_255 rfl ?_
      refine r_iand dX10_put_97 rfl ?_
      rw [hb]
      refine r_i2c dX10_put_98 (zchr (by omega)) rfl ?_
      refine m_cast hm 7 _ (by first | exact zch_nar (by omega) | assumption | (simp only [*]; exact zch_nar (by omega))) (by decide) (by decide) rfl rfl (by show _ < 2040; omega) dX10_put_99 rfl ?_
      refine r_aload_n dX10_put_100 rfl (zRv_ref _) rfl ?_
      refine m_geta hm 10 8 lfX10_32 rfl (by decide) dX10_put_101 rfl ?_
      refine r_bipush dX10_put_104 kb_16 rfl ?_
      refine r_dup2 dX10_put_106 (by first | rfl | exact zcat_rf _) (by first | rfl | exact zcat_rf _) rfl ?_
      refine m_ialdv hm 8 _ (by decide) (by decide) rfl rfl (by show _ < 17; omega) (by first | (simp only [zGS, zMS, Nat.reduceEqDiff, OfNat.ofNat_ne_ofNat, false_and, and_false, true_and, and_true, and_self, if_true, if_false, ite_true, ite_false, reduceIte, reduceCtorEq]; first | done | assumption | rfl) | assumption | exact z2_eq | exact z1_eq | (simp [zGS, zMS]; first | done | assumption) | rfl) dX10_put_107 rfl ?_
      refine r_iconst dX10_put_108 kc_1 rfl ?_
      refine r_iaddN dX10_put_109 rfl ?_
      refine m_iast hm 8 _ (by decide) (by decide) rfl rfl (by show _ < 17; omega) dX10_put_110 rfl ?_
      refine r_iinc (ls' := [_, _, _, _]) dX10_put_111 (Nat.le_of_ble_eq_true rfl) rfl (ziV k) rfl rfl ?_
      refine r_goto (r := 69) dX10_put_114 (by decide) ?_
      exact rput_2 E mo hm w d n x T Rs B0 hok hn k _ (B ++ [byteN x k]) (by omega) (by rw [List.length_append, List.length_singleton]; omega) (by rw [List.append_assoc]; exact he) (h.push (by omega) hc) h0
theorem q_put (E : ZE) (mo : Nat) (hm : E.2.2.2.2 = some mo) (w : ZW) (sg : ZM) (d : Nat) (hd : 1 ≤ d) (T : List PEl) (Rs : List PRule) (B : List Nat) (x n : Int32) (h : mdI sg T Rs B) : CallQ E MX10_put [.ref mo, .int x, .int n] w sg d 0 0 (fun v w' sg' => v = some (.int (zb (pPut x n B).isSome)) ∧ w = w' ∧ mi sg' 0 = nI 0 ∧ mdI sg' T Rs ((pPut x n B).getD B)) := by
  have hB : ma sg 8 16 = nI B.length := h.2.2.2.2.1.1
  have hBl := h.2.2.2.2.1.2.1
  have hc0 := h.code (nI 0)
  have h0 : mi (msi sg 0 (nI 0)) 0 = nI 0 := by rw [mi_msi, if_pos rfl]
  have hou := q_outI E w (msi sg 0 (nI 0)) (d - 1) n (nI 1) (nI 4)
  refine CallQ.of rfl (by simp [Value.category]) (Nat.le_of_ble_eq_true rfl) ?_
  by_cases hneg : n < 0
  · have e1 : pPut x n B = none := by
      unfold pPut
      rw [zneg hneg, if_neg (fun q => absurd q.1 (by decide))]
    rw [e1]
    have g1 : n < nI 1 := Int32.lt_trans hneg (by decide)
    rw [decide_eq_false (p := ¬ n < nI 1) (fun q => q g1)] at hou
    refine r_aload_n dX10_put_0 rfl (zRv_ref _) rfl ?_
    refine r_iconst dX10_put_1 kc_0 rfl ?_
    refine m_puti hm 0 lfX10_133 rfl rfl rfl dX10_put_2 rfl ?_
    refine r_iload_n dX10_put_5 rfl rfl ?_
    refine r_iconst dX10_put_6 kc_1 rfl ?_
    refine r_iconst dX10_put_7 kc_4 rfl ?_
    refine r_callS MX10_outside 3 [_, _, _] lsX10_140 (hou) rfl rfl (by first | exact Nat.le_of_ble_eq_true rfl | (simp [zcat_rf, Value.category]; done)) (by omega) (Nat.le_of_eq (Nat.zero_add _)) (Nat.le_of_eq (Nat.zero_add _)) dX10_put_8 rfl (fun v_ w_ sg_ hq_ => ?_)
    obtain ⟨rfl, rfl, rfl⟩ := hq_
    refine r_if_neB (r := 28) dX10_put_11 (by decide) rfl (fun c_11 => ?_) (fun c_11 => ?_)
    · refine r_iconst dX10_put_28 kc_0 rfl ?_
      refine r_zret .boolean rfl rfl dX10_put_29 ?_
      exact ⟨rfl, rfl, h0, hc0⟩
    · cases c_11
  · obtain ⟨m, hm', rfl⟩ := nI_of hneg
    have hz : (nI m).toNatClampNeg = m := zcl hm'
    have hou2 := q_outside E w (msi sg 0 (nI 0)) (d - 1) m 1 4 hm' (by decide) (by decide)
    by_cases hc : 1 ≤ m ∧ m ≤ 4 ∧ B.length + m ≤ 120
    · have hF : (¬ ∀ j, j < m → okb x j) → pPut x (nI m) B = none := fun q => by
        unfold pPut
        rw [hz, if_neg (fun q2 => q (okB_iff.mp q2.2.2.2))]
      have hT : (∀ j, j < m → okb x j) → pPut x (nI m) B = some (B ++ pBytes x m) := fun q => by
        unfold pPut
        rw [hz, if_pos ⟨hc.1, hc.2.1, hc.2.2, okB_iff.mpr q⟩]
      have e2 : inN m 1 4 = true := decide_eq_true ⟨hc.1, hc.2.1⟩
      rw [e2] at hou2
      refine r_aload_n dX10_put_0 rfl (zRv_ref _) rfl ?_
      refine r_iconst dX10_put_1 kc_0 rfl ?_
      refine m_puti hm 0 lfX10_133 rfl rfl rfl dX10_put_2 rfl ?_
      refine r_iload_n dX10_put_5 rfl rfl ?_
      refine r_iconst dX10_put_6 kc_1 rfl ?_
      refine r_iconst dX10_put_7 kc_4 rfl ?_
      refine r_callS MX10_outside 3 [_, _, _] lsX10_140 (hou2) rfl rfl (by first | exact Nat.le_of_ble_eq_true rfl | (simp [zcat_rf, Value.category]; done)) (by omega) (Nat.le_of_eq (Nat.zero_add _)) (Nat.le_of_eq (Nat.zero_add _)) dX10_put_8 rfl (fun v_ w_ sg_ hq_ => ?_)
      obtain ⟨rfl, rfl, rfl⟩ := hq_
      refine r_if_neB (r := 28) dX10_put_11 (by decide) rfl (fun c_11 => ?_) (fun c_11 => ?_)
      · cases c_11
      · refine r_aload_n dX10_put_14 rfl (zRv_ref _) rfl ?_
        refine m_geta hm 10 8 lfX10_32 rfl (by decide) dX10_put_15 rfl ?_
        refine r_bipush dX10_put_18 kb_16 rfl ?_
        refine m_ialdv hm 8 _ (by decide) (by decide) rfl rfl (by show _ < 17; omega) (by first | (simp only [zGS, zMS, Nat.reduceEqDiff, OfNat.ofNat_ne_ofNat, false_and, and_false, true_and, and_true, and_self, if_true, if_false, ite_true, ite_false, reduceIte, reduceCtorEq]; first | done | assumption | rfl) | assumption | exact z2_eq | exact z1_eq | (simp [zGS, zMS]; first | done | assumption) | rfl) dX10_put_20 rfl ?_
        refine r_iload_n dX10_put_21 rfl rfl ?_
        refine r_iaddN dX10_put_22 rfl ?_
        refine r_bipush dX10_put_23 kb_120 rfl ?_
        refine r_icmp_leN (by omega) (by omega) (r := 30) dX10_put_25 (by decide) rfl (fun c_25 => ?_) (fun c_25 => ?_)
        · refine r_iconst dX10_put_30 kc_0 rfl ?_
          refine r_istore_n (ls' := [_, _, _, _]) dX10_put_31 (Nat.le_of_ble_eq_true rfl) rfl rfl ?_
          refine rput_1 E w _ d mo m hd x hc.2.1 _ (fun q i => ?_) (fun q => ?_) m 0 (by omega) (fun j hj => absurd hj (Nat.not_lt_zero j))
          · rw [hF q]
            refine r_iconst dX10_put_57 kc_0 rfl ?_
            refine r_zret .boolean rfl rfl dX10_put_58 ?_
            exact ⟨rfl, rfl, h0, hc0⟩
          · rw [hT q]
            refine r_iload_n dX10_put_65 rfl rfl ?_
            refine r_iconst dX10_put_66 kc_1 rfl ?_
            refine r_isubN (by omega) dX10_put_67 rfl ?_
            refine r_istore_n (ls' := [_, _, _, _]) dX10_put_68 (Nat.le_of_ble_eq_true rfl) rfl rfl ?_
            rw [show nI (m - 1) = iV m from (if_neg (by omega)).symm]
            exact rput_2 E mo hm w d m x T Rs B q hc.2.1 m _ B (Nat.le_refl _) hc.2.2 rfl hc0 h0
        · exact absurd c_25 (by omega)
    · have e1 : pPut x (nI m) B = none := by
        unfold pPut
        rw [hz, if_neg (fun q => hc ⟨q.1, q.2.1, q.2.2.1⟩)]
      rw [e1]
      cases e2 : inN m 1 4 with
      | false =>
        rw [e2] at hou2
        refine r_aload_n dX10_put_0 rfl (zRv_ref _) rfl ?_
        refine r_iconst dX10_put_1 kc_0 rfl ?_
        refine m_puti hm 0 lfX10_133 rfl rfl rfl dX10_put_2 rfl ?_
        refine r_iload_n dX10_put_5 rfl rfl ?_
        refine r_iconst dX10_put_6 kc_1 rfl ?_
        refine r_iconst dX10_put_7 kc_4 rfl ?_
        refine r_callS MX10_outside 3 [_, _, _] lsX10_140 (hou2) rfl rfl (by first | exact Nat.le_of_ble_eq_true rfl | (simp [zcat_rf, Value.category]; done)) (by omega) (Nat.le_of_eq (Nat.zero_add _)) (Nat.le_of_eq (Nat.zero_add _)) dX10_put_8 rfl (fun v_ w_ sg_ hq_ => ?_)
        obtain ⟨rfl, rfl, rfl⟩ := hq_
        refine r_if_neB (r := 28) dX10_put_11 (by decide) rfl (fun c_11 => ?_) (fun c_11 => ?_)
        · refine r_iconst dX10_put_28 kc_0 rfl ?_
          refine r_zret .boolean rfl rfl dX10_put_29 ?_
          exact ⟨rfl, rfl, h0, hc0⟩
        · cases c_11
      | true =>
        have e3 : 1 ≤ m ∧ m ≤ 4 := of_decide_eq_true e2
        rw [e2] at hou2
        refine r_aload_n dX10_put_0 rfl (zRv_ref _) rfl ?_
        refine r_iconst dX10_put_1 kc_0 rfl ?_
        refine m_puti hm 0 lfX10_133 rfl rfl rfl dX10_put_2 rfl ?_
        refine r_iload_n dX10_put_5 rfl rfl ?_
        refine r_iconst dX10_put_6 kc_1 rfl ?_
        refine r_iconst dX10_put_7 kc_4 rfl ?_
        refine r_callS MX10_outside 3 [_, _, _] lsX10_140 (hou2) rfl rfl (by first | exact Nat.le_of_ble_eq_true rfl | (simp [zcat_rf, Value.category]; done)) (by omega) (Nat.le_of_eq (Nat.zero_add _)) (Nat.le_of_eq (Nat.zero_add _)) dX10_put_8 rfl (fun v_ w_ sg_ hq_ => ?_)
        obtain ⟨rfl, rfl, rfl⟩ := hq_
        refine r_if_neB (r := 28) dX10_put_11 (by decide) rfl (fun c_11 => ?_) (fun c_11 => ?_)
        · cases c_11
        · refine r_aload_n dX10_put_14 rfl (zRv_ref _) rfl ?_
          refine m_geta hm 10 8 lfX10_32 rfl (by decide) dX10_put_15 rfl ?_
          refine r_bipush dX10_put_18 kb_16 rfl ?_
          refine m_ialdv hm 8 _ (by decide) (by decide) rfl rfl (by show _ < 17; omega) (by first | (simp only [zGS, zMS, Nat.reduceEqDiff, OfNat.ofNat_ne_ofNat, false_and, and_false, true_and, and_true, and_self, if_true, if_false, ite_true, ite_false, reduceIte, reduceCtorEq]; first | done | assumption | rfl) | assumption | exact z2_eq | exact z1_eq | (simp [zGS, zMS]; first | done | assumption) | rfl) dX10_put_20 rfl ?_
          refine r_iload_n dX10_put_21 rfl rfl ?_
          refine r_iaddN dX10_put_22 rfl ?_
          refine r_bipush dX10_put_23 kb_120 rfl ?_
          refine r_icmp_leN (by omega) (by omega) (r := 30) dX10_put_25 (by decide) rfl (fun c_25 => ?_) (fun c_25 => ?_)
          · exact absurd ⟨e3.1, e3.2, by omega⟩ hc
          · refine r_iconst dX10_put_28 kc_0 rfl ?_
            refine r_zret .boolean rfl rfl dX10_put_29 ?_
            exact ⟨rfl, rfl, h0, hc0⟩
