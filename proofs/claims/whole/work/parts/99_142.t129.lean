/-! ===== the model: holds, fits ===== -/
theorem q_holds (E : ZE) (mo : Nat) (hm : E.2.2.2.2 = some mo) (w : ZW) (sg : ZM) (d e p : Nat) (q : PRow) (hd : 1 ≤ d) (T : List PEl) (he : e < T.length) (h : mTree sg T) (hp : p < 130) (r14 : ma sg 14 p = nI q.2.1) (r15 : ma sg 15 p = q.2.2.1) (r16 : ma sg 16 p = q.2.2.2) (hk : q.2.1 < 7) : CallQ E MX10_holds [.ref mo, .int (nI p), .int (nI e)] w sg d 0 0 (fun v w' sg' => v = some (.int (zb (hldR T e q))) ∧ w = w' ∧ sg = sg') := by
  obtain ⟨g, k, x, y⟩ := q
  by_cases hk5 : k < 6
  · exact q_holds5 E mo hm w sg d e p g k x y hd T he h hp r14 r15 hk5
  · have hk6 : k = 6 := by have : k < 7 := hk; omega
    subst hk6
    have h0 := h
    obtain ⟨hw, h1, h2⟩ := h0
    have h24 := hw.1
    obtain ⟨a1, a2, a3, a4, a5, a6⟩ := h2 e he
    have e1 : hldR T e (g, 6, x, y) = reachI (nI (idxT T e)) y x := rfl
    have s15 : ma sg 15 p = x := r15
    have s16 : ma sg 16 p = y := r16
    refine CallQ.of rfl (by simp [Value.category]) (Nat.le_of_ble_eq_true rfl) ?_
    rw [e1]
    unfold reachI
    refine r_aload_n dX10_holds_0 rfl (zRv_ref _) rfl ?_
    refine m_geta hm 23 14 lfX10_50 rfl (by decide) dX10_holds_1 rfl ?_
    refine r_iload_n dX10_holds_4 rfl rfl ?_
    refine m_ialdv hm 14 _ (by decide) (by decide) rfl rfl (by show _ < 130; omega) (by first | (simp only [zGS, zMS, Nat.reduceEqDiff, OfNat.ofNat_ne_ofNat, false_and, and_false, true_and, and_true, and_self, if_true, if_false, ite_true, ite_false, reduceIte, reduceCtorEq]; first | done | assumption | rfl) | assumption | exact z2_eq | exact z1_eq | (simp [zGS, zMS]; first | done | assumption) | rfl) dX10_holds_5 rfl ?_
    refine r_tableOut (r := 132) dX10_holds_6 (show (nI 6).toInt < 0 ∨ 5 < (nI 6).toInt by decide +kernel) (by decide) ?_
    refine r_aload_n dX10_holds_132 rfl (zRv_ref _) rfl ?_
    refine m_geta hm 6 5 lfX10_22 rfl (by decide) dX10_holds_133 rfl ?_
    refine r_iload_n dX10_holds_136 rfl rfl ?_
    refine m_ialdv hm 5 _ (by decide) (by decide) rfl rfl (by show _ < 24; omega) (by first | (simp only [zGS, zMS, Nat.reduceEqDiff, OfNat.ofNat_ne_ofNat, false_and, and_false, true_and, and_true, and_self, if_true, if_false, ite_true, ite_false, reduceIte, reduceCtorEq]; first | done | assumption | rfl) | assumption | exact z2_eq | exact z1_eq | (simp [zGS, zMS]; first | done | assumption) | rfl) dX10_holds_137 rfl ?_
    refine r_aload_n dX10_holds_138 rfl (zRv_ref _) rfl ?_
    refine m_geta hm 25 16 lfX10_56 rfl (by decide) dX10_holds_139 rfl ?_
    refine r_iload_n dX10_holds_142 rfl rfl ?_
    refine m_ialdv hm 16 _ (by decide) (by decide) rfl rfl (by show _ < 130; omega) (by first | (simp only [zGS, zMS, Nat.reduceEqDiff, OfNat.ofNat_ne_ofNat, false_and, and_false, true_and, and_true, and_self, if_true, if_false, ite_true, ite_false, reduceIte, reduceCtorEq]; first | done | assumption | rfl) | assumption | exact z2_eq | exact z1_eq | (simp [zGS, zMS]; first | done | assumption) | rfl) dX10_holds_143 rfl ?_
    refine r_isub dX10_holds_144 rfl ?_
    refine r_istore_n (ls' := [_, _, _, _]) dX10_holds_145 (Nat.le_of_ble_eq_true rfl) rfl rfl ?_
    refine r_aload_n dX10_holds_146 rfl (zRv_ref _) rfl ?_
    refine m_geta hm 24 15 lfX10_53 rfl (by decide) dX10_holds_147 rfl ?_
    refine r_iload_n dX10_holds_150 rfl rfl ?_
    refine m_ialdv hm 15 _ (by decide) (by decide) rfl rfl (by show _ < 130; omega) (by first | (simp only [zGS, zMS, Nat.reduceEqDiff, OfNat.ofNat_ne_ofNat, false_and, and_false, true_and, and_true, and_self, if_true, if_false, ite_true, ite_false, reduceIte, reduceCtorEq]; first | done | assumption | rfl) | assumption | exact z2_eq | exact z1_eq | (simp [zGS, zMS]; first | done | assumption) | rfl) dX10_holds_151 rfl ?_
    refine r_if_ne (r := 167) dX10_holds_152 (by decide) rfl (fun c_152 => ?_) (fun c_152 => ?_)
    · refine r_iload_n dX10_holds_167 rfl rfl ?_
      refine r_if_lt (r := 186) dX10_holds_168 (by decide) rfl (fun c_168 => ?_) (fun c_168 => ?_)
      · refine r_iconst dX10_holds_186 kc_0 rfl ?_
        refine r_zret .boolean rfl rfl dX10_holds_187 ?_
        refine ⟨?_, rfl, rfl⟩
        simp [zb, *]
      · refine r_iload_n dX10_holds_171 rfl rfl ?_
        refine r_aload_n dX10_holds_172 rfl (zRv_ref _) rfl ?_
        refine m_geta hm 24 15 lfX10_53 rfl (by decide) dX10_holds_173 rfl ?_
        refine r_iload_n dX10_holds_176 rfl rfl ?_
        refine m_ialdv hm 15 _ (by decide) (by decide) rfl rfl (by show _ < 130; omega) (by first | (simp only [zGS, zMS, Nat.reduceEqDiff, OfNat.ofNat_ne_ofNat, false_and, and_false, true_and, and_true, and_self, if_true, if_false, ite_true, ite_false, reduceIte, reduceCtorEq]; first | done | assumption | rfl) | assumption | exact z2_eq | exact z1_eq | (simp [zGS, zMS]; first | done | assumption) | rfl) dX10_holds_177 rfl ?_
        refine r_irem dX10_holds_178 c_152 rfl ?_
        refine r_if_ne (r := 186) dX10_holds_179 (by decide) rfl (fun c_179 => ?_) (fun c_179 => ?_)
        · refine r_iconst dX10_holds_186 kc_0 rfl ?_
          refine r_zret .boolean rfl rfl dX10_holds_187 ?_
          refine ⟨?_, rfl, rfl⟩
          simp [zb, *]
        · refine r_iconst dX10_holds_182 kc_1 rfl ?_
          refine r_goto (r := 187) dX10_holds_183 (by decide) ?_
          refine r_zret .boolean rfl rfl dX10_holds_187 ?_
          refine ⟨?_, rfl, rfl⟩
          simp [zb, *]
    · refine r_iload_n dX10_holds_155 rfl rfl ?_
      refine r_if_ne (r := 163) dX10_holds_156 (by decide) rfl (fun c_156 => ?_) (fun c_156 => ?_)
      · refine r_iconst dX10_holds_163 kc_0 rfl ?_
        refine r_goto (r := 187) dX10_holds_164 (by decide) ?_
        refine r_zret .boolean rfl rfl dX10_holds_187 ?_
        refine ⟨?_, rfl, rfl⟩
        simp [zb, *]
      · refine r_iconst dX10_holds_159 kc_1 rfl ?_
        refine r_goto (r := 187) dX10_holds_160 (by decide) ?_
        refine r_zret .boolean rfl rfl dX10_holds_187 ?_
        refine ⟨?_, rfl, rfl⟩
        simp [zb, *]
/-! sets of groups -/
def gsN (f : PRow → Bool) : List PRow → Nat
  | [] => 0
  | q :: l => (if f q = true then 2 ^ q.1 else 0) ||| gsN f l
theorem gsN_app (f : PRow → Bool) : ∀ (a b : List PRow), gsN f (a ++ b) = gsN f a ||| gsN f b
  | [], b => by show gsN f b = 0 ||| gsN f b; rw [Nat.zero_or]
  | q :: a, b => by
    show (if f q = true then 2 ^ q.1 else 0) ||| gsN f (a ++ b) = ((if f q = true then 2 ^ q.1 else 0) ||| gsN f a) ||| gsN f b
    rw [gsN_app f a b, Nat.or_assoc]
theorem gsN_bit (f : PRow → Bool) : ∀ (l : List PRow) (g : Nat), (gsN f l).testBit g = l.any fun q => f q && decide (q.1 = g)
  | [], g => Nat.zero_testBit g
  | q :: l, g => by
    show ((if f q = true then 2 ^ q.1 else 0) ||| gsN f l).testBit g = ((f q && decide (q.1 = g)) || l.any fun q => f q && decide (q.1 = g))
    rw [Nat.testBit_or, gsN_bit f l g]
    congr 1
    split
    · rename_i h
      rw [Nat.testBit_two_pow, h, Bool.true_and]
    · rename_i h
      rw [Nat.zero_testBit]
      cases hf : f q with
      | true => exact absurd hf h
      | false => rfl
theorem gsN_lt (f : PRow → Bool) : ∀ (l : List PRow), (∀ q ∈ l, q.1 < 5) → gsN f l < 32
  | [], _ => (by decide : 0 < 32)
  | q :: l, h => by
    show (if f q = true then 2 ^ q.1 else 0) ||| gsN f l < 2 ^ 5
    refine Nat.or_lt_two_pow ?_ (gsN_lt f l (fun x hx => h x (List.mem_cons_of_mem _ hx)))
    split
    · exact Nat.pow_lt_pow_right (by decide) (h q List.mem_cons_self)
    · decide
/-- what fits says of its two sets -/
def fitN (bad fail : Nat) : Bool := !fail.testBit 0 && ((List.range 4).all fun i => !bad.testBit (i + 1) || fail.testBit (i + 1))
theorem fit_end : ∀ a, a < 32 → ∀ b, b < 32 → (decide (nI a &&& (nI b ^^^ -1) &&& -2 = 0) && decide (nI b &&& nI 1 = 0)) = fitN a b := by decide +kernel
theorem rfi_13 (E : ZE) (mo : Nat) (hm : E.2.2.2.2 = some mo) (w : ZW) (sg : ZM) (d c e n : Nat) (hd : 2 ≤ d) (T : List PEl) (he : e < T.length) (h : mTree sg T) (hc : c + 1 < 130) (l : List PRow) (hl5 : ∀ q ∈ l, q.1 < 5 ∧ q.2.1 < 7) (hn : n + l.length ≤ 130) (h12 : ma sg 12 (c + 1) = nI (n + l.length)) (hR : ∀ i q, l[i]? = some q → ma sg 13 (n + i) = nI q.1 ∧ ma sg 14 (n + i) = nI q.2.1 ∧ ma sg 15 (n + i) = q.2.2.1 ∧ ma sg 16 (n + i) = q.2.2.2) : ∀ (m i : Nat), i + m = l.length → RW E MX10_fits 13 [some (.ref mo), some (.int (nI c)), some (.int (nI e)), some (.int (nI (gsN (fun _ => true) (l.take i)))), some (.int (nI (gsN (fun q => !hldR T e q) (l.take i)))), some (.int (nI (n + i)))] [] w sg d 0 0 (PN E (fun v w' sg' => v = some (.int (zb (fitN (gsN (fun _ => true) l) (gsN (fun q => !hldR T e q) l)))) ∧ w = w' ∧ sg = sg')) := by
  intro m
  have hlt : ∀ f i, gsN f (l.take i) < 32 := fun f i => gsN_lt f _ (fun q hq => (hl5 q (List.mem_of_mem_take hq)).1)
  induction m with
  | zero =>
    intro i hi
    have hi2 : i = l.length := by omega
    subst hi2
    have b1 := hlt (fun _ => true) l.length
    have b2 := hlt (fun q => !hldR T e q) l.length
    rw [List.take_length] at b1 b2 ⊢
    have hf := fit_end _ b1 _ b2
    refine r_iload dX10_fits_13 rfl rfl ?_
    refine r_aload_n dX10_fits_15 rfl (zRv_ref _) rfl ?_
    refine m_geta hm 20 12 lfX10_44 rfl (by decide) dX10_fits_16 rfl ?_
    refine r_iload_n dX10_fits_19 rfl rfl ?_
    refine r_iconst dX10_fits_20 kc_1 rfl ?_
    refine r_iaddN dX10_fits_21 rfl ?_
    refine m_ialdv hm 12 _ (by decide) (by decide) rfl rfl (by show _ < 130; omega) (by first | (simp only [zGS, zMS, Nat.reduceEqDiff, OfNat.ofNat_ne_ofNat, false_and, and_false, true_and, and_true, and_self, if_true, if_false, ite_true, ite_false, reduceIte, reduceCtorEq]; first | done | assumption | rfl) | assumption | exact z2_eq | exact z1_eq | (simp [zGS, zMS]; first | done | assumption) | rfl) dX10_fits_22 rfl ?_
    refine r_icmp_geN (by omega) (by omega) (r := 68) dX10_fits_23 (by decide) rfl (fun c_23 => ?_) (fun c_23 => ?_)
    · refine r_iload_n dX10_fits_68 rfl rfl ?_
      refine r_iload dX10_fits_69 rfl rfl ?_
      refine r_iconst dX10_fits_71 kc_m1 rfl ?_
      refine r_ixor dX10_fits_72 rfl ?_
      refine r_iand dX10_fits_73 rfl ?_
      refine r_bipush dX10_fits_74 kb_m2 rfl ?_
      refine r_iand dX10_fits_76 rfl ?_
      refine r_istore (ls' := [_, _, _, _, _, _]) dX10_fits_77 (Nat.le_of_ble_eq_true rfl) rfl rfl ?_
      refine r_iload dX10_fits_79 rfl rfl ?_
      refine r_if_ne (r := 95) dX10_fits_81 (by decide) rfl (fun c_81 => ?_) (fun c_81 => ?_)
      · refine r_iconst dX10_fits_95 kc_0 rfl ?_
        refine r_zret .boolean rfl rfl dX10_fits_96 ?_
        rw [← hf, decide_eq_false c_81]
        exact ⟨rfl, rfl, rfl⟩
      · refine r_iload dX10_fits_84 rfl rfl ?_
        refine r_iconst dX10_fits_86 kc_1 rfl ?_
        refine r_iand dX10_fits_87 rfl ?_
        refine r_if_ne (r := 95) dX10_fits_88 (by decide) rfl (fun c_88 => ?_) (fun c_88 => ?_)
        · refine r_iconst dX10_fits_95 kc_0 rfl ?_
          refine r_zret .boolean rfl rfl dX10_fits_96 ?_
          rw [← hf, decide_eq_false c_88, Bool.and_false]
          exact ⟨rfl, rfl, rfl⟩
        · refine r_iconst dX10_fits_91 kc_1 rfl ?_
          refine r_goto (r := 96) dX10_fits_92 (by decide) ?_
          refine r_zret .boolean rfl rfl dX10_fits_96 ?_
          rw [← hf, decide_eq_true c_81, decide_eq_true c_88]
          exact ⟨rfl, rfl, rfl⟩
    · exact absurd c_23 (by omega)
  | succ m ih =>
    intro i hi
    obtain ⟨q, hq⟩ : ∃ q, l[i]? = some q := ⟨l[i], List.getElem?_eq_getElem (by omega)⟩
    obtain ⟨q1, q2, q3, q4⟩ := hR i q hq
    obtain ⟨q5, q6⟩ := hl5 q (List.mem_of_getElem? hq)
    have ht : l.take (i + 1) = l.take i ++ [q] := by rw [List.take_add_one, hq]; rfl
    have hs : ∀ f, gsN f (l.take (i + 1)) = gsN f (l.take i) ||| (if f q = true then 2 ^ q.1 else 0) := fun f => by
      rw [ht, gsN_app]
      show _ ||| ((if f q = true then 2 ^ q.1 else 0) ||| 0) = _
      rw [Nat.or_zero]
    have b1 := hlt (fun _ => true) i
    have b2 := hlt (fun q => !hldR T e q) i
    have hpw : 2 ^ q.1 < 2147483648 := Nat.lt_of_lt_of_le (Nat.pow_lt_pow_right (by decide) q5) (by decide)
    have ih2 := ih (i + 1) (by omega)
    rw [hs, hs] at ih2
    have hho := q_holds E mo hm w sg (d - 1) e (n + i) q (by omega) T he h (by omega) q2 q3 q4 q6
    simp only [if_true] at ih2
    cases hh : hldR T e q with
    | true =>
      rw [hh] at hho
      simp only [hh, Bool.not_true, if_false, Nat.or_zero, reduceCtorEq] at ih2
      refine r_iload dX10_fits_13 rfl rfl ?_
      refine r_aload_n dX10_fits_15 rfl (zRv_ref _) rfl ?_
      refine m_geta hm 20 12 lfX10_44 rfl (by decide) dX10_fits_16 rfl ?_
      refine r_iload_n dX10_fits_19 rfl rfl ?_
      refine r_iconst dX10_fits_20 kc_1 rfl ?_
      refine r_iaddN dX10_fits_21 rfl ?_
      refine m_ialdv hm 12 _ (by decide) (by decide) rfl rfl (by show _ < 130; omega) (by first | (simp only [zGS, zMS, Nat.reduceEqDiff, OfNat.ofNat_ne_ofNat, false_and, and_false, true_and, and_true, and_self, if_true, if_false, ite_true, ite_false, reduceIte, reduceCtorEq]; first | done | assumption | rfl) | assumption | exact z2_eq | exact z1_eq | (simp [zGS, zMS]; first | done | assumption) | rfl) dX10_fits_22 rfl ?_
      refine r_icmp_geN (by omega) (by omega) (r := 68) dX10_fits_23 (by decide) rfl (fun c_23 => ?_) (fun c_23 => ?_)
      · exact absurd c_23 (by omega)
      · refine r_aload_n dX10_fits_26 rfl (zRv_ref _) rfl ?_
        refine r_iload dX10_fits_27 rfl rfl ?_
        refine r_iload_n dX10_fits_29 rfl rfl ?_
        refine r_callV MX10_holds 2 [_, _] lvX10_287 (Or.inr (Or.inl ⟨hm, rfl⟩)) (hho) rfl rfl (by first | exact Nat.le_of_ble_eq_true rfl | (simp [zcat_rf, Value.category]; done)) (by omega) (Nat.le_of_eq (Nat.zero_add _)) (Nat.le_of_eq (Nat.zero_add _)) dX10_fits_30 rfl (fun v_ w_ sg_ hq_ => ?_)
        obtain ⟨rfl, rfl, rfl⟩ := hq_
        refine r_if_neB (r := 50) dX10_fits_33 (by decide) rfl (fun c_33 => ?_) (fun c_33 => ?_)
        · refine r_iload_n dX10_fits_50 rfl rfl ?_
          refine r_iconst dX10_fits_51 kc_1 rfl ?_
          refine r_aload_n dX10_fits_52 rfl (zRv_ref _) rfl ?_
          refine m_geta hm 22 13 lfX10_47 rfl (by decide) dX10_fits_53 rfl ?_
          refine r_iload dX10_fits_56 rfl rfl ?_
          refine m_ialdv hm 13 _ (by decide) (by decide) rfl rfl (by show _ < 130; omega) (by first | (simp only [zGS, zMS, Nat.reduceEqDiff, OfNat.ofNat_ne_ofNat, false_and, and_false, true_and, and_true, and_self, if_true, if_false, ite_true, ite_false, reduceIte, reduceCtorEq]; first | done | assumption | rfl) | assumption | exact z2_eq | exact z1_eq | (simp [zGS, zMS]; first | done | assumption) | rfl) dX10_fits_58 rfl ?_
          refine r_ishl dX10_fits_59 rfl ?_
          rw [shl1 q.1 (by omega)]
          refine r_ior dX10_fits_60 rfl ?_
          rw [nI_or (by omega) hpw]
          refine r_istore_n (ls' := [_, _, _, _, _, _]) dX10_fits_61 (Nat.le_of_ble_eq_true rfl) rfl rfl ?_
          refine r_iinc (ls' := [_, _, _, _, _, _]) dX10_fits_62 (Nat.le_of_ble_eq_true rfl) rfl (zinc1 _) rfl rfl ?_
          refine r_goto (r := 13) dX10_fits_65 (by decide) ?_
          exact ih2
        · cases c_33
    | false =>
      rw [hh] at hho
      simp only [hh, Bool.not_false, if_true] at ih2
      refine r_iload dX10_fits_13 rfl rfl ?_
      refine r_aload_n dX10_fits_15 rfl (zRv_ref _) rfl ?_
      refine m_geta hm 20 12 lfX10_44 rfl (by decide) dX10_fits_16 rfl ?_
      refine r_iload_n dX10_fits_19 rfl rfl ?_
      refine r_iconst dX10_fits_20 kc_1 rfl ?_
      refine r_iaddN dX10_fits_21 rfl ?_
      refine m_ialdv hm 12 _ (by decide) (by decide) rfl rfl (by show _ < 130; omega) (by first | (simp only [zGS, zMS, Nat.reduceEqDiff, OfNat.ofNat_ne_ofNat, false_and, and_false, true_and, and_true, and_self, if_true, if_false, ite_true, ite_false, reduceIte, reduceCtorEq]; first | done | assumption | rfl) | assumption | exact z2_eq | exact z1_eq | (simp [zGS, zMS]; first | done | assumption) | rfl) dX10_fits_22 rfl ?_
      refine r_icmp_geN (by omega) (by omega) (r := 68) dX10_fits_23 (by decide) rfl (fun c_23 => ?_) (fun c_23 => ?_)
      · exact absurd c_23 (by omega)
      · refine r_aload_n dX10_fits_26 rfl (zRv_ref _) rfl ?_
        refine r_iload dX10_fits_27 rfl rfl ?_
        refine r_iload_n dX10_fits_29 rfl rfl ?_
        refine r_callV MX10_holds 2 [_, _] lvX10_287 (Or.inr (Or.inl ⟨hm, rfl⟩)) (hho) rfl rfl (by first | exact Nat.le_of_ble_eq_true rfl | (simp [zcat_rf, Value.category]; done)) (by omega) (Nat.le_of_eq (Nat.zero_add _)) (Nat.le_of_eq (Nat.zero_add _)) dX10_fits_30 rfl (fun v_ w_ sg_ hq_ => ?_)
        obtain ⟨rfl, rfl, rfl⟩ := hq_
        refine r_if_neB (r := 50) dX10_fits_33 (by decide) rfl (fun c_33 => ?_) (fun c_33 => ?_)
        · cases c_33
        · refine r_iload dX10_fits_36 rfl rfl ?_
          refine r_iconst dX10_fits_38 kc_1 rfl ?_
          refine r_aload_n dX10_fits_39 rfl (zRv_ref _) rfl ?_
          refine m_geta hm 22 13 lfX10_47 rfl (by decide) dX10_fits_40 rfl ?_
          refine r_iload dX10_fits_43 rfl rfl ?_
          refine m_ialdv hm 13 _ (by decide) (by decide) rfl rfl (by show _ < 130; omega) (by first | (simp only [zGS, zMS, Nat.reduceEqDiff, OfNat.ofNat_ne_ofNat, false_and, and_false, true_and, and_true, and_self, if_true, if_false, ite_true, ite_false, reduceIte, reduceCtorEq]; first | done | assumption | rfl) | assumption | exact z2_eq | exact z1_eq | (simp [zGS, zMS]; first | done | assumption) | rfl) dX10_fits_45 rfl ?_
          refine r_ishl dX10_fits_46 rfl ?_
          rw [shl1 q.1 (by omega)]
          refine r_ior dX10_fits_47 rfl ?_
          rw [nI_or (by omega) hpw]
          refine r_istore (ls' := [_, _, _, _, _, _]) dX10_fits_48 (Nat.le_of_ble_eq_true rfl) rfl rfl ?_
          refine r_iload_n dX10_fits_50 rfl rfl ?_
          refine r_iconst dX10_fits_51 kc_1 rfl ?_
          refine r_aload_n dX10_fits_52 rfl (zRv_ref _) rfl ?_
          refine m_geta hm 22 13 lfX10_47 rfl (by decide) dX10_fits_53 rfl ?_
          refine r_iload dX10_fits_56 rfl rfl ?_
          refine m_ialdv hm 13 _ (by decide) (by decide) rfl rfl (by show _ < 130; omega) (by first | (simp only [zGS, zMS, Nat.reduceEqDiff, OfNat.ofNat_ne_ofNat, false_and, and_false, true_and, and_true, and_self, if_true, if_false, ite_true, ite_false, reduceIte, reduceCtorEq]; first | done | assumption | rfl) | assumption | exact z2_eq | exact z1_eq | (simp [zGS, zMS]; first | done | assumption) | rfl) dX10_fits_58 rfl ?_
          refine r_ishl dX10_fits_59 rfl ?_
          rw [shl1 q.1 (by omega)]
          refine r_ior dX10_fits_60 rfl ?_
          rw [nI_or (by omega) hpw]
          refine r_istore_n (ls' := [_, _, _, _, _, _]) dX10_fits_61 (Nat.le_of_ble_eq_true rfl) rfl rfl ?_
          refine r_iinc (ls' := [_, _, _, _, _, _]) dX10_fits_62 (Nat.le_of_ble_eq_true rfl) rfl (zinc1 _) rfl rfl ?_
          refine r_goto (r := 13) dX10_fits_65 (by decide) ?_
          exact ih2
theorem q_fitsN (E : ZE) (mo : Nat) (hm : E.2.2.2.2 = some mo) (w : ZW) (sg : ZM) (d c e n : Nat) (hd : 2 ≤ d) (T : List PEl) (he : e < T.length) (h : mTree sg T) (hc : c + 1 < 130) (l : List PRow) (hl5 : ∀ q ∈ l, q.1 < 5 ∧ q.2.1 < 7) (hn : n + l.length ≤ 130) (h12a : ma sg 12 c = nI n) (h12 : ma sg 12 (c + 1) = nI (n + l.length)) (hR : ∀ i q, l[i]? = some q → ma sg 13 (n + i) = nI q.1 ∧ ma sg 14 (n + i) = nI q.2.1 ∧ ma sg 15 (n + i) = q.2.2.1 ∧ ma sg 16 (n + i) = q.2.2.2) : CallQ E MX10_fits [.ref mo, .int (nI c), .int (nI e)] w sg d 0 0 (fun v w' sg' => v = some (.int (zb (fitN (gsN (fun _ => true) l) (gsN (fun q => !hldR T e q) l)))) ∧ w = w' ∧ sg = sg') := by
  have h0 := rfi_13 E mo hm w sg d c e n hd T he h hc l hl5 hn h12 hR l.length 0 (Nat.zero_add _)
  refine CallQ.of rfl (by simp [Value.category]) (Nat.le_of_ble_eq_true rfl) ?_
  refine r_iconst dX10_fits_0 kc_0 rfl ?_
  refine r_istore_n (ls' := [_, _, _, _, _, _]) dX10_fits_1 (Nat.le_of_ble_eq_true rfl) rfl rfl ?_
  refine r_iconst dX10_fits_2 kc_0 rfl ?_
  refine r_istore (ls' := [_, _, _, _, _, _]) dX10_fits_3 (Nat.le_of_ble_eq_true rfl) rfl rfl ?_
  refine r_aload_n dX10_fits_5 rfl (zRv_ref _) rfl ?_
  refine m_geta hm 20 12 lfX10_44 rfl (by decide) dX10_fits_6 rfl ?_
  refine r_iload_n dX10_fits_9 rfl rfl ?_
  refine m_ialdv hm 12 _ (by decide) (by decide) rfl rfl (by show _ < 130; omega) (by first | (simp only [zGS, zMS, Nat.reduceEqDiff, OfNat.ofNat_ne_ofNat, false_and, and_false, true_and, and_true, and_self, if_true, if_false, ite_true, ite_false, reduceIte, reduceCtorEq]; first | done | assumption | rfl) | assumption | exact z2_eq | exact z1_eq | (simp [zGS, zMS]; first | done | assumption) | rfl) dX10_fits_10 rfl ?_
  refine r_istore (ls' := [_, _, _, _, _, _]) dX10_fits_11 (Nat.le_of_ble_eq_true rfl) rfl rfl ?_
  exact h0
