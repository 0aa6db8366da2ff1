/-! ===== the model: linked ===== -/
theorem lk_114x (E : ZE) (mo : Nat) (hm : E.2.2.2.2 = some mo) (w : ZW) (sg : ZM) (d S c e : Nat) (h1 : c ≠ 43) (h2 : c ≠ 126) (hc : c < 128) (he : e < 24) (x3 x5 : Value) (x6 x7 : Option Value) (P : ZPhi) (K : ∀ x6 x7, RW E MX10_linked 215 [some (.ref mo), some (.int (nI S)), some (.int (nI c)), some x3, some (.int (nI e)), some x5, some x6, x7] [] w sg d 0 0 P) : RW E MX10_linked 111 [some (.ref mo), some (.int (nI S)), some (.int (nI c)), some x3, some (.int (nI e)), some x5, x6, x7] [] w sg d 0 0 P := by
  refine r_iconst dX10_linked_111 kc_0 rfl ?_
  refine r_istore (ls' := [_, _, _, _, _, _, _, _]) dX10_linked_112 (Nat.le_of_ble_eq_true rfl) rfl rfl ?_
  refine r_iload dX10_linked_114 rfl rfl ?_
  refine r_iload dX10_linked_116 rfl rfl ?_
  refine r_icmp_geN (by omega) (by omega) (r := 215) dX10_linked_118 (by decide) rfl (fun c_118 => ?_) (fun c_118 => ?_)
  · exact K _ _
  · refine r_iload_n dX10_linked_121 rfl rfl ?_
    refine r_bipush dX10_linked_122 kb_43 rfl ?_
    refine r_icmp_eqN (by omega) (by omega) (r := 133) dX10_linked_124 (by decide) rfl (fun c_124 => ?_) (fun c_124 => ?_)
    · exact absurd c_124 h1
    · refine r_iload_n dX10_linked_127 rfl rfl ?_
      refine r_bipush dX10_linked_128 kb_126 rfl ?_
      refine r_icmp_neN (by omega) (by omega) (r := 215) dX10_linked_130 (by decide) rfl (fun c_130 => ?_) (fun c_130 => ?_)
      · exact K _ _
      · exact absurd c_130 h2
theorem lk_56 (E : ZE) (mo : Nat) (hm : E.2.2.2.2 = some mo) (w : ZW) (sg : ZM) (d S c e : Nat) (T : List PEl) (h : mTree sg T) (hc : c ≠ 32) (hc2 : c < 128) (he : e < T.length) (x3 x5 : Value) (x6 x7 : Option Value) (P : ZPhi) (K : ∀ x6, RW E MX10_linked 111 [some (.ref mo), some (.int (nI S)), some (.int (nI c)), some x3, some (.int (nI e)), some x5, some x6, x7] [] w sg d 0 0 P) : RW E MX10_linked 56 [some (.ref mo), some (.int (nI S)), some (.int (nI c)), some x3, some (.int (nI e)), some x5, x6, x7] [] w sg d 0 0 P := by
  obtain ⟨hw, h1, h2⟩ := h
  have h24 := hw.1
  obtain ⟨a1, -⟩ := h2 e he
  refine r_aload_n dX10_linked_56 rfl (zRv_ref _) rfl ?_
  refine m_geta hm 2 1 lfX10_7 rfl (by decide) dX10_linked_57 rfl ?_
  refine r_iload dX10_linked_60 rfl rfl ?_
  refine m_ialdv hm 1 _ (by decide) (by decide) rfl rfl (by show _ < 24; omega) (by first | (simp only [zGS, zMS, Nat.reduceEqDiff, OfNat.ofNat_ne_ofNat, false_and, and_false, true_and, and_true, and_self, if_true, if_false, ite_true, ite_false, reduceIte, reduceCtorEq]; first | done | assumption | rfl) | assumption | exact z2_eq | exact z1_eq | (simp [zGS, zMS]; first | done | assumption) | rfl) dX10_linked_62 rfl ?_
  refine r_istore (ls' := [_, _, _, _, _, _, _, _]) dX10_linked_63 (Nat.le_of_ble_eq_true rfl) rfl rfl ?_
  refine r_iload dX10_linked_65 rfl rfl ?_
  refine r_iconst dX10_linked_67 kc_m1 rfl ?_
  refine r_icmp_eq (r := 111) dX10_linked_68 (by decide) rfl (fun c_68 => ?_) (fun c_68 => ?_)
  · exact K _
  · refine r_iload_n dX10_linked_71 rfl rfl ?_
    refine r_bipush dX10_linked_72 kb_32 rfl ?_
    refine r_icmp_neN (by omega) (by omega) (r := 111) dX10_linked_74 (by decide) rfl (fun c_74 => ?_) (fun c_74 => ?_)
    · exact K _
    · exact absurd c_74 hc
theorem lk_14 (E : ZE) (mo : Nat) (hm : E.2.2.2.2 = some mo) (w : ZW) (sg : ZM) (d S c e : Nat) (T : List PEl) (h : mTree sg T) (hr : rootT T) (hS : S < 2147483648) (hc : isJn c = true) (he : e < T.length) (x3 : Value) (x5 x6 x7 : Option Value) (P : ZPhi) (K : ∀ x6 x7, RW E MX10_linked 215 [some (.ref mo), some (.int (nI S)), some (.int (nI c)), some x3, some (.int (nI e)), some (.int (zb (bmeet (relS T c e) S))), some x6, x7] [] w sg d 0 0 P) : RW E MX10_linked 14 [some (.ref mo), some (.int (nI S)), some (.int (nI c)), some x3, some (.int (nI e)), x5, x6, x7] [] w sg d 0 0 P := by
  have h0 := h
  obtain ⟨hw, h1, h2⟩ := h
  have h24 := hw.1
  obtain ⟨a1, -⟩ := h2 e he
  have hj : c = 32 ∨ c = 62 ∨ c = 43 ∨ c = 126 := of_decide_eq_true hc
  have sib : (c = 43 ∨ c = 126) → ∀ x6 x7, RW E MX10_linked 111 [some (.ref mo), some (.int (nI S)), some (.int (nI c)), some x3, some (.int (nI e)), some (.int (zb false)), some x6, x7] [] w sg d 0 0 P := fun hc2 x6 x7 => by
    cases hq : tP T e with
    | none =>
      have he0 : e = 0 := by
        rcases Nat.eq_zero_or_pos e with q | q
        · exact q
        · obtain ⟨p, hp⟩ := hr e q he
          rw [hq] at hp
          cases hp
      have er : bmeet (relS T c e) S = false := by
        have : relS T c e = 0 := by
          unfold relS jusS befS
          rw [hq]
          rcases hc2 with rfl | rfl <;> rfl
        rw [this]
        exact bmeet_0 S
      rw [er] at K
      refine r_iconst dX10_linked_111 kc_0 rfl ?_
      refine r_istore (ls' := [_, _, _, _, _, _, _, _]) dX10_linked_112 (Nat.le_of_ble_eq_true rfl) rfl rfl ?_
      refine r_iload dX10_linked_114 rfl rfl ?_
      refine r_iload dX10_linked_116 rfl rfl ?_
      refine r_icmp_geN (by omega) (by omega) (r := 215) dX10_linked_118 (by decide) rfl (fun c_118 => ?_) (fun c_118 => ?_)
      · exact K _ _
      · exact absurd c_118 (by omega)
    | some p =>
      have er : bmeet (relS T c e) S = anyN (fun i => bsdB T c p e i && S.testBit i) e := by
        rcases hc2 with rfl | rfl
        · have : relS T 43 e = blast (isKid T p) e := by
            show jusS T e = _
            unfold jusS
            rw [hq]
          rw [this, bmeet_blast]
          refine anyN_congr (fun i hi => ?_)
          unfold bsdB
          cases hk : isKid T p i with
          | false => rfl
          | true =>
            have e1 := idx_kid hk
            have e2 : idxT T e = bcnt (isKid T p) e + 1 := by unfold idxT; rw [hq]
            rw [e1, e2, Nat.add_sub_cancel]
            rfl
        · have : relS T 126 e = bset (isKid T p) e := by
            show befS T e = _
            unfold befS
            rw [hq]
          rw [this, bmeet_bset]
          refine anyN_congr (fun i hi => ?_)
          unfold bsdB
          rw [decide_eq_true (rfl : 126 = 126), Bool.true_or, Bool.and_true]
      rw [er] at K
      have h9 := lk_114 E mo hm w sg d S c e p T h0 hS hc2 he hq x3 P K e 0 x7 (Nat.zero_add _)
      refine r_iconst dX10_linked_111 kc_0 rfl ?_
      refine r_istore (ls' := [_, _, _, _, _, _, _, _]) dX10_linked_112 (Nat.le_of_ble_eq_true rfl) rfl rfl ?_
      exact h9
  rcases hj with rfl | rfl | rfl | rfl
  · have h9 := fun x7 => lk_65 E mo hm w sg d S e T h0 hS x3 x7 P e e false (Nat.le_refl _) he (fun x6 => lk_114x E mo hm w sg d S 32 e (by decide) (by decide) (by decide) (by omega) x3 _ _ _ P (fun x6 x7 => by
      have := K x6 x7
      rw [Bool.false_or]
      exact this))
    refine r_iconst dX10_linked_14 kc_0 rfl ?_
    refine r_istore (ls' := [_, _, _, _, _, _, _, _]) dX10_linked_15 (Nat.le_of_ble_eq_true rfl) rfl rfl ?_
    refine r_iload_n dX10_linked_17 rfl rfl ?_
    refine r_bipush dX10_linked_18 kb_62 rfl ?_
    refine r_icmp_neN (by omega) (by omega) (r := 56) dX10_linked_20 (by decide) rfl (fun c_20 => ?_) (fun c_20 => ?_)
    · refine r_aload_n dX10_linked_56 rfl (zRv_ref _) rfl ?_
      refine m_geta hm 2 1 lfX10_7 rfl (by decide) dX10_linked_57 rfl ?_
      refine r_iload dX10_linked_60 rfl rfl ?_
      refine m_ialdv hm 1 _ (by decide) (by decide) rfl rfl (by show _ < 24; omega) (by first | (simp only [zGS, zMS, Nat.reduceEqDiff, OfNat.ofNat_ne_ofNat, false_and, and_false, true_and, and_true, and_self, if_true, if_false, ite_true, ite_false, reduceIte, reduceCtorEq]; first | done | assumption | rfl) | assumption | exact z2_eq | exact z1_eq | (simp [zGS, zMS]; first | done | assumption) | rfl) dX10_linked_62 rfl ?_
      refine r_istore (ls' := [_, _, _, _, _, _, _, _]) dX10_linked_63 (Nat.le_of_ble_eq_true rfl) rfl rfl ?_
      exact h9 _
    · exact absurd c_20 (by decide)
  · have h9 := fun (b : Bool) (hb : b = bmeet (relS T 62 e) S) x6 x7 => lk_56 E mo hm w sg d S 62 e T h0 (by decide) (by decide) he x3 (.int (zb b)) x6 x7 P (fun x6 => lk_114x E mo hm w sg d S 62 e (by decide) (by decide) (by decide) (by omega) x3 _ _ _ P (by rw [hb]; exact K))
    have er : relS T 62 e = parS T e := rfl
    rw [er] at h9
    unfold parS at h9
    cases hq : tP T e with
    | none =>
      rw [parI_n hq] at a1
      have h8 := h9 false (by rw [hq]; exact (bmeet_0 S).symm)
      refine r_iconst dX10_linked_14 kc_0 rfl ?_
      refine r_istore (ls' := [_, _, _, _, _, _, _, _]) dX10_linked_15 (Nat.le_of_ble_eq_true rfl) rfl rfl ?_
      refine r_iload_n dX10_linked_17 rfl rfl ?_
      refine r_bipush dX10_linked_18 kb_62 rfl ?_
      refine r_icmp_neN (by omega) (by omega) (r := 56) dX10_linked_20 (by decide) rfl (fun c_20 => ?_) (fun c_20 => ?_)
      · exact absurd rfl c_20
      · refine r_aload_n dX10_linked_23 rfl (zRv_ref _) rfl ?_
        refine m_geta hm 2 1 lfX10_7 rfl (by decide) dX10_linked_24 rfl ?_
        refine r_iload dX10_linked_27 rfl rfl ?_
        refine m_ialdv hm 1 _ (by decide) (by decide) rfl rfl (by show _ < 24; omega) (by first | (simp only [zGS, zMS, Nat.reduceEqDiff, OfNat.ofNat_ne_ofNat, false_and, and_false, true_and, and_true, and_self, if_true, if_false, ite_true, ite_false, reduceIte, reduceCtorEq]; first | done | assumption | rfl) | assumption | exact z2_eq | exact z1_eq | (simp [zGS, zMS]; first | done | assumption) | rfl) dX10_linked_29 rfl ?_
        refine r_iconst dX10_linked_30 kc_m1 rfl ?_
        refine r_icmp_eq (r := 53) dX10_linked_31 (by decide) rfl (fun c_31 => ?_) (fun c_31 => ?_)
        · refine r_iconst dX10_linked_53 kc_0 rfl ?_
          refine r_istore (ls' := [_, _, _, _, _, _, _, _]) dX10_linked_54 (Nat.le_of_ble_eq_true rfl) rfl rfl ?_
          exact h8 _ _
        · exact absurd rfl c_31
    | some p =>
      have hpe := hw.2.1 e p hq
      rw [parI_s hq] at a1
      have h8 := h9 (S.testBit p) (by rw [hq]; exact (bmeet_pw p S).symm)
      have hsb := shr_b hS (show p < 24 by omega)
      refine r_iconst dX10_linked_14 kc_0 rfl ?_
      refine r_istore (ls' := [_, _, _, _, _, _, _, _]) dX10_linked_15 (Nat.le_of_ble_eq_true rfl) rfl rfl ?_
      refine r_iload_n dX10_linked_17 rfl rfl ?_
      refine r_bipush dX10_linked_18 kb_62 rfl ?_
      refine r_icmp_neN (by omega) (by omega) (r := 56) dX10_linked_20 (by decide) rfl (fun c_20 => ?_) (fun c_20 => ?_)
      · exact absurd rfl c_20
      · refine r_aload_n dX10_linked_23 rfl (zRv_ref _) rfl ?_
        refine m_geta hm 2 1 lfX10_7 rfl (by decide) dX10_linked_24 rfl ?_
        refine r_iload dX10_linked_27 rfl rfl ?_
        refine m_ialdv hm 1 _ (by decide) (by decide) rfl rfl (by show _ < 24; omega) (by first | (simp only [zGS, zMS, Nat.reduceEqDiff, OfNat.ofNat_ne_ofNat, false_and, and_false, true_and, and_true, and_self, if_true, if_false, ite_true, ite_false, reduceIte, reduceCtorEq]; first | done | assumption | rfl) | assumption | exact z2_eq | exact z1_eq | (simp [zGS, zMS]; first | done | assumption) | rfl) dX10_linked_29 rfl ?_
        refine r_iconst dX10_linked_30 kc_m1 rfl ?_
        refine r_icmp_eq (r := 53) dX10_linked_31 (by decide) rfl (fun c_31 => ?_) (fun c_31 => ?_)
        · exact absurd c_31 (nI_neg (by omega))
        · refine r_iload_n dX10_linked_34 rfl rfl ?_
          refine r_aload_n dX10_linked_35 rfl (zRv_ref _) rfl ?_
          refine m_geta hm 2 1 lfX10_7 rfl (by decide) dX10_linked_36 rfl ?_
          refine r_iload dX10_linked_39 rfl rfl ?_
          refine m_ialdv hm 1 _ (by decide) (by decide) rfl rfl (by show _ < 24; omega) (by first | (simp only [zGS, zMS, Nat.reduceEqDiff, OfNat.ofNat_ne_ofNat, false_and, and_false, true_and, and_true, and_self, if_true, if_false, ite_true, ite_false, reduceIte, reduceCtorEq]; first | done | assumption | rfl) | assumption | exact z2_eq | exact z1_eq | (simp [zGS, zMS]; first | done | assumption) | rfl) dX10_linked_41 rfl ?_
          refine r_ishr dX10_linked_42 rfl ?_
          refine r_iconst dX10_linked_43 kc_1 rfl ?_
          refine r_iand dX10_linked_44 rfl ?_
          rw [hsb]
          refine r_iconst dX10_linked_45 kc_1 rfl ?_
          refine r_icmp_ne (r := 53) dX10_linked_46 (by decide) rfl (fun c_46 => ?_) (fun c_46 => ?_)
          · refine r_iconst dX10_linked_53 kc_0 rfl ?_
            refine r_istore (ls' := [_, _, _, _, _, _, _, _]) dX10_linked_54 (Nat.le_of_ble_eq_true rfl) rfl rfl ?_
            have e9 : S.testBit p = false := by cases hh : S.testBit p with
              | false => rfl
              | true => rw [hh] at c_46; exact absurd rfl c_46
            rw [e9] at h8
            exact h8 _ _
          · refine r_iconst dX10_linked_49 kc_1 rfl ?_
            refine r_goto (r := 54) dX10_linked_50 (by decide) ?_
            refine r_istore (ls' := [_, _, _, _, _, _, _, _]) dX10_linked_54 (Nat.le_of_ble_eq_true rfl) rfl rfl ?_
            have e9 : S.testBit p = true := by cases hh : S.testBit p with
              | true => rfl
              | false => rw [hh] at c_46; exact absurd c_46 (by decide)
            rw [e9] at h8
            exact h8 _ _
  · have h9 := fun x6 x7 => lk_56 E mo hm w sg d S 43 e T h0 (by decide) (by decide) he x3 (.int (zb false)) x6 x7 P (fun x6 => sib (Or.inl rfl) x6 x7)
    refine r_iconst dX10_linked_14 kc_0 rfl ?_
    refine r_istore (ls' := [_, _, _, _, _, _, _, _]) dX10_linked_15 (Nat.le_of_ble_eq_true rfl) rfl rfl ?_
    refine r_iload_n dX10_linked_17 rfl rfl ?_
    refine r_bipush dX10_linked_18 kb_62 rfl ?_
    refine r_icmp_neN (by omega) (by omega) (r := 56) dX10_linked_20 (by decide) rfl (fun c_20 => ?_) (fun c_20 => ?_)
    · exact h9 _ _
    · exact absurd c_20 (by decide)
  · have h9 := fun x6 x7 => lk_56 E mo hm w sg d S 126 e T h0 (by decide) (by decide) he x3 (.int (zb false)) x6 x7 P (fun x6 => sib (Or.inr rfl) x6 x7)
    refine r_iconst dX10_linked_14 kc_0 rfl ?_
    refine r_istore (ls' := [_, _, _, _, _, _, _, _]) dX10_linked_15 (Nat.le_of_ble_eq_true rfl) rfl rfl ?_
    refine r_iload_n dX10_linked_17 rfl rfl ?_
    refine r_bipush dX10_linked_18 kb_62 rfl ?_
    refine r_icmp_neN (by omega) (by omega) (r := 56) dX10_linked_20 (by decide) rfl (fun c_20 => ?_) (fun c_20 => ?_)
    · exact h9 _ _
    · exact absurd c_20 (by decide)
theorem lk_5 (E : ZE) (mo : Nat) (hm : E.2.2.2.2 = some mo) (w : ZW) (sg : ZM) (d S c : Nat) (T : List PEl) (h : mTree sg T) (hr : rootT T) (hS : S < 2147483648) (hc : isJn c = true) : ∀ (m e : Nat) (x5 x6 x7 : Option Value), e + m = T.length → RW E MX10_linked 5 [some (.ref mo), some (.int (nI S)), some (.int (nI c)), some (.int (nI (bset (fun e => bmeet (relS T c e) S) e))), some (.int (nI e)), x5, x6, x7] [] w sg d 0 0 (PN E (fun v w' sg' => v = some (.int (nI (bset (fun e => bmeet (relS T c e) S) T.length))) ∧ w = w' ∧ sg = sg')) := by
  intro m
  have h0 := h
  obtain ⟨hw, h1, h2⟩ := h
  have h24 := hw.1
  induction m with
  | zero =>
    intro e x5 x6 x7 he
    have he2 : e = T.length := by omega
    subst he2
    refine r_iload dX10_linked_5 rfl rfl ?_
    refine r_aload_n dX10_linked_7 rfl (zRv_ref _) rfl ?_
    refine m_getiv hm 1 lfX10_137 rfl (by first | (simp only [zGS, zMS, Nat.reduceEqDiff, OfNat.ofNat_ne_ofNat, false_and, and_false, true_and, and_true, and_self, if_true, if_false, ite_true, ite_false, reduceIte, reduceCtorEq]; first | done | assumption | rfl) | assumption | exact z2_eq | exact z1_eq | (simp [zGS, zMS]; first | done | assumption) | rfl) dX10_linked_8 rfl ?_
    refine r_icmp_geN (by omega) (by omega) (r := 237) dX10_linked_11 (by decide) rfl (fun c_11 => ?_) (fun c_11 => ?_)
    · refine r_iload_n dX10_linked_237 rfl rfl ?_
      refine r_iret rfl dX10_linked_238 ?_
      exact ⟨rfl, rfl, rfl⟩
    · exact absurd c_11 (by omega)
  | succ m ih =>
    intro e x5 x6 x7 he
    have ih2 := fun x5 x6 x7 => ih (e + 1) x5 x6 x7 (by omega)
    have hb : bset (fun e => bmeet (relS T c e) S) (e + 1) = if bmeet (relS T c e) S = true then bset (fun e => bmeet (relS T c e) S) e ||| 2 ^ e else bset (fun e => bmeet (relS T c e) S) e := rfl
    rw [hb] at ih2
    have hl1 : bset (fun e => bmeet (relS T c e) S) e < 2147483648 := Nat.lt_of_lt_of_le (bset_lt _ e) (Nat.le_trans (Nat.pow_le_pow_right (by decide) (show e ≤ 24 by omega)) (by decide))
    have hl2 : 2 ^ e < 2147483648 := Nat.lt_of_lt_of_le (Nat.pow_lt_pow_right (by decide) (show e < 25 by omega)) (by decide)
    have tl : ∀ x6 x7, RW E MX10_linked 215 [some (.ref mo), some (.int (nI S)), some (.int (nI c)), some (.int (nI (bset (fun e => bmeet (relS T c e) S) e))), some (.int (nI e)), some (.int (zb (bmeet (relS T c e) S))), some x6, x7] [] w sg d 0 0 (PN E (fun v w' sg' => v = some (.int (nI (bset (fun e => bmeet (relS T c e) S) T.length))) ∧ w = w' ∧ sg = sg')) := fun x6 x7 => by
      cases hh : bmeet (relS T c e) S with
      | true =>
        rw [hh] at ih2
        refine r_iload dX10_linked_215 rfl rfl ?_
        refine r_if_eqB (r := 229) dX10_linked_217 (by decide) rfl (fun c_217 => ?_) (fun c_217 => ?_)
        · cases c_217
        · refine r_iload_n dX10_linked_220 rfl rfl ?_
          refine r_iconst dX10_linked_221 kc_1 rfl ?_
          refine r_iload dX10_linked_222 rfl rfl ?_
          refine r_ishl dX10_linked_224 rfl ?_
          rw [shl1 e (by omega)]
          refine r_ior dX10_linked_225 rfl ?_
          rw [nI_or hl1 hl2]
          refine r_goto (r := 230) dX10_linked_226 (by decide) ?_
          refine r_istore_n (ls' := [_, _, _, _, _, _, _, _]) dX10_linked_230 (Nat.le_of_ble_eq_true rfl) rfl rfl ?_
          refine r_iinc (ls' := [_, _, _, _, _, _, _, _]) dX10_linked_231 (Nat.le_of_ble_eq_true rfl) rfl (zinc1 _) rfl rfl ?_
          refine r_goto (r := 5) dX10_linked_234 (by decide) ?_
          exact ih2 _ _ _
      | false =>
        rw [hh] at ih2
        refine r_iload dX10_linked_215 rfl rfl ?_
        refine r_if_eqB (r := 229) dX10_linked_217 (by decide) rfl (fun c_217 => ?_) (fun c_217 => ?_)
        · refine r_iload_n dX10_linked_229 rfl rfl ?_
          refine r_istore_n (ls' := [_, _, _, _, _, _, _, _]) dX10_linked_230 (Nat.le_of_ble_eq_true rfl) rfl rfl ?_
          refine r_iinc (ls' := [_, _, _, _, _, _, _, _]) dX10_linked_231 (Nat.le_of_ble_eq_true rfl) rfl (zinc1 _) rfl rfl ?_
          refine r_goto (r := 5) dX10_linked_234 (by decide) ?_
          exact ih2 _ _ _
        · cases c_217
    refine r_iload dX10_linked_5 rfl rfl ?_
    refine r_aload_n dX10_linked_7 rfl (zRv_ref _) rfl ?_
    refine m_getiv hm 1 lfX10_137 rfl (by first | (simp only [zGS, zMS, Nat.reduceEqDiff, OfNat.ofNat_ne_ofNat, false_and, and_false, true_and, and_true, and_self, if_true, if_false, ite_true, ite_false, reduceIte, reduceCtorEq]; first | done | assumption | rfl) | assumption | exact z2_eq | exact z1_eq | (simp [zGS, zMS]; first | done | assumption) | rfl) dX10_linked_8 rfl ?_
    refine r_icmp_geN (by omega) (by omega) (r := 237) dX10_linked_11 (by decide) rfl (fun c_11 => ?_) (fun c_11 => ?_)
    · exact absurd c_11 (by omega)
    · exact lk_14 E mo hm w sg d S c e T h0 hr hS hc (by omega) _ _ _ _ _ tl
theorem q_linked (E : ZE) (mo : Nat) (hm : E.2.2.2.2 = some mo) (w : ZW) (sg : ZM) (d S c : Nat) (T : List PEl) (h : mTree sg T) (hr : rootT T) (hS : S < 2147483648) (hc : isJn c = true) : CallQ E MX10_linked [.ref mo, .int (nI S), .int (nI c)] w sg d 0 0 (fun v w' sg' => v = some (.int (nI (bset (fun e => bmeet (relS T c e) S) T.length))) ∧ w = w' ∧ sg = sg') := by
  have h0 := lk_5 E mo hm w sg d S c T h hr hS hc T.length 0 none none none (Nat.zero_add _)
  refine CallQ.of rfl (by simp [Value.category]) (Nat.le_of_ble_eq_true rfl) ?_
  refine r_iconst dX10_linked_0 kc_0 rfl ?_
  refine r_istore_n (ls' := [_, _, _, _, _, _, _, _]) dX10_linked_1 (Nat.le_of_ble_eq_true rfl) rfl rfl ?_
  refine r_iconst dX10_linked_2 kc_0 rfl ?_
  refine r_istore (ls' := [_, _, _, _, _, _, _, _]) dX10_linked_3 (Nat.le_of_ble_eq_true rfl) rfl rfl ?_
  exact h0
