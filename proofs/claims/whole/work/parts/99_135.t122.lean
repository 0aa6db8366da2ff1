/-! ===== the model: word ===== -/
def mWd (sg : ZM) : Prop := ∀ i, i < 2 → ∀ k, k < 7 → ma sg (25 - i) k = nI ((zwC i).getD k 0)
theorem mWd.kp {a b : ZM} (h : mWd a) (g : ∀ j i, 24 ≤ j → j ≤ 25 → ma b j i = ma a j i) : mWd b := fun i hi k hk => (g _ _ (by omega) (by omega)).trans (h i hi k hk)
def wdQ (sg : ZM) (f i : Nat) (r : List Nat) (w : ZW) : ZQ := fun v w' sg' => v = some (.int (zb (pWord i r).isSome)) ∧ w = w' ∧ mvC sg sg' ∧ cuG sg' f ((pWord i r).getD r)
theorem wC_lt {i k : Nat} (hi : i < 2) (hk : k < 7) : (zwC i).getD k 0 < 128 := (zwB_C hi hk).2
theorem rwd_77 (E : ZE) (mo : Nat) (hm : E.2.2.2.2 = some mo) (w : ZW) (sg : ZM) (d f i : Nat) (r : List Nat) (x1 x3 : Value) (b : Bool) (h : cuG sg f r) (hb : b = (pWord i r).isSome) : RW E MX10_word 77 [some (.ref mo), some x1, some (.int (zb b)), some x3] [] w sg d 0 0 (PN E (wdQ sg f i r w)) := by
  obtain ⟨a, h1, h2, h3, h4, h5, h6, h7⟩ := id h
  have h14 : mi sg 14 = nI a := h1.2.1
  cases hp : pWord i r with
  | none =>
    rw [hp] at hb
    have hb2 : b = false := hb
    subst hb2
    refine r_aload_n dX10_word_77 rfl (zRv_ref _) rfl ?_
    refine r_iload_n dX10_word_78 rfl rfl ?_
    refine r_if_eqB (r := 92) dX10_word_79 (by decide) rfl (fun c_79 => ?_) (fun c_79 => ?_)
    · refine r_aload_n dX10_word_92 rfl (zRv_ref _) rfl ?_
      refine m_getiv hm 14 lfX10_147 rfl (by first | (simp only [zGS, zMS, Nat.reduceEqDiff, OfNat.ofNat_ne_ofNat, false_and, and_false, true_and, and_true, and_self, if_true, if_false, ite_true, ite_false, reduceIte, reduceCtorEq]; first | done | assumption | rfl) | assumption | exact z2_eq | exact z1_eq | (simp [zGS, zMS]; first | done | assumption) | rfl) dX10_word_93 rfl ?_
      refine m_puti hm 14 lfX10_147 rfl rfl rfl dX10_word_96 rfl ?_
      refine r_iload_n dX10_word_99 rfl rfl ?_
      refine r_zret .boolean rfl (zb_nar _) dX10_word_100 ?_
      unfold wdQ
      rw [hp]
      exact ⟨rfl, rfl, mvC.m14, cu_stay h1 h2 h3 h4 h5 h6 h7 (h1.m14 (by omega)) mvC.m14⟩
    · cases c_79
  | some r' =>
    rw [hp] at hb
    have hb2 : b = true := hb
    subst hb2
    have hq : r.take 7 = zwC i ∧ r' = r.drop 7 := by
      unfold pWord at hp
      split at hp
      · rename_i e; cases hp; exact ⟨e, rfl⟩
      · cases hp
    have hl7 : 7 ≤ r.length := by have := congrArg List.length hq.1; rw [zwC_len, List.length_take] at this; omega
    have hld : (r.drop 7).length = r.length - 7 := List.length_drop
    refine r_aload_n dX10_word_77 rfl (zRv_ref _) rfl ?_
    refine r_iload_n dX10_word_78 rfl rfl ?_
    refine r_if_eqB (r := 92) dX10_word_79 (by decide) rfl (fun c_79 => ?_) (fun c_79 => ?_)
    · cases c_79
    · refine r_aload_n dX10_word_82 rfl (zRv_ref _) rfl ?_
      refine m_getiv hm 14 lfX10_147 rfl (by first | (simp only [zGS, zMS, Nat.reduceEqDiff, OfNat.ofNat_ne_ofNat, false_and, and_false, true_and, and_true, and_self, if_true, if_false, ite_true, ite_false, reduceIte, reduceCtorEq]; first | done | assumption | rfl) | assumption | exact z2_eq | exact z1_eq | (simp [zGS, zMS]; first | done | assumption) | rfl) dX10_word_83 rfl ?_
      refine r_bipush dX10_word_86 kb_7 rfl ?_
      refine r_iaddN dX10_word_88 rfl ?_
      refine r_goto (r := 96) dX10_word_89 (by decide) ?_
      refine m_puti hm 14 lfX10_147 rfl rfl rfl dX10_word_96 rfl ?_
      refine r_iload_n dX10_word_99 rfl rfl ?_
      refine r_zret .boolean rfl (zb_nar _) dX10_word_100 ?_
      unfold wdQ
      rw [hp]
      refine ⟨rfl, rfl, mvC.m14, ?_⟩
      show cuG _ f r'
      rw [hq.2]
      refine ⟨a + 7, ?_, h2, by omega, by rw [hld]; omega, h5, fun j c hj => ?_, fun c hc => h7 c (List.mem_of_mem_drop hc)⟩
      · rw [hld, show a + 7 + (r.length - 7) = a + r.length by omega]
        exact h1.m14 (by omega)
      · rw [List.getElem?_drop] at hj
        have := h6 (7 + j) c hj
        rw [show a + (7 + j) = a + 7 + j by omega] at this
        exact this
theorem rwd_22 (E : ZE) (mo : Nat) (hm : E.2.2.2.2 = some mo) (w : ZW) (sg : ZM) (d f i : Nat) (hi : i < 2) (r : List Nat) (h : cuG sg f r) (hW : mWd sg) : ∀ (m k : Nat) (b : Bool), k + m = 7 → (b = true → 7 ≤ r.length ∧ ∀ j, j < k → r.getD j 0 = (zwC i).getD j 0) → (b = false → pWord i r = none) → RW E MX10_word 22 [some (.ref mo), some (.int (nI i)), some (.int (zb b)), some (.int (nI k))] [] w sg d 0 0 (PN E (wdQ sg f i r w)) := by
  intro m
  induction m with
  | zero =>
    intro k b hk h1 h0
    have hk7 : k = 7 := by omega
    subst hk7
    have hb : b = (pWord i r).isSome := by
      cases b with
      | false => rw [h0 rfl]; rfl
      | true =>
        unfold pWord
        rw [if_pos (take7 (zwC_len i) (h1 rfl).1 (h1 rfl).2)]
        rfl
    have hx := rwd_77 E mo hm w sg d f i r (.int (nI i)) (.int (nI 7)) b h hb
    refine r_iload_n dX10_word_22 rfl rfl ?_
    refine r_bipush dX10_word_23 kb_7 rfl ?_
    refine r_icmp_geN (by omega) (by omega) (r := 77) dX10_word_25 (by decide) rfl (fun c_25 => ?_) (fun c_25 => ?_)
    · exact hx
    · exact absurd c_25 (by omega)
  | succ m ih =>
    intro k b hk h1 h0
    have hk7 : k < 7 := by omega
    cases b with
    | false =>
      have hx := rwd_77 E mo hm w sg d f i r (.int (nI i)) (.int (nI k)) false h (by rw [h0 rfl]; rfl)
      refine r_iload_n dX10_word_22 rfl rfl ?_
      refine r_bipush dX10_word_23 kb_7 rfl ?_
      refine r_icmp_geN (by omega) (by omega) (r := 77) dX10_word_25 (by decide) rfl (fun c_25 => ?_) (fun c_25 => ?_)
      · exact absurd c_25 (by omega)
      · refine r_iload_n dX10_word_28 rfl rfl ?_
        refine r_if_eqB (r := 77) dX10_word_29 (by decide) rfl (fun c_29 => ?_) (fun c_29 => ?_)
        · exact hx
        · cases c_29
    | true =>
      obtain ⟨hl7, hj⟩ := h1 rfl
      obtain ⟨a, g1, g2, g3, g4, g5, g6, g7⟩ := id h
      have h14 : mi sg 14 = nI a := g1.2.1
      obtain ⟨c, hc⟩ : ∃ c, r[k]? = some c := ⟨r[k], List.getElem?_eq_getElem (by omega)⟩
      have hch : chN sg (a + k) = c := g6 k c hc
      have hc9 : c < 128 := (g7 c (List.mem_of_getElem? hc)).2
      have e7 : ma sg 7 (a + k) = nI c := by rw [← hch]; exact (g1.1.c (show a + k < 2040 by omega)).1
      have e5 : r.getD k 0 = c := by rw [List.getD_eq_getElem?_getD, hc]; rfl
      have hw9 := wC_lt hi hk7
      have hn : c ≠ (zwC i).getD k 0 → pWord i r = none := fun q => by
        unfold pWord
        exact if_neg (fun e => q (e5.symm.trans (take7' hl7 e k hk7)))
      have ht := fun (q : c = (zwC i).getD k 0) => ih (k + 1) true (by omega) (fun _ => ⟨hl7, fun j hj2 => (Nat.lt_or_ge j k).elim (fun q9 => hj j q9) (fun q9 => by rw [show j = k by omega, e5]; exact q)⟩) (fun q => by cases q)
      have hf := fun (q : c ≠ (zwC i).getD k 0) => ih (k + 1) false (by omega) (fun q => by cases q) (fun _ => hn q)
      rcases (by omega : i = 0 ∨ i = 1) with rfl | rfl
      · have e8 : ma sg 25 k = nI ((zwC 0).getD k 0) := hW 0 (by decide) k hk7
        refine r_iload_n dX10_word_22 rfl rfl ?_
        refine r_bipush dX10_word_23 kb_7 rfl ?_
        refine r_icmp_geN (by omega) (by omega) (r := 77) dX10_word_25 (by decide) rfl (fun c_25 => ?_) (fun c_25 => ?_)
        · exact absurd c_25 (by omega)
        · refine r_iload_n dX10_word_28 rfl rfl ?_
          refine r_if_eqB (r := 77) dX10_word_29 (by decide) rfl (fun c_29 => ?_) (fun c_29 => ?_)
          · cases c_29
          · refine r_aload_n dX10_word_32 rfl (zRv_ref _) rfl ?_
            refine m_geta hm 9 7 lfX10_28 rfl (by decide) dX10_word_33 rfl ?_
            refine r_aload_n dX10_word_36 rfl (zRv_ref _) rfl ?_
            refine m_getiv hm 14 lfX10_147 rfl (by first | (simp only [zGS, zMS, Nat.reduceEqDiff, OfNat.ofNat_ne_ofNat, false_and, and_false, true_and, and_true, and_self, if_true, if_false, ite_true, ite_false, reduceIte, reduceCtorEq]; first | done | assumption | rfl) | assumption | exact z2_eq | exact z1_eq | (simp [zGS, zMS]; first | done | assumption) | rfl) dX10_word_37 rfl ?_
            refine r_iload_n dX10_word_40 rfl rfl ?_
            refine r_iaddN dX10_word_41 rfl ?_
            refine m_caldv hm 7 _ (by decide) (by decide) rfl rfl (by show _ < 2040; omega) (by first | (simp only [zGS, zMS, Nat.reduceEqDiff, OfNat.ofNat_ne_ofNat, false_and, and_false, true_and, and_true, and_self, if_true, if_false, ite_true, ite_false, reduceIte, reduceCtorEq]; first | done | assumption | rfl) | assumption | exact z2_eq | exact z1_eq | (simp [zGS, zMS]; first | done | assumption) | rfl) dX10_word_42 rfl ?_
            refine r_iload_n dX10_word_43 rfl rfl ?_
            refine r_if_eqN (by omega) (r := 56) dX10_word_44 (by decide) rfl (fun c_44 => ?_) (fun c_44 => ?_)
            · refine r_aload_n dX10_word_56 rfl (zRv_ref _) rfl ?_
              refine m_geta hm 37 25 lfX10_85 rfl (by decide) dX10_word_57 rfl ?_
              refine r_iload_n dX10_word_60 rfl rfl ?_
              refine m_caldv hm 25 _ (by decide) (by decide) rfl rfl (by show _ < 7; omega) (by first | (simp only [zGS, zMS, Nat.reduceEqDiff, OfNat.ofNat_ne_ofNat, false_and, and_false, true_and, and_true, and_self, if_true, if_false, ite_true, ite_false, reduceIte, reduceCtorEq]; first | done | assumption | rfl) | assumption | exact z2_eq | exact z1_eq | (simp [zGS, zMS]; first | done | assumption) | rfl) dX10_word_61 rfl ?_
              refine r_icmp_neN (by omega) (by omega) (r := 69) dX10_word_62 (by decide) rfl (fun c_62 => ?_) (fun c_62 => ?_)
              · refine r_iconst dX10_word_69 kc_0 rfl ?_
                refine r_istore_n (ls' := [_, _, _, _]) dX10_word_70 (Nat.le_of_ble_eq_true rfl) rfl rfl ?_
                refine r_iinc (ls' := [_, _, _, _]) dX10_word_71 (Nat.le_of_ble_eq_true rfl) rfl (zinc1 _) rfl rfl ?_
                refine r_goto (r := 22) dX10_word_74 (by decide) ?_
                exact hf c_62
              · refine r_iconst dX10_word_65 kc_1 rfl ?_
                refine r_goto (r := 70) dX10_word_66 (by decide) ?_
                refine r_istore_n (ls' := [_, _, _, _]) dX10_word_70 (Nat.le_of_ble_eq_true rfl) rfl rfl ?_
                refine r_iinc (ls' := [_, _, _, _]) dX10_word_71 (Nat.le_of_ble_eq_true rfl) rfl (zinc1 _) rfl rfl ?_
                refine r_goto (r := 22) dX10_word_74 (by decide) ?_
                exact ht c_62
            · exact absurd rfl c_44
      · have e8 : ma sg 24 k = nI ((zwC 1).getD k 0) := hW 1 (by decide) k hk7
        refine r_iload_n dX10_word_22 rfl rfl ?_
        refine r_bipush dX10_word_23 kb_7 rfl ?_
        refine r_icmp_geN (by omega) (by omega) (r := 77) dX10_word_25 (by decide) rfl (fun c_25 => ?_) (fun c_25 => ?_)
        · exact absurd c_25 (by omega)
        · refine r_iload_n dX10_word_28 rfl rfl ?_
          refine r_if_eqB (r := 77) dX10_word_29 (by decide) rfl (fun c_29 => ?_) (fun c_29 => ?_)
          · cases c_29
          · refine r_aload_n dX10_word_32 rfl (zRv_ref _) rfl ?_
            refine m_geta hm 9 7 lfX10_28 rfl (by decide) dX10_word_33 rfl ?_
            refine r_aload_n dX10_word_36 rfl (zRv_ref _) rfl ?_
            refine m_getiv hm 14 lfX10_147 rfl (by first | (simp only [zGS, zMS, Nat.reduceEqDiff, OfNat.ofNat_ne_ofNat, false_and, and_false, true_and, and_true, and_self, if_true, if_false, ite_true, ite_false, reduceIte, reduceCtorEq]; first | done | assumption | rfl) | assumption | exact z2_eq | exact z1_eq | (simp [zGS, zMS]; first | done | assumption) | rfl) dX10_word_37 rfl ?_
            refine r_iload_n dX10_word_40 rfl rfl ?_
            refine r_iaddN dX10_word_41 rfl ?_
            refine m_caldv hm 7 _ (by decide) (by decide) rfl rfl (by show _ < 2040; omega) (by first | (simp only [zGS, zMS, Nat.reduceEqDiff, OfNat.ofNat_ne_ofNat, false_and, and_false, true_and, and_true, and_self, if_true, if_false, ite_true, ite_false, reduceIte, reduceCtorEq]; first | done | assumption | rfl) | assumption | exact z2_eq | exact z1_eq | (simp [zGS, zMS]; first | done | assumption) | rfl) dX10_word_42 rfl ?_
            refine r_iload_n dX10_word_43 rfl rfl ?_
            refine r_if_eqN (by omega) (r := 56) dX10_word_44 (by decide) rfl (fun c_44 => ?_) (fun c_44 => ?_)
            · exact absurd c_44 (by decide)
            · refine r_aload_n dX10_word_47 rfl (zRv_ref _) rfl ?_
              refine m_geta hm 36 24 lfX10_82 rfl (by decide) dX10_word_48 rfl ?_
              refine r_iload_n dX10_word_51 rfl rfl ?_
              refine m_caldv hm 24 _ (by decide) (by decide) rfl rfl (by show _ < 7; omega) (by first | (simp only [zGS, zMS, Nat.reduceEqDiff, OfNat.ofNat_ne_ofNat, false_and, and_false, true_and, and_true, and_self, if_true, if_false, ite_true, ite_false, reduceIte, reduceCtorEq]; first | done | assumption | rfl) | assumption | exact z2_eq | exact z1_eq | (simp [zGS, zMS]; first | done | assumption) | rfl) dX10_word_52 rfl ?_
              refine r_goto (r := 62) dX10_word_53 (by decide) ?_
              refine r_icmp_neN (by omega) (by omega) (r := 69) dX10_word_62 (by decide) rfl (fun c_62 => ?_) (fun c_62 => ?_)
              · refine r_iconst dX10_word_69 kc_0 rfl ?_
                refine r_istore_n (ls' := [_, _, _, _]) dX10_word_70 (Nat.le_of_ble_eq_true rfl) rfl rfl ?_
                refine r_iinc (ls' := [_, _, _, _]) dX10_word_71 (Nat.le_of_ble_eq_true rfl) rfl (zinc1 _) rfl rfl ?_
                refine r_goto (r := 22) dX10_word_74 (by decide) ?_
                exact hf c_62
              · refine r_iconst dX10_word_65 kc_1 rfl ?_
                refine r_goto (r := 70) dX10_word_66 (by decide) ?_
                refine r_istore_n (ls' := [_, _, _, _]) dX10_word_70 (Nat.le_of_ble_eq_true rfl) rfl rfl ?_
                refine r_iinc (ls' := [_, _, _, _]) dX10_word_71 (Nat.le_of_ble_eq_true rfl) rfl (zinc1 _) rfl rfl ?_
                refine r_goto (r := 22) dX10_word_74 (by decide) ?_
                exact ht c_62
theorem p_word (E : ZE) (mo : Nat) (hm : E.2.2.2.2 = some mo) (w : ZW) (sg : ZM) (d f i : Nat) (hi : i < 2) (r : List Nat) (h : cuG sg f r) (hW : mWd sg) : CallQ E MX10_word [.ref mo, .int (nI i)] w sg d 0 0 (wdQ sg f i r w) := by
  obtain ⟨a, g1, g2, g3, g4, g5, g6, g7⟩ := id h
  have h14 : mi sg 14 = nI a := g1.2.1
  have h13 : mi sg 13 = nI (a + r.length) := g1.2.2.1
  have h0 := fun (q : ¬ 7 ≤ r.length) => rwd_22 E mo hm w sg d f i hi r h hW 7 0 false rfl (fun q => by cases q) (fun _ => by
    unfold pWord
    exact if_neg (fun e => by have := congrArg List.length e; rw [zwC_len, List.length_take] at this; omega))
  have h1 := fun (q : 7 ≤ r.length) => rwd_22 E mo hm w sg d f i hi r h hW 7 0 true rfl (fun _ => ⟨q, fun j hj => absurd hj (Nat.not_lt_zero j)⟩) (fun q => by cases q)
  refine CallQ.of rfl (by simp [Value.category]) (Nat.le_of_ble_eq_true rfl) ?_
  refine r_aload_n dX10_word_0 rfl (zRv_ref _) rfl ?_
  refine m_getiv hm 14 lfX10_147 rfl (by first | (simp only [zGS, zMS, Nat.reduceEqDiff, OfNat.ofNat_ne_ofNat, false_and, and_false, true_and, and_true, and_self, if_true, if_false, ite_true, ite_false, reduceIte, reduceCtorEq]; first | done | assumption | rfl) | assumption | exact z2_eq | exact z1_eq | (simp [zGS, zMS]; first | done | assumption) | rfl) dX10_word_1 rfl ?_
  refine r_bipush dX10_word_4 kb_7 rfl ?_
  refine r_iaddN dX10_word_6 rfl ?_
  refine r_aload_n dX10_word_7 rfl (zRv_ref _) rfl ?_
  refine m_getiv hm 13 lfX10_150 rfl (by first | (simp only [zGS, zMS, Nat.reduceEqDiff, OfNat.ofNat_ne_ofNat, false_and, and_false, true_and, and_true, and_self, if_true, if_false, ite_true, ite_false, reduceIte, reduceCtorEq]; first | done | assumption | rfl) | assumption | exact z2_eq | exact z1_eq | (simp [zGS, zMS]; first | done | assumption) | rfl) dX10_word_8 rfl ?_
  refine r_icmp_gtN (by omega) (by omega) (r := 18) dX10_word_11 (by decide) rfl (fun c_11 => ?_) (fun c_11 => ?_)
  · refine r_iconst dX10_word_18 kc_0 rfl ?_
    refine r_istore_n (ls' := [_, _, _, _]) dX10_word_19 (Nat.le_of_ble_eq_true rfl) rfl rfl ?_
    refine r_iconst dX10_word_20 kc_0 rfl ?_
    refine r_istore_n (ls' := [_, _, _, _]) dX10_word_21 (Nat.le_of_ble_eq_true rfl) rfl rfl ?_
    exact h0 (by omega)
  · refine r_iconst dX10_word_14 kc_1 rfl ?_
    refine r_goto (r := 19) dX10_word_15 (by decide) ?_
    refine r_istore_n (ls' := [_, _, _, _]) dX10_word_19 (Nat.le_of_ble_eq_true rfl) rfl rfl ?_
    refine r_iconst dX10_word_20 kc_0 rfl ?_
    refine r_istore_n (ls' := [_, _, _, _]) dX10_word_21 (Nat.le_of_ble_eq_true rfl) rfl rfl ?_
    exact h1 (by omega)
