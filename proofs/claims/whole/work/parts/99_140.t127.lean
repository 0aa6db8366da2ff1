/-! ===== the model: rule ===== -/
/-- an empty buffer -/
theorem txE {a : ZM} : txA (msa a 8 16 (nI 0)) 16 [] := ⟨by rw [ma_msa, if_pos ⟨rfl, rfl⟩]; rfl, Nat.zero_le _, fun i c q => (by cases q), fun c q => (by cases q)⟩
theorem mdT.empty {a : ZM} {Rs : List PRule} {B : List Nat} (h : mdT a Rs B) : mdT (msa a 8 16 (nI 0)) Rs [] := by
  obtain ⟨h1, h2, h3, h4, h5, h6⟩ := h
  refine ⟨h1, h2, fun k R hR => ?_, txE, h5.fr (fun i => by rw [ma_msa, if_neg (by omega)]), h6.kp (fun j i _ _ => by rw [ma_msa, if_neg (by omega)])⟩
  obtain ⟨q, q1, q2, q3⟩ := h3 k R hR
  have hk := (List.getElem?_eq_some_iff.mp hR).1
  exact ⟨q, q1.fr (by rw [ma_msa, if_neg (by omega)]) (fun i _ _ => by rw [ma_msa, if_neg (by omega)]), by rw [ma_msa, if_neg (by omega)]; exact q2, q3⟩
theorem mTree.empty {a : ZM} {T : List PEl} (h : mTree a T) : mTree (msa a 8 16 (nI 0)) T := h.fr rfl (fun j i _ _ => by rw [ma_msa, if_neg (by omega)])
def mruQ (T : List PEl) (Rs : List PRule) (B : List Nat) (o : Int32) (w : ZW) : ZQ := fun v w' sg' => w = w' ∧ mi sg' 0 = nI (ruO Rs B o).1 ∧ (match (ruO Rs B o).2 with
  | none => mdI sg' T Rs []
  | some R => v = some (.int (nI Rs.length)) ∧ mdI sg' T (Rs ++ [R]) []) ∧ ∃ x, v = some (.int x)
theorem mru_93f (E : ZE) (mo : Nat) (hm : E.2.2.2.2 = some mo) (w : ZW) (sg : ZM) (d : Nat) (T : List PEl) (Rs : List PRule) (B : List Nat) (o : Int32) (h : mdI sg T Rs B) (x1 : Value) (ho : (ruO Rs B o).2 = none) : RW E MX10_rule 33 [some (.ref mo), some x1, some (.int (zb false))] [] w sg d 0 0 (PN E (mruQ T Rs B o w)) := by
  have h8 : mi sg 8 = nI Rs.length := h.2.2.1
  have hl : Rs.length ≤ 16 := h.2.1
  have hc : (ruO Rs B o).1 = if Rs.length = 16 then 1 else 2 := by
    unfold ruO at ho ⊢
    by_cases c16 : Rs.length = 16
    · rw [if_pos c16, if_pos c16]
    · rw [if_neg c16] at ho
      rw [if_neg c16, if_neg c16]
      by_cases ci : inI o 3 = false
      · rw [if_pos ci]
      · rw [if_neg ci] at ho
        rw [if_neg ci]
        cases hr : readR B (ixD o) with
        | none => rfl
        | some R => rw [hr] at ho; cases ho
  have fin : ∀ c : Nat, c = (ruO Rs B o).1 → mruQ T Rs B o w (some (.int (nI 0))) w (msa (msi sg 0 (nI c)) 8 16 (nI 0)) := fun c q => by
    refine ⟨rfl, ?_, ?_, _, rfl⟩
    · show mi (msi sg 0 (nI c)) 0 = _
      rw [mi_msi, if_pos rfl, q]
    · rw [ho]
      have h9 := h.code (nI c)
      exact ⟨h9.1.empty, h9.2.empty⟩
  refine r_aload_n dX10_rule_33 rfl (zRv_ref _) rfl ?_
  refine r_aload_n dX10_rule_34 rfl (zRv_ref _) rfl ?_
  refine m_getiv hm 8 lfX10_274 rfl (by first | (simp only [zGS, zMS, Nat.reduceEqDiff, OfNat.ofNat_ne_ofNat, false_and, and_false, true_and, and_true, and_self, if_true, if_false, ite_true, ite_false, reduceIte, reduceCtorEq]; first | done | assumption | rfl) | assumption | exact z2_eq | exact z1_eq | (simp [zGS, zMS]; first | done | assumption) | rfl) dX10_rule_35 rfl ?_
  refine r_bipush dX10_rule_38 kb_16 rfl ?_
  refine r_icmp_neN (by omega) (by omega) (r := 47) dX10_rule_40 (by decide) rfl (fun c_40 => ?_) (fun c_40 => ?_)
  · refine r_iload_n dX10_rule_47 rfl rfl ?_
    refine r_if_eqB (r := 55) dX10_rule_48 (by decide) rfl (fun c_48 => ?_) (fun c_48 => ?_)
    · refine r_iconst dX10_rule_55 kc_2 rfl ?_
      refine m_puti hm 0 lfX10_133 rfl rfl rfl dX10_rule_56 rfl ?_
      refine r_iload_n dX10_rule_59 rfl rfl ?_
      refine r_if_eqB (r := 93) dX10_rule_60 (by decide) rfl (fun c_60 => ?_) (fun c_60 => ?_)
      · refine r_aload_n dX10_rule_93 rfl (zRv_ref _) rfl ?_
        refine m_geta hm 10 8 lfX10_32 rfl (by decide) dX10_rule_94 rfl ?_
        refine r_bipush dX10_rule_97 kb_16 rfl ?_
        refine r_iconst dX10_rule_99 kc_0 rfl ?_
        refine m_iast hm 8 _ (by decide) (by decide) rfl rfl (by show _ < 17; omega) dX10_rule_100 rfl ?_
        refine r_iload_n dX10_rule_101 rfl rfl ?_
        refine r_if_eqB (r := 114) dX10_rule_102 (by decide) rfl (fun c_102 => ?_) (fun c_102 => ?_)
        · refine r_iconst dX10_rule_114 kc_0 rfl ?_
          refine r_iret rfl dX10_rule_115 ?_
          exact fin 2 (by rw [hc, if_neg c_40])
        · cases c_102
      · cases c_60
    · cases c_48
  · refine r_iconst dX10_rule_43 kc_1 rfl ?_
    refine r_goto (r := 56) dX10_rule_44 (by decide) ?_
    refine m_puti hm 0 lfX10_133 rfl rfl rfl dX10_rule_56 rfl ?_
    refine r_iload_n dX10_rule_59 rfl rfl ?_
    refine r_if_eqB (r := 93) dX10_rule_60 (by decide) rfl (fun c_60 => ?_) (fun c_60 => ?_)
    · refine r_aload_n dX10_rule_93 rfl (zRv_ref _) rfl ?_
      refine m_geta hm 10 8 lfX10_32 rfl (by decide) dX10_rule_94 rfl ?_
      refine r_bipush dX10_rule_97 kb_16 rfl ?_
      refine r_iconst dX10_rule_99 kc_0 rfl ?_
      refine m_iast hm 8 _ (by decide) (by decide) rfl rfl (by show _ < 17; omega) dX10_rule_100 rfl ?_
      refine r_iload_n dX10_rule_101 rfl rfl ?_
      refine r_if_eqB (r := 114) dX10_rule_102 (by decide) rfl (fun c_102 => ?_) (fun c_102 => ?_)
      · refine r_iconst dX10_rule_114 kc_0 rfl ?_
        refine r_iret rfl dX10_rule_115 ?_
        exact fin 1 (by rw [hc, if_pos c_40])
      · cases c_102
    · cases c_60
theorem mru_add {a b : ZM} {T : List PEl} {Rs : List PRule} {B : List Nat} {R : PRule} {i : Nat} (h : mdI a T Rs B) (m1 : mvR (msi a 0 (nI 0)) b Rs.length) (m2 : mTx b) (m3 : txA b Rs.length B) (hl : Rs.length < 16) (hi : i < 3) (hR : readR B i = some R) : mdI (msa (msi (msa b 9 Rs.length (nI i)) 8 (nI (Rs.length + 1))) 8 16 (nI 0)) T (Rs ++ [R]) [] := by
  obtain ⟨g1, g2, g3⟩ := m1
  obtain ⟨hT, h1, h2, h3, h4, h5, h6⟩ := h
  have hlen : (Rs ++ [R]).length = Rs.length + 1 := by rw [List.length_append]; rfl
  have e1' : ∀ i9 j i', ¬ (j = 7 ∧ 120 * Rs.length ≤ i' ∧ i' < 120 * Rs.length + 120) → ¬ (j = 8 ∧ (i' = Rs.length ∨ i' = 16)) → ¬ (j = 9 ∧ i' = Rs.length) → ma (msa (msi (msa b 9 Rs.length (nI i9)) 8 (nI (Rs.length + 1))) 8 16 (nI 0)) j i' = ma a j i' := fun i9 j i' p q r => by
    rw [ma_msa, if_neg (fun z => q ⟨z.1, Or.inr z.2⟩)]
    show ma (msa b 9 Rs.length (nI i9)) j i' = _
    rw [ma_msa, if_neg r]
    exact g3 j i' p (fun z => q ⟨z.1, Or.inl z.2⟩)
  have e2 : ∀ i', ma (msa (msi (msa b 9 Rs.length (nI i)) 8 (nI (Rs.length + 1))) 8 16 (nI 0)) 7 i' = ma b 7 i' := fun i' => by
    rw [ma_msa, if_neg (by omega)]
    show ma (msa b 9 Rs.length (nI i)) 7 i' = _
    rw [ma_msa, if_neg (by omega)]
  have m0 : ∀ j, j ≠ 8 → j ≠ 0 → mi (msa (msi (msa b 9 Rs.length (nI i)) 8 (nI (Rs.length + 1))) 8 16 (nI 0)) j = mi a j := fun j p q => by
    show mi (msi (msa b 9 Rs.length (nI i)) 8 (nI (Rs.length + 1))) j = _
    rw [mi_msi, if_neg p]
    show mi b j = _
    rw [g1, mi_msi, if_neg q]
  refine ⟨hT.fr (m0 1 (by decide) (by decide)) (fun j i' _ _ => e1' i j i' (by omega) (by omega) (by omega)), by rw [hlen]; omega, ?_, fun k R9 hk => ?_, txE, m2.fr e2, h6.kp (fun j i' _ _ => e1' i j i' (by omega) (by omega) (by omega))⟩
  · show mi (msi (msa b 9 Rs.length (nI i)) 8 (nI (Rs.length + 1))) 8 = _
    rw [mi_msi, if_pos rfl, hlen]
  · have hk9 := (List.getElem?_eq_some_iff.mp hk).1
    rw [hlen] at hk9
    rcases Nat.lt_or_ge k Rs.length with c9 | c9
    · rw [List.getElem?_append_left c9] at hk
      obtain ⟨q, q1, q2, q3⟩ := h3 k R9 hk
      exact ⟨q, q1.fr (e1' i 8 k (by omega) (by omega) (by omega)) (fun i' _ _ => e1' i 7 i' (by omega) (by omega) (by omega)), (e1' i 9 k (by omega) (by omega) (by omega)).trans q2, q3⟩
    · have hk2 : k = Rs.length := by omega
      subst hk2
      rw [List.getElem?_append_right c9, Nat.sub_self] at hk
      cases hk
      refine ⟨(B, i), m3.fr ?_ (fun i' _ _ => e2 i'), ?_, hi, hR⟩
      · rw [ma_msa, if_neg (by omega)]
        show ma (msa b 9 Rs.length (nI i)) 8 Rs.length = _
        rw [ma_msa, if_neg (by omega)]
      · rw [ma_msa, if_neg (by omega)]
        show ma (msa b 9 Rs.length (nI i)) 9 Rs.length = _
        rw [ma_msa, if_pos ⟨rfl, rfl⟩]
theorem q_rule (E : ZE) (mo : Nat) (hm : E.2.2.2.2 = some mo) (w : ZW) (sg : ZM) (d : Nat) (hd : 16 ≤ d) (T : List PEl) (Rs : List PRule) (B : List Nat) (o : Int32) (h : mdI sg T Rs B) : CallQ E MX10_rule [.ref mo, .int o] w sg d 0 0 (mruQ T Rs B o w) := by
  have h8 : mi sg 8 = nI Rs.length := h.2.2.1
  have hl : Rs.length ≤ 16 := h.2.1
  have htx := h.2.2.2.2.2.1
  have hwd := h.2.2.2.2.2.2
  have hB := h.2.2.2.2.1
  have hou := q_outE E w sg (d - 1) 3 o (nI 2) (by decide) (by decide)
  refine CallQ.of rfl (by simp [Value.category]) (Nat.le_of_ble_eq_true rfl) ?_
  by_cases c16 : Rs.length = 16
  · have ho : (ruO Rs B o).2 = none := by unfold ruO; rw [if_pos c16]
    refine r_aload_n dX10_rule_0 rfl (zRv_ref _) rfl ?_
    refine m_getiv hm 8 lfX10_274 rfl (by first | (simp only [zGS, zMS, Nat.reduceEqDiff, OfNat.ofNat_ne_ofNat, false_and, and_false, true_and, and_true, and_self, if_true, if_false, ite_true, ite_false, reduceIte, reduceCtorEq]; first | done | assumption | rfl) | assumption | exact z2_eq | exact z1_eq | (simp [zGS, zMS]; first | done | assumption) | rfl) dX10_rule_1 rfl ?_
    refine r_bipush dX10_rule_4 kb_16 rfl ?_
    refine r_icmp_geN (by omega) (by omega) (r := 31) dX10_rule_6 (by decide) rfl (fun c_6 => ?_) (fun c_6 => ?_)
    · refine r_iconst dX10_rule_31 kc_0 rfl ?_
      refine r_istore_n (ls' := [_, _, _]) dX10_rule_32 (Nat.le_of_ble_eq_true rfl) rfl rfl ?_
      exact mru_93f E mo hm w sg d T Rs B o h _ ho
    · exact absurd c_6 (by omega)
  · by_cases ci : inI o 3 = false
    · have ho : (ruO Rs B o).2 = none := by unfold ruO; rw [if_neg c16, if_pos ci]
      rw [ci] at hou
      refine r_aload_n dX10_rule_0 rfl (zRv_ref _) rfl ?_
      refine m_getiv hm 8 lfX10_274 rfl (by first | (simp only [zGS, zMS, Nat.reduceEqDiff, OfNat.ofNat_ne_ofNat, false_and, and_false, true_and, and_true, and_self, if_true, if_false, ite_true, ite_false, reduceIte, reduceCtorEq]; first | done | assumption | rfl) | assumption | exact z2_eq | exact z1_eq | (simp [zGS, zMS]; first | done | assumption) | rfl) dX10_rule_1 rfl ?_
      refine r_bipush dX10_rule_4 kb_16 rfl ?_
      refine r_icmp_geN (by omega) (by omega) (r := 31) dX10_rule_6 (by decide) rfl (fun c_6 => ?_) (fun c_6 => ?_)
      · exact absurd c_6 (by omega)
      · refine r_iload_n dX10_rule_9 rfl rfl ?_
        refine r_iconst dX10_rule_10 kc_0 rfl ?_
        refine r_iconst dX10_rule_11 kc_2 rfl ?_
        refine r_callS MX10_outside 3 [_, _, _] lsX10_140 (hou) rfl rfl (by first | exact Nat.le_of_ble_eq_true rfl | (simp [zcat_rf, Value.category]; done)) (by omega) (Nat.le_of_eq (Nat.zero_add _)) (Nat.le_of_eq (Nat.zero_add _)) dX10_rule_12 rfl (fun v_ w_ sg_ hq_ => ?_)
        obtain ⟨rfl, rfl, rfl⟩ := hq_
        refine r_if_neB (r := 31) dX10_rule_15 (by decide) rfl (fun c_15 => ?_) (fun c_15 => ?_)
        · refine r_iconst dX10_rule_31 kc_0 rfl ?_
          refine r_istore_n (ls' := [_, _, _]) dX10_rule_32 (Nat.le_of_ble_eq_true rfl) rfl rfl ?_
          exact mru_93f E mo hm w sg d T Rs B o h _ ho
        · cases c_15
    · have ci2 : inI o 3 = true := by cases h9 : inI o 3 with
        | false => exact absurd h9 ci
        | true => rfl
      rw [ci2] at hou
      obtain ⟨i, hi, rfl⟩ := inI_nat (by decide) ci2
      have hix : ixD (nI i) = i := ixD_n (by omega)
      have hro : ruO Rs B (nI i) = (match readR B i with
        | none => (2, none)
        | some R => (0, some R)) := by unfold ruO; rw [if_neg c16, if_neg ci, hix]; rfl
      refine r_aload_n dX10_rule_0 rfl (zRv_ref _) rfl ?_
      refine m_getiv hm 8 lfX10_274 rfl (by first | (simp only [zGS, zMS, Nat.reduceEqDiff, OfNat.ofNat_ne_ofNat, false_and, and_false, true_and, and_true, and_self, if_true, if_false, ite_true, ite_false, reduceIte, reduceCtorEq]; first | done | assumption | rfl) | assumption | exact z2_eq | exact z1_eq | (simp [zGS, zMS]; first | done | assumption) | rfl) dX10_rule_1 rfl ?_
      refine r_bipush dX10_rule_4 kb_16 rfl ?_
      refine r_icmp_geN (by omega) (by omega) (r := 31) dX10_rule_6 (by decide) rfl (fun c_6 => ?_) (fun c_6 => ?_)
      · exact absurd c_6 (by omega)
      · refine r_iload_n dX10_rule_9 rfl rfl ?_
        refine r_iconst dX10_rule_10 kc_0 rfl ?_
        refine r_iconst dX10_rule_11 kc_2 rfl ?_
        refine r_callS MX10_outside 3 [_, _, _] lsX10_140 (hou) rfl rfl (by first | exact Nat.le_of_ble_eq_true rfl | (simp [zcat_rf, Value.category]; done)) (by omega) (Nat.le_of_eq (Nat.zero_add _)) (Nat.le_of_eq (Nat.zero_add _)) dX10_rule_12 rfl (fun v_ w_ sg_ hq_ => ?_)
        obtain ⟨rfl, rfl, rfl⟩ := hq_
        refine r_if_neB (r := 31) dX10_rule_15 (by decide) rfl (fun c_15 => ?_) (fun c_15 => ?_)
        · cases c_15
        · refine r_aload_n dX10_rule_18 rfl (zRv_ref _) rfl ?_
          refine r_bipush dX10_rule_19 kb_16 rfl ?_
          refine r_callV MX10_readRule 1 [_] lvX10_277 (Or.inr (Or.inl ⟨hm, rfl⟩)) (p_readRule E mo hm w sg (d - 1) 16 (by omega) B (by decide) htx hwd hB) rfl rfl (by first | exact Nat.le_of_ble_eq_true rfl | (simp [zcat_rf, Value.category]; done)) (by omega) (Nat.le_of_eq (Nat.zero_add _)) (Nat.le_of_eq (Nat.zero_add _)) dX10_rule_21 rfl (fun v_ w_ sg_ hq_ => ?_)
          obtain ⟨rfl, k1, hk⟩ := hq_
          obtain ⟨sg1, hsg1⟩ : ∃ y, y = sg_ := ⟨_, rfl⟩
          subst hsg1
          have h1 := h.r k1
          rcases hk with ⟨rfl, hk⟩ | ⟨ls, ts, ds, rfl, hk, -⟩
          · have ho : (ruO Rs B (nI i)).2 = none := by rw [hro, hk i]
            refine r_if_eqB (r := 31) dX10_rule_24 (by decide) rfl (fun c_24 => ?_) (fun c_24 => ?_)
            · refine r_iconst dX10_rule_31 kc_0 rfl ?_
              refine r_istore_n (ls' := [_, _, _]) dX10_rule_32 (Nat.le_of_ble_eq_true rfl) rfl rfl ?_
              exact mru_93f E mo hm w sg1 d T Rs B (nI i) h1 _ ho
            · cases c_24
          · rw [hk i] at hro
            have j8 : mi sg1 8 = nI Rs.length := h1.2.2.1
            refine r_if_eqB (r := 31) dX10_rule_24 (by decide) rfl (fun c_24 => ?_) (fun c_24 => ?_)
            · cases c_24
            · refine r_iconst dX10_rule_27 kc_1 rfl ?_
              refine r_goto (r := 32) dX10_rule_28 (by decide) ?_
              refine r_istore_n (ls' := [_, _, _]) dX10_rule_32 (Nat.le_of_ble_eq_true rfl) rfl rfl ?_
              refine r_aload_n dX10_rule_33 rfl (zRv_ref _) rfl ?_
              refine r_aload_n dX10_rule_34 rfl (zRv_ref _) rfl ?_
              refine m_getiv hm 8 lfX10_274 rfl (by first | (simp only [zGS, zMS, Nat.reduceEqDiff, OfNat.ofNat_ne_ofNat, false_and, and_false, true_and, and_true, and_self, if_true, if_false, ite_true, ite_false, reduceIte, reduceCtorEq]; first | done | assumption | rfl) | assumption | exact z2_eq | exact z1_eq | (simp [zGS, zMS]; first | done | assumption) | rfl) dX10_rule_35 rfl ?_
              refine r_bipush dX10_rule_38 kb_16 rfl ?_
              refine r_icmp_neN (by omega) (by omega) (r := 47) dX10_rule_40 (by decide) rfl (fun c_40 => ?_) (fun c_40 => ?_)
              · refine r_iload_n dX10_rule_47 rfl rfl ?_
                refine r_if_eqN (by omega) (r := 55) dX10_rule_48 (by decide) rfl (fun c_48 => ?_) (fun c_48 => ?_)
                · cases c_48
                · refine r_iconst dX10_rule_51 kc_0 rfl ?_
                  refine r_goto (r := 56) dX10_rule_52 (by decide) ?_
                  refine m_puti hm 0 lfX10_133 rfl rfl rfl dX10_rule_56 rfl ?_
                  refine r_iload_n dX10_rule_59 rfl rfl ?_
                  refine r_if_eqN (by omega) (r := 93) dX10_rule_60 (by decide) rfl (fun c_60 => ?_) (fun c_60 => ?_)
                  · cases c_60
                  · refine r_aload_n dX10_rule_63 rfl (zRv_ref _) rfl ?_
                    refine r_bipush dX10_rule_64 kb_16 rfl ?_
                    refine r_aload_n dX10_rule_66 rfl (zRv_ref _) rfl ?_
                    refine m_getiv hm 8 lfX10_274 rfl (by first | (simp only [zGS, zMS, Nat.reduceEqDiff, OfNat.ofNat_ne_ofNat, false_and, and_false, true_and, and_true, and_self, if_true, if_false, ite_true, ite_false, reduceIte, reduceCtorEq]; first | done | assumption | rfl) | assumption | exact z2_eq | exact z1_eq | (simp [zGS, zMS]; first | done | assumption) | rfl) dX10_rule_67 rfl ?_
                    refine r_callV MX10_move 2 [_, _] lvX10_280 (Or.inr (Or.inl ⟨hm, rfl⟩)) (q_move E mo hm w (msi sg1 0 (nI 0)) (d - 1) 16 Rs.length B (by decide) hl (by omega) ((h1.code (nI 0)).2.2.2.2.2.1) ((h1.code (nI 0)).2.2.2.2.1)) rfl rfl (by first | exact Nat.le_of_ble_eq_true rfl | (simp [zcat_rf, Value.category]; done)) (by omega) (Nat.le_of_eq (Nat.zero_add _)) (Nat.le_of_eq (Nat.zero_add _)) dX10_rule_70 rfl (fun v_ w_ sg_ hq_ => ?_)
                    obtain ⟨rfl, rfl, m1, m2, m3⟩ := hq_
                    obtain ⟨sg2, hsg2⟩ : ∃ y, y = sg_ := ⟨_, rfl⟩
                    subst hsg2
                    have l8 : mi sg2 8 = nI Rs.length := by rw [m1.1, mi_msi, if_neg (by decide)]; exact j8
                    refine r_aload_n dX10_rule_73 rfl (zRv_ref _) rfl ?_
                    refine m_geta hm 11 9 lfX10_35 rfl (by decide) dX10_rule_74 rfl ?_
                    refine r_aload_n dX10_rule_77 rfl (zRv_ref _) rfl ?_
                    refine m_getiv hm 8 lfX10_274 rfl (by first | (simp only [zGS, zMS, Nat.reduceEqDiff, OfNat.ofNat_ne_ofNat, false_and, and_false, true_and, and_true, and_self, if_true, if_false, ite_true, ite_false, reduceIte, reduceCtorEq]; first | done | assumption | rfl) | assumption | exact z2_eq | exact z1_eq | (simp [zGS, zMS]; first | done | assumption) | rfl) dX10_rule_78 rfl ?_
                    refine r_iload_n dX10_rule_81 rfl rfl ?_
                    refine m_iast hm 9 _ (by decide) (by decide) rfl rfl (by show _ < 16; omega) dX10_rule_82 rfl ?_
                    refine r_aload_n dX10_rule_83 rfl (zRv_ref _) rfl ?_
                    refine r_dup dX10_rule_84 (by first | rfl | exact zcat_rf _) rfl ?_
                    refine m_getiv hm 8 lfX10_274 rfl (by first | (simp only [zGS, zMS, Nat.reduceEqDiff, OfNat.ofNat_ne_ofNat, false_and, and_false, true_and, and_true, and_self, if_true, if_false, ite_true, ite_false, reduceIte, reduceCtorEq]; first | done | assumption | rfl) | assumption | exact z2_eq | exact z1_eq | (simp [zGS, zMS]; first | done | assumption) | rfl) dX10_rule_85 rfl ?_
                    refine r_iconst dX10_rule_88 kc_1 rfl ?_
                    refine r_iaddN dX10_rule_89 rfl ?_
                    refine m_puti hm 8 lfX10_274 rfl rfl rfl dX10_rule_90 rfl ?_
                    refine r_aload_n dX10_rule_93 rfl (zRv_ref _) rfl ?_
                    refine m_geta hm 10 8 lfX10_32 rfl (by decide) dX10_rule_94 rfl ?_
                    refine r_bipush dX10_rule_97 kb_16 rfl ?_
                    refine r_iconst dX10_rule_99 kc_0 rfl ?_
                    refine m_iast hm 8 _ (by decide) (by decide) rfl rfl (by show _ < 17; omega) dX10_rule_100 rfl ?_
                    refine r_iload_n dX10_rule_101 rfl rfl ?_
                    refine r_if_eqN (by omega) (r := 114) dX10_rule_102 (by decide) rfl (fun c_102 => ?_) (fun c_102 => ?_)
                    · cases c_102
                    · refine r_aload_n dX10_rule_105 rfl (zRv_ref _) rfl ?_
                      refine m_getiv hm 8 lfX10_274 rfl (by first | (simp only [zGS, zMS, Nat.reduceEqDiff, OfNat.ofNat_ne_ofNat, false_and, and_false, true_and, and_true, and_self, if_true, if_false, ite_true, ite_false, reduceIte, reduceCtorEq]; first | done | assumption | rfl) | assumption | exact z2_eq | exact z1_eq | (simp [zGS, zMS]; first | done | assumption) | rfl) dX10_rule_106 rfl ?_
                      refine r_iconst dX10_rule_109 kc_1 rfl ?_
                      refine r_isubN (by omega) dX10_rule_110 rfl ?_
                      refine r_goto (r := 115) dX10_rule_111 (by decide) ?_
                      refine r_iret rfl dX10_rule_115 ?_
                      unfold mruQ
                      rw [hro, Nat.add_sub_cancel]
                      refine ⟨rfl, ?_, ⟨rfl, mru_add h1 m1 m2 m3 (by omega) hi (hk i)⟩, _, rfl⟩
                      show mi (msi (msa sg2 9 Rs.length (nI i)) 8 (nI (Rs.length + 1))) 0 = _
                      rw [mi_msi, if_neg (by decide)]
                      show mi sg2 0 = _
                      rw [m1.1, mi_msi, if_pos rfl]
              · exact absurd c_40 c16
