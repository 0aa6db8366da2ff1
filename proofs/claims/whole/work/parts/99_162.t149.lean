/-! ===== the model: above, ask ===== -/
theorem ab_2 (E : ZE) (mo : Nat) (hm : E.2.2.2.2 = some mo) (w : ZW) (sg : ZM) (d a e : Nat) (T : List PEl) (hT : mTree sg T) (ha : a < 24) : ∀ (f y : Nat), y < f → y < T.length → RW E MX10_above 2 [some (.ref mo), some (.int (nI a)), some (.int (nI e)), some (.int (nI y))] [] w sg d 0 0 (PN E (fun v w' sg' => v = some (.int (zb (onP T f y a))) ∧ w = w' ∧ sg = sg')) := by
  obtain ⟨hw, h1, h2⟩ := hT
  have h24 := hw.1
  intro f
  induction f with
  | zero => intro y hy; exact absurd hy (Nat.not_lt_zero y)
  | succ f ih =>
    intro y hy hy2
    obtain ⟨a1, -⟩ := h2 y hy2
    by_cases c : y = a
    · have e1 : onP T (f + 1) y a = true := by
        unfold onP
        rw [decide_eq_true c]
        rfl
      rw [e1]
      refine r_iload_n dX10_above_2 rfl rfl ?_
      refine r_iconst dX10_above_3 kc_m1 rfl ?_
      refine r_icmp_eq (r := 22) dX10_above_4 (by decide) rfl (fun c_4 => ?_) (fun c_4 => ?_)
      · exact absurd c_4 (nI_neg (by omega))
      · refine r_iload_n dX10_above_7 rfl rfl ?_
        refine r_iload_n dX10_above_8 rfl rfl ?_
        refine r_icmp_eqN (by omega) (by omega) (r := 22) dX10_above_9 (by decide) rfl (fun c_9 => ?_) (fun c_9 => ?_)
        · refine r_iload_n dX10_above_22 rfl rfl ?_
          refine r_iload_n dX10_above_23 rfl rfl ?_
          refine r_icmp_neN (by omega) (by omega) (r := 31) dX10_above_24 (by decide) rfl (fun c_24 => ?_) (fun c_24 => ?_)
          · exact absurd c c_24
          · refine r_iconst dX10_above_27 kc_1 rfl ?_
            refine r_goto (r := 32) dX10_above_28 (by decide) ?_
            refine r_zret .boolean rfl rfl dX10_above_32 ?_
            exact ⟨rfl, rfl, rfl⟩
        · exact absurd c c_9
    · have e1 : onP T (f + 1) y a = (match tP T y with
        | none => false
        | some p => onP T f p a) := by
        show (decide (y = a) || _) = _
        rw [decide_eq_false c]
        rfl
      rw [e1]
      cases hq : tP T y with
      | none =>
        rw [parI_n hq] at a1
        have tl : RW E MX10_above 2 [some (.ref mo), some (.int (nI a)), some (.int (nI e)), some (.int (-1))] [] w sg d 0 0 (PN E (fun v w' sg' => v = some (.int (zb false)) ∧ w = w' ∧ sg = sg')) := by
          refine r_iload_n dX10_above_2 rfl rfl ?_
          refine r_iconst dX10_above_3 kc_m1 rfl ?_
          refine r_icmp_eq (r := 22) dX10_above_4 (by decide) rfl (fun c_4 => ?_) (fun c_4 => ?_)
          · refine r_iload_n dX10_above_22 rfl rfl ?_
            refine r_iload_n dX10_above_23 rfl rfl ?_
            refine r_icmp_ne (r := 31) dX10_above_24 (by decide) rfl (fun c_24 => ?_) (fun c_24 => ?_)
            · refine r_iconst dX10_above_31 kc_0 rfl ?_
              refine r_zret .boolean rfl rfl dX10_above_32 ?_
              exact ⟨rfl, rfl, rfl⟩
            · exact absurd c_24.symm (nI_neg (by omega))
          · exact absurd rfl c_4
        refine r_iload_n dX10_above_2 rfl rfl ?_
        refine r_iconst dX10_above_3 kc_m1 rfl ?_
        refine r_icmp_eq (r := 22) dX10_above_4 (by decide) rfl (fun c_4 => ?_) (fun c_4 => ?_)
        · exact absurd c_4 (nI_neg (by omega))
        · refine r_iload_n dX10_above_7 rfl rfl ?_
          refine r_iload_n dX10_above_8 rfl rfl ?_
          refine r_icmp_eqN (by omega) (by omega) (r := 22) dX10_above_9 (by decide) rfl (fun c_9 => ?_) (fun c_9 => ?_)
          · exact absurd c_9 c
          · refine r_aload_n dX10_above_12 rfl (zRv_ref _) rfl ?_
            refine m_geta hm 2 1 lfX10_7 rfl (by decide) dX10_above_13 rfl ?_
            refine r_iload_n dX10_above_16 rfl rfl ?_
            refine m_ialdv hm 1 _ (by decide) (by decide) rfl rfl (by show _ < 24; omega) (by first | (simp only [zGS, zMS, Nat.reduceEqDiff, OfNat.ofNat_ne_ofNat, false_and, and_false, true_and, and_true, and_self, if_true, if_false, ite_true, ite_false, reduceIte, reduceCtorEq]; first | done | assumption | rfl) | assumption | exact z2_eq | exact z1_eq | (simp [zGS, zMS]; first | done | assumption) | rfl) dX10_above_17 rfl ?_
            refine r_istore_n (ls' := [_, _, _, _]) dX10_above_18 (Nat.le_of_ble_eq_true rfl) rfl rfl ?_
            refine r_goto (r := 2) dX10_above_19 (by decide) ?_
            exact tl
      | some q =>
        have hqy := hw.2.1 y q hq
        rw [parI_s hq] at a1
        have ih2 := ih q (by omega) (by omega)
        refine r_iload_n dX10_above_2 rfl rfl ?_
        refine r_iconst dX10_above_3 kc_m1 rfl ?_
        refine r_icmp_eq (r := 22) dX10_above_4 (by decide) rfl (fun c_4 => ?_) (fun c_4 => ?_)
        · exact absurd c_4 (nI_neg (by omega))
        · refine r_iload_n dX10_above_7 rfl rfl ?_
          refine r_iload_n dX10_above_8 rfl rfl ?_
          refine r_icmp_eqN (by omega) (by omega) (r := 22) dX10_above_9 (by decide) rfl (fun c_9 => ?_) (fun c_9 => ?_)
          · exact absurd c_9 c
          · refine r_aload_n dX10_above_12 rfl (zRv_ref _) rfl ?_
            refine m_geta hm 2 1 lfX10_7 rfl (by decide) dX10_above_13 rfl ?_
            refine r_iload_n dX10_above_16 rfl rfl ?_
            refine m_ialdv hm 1 _ (by decide) (by decide) rfl rfl (by show _ < 24; omega) (by first | (simp only [zGS, zMS, Nat.reduceEqDiff, OfNat.ofNat_ne_ofNat, false_and, and_false, true_and, and_true, and_self, if_true, if_false, ite_true, ite_false, reduceIte, reduceCtorEq]; first | done | assumption | rfl) | assumption | exact z2_eq | exact z1_eq | (simp [zGS, zMS]; first | done | assumption) | rfl) dX10_above_17 rfl ?_
            refine r_istore_n (ls' := [_, _, _, _]) dX10_above_18 (Nat.le_of_ble_eq_true rfl) rfl rfl ?_
            refine r_goto (r := 2) dX10_above_19 (by decide) ?_
            exact ih2
theorem q_above (E : ZE) (mo : Nat) (hm : E.2.2.2.2 = some mo) (w : ZW) (sg : ZM) (d a e : Nat) (T : List PEl) (hT : mTree sg T) (ha : a < 24) (he : e < T.length) : CallQ E MX10_above [.ref mo, .int (nI a), .int (nI e)] w sg d 0 0 (fun v w' sg' => v = some (.int (zb (onP T (e + 1) e a))) ∧ w = w' ∧ sg = sg') := by
  have h0 := ab_2 E mo hm w sg d a e T hT ha (e + 1) e (Nat.lt_succ_self e) he
  refine CallQ.of rfl (by simp [Value.category]) (Nat.le_of_ble_eq_true rfl) ?_
  refine r_iload_n dX10_above_0 rfl rfl ?_
  refine r_istore_n (ls' := [_, _, _, _]) dX10_above_1 (Nat.le_of_ble_eq_true rfl) rfl rfl ?_
  exact h0
theorem mdI.okRs {sg : ZM} {T : List PEl} {Rs : List PRule} {B : List Nat} (h : mdI sg T Rs B) : okRs Rs := fun R hR => by
  obtain ⟨r, hr⟩ := List.getElem?_of_mem hR
  refine ⟨?_, fun D hD h2 => ?_⟩
  · obtain ⟨q, q1, q2, q3, q4⟩ := h.2.2.2.1 r R hr
    obtain ⟨r9, h9⟩ := readR_sel q4
    exact pSels_ok h9
  · obtain ⟨i, hi⟩ := List.getElem?_of_mem hD
    exact (h.okd hr hi).2.2 h2
theorem mdI.isV {sg : ZM} {T : List PEl} {Rs : List PRule} {B : List Nat} (h : mdI sg T Rs B) : isV T (ldD T Rs) (vD T Rs) := vV_is h.1.1 (okL_ld h.okRs)
def akI (T : List PEl) (Rs : List PRule) (e p a : Nat) (c : ZM) : Prop := (∀ x, x < a → onP T (e + 1) e x = true → mg c 31 (6 * x + 1) = vD T Rs x 1 ∧ mg c 31 (6 * x + p) = vD T Rs x p) ∧ (a = e + 1 → mi c 44 = nI (calV T (ldD T Rs) (vD T Rs) e p).1)
theorem ak_54 (E : ZE) (mo : Nat) (hm : E.2.2.2.2 = some mo) (w : ZW) (sg : ZM) (d e p : Nat) (hd : 20 ≤ d) (T : List PEl) (Rs : List PRule) (B : List Nat) (hI : mdI sg T Rs B) (hS : svT sg T Rs) (he : e < T.length) (hp : p < 6) : ∀ (m a : Nat) (c : ZM), a + m = e + 1 → aB sg c → akI T Rs e p a c → RW E MX10_ask 54 [some (.ref mo), some (.int (nI e)), some (.int (nI p)), some (.int (nI a))] [] w c d 0 0 (PN E (fun v w' sg' => v = some (.int (nI 0)) ∧ w = w' ∧ aB sg sg' ∧ akI T Rs e p (e + 1) sg')) := by
  have h24 := hI.1.1.1
  have hw := hI.1.1
  have hV := hI.isV
  intro m
  induction m with
  | zero =>
    intro a c ha hb hk
    have ha2 : a = e + 1 := by omega
    subst ha2
    refine r_iload_n dX10_ask_54 rfl rfl ?_
    refine r_iload_n dX10_ask_55 rfl rfl ?_
    refine r_icmp_gtN (by omega) (by omega) (r := 91) dX10_ask_56 (by decide) rfl (fun c_56 => ?_) (fun c_56 => ?_)
    · refine r_iconst dX10_ask_91 kc_0 rfl ?_
      refine r_iret rfl dX10_ask_92 ?_
      exact ⟨rfl, rfl, hb, hk⟩
    · exact absurd c_56 (by omega)
  | succ m ih =>
    intro a c ha hb hk
    have hIc := hb.I hI
    have hSc := hb.S h24 hS
    have hab := q_above E mo hm w c (d - 1) a e T hIc.1 (by omega) he
    cases ho : onP T (e + 1) e a with
    | false =>
      rw [ho] at hab
      have hae : a ≠ e := fun q => by
        subst q
        rw [onP_self (by omega)] at ho
        cases ho
      refine r_iload_n dX10_ask_54 rfl rfl ?_
      refine r_iload_n dX10_ask_55 rfl rfl ?_
      refine r_icmp_gtN (by omega) (by omega) (r := 91) dX10_ask_56 (by decide) rfl (fun c_56 => ?_) (fun c_56 => ?_)
      · exact absurd c_56 (by omega)
      · refine r_aload_n dX10_ask_59 rfl (zRv_ref _) rfl ?_
        refine r_iload_n dX10_ask_60 rfl rfl ?_
        refine r_iload_n dX10_ask_61 rfl rfl ?_
        refine r_callV MX10_above 2 [_, _] lvX10_369 (Or.inr (Or.inl ⟨hm, rfl⟩)) (hab) rfl rfl (by first | exact Nat.le_of_ble_eq_true rfl | (simp [zcat_rf, Value.category]; done)) (by omega) (Nat.le_of_eq (Nat.zero_add _)) (Nat.le_of_eq (Nat.zero_add _)) dX10_ask_62 rfl (fun v_ w_ sg_ hq_ => ?_)
        obtain ⟨rfl, rfl, rfl⟩ := hq_
        refine r_if_eqB (r := 85) dX10_ask_65 (by decide) rfl (fun c_65 => ?_) (fun c_65 => ?_)
        · refine r_iinc (ls' := [_, _, _, _]) dX10_ask_85 (Nat.le_of_ble_eq_true rfl) rfl (zinc1 _) rfl rfl ?_
          refine r_goto (r := 54) dX10_ask_88 (by decide) ?_
          refine ih (a + 1) c (by omega) hb ⟨fun x hx hx2 => ?_, fun q => absurd (by omega) hae⟩
          rcases Nat.lt_or_ge x a with c9 | c9
          · exact hk.1 x c9 hx2
          · have hxa : x = a := by omega
            rw [hxa, ho] at hx2
            cases hx2
        · cases c_65
    | true =>
      rw [ho] at hab
      have hpar : ∀ q, tP T a = some q → mg c 31 (6 * q + 1) = vD T Rs q 1 ∧ mg c 31 (6 * q + p) = vD T Rs q p := fun q hq => by
        have hqa := hw.2.1 a q hq
        exact hk.1 q hqa (onP_path hw (Nat.lt_succ_self e) a q ho hq)
      have hv1 : vlE c T (vD T Rs) a 1 := ⟨fun q hq => ⟨(hpar q hq).1, (hpar q hq).1⟩, fun q => absurd rfl q⟩
      have hf1 := q_find E mo hm w (d - 1) a 1 (by omega) T Rs B (vD T Rs) hV.2 c hIc hSc hv1 (by omega) (by decide)
      refine r_iload_n dX10_ask_54 rfl rfl ?_
      refine r_iload_n dX10_ask_55 rfl rfl ?_
      refine r_icmp_gtN (by omega) (by omega) (r := 91) dX10_ask_56 (by decide) rfl (fun c_56 => ?_) (fun c_56 => ?_)
      · exact absurd c_56 (by omega)
      · refine r_aload_n dX10_ask_59 rfl (zRv_ref _) rfl ?_
        refine r_iload_n dX10_ask_60 rfl rfl ?_
        refine r_iload_n dX10_ask_61 rfl rfl ?_
        refine r_callV MX10_above 2 [_, _] lvX10_369 (Or.inr (Or.inl ⟨hm, rfl⟩)) (hab) rfl rfl (by first | exact Nat.le_of_ble_eq_true rfl | (simp [zcat_rf, Value.category]; done)) (by omega) (Nat.le_of_eq (Nat.zero_add _)) (Nat.le_of_eq (Nat.zero_add _)) dX10_ask_62 rfl (fun v_ w_ sg_ hq_ => ?_)
        obtain ⟨rfl, rfl, rfl⟩ := hq_
        refine r_if_eqB (r := 85) dX10_ask_65 (by decide) rfl (fun c_65 => ?_) (fun c_65 => ?_)
        · cases c_65
        · refine r_aload_n dX10_ask_68 rfl (zRv_ref _) rfl ?_
          refine r_iload_n dX10_ask_69 rfl rfl ?_
          refine r_iconst dX10_ask_70 kc_1 rfl ?_
          refine r_callV MX10_find 2 [_, _] lvX10_372 (Or.inr (Or.inl ⟨hm, rfl⟩)) (hf1) rfl rfl (by first | exact Nat.le_of_ble_eq_true rfl | (simp [zcat_rf, Value.category]; done)) (by omega) (Nat.le_of_eq (Nat.zero_add _)) (Nat.le_of_eq (Nat.zero_add _)) dX10_ask_71 rfl (fun v_ w_ sg_ hq_ => ?_)
          obtain ⟨rfl, rfl, b1, e1, e2, e3⟩ := hq_
          obtain ⟨c1, hc1⟩ : ∃ y, y = sg_ := ⟨_, rfl⟩
          subst hc1
          have e2' : mg c1 31 (6 * a + 1) = vD T Rs a 1 := by rw [e2]; exact (hV.1 a (by omega) 1 (by decide)).symm
          have old : ∀ x, x < a → ∀ j, j < 6 → mg c1 31 (6 * x + j) = mg c 31 (6 * x + j) := fun x hx j hj => e1 _ (by omega)
          have hv2 : p ≠ 1 → vlE c1 T (vD T Rs) a p := fun hp1 => ⟨fun q hq => by
            have hqa := hw.2.1 a q hq
            rw [old q hqa p hp, old q hqa 1 (by decide)]
            exact ⟨(hpar q hq).2, (hpar q hq).1⟩, fun _ => e2'⟩
          have hf2 := fun (hp1 : p ≠ 1) => q_find E mo hm w (d - 1) a p (by omega) T Rs B (vD T Rs) hV.2 c1 (b1.I hIc) (b1.S h24 hSc) (hv2 hp1) (by omega) hp
          refine r_iload_n dX10_ask_74 rfl rfl ?_
          refine r_iconst dX10_ask_75 kc_1 rfl ?_
          refine r_icmp_eqN (by omega) (by omega) (r := 85) dX10_ask_76 (by decide) rfl (fun c_76 => ?_) (fun c_76 => ?_)
          · refine r_iinc (ls' := [_, _, _, _]) dX10_ask_85 (Nat.le_of_ble_eq_true rfl) rfl (zinc1 _) rfl rfl ?_
            refine r_goto (r := 54) dX10_ask_88 (by decide) ?_
            refine ih (a + 1) c1 (by omega) (hb.tr b1) ⟨fun x hx hx2 => ?_, fun q => ?_⟩
            · rcases Nat.lt_or_ge x a with c9 | c9
              · rw [old x c9 1 (by decide), old x c9 p hp]
                exact hk.1 x c9 hx2
              · have hxa : x = a := by omega
                subst hxa
                exact ⟨e2', by rw [c_76]; exact e2'⟩
            · have hae : a = e := by omega
              rw [hae] at e3
              rw [c_76]
              exact e3
          · refine r_aload_n dX10_ask_79 rfl (zRv_ref _) rfl ?_
            refine r_iload_n dX10_ask_80 rfl rfl ?_
            refine r_iload_n dX10_ask_81 rfl rfl ?_
            refine r_callV MX10_find 2 [_, _] lvX10_372 (Or.inr (Or.inl ⟨hm, rfl⟩)) (hf2 c_76) rfl rfl (by first | exact Nat.le_of_ble_eq_true rfl | (simp [zcat_rf, Value.category]; done)) (by omega) (Nat.le_of_eq (Nat.zero_add _)) (Nat.le_of_eq (Nat.zero_add _)) dX10_ask_82 rfl (fun v_ w_ sg_ hq_ => ?_)
            obtain ⟨rfl, rfl, b2, k1, k2, k3⟩ := hq_
            refine r_iinc (ls' := [_, _, _, _]) dX10_ask_85 (Nat.le_of_ble_eq_true rfl) rfl (zinc1 _) rfl rfl ?_
            refine r_goto (r := 54) dX10_ask_88 (by decide) ?_
            refine ih (a + 1) sg_ (by omega) ((hb.tr b1).tr b2) ⟨fun x hx hx2 => ?_, fun q => ?_⟩
            · rcases Nat.lt_or_ge x a with c9 | c9
              · rw [k1 _ (by omega), k1 _ (by omega), old x c9 1 (by decide), old x c9 p hp]
                exact hk.1 x c9 hx2
              · have hxa : x = a := by omega
                subst hxa
                refine ⟨by rw [k1 _ (by omega)]; exact e2', ?_⟩
                rw [k2]
                exact (hV.1 x (by omega) p hp).symm
            · have hae : a = e := by omega
              rw [hae] at k3
              exact k3
def mkQ (T : List PEl) (Rs : List PRule) (B : List Nat) (e p : Int32) (w : ZW) : ZQ := fun v w' sg' => w = w' ∧ mdI sg' T Rs B ∧ ((inI e T.length = false ∧ mi sg' 0 = nI 1 ∧ v = some (.int (nI 1))) ∨ (inI e T.length = true ∧ inI p 6 = false ∧ mi sg' 0 = nI 2 ∧ v = some (.int (nI 2))) ∨ (inI e T.length = true ∧ inI p 6 = true ∧ mi sg' 0 = nI 0 ∧ v = some (.int (nI 0)) ∧ mg sg' 31 (6 * ixD e + ixD p) = valD T Rs e p ∧ mi sg' 44 = howD T Rs e p))
theorem q_ask (E : ZE) (mo : Nat) (hm : E.2.2.2.2 = some mo) (w : ZW) (sg : ZM) (d : Nat) (hd : 20 ≤ d) (T : List PEl) (Rs : List PRule) (B : List Nat) (e n : Int32) (h : mdI sg T Rs B) (hr : rootT T) : CallQ E MX10_ask [.ref mo, .int e, .int n] w sg d 0 0 (mkQ T Rs B e n w) := by
  have h1 : mi sg 1 = nI T.length := h.1.2.1
  have h24 := h.1.1.1
  have hou := q_outE E w sg (d - 1) T.length e (nI T.length - nI 1) (by omega) rfl
  have hou2 := q_outE E w sg (d - 1) 6 n (nI 5) (by decide) (by decide)
  refine CallQ.of rfl (by simp [Value.category]) (Nat.le_of_ble_eq_true rfl) ?_
  cases he : inI e T.length with
  | false =>
    rw [he] at hou
    refine r_aload_n dX10_ask_0 rfl (zRv_ref _) rfl ?_
    refine r_iload_n dX10_ask_1 rfl rfl ?_
    refine r_iconst dX10_ask_2 kc_0 rfl ?_
    refine r_aload_n dX10_ask_3 rfl (zRv_ref _) rfl ?_
    refine m_getiv hm 1 lfX10_137 rfl (by first | (simp only [zGS, zMS, Nat.reduceEqDiff, OfNat.ofNat_ne_ofNat, false_and, and_false, true_and, and_true, and_self, if_true, if_false, ite_true, ite_false, reduceIte, reduceCtorEq]; first | done | assumption | rfl) | assumption | exact z2_eq | exact z1_eq | (simp [zGS, zMS]; first | done | assumption) | rfl) dX10_ask_4 rfl ?_
    refine r_iconst dX10_ask_7 kc_1 rfl ?_
    refine r_isub dX10_ask_8 rfl ?_
    refine r_callS MX10_outside 3 [_, _, _] lsX10_140 (hou) rfl rfl (by first | exact Nat.le_of_ble_eq_true rfl | (simp [zcat_rf, Value.category]; done)) (by omega) (Nat.le_of_eq (Nat.zero_add _)) (Nat.le_of_eq (Nat.zero_add _)) dX10_ask_9 rfl (fun v_ w_ sg_ hq_ => ?_)
    obtain ⟨rfl, rfl, rfl⟩ := hq_
    refine r_if_eqB (r := 19) dX10_ask_12 (by decide) rfl (fun c_12 => ?_) (fun c_12 => ?_)
    · cases c_12
    · refine r_iconst dX10_ask_15 kc_1 rfl ?_
      refine r_goto (r := 33) dX10_ask_16 (by decide) ?_
      refine m_puti hm 0 lfX10_133 rfl rfl rfl dX10_ask_33 rfl ?_
      refine r_aload_n dX10_ask_36 rfl (zRv_ref _) rfl ?_
      refine m_getiv hm 0 lfX10_133 rfl (by first | (simp only [zGS, zMS, Nat.reduceEqDiff, OfNat.ofNat_ne_ofNat, false_and, and_false, true_and, and_true, and_self, if_true, if_false, ite_true, ite_false, reduceIte, reduceCtorEq]; first | done | assumption | rfl) | assumption | exact z2_eq | exact z1_eq | (simp [zGS, zMS]; first | done | assumption) | rfl) dX10_ask_37 rfl ?_
      refine r_if_leN (by omega) (r := 48) dX10_ask_40 (by decide) rfl (fun c_40 => ?_) (fun c_40 => ?_)
      · exact absurd c_40 (by decide)
      · refine r_aload_n dX10_ask_43 rfl (zRv_ref _) rfl ?_
        refine m_getiv hm 0 lfX10_133 rfl (by first | (simp only [zGS, zMS, Nat.reduceEqDiff, OfNat.ofNat_ne_ofNat, false_and, and_false, true_and, and_true, and_self, if_true, if_false, ite_true, ite_false, reduceIte, reduceCtorEq]; first | done | assumption | rfl) | assumption | exact z2_eq | exact z1_eq | (simp [zGS, zMS]; first | done | assumption) | rfl) dX10_ask_44 rfl ?_
        refine r_iret rfl dX10_ask_47 ?_
        exact ⟨rfl, h.code _, Or.inl ⟨he, by rw [mi_msi, if_pos rfl], by rw [mi_msi, if_pos rfl]⟩⟩
  | true =>
    rw [he] at hou
    cases hn : inI n 6 with
    | false =>
      rw [hn] at hou2
      refine r_aload_n dX10_ask_0 rfl (zRv_ref _) rfl ?_
      refine r_iload_n dX10_ask_1 rfl rfl ?_
      refine r_iconst dX10_ask_2 kc_0 rfl ?_
      refine r_aload_n dX10_ask_3 rfl (zRv_ref _) rfl ?_
      refine m_getiv hm 1 lfX10_137 rfl (by first | (simp only [zGS, zMS, Nat.reduceEqDiff, OfNat.ofNat_ne_ofNat, false_and, and_false, true_and, and_true, and_self, if_true, if_false, ite_true, ite_false, reduceIte, reduceCtorEq]; first | done | assumption | rfl) | assumption | exact z2_eq | exact z1_eq | (simp [zGS, zMS]; first | done | assumption) | rfl) dX10_ask_4 rfl ?_
      refine r_iconst dX10_ask_7 kc_1 rfl ?_
      refine r_isub dX10_ask_8 rfl ?_
      refine r_callS MX10_outside 3 [_, _, _] lsX10_140 (hou) rfl rfl (by first | exact Nat.le_of_ble_eq_true rfl | (simp [zcat_rf, Value.category]; done)) (by omega) (Nat.le_of_eq (Nat.zero_add _)) (Nat.le_of_eq (Nat.zero_add _)) dX10_ask_9 rfl (fun v_ w_ sg_ hq_ => ?_)
      obtain ⟨rfl, rfl, rfl⟩ := hq_
      refine r_if_eqB (r := 19) dX10_ask_12 (by decide) rfl (fun c_12 => ?_) (fun c_12 => ?_)
      · refine r_iload_n dX10_ask_19 rfl rfl ?_
        refine r_iconst dX10_ask_20 kc_0 rfl ?_
        refine r_iconst dX10_ask_21 kc_5 rfl ?_
        refine r_callS MX10_outside 3 [_, _, _] lsX10_140 (hou2) rfl rfl (by first | exact Nat.le_of_ble_eq_true rfl | (simp [zcat_rf, Value.category]; done)) (by omega) (Nat.le_of_eq (Nat.zero_add _)) (Nat.le_of_eq (Nat.zero_add _)) dX10_ask_22 rfl (fun v_ w_ sg_ hq_ => ?_)
        obtain ⟨rfl, rfl, rfl⟩ := hq_
        refine r_if_eqB (r := 32) dX10_ask_25 (by decide) rfl (fun c_25 => ?_) (fun c_25 => ?_)
        · cases c_25
        · refine r_iconst dX10_ask_28 kc_2 rfl ?_
          refine r_goto (r := 33) dX10_ask_29 (by decide) ?_
          refine m_puti hm 0 lfX10_133 rfl rfl rfl dX10_ask_33 rfl ?_
          refine r_aload_n dX10_ask_36 rfl (zRv_ref _) rfl ?_
          refine m_getiv hm 0 lfX10_133 rfl (by first | (simp only [zGS, zMS, Nat.reduceEqDiff, OfNat.ofNat_ne_ofNat, false_and, and_false, true_and, and_true, and_self, if_true, if_false, ite_true, ite_false, reduceIte, reduceCtorEq]; first | done | assumption | rfl) | assumption | exact z2_eq | exact z1_eq | (simp [zGS, zMS]; first | done | assumption) | rfl) dX10_ask_37 rfl ?_
          refine r_if_leN (by omega) (r := 48) dX10_ask_40 (by decide) rfl (fun c_40 => ?_) (fun c_40 => ?_)
          · exact absurd c_40 (by decide)
          · refine r_aload_n dX10_ask_43 rfl (zRv_ref _) rfl ?_
            refine m_getiv hm 0 lfX10_133 rfl (by first | (simp only [zGS, zMS, Nat.reduceEqDiff, OfNat.ofNat_ne_ofNat, false_and, and_false, true_and, and_true, and_self, if_true, if_false, ite_true, ite_false, reduceIte, reduceCtorEq]; first | done | assumption | rfl) | assumption | exact z2_eq | exact z1_eq | (simp [zGS, zMS]; first | done | assumption) | rfl) dX10_ask_44 rfl ?_
            refine r_iret rfl dX10_ask_47 ?_
            exact ⟨rfl, h.code _, Or.inr (Or.inl ⟨he, hn, by rw [mi_msi, if_pos rfl], by rw [mi_msi, if_pos rfl]⟩)⟩
      · cases c_12
    | true =>
      rw [hn] at hou2
      obtain ⟨i, hi, rfl⟩ := inI_nat (by omega) he
      obtain ⟨j, hj, rfl⟩ := inI_nat (by decide) hn
      have h0 := h.code (nI 0)
      have hsv := q_survey E mo hm w (msi sg 0 (nI 0)) (d - 1) (by omega) T hr Rs B h0
      refine r_aload_n dX10_ask_0 rfl (zRv_ref _) rfl ?_
      refine r_iload_n dX10_ask_1 rfl rfl ?_
      refine r_iconst dX10_ask_2 kc_0 rfl ?_
      refine r_aload_n dX10_ask_3 rfl (zRv_ref _) rfl ?_
      refine m_getiv hm 1 lfX10_137 rfl (by first | (simp only [zGS, zMS, Nat.reduceEqDiff, OfNat.ofNat_ne_ofNat, false_and, and_false, true_and, and_true, and_self, if_true, if_false, ite_true, ite_false, reduceIte, reduceCtorEq]; first | done | assumption | rfl) | assumption | exact z2_eq | exact z1_eq | (simp [zGS, zMS]; first | done | assumption) | rfl) dX10_ask_4 rfl ?_
      refine r_iconst dX10_ask_7 kc_1 rfl ?_
      refine r_isub dX10_ask_8 rfl ?_
      refine r_callS MX10_outside 3 [_, _, _] lsX10_140 (hou) rfl rfl (by first | exact Nat.le_of_ble_eq_true rfl | (simp [zcat_rf, Value.category]; done)) (by omega) (Nat.le_of_eq (Nat.zero_add _)) (Nat.le_of_eq (Nat.zero_add _)) dX10_ask_9 rfl (fun v_ w_ sg_ hq_ => ?_)
      obtain ⟨rfl, rfl, rfl⟩ := hq_
      refine r_if_eqB (r := 19) dX10_ask_12 (by decide) rfl (fun c_12 => ?_) (fun c_12 => ?_)
      · refine r_iload_n dX10_ask_19 rfl rfl ?_
        refine r_iconst dX10_ask_20 kc_0 rfl ?_
        refine r_iconst dX10_ask_21 kc_5 rfl ?_
        refine r_callS MX10_outside 3 [_, _, _] lsX10_140 (hou2) rfl rfl (by first | exact Nat.le_of_ble_eq_true rfl | (simp [zcat_rf, Value.category]; done)) (by omega) (Nat.le_of_eq (Nat.zero_add _)) (Nat.le_of_eq (Nat.zero_add _)) dX10_ask_22 rfl (fun v_ w_ sg_ hq_ => ?_)
        obtain ⟨rfl, rfl, rfl⟩ := hq_
        refine r_if_eqB (r := 32) dX10_ask_25 (by decide) rfl (fun c_25 => ?_) (fun c_25 => ?_)
        · refine r_iconst dX10_ask_32 kc_0 rfl ?_
          refine m_puti hm 0 lfX10_133 rfl rfl rfl dX10_ask_33 rfl ?_
          refine r_aload_n dX10_ask_36 rfl (zRv_ref _) rfl ?_
          refine m_getiv hm 0 lfX10_133 rfl (by first | (simp only [zGS, zMS, Nat.reduceEqDiff, OfNat.ofNat_ne_ofNat, false_and, and_false, true_and, and_true, and_self, if_true, if_false, ite_true, ite_false, reduceIte, reduceCtorEq]; first | done | assumption | rfl) | assumption | exact z2_eq | exact z1_eq | (simp [zGS, zMS]; first | done | assumption) | rfl) dX10_ask_37 rfl ?_
          refine r_if_leN (by omega) (r := 48) dX10_ask_40 (by decide) rfl (fun c_40 => ?_) (fun c_40 => ?_)
          · refine r_aload_n dX10_ask_48 rfl (zRv_ref _) rfl ?_
            refine r_callV MX10_survey 0 [] lvX10_313 (Or.inr (Or.inl ⟨hm, rfl⟩)) (hsv) rfl rfl (by first | exact Nat.le_of_ble_eq_true rfl | (simp [zcat_rf, Value.category]; done)) (by omega) (Nat.le_of_eq (Nat.zero_add _)) (Nat.le_of_eq (Nat.zero_add _)) dX10_ask_49 rfl (fun v_ w_ sg_ hq_ => ?_)
            obtain ⟨rfl, rfl, ks, hS⟩ := hq_
            obtain ⟨sg1, hsg1⟩ : ∃ y, y = sg_ := ⟨_, rfl⟩
            subst hsg1
            have hI1 := ks.I h0
            have h00 : mi sg1 0 = nI 0 := by rw [ks.1 0 (by decide), mi_msi, if_pos rfl]
            refine r_iconst dX10_ask_52 kc_0 rfl ?_
            refine r_istore_n (ls' := [_, _, _, _]) dX10_ask_53 (Nat.le_of_ble_eq_true rfl) rfl rfl ?_
            refine RW.qmono (ak_54 E mo hm w sg1 d i j hd T Rs B hI1 hS hi hj (i + 1) 0 sg1 (Nat.zero_add _) aB.rf ⟨fun x hx => absurd hx (Nat.not_lt_zero x), fun q => absurd q (by omega)⟩) ?_
            rintro v w' sg' ⟨q1, q2, q3, q4, q5⟩
            refine ⟨q2, q3.I hI1, Or.inr (Or.inr ⟨he, hn, ?_, q1, ?_, ?_⟩)⟩
            · rw [q3.1 0 (by decide) (by decide) (by decide) (by decide) (by decide)]
              exact h00
            · unfold valD
              rw [ixD_n (by omega), ixD_n (by omega)]
              exact (q4 i (by omega) (onP_self (by omega))).2
            · unfold howD
              rw [ixD_n (by omega), ixD_n (by omega)]
              exact q5 rfl
          · exact absurd c_40 (by decide)
        · cases c_25
      · cases c_12
/-! ===== the model: value, how ===== -/
def mvlQ (T : List PEl) (Rs : List PRule) (B : List Nat) (e p : Int32) (w : ZW) : ZQ := fun v w' sg' => w = w' ∧ mdI sg' T Rs B ∧ ((inI e T.length = false ∧ mi sg' 0 = nI 1 ∧ ∃ x, v = some (.float x)) ∨ (inI e T.length = true ∧ inI p 6 = false ∧ mi sg' 0 = nI 2 ∧ ∃ x, v = some (.float x)) ∨ (inI e T.length = true ∧ inI p 6 = true ∧ mi sg' 0 = nI 0 ∧ v = some (.float (valD T Rs e p))))
theorem q_value (E : ZE) (mo : Nat) (hm : E.2.2.2.2 = some mo) (w : ZW) (sg : ZM) (d : Nat) (hd : 21 ≤ d) (T : List PEl) (Rs : List PRule) (B : List Nat) (e n : Int32) (h : mdI sg T Rs B) (hr : rootT T) : CallQ E MX10_value [.ref mo, .int e, .int n] w sg d 0 0 (mvlQ T Rs B e n w) := by
  have h24 := h.1.1.1
  have hak := q_ask E mo hm w sg (d - 1) (by omega) T Rs B e n h hr
  refine CallQ.of rfl (by simp [Value.category]) (Nat.le_of_ble_eq_true rfl) ?_
  refine r_aload_n dX10_value_0 rfl (zRv_ref _) rfl ?_
  refine r_iload_n dX10_value_1 rfl rfl ?_
  refine r_iload_n dX10_value_2 rfl rfl ?_
  refine r_callV MX10_ask 2 [_, _] lvX10_375 (Or.inr (Or.inl ⟨hm, rfl⟩)) (hak) rfl rfl (by first | exact Nat.le_of_ble_eq_true rfl | (simp [zcat_rf, Value.category]; done)) (by omega) (Nat.le_of_eq (Nat.zero_add _)) (Nat.le_of_eq (Nat.zero_add _)) dX10_value_3 rfl (fun v_ w_ sg_ hq_ => ?_)
  obtain ⟨rfl, hI, hk⟩ := hq_
  obtain ⟨s1, hs1⟩ : ∃ y, y = sg_ := ⟨_, rfl⟩
  subst hs1
  rcases hk with ⟨he, k1, rfl⟩ | ⟨he, hn, k1, rfl⟩ | ⟨he, hn, k1, rfl, k2, -⟩
  · skip
    refine r_if_leN (by omega) (r := 13) dX10_value_6 (by decide) rfl (fun c_6 => ?_) (fun c_6 => ?_)
    · exact absurd c_6 (by decide)
    · refine r_fconst0 dX10_value_9 rfl ?_
      refine r_goto (r := 24) dX10_value_10 (by decide) ?_
      refine r_fret rfl dX10_value_24 ?_
      exact ⟨rfl, hI, Or.inl ⟨he, k1, _, rfl⟩⟩
  · skip
    refine r_if_leN (by omega) (r := 13) dX10_value_6 (by decide) rfl (fun c_6 => ?_) (fun c_6 => ?_)
    · exact absurd c_6 (by decide)
    · refine r_fconst0 dX10_value_9 rfl ?_
      refine r_goto (r := 24) dX10_value_10 (by decide) ?_
      refine r_fret rfl dX10_value_24 ?_
      exact ⟨rfl, hI, Or.inr (Or.inl ⟨he, hn, k1, _, rfl⟩)⟩
  · obtain ⟨i, hi, rfl⟩ := inI_nat (by omega) he
    obtain ⟨j, hj, rfl⟩ := inI_nat (by decide) hn
    rw [ixD_n (by omega), ixD_n (by omega)] at k2
    refine r_if_leN (by omega) (r := 13) dX10_value_6 (by decide) rfl (fun c_6 => ?_) (fun c_6 => ?_)
    · refine r_aload_n dX10_value_13 rfl (zRv_ref _) rfl ?_
      refine m_geta hm 43 31 lfX10_103 rfl (by decide) dX10_value_14 rfl ?_
      refine r_bipush dX10_value_17 kb_6 rfl ?_
      refine r_iload_n dX10_value_19 rfl rfl ?_
      refine r_imulN dX10_value_20 rfl ?_
      refine r_iload_n dX10_value_21 rfl rfl ?_
      refine r_iaddN dX10_value_22 rfl ?_
      refine m_faldv hm 31 _ (by decide) (by decide) rfl rfl (by show _ < 144; omega) (by first | (simp only [zGS, zMS, Nat.reduceEqDiff, OfNat.ofNat_ne_ofNat, false_and, and_false, true_and, and_true, and_self, if_true, if_false, ite_true, ite_false, reduceIte, reduceCtorEq]; first | done | assumption | rfl) | assumption | exact z2_eq | exact z1_eq | (simp [zGS, zMS]; first | done | assumption) | rfl) dX10_value_23 rfl ?_
      refine r_fret rfl dX10_value_24 ?_
      exact ⟨rfl, hI, Or.inr (Or.inr ⟨he, hn, k1, rfl⟩)⟩
    · exact absurd c_6 (by decide)
def mhwQ (T : List PEl) (Rs : List PRule) (B : List Nat) (e p : Int32) (w : ZW) : ZQ := fun v w' sg' => w = w' ∧ mdI sg' T Rs B ∧ ((inI e T.length = false ∧ mi sg' 0 = nI 1 ∧ ∃ x, v = some (.int x)) ∨ (inI e T.length = true ∧ inI p 6 = false ∧ mi sg' 0 = nI 2 ∧ ∃ x, v = some (.int x)) ∨ (inI e T.length = true ∧ inI p 6 = true ∧ mi sg' 0 = nI 0 ∧ v = some (.int (howD T Rs e p))))
theorem q_how (E : ZE) (mo : Nat) (hm : E.2.2.2.2 = some mo) (w : ZW) (sg : ZM) (d : Nat) (hd : 21 ≤ d) (T : List PEl) (Rs : List PRule) (B : List Nat) (e n : Int32) (h : mdI sg T Rs B) (hr : rootT T) : CallQ E MX10_how [.ref mo, .int e, .int n] w sg d 0 0 (mhwQ T Rs B e n w) := by
  have hak := q_ask E mo hm w sg (d - 1) (by omega) T Rs B e n h hr
  refine CallQ.of rfl (by simp [Value.category]) (Nat.le_of_ble_eq_true rfl) ?_
  refine r_aload_n dX10_how_0 rfl (zRv_ref _) rfl ?_
  refine r_iload_n dX10_how_1 rfl rfl ?_
  refine r_iload_n dX10_how_2 rfl rfl ?_
  refine r_callV MX10_ask 2 [_, _] lvX10_375 (Or.inr (Or.inl ⟨hm, rfl⟩)) (hak) rfl rfl (by first | exact Nat.le_of_ble_eq_true rfl | (simp [zcat_rf, Value.category]; done)) (by omega) (Nat.le_of_eq (Nat.zero_add _)) (Nat.le_of_eq (Nat.zero_add _)) dX10_how_3 rfl (fun v_ w_ sg_ hq_ => ?_)
  obtain ⟨rfl, hI, hk⟩ := hq_
  obtain ⟨s1, hs1⟩ : ∃ y, y = sg_ := ⟨_, rfl⟩
  subst hs1
  rcases hk with ⟨he, k1, rfl⟩ | ⟨he, hn, k1, rfl⟩ | ⟨he, hn, k1, rfl, -, k2⟩
  · skip
    refine r_if_leN (by omega) (r := 13) dX10_how_6 (by decide) rfl (fun c_6 => ?_) (fun c_6 => ?_)
    · exact absurd c_6 (by decide)
    · refine r_iconst dX10_how_9 kc_0 rfl ?_
      refine r_goto (r := 17) dX10_how_10 (by decide) ?_
      refine r_iret rfl dX10_how_17 ?_
      exact ⟨rfl, hI, Or.inl ⟨he, k1, _, rfl⟩⟩
  · skip
    refine r_if_leN (by omega) (r := 13) dX10_how_6 (by decide) rfl (fun c_6 => ?_) (fun c_6 => ?_)
    · exact absurd c_6 (by decide)
    · refine r_iconst dX10_how_9 kc_0 rfl ?_
      refine r_goto (r := 17) dX10_how_10 (by decide) ?_
      refine r_iret rfl dX10_how_17 ?_
      exact ⟨rfl, hI, Or.inr (Or.inl ⟨he, hn, k1, _, rfl⟩)⟩
  · skip
    refine r_if_leN (by omega) (r := 13) dX10_how_6 (by decide) rfl (fun c_6 => ?_) (fun c_6 => ?_)
    · refine r_aload_n dX10_how_13 rfl (zRv_ref _) rfl ?_
      refine m_getiv hm 44 lfX10_363 rfl (by first | (simp only [zGS, zMS, Nat.reduceEqDiff, OfNat.ofNat_ne_ofNat, false_and, and_false, true_and, and_true, and_self, if_true, if_false, ite_true, ite_false, reduceIte, reduceCtorEq]; first | done | assumption | rfl) | assumption | exact z2_eq | exact z1_eq | (simp [zGS, zMS]; first | done | assumption) | rfl) dX10_how_14 rfl ?_
      refine r_iret rfl dX10_how_17 ?_
      exact ⟨rfl, hI, Or.inr (Or.inr ⟨he, hn, k1, rfl⟩)⟩
    · exact absurd c_6 (by decide)
