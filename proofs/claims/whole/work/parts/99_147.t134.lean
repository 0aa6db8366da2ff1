/-! ===== the model: weight ===== -/
theorem readR_sel {X : List Nat} {og : Nat} {R : PRule} (h : readR X og = some R) : ∃ r, pSels X = some (R.1, r) := by
  unfold readR at h
  cases h1 : pSels X with
  | none => rw [h1] at h; cases h
  | some q =>
    obtain ⟨ls, r⟩ := q
    rw [h1] at h
    simp only [] at h
    cases h2 : pDecs (pDecl og) r with
    | none => rw [h2] at h; cases h
    | some ds =>
      rw [h2] at h
      cases h
      exact ⟨r, rfl⟩
/-- rule k read: its tables -/
def rdK (sg : ZM) (R : PRule) (og : Nat) : Prop := ∃ ts ds, R.2 = ds.map (mkD og) ∧ ssR ts R.1 ∧ ssG sg 0 0 0 ts ∧ (ts.length ≤ 3 ∧ (rwsO (flS ts)).length ≤ 125 ∧ (flS ts).length ≤ 126) ∧ dtG sg ds ∧ (flD ds).length ≤ 120 ∧ (∀ x ∈ ds, x.1 < 10 ∧ x.2.1 < 3) ∧ ds.length ≤ 4 ∧ okSels R.1 ∧ jnS R.1
theorem q_readK (E : ZE) (mo : Nat) (hm : E.2.2.2.2 = some mo) (w : ZW) (sg : ZM) (d k : Nat) (hd : 15 ≤ d) (T : List PEl) (Rs : List PRule) (B : List Nat) (R : PRule) (hR : Rs[k]? = some R) (h : mdI sg T Rs B) : CallQ E MX10_readRule [.ref mo, .int (nI k)] w sg d 0 0 (fun v w' sg' => v = some (.int (zb true)) ∧ w = w' ∧ rKp sg sg' ∧ ∃ og, og < 3 ∧ ma sg' 9 k = nI og ∧ rdK sg' R og) := by
  have hk := (List.getElem?_eq_some_iff.mp hR).1
  have hl : Rs.length ≤ 16 := h.2.1
  obtain ⟨q, q1, q2, q3, q4⟩ := h.2.2.2.1 k R hR
  refine (p_readRule E mo hm w sg d k hd q.1 (by omega) h.2.2.2.2.2.1 h.2.2.2.2.2.2 q1).mono ?_
  rintro v w' sg' ⟨g1, g2, g3⟩
  rcases g3 with ⟨-, g4⟩ | ⟨ls, ts, ds, g4, g5, g6, g7, g8, g9, g10, g11, g12⟩
  · rw [g4 q.2] at q4
    cases q4
  · have e := g5 q.2
    rw [q4] at e
    cases e
    obtain ⟨r, hr⟩ := readR_sel q4
    exact ⟨g4, g1, g2, q.2, q3, (g2.2.1 9 k (by decide)).trans q2, ts, ds, rfl, g6, g7, g8, g9, g10, g11, g12, pSels_ok hr, pSels_jn hr⟩
def mwtQ (T : List PEl) (Rs : List PRule) (B : List Nat) (k e : Int32) (w : ZW) : ZQ := fun v w' sg' => w = w' ∧ mdI sg' T Rs B ∧ ((inI k Rs.length = true ∧ inI e T.length = true ∧ mi sg' 0 = nI 0 ∧ v = some (.int (wtD T Rs k e))) ∨ (¬ (inI k Rs.length = true ∧ inI e T.length = true) ∧ mi sg' 0 = nI 1 ∧ ∃ x, v = some (.int x)))
theorem q_weight (E : ZE) (mo : Nat) (hm : E.2.2.2.2 = some mo) (w : ZW) (sg : ZM) (d : Nat) (hd : 16 ≤ d) (T : List PEl) (Rs : List PRule) (B : List Nat) (k e : Int32) (h : mdI sg T Rs B) (hr : rootT T) : CallQ E MX10_weight [.ref mo, .int k, .int e] w sg d 0 0 (mwtQ T Rs B k e w) := by
  have h8 : mi sg 8 = nI Rs.length := h.2.2.1
  have hl : Rs.length ≤ 16 := h.2.1
  have h1 : mi sg 1 = nI T.length := h.1.2.1
  have h24 := h.1.1.1
  have hou := q_outE E w sg (d - 1) Rs.length k (nI Rs.length - nI 1) (by omega) rfl
  have hou2 := q_outE E w sg (d - 1) T.length e (nI T.length - nI 1) (by omega) rfl
  refine CallQ.of rfl (by simp [Value.category]) (Nat.le_of_ble_eq_true rfl) ?_
  cases hk : inI k Rs.length with
  | false =>
    rw [hk] at hou
    refine r_iload_n dX10_weight_0 rfl rfl ?_
    refine r_iconst dX10_weight_1 kc_0 rfl ?_
    refine r_aload_n dX10_weight_2 rfl (zRv_ref _) rfl ?_
    refine m_getiv hm 8 lfX10_274 rfl (by first | (simp only [zGS, zMS, Nat.reduceEqDiff, OfNat.ofNat_ne_ofNat, false_and, and_false, true_and, and_true, and_self, if_true, if_false, ite_true, ite_false, reduceIte, reduceCtorEq]; first | done | assumption | rfl) | assumption | exact z2_eq | exact z1_eq | (simp [zGS, zMS]; first | done | assumption) | rfl) dX10_weight_3 rfl ?_
    refine r_iconst dX10_weight_6 kc_1 rfl ?_
    refine r_isub dX10_weight_7 rfl ?_
    refine r_callS MX10_outside 3 [_, _, _] lsX10_140 (hou) rfl rfl (by first | exact Nat.le_of_ble_eq_true rfl | (simp [zcat_rf, Value.category]; done)) (by omega) (Nat.le_of_eq (Nat.zero_add _)) (Nat.le_of_eq (Nat.zero_add _)) dX10_weight_8 rfl (fun v_ w_ sg_ hq_ => ?_)
    obtain ⟨rfl, rfl, rfl⟩ := hq_
    refine r_if_neB (r := 28) dX10_weight_11 (by decide) rfl (fun c_11 => ?_) (fun c_11 => ?_)
    · refine r_aload_n dX10_weight_28 rfl (zRv_ref _) rfl ?_
      refine r_iconst dX10_weight_29 kc_1 rfl ?_
      refine r_callV MX10_refuse 1 [_] lvX10_307 (Or.inr (Or.inl ⟨hm, rfl⟩)) (q_refuse E mo hm w sg (d - 1) (nI 1)) rfl rfl (by first | exact Nat.le_of_ble_eq_true rfl | (simp [zcat_rf, Value.category]; done)) (by omega) (Nat.le_of_eq (Nat.zero_add _)) (Nat.le_of_eq (Nat.zero_add _)) dX10_weight_30 rfl (fun v_ w_ sg_ hq_ => ?_)
      obtain ⟨rfl, rfl, rfl⟩ := hq_
      refine r_iret rfl dX10_weight_33 ?_
      exact ⟨rfl, h.code _, Or.inr ⟨fun q => (by rw [hk] at q; cases q.1), by rw [mi_msi, if_pos rfl], _, rfl⟩⟩
    · cases c_11
  | true =>
    rw [hk] at hou
    cases he : inI e T.length with
    | false =>
      rw [he] at hou2
      refine r_iload_n dX10_weight_0 rfl rfl ?_
      refine r_iconst dX10_weight_1 kc_0 rfl ?_
      refine r_aload_n dX10_weight_2 rfl (zRv_ref _) rfl ?_
      refine m_getiv hm 8 lfX10_274 rfl (by first | (simp only [zGS, zMS, Nat.reduceEqDiff, OfNat.ofNat_ne_ofNat, false_and, and_false, true_and, and_true, and_self, if_true, if_false, ite_true, ite_false, reduceIte, reduceCtorEq]; first | done | assumption | rfl) | assumption | exact z2_eq | exact z1_eq | (simp [zGS, zMS]; first | done | assumption) | rfl) dX10_weight_3 rfl ?_
      refine r_iconst dX10_weight_6 kc_1 rfl ?_
      refine r_isub dX10_weight_7 rfl ?_
      refine r_callS MX10_outside 3 [_, _, _] lsX10_140 (hou) rfl rfl (by first | exact Nat.le_of_ble_eq_true rfl | (simp [zcat_rf, Value.category]; done)) (by omega) (Nat.le_of_eq (Nat.zero_add _)) (Nat.le_of_eq (Nat.zero_add _)) dX10_weight_8 rfl (fun v_ w_ sg_ hq_ => ?_)
      obtain ⟨rfl, rfl, rfl⟩ := hq_
      refine r_if_neB (r := 28) dX10_weight_11 (by decide) rfl (fun c_11 => ?_) (fun c_11 => ?_)
      · cases c_11
      · refine r_iload_n dX10_weight_14 rfl rfl ?_
        refine r_iconst dX10_weight_15 kc_0 rfl ?_
        refine r_aload_n dX10_weight_16 rfl (zRv_ref _) rfl ?_
        refine m_getiv hm 1 lfX10_137 rfl (by first | (simp only [zGS, zMS, Nat.reduceEqDiff, OfNat.ofNat_ne_ofNat, false_and, and_false, true_and, and_true, and_self, if_true, if_false, ite_true, ite_false, reduceIte, reduceCtorEq]; first | done | assumption | rfl) | assumption | exact z2_eq | exact z1_eq | (simp [zGS, zMS]; first | done | assumption) | rfl) dX10_weight_17 rfl ?_
        refine r_iconst dX10_weight_20 kc_1 rfl ?_
        refine r_isub dX10_weight_21 rfl ?_
        refine r_callS MX10_outside 3 [_, _, _] lsX10_140 (hou2) rfl rfl (by first | exact Nat.le_of_ble_eq_true rfl | (simp [zcat_rf, Value.category]; done)) (by omega) (Nat.le_of_eq (Nat.zero_add _)) (Nat.le_of_eq (Nat.zero_add _)) dX10_weight_22 rfl (fun v_ w_ sg_ hq_ => ?_)
        obtain ⟨rfl, rfl, rfl⟩ := hq_
        refine r_if_eqB (r := 34) dX10_weight_25 (by decide) rfl (fun c_25 => ?_) (fun c_25 => ?_)
        · cases c_25
        · refine r_aload_n dX10_weight_28 rfl (zRv_ref _) rfl ?_
          refine r_iconst dX10_weight_29 kc_1 rfl ?_
          refine r_callV MX10_refuse 1 [_] lvX10_307 (Or.inr (Or.inl ⟨hm, rfl⟩)) (q_refuse E mo hm w sg (d - 1) (nI 1)) rfl rfl (by first | exact Nat.le_of_ble_eq_true rfl | (simp [zcat_rf, Value.category]; done)) (by omega) (Nat.le_of_eq (Nat.zero_add _)) (Nat.le_of_eq (Nat.zero_add _)) dX10_weight_30 rfl (fun v_ w_ sg_ hq_ => ?_)
          obtain ⟨rfl, rfl, rfl⟩ := hq_
          refine r_iret rfl dX10_weight_33 ?_
          exact ⟨rfl, h.code _, Or.inr ⟨fun q => (by rw [he] at q; cases q.2), by rw [mi_msi, if_pos rfl], _, rfl⟩⟩
    | true =>
      rw [he] at hou2
      obtain ⟨i, hi, rfl⟩ := inI_nat (by omega) hk
      obtain ⟨j, hj, rfl⟩ := inI_nat (by omega) he
      obtain ⟨R, hR⟩ : ∃ R, Rs[i]? = some R := ⟨Rs[i], List.getElem?_eq_getElem hi⟩
      have hrl : rlD Rs (ixD (nI i)) = R := by unfold rlD; rw [ixD_n (by omega), List.getD_eq_getElem?_getD, hR]; rfl
      have h0 := h.code (nI 0)
      have hrd := q_readK E mo hm w (msi sg 0 (nI 0)) (d - 1) i (by omega) T Rs B R hR h0
      refine r_iload_n dX10_weight_0 rfl rfl ?_
      refine r_iconst dX10_weight_1 kc_0 rfl ?_
      refine r_aload_n dX10_weight_2 rfl (zRv_ref _) rfl ?_
      refine m_getiv hm 8 lfX10_274 rfl (by first | (simp only [zGS, zMS, Nat.reduceEqDiff, OfNat.ofNat_ne_ofNat, false_and, and_false, true_and, and_true, and_self, if_true, if_false, ite_true, ite_false, reduceIte, reduceCtorEq]; first | done | assumption | rfl) | assumption | exact z2_eq | exact z1_eq | (simp [zGS, zMS]; first | done | assumption) | rfl) dX10_weight_3 rfl ?_
      refine r_iconst dX10_weight_6 kc_1 rfl ?_
      refine r_isub dX10_weight_7 rfl ?_
      refine r_callS MX10_outside 3 [_, _, _] lsX10_140 (hou) rfl rfl (by first | exact Nat.le_of_ble_eq_true rfl | (simp [zcat_rf, Value.category]; done)) (by omega) (Nat.le_of_eq (Nat.zero_add _)) (Nat.le_of_eq (Nat.zero_add _)) dX10_weight_8 rfl (fun v_ w_ sg_ hq_ => ?_)
      obtain ⟨rfl, rfl, rfl⟩ := hq_
      refine r_if_neB (r := 28) dX10_weight_11 (by decide) rfl (fun c_11 => ?_) (fun c_11 => ?_)
      · cases c_11
      · refine r_iload_n dX10_weight_14 rfl rfl ?_
        refine r_iconst dX10_weight_15 kc_0 rfl ?_
        refine r_aload_n dX10_weight_16 rfl (zRv_ref _) rfl ?_
        refine m_getiv hm 1 lfX10_137 rfl (by first | (simp only [zGS, zMS, Nat.reduceEqDiff, OfNat.ofNat_ne_ofNat, false_and, and_false, true_and, and_true, and_self, if_true, if_false, ite_true, ite_false, reduceIte, reduceCtorEq]; first | done | assumption | rfl) | assumption | exact z2_eq | exact z1_eq | (simp [zGS, zMS]; first | done | assumption) | rfl) dX10_weight_17 rfl ?_
        refine r_iconst dX10_weight_20 kc_1 rfl ?_
        refine r_isub dX10_weight_21 rfl ?_
        refine r_callS MX10_outside 3 [_, _, _] lsX10_140 (hou2) rfl rfl (by first | exact Nat.le_of_ble_eq_true rfl | (simp [zcat_rf, Value.category]; done)) (by omega) (Nat.le_of_eq (Nat.zero_add _)) (Nat.le_of_eq (Nat.zero_add _)) dX10_weight_22 rfl (fun v_ w_ sg_ hq_ => ?_)
        obtain ⟨rfl, rfl, rfl⟩ := hq_
        refine r_if_eqB (r := 34) dX10_weight_25 (by decide) rfl (fun c_25 => ?_) (fun c_25 => ?_)
        · refine r_aload_n dX10_weight_34 rfl (zRv_ref _) rfl ?_
          refine r_iconst dX10_weight_35 kc_0 rfl ?_
          refine m_puti hm 0 lfX10_133 rfl rfl rfl dX10_weight_36 rfl ?_
          refine r_aload_n dX10_weight_39 rfl (zRv_ref _) rfl ?_
          refine r_iload_n dX10_weight_40 rfl rfl ?_
          refine r_callV MX10_readRule 1 [_] lvX10_277 (Or.inr (Or.inl ⟨hm, rfl⟩)) (hrd) rfl rfl (by first | exact Nat.le_of_ble_eq_true rfl | (simp [zcat_rf, Value.category]; done)) (by omega) (Nat.le_of_eq (Nat.zero_add _)) (Nat.le_of_eq (Nat.zero_add _)) dX10_weight_41 rfl (fun v_ w_ sg_ hq_ => ?_)
          obtain ⟨rfl, rfl, kr, og, hog, -, ts, ds, z1, z2, z3, z4, z5, z6, z7, z8, z9, z10⟩ := hq_
          obtain ⟨sg1, hsg1⟩ : ∃ y, y = sg_ := ⟨_, rfl⟩
          subst hsg1
          have hT1 := kr.T h0.1
          refine r_pop dX10_weight_44 (by first | rfl | exact zcat_rf _) rfl ?_
          refine r_aload_n dX10_weight_45 rfl (zRv_ref _) rfl ?_
          refine r_iload_n dX10_weight_46 rfl rfl ?_
          refine r_callV MX10_heaviest 1 [_] lvX10_304 (Or.inr (Or.inl ⟨hm, rfl⟩)) (q_heaviest E mo hm w sg1 (d - 1) j (by omega) T ts R.1 ⟨hT1, hr, z3, z4⟩ hj z2 z9 z10) rfl rfl (by first | exact Nat.le_of_ble_eq_true rfl | (simp [zcat_rf, Value.category]; done)) (by omega) (Nat.le_of_eq (Nat.zero_add _)) (Nat.le_of_eq (Nat.zero_add _)) dX10_weight_47 rfl (fun v_ w_ sg_ hq_ => ?_)
          obtain ⟨rfl, rfl, rfl⟩ := hq_
          refine r_iret rfl dX10_weight_50 ?_
          refine ⟨rfl, h0.r kr, Or.inl ⟨hk, he, ?_, ?_⟩⟩
          · rw [kr.1 0 (by decide), mi_msi, if_pos rfl]
          · unfold wtD
            rw [hrl, ixD_n (by omega)]
        · cases c_25
/-! ===== the model: matches ===== -/
theorem hvS_le : ∀ (l : List PRow), hvS l ≤ 10000 * l.length
  | [] => Nat.le_refl _
  | q :: l => by
    have h1 := hvS_le l
    have h2 : hvyN q.2.1 ≤ 10000 := by
      unfold hvyN
      split
      · decide
      · split
        · decide
        · split <;> decide
    show hvyN q.2.1 + hvS l ≤ 10000 * (l.length + 1)
    omega
theorem rwsF_le : ∀ {ts : List (List PCr)} {cs : List PCr}, cs ∈ ts → (rwsO cs).length ≤ (rwsO (flS ts)).length
  | [], cs, h => by cases h
  | t :: ts, cs, h => by
    have e : (rwsO (flS (t :: ts))).length = (rwsO t).length + (rwsO (flS ts)).length := by
      show (rwsO (t ++ flS ts)).length = _
      rw [rwsO_app, List.length_append]
    rcases List.mem_cons.mp h with rfl | q
    · omega
    · have := rwsF_le q
      omega
theorem ssR_w {T : List PEl} (hw : wfT T) {e : Nat} (he : e < T.length) : ∀ {ts : List (List PCr)} {ls : List (List (Nat × PComp))}, ssR ts ls → okSels ls → (∀ cs ∈ ts, (rwsO cs).length ≤ 125) → ∀ l ∈ ls, wSel l < 2147483648
  | [], [], _, _, _, l, hl => by cases hl
  | t :: ts, l0 :: ls, ⟨⟨h1, _⟩, h2⟩, ho, hb, l, hl => by
    rcases List.mem_cons.mp hl with rfl | q
    · have := (selR_w hw he h1 (ho l List.mem_cons_self)).1
      have h9 := hvS_le (rwsO t)
      have := hb t List.mem_cons_self
      omega
    · exact ssR_w hw he h2 (fun z hz => ho z (List.mem_cons_of_mem _ hz)) (fun z hz => hb z (List.mem_cons_of_mem _ hz)) l q
  | [], _ :: _, h, _, _, _, _ => absurd h id
  | _ :: _, [], h, _, _, _, _ => absurd h id
/-- -1, or a number -/
def bOk (b : Int32) : Prop := b = -1 ∨ ∃ n, n < 2147483648 ∧ b = nI n
theorem hvI_m1 {T : List PEl} {e : Nat} : ∀ {ls : List (List (Nat × PComp))} {b : Int32}, bOk b → (∀ l ∈ ls, wSel l < 2147483648) → bOk (hvI T e ls b) ∧ (hvI T e ls b = -1 ↔ b = -1 ∧ ∀ l ∈ ls, (selSet T l).testBit e = false)
  | [], b, hb, _ => ⟨hb, ⟨fun h => ⟨h, fun l hl => (by cases hl)⟩, fun h => h.1⟩⟩
  | l :: ls, b, hb, hw => by
    have hwl := hw l List.mem_cons_self
    have hw2 : ∀ l ∈ ls, wSel l < 2147483648 := fun z hz => hw z (List.mem_cons_of_mem _ hz)
    have key : ∀ x : Int32, bOk x → ((x = -1 ↔ b = -1 ∧ (selSet T l).testBit e = false)) → bOk (hvI T e ls x) ∧ (hvI T e ls x = -1 ↔ b = -1 ∧ ∀ z ∈ l :: ls, (selSet T z).testBit e = false) := fun x hx hxx => by
      obtain ⟨i1, i2⟩ := hvI_m1 (T := T) (e := e) (ls := ls) hx hw2
      refine ⟨i1, i2.trans ?_⟩
      rw [hxx]
      constructor
      · intro ⟨⟨z1, z2⟩, z3⟩
        refine ⟨z1, fun z hz => ?_⟩
        rcases List.mem_cons.mp hz with rfl | q
        · exact z2
        · exact z3 z q
      · intro ⟨z1, z2⟩
        exact ⟨⟨z1, z2 l List.mem_cons_self⟩, fun z hz => z2 z (List.mem_cons_of_mem _ hz)⟩
    show bOk (hvI T e ls (if (selSet T l).testBit e = true then (if b < nI (wSel l) then nI (wSel l) else b) else b)) ∧ (hvI T e ls (if (selSet T l).testBit e = true then (if b < nI (wSel l) then nI (wSel l) else b) else b) = -1 ↔ _)
    refine key _ ?_ ?_
    · split
      · split
        · exact Or.inr ⟨_, hwl, rfl⟩
        · exact hb
      · exact hb
    · cases hh : (selSet T l).testBit e with
      | false => exact ⟨fun q => ⟨q, rfl⟩, fun q => q.1⟩
      | true =>
        rw [if_pos rfl]
        refine ⟨fun q => ?_, fun q => (by cases q.2)⟩
        split at q
        · exact absurd q (nI_neg hwl)
        · rename_i hn
          subst q
          refine absurd ?_ hn
          rw [Int32.lt_iff_toInt_lt, nI_toInt hwl]
          have h9 : (-1 : Int32).toInt = -1 := by decide
          omega
theorem msS_bit {T : List PEl} {i : Nat} : ∀ {ls : List (List (Nat × PComp))} {a : Nat}, (msS T ls a).testBit i = true ↔ a.testBit i = true ∨ ∃ l ∈ ls, (selSet T l).testBit i = true
  | [], a => ⟨fun h => Or.inl h, fun h => h.elim id (fun ⟨l, hl, _⟩ => by cases hl)⟩
  | l :: ls, a => by
    show (msS T ls (a ||| selSet T l)).testBit i = true ↔ _
    rw [msS_bit, Nat.testBit_or, Bool.or_eq_true]
    constructor
    · rintro ((h | h) | ⟨z, h1, h2⟩)
      · exact Or.inl h
      · exact Or.inr ⟨l, List.mem_cons_self, h⟩
      · exact Or.inr ⟨z, List.mem_cons_of_mem _ h1, h2⟩
    · rintro (h | ⟨z, h1, h2⟩)
      · exact Or.inl (Or.inl h)
      · rcases List.mem_cons.mp h1 with rfl | q
        · exact Or.inl (Or.inr h2)
        · exact Or.inr ⟨z, q, h2⟩
theorem mt_eq {T : List PEl} {i : Nat} {ls : List (List (Nat × PComp))} (hw : ∀ l ∈ ls, wSel l < 2147483648) (hi : i < 2147483648) : mtD T ls (nI i) = !decide (hvI T i ls (-1) = -1) := by
  have h1 := (hvI_m1 (T := T) (e := i) (ls := ls) (b := -1) (Or.inl rfl) hw).2
  unfold mtD
  rw [ixD_n hi, Bool.eq_iff_iff, msS_bit, Bool.not_eq_true', decide_eq_false_iff_not, h1]
  constructor
  · rintro (h | ⟨l, h2, h3⟩) ⟨-, h4⟩
    · rw [Nat.zero_testBit] at h; cases h
    · rw [h4 l h2] at h3; cases h3
  · intro h
    refine Or.inr ?_
    refine Classical.byContradiction (fun q => h ⟨rfl, fun l hl => ?_⟩)
    cases hh : (selSet T l).testBit i with
    | false => rfl
    | true => exact absurd ⟨l, hl, hh⟩ q
theorem ssG.fr {a b : ZM} {ts : List (List PCr)} (h : ssG a 0 0 0 ts) (e1 : mi b 16 = mi a 16 ∧ mi b 18 = mi a 18 ∧ mi b 21 = mi a 21) (e : ∀ j i, 10 ≤ j → j ≤ 16 → ma b j i = ma a j i) : ssG b 0 0 0 ts := by
  obtain ⟨⟨h1, h2, h3⟩, h4, h5, h6, h7⟩ := h
  refine ⟨⟨e1.1.trans h1, e1.2.1.trans h2, e1.2.2.trans h3⟩, fun i cs q => (e _ _ (by decide) (by decide)).trans (h4 i cs q), fun i x q => (e _ _ (by decide) (by decide)).trans (h5 i x q), fun q i hi => (e _ _ (by decide) (by decide)).trans (h6 q i hi), fun i q hq => ?_⟩
  obtain ⟨z1, z2, z3, z4⟩ := h7 i q hq
  exact ⟨(e _ _ (by decide) (by decide)).trans z1, (e _ _ (by decide) (by decide)).trans z2, (e _ _ (by decide) (by decide)).trans z3, (e _ _ (by decide) (by decide)).trans z4⟩
def mmtQ (T : List PEl) (Rs : List PRule) (B : List Nat) (e : Int32) (w : ZW) : ZQ := fun v w' sg' => w = w' ∧ mdI sg' T Rs [] ∧ (∃ b, v = some (.int (zb b))) ∧ ((inI e T.length = false ∧ mi sg' 0 = nI 1) ∨ (inI e T.length = true ∧ readM B = none ∧ mi sg' 0 = nI 2) ∨ (inI e T.length = true ∧ ∃ ls, readM B = some ls ∧ mi sg' 0 = nI 0 ∧ v = some (.int (zb (mtD T ls e)))))
theorem mm_st {a : ZM} {T : List PEl} {Rs : List PRule} {B : List Nat} (h : mdI a T Rs B) (v : Int32) (c : Int32) : mdI (msi (msa (msi a 15 v) 8 16 (nI 0)) 0 c) T Rs [] := by
  have h1 : mdI (msi a 15 v) T Rs B := h.r ⟨fun j q => by rw [mi_msi, if_neg (by omega)], fun _ _ _ => rfl, fun _ _ _ => rfl⟩
  have h2 : mdI (msa (msi a 15 v) 8 16 (nI 0)) T Rs [] := ⟨h1.1.empty, h1.2.empty⟩
  exact h2.code c
theorem mm_61 (E : ZE) (mo : Nat) (hm : E.2.2.2.2 = some mo) (w : ZW) (s : ZM) (d : Nat) (T : List PEl) (Rs : List PRule) (B : List Nat) (e : Int32) (hs : ∀ c, mdI (msi (msa s 8 16 (nI 0)) 0 c) T Rs []) (h15 : mi s 15 = zb false) (hf : inI e T.length = true ∧ readM B = none) : RW E MX10_matches 61 [some (.ref mo), some (.int e), some (.int (zb true))] [] w s d 0 0 (PN E (mmtQ T Rs B e w)) := by
  refine r_aload_n dX10_matches_61 rfl (zRv_ref _) rfl ?_
  refine m_geta hm 10 8 lfX10_32 rfl (by decide) dX10_matches_62 rfl ?_
  refine r_bipush dX10_matches_65 kb_16 rfl ?_
  refine r_iconst dX10_matches_67 kc_0 rfl ?_
  refine m_iast hm 8 _ (by decide) (by decide) rfl rfl (by show _ < 17; omega) dX10_matches_68 rfl ?_
  refine r_aload_n dX10_matches_69 rfl (zRv_ref _) rfl ?_
  refine r_iload_n dX10_matches_70 rfl rfl ?_
  refine r_if_neB (r := 78) dX10_matches_71 (by decide) rfl (fun c_71 => ?_) (fun c_71 => ?_)
  · refine r_aload_n dX10_matches_78 rfl (zRv_ref _) rfl ?_
    refine m_getiv hm 15 lfX10_153 rfl (by first | (simp only [zGS, zMS, Nat.reduceEqDiff, OfNat.ofNat_ne_ofNat, false_and, and_false, true_and, and_true, and_self, if_true, if_false, ite_true, ite_false, reduceIte, reduceCtorEq]; first | done | assumption | rfl) | assumption | exact z2_eq | exact z1_eq | (simp [zGS, zMS]; first | done | assumption) | rfl) dX10_matches_79 rfl ?_
    refine r_if_eqB (r := 89) dX10_matches_82 (by decide) rfl (fun c_82 => ?_) (fun c_82 => ?_)
    · refine r_iconst dX10_matches_89 kc_2 rfl ?_
      refine m_puti hm 0 lfX10_133 rfl rfl rfl dX10_matches_90 rfl ?_
      refine r_aload_n dX10_matches_93 rfl (zRv_ref _) rfl ?_
      refine m_getiv hm 0 lfX10_133 rfl (by first | (simp only [zGS, zMS, Nat.reduceEqDiff, OfNat.ofNat_ne_ofNat, false_and, and_false, true_and, and_true, and_self, if_true, if_false, ite_true, ite_false, reduceIte, reduceCtorEq]; first | done | assumption | rfl) | assumption | exact z2_eq | exact z1_eq | (simp [zGS, zMS]; first | done | assumption) | rfl) dX10_matches_94 rfl ?_
      refine r_if_neN (by omega) (r := 113) dX10_matches_97 (by decide) rfl (fun c_97 => ?_) (fun c_97 => ?_)
      · refine r_iconst dX10_matches_113 kc_0 rfl ?_
        refine r_zret .boolean rfl rfl dX10_matches_114 ?_
        exact ⟨rfl, hs _, ⟨false, rfl⟩, Or.inr (Or.inl ⟨hf.1, hf.2, by rw [mi_msi, if_pos rfl]⟩)⟩
      · exact absurd c_97 (by decide)
    · cases c_82
  · cases c_71
theorem mm_61f (E : ZE) (mo : Nat) (hm : E.2.2.2.2 = some mo) (w : ZW) (s : ZM) (d : Nat) (T : List PEl) (Rs : List PRule) (B : List Nat) (e : Int32) (hs : ∀ c, mdI (msi (msa s 8 16 (nI 0)) 0 c) T Rs []) (hf : inI e T.length = false) : RW E MX10_matches 61 [some (.ref mo), some (.int e), some (.int (zb false))] [] w s d 0 0 (PN E (mmtQ T Rs B e w)) := by
  refine r_aload_n dX10_matches_61 rfl (zRv_ref _) rfl ?_
  refine m_geta hm 10 8 lfX10_32 rfl (by decide) dX10_matches_62 rfl ?_
  refine r_bipush dX10_matches_65 kb_16 rfl ?_
  refine r_iconst dX10_matches_67 kc_0 rfl ?_
  refine m_iast hm 8 _ (by decide) (by decide) rfl rfl (by show _ < 17; omega) dX10_matches_68 rfl ?_
  refine r_aload_n dX10_matches_69 rfl (zRv_ref _) rfl ?_
  refine r_iload_n dX10_matches_70 rfl rfl ?_
  refine r_if_neB (r := 78) dX10_matches_71 (by decide) rfl (fun c_71 => ?_) (fun c_71 => ?_)
  · cases c_71
  · refine r_iconst dX10_matches_74 kc_1 rfl ?_
    refine r_goto (r := 90) dX10_matches_75 (by decide) ?_
    refine m_puti hm 0 lfX10_133 rfl rfl rfl dX10_matches_90 rfl ?_
    refine r_aload_n dX10_matches_93 rfl (zRv_ref _) rfl ?_
    refine m_getiv hm 0 lfX10_133 rfl (by first | (simp only [zGS, zMS, Nat.reduceEqDiff, OfNat.ofNat_ne_ofNat, false_and, and_false, true_and, and_true, and_self, if_true, if_false, ite_true, ite_false, reduceIte, reduceCtorEq]; first | done | assumption | rfl) | assumption | exact z2_eq | exact z1_eq | (simp [zGS, zMS]; first | done | assumption) | rfl) dX10_matches_94 rfl ?_
    refine r_if_neN (by omega) (r := 113) dX10_matches_97 (by decide) rfl (fun c_97 => ?_) (fun c_97 => ?_)
    · refine r_iconst dX10_matches_113 kc_0 rfl ?_
      refine r_zret .boolean rfl rfl dX10_matches_114 ?_
      exact ⟨rfl, hs _, ⟨false, rfl⟩, Or.inl ⟨hf, by rw [mi_msi, if_pos rfl]⟩⟩
    · exact absurd c_97 (by decide)
theorem mm_61g (E : ZE) (mo : Nat) (hm : E.2.2.2.2 = some mo) (w : ZW) (s : ZM) (d : Nat) (hd : 5 ≤ d) (T : List PEl) (Rs : List PRule) (B : List Nat) (i : Nat) (hs : ∀ c, mdI (msi (msa s 8 16 (nI 0)) 0 c) T Rs []) (h15 : mi s 15 = zb true) (hi : i < T.length) (hie : inI (nI i) T.length = true) (hr : rootT T) (ts : List (List PCr)) (ls : List (List (Nat × PComp))) (hB : readM B = some ls) (hS : ssG s 0 0 0 ts) (hb : ts.length ≤ 3 ∧ (rwsO (flS ts)).length ≤ 125 ∧ (flS ts).length ≤ 126) (hR : ssR ts ls) (ho : okSels ls) (hj : jnS ls) : RW E MX10_matches 61 [some (.ref mo), some (.int (nI i)), some (.int (zb true))] [] w s d 0 0 (PN E (mmtQ T Rs B (nI i) w)) := by
  have hT := (hs (nI 0)).1
  have h24 := hT.1.1
  have hS2 : ssG (msi (msa s 8 16 (nI 0)) 0 (nI 0)) 0 0 0 ts := hS.fr ⟨by rw [mi_msi, if_neg (by decide)]; rfl, by rw [mi_msi, if_neg (by decide)]; rfl, by rw [mi_msi, if_neg (by decide)]; rfl⟩ (fun j i a b => by show ma (msa s 8 16 (nI 0)) j i = _; rw [ma_msa, if_neg (by omega)])
  have hhv := q_heaviest E mo hm w (msi (msa s 8 16 (nI 0)) 0 (nI 0)) (d - 1) i (by omega) T ts ls ⟨hT, hr, hS2, hb⟩ hi hR ho hj
  have hw := ssR_w hT.1 hi hR ho (fun cs hcs => Nat.le_trans (rwsF_le hcs) hb.2.1)
  have hmt := mt_eq (T := T) (i := i) hw (by omega)
  refine r_aload_n dX10_matches_61 rfl (zRv_ref _) rfl ?_
  refine m_geta hm 10 8 lfX10_32 rfl (by decide) dX10_matches_62 rfl ?_
  refine r_bipush dX10_matches_65 kb_16 rfl ?_
  refine r_iconst dX10_matches_67 kc_0 rfl ?_
  refine m_iast hm 8 _ (by decide) (by decide) rfl rfl (by show _ < 17; omega) dX10_matches_68 rfl ?_
  refine r_aload_n dX10_matches_69 rfl (zRv_ref _) rfl ?_
  refine r_iload_n dX10_matches_70 rfl rfl ?_
  refine r_if_neB (r := 78) dX10_matches_71 (by decide) rfl (fun c_71 => ?_) (fun c_71 => ?_)
  · refine r_aload_n dX10_matches_78 rfl (zRv_ref _) rfl ?_
    refine m_getiv hm 15 lfX10_153 rfl (by first | (simp only [zGS, zMS, Nat.reduceEqDiff, OfNat.ofNat_ne_ofNat, false_and, and_false, true_and, and_true, and_self, if_true, if_false, ite_true, ite_false, reduceIte, reduceCtorEq]; first | done | assumption | rfl) | assumption | exact z2_eq | exact z1_eq | (simp [zGS, zMS]; first | done | assumption) | rfl) dX10_matches_79 rfl ?_
    refine r_if_eqB (r := 89) dX10_matches_82 (by decide) rfl (fun c_82 => ?_) (fun c_82 => ?_)
    · cases c_82
    · refine r_iconst dX10_matches_85 kc_0 rfl ?_
      refine r_goto (r := 90) dX10_matches_86 (by decide) ?_
      refine m_puti hm 0 lfX10_133 rfl rfl rfl dX10_matches_90 rfl ?_
      refine r_aload_n dX10_matches_93 rfl (zRv_ref _) rfl ?_
      refine m_getiv hm 0 lfX10_133 rfl (by first | (simp only [zGS, zMS, Nat.reduceEqDiff, OfNat.ofNat_ne_ofNat, false_and, and_false, true_and, and_true, and_self, if_true, if_false, ite_true, ite_false, reduceIte, reduceCtorEq]; first | done | assumption | rfl) | assumption | exact z2_eq | exact z1_eq | (simp [zGS, zMS]; first | done | assumption) | rfl) dX10_matches_94 rfl ?_
      refine r_if_neN (by omega) (r := 113) dX10_matches_97 (by decide) rfl (fun c_97 => ?_) (fun c_97 => ?_)
      · exact absurd rfl c_97
      · refine r_aload_n dX10_matches_100 rfl (zRv_ref _) rfl ?_
        refine r_iload_n dX10_matches_101 rfl rfl ?_
        refine r_callV MX10_heaviest 1 [_] lvX10_304 (Or.inr (Or.inl ⟨hm, rfl⟩)) (hhv) rfl rfl (by first | exact Nat.le_of_ble_eq_true rfl | (simp [zcat_rf, Value.category]; done)) (by omega) (Nat.le_of_eq (Nat.zero_add _)) (Nat.le_of_eq (Nat.zero_add _)) dX10_matches_102 rfl (fun v_ w_ sg_ hq_ => ?_)
        obtain ⟨rfl, rfl, rfl⟩ := hq_
        refine r_iconst dX10_matches_105 kc_m1 rfl ?_
        refine r_icmp_eq (r := 113) dX10_matches_106 (by decide) rfl (fun c_106 => ?_) (fun c_106 => ?_)
        · refine r_iconst dX10_matches_113 kc_0 rfl ?_
          refine r_zret .boolean rfl rfl dX10_matches_114 ?_
          refine ⟨rfl, hs _, ⟨false, rfl⟩, Or.inr (Or.inr ⟨hie, ls, hB, by rw [mi_msi, if_pos rfl], ?_⟩)⟩
          rw [hmt, decide_eq_true c_106]
          rfl
        · refine r_iconst dX10_matches_109 kc_1 rfl ?_
          refine r_goto (r := 114) dX10_matches_110 (by decide) ?_
          refine r_zret .boolean rfl rfl dX10_matches_114 ?_
          refine ⟨rfl, hs _, ⟨true, rfl⟩, Or.inr (Or.inr ⟨hie, ls, hB, by rw [mi_msi, if_pos rfl], ?_⟩)⟩
          rw [hmt, decide_eq_false c_106]
          rfl
  · cases c_71
theorem q_matches (E : ZE) (mo : Nat) (hm : E.2.2.2.2 = some mo) (w : ZW) (sg : ZM) (d : Nat) (hd : 15 ≤ d) (T : List PEl) (Rs : List PRule) (B : List Nat) (e : Int32) (h : mdI sg T Rs B) (hr : rootT T) : CallQ E MX10_matches [.ref mo, .int e] w sg d 0 0 (mmtQ T Rs B e w) := by
  have h1 : mi sg 1 = nI T.length := h.1.2.1
  have h24 := h.1.1.1
  have hB := h.2.2.2.2.1
  have hBl := hB.2.1
  have hou := q_outE E w sg (d - 1) T.length e (nI T.length - nI 1) (by omega) rfl
  have hop := q_open E mo hm w sg (d - 1) 16 B (by decide) h.2.2.2.2.2.1 hB
  refine CallQ.of rfl (by simp [Value.category]) (Nat.le_of_ble_eq_true rfl) ?_
  cases he : inI e T.length with
  | false =>
    rw [he] at hou
    refine r_iload_n dX10_matches_0 rfl rfl ?_
    refine r_iconst dX10_matches_1 kc_0 rfl ?_
    refine r_aload_n dX10_matches_2 rfl (zRv_ref _) rfl ?_
    refine m_getiv hm 1 lfX10_137 rfl (by first | (simp only [zGS, zMS, Nat.reduceEqDiff, OfNat.ofNat_ne_ofNat, false_and, and_false, true_and, and_true, and_self, if_true, if_false, ite_true, ite_false, reduceIte, reduceCtorEq]; first | done | assumption | rfl) | assumption | exact z2_eq | exact z1_eq | (simp [zGS, zMS]; first | done | assumption) | rfl) dX10_matches_3 rfl ?_
    refine r_iconst dX10_matches_6 kc_1 rfl ?_
    refine r_isub dX10_matches_7 rfl ?_
    refine r_callS MX10_outside 3 [_, _, _] lsX10_140 (hou) rfl rfl (by first | exact Nat.le_of_ble_eq_true rfl | (simp [zcat_rf, Value.category]; done)) (by omega) (Nat.le_of_eq (Nat.zero_add _)) (Nat.le_of_eq (Nat.zero_add _)) dX10_matches_8 rfl (fun v_ w_ sg_ hq_ => ?_)
    obtain ⟨rfl, rfl, rfl⟩ := hq_
    refine r_if_neB (r := 18) dX10_matches_11 (by decide) rfl (fun c_11 => ?_) (fun c_11 => ?_)
    · refine r_iconst dX10_matches_18 kc_0 rfl ?_
      refine r_istore_n (ls' := [_, _, _]) dX10_matches_19 (Nat.le_of_ble_eq_true rfl) rfl rfl ?_
      refine r_aload_n dX10_matches_20 rfl (zRv_ref _) rfl ?_
      refine r_bipush dX10_matches_21 kb_16 rfl ?_
      refine r_callV MX10_open 1 [_] lvX10_265 (Or.inr (Or.inl ⟨hm, rfl⟩)) (hop) rfl rfl (by first | exact Nat.le_of_ble_eq_true rfl | (simp [zcat_rf, Value.category]; done)) (by omega) (Nat.le_of_eq (Nat.zero_add _)) (Nat.le_of_eq (Nat.zero_add _)) dX10_matches_23 rfl (fun v_ w_ sg_ hq_ => ?_)
      obtain ⟨rfl, rfl, k1, c1, hS1, hT1⟩ := hq_
      obtain ⟨sg1, hsg1⟩ : ∃ y, y = sg_ := ⟨_, rfl⟩
      subst hsg1
      obtain ⟨a, a1, a2, a3, a4, a5, a6, a7⟩ := id c1
      have i14 : mi sg1 14 = nI a := a1.2.1
      have i13 : mi sg1 13 = nI (a + B.length) := a1.2.2.1
      have i15 : mi sg1 15 = zb true := a1.2.2.2.1
      refine r_iload_n dX10_matches_26 rfl rfl ?_
      refine r_if_eqN (by omega) (r := 34) dX10_matches_27 (by decide) rfl (fun c_27 => ?_) (fun c_27 => ?_)
      · refine r_aload_n dX10_matches_34 rfl (zRv_ref _) rfl ?_
        refine r_aload_n dX10_matches_35 rfl (zRv_ref _) rfl ?_
        refine m_getiv hm 15 lfX10_153 rfl (by first | (simp only [zGS, zMS, Nat.reduceEqDiff, OfNat.ofNat_ne_ofNat, false_and, and_false, true_and, and_true, and_self, if_true, if_false, ite_true, ite_false, reduceIte, reduceCtorEq]; first | done | assumption | rfl) | assumption | exact z2_eq | exact z1_eq | (simp [zGS, zMS]; first | done | assumption) | rfl) dX10_matches_36 rfl ?_
        refine r_if_eqB (r := 57) dX10_matches_39 (by decide) rfl (fun c_39 => ?_) (fun c_39 => ?_)
        · cases c_39
        · refine r_aload_n dX10_matches_42 rfl (zRv_ref _) rfl ?_
          refine m_getiv hm 14 lfX10_147 rfl (by first | (simp only [zGS, zMS, Nat.reduceEqDiff, OfNat.ofNat_ne_ofNat, false_and, and_false, true_and, and_true, and_self, if_true, if_false, ite_true, ite_false, reduceIte, reduceCtorEq]; first | done | assumption | rfl) | assumption | exact z2_eq | exact z1_eq | (simp [zGS, zMS]; first | done | assumption) | rfl) dX10_matches_43 rfl ?_
          refine r_aload_n dX10_matches_46 rfl (zRv_ref _) rfl ?_
          refine m_getiv hm 13 lfX10_150 rfl (by first | (simp only [zGS, zMS, Nat.reduceEqDiff, OfNat.ofNat_ne_ofNat, false_and, and_false, true_and, and_true, and_self, if_true, if_false, ite_true, ite_false, reduceIte, reduceCtorEq]; first | done | assumption | rfl) | assumption | exact z2_eq | exact z1_eq | (simp [zGS, zMS]; first | done | assumption) | rfl) dX10_matches_47 rfl ?_
          refine r_icmp_neN (by omega) (by omega) (r := 57) dX10_matches_50 (by decide) rfl (fun c_50 => ?_) (fun c_50 => ?_)
          · refine r_iconst dX10_matches_57 kc_0 rfl ?_
            refine m_putz hm 15 (by first | exact Or.inl rfl | exact Or.inr rfl | exact zb01 _ | assumption) lfX10_153 rfl rfl rfl dX10_matches_58 rfl ?_
            exact mm_61f E mo hm w _ d T Rs B e (fun c => mm_st (h.r k1) _ c) he
          · refine r_iconst dX10_matches_53 kc_1 rfl ?_
            refine r_goto (r := 58) dX10_matches_54 (by decide) ?_
            refine m_putz hm 15 (by first | exact Or.inl rfl | exact Or.inr rfl | exact zb01 _ | assumption) lfX10_153 rfl rfl rfl dX10_matches_58 rfl ?_
            exact mm_61f E mo hm w _ d T Rs B e (fun c => mm_st (h.r k1) _ c) he
      · exact absurd rfl c_27
    · cases c_11
  | true =>
    rw [he] at hou
    obtain ⟨i, hi, rfl⟩ := inI_nat (by omega) he
    refine r_iload_n dX10_matches_0 rfl rfl ?_
    refine r_iconst dX10_matches_1 kc_0 rfl ?_
    refine r_aload_n dX10_matches_2 rfl (zRv_ref _) rfl ?_
    refine m_getiv hm 1 lfX10_137 rfl (by first | (simp only [zGS, zMS, Nat.reduceEqDiff, OfNat.ofNat_ne_ofNat, false_and, and_false, true_and, and_true, and_self, if_true, if_false, ite_true, ite_false, reduceIte, reduceCtorEq]; first | done | assumption | rfl) | assumption | exact z2_eq | exact z1_eq | (simp [zGS, zMS]; first | done | assumption) | rfl) dX10_matches_3 rfl ?_
    refine r_iconst dX10_matches_6 kc_1 rfl ?_
    refine r_isub dX10_matches_7 rfl ?_
    refine r_callS MX10_outside 3 [_, _, _] lsX10_140 (hou) rfl rfl (by first | exact Nat.le_of_ble_eq_true rfl | (simp [zcat_rf, Value.category]; done)) (by omega) (Nat.le_of_eq (Nat.zero_add _)) (Nat.le_of_eq (Nat.zero_add _)) dX10_matches_8 rfl (fun v_ w_ sg_ hq_ => ?_)
    obtain ⟨rfl, rfl, rfl⟩ := hq_
    refine r_if_neB (r := 18) dX10_matches_11 (by decide) rfl (fun c_11 => ?_) (fun c_11 => ?_)
    · cases c_11
    · refine r_iconst dX10_matches_14 kc_1 rfl ?_
      refine r_goto (r := 19) dX10_matches_15 (by decide) ?_
      refine r_istore_n (ls' := [_, _, _]) dX10_matches_19 (Nat.le_of_ble_eq_true rfl) rfl rfl ?_
      refine r_aload_n dX10_matches_20 rfl (zRv_ref _) rfl ?_
      refine r_bipush dX10_matches_21 kb_16 rfl ?_
      refine r_callV MX10_open 1 [_] lvX10_265 (Or.inr (Or.inl ⟨hm, rfl⟩)) (hop) rfl rfl (by first | exact Nat.le_of_ble_eq_true rfl | (simp [zcat_rf, Value.category]; done)) (by omega) (Nat.le_of_eq (Nat.zero_add _)) (Nat.le_of_eq (Nat.zero_add _)) dX10_matches_23 rfl (fun v_ w_ sg_ hq_ => ?_)
      obtain ⟨rfl, rfl, k1, c1, hS1, hT1⟩ := hq_
      obtain ⟨sg1, hsg1⟩ : ∃ y, y = sg_ := ⟨_, rfl⟩
      subst hsg1
      refine r_iload_n dX10_matches_26 rfl rfl ?_
      refine r_if_eqN (by omega) (r := 34) dX10_matches_27 (by decide) rfl (fun c_27 => ?_) (fun c_27 => ?_)
      · cases c_27
      · refine r_aload_n dX10_matches_30 rfl (zRv_ref _) rfl ?_
        refine r_callV MX10_readSelectors 0 [] lvX10_268 (Or.inr (Or.inl ⟨hm, rfl⟩)) (p_readSelectors E mo hm w sg1 (d - 1) (120 * 16) (by omega) B hS1 hBl c1) rfl rfl (by first | exact Nat.le_of_ble_eq_true rfl | (simp [zcat_rf, Value.category]; done)) (by omega) (Nat.le_of_eq (Nat.zero_add _)) (Nat.le_of_eq (Nat.zero_add _)) dX10_matches_31 rfl (fun v_ w_ sg_ hq_ => ?_)
        obtain ⟨rfl, rfl, o, k2, c2, hk2⟩ := hq_
        obtain ⟨sg2, hsg2⟩ : ∃ y, y = sg_ := ⟨_, rfl⟩
        subst hsg2
        have h2 := h.r (k1.tr k2.r)
        rcases hk2 with ⟨rfl, hk2⟩ | ⟨ls, r', ts, rfl, z2, z3, z4, z5, z6, z7⟩
        · have g2 : mi sg2 15 = zb false := c2.g
          have hn : readM B = none := by
            unfold readM
            rcases hk2 with q | ⟨ls, r', q, q2⟩
            · rw [q]
            · rw [q]
              cases r' with
              | nil => exact absurd q2 (by decide)
              | cons c r' => rfl
          refine r_aload_n dX10_matches_34 rfl (zRv_ref _) rfl ?_
          refine r_aload_n dX10_matches_35 rfl (zRv_ref _) rfl ?_
          refine m_getiv hm 15 lfX10_153 rfl (by first | (simp only [zGS, zMS, Nat.reduceEqDiff, OfNat.ofNat_ne_ofNat, false_and, and_false, true_and, and_true, and_self, if_true, if_false, ite_true, ite_false, reduceIte, reduceCtorEq]; first | done | assumption | rfl) | assumption | exact z2_eq | exact z1_eq | (simp [zGS, zMS]; first | done | assumption) | rfl) dX10_matches_36 rfl ?_
          refine r_if_eqB (r := 57) dX10_matches_39 (by decide) rfl (fun c_39 => ?_) (fun c_39 => ?_)
          · refine r_iconst dX10_matches_57 kc_0 rfl ?_
            refine m_putz hm 15 (by first | exact Or.inl rfl | exact Or.inr rfl | exact zb01 _ | assumption) lfX10_153 rfl rfl rfl dX10_matches_58 rfl ?_
            exact mm_61 E mo hm w _ d T Rs B (nI i) (fun c => mm_st h2 _ c) (by rw [mi_msi, if_pos rfl]; rfl) ⟨he, hn⟩
          · cases c_39
        · have c2' : cuG sg2 (120 * 16) r' := c2
          have g2 : mi sg2 15 = zb true := (cuO.z (m := 0) c2').g
          obtain ⟨a, a1, a2, a3, a4, a5, a6, a7⟩ := id c2'
          have i14 : mi sg2 14 = nI a := a1.2.1
          have i13 : mi sg2 13 = nI (a + r'.length) := a1.2.2.1
          refine r_aload_n dX10_matches_34 rfl (zRv_ref _) rfl ?_
          refine r_aload_n dX10_matches_35 rfl (zRv_ref _) rfl ?_
          refine m_getiv hm 15 lfX10_153 rfl (by first | (simp only [zGS, zMS, Nat.reduceEqDiff, OfNat.ofNat_ne_ofNat, false_and, and_false, true_and, and_true, and_self, if_true, if_false, ite_true, ite_false, reduceIte, reduceCtorEq]; first | done | assumption | rfl) | assumption | exact z2_eq | exact z1_eq | (simp [zGS, zMS]; first | done | assumption) | rfl) dX10_matches_36 rfl ?_
          refine r_if_eqB (r := 57) dX10_matches_39 (by decide) rfl (fun c_39 => ?_) (fun c_39 => ?_)
          · cases c_39
          · refine r_aload_n dX10_matches_42 rfl (zRv_ref _) rfl ?_
            refine m_getiv hm 14 lfX10_147 rfl (by first | (simp only [zGS, zMS, Nat.reduceEqDiff, OfNat.ofNat_ne_ofNat, false_and, and_false, true_and, and_true, and_self, if_true, if_false, ite_true, ite_false, reduceIte, reduceCtorEq]; first | done | assumption | rfl) | assumption | exact z2_eq | exact z1_eq | (simp [zGS, zMS]; first | done | assumption) | rfl) dX10_matches_43 rfl ?_
            refine r_aload_n dX10_matches_46 rfl (zRv_ref _) rfl ?_
            refine m_getiv hm 13 lfX10_150 rfl (by first | (simp only [zGS, zMS, Nat.reduceEqDiff, OfNat.ofNat_ne_ofNat, false_and, and_false, true_and, and_true, and_self, if_true, if_false, ite_true, ite_false, reduceIte, reduceCtorEq]; first | done | assumption | rfl) | assumption | exact z2_eq | exact z1_eq | (simp [zGS, zMS]; first | done | assumption) | rfl) dX10_matches_47 rfl ?_
            refine r_icmp_neN (by omega) (by omega) (r := 57) dX10_matches_50 (by decide) rfl (fun c_50 => ?_) (fun c_50 => ?_)
            · refine r_iconst dX10_matches_57 kc_0 rfl ?_
              refine m_putz hm 15 (by first | exact Or.inl rfl | exact Or.inr rfl | exact zb01 _ | assumption) lfX10_153 rfl rfl rfl dX10_matches_58 rfl ?_
              have hn : readM B = none := by
                unfold readM
                rw [z2]
                cases r' with
                | nil => exact absurd rfl c_50
                | cons c r' => rfl
              exact mm_61 E mo hm w _ d T Rs B (nI i) (fun c => mm_st h2 _ c) (by rw [mi_msi, if_pos rfl]; rfl) ⟨he, hn⟩
            · refine r_iconst dX10_matches_53 kc_1 rfl ?_
              refine r_goto (r := 58) dX10_matches_54 (by decide) ?_
              refine m_putz hm 15 (by first | exact Or.inl rfl | exact Or.inr rfl | exact zb01 _ | assumption) lfX10_153 rfl rfl rfl dX10_matches_58 rfl ?_
              have hnil : r' = [] := List.length_eq_zero_iff.mp (by omega)
              subst hnil
              have hB9 : readM B = some ls := by unfold readM; rw [z2]
              exact mm_61g E mo hm w _ d (by omega) T Rs B i (fun c => mm_st h2 _ c) (by rw [mi_msi, if_pos rfl]; rfl) hi he hr ts ls hB9 (z5.fr ⟨by rw [mi_msi, if_neg (by decide)], by rw [mi_msi, if_neg (by decide)], by rw [mi_msi, if_neg (by decide)]⟩ (fun _ _ _ _ => rfl)) ⟨z7.2.2, z7.1, z7.2.1⟩ z4 (pSels_ok z2) (pSels_jn z2)
