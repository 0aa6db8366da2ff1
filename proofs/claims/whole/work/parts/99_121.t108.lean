/-! ===== the model: readSelector, its loop ===== -/
def stkB (c : Nat) : Bool := isPS c || isJn c
def selR : List PCr → List (Nat × PComp) → Prop
  | [], [] => True
  | c :: cs, x :: l => c.1 = x.1 ∧ compR c.2 x.2 ∧ selR cs l
  | [], _ :: _ => False
  | _ :: _, [] => False
def lpQ (j k : Nat) (r : List Nat) (cs : List PCr) (cnt : Nat) (o : Option (List Nat)) : Prop := (o = none ∧ (pSelL j r = none ∨ ∃ l r', pSelL j r = some (l, r') ∧ stkB (hdN r') = true)) ∨ ∃ l r', o = some r' ∧ pSelL j r = some (l, r') ∧ stkB (hdN r') = false ∧ selR cs l ∧ ((rwsO cs).length + r'.length ≤ r.length ∧ cs.length + r'.length ≤ r.length) ∧ cnt = k + cs.length
theorem pSelL_stop {j : Nat} {r : List Nat} (h : isJn (hdN r) = false) : pSelL j r = some ([], r) := by
  cases j with
  | zero => rfl
  | succ j =>
    cases r with
    | nil => rfl
    | cons c r =>
      have h2 : isJn c = false := h
      show (if isJn c = true then _ else some ([], c :: r)) = _
      rw [h2]
      rfl
theorem pSelL_go {j c : Nat} {r1 : List Nat} (h : isJn c = true) : pSelL (j + 1) (c :: r1) = (match pComp r1 with
  | none => none
  | some (x, r2) => match pSelL j r2 with
    | none => none
    | some (l, r3) => some ((c, x) :: l, r3)) := by
  show (if isJn c = true then _ else some ([], c :: r1)) = _
  rw [if_pos h]
  cases pComp r1 with
  | none => rfl
  | some q =>
    obtain ⟨x, r2⟩ := q
    simp only []
    cases pSelL j r2 <;> rfl
theorem ps_jn {c : Nat} (h : isPS c = true) : isJn c = false := by
  unfold isPS at h
  unfold isJn
  rw [decide_eq_true_eq] at h
  exact decide_eq_false (by omega)
theorem kcG.mv {a b c : ZM} {n C ch : Nat} {l : List PRow} (h : mvC a b) (g : kcG b c n l C ch) : kcG a c n l C ch := by
  obtain ⟨g1, g2, g3, g4, g5, g6⟩ := g
  exact ⟨fun j q1 q2 q3 q4 q5 => (g1 j q1 q2 q3 q4 q5).trans (h.1 j q1 q2), g2, g3, fun j i q1 q2 q3 => (g4 j i q1 q2 q3).trans (by rw [h.2.1]), g5, g6.trans h.2.2⟩
theorem rs_7b (E : ZE) (mo : Nat) (hm : E.2.2.2.2 = some mo) (w : ZW) (sg : ZM) (d : Nat) (k : Nat) (x2 : Option Value) (P : ZPhi) (h : mi sg 15 = zb false) (K : RW E MX10_readSelector 97 [some (.ref mo), some (.int (nI k)), x2] [] w sg d 0 0 P) : RW E MX10_readSelector 7 [some (.ref mo), some (.int (nI k)), x2] [] w sg d 0 0 P := by
  refine r_aload_n dX10_readSelector_7 rfl (zRv_ref _) rfl ?_
  refine m_getiv hm 15 lfX10_153 rfl (by first | (simp only [zGS, zMS, Nat.reduceEqDiff, OfNat.ofNat_ne_ofNat, false_and, and_false, true_and, and_true, and_self, if_true, if_false, ite_true, ite_false, reduceIte, reduceCtorEq]; first | done | assumption | rfl) | assumption | exact z2_eq | exact z1_eq | (simp [zGS, zMS]; first | done | assumption) | rfl) dX10_readSelector_8 rfl ?_
  refine r_if_eqB (r := 97) dX10_readSelector_11 (by decide) rfl (fun c_11 => ?_) (fun c_11 => ?_)
  · exact K
  · cases c_11
theorem rs_jn (E : ZE) (mo : Nat) (hm : E.2.2.2.2 = some mo) (w : ZW) (sg : ZM) (d f k : Nat) (hd : 2 ≤ d) (r : List Nat) (h : cuG sg f r) (x2 : Option Value) (P : ZPhi) (K0 : isJn (hdN r) = false → RW E MX10_readSelector 97 [some (.ref mo), some (.int (nI k)), x2] [] w sg d 0 0 P) (K1 : isJn (hdN r) = true → RW E MX10_readSelector 50 [some (.ref mo), some (.int (nI k)), x2] [] w sg d 0 0 P) : RW E MX10_readSelector 7 [some (.ref mo), some (.int (nI k)), x2] [] w sg d 0 0 P := by
  have g0 : mi sg 15 = zb true := (cuO.z (m := 0) h).g
  have hl := p_look E mo hm w sg (d - 1) f r h
  have h7 : hdN r < 128 := by
    obtain ⟨a, -, -, -, -, -, -, h7⟩ := h
    cases r with
    | nil => exact (by decide : 0 < 128)
    | cons c r => exact (h7 c List.mem_cons_self).2
  unfold isJn at K0 K1
  refine r_aload_n dX10_readSelector_7 rfl (zRv_ref _) rfl ?_
  refine m_getiv hm 15 lfX10_153 rfl (by first | (simp only [zGS, zMS, Nat.reduceEqDiff, OfNat.ofNat_ne_ofNat, false_and, and_false, true_and, and_true, and_self, if_true, if_false, ite_true, ite_false, reduceIte, reduceCtorEq]; first | done | assumption | rfl) | assumption | exact z2_eq | exact z1_eq | (simp [zGS, zMS]; first | done | assumption) | rfl) dX10_readSelector_8 rfl ?_
  refine r_if_eqB (r := 97) dX10_readSelector_11 (by decide) rfl (fun c_11 => ?_) (fun c_11 => ?_)
  · cases c_11
  · refine r_aload_n dX10_readSelector_14 rfl (zRv_ref _) rfl ?_
    refine r_callV MX10_look 0 [] lvX10_172 (Or.inr (Or.inl ⟨hm, rfl⟩)) (hl) rfl rfl (by first | exact Nat.le_of_ble_eq_true rfl | (simp [zcat_rf, Value.category]; done)) (by omega) (Nat.le_of_eq (Nat.zero_add _)) (Nat.le_of_eq (Nat.zero_add _)) dX10_readSelector_15 rfl (fun v_ w_ sg_ hq_ => ?_)
    obtain ⟨rfl, rfl, rfl⟩ := hq_
    refine r_bipush dX10_readSelector_18 kb_32 rfl ?_
    refine r_icmp_eqN (by omega) (by omega) (r := 50) dX10_readSelector_20 (by decide) rfl (fun c_20 => ?_) (fun c_20 => ?_)
    · exact K1 (decide_eq_true (by omega))
    · refine r_aload_n dX10_readSelector_23 rfl (zRv_ref _) rfl ?_
      refine r_callV MX10_look 0 [] lvX10_172 (Or.inr (Or.inl ⟨hm, rfl⟩)) (hl) rfl rfl (by first | exact Nat.le_of_ble_eq_true rfl | (simp [zcat_rf, Value.category]; done)) (by omega) (Nat.le_of_eq (Nat.zero_add _)) (Nat.le_of_eq (Nat.zero_add _)) dX10_readSelector_24 rfl (fun v_ w_ sg_ hq_ => ?_)
      obtain ⟨rfl, rfl, rfl⟩ := hq_
      refine r_bipush dX10_readSelector_27 kb_62 rfl ?_
      refine r_icmp_eqN (by omega) (by omega) (r := 50) dX10_readSelector_29 (by decide) rfl (fun c_29 => ?_) (fun c_29 => ?_)
      · exact K1 (decide_eq_true (by omega))
      · refine r_aload_n dX10_readSelector_32 rfl (zRv_ref _) rfl ?_
        refine r_callV MX10_look 0 [] lvX10_172 (Or.inr (Or.inl ⟨hm, rfl⟩)) (hl) rfl rfl (by first | exact Nat.le_of_ble_eq_true rfl | (simp [zcat_rf, Value.category]; done)) (by omega) (Nat.le_of_eq (Nat.zero_add _)) (Nat.le_of_eq (Nat.zero_add _)) dX10_readSelector_33 rfl (fun v_ w_ sg_ hq_ => ?_)
        obtain ⟨rfl, rfl, rfl⟩ := hq_
        refine r_bipush dX10_readSelector_36 kb_43 rfl ?_
        refine r_icmp_eqN (by omega) (by omega) (r := 50) dX10_readSelector_38 (by decide) rfl (fun c_38 => ?_) (fun c_38 => ?_)
        · exact K1 (decide_eq_true (by omega))
        · refine r_aload_n dX10_readSelector_41 rfl (zRv_ref _) rfl ?_
          refine r_callV MX10_look 0 [] lvX10_172 (Or.inr (Or.inl ⟨hm, rfl⟩)) (hl) rfl rfl (by first | exact Nat.le_of_ble_eq_true rfl | (simp [zcat_rf, Value.category]; done)) (by omega) (Nat.le_of_eq (Nat.zero_add _)) (Nat.le_of_eq (Nat.zero_add _)) dX10_readSelector_42 rfl (fun v_ w_ sg_ hq_ => ?_)
          obtain ⟨rfl, rfl, rfl⟩ := hq_
          refine r_bipush dX10_readSelector_45 kb_126 rfl ?_
          refine r_icmp_neN (by omega) (by omega) (r := 97) dX10_readSelector_47 (by decide) rfl (fun c_47 => ?_) (fun c_47 => ?_)
          · exact K0 (decide_eq_false (by omega))
          · exact K1 (decide_eq_true (by omega))
theorem rs_50 (E : ZE) (mo : Nat) (hm : E.2.2.2.2 = some mo) (w : ZW) (sg : ZM) (d f k c n C : Nat) (hd : 12 ≤ d) (hk : k < 5) (hc : c < 128) (r1 : List Nat) (h : cuG sg f (c :: r1)) (h21 : mi sg 21 = nI n) (h18 : mi sg 18 = nI C) (hn : n + r1.length ≤ 125) (hC : C + 1 < 130) (x2 : Option Value) (P : ZPhi) (K0 : k = 4 → ∀ sg' x2, mvC sg sg' → cuO sg' f 790 none → RW E MX10_readSelector 7 [some (.ref mo), some (.int (nI (k + 1))), x2] [] w sg' d 0 0 P) (K1 : k < 4 → ∀ sg' x2 l o, kcG sg sg' n l C c → n + l.length ≤ 129 → cuO sg' f 680 o → kcO r1 l o → RW E MX10_readSelector 7 [some (.ref mo), some (.int (nI (k + 1))), x2] [] w sg' d 0 0 P) : RW E MX10_readSelector 50 [some (.ref mo), some (.int (nI k)), x2] [] w sg d 0 0 P := by
  have hlook := p_look E mo hm w sg (d - 1) f (c :: r1) h
  obtain ⟨a, h1, h2, h3, h4, h5, h6, h7⟩ := h
  have i14 : mi sg 14 = nI a := h1.2.1
  have v1 : mvC sg (msi sg 14 (nI (a + 1))) := mvC.m14
  have ha : a + 1 < 10000 := by omega
  have hcu : cuG (msi sg 14 (nI (a + 1))) f r1 := cu_step h1 h2 h3 h4 h5 h6 h7 (h1.m14 ha) v1
  obtain ⟨sg1, hsg1⟩ : ∃ y, y = msi sg 14 (nI (a + 1)) := ⟨_, rfl⟩
  rw [← hsg1] at hcu v1
  have j21 : mi sg1 21 = nI n := (v1.1 21 (by decide) (by decide)).trans h21
  have j18 : mi sg1 18 = nI C := (v1.1 18 (by decide) (by decide)).trans h18
  have hm1 := o_must E mo hm w sg1 (d - 1) f 790 (by decide) true (some r1) (cuO.z hcu)
  have hm0 := o_must E mo hm w sg1 (d - 1) f 790 (by decide) false (some r1) (cuO.z hcu)
  refine r_aload_n dX10_readSelector_50 rfl (zRv_ref _) rfl ?_
  refine r_callV MX10_look 0 [] lvX10_172 (Or.inr (Or.inl ⟨hm, rfl⟩)) (hlook) rfl rfl (by first | exact Nat.le_of_ble_eq_true rfl | (simp [zcat_rf, Value.category]; done)) (by omega) (Nat.le_of_eq (Nat.zero_add _)) (Nat.le_of_eq (Nat.zero_add _)) dX10_readSelector_51 rfl (fun v_ w_ sg_ hq_ => ?_)
  obtain ⟨rfl, rfl, rfl⟩ := hq_
  refine r_istore_n (ls' := [_, _, _]) dX10_readSelector_54 (Nat.le_of_ble_eq_true rfl) rfl rfl ?_
  refine r_aload_n dX10_readSelector_55 rfl (zRv_ref _) rfl ?_
  refine r_dup dX10_readSelector_56 (by first | rfl | exact zcat_rf _) rfl ?_
  refine m_getiv hm 14 lfX10_147 rfl (by first | (simp only [zGS, zMS, Nat.reduceEqDiff, OfNat.ofNat_ne_ofNat, false_and, and_false, true_and, and_true, and_self, if_true, if_false, ite_true, ite_false, reduceIte, reduceCtorEq]; first | done | assumption | rfl) | assumption | exact z2_eq | exact z1_eq | (simp [zGS, zMS]; first | done | assumption) | rfl) dX10_readSelector_57 rfl ?_
  refine r_iconst dX10_readSelector_60 kc_1 rfl ?_
  refine r_iaddN dX10_readSelector_61 rfl ?_
  refine m_puti hm 14 lfX10_147 rfl rfl rfl dX10_readSelector_62 rfl ?_
  rw [← hsg1, show hdN (c :: r1) = c from rfl]
  refine r_iinc (ls' := [_, _, _]) dX10_readSelector_65 (Nat.le_of_ble_eq_true rfl) rfl (zinc1 _) rfl rfl ?_
  refine r_aload_n dX10_readSelector_68 rfl (zRv_ref _) rfl ?_
  refine r_iload_n dX10_readSelector_69 rfl rfl ?_
  refine r_iconst dX10_readSelector_70 kc_5 rfl ?_
  refine r_icmp_geN (by omega) (by omega) (r := 78) dX10_readSelector_71 (by decide) rfl (fun c_71 => ?_) (fun c_71 => ?_)
  · refine r_iconst dX10_readSelector_78 kc_0 rfl ?_
    refine r_callV MX10_must 1 [_] lvX10_180 (Or.inr (Or.inl ⟨hm, rfl⟩)) (hm0) rfl rfl (by first | exact Nat.le_of_ble_eq_true rfl | (simp [zcat_rf, Value.category]; done)) (by omega) (Nat.le_of_eq (Nat.zero_add _)) (Nat.le_of_eq (Nat.zero_add _)) dX10_readSelector_79 rfl (fun v_ w_ sg_ hq_ => ?_)
    obtain ⟨rfl, rfl, v2, c2⟩ := hq_
    obtain ⟨sg2, hsg2⟩ : ∃ y, y = sg_ := ⟨_, rfl⟩
    subst hsg2
    have g2 : mi sg2 15 = zb false := c2.g
    refine r_aload_n dX10_readSelector_82 rfl (zRv_ref _) rfl ?_
    refine m_getiv hm 15 lfX10_153 rfl (by first | (simp only [zGS, zMS, Nat.reduceEqDiff, OfNat.ofNat_ne_ofNat, false_and, and_false, true_and, and_true, and_self, if_true, if_false, ite_true, ite_false, reduceIte, reduceCtorEq]; first | done | assumption | rfl) | assumption | exact z2_eq | exact z1_eq | (simp [zGS, zMS]; first | done | assumption) | rfl) dX10_readSelector_83 rfl ?_
    refine r_if_eqB (r := 94) dX10_readSelector_86 (by decide) rfl (fun c_86 => ?_) (fun c_86 => ?_)
    · refine r_goto (r := 7) dX10_readSelector_94 (by decide) ?_
      exact K0 (by omega) _ _ (v1.tr v2) c2
    · cases c_86
  · refine r_iconst dX10_readSelector_74 kc_1 rfl ?_
    refine r_goto (r := 79) dX10_readSelector_75 (by decide) ?_
    refine r_callV MX10_must 1 [_] lvX10_180 (Or.inr (Or.inl ⟨hm, rfl⟩)) (hm1) rfl rfl (by first | exact Nat.le_of_ble_eq_true rfl | (simp [zcat_rf, Value.category]; done)) (by omega) (Nat.le_of_eq (Nat.zero_add _)) (Nat.le_of_eq (Nat.zero_add _)) dX10_readSelector_79 rfl (fun v_ w_ sg_ hq_ => ?_)
    obtain ⟨rfl, rfl, v2, c2⟩ := hq_
    obtain ⟨sg2, hsg2⟩ : ∃ y, y = sg_ := ⟨_, rfl⟩
    subst hsg2
    have g2 : mi sg2 15 = zb true := c2.g
    refine r_aload_n dX10_readSelector_82 rfl (zRv_ref _) rfl ?_
    refine m_getiv hm 15 lfX10_153 rfl (by first | (simp only [zGS, zMS, Nat.reduceEqDiff, OfNat.ofNat_ne_ofNat, false_and, and_false, true_and, and_true, and_self, if_true, if_false, ite_true, ite_false, reduceIte, reduceCtorEq]; first | done | assumption | rfl) | assumption | exact z2_eq | exact z1_eq | (simp [zGS, zMS]; first | done | assumption) | rfl) dX10_readSelector_83 rfl ?_
    refine r_if_eqB (r := 94) dX10_readSelector_86 (by decide) rfl (fun c_86 => ?_) (fun c_86 => ?_)
    · cases c_86
    · refine r_aload_n dX10_readSelector_89 rfl (zRv_ref _) rfl ?_
      refine r_iload_n dX10_readSelector_90 rfl rfl ?_
      refine r_callV MX10_readCompound 1 [_] lvX10_224 (Or.inr (Or.inl ⟨hm, rfl⟩)) (p_readCompound E mo hm w sg2 (d - 1) f n C c (by omega) hc hC r1 ((v2.1 21 (by decide) (by decide)).trans j21) ((v2.1 18 (by decide) (by decide)).trans j18) hn c2) rfl rfl (by first | exact Nat.le_of_ble_eq_true rfl | (simp [zcat_rf, Value.category]; done)) (by omega) (Nat.le_of_eq (Nat.zero_add _)) (Nat.le_of_eq (Nat.zero_add _)) dX10_readSelector_91 rfl (fun v_ w_ sg_ hq_ => ?_)
      obtain ⟨rfl, rfl, l, o, p3, y3, c3, k3⟩ := hq_
      refine r_goto (r := 7) dX10_readSelector_94 (by decide) ?_
      exact K1 (by omega) _ _ l o (kcG.mv (v1.tr v2) p3) y3 c3 k3
theorem rs_7 (E : ZE) (mo : Nat) (hm : E.2.2.2.2 = some mo) (w : ZW) (d f : Nat) (hd : 12 ≤ d) (P : ZPhi) : ∀ (j k : Nat) (sg : ZM) (n C : Nat) (r : List Nat) (x2 : Option Value), k + j = 4 → cuG sg f r → mi sg 21 = nI n → mi sg 18 = nI C → n + r.length ≤ 125 → C + r.length ≤ 126 → isPS (hdN r) = false → (∀ sg' cs cnt' o' x2, ctG sg sg' n C cs → cnt' ≤ 5 → cuO sg' f 670 o' → lpQ j k r cs cnt' o' → RW E MX10_readSelector 97 [some (.ref mo), some (.int (nI cnt')), x2] [] w sg' d 0 0 P) → RW E MX10_readSelector 7 [some (.ref mo), some (.int (nI k)), x2] [] w sg d 0 0 P := by
  intro j
  induction j with
  | zero =>
    intro k sg n C r x2 hk h h21 h18 hn hC hps K
    have hk4 : k = 4 := by omega
    subst hk4
    refine rs_jn E mo hm w sg d f 4 (by omega) r h x2 P (fun hj => ?_) (fun hj => ?_)
    · exact K sg [] 4 (some r) _ (mvC.rf.ct h21 h18) (by decide) (cuO.z h) (Or.inr ⟨[], r, rfl, rfl, by unfold stkB; rw [hps, hj]; rfl, trivial, ⟨by show 0 + r.length ≤ _; omega, by show 0 + r.length ≤ _; omega⟩, rfl⟩)
    · cases r with
      | nil => cases hj
      | cons c r1 =>
        have hlen : (c :: r1).length = r1.length + 1 := List.length_cons
        refine rs_50 E mo hm w sg d f 4 c n C hd (by decide) (isJn_lt hj) r1 h h21 h18 (by omega) (by omega) x2 P (fun _ sg' x2 v c2 => ?_) (fun q => absurd q (by decide))
        refine rs_7b E mo hm w sg' d 5 x2 P c2.g (K sg' [] 5 none _ (v.ct h21 h18) (by decide) (c2.mono (by decide)) (Or.inl ⟨rfl, Or.inr ⟨[], c :: r1, rfl, ?_⟩⟩))
        have hj2 : isJn (hdN (c :: r1)) = true := hj
        unfold stkB
        rw [hj2, Bool.or_true]
  | succ j ih =>
    intro k sg n C r x2 hk h h21 h18 hn hC hps K
    refine rs_jn E mo hm w sg d f k (by omega) r h x2 P (fun hj => ?_) (fun hj => ?_)
    · exact K sg [] k (some r) _ (mvC.rf.ct h21 h18) (by omega) (cuO.z h) (Or.inr ⟨[], r, rfl, pSelL_stop hj, by unfold stkB; rw [hps, hj]; rfl, trivial, ⟨by show 0 + r.length ≤ _; omega, by show 0 + r.length ≤ _; omega⟩, rfl⟩)
    · cases r with
      | nil => cases hj
      | cons c r1 =>
        have hjc : isJn c = true := hj
        have hlen : (c :: r1).length = r1.length + 1 := List.length_cons
        refine rs_50 E mo hm w sg d f k c n C hd (by omega) (isJn_lt hjc) r1 h h21 h18 (by omega) (by omega) x2 P (fun q => absurd q (by omega)) (fun _ sg' x2 l o p3 y3 c3 k3 => ?_)
        rcases k3 with ⟨rfl, hbad⟩ | ⟨x, r2, rfl, hp, hps2, hcr, hll⟩
        · refine rs_7b E mo hm w sg' d (k + 1) x2 P c3.g (K sg' [(c, l)] (k + 1) none _ p3.ct (by omega) (c3.mono (by decide)) (Or.inl ⟨rfl, ?_⟩))
          rw [pSelL_go hjc]
          rcases hbad with hb | ⟨x, r2, hb, hb2⟩
          · rw [hb]
            exact Or.inl rfl
          · rw [hb]
            simp only []
            rw [pSelL_stop (ps_jn hb2)]
            refine Or.inr ⟨_, r2, rfl, ?_⟩
            unfold stkB
            rw [hb2, Bool.true_or]
        · have h0 : ctG sg sg' n C [(c, l)] := p3.ct
          have el : (rwsO [(c, l)]).length = l.length := by show (l ++ []).length = _; rw [List.append_nil]
          refine ih (k + 1) sg' (n + (rwsO [(c, l)]).length) (C + 1) r2 x2 (by omega) c3 h0.2.1.2 h0.2.1.1 (by omega) (by omega) hps2 (fun sg9 cs cnt' o' x2 u1 u2 u3 u4 => ?_)
          refine K sg9 ([(c, l)] ++ cs) cnt' o' x2 (h0.tr u1) u2 u3 ?_
          have hgo : pSelL (j + 1) (c :: r1) = (match pSelL j r2 with
            | none => none
            | some (l, r3) => some ((c, x) :: l, r3)) := by rw [pSelL_go hjc, hp]
          rcases u4 with ⟨z1, z2 | ⟨ls, r3, z2, z3⟩⟩ | ⟨ls, r3, z1, z2, z3, z4, ⟨z5, z6⟩, z7⟩
          · exact Or.inl ⟨z1, Or.inl (by rw [hgo, z2])⟩
          · exact Or.inl ⟨z1, Or.inr ⟨_, r3, by rw [hgo, z2], z3⟩⟩
          · refine Or.inr ⟨(c, x) :: ls, r3, z1, by rw [hgo, z2], z3, ⟨rfl, hcr, z4⟩, ⟨?_, ?_⟩, ?_⟩
            · rw [rwsO_app, List.length_append, el, hlen]
              omega
            · rw [List.length_append, hlen]
              show 1 + cs.length + _ ≤ _
              omega
            · rw [List.length_append]
              show _ = k + (1 + cs.length)
              omega
