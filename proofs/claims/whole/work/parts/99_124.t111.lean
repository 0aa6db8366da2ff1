/-! ===== the model: readSelectors ===== -/
def stk3 (c : Nat) : Bool := stkB c || decide (c = 44)
def ssR : List (List PCr) → List (List (Nat × PComp)) → Prop
  | [], [] => True
  | s :: ss, l :: ls => (selR s l ∧ s ≠ []) ∧ ssR ss ls
  | [], _ :: _ => False
  | _ :: _, [] => False
def ssO (j : Nat) (r : List Nat) (ss : List (List PCr)) (sg' : ZM) (o : Option (List Nat)) : Prop := (o = none ∧ (pSelsL j r = none ∨ ∃ ls r', pSelsL j r = some (ls, r') ∧ stk3 (hdN r') = true)) ∨ ∃ ls r' ts, o = some r' ∧ pSelsL j r = some (ls, r') ∧ stk3 (hdN r') = false ∧ ssR ts ls ∧ ssG sg' 0 0 0 (ss ++ ts) ∧ r'.length ≤ r.length ∧ (rwsO (flS (ss ++ ts))).length ≤ 125 ∧ (flS (ss ++ ts)).length ≤ 126 ∧ (ss ++ ts).length ≤ 3
theorem rss_b (E : ZE) (mo : Nat) (hm : E.2.2.2.2 = some mo) (w : ZW) (sg : ZM) (d : Nat) (P : ZPhi) (h : mi sg 15 = zb false) (K : RW E MX10_readSelectors 51 [some (.ref mo)] [] w sg d 0 0 P) : RW E MX10_readSelectors 4 [some (.ref mo)] [] w sg d 0 0 P := by
  refine r_aload_n dX10_readSelectors_4 rfl (zRv_ref _) rfl ?_
  refine m_getiv hm 15 lfX10_153 rfl (by first | (simp only [zGS, zMS, Nat.reduceEqDiff, OfNat.ofNat_ne_ofNat, false_and, and_false, true_and, and_true, and_self, if_true, if_false, ite_true, ite_false, reduceIte, reduceCtorEq]; first | done | assumption | rfl) | assumption | exact z2_eq | exact z1_eq | (simp [zGS, zMS]; first | done | assumption) | rfl) dX10_readSelectors_5 rfl ?_
  refine r_if_eqB (r := 51) dX10_readSelectors_8 (by decide) rfl (fun c_8 => ?_) (fun c_8 => ?_)
  · exact K
  · cases c_8
theorem stk_c {r : List Nat} (h : stkB (hdN r) = true) : pCh 44 r = none := by
  cases r with
  | nil => rfl
  | cons c r =>
    refine if_neg (fun q => ?_)
    subst q
    have h2 : stkB 44 = true := h
    exact absurd h2 (by decide)
theorem rss_4 (E : ZE) (mo : Nat) (hm : E.2.2.2.2 = some mo) (w : ZW) (d f : Nat) (hd : 14 ≤ d) (P : ZPhi) : ∀ (j : Nat) (sg : ZM) (ss : List (List PCr)) (r : List Nat), ss.length + j = 3 → cuG sg f r → ssG sg 0 0 0 ss → stkB (hdN r) = false → (rwsO (flS ss)).length + r.length ≤ 125 → (flS ss).length + r.length ≤ 126 → (∀ sg' o', mKp sg sg' → cuO sg' f 660 o' → ssO j r ss sg' o' → RW E MX10_readSelectors 51 [some (.ref mo)] [] w sg' d 0 0 P) → RW E MX10_readSelectors 4 [some (.ref mo)] [] w sg d 0 0 P := by
  intro j
  induction j with
  | zero =>
    intro sg ss r hj h hT hst hn hC K
    have g0 : mi sg 15 = zb true := (cuO.z (m := 0) h).g
    have hp := p_pass E mo hm w sg (d - 1) f 44 (by omega) (by decide) r h
    cases hc : pCh 44 r with
    | none =>
      rw [hc] at hp
      refine r_aload_n dX10_readSelectors_4 rfl (zRv_ref _) rfl ?_
      refine m_getiv hm 15 lfX10_153 rfl (by first | (simp only [zGS, zMS, Nat.reduceEqDiff, OfNat.ofNat_ne_ofNat, false_and, and_false, true_and, and_true, and_self, if_true, if_false, ite_true, ite_false, reduceIte, reduceCtorEq]; first | done | assumption | rfl) | assumption | exact z2_eq | exact z1_eq | (simp [zGS, zMS]; first | done | assumption) | rfl) dX10_readSelectors_5 rfl ?_
      refine r_if_eqB (r := 51) dX10_readSelectors_8 (by decide) rfl (fun c_8 => ?_) (fun c_8 => ?_)
      · cases c_8
      · refine r_aload_n dX10_readSelectors_11 rfl (zRv_ref _) rfl ?_
        refine r_bipush dX10_readSelectors_12 kb_44 rfl ?_
        refine r_callV MX10_pass 1 [_] lvX10_176 (Or.inr (Or.inl ⟨hm, rfl⟩)) (hp) rfl rfl (by first | exact Nat.le_of_ble_eq_true rfl | (simp [zcat_rf, Value.category]; done)) (by omega) (Nat.le_of_eq (Nat.zero_add _)) (Nat.le_of_eq (Nat.zero_add _)) dX10_readSelectors_14 rfl (fun v_ w_ sg_ hq_ => ?_)
        obtain ⟨rfl, rfl, v1, c1⟩ := hq_
        refine r_if_eqB (r := 51) dX10_readSelectors_17 (by decide) rfl (fun c_17 => ?_) (fun c_17 => ?_)
        · exact K _ (some r) v1.kp (cuO.z c1) (Or.inr ⟨[], r, [], rfl, rfl, by unfold stk3; rw [hst, ← pCh_hd (by decide), hc]; rfl, trivial, by rw [List.append_nil]; exact hT.mv v1, Nat.le_refl _, by rw [List.append_nil]; omega, by rw [List.append_nil]; omega, by rw [List.append_nil]; omega⟩)
        · cases c_17
    | some r1 =>
      rw [hc] at hp
      refine r_aload_n dX10_readSelectors_4 rfl (zRv_ref _) rfl ?_
      refine m_getiv hm 15 lfX10_153 rfl (by first | (simp only [zGS, zMS, Nat.reduceEqDiff, OfNat.ofNat_ne_ofNat, false_and, and_false, true_and, and_true, and_self, if_true, if_false, ite_true, ite_false, reduceIte, reduceCtorEq]; first | done | assumption | rfl) | assumption | exact z2_eq | exact z1_eq | (simp [zGS, zMS]; first | done | assumption) | rfl) dX10_readSelectors_5 rfl ?_
      refine r_if_eqB (r := 51) dX10_readSelectors_8 (by decide) rfl (fun c_8 => ?_) (fun c_8 => ?_)
      · cases c_8
      · refine r_aload_n dX10_readSelectors_11 rfl (zRv_ref _) rfl ?_
        refine r_bipush dX10_readSelectors_12 kb_44 rfl ?_
        refine r_callV MX10_pass 1 [_] lvX10_176 (Or.inr (Or.inl ⟨hm, rfl⟩)) (hp) rfl rfl (by first | exact Nat.le_of_ble_eq_true rfl | (simp [zcat_rf, Value.category]; done)) (by omega) (Nat.le_of_eq (Nat.zero_add _)) (Nat.le_of_eq (Nat.zero_add _)) dX10_readSelectors_14 rfl (fun v_ w_ sg_ hq_ => ?_)
        obtain ⟨rfl, rfl, v1, c1⟩ := hq_
        obtain ⟨sg1, hsg1⟩ : ∃ y, y = sg_ := ⟨_, rfl⟩
        subst hsg1
        have c1' : cuG sg1 f r1 := c1
        have i16 : mi sg1 16 = nI ss.length := by have := (hT.mv v1).1.1; rw [Nat.zero_add] at this; exact this
        refine r_if_eqB (r := 51) dX10_readSelectors_17 (by decide) rfl (fun c_17 => ?_) (fun c_17 => ?_)
        · cases c_17
        · refine r_aload_n dX10_readSelectors_20 rfl (zRv_ref _) rfl ?_
          refine r_aload_n dX10_readSelectors_21 rfl (zRv_ref _) rfl ?_
          refine m_getiv hm 16 lfX10_157 rfl (by first | (simp only [zGS, zMS, Nat.reduceEqDiff, OfNat.ofNat_ne_ofNat, false_and, and_false, true_and, and_true, and_self, if_true, if_false, ite_true, ite_false, reduceIte, reduceCtorEq]; first | done | assumption | rfl) | assumption | exact z2_eq | exact z1_eq | (simp [zGS, zMS]; first | done | assumption) | rfl) dX10_readSelectors_22 rfl ?_
          refine r_iconst dX10_readSelectors_25 kc_3 rfl ?_
          refine r_icmp_geN (by omega) (by omega) (r := 33) dX10_readSelectors_26 (by decide) rfl (fun c_26 => ?_) (fun c_26 => ?_)
          · refine r_iconst dX10_readSelectors_33 kc_0 rfl ?_
            refine r_callV MX10_must 1 [_] lvX10_180 (Or.inr (Or.inl ⟨hm, rfl⟩)) (o_must E mo hm w sg1 (d - 1) f 790 (by decide) false (some r1) (cuO.z c1')) rfl rfl (by first | exact Nat.le_of_ble_eq_true rfl | (simp [zcat_rf, Value.category]; done)) (by omega) (Nat.le_of_eq (Nat.zero_add _)) (Nat.le_of_eq (Nat.zero_add _)) dX10_readSelectors_34 rfl (fun v_ w_ sg_ hq_ => ?_)
            obtain ⟨rfl, rfl, v2, c2⟩ := hq_
            obtain ⟨sg2, hsg2⟩ : ∃ y, y = sg_ := ⟨_, rfl⟩
            subst hsg2
            have g2 : mi sg2 15 = zb false := c2.g
            refine r_aload_n dX10_readSelectors_37 rfl (zRv_ref _) rfl ?_
            refine m_getiv hm 15 lfX10_153 rfl (by first | (simp only [zGS, zMS, Nat.reduceEqDiff, OfNat.ofNat_ne_ofNat, false_and, and_false, true_and, and_true, and_self, if_true, if_false, ite_true, ite_false, reduceIte, reduceCtorEq]; first | done | assumption | rfl) | assumption | exact z2_eq | exact z1_eq | (simp [zGS, zMS]; first | done | assumption) | rfl) dX10_readSelectors_38 rfl ?_
            refine r_if_eqB (r := 4) dX10_readSelectors_41 (by decide) rfl (fun c_41 => ?_) (fun c_41 => ?_)
            · exact rss_b E mo hm w sg2 d P g2 (K sg2 none (v1.tr v2).kp (c2.mono (by decide)) (Or.inl ⟨rfl, Or.inr ⟨[], r, rfl, by unfold stk3; rw [← pCh_hd (by decide), hc, hst]; rfl⟩⟩))
            · cases c_41
          · exact absurd c_26 (by omega)
  | succ j ih =>
    intro sg ss r hj h hT hst hn hC K
    have g0 : mi sg 15 = zb true := (cuO.z (m := 0) h).g
    have hp := p_pass E mo hm w sg (d - 1) f 44 (by omega) (by decide) r h
    cases hc : pCh 44 r with
    | none =>
      rw [hc] at hp
      have hstop : pSelsL (j + 1) r = some ([], r) := by unfold pSelsL; rw [hc]
      refine r_aload_n dX10_readSelectors_4 rfl (zRv_ref _) rfl ?_
      refine m_getiv hm 15 lfX10_153 rfl (by first | (simp only [zGS, zMS, Nat.reduceEqDiff, OfNat.ofNat_ne_ofNat, false_and, and_false, true_and, and_true, and_self, if_true, if_false, ite_true, ite_false, reduceIte, reduceCtorEq]; first | done | assumption | rfl) | assumption | exact z2_eq | exact z1_eq | (simp [zGS, zMS]; first | done | assumption) | rfl) dX10_readSelectors_5 rfl ?_
      refine r_if_eqB (r := 51) dX10_readSelectors_8 (by decide) rfl (fun c_8 => ?_) (fun c_8 => ?_)
      · cases c_8
      · refine r_aload_n dX10_readSelectors_11 rfl (zRv_ref _) rfl ?_
        refine r_bipush dX10_readSelectors_12 kb_44 rfl ?_
        refine r_callV MX10_pass 1 [_] lvX10_176 (Or.inr (Or.inl ⟨hm, rfl⟩)) (hp) rfl rfl (by first | exact Nat.le_of_ble_eq_true rfl | (simp [zcat_rf, Value.category]; done)) (by omega) (Nat.le_of_eq (Nat.zero_add _)) (Nat.le_of_eq (Nat.zero_add _)) dX10_readSelectors_14 rfl (fun v_ w_ sg_ hq_ => ?_)
        obtain ⟨rfl, rfl, v1, c1⟩ := hq_
        refine r_if_eqB (r := 51) dX10_readSelectors_17 (by decide) rfl (fun c_17 => ?_) (fun c_17 => ?_)
        · exact K _ (some r) v1.kp (cuO.z c1) (Or.inr ⟨[], r, [], rfl, hstop, by unfold stk3; rw [hst, ← pCh_hd (by decide), hc]; rfl, trivial, by rw [List.append_nil]; exact hT.mv v1, Nat.le_refl _, by rw [List.append_nil]; omega, by rw [List.append_nil]; omega, by rw [List.append_nil]; omega⟩)
        · cases c_17
    | some r1 =>
      rw [hc] at hp
      have hlc := pCh_len hc
      have hgo : pSelsL (j + 1) r = (match pSel r1 with
        | none => none
        | some (x, r2) => match pSelsL j r2 with
          | none => none
          | some (l, r3) => some (x :: l, r3)) := by
        show (match pCh 44 r with
          | none => some ([], r)
          | some r1 => match pSel r1 with
            | none => none
            | some (x, r2) => match pSelsL j r2 with
              | none => none
              | some (l, r3) => some (x :: l, r3)) = _
        rw [hc]
      refine r_aload_n dX10_readSelectors_4 rfl (zRv_ref _) rfl ?_
      refine m_getiv hm 15 lfX10_153 rfl (by first | (simp only [zGS, zMS, Nat.reduceEqDiff, OfNat.ofNat_ne_ofNat, false_and, and_false, true_and, and_true, and_self, if_true, if_false, ite_true, ite_false, reduceIte, reduceCtorEq]; first | done | assumption | rfl) | assumption | exact z2_eq | exact z1_eq | (simp [zGS, zMS]; first | done | assumption) | rfl) dX10_readSelectors_5 rfl ?_
      refine r_if_eqB (r := 51) dX10_readSelectors_8 (by decide) rfl (fun c_8 => ?_) (fun c_8 => ?_)
      · cases c_8
      · refine r_aload_n dX10_readSelectors_11 rfl (zRv_ref _) rfl ?_
        refine r_bipush dX10_readSelectors_12 kb_44 rfl ?_
        refine r_callV MX10_pass 1 [_] lvX10_176 (Or.inr (Or.inl ⟨hm, rfl⟩)) (hp) rfl rfl (by first | exact Nat.le_of_ble_eq_true rfl | (simp [zcat_rf, Value.category]; done)) (by omega) (Nat.le_of_eq (Nat.zero_add _)) (Nat.le_of_eq (Nat.zero_add _)) dX10_readSelectors_14 rfl (fun v_ w_ sg_ hq_ => ?_)
        obtain ⟨rfl, rfl, v1, c1⟩ := hq_
        obtain ⟨sg1, hsg1⟩ : ∃ y, y = sg_ := ⟨_, rfl⟩
        subst hsg1
        have c1' : cuG sg1 f r1 := c1
        have hT1 := hT.mv v1
        have i16 : mi sg1 16 = nI ss.length := by have := hT1.1.1; rw [Nat.zero_add] at this; exact this
        refine r_if_eqB (r := 51) dX10_readSelectors_17 (by decide) rfl (fun c_17 => ?_) (fun c_17 => ?_)
        · cases c_17
        · refine r_aload_n dX10_readSelectors_20 rfl (zRv_ref _) rfl ?_
          refine r_aload_n dX10_readSelectors_21 rfl (zRv_ref _) rfl ?_
          refine m_getiv hm 16 lfX10_157 rfl (by first | (simp only [zGS, zMS, Nat.reduceEqDiff, OfNat.ofNat_ne_ofNat, false_and, and_false, true_and, and_true, and_self, if_true, if_false, ite_true, ite_false, reduceIte, reduceCtorEq]; first | done | assumption | rfl) | assumption | exact z2_eq | exact z1_eq | (simp [zGS, zMS]; first | done | assumption) | rfl) dX10_readSelectors_22 rfl ?_
          refine r_iconst dX10_readSelectors_25 kc_3 rfl ?_
          refine r_icmp_geN (by omega) (by omega) (r := 33) dX10_readSelectors_26 (by decide) rfl (fun c_26 => ?_) (fun c_26 => ?_)
          · exact absurd c_26 (by omega)
          · refine r_iconst dX10_readSelectors_29 kc_1 rfl ?_
            refine r_goto (r := 34) dX10_readSelectors_30 (by decide) ?_
            refine r_callV MX10_must 1 [_] lvX10_180 (Or.inr (Or.inl ⟨hm, rfl⟩)) (o_must E mo hm w sg1 (d - 1) f 790 (by decide) true (some r1) (cuO.z c1')) rfl rfl (by first | exact Nat.le_of_ble_eq_true rfl | (simp [zcat_rf, Value.category]; done)) (by omega) (Nat.le_of_eq (Nat.zero_add _)) (Nat.le_of_eq (Nat.zero_add _)) dX10_readSelectors_34 rfl (fun v_ w_ sg_ hq_ => ?_)
            obtain ⟨rfl, rfl, v2, c2⟩ := hq_
            obtain ⟨sg2, hsg2⟩ : ∃ y, y = sg_ := ⟨_, rfl⟩
            subst hsg2
            have g2 : mi sg2 15 = zb true := c2.g
            have hT2 := hT1.mv v2
            refine r_aload_n dX10_readSelectors_37 rfl (zRv_ref _) rfl ?_
            refine m_getiv hm 15 lfX10_153 rfl (by first | (simp only [zGS, zMS, Nat.reduceEqDiff, OfNat.ofNat_ne_ofNat, false_and, and_false, true_and, and_true, and_self, if_true, if_false, ite_true, ite_false, reduceIte, reduceCtorEq]; first | done | assumption | rfl) | assumption | exact z2_eq | exact z1_eq | (simp [zGS, zMS]; first | done | assumption) | rfl) dX10_readSelectors_38 rfl ?_
            refine r_if_eqB (r := 4) dX10_readSelectors_41 (by decide) rfl (fun c_41 => ?_) (fun c_41 => ?_)
            · cases c_41
            · refine r_aload_n dX10_readSelectors_44 rfl (zRv_ref _) rfl ?_
              refine r_callV MX10_readSelector 0 [] lvX10_227 (Or.inr (Or.inl ⟨hm, rfl⟩)) (p_readSelector E mo hm w sg2 (d - 1) f (0 + (rwsO (flS ss)).length) (0 + (flS ss).length) (0 + ss.length) (by omega) (by omega) r1 hT2.1.2.2 hT2.1.2.1 hT2.1.1 (by omega) (by omega) c2) rfl rfl (by first | exact Nat.le_of_ble_eq_true rfl | (simp [zcat_rf, Value.category]; done)) (by omega) (Nat.le_of_eq (Nat.zero_add _)) (Nat.le_of_eq (Nat.zero_add _)) dX10_readSelectors_45 rfl (fun v_ w_ sg_ hq_ => ?_)
              obtain ⟨rfl, rfl, cs, cnt, o, sg3, p3, hc5, c3, hk3, hs9⟩ := hq_
              obtain ⟨sg4, hsg4⟩ : ∃ y, y = sg_ := ⟨_, rfl⟩
              subst hsg4
              have kp4 : mKp sg sg4 := by rw [hs9]; exact (((v1.tr v2).kp.tr p3.kp).tr (kp_sa (by decide))).tr (kp_si (by decide))
              have c4 : cuO sg4 f 670 o := c3.tab (fun i => by rw [hs9]; show ma (msa sg3 10 _ _) 7 i = _; rw [ma_msa, if_neg (by omega)]) (by rw [hs9, mi_msi, if_neg (by decide)]; rfl) (by rw [hs9, mi_msi, if_neg (by decide)]; rfl) (by rw [hs9, mi_msi, if_neg (by decide)]; rfl) (by rw [hs9, mi_msi, if_neg (by decide)]; rfl)
              refine r_goto (r := 4) dX10_readSelectors_48 (by decide) ?_
              rcases hk3 with ⟨rfl, hbad⟩ | ⟨l, r2, rfl, hp2, hst2, hsr, ⟨hb1, hb2⟩, hcnt, hne⟩
              · refine rss_b E mo hm w sg4 d P c4.g (K sg4 none kp4 (c4.mono (by decide)) (Or.inl ⟨rfl, ?_⟩))
                rw [hgo]
                rcases hbad with hb | ⟨l, r2, hb, hb2⟩
                · rw [hb]
                  exact Or.inl rfl
                · rw [hb]
                  have hs : pSelsL j r2 = some ([], r2) := by
                    cases j with
                    | zero => rfl
                    | succ j => unfold pSelsL; rw [stk_c hb2]
                  simp only []
                  rw [hs]
                  refine Or.inr ⟨_, r2, rfl, ?_⟩
                  unfold stk3
                  rw [hb2, Bool.true_or]
              · have hT4 : ssG sg4 0 0 0 (ss ++ [cs]) := by rw [hs9, hcnt]; exact hT2.add p3 hne
                have hlen4 : (ss ++ [cs]).length = ss.length + 1 := by rw [List.length_append]; rfl
                have ef : flS (ss ++ [cs]) = flS ss ++ cs := by rw [flS_app]; show flS ss ++ (cs ++ []) = _; rw [List.append_nil]
                refine ih sg4 (ss ++ [cs]) r2 (by omega) c4 hT4 hst2 (by rw [ef, rwsO_app, List.length_append]; omega) (by rw [ef, List.length_append]; omega) (fun sg' o' u1 u2 u3 => ?_)
                refine K sg' o' (kp4.tr u1) u2 ?_
                rcases u3 with ⟨z1, z2 | ⟨ls, r3, z2, z3⟩⟩ | ⟨ls, r3, ts, z1, z2, z3, z4, z5, z6⟩
                · exact Or.inl ⟨z1, Or.inl (by rw [hgo, hp2]; simp only []; rw [z2])⟩
                · exact Or.inl ⟨z1, Or.inr ⟨l :: ls, r3, by rw [hgo, hp2]; simp only []; rw [z2], z3⟩⟩
                · exact Or.inr ⟨l :: ls, r3, cs :: ts, z1, by rw [hgo, hp2]; simp only []; rw [z2], z3, ⟨⟨hsr, hne⟩, z4⟩, by rw [List.append_assoc] at z5; exact z5, by omega, by have z7 := z6.2; rw [List.append_assoc] at z7; exact z7⟩
def ssQ (sg : ZM) (f : Nat) (r : List Nat) (w : ZW) : ZQ := fun v w' sg' => v = none ∧ w = w' ∧ ∃ o, mKp sg sg' ∧ cuO sg' f 660 o ∧ ((o = none ∧ (pSels r = none ∨ ∃ ls r', pSels r = some (ls, r') ∧ stk3 (hdN r') = true)) ∨ ∃ ls r' ts, o = some r' ∧ pSels r = some (ls, r') ∧ stk3 (hdN r') = false ∧ ssR ts ls ∧ ssG sg' 0 0 0 ts ∧ r'.length ≤ r.length ∧ (rwsO (flS ts)).length ≤ 125 ∧ (flS ts).length ≤ 126 ∧ ts.length ≤ 3)
theorem rss_51 (E : ZE) (mo : Nat) (w : ZW) (sg : ZM) (d : Nat) (Q : ZQ) (h : Q none w sg) : RW E MX10_readSelectors 51 [some (.ref mo)] [] w sg d 0 0 (PN E Q) := by
  refine r_vret rfl dX10_readSelectors_51 ?_
  exact h
theorem p_readSelectors (E : ZE) (mo : Nat) (hm : E.2.2.2.2 = some mo) (w : ZW) (sg : ZM) (d f : Nat) (hd : 14 ≤ d) (r : List Nat) (h0 : ssG sg 0 0 0 []) (hr : r.length ≤ 120) (h : cuG sg f r) : CallQ E MX10_readSelectors [.ref mo] w sg d 0 0 (ssQ sg f r w) := by
  refine CallQ.of rfl (by simp [Value.category]) (Nat.le_of_ble_eq_true rfl) ?_
  refine r_aload_n dX10_readSelectors_0 rfl (zRv_ref _) rfl ?_
  refine r_callV MX10_readSelector 0 [] lvX10_227 (Or.inr (Or.inl ⟨hm, rfl⟩)) (p_readSelector E mo hm w sg (d - 1) f (0 + (rwsO (flS [])).length) (0 + (flS []).length) 0 (by omega) (by decide) r h0.1.2.2 h0.1.2.1 h0.1.1 (by show 0 + 0 + r.length ≤ 125; omega) (by show 0 + 0 + r.length ≤ 125; omega) h) rfl rfl (by first | exact Nat.le_of_ble_eq_true rfl | (simp [zcat_rf, Value.category]; done)) (by omega) (Nat.le_of_eq (Nat.zero_add _)) (Nat.le_of_eq (Nat.zero_add _)) dX10_readSelectors_1 rfl (fun v_ w_ sg_ hq_ => ?_)
  obtain ⟨rfl, rfl, cs, cnt, o, sg3, p3, hc5, c3, hk3, hs9⟩ := hq_
  obtain ⟨sg4, hsg4⟩ : ∃ y, y = sg_ := ⟨_, rfl⟩
  subst hsg4
  have kp4 : mKp sg sg4 := by rw [hs9]; exact (p3.kp.tr (kp_sa (by decide))).tr (kp_si (by decide))
  have c4 : cuO sg4 f 670 o := c3.tab (fun i => by rw [hs9]; show ma (msa sg3 10 _ _) 7 i = _; rw [ma_msa, if_neg (by omega)]) (by rw [hs9, mi_msi, if_neg (by decide)]; rfl) (by rw [hs9, mi_msi, if_neg (by decide)]; rfl) (by rw [hs9, mi_msi, if_neg (by decide)]; rfl) (by rw [hs9, mi_msi, if_neg (by decide)]; rfl)
  rcases hk3 with ⟨rfl, hbad⟩ | ⟨l, r2, rfl, hp2, hst2, hsr, ⟨hb1, hb2⟩, hcnt, hne⟩
  · refine rss_b E mo hm w sg4 d _ c4.g (rss_51 E mo w sg4 d _ ⟨rfl, rfl, none, kp4, c4.mono (by decide), Or.inl ⟨rfl, ?_⟩⟩)
    unfold pSels
    rcases hbad with hb | ⟨l, r2, hb, hb2⟩
    · rw [hb]
      exact Or.inl rfl
    · rw [hb]
      have hs : pSelsL 2 r2 = some ([], r2) := by unfold pSelsL; rw [stk_c hb2]
      simp only []
      rw [hs]
      refine Or.inr ⟨_, r2, rfl, ?_⟩
      unfold stk3
      rw [hb2, Bool.true_or]
  · have hT4 : ssG sg4 0 0 0 ([] ++ [cs]) := by rw [hs9, hcnt]; exact h0.add p3 hne
    have ef : flS ([] ++ [cs]) = cs := by show cs ++ [] = _; rw [List.append_nil]
    refine rss_4 E mo hm w d f hd _ 2 sg4 ([] ++ [cs]) r2 rfl c4 hT4 hst2 (by rw [ef]; omega) (by rw [ef]; omega) (fun sg' o' u1 u2 u3 => ?_)
    refine rss_51 E mo w sg' d _ ⟨rfl, rfl, o', kp4.tr u1, u2, ?_⟩
    have hgo : pSels r = (match pSelsL 2 r2 with
      | none => none
      | some (ls, r3) => some (l :: ls, r3)) := by
      unfold pSels
      rw [hp2]
      rfl
    rcases u3 with ⟨z1, z2 | ⟨ls, r3, z2, z3⟩⟩ | ⟨ls, r3, ts, z1, z2, z3, z4, z5, z6⟩
    · exact Or.inl ⟨z1, Or.inl (by rw [hgo, z2])⟩
    · exact Or.inl ⟨z1, Or.inr ⟨l :: ls, r3, by rw [hgo, z2], z3⟩⟩
    · refine Or.inr ⟨l :: ls, r3, cs :: ts, z1, by rw [hgo, z2], z3, ⟨⟨hsr, hne⟩, z4⟩, z5, ?_, z6.2⟩
      have : 1 ≤ cs.length := List.length_pos_iff.mpr hne
      omega
