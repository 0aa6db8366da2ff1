/-! ===== the model: readSelector ===== -/
def slO (r : List Nat) (cs : List PCr) (cnt : Nat) (o : Option (List Nat)) : Prop := (o = none ∧ (pSel r = none ∨ ∃ l r', pSel r = some (l, r') ∧ stkB (hdN r') = true)) ∨ ∃ l r', o = some r' ∧ pSel r = some (l, r') ∧ stkB (hdN r') = false ∧ selR cs l ∧ ((rwsO cs).length + r'.length ≤ r.length ∧ cs.length + r'.length ≤ r.length + 1) ∧ cnt = cs.length ∧ cs ≠ []
def slQ (sg : ZM) (f n C S : Nat) (r : List Nat) (w : ZW) : ZQ := fun v w' sg' => v = none ∧ w = w' ∧ ∃ cs cnt o sg1, ctG sg sg1 n C cs ∧ cnt ≤ 5 ∧ cuO sg1 f 670 o ∧ slO r cs cnt o ∧ sg' = msi (msa sg1 10 S (nI cnt)) 16 (nI (S + 1))
theorem rs_97 (E : ZE) (mo : Nat) (hm : E.2.2.2.2 = some mo) (w : ZW) (sg sg1 : ZM) (d f n C S cnt : Nat) (hS : S < 3) (r : List Nat) (x2 : Option Value) (cs : List PCr) (o : Option (List Nat)) (h16 : mi sg 16 = nI S) (p : ctG sg sg1 n C cs) (hc : cnt ≤ 5) (c : cuO sg1 f 670 o) (hk : slO r cs cnt o) : RW E MX10_readSelector 97 [some (.ref mo), some (.int (nI cnt)), x2] [] w sg1 d 0 0 (PN E (slQ sg f n C S r w)) := by
  have i16 : mi sg1 16 = nI S := (p.1 16 (by decide) (by decide) (by decide) (by decide) (by decide)).trans h16
  have i16' : mi (msa sg1 10 S (nI cnt)) 16 = nI S := i16
  refine r_aload_n dX10_readSelector_97 rfl (zRv_ref _) rfl ?_
  refine m_geta hm 17 10 lfX10_38 rfl (by decide) dX10_readSelector_98 rfl ?_
  refine r_aload_n dX10_readSelector_101 rfl (zRv_ref _) rfl ?_
  refine m_getiv hm 16 lfX10_157 rfl (by first | (simp only [zGS, zMS, Nat.reduceEqDiff, OfNat.ofNat_ne_ofNat, false_and, and_false, true_and, and_true, and_self, if_true, if_false, ite_true, ite_false, reduceIte, reduceCtorEq]; first | done | assumption | rfl) | assumption | exact z2_eq | exact z1_eq | (simp [zGS, zMS]; first | done | assumption) | rfl) dX10_readSelector_102 rfl ?_
  refine r_iload_n dX10_readSelector_105 rfl rfl ?_
  refine m_iast hm 10 _ (by decide) (by decide) rfl rfl (by show _ < 3; omega) dX10_readSelector_106 rfl ?_
  refine r_aload_n dX10_readSelector_107 rfl (zRv_ref _) rfl ?_
  refine r_dup dX10_readSelector_108 (by first | rfl | exact zcat_rf _) rfl ?_
  refine m_getiv hm 16 lfX10_157 rfl (by first | (simp only [zGS, zMS, Nat.reduceEqDiff, OfNat.ofNat_ne_ofNat, false_and, and_false, true_and, and_true, and_self, if_true, if_false, ite_true, ite_false, reduceIte, reduceCtorEq]; first | done | assumption | rfl) | assumption | exact z2_eq | exact z1_eq | (simp [zGS, zMS]; first | done | assumption) | rfl) dX10_readSelector_109 rfl ?_
  refine r_iconst dX10_readSelector_112 kc_1 rfl ?_
  refine r_iaddN dX10_readSelector_113 rfl ?_
  refine m_puti hm 16 lfX10_157 rfl rfl rfl dX10_readSelector_114 rfl ?_
  refine r_vret rfl dX10_readSelector_117 ?_
  exact ⟨rfl, rfl, cs, cnt, o, sg1, p, hc, c, hk, rfl⟩
theorem p_readSelector (E : ZE) (mo : Nat) (hm : E.2.2.2.2 = some mo) (w : ZW) (sg : ZM) (d f n C S : Nat) (hd : 13 ≤ d) (hS : S < 3) (r : List Nat) (h21 : mi sg 21 = nI n) (h18 : mi sg 18 = nI C) (h16 : mi sg 16 = nI S) (hn : n + r.length ≤ 125) (hC : C + r.length ≤ 125) (h : cuG sg f r) : CallQ E MX10_readSelector [.ref mo] w sg d 0 0 (slQ sg f n C S r w) := by
  refine CallQ.of rfl (by simp [Value.category]) (Nat.le_of_ble_eq_true rfl) ?_
  refine r_iconst dX10_readSelector_0 kc_1 rfl ?_
  refine r_istore_n (ls' := [_, _, _]) dX10_readSelector_1 (Nat.le_of_ble_eq_true rfl) rfl rfl ?_
  refine r_aload_n dX10_readSelector_2 rfl (zRv_ref _) rfl ?_
  refine r_iconst dX10_readSelector_3 kc_0 rfl ?_
  refine r_callV MX10_readCompound 1 [_] lvX10_224 (Or.inr (Or.inl ⟨hm, rfl⟩)) (p_readCompound E mo hm w sg (d - 1) f n C 0 (by omega) (by decide) (by omega) r h21 h18 hn h) rfl rfl (by first | exact Nat.le_of_ble_eq_true rfl | (simp [zcat_rf, Value.category]; done)) (by omega) (Nat.le_of_eq (Nat.zero_add _)) (Nat.le_of_eq (Nat.zero_add _)) dX10_readSelector_4 rfl (fun v_ w_ sg_ hq_ => ?_)
  obtain ⟨rfl, rfl, l, o, p3, y3, c3, k3⟩ := hq_
  obtain ⟨sg', hsg'⟩ : ∃ y, y = sg_ := ⟨_, rfl⟩
  subst hsg'
  have h0 : ctG sg sg' n C [(0, l)] := p3.ct
  have el : (rwsO [(0, l)]).length = l.length := by show (l ++ []).length = _; rw [List.append_nil]
  rcases k3 with ⟨rfl, hbad⟩ | ⟨x, r2, rfl, hp, hps2, hcr, hll⟩
  · refine rs_7b E mo hm w sg' d 1 _ _ c3.g (rs_97 E mo hm w sg sg' d f n C S 1 hS r _ [(0, l)] none h16 h0 (by decide) (c3.mono (by decide)) (Or.inl ⟨rfl, ?_⟩))
    unfold pSel
    rcases hbad with hb | ⟨x, r2, hb, hb2⟩
    · rw [hb]
      exact Or.inl rfl
    · rw [hb]
      simp only []
      rw [pSelL_stop (ps_jn hb2)]
      refine Or.inr ⟨_, r2, rfl, ?_⟩
      unfold stkB
      rw [hb2, Bool.true_or]
  · refine rs_7 E mo hm w d f (by omega) _ 3 1 sg' (n + (rwsO [(0, l)]).length) (C + 1) r2 _ rfl c3 h0.2.1.2 h0.2.1.1 (by omega) (by omega) hps2 (fun sg9 cs cnt' o' x2 u1 u2 u3 u4 => ?_)
    refine rs_97 E mo hm w sg sg9 d f n C S cnt' hS r x2 ([(0, l)] ++ cs) o' h16 (h0.tr u1) u2 u3 ?_
    have hgo : pSel r = (match pSelL 3 r2 with
      | none => none
      | some (l, r3) => some ((0, x) :: l, r3)) := by
      unfold pSel
      rw [hp]
      rfl
    rcases u4 with ⟨z1, z2 | ⟨ls, r3, z2, z3⟩⟩ | ⟨ls, r3, z1, z2, z3, z4, ⟨z5, z6⟩, z7⟩
    · exact Or.inl ⟨z1, Or.inl (by rw [hgo, z2])⟩
    · exact Or.inl ⟨z1, Or.inr ⟨_, r3, by rw [hgo, z2], z3⟩⟩
    · refine Or.inr ⟨(0, x) :: ls, r3, z1, by rw [hgo, z2], z3, ⟨rfl, hcr, z4⟩, ⟨?_, ?_⟩, ?_, fun q => (by cases q)⟩
      · rw [rwsO_app, List.length_append, el]
        omega
      · rw [List.length_append]
        show 1 + cs.length + _ ≤ _
        omega
      · rw [List.length_append]
        exact z7
