/-! ===== the model: readCompound ===== -/
def compR (l : List PRow) (x : PComp) : Prop := ∃ oh ev g lp, l = hdRow 0 x.1 oh ++ lp ∧ (x.1 ≠ 0 → oh = true) ∧ kvR ev g lp ∧ x.2.1 = evP ev ∧ x.2.2 = evE ev
/-- one compound more, number C, with these rows behind the first n -/
def kcG (sg sg' : ZM) (n : Nat) (l : List PRow) (C c : Nat) : Prop := (∀ j, j ≠ 14 → j ≠ 15 → j ≠ 18 → j ≠ 21 → j ≠ 26 → mi sg' j = mi sg j) ∧ (mi sg' 18 = nI (C + 1) ∧ mi sg' 21 = nI (n + l.length)) ∧ (ma sg' 11 C = nI c ∧ ma sg' 12 C = nI n ∧ ma sg' 12 (C + 1) = nI (n + l.length)) ∧ (∀ j i, ¬ (13 ≤ j ∧ j ≤ 16 ∧ n ≤ i) → ¬ (j = 11 ∧ i = C) → ¬ (j = 12 ∧ C ≤ i) → ma sg' j i = ma sg j i) ∧ (∀ i q, l[i]? = some q → ma sg' 13 (n + i) = nI q.1 ∧ ma sg' 14 (n + i) = nI q.2.1 ∧ ma sg' 15 (n + i) = q.2.2.1 ∧ ma sg' 16 (n + i) = q.2.2.2) ∧ mg sg' = mg sg
def kcO (r : List Nat) (l : List PRow) (o : Option (List Nat)) : Prop := (o = none ∧ (pComp r = none ∨ ∃ x r', pComp r = some (x, r') ∧ isPS (hdN r') = true)) ∨ ∃ x r', o = some r' ∧ pComp r = some (x, r') ∧ isPS (hdN r') = false ∧ compR l x ∧ l.length + r'.length ≤ r.length
def kcQ (sg : ZM) (f n C c : Nat) (r : List Nat) (w : ZW) : ZQ := fun v w' sg' => v = none ∧ w = w' ∧ ∃ l o, kcG sg sg' n l C c ∧ n + l.length ≤ 129 ∧ cuO sg' f 680 o ∧ kcO r l o
theorem comp_eq (r : List Nat) : pComp r = (match pOutL (some pExcl) 4 [] [] (pHead r).2.1 (pHead r).2.2 with
  | none => none
  | some (ps, es, o2, r2) => if o2 = true then some (((pHead r).1, ps, es), r2) else none) := rfl
theorem rk_110 (E : ZE) (mo : Nat) (hm : E.2.2.2.2 = some mo) (w : ZW) (sg : ZM) (d f cnt C p : Nat) (hd : 3 ≤ d) (hcn : cnt < 100) (hC : C + 1 < 130) (o : Option (List Nat)) (x1 : Value) (x3 : Value) (h18 : mi sg 18 = nI (C + 1)) (h21 : mi sg 21 = nI p) (h : cuO sg f 690 o) : RW E MX10_readCompound 110 [some (.ref mo), some x1, some (.int (nI cnt)), some x3] [] w sg d 0 0 (PN E (fun v w' sg' => v = none ∧ w = w' ∧ ∃ sg1, mvC sg sg1 ∧ sg' = msa sg1 12 (C + 1) (nI p) ∧ cuO sg1 f 690 (bndO o fun r => if 0 < cnt then some r else none))) := by
  have hmust := fun b => o_must E mo hm w sg (d - 1) f 690 (by decide) b o h
  have h1 := hmust true
  have h0 := hmust false
  refine r_aload_n dX10_readCompound_110 rfl (zRv_ref _) rfl ?_
  refine r_iload_n dX10_readCompound_111 rfl rfl ?_
  refine r_if_leN (by omega) (r := 119) dX10_readCompound_112 (by decide) rfl (fun c_112 => ?_) (fun c_112 => ?_)
  · refine r_iconst dX10_readCompound_119 kc_0 rfl ?_
    refine r_callV MX10_must 1 [_] lvX10_180 (Or.inr (Or.inl ⟨hm, rfl⟩)) (h0) rfl rfl (by first | exact Nat.le_of_ble_eq_true rfl | (simp [zcat_rf, Value.category]; done)) (by omega) (Nat.le_of_eq (Nat.zero_add _)) (Nat.le_of_eq (Nat.zero_add _)) dX10_readCompound_120 rfl (fun v_ w_ sg_ hq_ => ?_)
    obtain ⟨rfl, rfl, v1, c1⟩ := hq_
    obtain ⟨sg1, hsg1⟩ : ∃ y, y = sg_ := ⟨_, rfl⟩
    subst hsg1
    have i18 : mi sg1 18 = nI (C + 1) := (v1.1 18 (by decide) (by decide)).trans h18
    have i21 : mi sg1 21 = nI p := (v1.1 21 (by decide) (by decide)).trans h21
    refine r_aload_n dX10_readCompound_123 rfl (zRv_ref _) rfl ?_
    refine m_geta hm 20 12 lfX10_44 rfl (by decide) dX10_readCompound_124 rfl ?_
    refine r_aload_n dX10_readCompound_127 rfl (zRv_ref _) rfl ?_
    refine m_getiv hm 18 lfX10_160 rfl (by first | (simp only [zGS, zMS, Nat.reduceEqDiff, OfNat.ofNat_ne_ofNat, false_and, and_false, true_and, and_true, and_self, if_true, if_false, ite_true, ite_false, reduceIte, reduceCtorEq]; first | done | assumption | rfl) | assumption | exact z2_eq | exact z1_eq | (simp [zGS, zMS]; first | done | assumption) | rfl) dX10_readCompound_128 rfl ?_
    refine r_aload_n dX10_readCompound_131 rfl (zRv_ref _) rfl ?_
    refine m_getiv hm 21 lfX10_163 rfl (by first | (simp only [zGS, zMS, Nat.reduceEqDiff, OfNat.ofNat_ne_ofNat, false_and, and_false, true_and, and_true, and_self, if_true, if_false, ite_true, ite_false, reduceIte, reduceCtorEq]; first | done | assumption | rfl) | assumption | exact z2_eq | exact z1_eq | (simp [zGS, zMS]; first | done | assumption) | rfl) dX10_readCompound_132 rfl ?_
    refine m_iast hm 12 _ (by decide) (by decide) rfl rfl (by show _ < 130; omega) dX10_readCompound_135 rfl ?_
    refine r_vret rfl dX10_readCompound_136 ?_
    refine ⟨rfl, rfl, sg1, v1, rfl, ?_⟩
    have e : (bndO o fun r => if false = true then some r else none) = (bndO o fun r => if 0 < cnt then some r else none) := by
      cases o with
      | none => rfl
      | some r => show none = (if 0 < cnt then some r else none); rw [if_neg (by omega)]
    rw [← e]
    exact c1
  · refine r_iconst dX10_readCompound_115 kc_1 rfl ?_
    refine r_goto (r := 120) dX10_readCompound_116 (by decide) ?_
    refine r_callV MX10_must 1 [_] lvX10_180 (Or.inr (Or.inl ⟨hm, rfl⟩)) (h1) rfl rfl (by first | exact Nat.le_of_ble_eq_true rfl | (simp [zcat_rf, Value.category]; done)) (by omega) (Nat.le_of_eq (Nat.zero_add _)) (Nat.le_of_eq (Nat.zero_add _)) dX10_readCompound_120 rfl (fun v_ w_ sg_ hq_ => ?_)
    obtain ⟨rfl, rfl, v1, c1⟩ := hq_
    obtain ⟨sg1, hsg1⟩ : ∃ y, y = sg_ := ⟨_, rfl⟩
    subst hsg1
    have i18 : mi sg1 18 = nI (C + 1) := (v1.1 18 (by decide) (by decide)).trans h18
    have i21 : mi sg1 21 = nI p := (v1.1 21 (by decide) (by decide)).trans h21
    refine r_aload_n dX10_readCompound_123 rfl (zRv_ref _) rfl ?_
    refine m_geta hm 20 12 lfX10_44 rfl (by decide) dX10_readCompound_124 rfl ?_
    refine r_aload_n dX10_readCompound_127 rfl (zRv_ref _) rfl ?_
    refine m_getiv hm 18 lfX10_160 rfl (by first | (simp only [zGS, zMS, Nat.reduceEqDiff, OfNat.ofNat_ne_ofNat, false_and, and_false, true_and, and_true, and_self, if_true, if_false, ite_true, ite_false, reduceIte, reduceCtorEq]; first | done | assumption | rfl) | assumption | exact z2_eq | exact z1_eq | (simp [zGS, zMS]; first | done | assumption) | rfl) dX10_readCompound_128 rfl ?_
    refine r_aload_n dX10_readCompound_131 rfl (zRv_ref _) rfl ?_
    refine m_getiv hm 21 lfX10_163 rfl (by first | (simp only [zGS, zMS, Nat.reduceEqDiff, OfNat.ofNat_ne_ofNat, false_and, and_false, true_and, and_true, and_self, if_true, if_false, ite_true, ite_false, reduceIte, reduceCtorEq]; first | done | assumption | rfl) | assumption | exact z2_eq | exact z1_eq | (simp [zGS, zMS]; first | done | assumption) | rfl) dX10_readCompound_132 rfl ?_
    refine m_iast hm 12 _ (by decide) (by decide) rfl rfl (by show _ < 130; omega) dX10_readCompound_135 rfl ?_
    refine r_vret rfl dX10_readCompound_136 ?_
    refine ⟨rfl, rfl, sg1, v1, rfl, ?_⟩
    have e : (bndO o fun r => if true = true then some r else none) = (bndO o fun r => if 0 < cnt then some r else none) := by
      cases o with
      | none => rfl
      | some r => show some r = (if 0 < cnt then some r else none); rw [if_pos (by omega)]
    rw [← e]
    exact c1
/-- the cursor under writes into the tables -/
theorem cuO.tab {sg sg' : ZM} {f m : Nat} {o : Option (List Nat)} (h : cuO sg f m o) (h7 : ∀ i, ma sg' 7 i = ma sg 7 i) (h12 : mi sg' 12 = mi sg 12) (h13 : mi sg' 13 = mi sg 13) (h14 : mi sg' 14 = mi sg 14) (h15 : mi sg' 15 = mi sg 15) : cuO sg' f m o := by
  have hc : ∀ i, chN sg' i = chN sg i := fun i => by unfold chN; rw [h7]
  have key : ∀ a e g, crI sg a e g → crI sg' a e g := fun a e g ⟨q1, q2, q3, q4, q5, q6⟩ => ⟨fun i hi => by rw [h7]; exact q1 i hi, h14.trans q2, h13.trans q3, h15.trans q4, q5, q6⟩
  cases o with
  | none =>
    have h0 : cuB sg f m := h
    obtain ⟨a, e, h1, h2, h3⟩ := h0
    exact ⟨a, e, key _ _ _ h1, h12.trans h2, h3⟩
  | some r =>
    have h0 : cuG sg f r := h
    obtain ⟨a, h1, h2, h3, h4, h5, h6, h9⟩ := h0
    exact ⟨a, key _ _ _ h1, h12.trans h2, h3, h4, h5, fun i c q => by rw [hc]; exact h6 i c q, h9⟩
theorem kc_fin {sg sg1 sg4 sg9 : ZM} {n C c : Nat} {l : List PRow} (a1 : ∀ j, j ≠ 18 → j ≠ 26 → mi sg1 j = mi sg j) (a2 : mi sg1 18 = nI (C + 1)) (a4 : ∀ j i, ma sg1 j i = if j = 12 ∧ i = C then nI n else if j = 11 ∧ i = C then nI c else ma sg j i) (a5 : mg sg1 = mg sg) (G : grG sg1 sg4 n l) (hs : sg9 = msa sg4 12 (C + 1) (nI (n + l.length))) : kcG sg sg9 n l C c := by
  obtain ⟨g1, g2, g3, g4, g5⟩ := G
  have m9 : ∀ j, mi sg9 j = mi sg4 j := fun j => by rw [hs]; rfl
  have b9 : ∀ j i, ma sg9 j i = if j = 12 ∧ i = C + 1 then nI (n + l.length) else ma sg4 j i := fun j i => by rw [hs]; rfl
  refine ⟨fun j q1 q2 q3 q4 q5 => (m9 j).trans ((g1 j q1 q2 q4 q5).trans (a1 j q3 q5)), ⟨(m9 _).trans ((g1 18 (by decide) (by decide) (by decide) (by decide)).trans a2), (m9 _).trans g2⟩, ⟨?_, ?_, ?_⟩, fun j i q1 q2 q3 => ?_, fun i q hq => ?_, ?_⟩
  · rw [b9, if_neg (by omega), g3 11 C (by omega), a4, if_neg (by omega), if_pos ⟨rfl, rfl⟩]
  · rw [b9, if_neg (by omega), g3 12 C (by omega), a4, if_pos ⟨rfl, rfl⟩]
  · rw [b9, if_pos ⟨rfl, rfl⟩]
  · rw [b9, if_neg (fun z => q3 ⟨z.1, by omega⟩), g3 j i q1, a4, if_neg (fun z => q3 ⟨z.1, by omega⟩), if_neg q2]
  · obtain ⟨e1, e2, e3, e4⟩ := g4 i q hq
    rw [b9, if_neg (by omega), b9, if_neg (by omega), b9, if_neg (by omega), b9, if_neg (by omega)]
    exact ⟨e1, e2, e3, e4⟩
  · rw [hs]
    exact g5.trans a5
theorem rk_54x (E : ZE) (mo : Nat) (hm : E.2.2.2.2 = some mo) (w : ZW) (sg sg1 sg3 : ZM) (d f n C c cnt : Nat) (hd : 11 ≤ d) (hC : C + 1 < 130) (r : List Nat) (hn : n + r.length ≤ 125) (a1 : ∀ j, j ≠ 18 → j ≠ 26 → mi sg1 j = mi sg j) (a2 : mi sg1 18 = nI (C + 1)) (a3 : mi sg1 26 = nI 0) (a4 : ∀ j i, ma sg1 j i = if j = 12 ∧ i = C then nI n else if j = 11 ∧ i = C then nI c else ma sg j i) (a5 : mg sg1 = mg sg) (p3 : grP sg1 sg3 n (hdRow 0 (pHead r).1 (pHead r).2.1)) (c3 : cuG sg3 f (pHead r).2.2) (hcnt : cnt = if (pHead r).2.1 = true then 1 else 0) : RW E MX10_readCompound 54 [some (.ref mo), some (.int (nI c)), some (.int (nI cnt)), some (.int (nI 0))] [] w sg3 d 0 0 (PN E (kcQ sg f n C c r w)) := by
  have hlen := hdRow_len 0 r
  have h26 : mi sg3 26 = nI 0 := (p3.1 26 (by decide) (by decide) (by decide)).trans a3
  have hc1 : cnt ≤ 1 := by rw [hcnt]; split <;> decide
  refine rk_54 E mo hm w d f (by omega) _ _ 4 0 sg3 (n + (hdRow 0 (pHead r).1 (pHead r).2.1).length) cnt 0 [] [] (pHead r).2.1 (pHead r).2.2 rfl c3 p3.2.1 h26 (by omega) (by omega) ?_ ⟨rfl, rfl⟩ (fun sg' l cnt' o' x3 y1 y3 y4 y5 y6 => ?_)
  · rw [hcnt]
    cases (pHead r).2.1
    · exact ⟨fun q => (by cases q), fun q => absurd q (by decide)⟩
    · exact ⟨fun _ => by decide, fun _ => rfl⟩
  · have i18 : mi sg' 18 = nI (C + 1) := (y1.1 18 (by decide) (by decide) (by decide) (by decide)).trans ((p3.1 18 (by decide) (by decide) (by decide)).trans a2)
    refine RW.qmono (rk_110 E mo hm w sg' d f cnt' C (n + (hdRow 0 (pHead r).1 (pHead r).2.1).length + l.length) (by omega) (by omega) hC o' _ _ i18 y1.2.1 y5) ?_
    rintro v w' sg9 ⟨q1, q2, sg4, v4, hs9, c4⟩
    have hll : (hdRow 0 (pHead r).1 (pHead r).2.1 ++ l).length = (hdRow 0 (pHead r).1 (pHead r).2.1).length + l.length := List.length_append
    have hG : grG sg1 sg4 n (hdRow 0 (pHead r).1 (pHead r).2.1 ++ l) := (p3.g.tr y1).mv v4
    refine ⟨q1, q2, _, _, kc_fin a1 a2 a4 a5 hG (by rw [hs9, hll, Nat.add_assoc]), by omega, (c4.mono (by decide)).tab (fun i => by rw [hs9, ma_msa, if_neg (by omega)]) (by rw [hs9]; rfl) (by rw [hs9]; rfl) (by rw [hs9]; rfl) (by rw [hs9]; rfl), ?_⟩
    unfold kcO
    rw [comp_eq]
    rcases y6 with ⟨rfl, z | ⟨ps, es, o2, r2, z1, z2⟩⟩ | ⟨ev, G, o2, r2, rfl, z1, z2, z3, z4, z5⟩
    · refine Or.inl ⟨rfl, Or.inl ?_⟩
      rw [show evP [] = [] from rfl, show evE [] = [] from rfl] at z
      rw [z]
    · rw [show evP [] = [] from rfl, show evE [] = [] from rfl] at z1
      rw [z1]
      refine Or.inl ⟨rfl, ?_⟩
      by_cases ho : o2 = true
      · simp only [if_pos ho]
        exact Or.inr ⟨_, _, rfl, z2⟩
      · simp only [if_neg ho]
        exact Or.inl trivial
    · rw [show evP [] = [] from rfl, show evE [] = [] from rfl] at z1
      rw [z1]
      by_cases ho : o2 = true
      · simp only [if_pos ho]
        refine Or.inr ⟨_, r2, ?_, rfl, z2, ⟨(pHead r).2.1, ev, G, l, rfl, fun q => ?_, by rw [List.nil_append] at z4; exact z4, rfl, rfl⟩, by rw [hll]; omega⟩
        · show (if 0 < cnt' then some r2 else none) = _
          rw [if_pos (z3.mp ho)]
        · cases hq : (pHead r).2.1 with
          | true => rfl
          | false => exact absurd (pHead_t0 r hq) q
      · simp only [if_neg ho]
        refine Or.inl ⟨?_, Or.inl trivial⟩
        show (if 0 < cnt' then some r2 else none) = _
        rw [if_neg (fun q => ho (z3.mpr q))]
theorem p_readCompound (E : ZE) (mo : Nat) (hm : E.2.2.2.2 = some mo) (w : ZW) (sg : ZM) (d f n C c : Nat) (hd : 11 ≤ d) (hc : c < 128) (hC : C + 1 < 130) (r : List Nat) (h21 : mi sg 21 = nI n) (h18 : mi sg 18 = nI C) (hn : n + r.length ≤ 125) (h : cuG sg f r) : CallQ E MX10_readCompound [.ref mo, .int (nI c)] w sg d 0 0 (kcQ sg f n C c r w) := by
  obtain ⟨sg1, hsg1⟩ : ∃ y, y = msi (msi (msa (msa sg 11 C (nI c)) 12 C (nI n)) 18 (nI (C + 1))) 26 (nI 0) := ⟨_, rfl⟩
  have a1 : ∀ j, j ≠ 18 → j ≠ 26 → mi sg1 j = mi sg j := fun j q1 q2 => by rw [hsg1, mi_msi, if_neg q2, mi_msi, if_neg q1]; rfl
  have a2 : mi sg1 18 = nI (C + 1) := by rw [hsg1, mi_msi, if_neg (by decide), mi_msi, if_pos rfl]
  have a3 : mi sg1 26 = nI 0 := by rw [hsg1, mi_msi, if_pos rfl]
  have a4 : ∀ j i, ma sg1 j i = if j = 12 ∧ i = C then nI n else if j = 11 ∧ i = C then nI c else ma sg j i := fun j i => by rw [hsg1]; rfl
  have a5 : mg sg1 = mg sg := by rw [hsg1]; rfl
  have c1 : cuO sg1 f 790 (some r) := (cuO.z (m := 790) h).tab (fun i => by rw [a4, if_neg (by omega), if_neg (by omega)]) (a1 _ (by decide) (by decide)) (a1 _ (by decide) (by decide)) (a1 _ (by decide) (by decide)) (a1 _ (by decide) (by decide))
  have i21 : mi sg1 21 = nI n := (a1 _ (by decide) (by decide)).trans h21
  have hhd := o_readHead E mo hm w sg1 (d - 1) f 788 n 0 (by omega) (by decide) (by omega) (some r) i21 c1
  refine CallQ.of rfl (by simp [Value.category]) (Nat.le_of_ble_eq_true rfl) ?_
  refine r_aload_n dX10_readCompound_0 rfl (zRv_ref _) rfl ?_
  refine m_geta hm 19 11 lfX10_41 rfl (by decide) dX10_readCompound_1 rfl ?_
  refine r_aload_n dX10_readCompound_4 rfl (zRv_ref _) rfl ?_
  refine m_getiv hm 18 lfX10_160 rfl (by first | (simp only [zGS, zMS, Nat.reduceEqDiff, OfNat.ofNat_ne_ofNat, false_and, and_false, true_and, and_true, and_self, if_true, if_false, ite_true, ite_false, reduceIte, reduceCtorEq]; first | done | assumption | rfl) | assumption | exact z2_eq | exact z1_eq | (simp [zGS, zMS]; first | done | assumption) | rfl) dX10_readCompound_5 rfl ?_
  refine r_iload_n dX10_readCompound_8 rfl rfl ?_
  refine m_cast hm 11 _ (by first | exact zch_nar (by omega) | assumption | (simp only [*]; exact zch_nar (by omega))) (by decide) (by decide) rfl rfl (by show _ < 130; omega) dX10_readCompound_9 rfl ?_
  refine r_aload_n dX10_readCompound_10 rfl (zRv_ref _) rfl ?_
  refine m_geta hm 20 12 lfX10_44 rfl (by decide) dX10_readCompound_11 rfl ?_
  refine r_aload_n dX10_readCompound_14 rfl (zRv_ref _) rfl ?_
  refine m_getiv hm 18 lfX10_160 rfl (by first | (simp only [zGS, zMS, Nat.reduceEqDiff, OfNat.ofNat_ne_ofNat, false_and, and_false, true_and, and_true, and_self, if_true, if_false, ite_true, ite_false, reduceIte, reduceCtorEq]; first | done | assumption | rfl) | assumption | exact z2_eq | exact z1_eq | (simp [zGS, zMS]; first | done | assumption) | rfl) dX10_readCompound_15 rfl ?_
  refine r_aload_n dX10_readCompound_18 rfl (zRv_ref _) rfl ?_
  refine m_getiv hm 21 lfX10_163 rfl (by first | (simp only [zGS, zMS, Nat.reduceEqDiff, OfNat.ofNat_ne_ofNat, false_and, and_false, true_and, and_true, and_self, if_true, if_false, ite_true, ite_false, reduceIte, reduceCtorEq]; first | done | assumption | rfl) | assumption | exact z2_eq | exact z1_eq | (simp [zGS, zMS]; first | done | assumption) | rfl) dX10_readCompound_19 rfl ?_
  refine m_iast hm 12 _ (by decide) (by decide) rfl rfl (by show _ < 130; omega) dX10_readCompound_22 rfl ?_
  refine r_aload_n dX10_readCompound_23 rfl (zRv_ref _) rfl ?_
  refine r_dup dX10_readCompound_24 (by first | rfl | exact zcat_rf _) rfl ?_
  refine m_getiv hm 18 lfX10_160 rfl (by first | (simp only [zGS, zMS, Nat.reduceEqDiff, OfNat.ofNat_ne_ofNat, false_and, and_false, true_and, and_true, and_self, if_true, if_false, ite_true, ite_false, reduceIte, reduceCtorEq]; first | done | assumption | rfl) | assumption | exact z2_eq | exact z1_eq | (simp [zGS, zMS]; first | done | assumption) | rfl) dX10_readCompound_25 rfl ?_
  refine r_iconst dX10_readCompound_28 kc_1 rfl ?_
  refine r_iaddN dX10_readCompound_29 rfl ?_
  refine m_puti hm 18 lfX10_160 rfl rfl rfl dX10_readCompound_30 rfl ?_
  refine r_aload_n dX10_readCompound_33 rfl (zRv_ref _) rfl ?_
  refine r_iconst dX10_readCompound_34 kc_0 rfl ?_
  refine m_puti hm 26 lfX10_208 rfl rfl rfl dX10_readCompound_35 rfl ?_
  rw [← hsg1]
  refine r_aload_n dX10_readCompound_38 rfl (zRv_ref _) rfl ?_
  refine r_iconst dX10_readCompound_39 kc_0 rfl ?_
  refine r_callV MX10_readHead 1 [_] lvX10_211 (Or.inr (Or.inl ⟨hm, rfl⟩)) (hhd) rfl rfl (by first | exact Nat.le_of_ble_eq_true rfl | (simp [zcat_rf, Value.category]; done)) (by omega) (Nat.le_of_eq (Nat.zero_add _)) (Nat.le_of_eq (Nat.zero_add _)) dX10_readCompound_40 rfl (fun v_ w_ sg_ hq_ => ?_)
  obtain ⟨rfl, l, b, o3, hl, rfl, p3, c3, hnone, hsome⟩ := hq_
  obtain ⟨sg3, hsg3⟩ : ∃ y, y = sg_ := ⟨_, rfl⟩
  subst hsg3
  refine r_if_eqB (r := 50) dX10_readCompound_43 (by decide) rfl (fun c_43 => ?_) (fun c_43 => ?_)
  · refine r_iconst dX10_readCompound_50 kc_0 rfl ?_
    refine r_istore_n (ls' := [_, _, _, _]) dX10_readCompound_51 (Nat.le_of_ble_eq_true rfl) rfl rfl ?_
    refine r_iconst dX10_readCompound_52 kc_0 rfl ?_
    refine r_istore_n (ls' := [_, _, _, _]) dX10_readCompound_53 (Nat.le_of_ble_eq_true rfl) rfl rfl ?_
    obtain ⟨e1, e2, e3⟩ := hsome r rfl
    subst e1
    subst e3
    exact rk_54x E mo hm w sg sg1 sg3 d f n C c 0 hd hC r hn a1 a2 a3 a4 a5 p3 c3 (by rw [← e2, c_43]; rfl)
  · refine r_iconst dX10_readCompound_46 kc_1 rfl ?_
    refine r_goto (r := 51) dX10_readCompound_47 (by decide) ?_
    refine r_istore_n (ls' := [_, _, _, _]) dX10_readCompound_51 (Nat.le_of_ble_eq_true rfl) rfl rfl ?_
    refine r_iconst dX10_readCompound_52 kc_0 rfl ?_
    refine r_istore_n (ls' := [_, _, _, _]) dX10_readCompound_53 (Nat.le_of_ble_eq_true rfl) rfl rfl ?_
    obtain ⟨e1, e2, e3⟩ := hsome r rfl
    subst e1
    subst e3
    exact rk_54x E mo hm w sg sg1 sg3 d f n C c 1 hd hC r hn a1 a2 a3 a4 a5 p3 c3 (by rw [← e2, c_43]; rfl)
