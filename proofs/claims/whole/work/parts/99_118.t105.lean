/-! ===== the model: the parts of a compound ===== -/
abbrev PEv : Type := PPart ⊕ PBare
def evP : List PEv → List PPart
  | [] => []
  | .inl p :: ev => p :: evP ev
  | .inr _ :: ev => evP ev
def evE : List PEv → List PBare
  | [] => []
  | .inl _ :: ev => evE ev
  | .inr b :: ev => b :: evE ev
/-- rows for what was read, the last first; g groups have been -/
def kvR : List PEv → Nat → List PRow → Prop
  | [], g, l => g = 0 ∧ l = []
  | .inl p :: ev, g, l => ∃ l0 q, l = l0 ++ [q] ∧ kvR ev g l0 ∧ rwR 0 p q
  | .inr b :: ev, g, l => ∃ g0 l0 lb, (g = g0 + 1 ∧ g ≤ 4) ∧ l = l0 ++ lb ∧ kvR ev g0 l0 ∧ bareR g b lb
def kpQ (n : Nat) (l0 : List PRow) (ev0 : List PEv) (o0 : Bool) (j : Nat) (r : List Nat) (l : List PRow) (cnt : Nat) (o : Option (List Nat)) : Prop := (o = none ∧ (pOutL (some pExcl) j (evP ev0) (evE ev0) o0 r = none ∨ ∃ ps es o2 r2, pOutL (some pExcl) j (evP ev0) (evE ev0) o0 r = some (ps, es, o2, r2) ∧ isPS (hdN r2) = true)) ∨ ∃ ev G o2 r2, o = some r2 ∧ pOutL (some pExcl) j (evP ev0) (evE ev0) o0 r = some (evP ev, evE ev, o2, r2) ∧ isPS (hdN r2) = false ∧ (o2 = true ↔ 0 < cnt) ∧ kvR ev G (l0 ++ l) ∧ l.length + r2.length ≤ r.length
theorem pOutX_s {j c : Nat} {ps : List PPart} {es : List PBare} {o : Bool} {r1 : List Nat} (h : isPS c = true) (h2 : ¬ (c = 58 ∧ r1.head? = some 120)) : pOutL (some pExcl) (j + 1) ps es o (c :: r1) = (match pSimple c r1 with
  | none => none
  | some (p, r2) => pOutL (some pExcl) j (p :: ps) es true r2) := by
  show (if isPS c = true then (match pPart (some pExcl) c r1 ps es with
    | none => none
    | some (ps2, es2, r2) => pOutL (some pExcl) j ps2 es2 true r2) else _) = _
  rw [if_pos h]
  unfold pPart
  simp only []
  rw [if_neg h2]
  cases pSimple c r1 with
  | none => rfl
  | some q => rfl
theorem pOutX_x {j c : Nat} {ps : List PPart} {es : List PBare} {o : Bool} {r1 : List Nat} (h : isPS c = true) (h2 : c = 58 ∧ r1.head? = some 120) : pOutL (some pExcl) (j + 1) ps es o (c :: r1) = (match pExcl r1.tail with
  | none => none
  | some (b, r2) => pOutL (some pExcl) j ps (b :: es) true r2) := by
  show (if isPS c = true then (match pPart (some pExcl) c r1 ps es with
    | none => none
    | some (ps2, es2, r2) => pOutL (some pExcl) j ps2 es2 true r2) else _) = _
  rw [if_pos h]
  unfold pPart
  simp only []
  rw [if_pos h2]
  cases pExcl r1.tail with
  | none => rfl
  | some q => rfl
theorem rk_54b (E : ZE) (mo : Nat) (hm : E.2.2.2.2 = some mo) (w : ZW) (sg : ZM) (d : Nat) (x1 : Value) (cnt k : Nat) (P : ZPhi) (h : mi sg 15 = zb false) (K : RW E MX10_readCompound 110 [some (.ref mo), some x1, some (.int (nI cnt)), some (.int (nI k))] [] w sg d 0 0 P) : RW E MX10_readCompound 54 [some (.ref mo), some x1, some (.int (nI cnt)), some (.int (nI k))] [] w sg d 0 0 P := by
  refine r_aload_n dX10_readCompound_54 rfl (zRv_ref _) rfl ?_
  refine m_getiv hm 15 lfX10_153 rfl (by first | (simp only [zGS, zMS, Nat.reduceEqDiff, OfNat.ofNat_ne_ofNat, false_and, and_false, true_and, and_true, and_self, if_true, if_false, ite_true, ite_false, reduceIte, reduceCtorEq]; first | done | assumption | rfl) | assumption | exact z2_eq | exact z1_eq | (simp [zGS, zMS]; first | done | assumption) | rfl) dX10_readCompound_55 rfl ?_
  refine r_if_eqB (r := 110) dX10_readCompound_58 (by decide) rfl (fun c_58 => ?_) (fun c_58 => ?_)
  · exact K
  · cases c_58
theorem rk_54 (E : ZE) (mo : Nat) (hm : E.2.2.2.2 = some mo) (w : ZW) (d f : Nat) (hd : 10 ≤ d) (x1 : Value) (P : ZPhi) : ∀ (j k : Nat) (sg : ZM) (n cnt G : Nat) (l0 : List PRow) (ev0 : List PEv) (o0 : Bool) (r : List Nat), k + j = 4 → cuG sg f r → mi sg 21 = nI n → mi sg 26 = nI G → G + j ≤ 4 → n + r.length ≤ 125 → (o0 = true ↔ 0 < cnt) → kvR ev0 G l0 → (∀ sg' l cnt' o' x3, grG sg sg' n l → n + l.length ≤ 129 → cnt' ≤ cnt + j + 1 → cuO sg' f 690 o' → kpQ n l0 ev0 o0 j r l cnt' o' → RW E MX10_readCompound 110 [some (.ref mo), some x1, some (.int (nI cnt')), some (.int x3)] [] w sg' d 0 0 P) → RW E MX10_readCompound 54 [some (.ref mo), some x1, some (.int (nI cnt)), some (.int (nI k))] [] w sg d 0 0 P := by
  intro j
  induction j with
  | zero =>
    intro k sg n cnt G l0 ev0 o0 r hk h h21 h26 hG hn ho hL K
    have hk4 : k = 4 := by omega
    subst hk4
    have g0 : mi sg 15 = zb true := (cuO.z (m := 0) h).g
    have hbp := p_beginsPart E mo hm w sg (d - 1) f (by omega) r h
    have hm0 := o_must E mo hm w sg (d - 1) f 790 (by decide) false (some r) (cuO.z h)
    cases hps : isPS (hdN r) with
    | false =>
      rw [hps] at hbp
      refine r_aload_n dX10_readCompound_54 rfl (zRv_ref _) rfl ?_
      refine m_getiv hm 15 lfX10_153 rfl (by first | (simp only [zGS, zMS, Nat.reduceEqDiff, OfNat.ofNat_ne_ofNat, false_and, and_false, true_and, and_true, and_self, if_true, if_false, ite_true, ite_false, reduceIte, reduceCtorEq]; first | done | assumption | rfl) | assumption | exact z2_eq | exact z1_eq | (simp [zGS, zMS]; first | done | assumption) | rfl) dX10_readCompound_55 rfl ?_
      refine r_if_eqB (r := 110) dX10_readCompound_58 (by decide) rfl (fun c_58 => ?_) (fun c_58 => ?_)
      · cases c_58
      · refine r_aload_n dX10_readCompound_61 rfl (zRv_ref _) rfl ?_
        refine r_callV MX10_beginsPart 0 [] lvX10_215 (Or.inr (Or.inl ⟨hm, rfl⟩)) (hbp) rfl rfl (by first | exact Nat.le_of_ble_eq_true rfl | (simp [zcat_rf, Value.category]; done)) (by omega) (Nat.le_of_eq (Nat.zero_add _)) (Nat.le_of_eq (Nat.zero_add _)) dX10_readCompound_62 rfl (fun v_ w_ sg_ hq_ => ?_)
        obtain ⟨rfl, rfl, rfl⟩ := hq_
        refine r_if_eqB (r := 110) dX10_readCompound_65 (by decide) rfl (fun c_65 => ?_) (fun c_65 => ?_)
        · exact K sg [] cnt (some r) _ (mvC.rf.g h21) (by rw [List.length_nil]; omega) (by omega) (cuO.z h) (Or.inr ⟨ev0, G, o0, r, rfl, pOutL_stop hps, hps, ho, by rw [List.append_nil]; exact hL, by rw [List.length_nil]; omega⟩)
        · cases c_65
    | true =>
      rw [hps] at hbp
      refine r_aload_n dX10_readCompound_54 rfl (zRv_ref _) rfl ?_
      refine m_getiv hm 15 lfX10_153 rfl (by first | (simp only [zGS, zMS, Nat.reduceEqDiff, OfNat.ofNat_ne_ofNat, false_and, and_false, true_and, and_true, and_self, if_true, if_false, ite_true, ite_false, reduceIte, reduceCtorEq]; first | done | assumption | rfl) | assumption | exact z2_eq | exact z1_eq | (simp [zGS, zMS]; first | done | assumption) | rfl) dX10_readCompound_55 rfl ?_
      refine r_if_eqB (r := 110) dX10_readCompound_58 (by decide) rfl (fun c_58 => ?_) (fun c_58 => ?_)
      · cases c_58
      · refine r_aload_n dX10_readCompound_61 rfl (zRv_ref _) rfl ?_
        refine r_callV MX10_beginsPart 0 [] lvX10_215 (Or.inr (Or.inl ⟨hm, rfl⟩)) (hbp) rfl rfl (by first | exact Nat.le_of_ble_eq_true rfl | (simp [zcat_rf, Value.category]; done)) (by omega) (Nat.le_of_eq (Nat.zero_add _)) (Nat.le_of_eq (Nat.zero_add _)) dX10_readCompound_62 rfl (fun v_ w_ sg_ hq_ => ?_)
        obtain ⟨rfl, rfl, rfl⟩ := hq_
        refine r_if_eqB (r := 110) dX10_readCompound_65 (by decide) rfl (fun c_65 => ?_) (fun c_65 => ?_)
        · cases c_65
        · refine r_aload_n dX10_readCompound_68 rfl (zRv_ref _) rfl ?_
          refine r_iload_n dX10_readCompound_69 rfl rfl ?_
          refine r_iconst dX10_readCompound_70 kc_4 rfl ?_
          refine r_icmp_geN (by omega) (by omega) (r := 78) dX10_readCompound_71 (by decide) rfl (fun c_71 => ?_) (fun c_71 => ?_)
          · refine r_iconst dX10_readCompound_78 kc_0 rfl ?_
            refine r_callV MX10_must 1 [_] lvX10_180 (Or.inr (Or.inl ⟨hm, rfl⟩)) (hm0) rfl rfl (by first | exact Nat.le_of_ble_eq_true rfl | (simp [zcat_rf, Value.category]; done)) (by omega) (Nat.le_of_eq (Nat.zero_add _)) (Nat.le_of_eq (Nat.zero_add _)) dX10_readCompound_79 rfl (fun v_ w_ sg_ hq_ => ?_)
            obtain ⟨rfl, rfl, v1, c1⟩ := hq_
            obtain ⟨sg1, hsg1⟩ : ∃ y, y = sg_ := ⟨_, rfl⟩
            subst hsg1
            have g1 : mi sg1 15 = zb false := c1.g
            refine r_aload_n dX10_readCompound_82 rfl (zRv_ref _) rfl ?_
            refine m_getiv hm 15 lfX10_153 rfl (by first | (simp only [zGS, zMS, Nat.reduceEqDiff, OfNat.ofNat_ne_ofNat, false_and, and_false, true_and, and_true, and_self, if_true, if_false, ite_true, ite_false, reduceIte, reduceCtorEq]; first | done | assumption | rfl) | assumption | exact z2_eq | exact z1_eq | (simp [zGS, zMS]; first | done | assumption) | rfl) dX10_readCompound_83 rfl ?_
            refine r_if_eqB (r := 101) dX10_readCompound_86 (by decide) rfl (fun c_86 => ?_) (fun c_86 => ?_)
            · refine r_iinc (ls' := [_, _, _, _]) dX10_readCompound_101 (Nat.le_of_ble_eq_true rfl) rfl (zinc1 _) rfl rfl ?_
              refine r_iinc (ls' := [_, _, _, _]) dX10_readCompound_104 (Nat.le_of_ble_eq_true rfl) rfl (zinc1 _) rfl rfl ?_
              refine r_goto (r := 54) dX10_readCompound_107 (by decide) ?_
              exact rk_54b E mo hm w sg1 d _ _ _ P g1 (K sg1 [] (cnt + 1) none _ (v1.g h21) (by rw [List.length_nil]; omega) (by omega) (c1.mono (by decide)) (Or.inl ⟨rfl, Or.inr ⟨_, _, o0, r, rfl, hps⟩⟩))
            · cases c_86
          · exact absurd c_71 (by omega)
  | succ j ih =>
    intro k sg n cnt G l0 ev0 o0 r hk h h21 h26 hG hn ho hL K
    have g0 : mi sg 15 = zb true := (cuO.z (m := 0) h).g
    have hbp := p_beginsPart E mo hm w sg (d - 1) f (by omega) r h
    have hm1 := o_must E mo hm w sg (d - 1) f 790 (by decide) true (some r) (cuO.z h)
    cases hps : isPS (hdN r) with
    | false =>
      rw [hps] at hbp
      refine r_aload_n dX10_readCompound_54 rfl (zRv_ref _) rfl ?_
      refine m_getiv hm 15 lfX10_153 rfl (by first | (simp only [zGS, zMS, Nat.reduceEqDiff, OfNat.ofNat_ne_ofNat, false_and, and_false, true_and, and_true, and_self, if_true, if_false, ite_true, ite_false, reduceIte, reduceCtorEq]; first | done | assumption | rfl) | assumption | exact z2_eq | exact z1_eq | (simp [zGS, zMS]; first | done | assumption) | rfl) dX10_readCompound_55 rfl ?_
      refine r_if_eqB (r := 110) dX10_readCompound_58 (by decide) rfl (fun c_58 => ?_) (fun c_58 => ?_)
      · cases c_58
      · refine r_aload_n dX10_readCompound_61 rfl (zRv_ref _) rfl ?_
        refine r_callV MX10_beginsPart 0 [] lvX10_215 (Or.inr (Or.inl ⟨hm, rfl⟩)) (hbp) rfl rfl (by first | exact Nat.le_of_ble_eq_true rfl | (simp [zcat_rf, Value.category]; done)) (by omega) (Nat.le_of_eq (Nat.zero_add _)) (Nat.le_of_eq (Nat.zero_add _)) dX10_readCompound_62 rfl (fun v_ w_ sg_ hq_ => ?_)
        obtain ⟨rfl, rfl, rfl⟩ := hq_
        refine r_if_eqB (r := 110) dX10_readCompound_65 (by decide) rfl (fun c_65 => ?_) (fun c_65 => ?_)
        · exact K sg [] cnt (some r) _ (mvC.rf.g h21) (by rw [List.length_nil]; omega) (by omega) (cuO.z h) (Or.inr ⟨ev0, G, o0, r, rfl, pOutL_stop hps, hps, ho, by rw [List.append_nil]; exact hL, by rw [List.length_nil]; omega⟩)
        · cases c_65
    | true =>
      rw [hps] at hbp
      cases r with
      | nil => cases hps
      | cons c r1 =>
        have hpc : isPS c = true := hps
        have hlen2 : (c :: r1).length = r1.length + 1 := List.length_cons
        refine r_aload_n dX10_readCompound_54 rfl (zRv_ref _) rfl ?_
        refine m_getiv hm 15 lfX10_153 rfl (by first | (simp only [zGS, zMS, Nat.reduceEqDiff, OfNat.ofNat_ne_ofNat, false_and, and_false, true_and, and_true, and_self, if_true, if_false, ite_true, ite_false, reduceIte, reduceCtorEq]; first | done | assumption | rfl) | assumption | exact z2_eq | exact z1_eq | (simp [zGS, zMS]; first | done | assumption) | rfl) dX10_readCompound_55 rfl ?_
        refine r_if_eqB (r := 110) dX10_readCompound_58 (by decide) rfl (fun c_58 => ?_) (fun c_58 => ?_)
        · cases c_58
        · refine r_aload_n dX10_readCompound_61 rfl (zRv_ref _) rfl ?_
          refine r_callV MX10_beginsPart 0 [] lvX10_215 (Or.inr (Or.inl ⟨hm, rfl⟩)) (hbp) rfl rfl (by first | exact Nat.le_of_ble_eq_true rfl | (simp [zcat_rf, Value.category]; done)) (by omega) (Nat.le_of_eq (Nat.zero_add _)) (Nat.le_of_eq (Nat.zero_add _)) dX10_readCompound_62 rfl (fun v_ w_ sg_ hq_ => ?_)
          obtain ⟨rfl, rfl, rfl⟩ := hq_
          refine r_if_eqB (r := 110) dX10_readCompound_65 (by decide) rfl (fun c_65 => ?_) (fun c_65 => ?_)
          · cases c_65
          · refine r_aload_n dX10_readCompound_68 rfl (zRv_ref _) rfl ?_
            refine r_iload_n dX10_readCompound_69 rfl rfl ?_
            refine r_iconst dX10_readCompound_70 kc_4 rfl ?_
            refine r_icmp_geN (by omega) (by omega) (r := 78) dX10_readCompound_71 (by decide) rfl (fun c_71 => ?_) (fun c_71 => ?_)
            · exact absurd c_71 (by omega)
            · refine r_iconst dX10_readCompound_74 kc_1 rfl ?_
              refine r_goto (r := 79) dX10_readCompound_75 (by decide) ?_
              refine r_callV MX10_must 1 [_] lvX10_180 (Or.inr (Or.inl ⟨hm, rfl⟩)) (hm1) rfl rfl (by first | exact Nat.le_of_ble_eq_true rfl | (simp [zcat_rf, Value.category]; done)) (by omega) (Nat.le_of_eq (Nat.zero_add _)) (Nat.le_of_eq (Nat.zero_add _)) dX10_readCompound_79 rfl (fun v_ w_ sg_ hq_ => ?_)
              obtain ⟨rfl, rfl, v1, c1⟩ := hq_
              obtain ⟨sg1, hsg1⟩ : ∃ y, y = sg_ := ⟨_, rfl⟩
              subst hsg1
              have c1g : cuG sg1 f (c :: r1) := c1
              have g1 : mi sg1 15 = zb true := c1.g
              have i21 : mi sg1 21 = nI n := (v1.1 21 (by decide) (by decide)).trans h21
              have i26 : mi sg1 26 = nI G := (v1.1 26 (by decide) (by decide)).trans h26
              refine r_aload_n dX10_readCompound_82 rfl (zRv_ref _) rfl ?_
              refine m_getiv hm 15 lfX10_153 rfl (by first | (simp only [zGS, zMS, Nat.reduceEqDiff, OfNat.ofNat_ne_ofNat, false_and, and_false, true_and, and_true, and_self, if_true, if_false, ite_true, ite_false, reduceIte, reduceCtorEq]; first | done | assumption | rfl) | assumption | exact z2_eq | exact z1_eq | (simp [zGS, zMS]; first | done | assumption) | rfl) dX10_readCompound_83 rfl ?_
              refine r_if_eqB (r := 101) dX10_readCompound_86 (by decide) rfl (fun c_86 => ?_) (fun c_86 => ?_)
              · cases c_86
              · refine r_aload_n dX10_readCompound_89 rfl (zRv_ref _) rfl ?_
                refine r_iconst dX10_readCompound_90 kc_0 rfl ?_
                refine r_callV MX10_readPart 1 [_] lvX10_218 (Or.inr (Or.inl ⟨hm, rfl⟩)) (p_readPart E mo hm w sg1 (d - 1) f n 0 c (by omega) (by omega) (by decide) r1 i21 hpc c1g) rfl rfl (by first | exact Nat.le_of_ble_eq_true rfl | (simp [zcat_rf, Value.category]; done)) (by omega) (Nat.le_of_eq (Nat.zero_add _)) (Nat.le_of_eq (Nat.zero_add _)) dX10_readCompound_91 rfl (fun v_ w_ sg_ hq_ => ?_)
                obtain ⟨rfl, l1, b1, o1, hl1, rfl, p2, c2, hout⟩ := hq_
                obtain ⟨sg2, hsg2⟩ : ∃ y, y = sg_ := ⟨_, rfl⟩
                subst hsg2
                have i26' : mi sg2 26 = nI G := (p2.1 26 (by decide) (by decide) (by decide)).trans i26
                have p2' : grG sg sg2 n l1 := (v1.g h21).nil p2.g
                have hx : b1 = true → cuG sg2 f r1.tail ∧ mi sg2 21 = nI n ∧ l1 = [] ∧ c = 58 ∧ r1.head? = some 120 := fun q => by
                  rcases hout with ⟨-, q1, q2, q3, q4, q5⟩ | ⟨q1, -⟩
                  · subst q4
                    subst q5
                    exact ⟨c2, p2'.2.1, rfl, q1, q3⟩
                  · rw [q1] at q; cases q
                have htl : b1 = true → r1.tail.length + 1 = r1.length := fun q => by
                  have := (hx q).2.2.2.2
                  cases r1 with
                  | nil => cases this
                  | cons a r1 => rfl
                refine r_if_eqB (r := 101) dX10_readCompound_94 (by decide) rfl (fun c_94 => ?_) (fun c_94 => ?_)
                · refine r_iinc (ls' := [_, _, _, _]) dX10_readCompound_101 (Nat.le_of_ble_eq_true rfl) rfl (zinc1 _) rfl rfl ?_
                  refine r_iinc (ls' := [_, _, _, _]) dX10_readCompound_104 (Nat.le_of_ble_eq_true rfl) rfl (zinc1 _) rfl rfl ?_
                  refine r_goto (r := 54) dX10_readCompound_107 (by decide) ?_
                  rcases hout with q | ⟨-, hnx, hs1, hs2⟩
                  · rw [q.1] at c_94; cases c_94
                  · have hnx2 : ¬ (c = 58 ∧ r1.head? = some 120) := fun q => hnx ⟨q.1, rfl, q.2⟩
                    cases hsim : pSimple c r1 with
                    | none =>
                      rw [hsim] at hs1
                      have ho1 : o1 = none := hs1
                      subst ho1
                      exact rk_54b E mo hm w sg2 d _ _ _ P c2.g (K sg2 l1 (cnt + 1) none _ p2' (by omega) (by omega) (c2.mono (by decide)) (Or.inl ⟨rfl, Or.inl (by rw [pOutX_s hpc hnx2, hsim])⟩))
                    | some q =>
                      obtain ⟨p, r2⟩ := q
                      rw [hsim] at hs1
                      have ho1 : o1 = some r2 := hs1
                      subst ho1
                      obtain ⟨q, rfl, hq⟩ := hs2 p r2 hsim
                      have hlen := pSimple_len hsim
                      refine ih (k + 1) sg2 (n + 1) (cnt + 1) G (l0 ++ [q]) (.inl p :: ev0) true r2 (by omega) c2 p2'.2.1 i26' (by omega) (by omega) ⟨fun _ => by omega, fun _ => rfl⟩ ⟨l0, q, rfl, hL, hq⟩ (fun sg' l cnt' o' x3 y1 y3 y4 y5 y6 => ?_)
                      refine K sg' ([q] ++ l) cnt' o' x3 (p2'.tr y1) (by rw [List.length_append]; show n + (1 + l.length) ≤ _; omega) (by omega) y5 ?_
                      have hgo : pOutL (some pExcl) (j + 1) (evP ev0) (evE ev0) o0 (c :: r1) = pOutL (some pExcl) j (p :: evP ev0) (evE ev0) true r2 := by rw [pOutX_s hpc hnx2, hsim]
                      rcases y6 with ⟨z1, z2⟩ | ⟨ev, G2, o2, r3, z1, z2, z3, z4, z5, z6⟩
                      · exact Or.inl ⟨z1, by rw [hgo]; exact z2⟩
                      · exact Or.inr ⟨ev, G2, o2, r3, z1, by rw [hgo]; exact z2, z3, z4, by rw [← List.append_assoc]; exact z5, by rw [List.length_append, hlen2]; show 1 + l.length + _ ≤ _; omega⟩
                · refine r_aload_n dX10_readCompound_97 rfl (zRv_ref _) rfl ?_
                  refine r_callV MX10_readInner 0 [] lvX10_221 (Or.inr (Or.inl ⟨hm, rfl⟩)) (p_readInner E mo hm w sg2 (d - 1) f n G (by omega) (by omega) r1.tail (hx c_94).2.1 i26' (by have := htl c_94; omega) (hx c_94).1) rfl rfl (by first | exact Nat.le_of_ble_eq_true rfl | (simp [zcat_rf, Value.category]; done)) (by omega) (Nat.le_of_eq (Nat.zero_add _)) (Nat.le_of_eq (Nat.zero_add _)) dX10_readCompound_98 rfl (fun v_ w_ sg_ hq_ => ?_)
                  obtain ⟨rfl, rfl, l3, o3, p3, i263, hl3, c3, ho3, hb3⟩ := hq_
                  obtain ⟨sg3, hsg3⟩ : ∃ y, y = sg_ := ⟨_, rfl⟩
                  subst hsg3
                  refine r_iinc (ls' := [_, _, _, _]) dX10_readCompound_101 (Nat.le_of_ble_eq_true rfl) rfl (zinc1 _) rfl rfl ?_
                  refine r_iinc (ls' := [_, _, _, _]) dX10_readCompound_104 (Nat.le_of_ble_eq_true rfl) rfl (zinc1 _) rfl rfl ?_
                  refine r_goto (r := 54) dX10_readCompound_107 (by decide) ?_
                  obtain ⟨y1, y2, y3, y4, y5⟩ := hx c_94
                  have htl' := htl c_94
                  subst y3
                  have p3' : grG sg sg3 n l3 := p2'.nil p3
                  cases hex : pExcl r1.tail with
                  | none =>
                    rw [hex] at ho3
                    have ho1 : o3 = none := ho3
                    subst ho1
                    exact rk_54b E mo hm w sg3 d _ _ _ P c3.g (K sg3 l3 (cnt + 1) none _ p3' (by omega) (by omega) (c3.mono (by decide)) (Or.inl ⟨rfl, Or.inl (by rw [pOutX_x hpc ⟨y4, y5⟩, hex])⟩))
                  | some q =>
                    obtain ⟨b, r2⟩ := q
                    rw [hex] at ho3
                    have ho1 : o3 = some r2 := ho3
                    subst ho1
                    obtain ⟨hbr, hbl⟩ := hb3 b r2 hex
                    refine ih (k + 1) sg3 (n + l3.length) (cnt + 1) (G + 1) (l0 ++ l3) (.inr b :: ev0) true r2 (by omega) c3 p3'.2.1 i263 (by omega) (by omega) ⟨fun _ => by omega, fun _ => rfl⟩ ⟨G, l0, l3, ⟨rfl, by omega⟩, rfl, hL, hbr⟩ (fun sg' l cnt' o' x3 u1 u3 u4 u5 u6 => ?_)
                    refine K sg' (l3 ++ l) cnt' o' x3 (p3'.tr u1) (by rw [List.length_append]; omega) (by omega) u5 ?_
                    have hgo : pOutL (some pExcl) (j + 1) (evP ev0) (evE ev0) o0 (c :: r1) = pOutL (some pExcl) j (evP ev0) (b :: evE ev0) true r2 := by rw [pOutX_x hpc ⟨y4, y5⟩, hex]
                    rcases u6 with ⟨z1, z2⟩ | ⟨ev, G2, o2, r3, z1, z2, z3, z4, z5, z6⟩
                    · exact Or.inl ⟨z1, by rw [hgo]; exact z2⟩
                    · exact Or.inr ⟨ev, G2, o2, r3, z1, by rw [hgo]; exact z2, z3, z4, by rw [← List.append_assoc]; exact z5, by rw [List.length_append, hlen2]; omega⟩
