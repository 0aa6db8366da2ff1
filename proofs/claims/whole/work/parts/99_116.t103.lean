/-! ===== the model: the parts inside :x(..) ===== -/
theorem pOutL_stop {ex : Option (List Nat → Option (PBare × List Nat))} {j : Nat} {ps : List PPart} {es : List PBare} {o : Bool} {r : List Nat} (h : isPS (hdN r) = false) : pOutL ex j ps es o r = some (ps, es, o, r) := by
  cases j with
  | zero => rfl
  | succ j =>
    cases r with
    | nil => rfl
    | cons c r =>
      have h2 : isPS c = false := h
      show (if isPS c = true then _ else some (ps, es, o, c :: r)) = _
      rw [h2]
      rfl
theorem pOutL_go {j c : Nat} {ps : List PPart} {o : Bool} {r1 : List Nat} (h : isPS c = true) : pOutL none (j + 1) ps [] o (c :: r1) = (match pSimple c r1 with
  | none => none
  | some (p, r2) => pOutL none j (p :: ps) [] true r2) := by
  show (if isPS c = true then (match pPart none c r1 ps [] with
    | none => none
    | some (ps2, es2, r2) => pOutL none j ps2 es2 true r2) else _) = _
  rw [if_pos h]
  unfold pPart
  cases pSimple c r1 with
  | none => rfl
  | some q => rfl
theorem ri_35b (E : ZE) (mo : Nat) (hm : E.2.2.2.2 = some mo) (w : ZW) (sg : ZM) (d : Nat) (cnt k : Nat) (P : ZPhi) (h : mi sg 15 = zb false) (K : RW E MX10_readInner 88 [some (.ref mo), some (.int (nI cnt)), some (.int (nI k))] [] w sg d 0 0 P) : RW E MX10_readInner 35 [some (.ref mo), some (.int (nI cnt)), some (.int (nI k))] [] w sg d 0 0 P := by
  refine r_aload_n dX10_readInner_35 rfl (zRv_ref _) rfl ?_
  refine m_getiv hm 15 lfX10_153 rfl (by first | (simp only [zGS, zMS, Nat.reduceEqDiff, OfNat.ofNat_ne_ofNat, false_and, and_false, true_and, and_true, and_self, if_true, if_false, ite_true, ite_false, reduceIte, reduceCtorEq]; first | done | assumption | rfl) | assumption | exact z2_eq | exact z1_eq | (simp [zGS, zMS]; first | done | assumption) | rfl) dX10_readInner_36 rfl ?_
  refine r_if_eqB (r := 88) dX10_readInner_39 (by decide) rfl (fun c_39 => ?_) (fun c_39 => ?_)
  · exact K
  · cases c_39
theorem ri_35 (E : ZE) (mo : Nat) (hm : E.2.2.2.2 = some mo) (w : ZW) (d f g : Nat) (hd : 8 ≤ d) (hg : 1 ≤ g ∧ g < 128) (P : ZPhi) : ∀ (j k : Nat) (sg : ZM) (n cnt : Nat) (l0 : List PRow) (ps0 : List PPart) (o0 : Bool) (r : List Nat), k + j = 4 → cuG sg f r → mi sg 21 = nI n → mi sg 26 = nI g → n + r.length ≤ 125 → (o0 = true ↔ 0 < cnt) → rwL g ps0 l0 → (∀ sg' l cnt' o' x2, grG sg sg' n l → mi sg' 26 = nI g → l.length ≤ j + 1 → cnt' ≤ cnt + j + 1 → cuO sg' f 750 o' → ipQ sg f n g l0 ps0 o0 j r l cnt' o' → RW E MX10_readInner 88 [some (.ref mo), some (.int (nI cnt')), some (.int x2)] [] w sg' d 0 0 P) → RW E MX10_readInner 35 [some (.ref mo), some (.int (nI cnt)), some (.int (nI k))] [] w sg d 0 0 P := by
  intro j
  induction j with
  | zero =>
    intro k sg n cnt l0 ps0 o0 r hk h h21 h26 hn ho hL K
    have hk4 : k = 4 := by omega
    subst hk4
    have g0 : mi sg 15 = zb true := (cuO.z (m := 0) h).g
    have hbp := p_beginsPart E mo hm w sg (d - 1) f (by omega) r h
    have hm0 := o_must E mo hm w sg (d - 1) f 790 (by decide) false (some r) (cuO.z h)
    have hmv := fun (sg' : ZM) (v : mvC sg sg') => (v.1 26 (by decide) (by decide)).trans h26
    cases hps : isPS (hdN r) with
    | false =>
      rw [hps] at hbp
      refine r_aload_n dX10_readInner_35 rfl (zRv_ref _) rfl ?_
      refine m_getiv hm 15 lfX10_153 rfl (by first | (simp only [zGS, zMS, Nat.reduceEqDiff, OfNat.ofNat_ne_ofNat, false_and, and_false, true_and, and_true, and_self, if_true, if_false, ite_true, ite_false, reduceIte, reduceCtorEq]; first | done | assumption | rfl) | assumption | exact z2_eq | exact z1_eq | (simp [zGS, zMS]; first | done | assumption) | rfl) dX10_readInner_36 rfl ?_
      refine r_if_eqB (r := 88) dX10_readInner_39 (by decide) rfl (fun c_39 => ?_) (fun c_39 => ?_)
      · cases c_39
      · refine r_aload_n dX10_readInner_42 rfl (zRv_ref _) rfl ?_
        refine r_callV MX10_beginsPart 0 [] lvX10_215 (Or.inr (Or.inl ⟨hm, rfl⟩)) (hbp) rfl rfl (by first | exact Nat.le_of_ble_eq_true rfl | (simp [zcat_rf, Value.category]; done)) (by omega) (Nat.le_of_eq (Nat.zero_add _)) (Nat.le_of_eq (Nat.zero_add _)) dX10_readInner_43 rfl (fun v_ w_ sg_ hq_ => ?_)
        obtain ⟨rfl, rfl, rfl⟩ := hq_
        refine r_if_eqB (r := 88) dX10_readInner_46 (by decide) rfl (fun c_46 => ?_) (fun c_46 => ?_)
        · exact K sg [] cnt (some r) _ (mvC.rf.g h21) h26 (Nat.zero_le _) (by omega) (cuO.z h) (Or.inr ⟨ps0, o0, r, rfl, pOutL_stop hps, hps, ho, by rw [List.append_nil]; exact hL, by rw [List.length_nil]; omega⟩)
        · cases c_46
    | true =>
      rw [hps] at hbp
      refine r_aload_n dX10_readInner_35 rfl (zRv_ref _) rfl ?_
      refine m_getiv hm 15 lfX10_153 rfl (by first | (simp only [zGS, zMS, Nat.reduceEqDiff, OfNat.ofNat_ne_ofNat, false_and, and_false, true_and, and_true, and_self, if_true, if_false, ite_true, ite_false, reduceIte, reduceCtorEq]; first | done | assumption | rfl) | assumption | exact z2_eq | exact z1_eq | (simp [zGS, zMS]; first | done | assumption) | rfl) dX10_readInner_36 rfl ?_
      refine r_if_eqB (r := 88) dX10_readInner_39 (by decide) rfl (fun c_39 => ?_) (fun c_39 => ?_)
      · cases c_39
      · refine r_aload_n dX10_readInner_42 rfl (zRv_ref _) rfl ?_
        refine r_callV MX10_beginsPart 0 [] lvX10_215 (Or.inr (Or.inl ⟨hm, rfl⟩)) (hbp) rfl rfl (by first | exact Nat.le_of_ble_eq_true rfl | (simp [zcat_rf, Value.category]; done)) (by omega) (Nat.le_of_eq (Nat.zero_add _)) (Nat.le_of_eq (Nat.zero_add _)) dX10_readInner_43 rfl (fun v_ w_ sg_ hq_ => ?_)
        obtain ⟨rfl, rfl, rfl⟩ := hq_
        refine r_if_eqB (r := 88) dX10_readInner_46 (by decide) rfl (fun c_46 => ?_) (fun c_46 => ?_)
        · cases c_46
        · refine r_aload_n dX10_readInner_49 rfl (zRv_ref _) rfl ?_
          refine r_iload_n dX10_readInner_50 rfl rfl ?_
          refine r_iconst dX10_readInner_51 kc_4 rfl ?_
          refine r_icmp_geN (by omega) (by omega) (r := 59) dX10_readInner_52 (by decide) rfl (fun c_52 => ?_) (fun c_52 => ?_)
          · refine r_iconst dX10_readInner_59 kc_0 rfl ?_
            refine r_callV MX10_must 1 [_] lvX10_180 (Or.inr (Or.inl ⟨hm, rfl⟩)) (hm0) rfl rfl (by first | exact Nat.le_of_ble_eq_true rfl | (simp [zcat_rf, Value.category]; done)) (by omega) (Nat.le_of_eq (Nat.zero_add _)) (Nat.le_of_eq (Nat.zero_add _)) dX10_readInner_60 rfl (fun v_ w_ sg_ hq_ => ?_)
            obtain ⟨rfl, rfl, v1, c1⟩ := hq_
            obtain ⟨sg1, hsg1⟩ : ∃ y, y = sg_ := ⟨_, rfl⟩
            subst hsg1
            have g1 : mi sg1 15 = zb false := c1.g
            refine r_aload_n dX10_readInner_63 rfl (zRv_ref _) rfl ?_
            refine m_getiv hm 15 lfX10_153 rfl (by first | (simp only [zGS, zMS, Nat.reduceEqDiff, OfNat.ofNat_ne_ofNat, false_and, and_false, true_and, and_true, and_self, if_true, if_false, ite_true, ite_false, reduceIte, reduceCtorEq]; first | done | assumption | rfl) | assumption | exact z2_eq | exact z1_eq | (simp [zGS, zMS]; first | done | assumption) | rfl) dX10_readInner_64 rfl ?_
            refine r_if_eqB (r := 79) dX10_readInner_67 (by decide) rfl (fun c_67 => ?_) (fun c_67 => ?_)
            · refine r_iinc (ls' := [_, _, _]) dX10_readInner_79 (Nat.le_of_ble_eq_true rfl) rfl (zinc1 _) rfl rfl ?_
              refine r_iinc (ls' := [_, _, _]) dX10_readInner_82 (Nat.le_of_ble_eq_true rfl) rfl (zinc1 _) rfl rfl ?_
              refine r_goto (r := 35) dX10_readInner_85 (by decide) ?_
              exact ri_35b E mo hm w sg1 d _ _ P g1 (K sg1 [] (cnt + 1) none _ (v1.g h21) (hmv _ v1) (Nat.zero_le _) (by omega) (c1.mono (by decide)) (Or.inl ⟨rfl, Or.inr ⟨ps0, [], o0, r, rfl, hps⟩⟩))
            · cases c_67
          · exact absurd c_52 (by omega)
  | succ j ih =>
    intro k sg n cnt l0 ps0 o0 r hk h h21 h26 hn ho hL K
    have g0 : mi sg 15 = zb true := (cuO.z (m := 0) h).g
    have hbp := p_beginsPart E mo hm w sg (d - 1) f (by omega) r h
    have hm1 := o_must E mo hm w sg (d - 1) f 790 (by decide) true (some r) (cuO.z h)
    have hmv := fun (sg' : ZM) (v : mvC sg sg') => (v.1 26 (by decide) (by decide)).trans h26
    cases hps : isPS (hdN r) with
    | false =>
      rw [hps] at hbp
      refine r_aload_n dX10_readInner_35 rfl (zRv_ref _) rfl ?_
      refine m_getiv hm 15 lfX10_153 rfl (by first | (simp only [zGS, zMS, Nat.reduceEqDiff, OfNat.ofNat_ne_ofNat, false_and, and_false, true_and, and_true, and_self, if_true, if_false, ite_true, ite_false, reduceIte, reduceCtorEq]; first | done | assumption | rfl) | assumption | exact z2_eq | exact z1_eq | (simp [zGS, zMS]; first | done | assumption) | rfl) dX10_readInner_36 rfl ?_
      refine r_if_eqB (r := 88) dX10_readInner_39 (by decide) rfl (fun c_39 => ?_) (fun c_39 => ?_)
      · cases c_39
      · refine r_aload_n dX10_readInner_42 rfl (zRv_ref _) rfl ?_
        refine r_callV MX10_beginsPart 0 [] lvX10_215 (Or.inr (Or.inl ⟨hm, rfl⟩)) (hbp) rfl rfl (by first | exact Nat.le_of_ble_eq_true rfl | (simp [zcat_rf, Value.category]; done)) (by omega) (Nat.le_of_eq (Nat.zero_add _)) (Nat.le_of_eq (Nat.zero_add _)) dX10_readInner_43 rfl (fun v_ w_ sg_ hq_ => ?_)
        obtain ⟨rfl, rfl, rfl⟩ := hq_
        refine r_if_eqB (r := 88) dX10_readInner_46 (by decide) rfl (fun c_46 => ?_) (fun c_46 => ?_)
        · exact K sg [] cnt (some r) _ (mvC.rf.g h21) h26 (Nat.zero_le _) (by omega) (cuO.z h) (Or.inr ⟨ps0, o0, r, rfl, pOutL_stop hps, hps, ho, by rw [List.append_nil]; exact hL, by rw [List.length_nil]; omega⟩)
        · cases c_46
    | true =>
      rw [hps] at hbp
      cases r with
      | nil => cases hps
      | cons c r1 =>
        have hpc : isPS c = true := hps
        refine r_aload_n dX10_readInner_35 rfl (zRv_ref _) rfl ?_
        refine m_getiv hm 15 lfX10_153 rfl (by first | (simp only [zGS, zMS, Nat.reduceEqDiff, OfNat.ofNat_ne_ofNat, false_and, and_false, true_and, and_true, and_self, if_true, if_false, ite_true, ite_false, reduceIte, reduceCtorEq]; first | done | assumption | rfl) | assumption | exact z2_eq | exact z1_eq | (simp [zGS, zMS]; first | done | assumption) | rfl) dX10_readInner_36 rfl ?_
        refine r_if_eqB (r := 88) dX10_readInner_39 (by decide) rfl (fun c_39 => ?_) (fun c_39 => ?_)
        · cases c_39
        · refine r_aload_n dX10_readInner_42 rfl (zRv_ref _) rfl ?_
          refine r_callV MX10_beginsPart 0 [] lvX10_215 (Or.inr (Or.inl ⟨hm, rfl⟩)) (hbp) rfl rfl (by first | exact Nat.le_of_ble_eq_true rfl | (simp [zcat_rf, Value.category]; done)) (by omega) (Nat.le_of_eq (Nat.zero_add _)) (Nat.le_of_eq (Nat.zero_add _)) dX10_readInner_43 rfl (fun v_ w_ sg_ hq_ => ?_)
          obtain ⟨rfl, rfl, rfl⟩ := hq_
          refine r_if_eqB (r := 88) dX10_readInner_46 (by decide) rfl (fun c_46 => ?_) (fun c_46 => ?_)
          · cases c_46
          · refine r_aload_n dX10_readInner_49 rfl (zRv_ref _) rfl ?_
            refine r_iload_n dX10_readInner_50 rfl rfl ?_
            refine r_iconst dX10_readInner_51 kc_4 rfl ?_
            refine r_icmp_geN (by omega) (by omega) (r := 59) dX10_readInner_52 (by decide) rfl (fun c_52 => ?_) (fun c_52 => ?_)
            · exact absurd c_52 (by omega)
            · refine r_iconst dX10_readInner_55 kc_1 rfl ?_
              refine r_goto (r := 60) dX10_readInner_56 (by decide) ?_
              refine r_callV MX10_must 1 [_] lvX10_180 (Or.inr (Or.inl ⟨hm, rfl⟩)) (hm1) rfl rfl (by first | exact Nat.le_of_ble_eq_true rfl | (simp [zcat_rf, Value.category]; done)) (by omega) (Nat.le_of_eq (Nat.zero_add _)) (Nat.le_of_eq (Nat.zero_add _)) dX10_readInner_60 rfl (fun v_ w_ sg_ hq_ => ?_)
              obtain ⟨rfl, rfl, v1, c1⟩ := hq_
              obtain ⟨sg1, hsg1⟩ : ∃ y, y = sg_ := ⟨_, rfl⟩
              subst hsg1
              have c1g : cuG sg1 f (c :: r1) := c1
              have g1 : mi sg1 15 = zb true := c1.g
              have i21 : mi sg1 21 = nI n := (v1.1 21 (by decide) (by decide)).trans h21
              have i26 : mi sg1 26 = nI g := hmv _ v1
              refine r_aload_n dX10_readInner_63 rfl (zRv_ref _) rfl ?_
              refine m_getiv hm 15 lfX10_153 rfl (by first | (simp only [zGS, zMS, Nat.reduceEqDiff, OfNat.ofNat_ne_ofNat, false_and, and_false, true_and, and_true, and_self, if_true, if_false, ite_true, ite_false, reduceIte, reduceCtorEq]; first | done | assumption | rfl) | assumption | exact z2_eq | exact z1_eq | (simp [zGS, zMS]; first | done | assumption) | rfl) dX10_readInner_64 rfl ?_
              refine r_if_eqB (r := 79) dX10_readInner_67 (by decide) rfl (fun c_67 => ?_) (fun c_67 => ?_)
              · cases c_67
              · refine r_aload_n dX10_readInner_70 rfl (zRv_ref _) rfl ?_
                refine r_aload_n dX10_readInner_71 rfl (zRv_ref _) rfl ?_
                refine m_getiv hm 26 lfX10_208 rfl (by first | (simp only [zGS, zMS, Nat.reduceEqDiff, OfNat.ofNat_ne_ofNat, false_and, and_false, true_and, and_true, and_self, if_true, if_false, ite_true, ite_false, reduceIte, reduceCtorEq]; first | done | assumption | rfl) | assumption | exact z2_eq | exact z1_eq | (simp [zGS, zMS]; first | done | assumption) | rfl) dX10_readInner_72 rfl ?_
                refine r_callV MX10_readPart 1 [_] lvX10_218 (Or.inr (Or.inl ⟨hm, rfl⟩)) (p_readPart E mo hm w sg1 (d - 1) f n g c (by omega) (by omega) hg.2 r1 i21 hps c1g) rfl rfl (by first | exact Nat.le_of_ble_eq_true rfl | (simp [zcat_rf, Value.category]; done)) (by omega) (Nat.le_of_eq (Nat.zero_add _)) (Nat.le_of_eq (Nat.zero_add _)) dX10_readInner_75 rfl (fun v_ w_ sg_ hq_ => ?_)
                obtain ⟨rfl, l1, b1, o1, hl1, rfl, p2, c2, hout⟩ := hq_
                obtain ⟨sg2, hsg2⟩ : ∃ y, y = sg_ := ⟨_, rfl⟩
                subst hsg2
                have i26' : mi sg2 26 = nI g := (p2.1 26 (by decide) (by decide) (by decide)).trans i26
                have p2' : grG sg sg2 n l1 := (v1.g h21).nil p2.g
                refine r_pop dX10_readInner_78 (by first | rfl | exact zcat_rf _) rfl ?_
                refine r_iinc (ls' := [_, _, _]) dX10_readInner_79 (Nat.le_of_ble_eq_true rfl) rfl (zinc1 _) rfl rfl ?_
                refine r_iinc (ls' := [_, _, _]) dX10_readInner_82 (Nat.le_of_ble_eq_true rfl) rfl (zinc1 _) rfl rfl ?_
                refine r_goto (r := 35) dX10_readInner_85 (by decide) ?_
                rcases hout with q | ⟨-, -, hs1, hs2⟩
                · exact absurd q.2.2.1 (by omega)
                · cases hsim : pSimple c r1 with
                  | none =>
                    rw [hsim] at hs1
                    have ho1 : o1 = none := hs1
                    subst ho1
                    exact ri_35b E mo hm w sg2 d _ _ P c2.g (K sg2 l1 (cnt + 1) none _ p2' i26' (by omega) (by omega) (c2.mono (by decide)) (Or.inl ⟨rfl, Or.inl (by rw [pOutL_go hpc, hsim])⟩))
                  | some q =>
                    obtain ⟨p, r2⟩ := q
                    rw [hsim] at hs1
                    have ho1 : o1 = some r2 := hs1
                    subst ho1
                    obtain ⟨q, rfl, hq⟩ := hs2 p r2 hsim
                    have hlen := pSimple_len hsim
                    have hlen2 : (c :: r1).length = r1.length + 1 := List.length_cons
                    refine ih (k + 1) sg2 (n + 1) (cnt + 1) (l0 ++ [q]) (p :: ps0) true r2 (by omega) c2 p2'.2.1 i26' (by omega) ⟨fun _ => by omega, fun _ => rfl⟩ ⟨l0, q, rfl, hL, hq⟩ (fun sg' l cnt' o' x2 y1 y2 y3 y4 y5 y6 => ?_)
                    refine K sg' ([q] ++ l) cnt' o' x2 (p2'.tr y1) y2 (by rw [List.length_append]; show 1 + l.length ≤ _; omega) (by omega) y5 ?_
                    have hgo : pOutL none (j + 1) ps0 [] o0 (c :: r1) = pOutL none j (p :: ps0) [] true r2 := by rw [pOutL_go hpc, hsim]
                    rcases y6 with ⟨z1, z2⟩ | ⟨ps, o2, r3, z1, z2, z3, z4, z5, z6⟩
                    · exact Or.inl ⟨z1, by rw [hgo]; exact z2⟩
                    · exact Or.inr ⟨ps, o2, r3, z1, by rw [hgo]; exact z2, z3, z4, by rw [← List.append_assoc]; exact z5, by rw [List.length_append, hlen2]; show 1 + l.length + _ ≤ _; omega⟩
