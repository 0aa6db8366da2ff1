/-! ===== Reckoner: its stack ===== -/
theorem cmpL {o : Option Ordering} : (0 < Op.cmpValue o .l) ↔ o = some .gt := by
  cases o with
  | none => exact ⟨fun h => absurd h (by decide), fun h => by cases h⟩
  | some x => cases x <;> first | exact ⟨fun h => absurd h (by decide), fun h => by cases h⟩ | exact ⟨fun _ => rfl, fun _ => by decide⟩
theorem cmpG {o : Option Ordering} : (Op.cmpValue o .g < 0) ↔ o = some .lt := by
  cases o with
  | none => exact ⟨fun h => absurd h (by decide), fun h => by cases h⟩
  | some x => cases x <;> first | exact ⟨fun h => absurd h (by decide), fun h => by cases h⟩ | exact ⟨fun _ => rfl, fun _ => by decide⟩
/-- within a million -/
def okLim (v : UInt32) : Bool := !decide (FP.fcmp v 1232348160 = some .gt) && !decide (FP.fcmp v 3379831808 = some .lt)
theorem okLim_fin {v : UInt32} (h : vf_n32 v) (hl : okLim v = true) : fFin v := by
  unfold okLim at hl
  rw [Bool.and_eq_true, Bool.not_eq_true', Bool.not_eq_true', decide_eq_false_iff_not, decide_eq_false_iff_not] at hl
  exact fFin_lim h hl.1 hl.2
def isRk (w : ZW) (k : Nat) : Prop := (zk w k = 5 ∧ zr w 500 k = some (k + 1) ∧ zr w 504 k = some (k + 2) ∧ zr w 505 k = some (k + 3) ∧ zr w 507 k = some (k + 4) ∧ zr w 508 k = some (k + 5)) ∧ (zk w (k + 1) = 27 ∧ zk w (k + 2) = 22 ∧ zk w (k + 3) = 21 ∧ zk w (k + 4) = 27 ∧ zk w (k + 5) = 22) ∧ (zln w (k + 1) = 24 ∧ zln w (k + 2) = 15 ∧ zln w (k + 3) = 15 ∧ zln w (k + 4) = 96 ∧ zln w (k + 5) = 96)
abbrev PVal : Type := Nat × UInt32
def stkAt (w : ZW) (k : Nat) : List PVal → Prop
  | [] => True
  | (kd, a) :: st => za w (k + 2) st.length = nI kd ∧ zg w (k + 3) st.length = a ∧ stkAt w k st
def isStk (w : ZW) (k : Nat) (st : List PVal) : Prop := zi w 506 k = nI st.length ∧ st.length ≤ 15 ∧ stkAt w k st
/-- what the stack's work changes -/
def rkS (k : Nat) (w w' : ZW) : Prop := zsz w' = zsz w ∧ zk w' = zk w ∧ zln w' = zln w ∧ (∀ f a, ¬ (a = k ∧ f = 506) → zi w' f a = zi w f a) ∧ zr w' = zr w ∧ zf w' = zf w ∧ (∀ a, a ≠ k + 2 → za w' a = za w a) ∧ zq w' = zq w ∧ (∀ a, a ≠ k + 3 → zg w' a = zg w a) ∧ zl w' = zl w ∧ zd w' = zd w
theorem rkS.rf {k : Nat} {w : ZW} : rkS k w w := ⟨rfl, rfl, rfl, fun _ _ _ => rfl, rfl, rfl, fun _ _ => rfl, rfl, fun _ _ => rfl, rfl, rfl⟩
theorem rkS.tr {k : Nat} {w w1 w2 : ZW} (h : rkS k w w1) (g : rkS k w1 w2) : rkS k w w2 := by
  obtain ⟨h1, h2, h3, h4, h5, h6, h7, h8, h9, h10, h11⟩ := h
  obtain ⟨g1, g2, g3, g4, g5, g6, g7, g8, g9, g10, g11⟩ := g
  exact ⟨g1.trans h1, g2.trans h2, g3.trans h3, fun f a e => (g4 f a e).trans (h4 f a e), g5.trans h5, g6.trans h6, fun a e => (g7 a e).trans (h7 a e), g8.trans h8, fun a e => (g9 a e).trans (h9 a e), g10.trans h10, g11.trans h11⟩
theorem isRk.s {k : Nat} {w w' : ZW} (h : isRk w k) (e : rkS k w w') : isRk w' k := by
  unfold isRk at h ⊢
  rw [e.2.1, e.2.2.1, e.2.2.2.2.1]
  exact h
theorem stkAt.fr {w w' : ZW} {k : Nat} : ∀ {st : List PVal}, stkAt w k st → (∀ i, i < st.length → za w' (k + 2) i = za w (k + 2) i ∧ zg w' (k + 3) i = zg w (k + 3) i) → stkAt w' k st
  | [], _, _ => trivial
  | (kd, a) :: st, ⟨h1, h2, h3⟩, e => ⟨(e st.length (Nat.lt_succ_self _)).1.trans h1, (e st.length (Nat.lt_succ_self _)).2.trans h2, h3.fr (fun i hi => e i (Nat.lt_succ_of_lt hi))⟩
theorem stk_push {w : ZW} {k : Nat} {st : List PVal} (h : isStk w k st) (hl : st.length < 15) (kd : Nat) (a : UInt32) : isStk (zsi (zsg (zsa w (k + 2) st.length (nI kd)) (k + 3) st.length a) 506 k (nI (st.length + 1))) k ((kd, a) :: st) ∧ rkS k w (zsi (zsg (zsa w (k + 2) st.length (nI kd)) (k + 3) st.length a) 506 k (nI (st.length + 1))) := by
  obtain ⟨h1, h2, h3⟩ := h
  refine ⟨⟨z2_eq, by rw [List.length_cons]; omega, ?_, ?_, h3.fr (fun i hi => ⟨?_, ?_⟩)⟩, rfl, rfl, rfl, fun f b e => ?_, rfl, rfl, fun b e => ?_, rfl, fun b e => ?_, rfl, rfl⟩
  · rw [za_zsi, za_zsg, za_zsa, if_pos ⟨rfl, rfl⟩]
  · rw [zg_zsi, zg_zsg, if_pos ⟨rfl, rfl⟩]
  · rw [za_zsi, za_zsg, za_zsa, if_neg (fun q => by omega)]
  · rw [zg_zsi, zg_zsg, if_neg (fun q => by omega)]; rfl
  · rw [zi_zsi, if_neg (fun q => e ⟨q.2, q.1⟩)]; rfl
  · exact z2_row e
  · exact z2_row e
theorem sp_push (E : ZE) (sg : ZM) (d k kd : Nat) (hkd : kd < 5) (v : UInt32) (w : ZW) (hk : isRk w k) (st : List PVal) (hs : isStk w k st) (hl : st.length < 15) : CallQ E MX4_push [.ref k, .int (nI kd), .float v] w sg d 0 0 (fun r w' sg' => sg = sg' ∧ rkS k w w' ∧ r = some (.int (zb (decide (kd ≤ 1) && okLim v))) ∧ ((decide (kd ≤ 1) && okLim v) = true → isStk w' k ((kd, v) :: st))) := by
  have hs0 := hs
  obtain ⟨⟨k1, k2, k3, k4, k5, k6⟩, ⟨a1, a2, a3, a4, a5⟩, l1, l2, l3, l4, l5⟩ := hk
  obtain ⟨h1, h2, h3⟩ := hs
  obtain ⟨p1, p2⟩ := stk_push hs0 hl kd v
  have e1 : (decide (kd ≤ 1) && okLim v) = (decide (kd ≤ 1) && (!decide (FP.fcmp v 1232348160 = some .gt) && !decide (FP.fcmp v 3379831808 = some .lt))) := rfl
  refine CallQ.of rfl (by simp [Value.category]) (Nat.le_of_ble_eq_true rfl) ?_
  refine r_iload_n dX4_push_0 rfl rfl ?_
  refine r_if_eqN (by omega) (r := 9) dX4_push_1 (by decide) rfl (fun c_1 => ?_) (fun c_1 => ?_)
  · refine r_iconst dX4_push_9 kc_1 rfl ?_
    refine r_goto (r := 14) dX4_push_10 (by decide) ?_
    refine r_istore_n (ls' := [_, _, _, _]) dX4_push_14 (Nat.le_of_ble_eq_true rfl) rfl rfl ?_
    refine r_iload_n dX4_push_15 rfl rfl ?_
    refine r_if_eqN (by omega) (r := 45) dX4_push_16 (by decide) rfl (fun c_16 => ?_) (fun c_16 => ?_)
    · exact absurd c_16 (by decide)
    · refine r_fload_n dX4_push_19 rfl rfl ?_
      refine r_ldcf dX4_push_20 tw_897 rfl ?_
      refine r_fcmp dX4_push_22 rfl ?_
      refine r_if_gt (r := 45) dX4_push_23 (by decide) rfl (fun c_23 => ?_) (fun c_23 => ?_)
      · refine r_iconst dX4_push_45 kc_0 rfl ?_
        refine r_zret .boolean rfl rfl dX4_push_46 ?_
        have e9 : (decide (kd ≤ 1) && okLim v) = false := by rw [e1, decide_eq_true (cmpL.mp c_23), Bool.not_true, Bool.false_and, Bool.and_false]
        rw [e9]
        exact ⟨rfl, rkS.rf, rfl, fun q => by cases q⟩
      · refine r_fload_n dX4_push_26 rfl rfl ?_
        refine r_ldcf dX4_push_27 tw_898 rfl ?_
        refine r_fcmp dX4_push_29 rfl ?_
        refine r_if_lt (r := 45) dX4_push_30 (by decide) rfl (fun c_30 => ?_) (fun c_30 => ?_)
        · refine r_iconst dX4_push_45 kc_0 rfl ?_
          refine r_zret .boolean rfl rfl dX4_push_46 ?_
          have e9 : (decide (kd ≤ 1) && okLim v) = false := by rw [e1, decide_eq_true (cmpG.mp c_30), Bool.not_true, Bool.and_false, Bool.and_false]
          rw [e9]
          exact ⟨rfl, rkS.rf, rfl, fun q => by cases q⟩
        · refine r_aload_n dX4_push_33 rfl (zRv_ref _) rfl ?_
          refine r_getiv 4 6 506 lfX4_98 (by first | (simp only [zKS]; first | assumption) | assumption | exact zk_nself _ _ _ | (simp [zKS, zNS, *]; done)) rfl rfl (by first | (simp only [zGS, zMS, Nat.reduceEqDiff, OfNat.ofNat_ne_ofNat, false_and, and_false, true_and, and_true, and_self, if_true, if_false, ite_true, ite_false, reduceIte, reduceCtorEq]; first | done | assumption | rfl) | assumption | exact z2_eq | exact z1_eq | (simp [zGS, zMS]; first | done | assumption) | rfl) dX4_push_34 rfl ?_
          refine r_aload_n dX4_push_37 rfl (zRv_ref _) rfl ?_
          refine r_gets 4 4 504 lfX4_17 (by first | (simp only [zKS]; first | assumption) | assumption | exact zk_nself _ _ _ | (simp [zKS, zNS, *]; done)) rfl rfl (by first | (simp only [zGS, Nat.reduceEqDiff, OfNat.ofNat_ne_ofNat, false_and, and_false, true_and, and_true, and_self, if_true, if_false, ite_true, ite_false, reduceIte, reduceCtorEq]; first | done | assumption) | assumption | exact z2_eq | (simp [zGS]; first | done | assumption)) dX4_push_38 rfl ?_
          refine r_alenv 2 (by decide) (by first | (simp only [zKS]; first | assumption) | assumption | exact zk_nself _ _ _ | (simp [zKS, zNS, *]; done)) (by first | (simp only [zGS, zMS, Nat.reduceEqDiff, OfNat.ofNat_ne_ofNat, false_and, and_false, true_and, and_true, and_self, if_true, if_false, ite_true, ite_false, reduceIte, reduceCtorEq]; first | done | assumption | rfl) | assumption | exact z2_eq | exact z1_eq | (simp [zGS, zMS]; first | done | assumption) | rfl) dX4_push_41 rfl ?_
          refine r_icmp_ltN (by omega) (by omega) (r := 47) dX4_push_42 (by decide) rfl (fun c_42 => ?_) (fun c_42 => ?_)
          · refine r_aload_n dX4_push_47 rfl (zRv_ref _) rfl ?_
            refine r_gets 4 4 504 lfX4_17 (by first | (simp only [zKS]; first | assumption) | assumption | exact zk_nself _ _ _ | (simp [zKS, zNS, *]; done)) rfl rfl (by first | (simp only [zGS, Nat.reduceEqDiff, OfNat.ofNat_ne_ofNat, false_and, and_false, true_and, and_true, and_self, if_true, if_false, ite_true, ite_false, reduceIte, reduceCtorEq]; first | done | assumption) | assumption | exact z2_eq | (simp [zGS]; first | done | assumption)) dX4_push_48 rfl ?_
            refine r_aload_n dX4_push_51 rfl (zRv_ref _) rfl ?_
            refine r_getiv 4 6 506 lfX4_98 (by first | (simp only [zKS]; first | assumption) | assumption | exact zk_nself _ _ _ | (simp [zKS, zNS, *]; done)) rfl rfl (by first | (simp only [zGS, zMS, Nat.reduceEqDiff, OfNat.ofNat_ne_ofNat, false_and, and_false, true_and, and_true, and_self, if_true, if_false, ite_true, ite_false, reduceIte, reduceCtorEq]; first | done | assumption | rfl) | assumption | exact z2_eq | exact z1_eq | (simp [zGS, zMS]; first | done | assumption) | rfl) dX4_push_52 rfl ?_
            refine r_iload_n dX4_push_55 rfl rfl ?_
            refine r_iast st.length a2 rfl (by show st.length < zln w (k + 2); omega) (by omega) dX4_push_56 rfl ?_
            refine r_aload_n dX4_push_57 rfl (zRv_ref _) rfl ?_
            refine r_gets 4 5 505 lfX4_21 (by first | (simp only [zKS]; first | assumption) | assumption | exact zk_nself _ _ _ | (simp [zKS, zNS, *]; done)) rfl rfl (by first | (simp only [zGS, Nat.reduceEqDiff, OfNat.ofNat_ne_ofNat, false_and, and_false, true_and, and_true, and_self, if_true, if_false, ite_true, ite_false, reduceIte, reduceCtorEq]; first | done | assumption) | assumption | exact z2_eq | (simp [zGS]; first | done | assumption)) dX4_push_58 rfl ?_
            refine r_aload_n dX4_push_61 rfl (zRv_ref _) rfl ?_
            refine r_getiv 4 6 506 lfX4_98 (by first | (simp only [zKS]; first | assumption) | assumption | exact zk_nself _ _ _ | (simp [zKS, zNS, *]; done)) rfl rfl (by first | (simp only [zGS, zMS, Nat.reduceEqDiff, OfNat.ofNat_ne_ofNat, false_and, and_false, true_and, and_true, and_self, if_true, if_false, ite_true, ite_false, reduceIte, reduceCtorEq]; first | done | assumption | rfl) | assumption | exact z2_eq | exact z1_eq | (simp [zGS, zMS]; first | done | assumption) | rfl) dX4_push_62 rfl ?_
            refine r_fload_n dX4_push_65 rfl rfl ?_
            refine r_fast st.length a3 rfl (by show st.length < zln w (k + 3); omega) (by omega) dX4_push_66 rfl ?_
            refine r_aload_n dX4_push_67 rfl (zRv_ref _) rfl ?_
            refine r_dup dX4_push_68 (by first | rfl | exact zcat_rf _) rfl ?_
            refine r_getiv 4 6 506 lfX4_98 (by first | (simp only [zKS]; first | assumption) | assumption | exact zk_nself _ _ _ | (simp [zKS, zNS, *]; done)) rfl rfl (by first | (simp only [zGS, zMS, Nat.reduceEqDiff, OfNat.ofNat_ne_ofNat, false_and, and_false, true_and, and_true, and_self, if_true, if_false, ite_true, ite_false, reduceIte, reduceCtorEq]; first | done | assumption | rfl) | assumption | exact z2_eq | exact z1_eq | (simp [zGS, zMS]; first | done | assumption) | rfl) dX4_push_69 rfl ?_
            refine r_iconst dX4_push_72 kc_1 rfl ?_
            refine r_iaddN dX4_push_73 rfl ?_
            refine r_puti 4 6 506 lfX4_98 (by first | (simp only [zKS]; first | assumption) | assumption | exact zk_nself _ _ _ | (simp [zKS, zNS, *]; done)) rfl rfl rfl (Or.inl rfl) dX4_push_74 rfl ?_
            refine r_iconst dX4_push_77 kc_1 rfl ?_
            refine r_zret .boolean rfl rfl dX4_push_78 ?_
            have e9 : (decide (kd ≤ 1) && okLim v) = true := by rw [e1, decide_eq_true (by omega), decide_eq_false (fun q => c_23 (cmpL.mpr q)), decide_eq_false (fun q => c_30 (cmpG.mpr q))]; rfl
            rw [e9]
            exact ⟨rfl, p2, rfl, fun _ => p1⟩
          · exact absurd c_42 (by omega)
  · refine r_iload_n dX4_push_4 rfl rfl ?_
    refine r_iconst dX4_push_5 kc_1 rfl ?_
    refine r_icmp_neN (by omega) (by omega) (r := 13) dX4_push_6 (by decide) rfl (fun c_6 => ?_) (fun c_6 => ?_)
    · refine r_iconst dX4_push_13 kc_0 rfl ?_
      refine r_istore_n (ls' := [_, _, _, _]) dX4_push_14 (Nat.le_of_ble_eq_true rfl) rfl rfl ?_
      refine r_iload_n dX4_push_15 rfl rfl ?_
      refine r_if_eqN (by omega) (r := 45) dX4_push_16 (by decide) rfl (fun c_16 => ?_) (fun c_16 => ?_)
      · refine r_iconst dX4_push_45 kc_0 rfl ?_
        refine r_zret .boolean rfl rfl dX4_push_46 ?_
        have e9 : (decide (kd ≤ 1) && okLim v) = false := by rw [decide_eq_false (by omega), Bool.false_and]
        rw [e9]
        exact ⟨rfl, rkS.rf, rfl, fun q => by cases q⟩
      · exact absurd rfl c_16
    · refine r_iconst dX4_push_9 kc_1 rfl ?_
      refine r_goto (r := 14) dX4_push_10 (by decide) ?_
      refine r_istore_n (ls' := [_, _, _, _]) dX4_push_14 (Nat.le_of_ble_eq_true rfl) rfl rfl ?_
      refine r_iload_n dX4_push_15 rfl rfl ?_
      refine r_if_eqN (by omega) (r := 45) dX4_push_16 (by decide) rfl (fun c_16 => ?_) (fun c_16 => ?_)
      · exact absurd c_16 (by decide)
      · refine r_fload_n dX4_push_19 rfl rfl ?_
        refine r_ldcf dX4_push_20 tw_897 rfl ?_
        refine r_fcmp dX4_push_22 rfl ?_
        refine r_if_gt (r := 45) dX4_push_23 (by decide) rfl (fun c_23 => ?_) (fun c_23 => ?_)
        · refine r_iconst dX4_push_45 kc_0 rfl ?_
          refine r_zret .boolean rfl rfl dX4_push_46 ?_
          have e9 : (decide (kd ≤ 1) && okLim v) = false := by rw [e1, decide_eq_true (cmpL.mp c_23), Bool.not_true, Bool.false_and, Bool.and_false]
          rw [e9]
          exact ⟨rfl, rkS.rf, rfl, fun q => by cases q⟩
        · refine r_fload_n dX4_push_26 rfl rfl ?_
          refine r_ldcf dX4_push_27 tw_898 rfl ?_
          refine r_fcmp dX4_push_29 rfl ?_
          refine r_if_lt (r := 45) dX4_push_30 (by decide) rfl (fun c_30 => ?_) (fun c_30 => ?_)
          · refine r_iconst dX4_push_45 kc_0 rfl ?_
            refine r_zret .boolean rfl rfl dX4_push_46 ?_
            have e9 : (decide (kd ≤ 1) && okLim v) = false := by rw [e1, decide_eq_true (cmpG.mp c_30), Bool.not_true, Bool.and_false, Bool.and_false]
            rw [e9]
            exact ⟨rfl, rkS.rf, rfl, fun q => by cases q⟩
          · refine r_aload_n dX4_push_33 rfl (zRv_ref _) rfl ?_
            refine r_getiv 4 6 506 lfX4_98 (by first | (simp only [zKS]; first | assumption) | assumption | exact zk_nself _ _ _ | (simp [zKS, zNS, *]; done)) rfl rfl (by first | (simp only [zGS, zMS, Nat.reduceEqDiff, OfNat.ofNat_ne_ofNat, false_and, and_false, true_and, and_true, and_self, if_true, if_false, ite_true, ite_false, reduceIte, reduceCtorEq]; first | done | assumption | rfl) | assumption | exact z2_eq | exact z1_eq | (simp [zGS, zMS]; first | done | assumption) | rfl) dX4_push_34 rfl ?_
            refine r_aload_n dX4_push_37 rfl (zRv_ref _) rfl ?_
            refine r_gets 4 4 504 lfX4_17 (by first | (simp only [zKS]; first | assumption) | assumption | exact zk_nself _ _ _ | (simp [zKS, zNS, *]; done)) rfl rfl (by first | (simp only [zGS, Nat.reduceEqDiff, OfNat.ofNat_ne_ofNat, false_and, and_false, true_and, and_true, and_self, if_true, if_false, ite_true, ite_false, reduceIte, reduceCtorEq]; first | done | assumption) | assumption | exact z2_eq | (simp [zGS]; first | done | assumption)) dX4_push_38 rfl ?_
            refine r_alenv 2 (by decide) (by first | (simp only [zKS]; first | assumption) | assumption | exact zk_nself _ _ _ | (simp [zKS, zNS, *]; done)) (by first | (simp only [zGS, zMS, Nat.reduceEqDiff, OfNat.ofNat_ne_ofNat, false_and, and_false, true_and, and_true, and_self, if_true, if_false, ite_true, ite_false, reduceIte, reduceCtorEq]; first | done | assumption | rfl) | assumption | exact z2_eq | exact z1_eq | (simp [zGS, zMS]; first | done | assumption) | rfl) dX4_push_41 rfl ?_
            refine r_icmp_ltN (by omega) (by omega) (r := 47) dX4_push_42 (by decide) rfl (fun c_42 => ?_) (fun c_42 => ?_)
            · refine r_aload_n dX4_push_47 rfl (zRv_ref _) rfl ?_
              refine r_gets 4 4 504 lfX4_17 (by first | (simp only [zKS]; first | assumption) | assumption | exact zk_nself _ _ _ | (simp [zKS, zNS, *]; done)) rfl rfl (by first | (simp only [zGS, Nat.reduceEqDiff, OfNat.ofNat_ne_ofNat, false_and, and_false, true_and, and_true, and_self, if_true, if_false, ite_true, ite_false, reduceIte, reduceCtorEq]; first | done | assumption) | assumption | exact z2_eq | (simp [zGS]; first | done | assumption)) dX4_push_48 rfl ?_
              refine r_aload_n dX4_push_51 rfl (zRv_ref _) rfl ?_
              refine r_getiv 4 6 506 lfX4_98 (by first | (simp only [zKS]; first | assumption) | assumption | exact zk_nself _ _ _ | (simp [zKS, zNS, *]; done)) rfl rfl (by first | (simp only [zGS, zMS, Nat.reduceEqDiff, OfNat.ofNat_ne_ofNat, false_and, and_false, true_and, and_true, and_self, if_true, if_false, ite_true, ite_false, reduceIte, reduceCtorEq]; first | done | assumption | rfl) | assumption | exact z2_eq | exact z1_eq | (simp [zGS, zMS]; first | done | assumption) | rfl) dX4_push_52 rfl ?_
              refine r_iload_n dX4_push_55 rfl rfl ?_
              refine r_iast st.length a2 rfl (by show st.length < zln w (k + 2); omega) (by omega) dX4_push_56 rfl ?_
              refine r_aload_n dX4_push_57 rfl (zRv_ref _) rfl ?_
              refine r_gets 4 5 505 lfX4_21 (by first | (simp only [zKS]; first | assumption) | assumption | exact zk_nself _ _ _ | (simp [zKS, zNS, *]; done)) rfl rfl (by first | (simp only [zGS, Nat.reduceEqDiff, OfNat.ofNat_ne_ofNat, false_and, and_false, true_and, and_true, and_self, if_true, if_false, ite_true, ite_false, reduceIte, reduceCtorEq]; first | done | assumption) | assumption | exact z2_eq | (simp [zGS]; first | done | assumption)) dX4_push_58 rfl ?_
              refine r_aload_n dX4_push_61 rfl (zRv_ref _) rfl ?_
              refine r_getiv 4 6 506 lfX4_98 (by first | (simp only [zKS]; first | assumption) | assumption | exact zk_nself _ _ _ | (simp [zKS, zNS, *]; done)) rfl rfl (by first | (simp only [zGS, zMS, Nat.reduceEqDiff, OfNat.ofNat_ne_ofNat, false_and, and_false, true_and, and_true, and_self, if_true, if_false, ite_true, ite_false, reduceIte, reduceCtorEq]; first | done | assumption | rfl) | assumption | exact z2_eq | exact z1_eq | (simp [zGS, zMS]; first | done | assumption) | rfl) dX4_push_62 rfl ?_
              refine r_fload_n dX4_push_65 rfl rfl ?_
              refine r_fast st.length a3 rfl (by show st.length < zln w (k + 3); omega) (by omega) dX4_push_66 rfl ?_
              refine r_aload_n dX4_push_67 rfl (zRv_ref _) rfl ?_
              refine r_dup dX4_push_68 (by first | rfl | exact zcat_rf _) rfl ?_
              refine r_getiv 4 6 506 lfX4_98 (by first | (simp only [zKS]; first | assumption) | assumption | exact zk_nself _ _ _ | (simp [zKS, zNS, *]; done)) rfl rfl (by first | (simp only [zGS, zMS, Nat.reduceEqDiff, OfNat.ofNat_ne_ofNat, false_and, and_false, true_and, and_true, and_self, if_true, if_false, ite_true, ite_false, reduceIte, reduceCtorEq]; first | done | assumption | rfl) | assumption | exact z2_eq | exact z1_eq | (simp [zGS, zMS]; first | done | assumption) | rfl) dX4_push_69 rfl ?_
              refine r_iconst dX4_push_72 kc_1 rfl ?_
              refine r_iaddN dX4_push_73 rfl ?_
              refine r_puti 4 6 506 lfX4_98 (by first | (simp only [zKS]; first | assumption) | assumption | exact zk_nself _ _ _ | (simp [zKS, zNS, *]; done)) rfl rfl rfl (Or.inl rfl) dX4_push_74 rfl ?_
              refine r_iconst dX4_push_77 kc_1 rfl ?_
              refine r_zret .boolean rfl rfl dX4_push_78 ?_
              have e9 : (decide (kd ≤ 1) && okLim v) = true := by rw [e1, decide_eq_true (by omega), decide_eq_false (fun q => c_23 (cmpL.mpr q)), decide_eq_false (fun q => c_30 (cmpG.mpr q))]; rfl
              rw [e9]
              exact ⟨rfl, p2, rfl, fun _ => p1⟩
            · exact absurd c_42 (by omega)
def pushS (kd : Nat) (v : UInt32) (st : List PVal) : Option (List PVal) := if (decide (kd ≤ 1) && okLim v) = true then some ((kd, v) :: st) else none
def numS (wanted : Nat) (em whole : UInt32) (u : Nat) (v : UInt32) (st : List PVal) : Option (List PVal) := if u = 1 then pushS 1 v st else if u = 2 then pushS 1 (FP.fmul v em) st else if u = 3 then pushS wanted (FP.fdiv (FP.fmul v whole) 1120403456) st else pushS 0 v st
def negS (st : List PVal) : Option (List PVal) := match st with
  | [] => none
  | (kd, a) :: st => some ((kd, FP.fneg a) :: st)
def comS (s : Nat) (st : List PVal) : Option (List PVal) := match st with
  | (k2, b) :: (k1, a) :: st => if s = 5 then (if k1 = k2 then pushS k1 (FP.fadd a b) st else none) else if s = 6 then (if k1 = k2 then pushS k1 (FP.fsub a b) st else none) else if s = 7 then (if k1 = 0 ∨ k2 = 0 then pushS (if k1 = 0 then k2 else k1) (FP.fmul a b) st else none) else (if k2 = 0 ∧ ¬ FP.fcmp b 0 = some .eq then pushS k1 (FP.fdiv a b) st else none)
  | _ => none
def opQ (k : Nat) (w : ZW) (sg : ZM) (o : Option (List PVal)) : ZQ := fun r w' sg' => sg = sg' ∧ rkS k w w' ∧ r = some (.int (zb o.isSome)) ∧ ∀ st', o = some st' → isStk w' k st'
theorem sp_pushS (E : ZE) (sg : ZM) (d k kd : Nat) (hkd : kd < 5) (v : UInt32) (w : ZW) (hk : isRk w k) (st : List PVal) (hs : isStk w k st) (hl : st.length < 15) : CallQ E MX4_push [.ref k, .int (nI kd), .float v] w sg d 0 0 (opQ k w sg (pushS kd v st)) := by
  refine (sp_push E sg d k kd hkd v w hk st hs hl).mono ?_
  rintro r w' sg' ⟨h1, h2, h3, h4⟩
  unfold pushS
  by_cases e : (decide (kd ≤ 1) && okLim v) = true
  · rw [if_pos e]
    exact ⟨h1, h2, by rw [h3, e]; rfl, fun st' q => by cases q; exact h4 e⟩
  · rw [if_neg e]
    exact ⟨h1, h2, by rw [h3, Bool.not_eq_true _ |>.mp e]; rfl, fun st' q => by cases q⟩
theorem tblOut {lo hi : Int} {x : Int32} (h : x.toInt < lo ∨ hi < x.toInt) : x.toInt < lo ∨ hi < x.toInt := h
theorem sp_pushNumber (E : ZE) (sg : ZM) (d k u wanted : Nat) (hd : 1 ≤ d) (hu : u < 4) (hw : wanted < 2) (v em whole : UInt32) (hv : fFin v) (he : fFin em) (hwh : fFin whole) (w : ZW) (hk : isRk w k) (e1 : zi w 501 k = nI wanted) (e2 : zf w 502 k = em) (e3 : zf w 503 k = whole) (st : List PVal) (hs : isStk w k st) (hl : st.length < 15) : CallQ E MX4_pushNumber [.ref k, .int (nI u), .float v] w sg d 0 0 (opQ k w sg (numS wanted em whole u v st)) := by
  have k1 := hk.1.1
  have n1 := fmul_n hv he
  have n2 := fmul_n hv hwh
  have n3 := fdiv_n n2 (fFin_of (x := 1120403456) (by decide)) (by decide)
  refine CallQ.of rfl (by simp [Value.category]) (Nat.le_of_ble_eq_true rfl) ?_
  rcases (by omega : u = 0 ∨ u = 1 ∨ u = 2 ∨ u = 3) with rfl | rfl | rfl | rfl
  · skip
    refine r_iload_n dX4_pushNumber_0 rfl rfl ?_
    refine r_tableOut (r := 65) dX4_pushNumber_1 (by decide +kernel) (by decide) ?_
    refine r_aload_n dX4_pushNumber_65 rfl (zRv_ref _) rfl ?_
    refine r_iconst dX4_pushNumber_66 kc_0 rfl ?_
    refine r_fload_n dX4_pushNumber_67 rfl rfl ?_
    refine r_callV MX4_push 2 [_, _] lvX4_112 (Or.inl ⟨4, by decide, (by first | (simp only [zKS]; first | assumption) | assumption | exact zk_nself _ _ _ | (simp [zKS, zNS, *]; done)), rfl⟩) (sp_pushS E sg (d - 1) k 0 (by decide) v w hk st hs hl) rfl rfl (by first | exact Nat.le_of_ble_eq_true rfl | (simp [zcat_rf, Value.category]; done)) (by omega) (Nat.le_of_eq (Nat.zero_add _)) (Nat.le_of_eq (Nat.zero_add _)) dX4_pushNumber_68 rfl (fun v_ w_ sg_ hq_ => ?_)
    have hq1 := hq_.2.2.1
    subst hq1
    refine r_zret .boolean rfl (zb_nar _) dX4_pushNumber_71 ?_
    exact hq_
  · skip
    refine r_iload_n dX4_pushNumber_0 rfl rfl ?_
    refine r_tableIn (off := 27) (r := 28) dX4_pushNumber_1 (by decide +kernel) (by decide +kernel) (by decide +kernel) (by decide) ?_
    refine r_aload_n dX4_pushNumber_28 rfl (zRv_ref _) rfl ?_
    refine r_iconst dX4_pushNumber_29 kc_1 rfl ?_
    refine r_fload_n dX4_pushNumber_30 rfl rfl ?_
    refine r_callV MX4_push 2 [_, _] lvX4_112 (Or.inl ⟨4, by decide, (by first | (simp only [zKS]; first | assumption) | assumption | exact zk_nself _ _ _ | (simp [zKS, zNS, *]; done)), rfl⟩) (sp_pushS E sg (d - 1) k 1 (by decide) v w hk st hs hl) rfl rfl (by first | exact Nat.le_of_ble_eq_true rfl | (simp [zcat_rf, Value.category]; done)) (by omega) (Nat.le_of_eq (Nat.zero_add _)) (Nat.le_of_eq (Nat.zero_add _)) dX4_pushNumber_31 rfl (fun v_ w_ sg_ hq_ => ?_)
    have hq1 := hq_.2.2.1
    subst hq1
    refine r_zret .boolean rfl (zb_nar _) dX4_pushNumber_34 ?_
    exact hq_
  · skip
    refine r_iload_n dX4_pushNumber_0 rfl rfl ?_
    refine r_tableIn (off := 34) (r := 35) dX4_pushNumber_1 (by decide +kernel) (by decide +kernel) (by decide +kernel) (by decide) ?_
    refine r_aload_n dX4_pushNumber_35 rfl (zRv_ref _) rfl ?_
    refine r_iconst dX4_pushNumber_36 kc_1 rfl ?_
    refine r_fload_n dX4_pushNumber_37 rfl rfl ?_
    refine r_aload_n dX4_pushNumber_38 rfl (zRv_ref _) rfl ?_
    refine r_getfv 4 2 502 lfX4_76 (by first | (simp only [zKS]; first | assumption) | assumption | exact zk_nself _ _ _ | (simp [zKS, zNS, *]; done)) rfl rfl (by first | (simp only [zGS, zMS, Nat.reduceEqDiff, OfNat.ofNat_ne_ofNat, false_and, and_false, true_and, and_true, and_self, if_true, if_false, ite_true, ite_false, reduceIte, reduceCtorEq]; first | done | assumption | rfl) | assumption | exact z2_eq | exact z1_eq | (simp [zGS, zMS]; first | done | assumption) | rfl) dX4_pushNumber_39 rfl ?_
    refine r_fmul dX4_pushNumber_42 (by first | assumption | fail) rfl ?_
    refine r_callV MX4_push 2 [_, _] lvX4_112 (Or.inl ⟨4, by decide, (by first | (simp only [zKS]; first | assumption) | assumption | exact zk_nself _ _ _ | (simp [zKS, zNS, *]; done)), rfl⟩) (sp_pushS E sg (d - 1) k 1 (by decide) _ w hk st hs hl) rfl rfl (by first | exact Nat.le_of_ble_eq_true rfl | (simp [zcat_rf, Value.category]; done)) (by omega) (Nat.le_of_eq (Nat.zero_add _)) (Nat.le_of_eq (Nat.zero_add _)) dX4_pushNumber_43 rfl (fun v_ w_ sg_ hq_ => ?_)
    have hq1 := hq_.2.2.1
    subst hq1
    refine r_zret .boolean rfl (zb_nar _) dX4_pushNumber_46 ?_
    exact hq_
  · skip
    refine r_iload_n dX4_pushNumber_0 rfl rfl ?_
    refine r_tableIn (off := 46) (r := 47) dX4_pushNumber_1 (by decide +kernel) (by decide +kernel) (by decide +kernel) (by decide) ?_
    refine r_aload_n dX4_pushNumber_47 rfl (zRv_ref _) rfl ?_
    refine r_aload_n dX4_pushNumber_48 rfl (zRv_ref _) rfl ?_
    refine r_getiv 4 1 501 lfX4_69 (by first | (simp only [zKS]; first | assumption) | assumption | exact zk_nself _ _ _ | (simp [zKS, zNS, *]; done)) rfl rfl (by first | (simp only [zGS, zMS, Nat.reduceEqDiff, OfNat.ofNat_ne_ofNat, false_and, and_false, true_and, and_true, and_self, if_true, if_false, ite_true, ite_false, reduceIte, reduceCtorEq]; first | done | assumption | rfl) | assumption | exact z2_eq | exact z1_eq | (simp [zGS, zMS]; first | done | assumption) | rfl) dX4_pushNumber_49 rfl ?_
    refine r_fload_n dX4_pushNumber_52 rfl rfl ?_
    refine r_aload_n dX4_pushNumber_53 rfl (zRv_ref _) rfl ?_
    refine r_getfv 4 3 503 lfX4_72 (by first | (simp only [zKS]; first | assumption) | assumption | exact zk_nself _ _ _ | (simp [zKS, zNS, *]; done)) rfl rfl (by first | (simp only [zGS, zMS, Nat.reduceEqDiff, OfNat.ofNat_ne_ofNat, false_and, and_false, true_and, and_true, and_self, if_true, if_false, ite_true, ite_false, reduceIte, reduceCtorEq]; first | done | assumption | rfl) | assumption | exact z2_eq | exact z1_eq | (simp [zGS, zMS]; first | done | assumption) | rfl) dX4_pushNumber_54 rfl ?_
    refine r_fmul dX4_pushNumber_57 (by first | assumption | fail) rfl ?_
    refine r_ldcf dX4_pushNumber_58 tw_903 rfl ?_
    refine r_fdiv dX4_pushNumber_60 (by first | assumption | fail) rfl ?_
    refine r_callV MX4_push 2 [_, _] lvX4_112 (Or.inl ⟨4, by decide, (by first | (simp only [zKS]; first | assumption) | assumption | exact zk_nself _ _ _ | (simp [zKS, zNS, *]; done)), rfl⟩) (sp_pushS E sg (d - 1) k wanted (by omega) _ w hk st hs hl) rfl rfl (by first | exact Nat.le_of_ble_eq_true rfl | (simp [zcat_rf, Value.category]; done)) (by omega) (Nat.le_of_eq (Nat.zero_add _)) (Nat.le_of_eq (Nat.zero_add _)) dX4_pushNumber_61 rfl (fun v_ w_ sg_ hq_ => ?_)
    have hq1 := hq_.2.2.1
    subst hq1
    refine r_zret .boolean rfl (zb_nar _) dX4_pushNumber_64 ?_
    exact hq_
theorem sp_negate (E : ZE) (sg : ZM) (d k : Nat) (w : ZW) (hk : isRk w k) (st : List PVal) (hs : isStk w k st) : CallQ E MX4_negate [.ref k] w sg d 0 0 (opQ k w sg (negS st)) := by
  have hs0 := hs
  obtain ⟨⟨k1, k2, k3, k4, k5, k6⟩, ⟨a1, a2, a3, a4, a5⟩, l1, l2, l3, l4, l5⟩ := hk
  obtain ⟨h1, h2, h3⟩ := hs
  refine CallQ.of rfl (by simp [Value.category]) (Nat.le_of_ble_eq_true rfl) ?_
  cases st with
  | nil =>
    refine r_aload_n dX4_negate_0 rfl (zRv_ref _) rfl ?_
    refine r_getiv 4 6 506 lfX4_98 (by first | (simp only [zKS]; first | assumption) | assumption | exact zk_nself _ _ _ | (simp [zKS, zNS, *]; done)) rfl rfl (by first | (simp only [zGS, zMS, Nat.reduceEqDiff, OfNat.ofNat_ne_ofNat, false_and, and_false, true_and, and_true, and_self, if_true, if_false, ite_true, ite_false, reduceIte, reduceCtorEq]; first | done | assumption | rfl) | assumption | exact z2_eq | exact z1_eq | (simp [zGS, zMS]; first | done | assumption) | rfl) dX4_negate_1 rfl ?_
    refine r_iconst dX4_negate_4 kc_1 rfl ?_
    refine r_icmp_geN (by omega) (by omega) (r := 10) dX4_negate_5 (by decide) rfl (fun c_5 => ?_) (fun c_5 => ?_)
    · exact absurd c_5 (by simp)
    · refine r_iconst dX4_negate_8 kc_0 rfl ?_
      refine r_zret .boolean rfl rfl dX4_negate_9 ?_
      exact ⟨rfl, rkS.rf, rfl, fun _ q => by cases q⟩
  | cons y st =>
    obtain ⟨kd, a⟩ := y
    rw [List.length_cons] at h1 h2
    obtain ⟨g1, g2, g3⟩ := h3
    refine r_aload_n dX4_negate_0 rfl (zRv_ref _) rfl ?_
    refine r_getiv 4 6 506 lfX4_98 (by first | (simp only [zKS]; first | assumption) | assumption | exact zk_nself _ _ _ | (simp [zKS, zNS, *]; done)) rfl rfl (by first | (simp only [zGS, zMS, Nat.reduceEqDiff, OfNat.ofNat_ne_ofNat, false_and, and_false, true_and, and_true, and_self, if_true, if_false, ite_true, ite_false, reduceIte, reduceCtorEq]; first | done | assumption | rfl) | assumption | exact z2_eq | exact z1_eq | (simp [zGS, zMS]; first | done | assumption) | rfl) dX4_negate_1 rfl ?_
    refine r_iconst dX4_negate_4 kc_1 rfl ?_
    refine r_icmp_geN (by omega) (by omega) (r := 10) dX4_negate_5 (by decide) rfl (fun c_5 => ?_) (fun c_5 => ?_)
    · refine r_aload_n dX4_negate_10 rfl (zRv_ref _) rfl ?_
      refine r_gets 4 5 505 lfX4_21 (by first | (simp only [zKS]; first | assumption) | assumption | exact zk_nself _ _ _ | (simp [zKS, zNS, *]; done)) rfl rfl (by first | (simp only [zGS, Nat.reduceEqDiff, OfNat.ofNat_ne_ofNat, false_and, and_false, true_and, and_true, and_self, if_true, if_false, ite_true, ite_false, reduceIte, reduceCtorEq]; first | done | assumption) | assumption | exact z2_eq | (simp [zGS]; first | done | assumption)) dX4_negate_11 rfl ?_
      refine r_aload_n dX4_negate_14 rfl (zRv_ref _) rfl ?_
      refine r_getiv 4 6 506 lfX4_98 (by first | (simp only [zKS]; first | assumption) | assumption | exact zk_nself _ _ _ | (simp [zKS, zNS, *]; done)) rfl rfl (by first | (simp only [zGS, zMS, Nat.reduceEqDiff, OfNat.ofNat_ne_ofNat, false_and, and_false, true_and, and_true, and_self, if_true, if_false, ite_true, ite_false, reduceIte, reduceCtorEq]; first | done | assumption | rfl) | assumption | exact z2_eq | exact z1_eq | (simp [zGS, zMS]; first | done | assumption) | rfl) dX4_negate_15 rfl ?_
      refine r_iconst dX4_negate_18 kc_1 rfl ?_
      refine r_isubN (by omega) dX4_negate_19 rfl ?_
      rw [show st.length + 1 - 1 = st.length by omega]
      refine r_aload_n dX4_negate_20 rfl (zRv_ref _) rfl ?_
      refine r_gets 4 5 505 lfX4_21 (by first | (simp only [zKS]; first | assumption) | assumption | exact zk_nself _ _ _ | (simp [zKS, zNS, *]; done)) rfl rfl (by first | (simp only [zGS, Nat.reduceEqDiff, OfNat.ofNat_ne_ofNat, false_and, and_false, true_and, and_true, and_self, if_true, if_false, ite_true, ite_false, reduceIte, reduceCtorEq]; first | done | assumption) | assumption | exact z2_eq | (simp [zGS]; first | done | assumption)) dX4_negate_21 rfl ?_
      refine r_aload_n dX4_negate_24 rfl (zRv_ref _) rfl ?_
      refine r_getiv 4 6 506 lfX4_98 (by first | (simp only [zKS]; first | assumption) | assumption | exact zk_nself _ _ _ | (simp [zKS, zNS, *]; done)) rfl rfl (by first | (simp only [zGS, zMS, Nat.reduceEqDiff, OfNat.ofNat_ne_ofNat, false_and, and_false, true_and, and_true, and_self, if_true, if_false, ite_true, ite_false, reduceIte, reduceCtorEq]; first | done | assumption | rfl) | assumption | exact z2_eq | exact z1_eq | (simp [zGS, zMS]; first | done | assumption) | rfl) dX4_negate_25 rfl ?_
      refine r_iconst dX4_negate_28 kc_1 rfl ?_
      refine r_isubN (by omega) dX4_negate_29 rfl ?_
      rw [show st.length + 1 - 1 = st.length by omega]
      refine r_faldv st.length a3 rfl (by omega) (by omega) g2 dX4_negate_30 rfl ?_
      refine r_fneg dX4_negate_31 rfl ?_
      refine r_fast st.length a3 rfl (by omega) (by omega) dX4_negate_32 rfl ?_
      refine r_iconst dX4_negate_33 kc_1 rfl ?_
      refine r_zret .boolean rfl rfl dX4_negate_34 ?_
      refine ⟨rfl, ⟨rfl, rfl, rfl, fun _ _ _ => rfl, rfl, rfl, fun _ _ => rfl, rfl, fun b e => z2_row e, rfl, rfl⟩, rfl, fun st' q => ?_⟩
      cases q
      refine ⟨h1, by rw [List.length_cons]; omega, g1, ?_, g3.fr (fun i hi => ⟨rfl, ?_⟩)⟩
      · rw [zg_zsg, if_pos ⟨rfl, rfl⟩]
      · rw [zg_zsg, if_neg (fun q => by omega)]
    · exact absurd c_5 (by omega)
