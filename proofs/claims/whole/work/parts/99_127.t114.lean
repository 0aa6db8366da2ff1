/-! ===== the model: isOpen ===== -/
def isU (sg : ZM) : Nat → Bool
  | 0 => false
  | n + 1 => isU sg n || decide (ma sg 23 n = nI 20)
theorem isU_W {sg : ZM} : ∀ {W : List Nat}, wtG sg W → isU sg W.length = decide (20 ∈ W)
  | [], _ => rfl
  | x :: W, ⟨h1, h2, h3⟩ => by
    show (isU sg W.length || decide (ma sg 23 W.length = nI 20)) = _
    rw [isU_W h3, h1]
    have e : decide (nI x = nI 20) = decide (x = 20) := by
      by_cases c : x = 20
      · rw [c]
        rfl
      · rw [decide_eq_false c]
        refine decide_eq_false (fun q => c ?_)
        have h9 := congrArg (fun y : Int32 => y.toBitVec.toNat) q
        rw [nI_bv (by omega), nI_bv (by omega)] at h9
        exact h9
    rw [e]
    by_cases c : x = 20
    · subst c
      rw [decide_eq_true rfl, Bool.or_true]
      exact (decide_eq_true List.mem_cons_self).symm
    · rw [decide_eq_false c, Bool.or_false]
      by_cases q : 20 ∈ W
      · rw [decide_eq_true q, decide_eq_true (List.mem_cons_of_mem _ q)]
      · rw [decide_eq_false q, decide_eq_false (fun z => (List.mem_cons.mp z).elim (fun a => c a.symm) q)]
theorem rio (E : ZE) (mo : Nat) (hm : E.2.2.2.2 = some mo) (w : ZW) (sg : ZM) (d : Nat) (W : List Nat) (hW : W.length ≤ 130) (h : wtG sg W) : ∀ (m i : Nat), i + m = W.length → RW E MX10_isOpen 4 [some (.ref mo), some (.int (nI W.length)), some (.int (zb (isU sg i))), some (.int (nI i))] [] w sg d 0 0 (PN E (fun v w' sg' => v = some (.int (zb (isU sg W.length))) ∧ w = w' ∧ sg = sg'))
  | 0, i, hi => by
    have e : i = W.length := by omega
    subst e
    refine r_iload_n dX10_isOpen_4 rfl rfl ?_
    refine r_iload_n dX10_isOpen_5 rfl rfl ?_
    refine r_icmp_geN (by omega) (by omega) (r := 36) dX10_isOpen_6 (by decide) rfl (fun c_6 => ?_) (fun c_6 => ?_)
    · refine r_iload_n dX10_isOpen_36 rfl rfl ?_
      refine r_zret .boolean rfl (by first | exact zb_nar _ | rfl | decide | (simp only [*]; first | exact zb_nar _ | rfl)) dX10_isOpen_37 ?_
      exact ⟨rfl, rfl, rfl⟩
    · exact absurd c_6 (by omega)
  | m + 1, i, hi => by
    obtain ⟨x, x1, x2, -⟩ := h.at i (by omega)
    have ih := rio E mo hm w sg d W hW h m (i + 1) (by omega)
    have es : isU sg (i + 1) = (isU sg i || decide (x = 20)) := by
      show (isU sg i || decide (ma sg 23 i = nI 20)) = _
      rw [x2]
      by_cases c : x = 20
      · rw [c]
        rfl
      · rw [decide_eq_false c]
        rw [decide_eq_false (p := nI x = nI 20) (fun q => c (by
          have h9 := congrArg (fun y : Int32 => y.toBitVec.toNat) q
          rw [nI_bv (by omega), nI_bv (by omega)] at h9
          exact h9))]
    rw [es] at ih
    refine r_iload_n dX10_isOpen_4 rfl rfl ?_
    refine r_iload_n dX10_isOpen_5 rfl rfl ?_
    refine r_icmp_geN (by omega) (by omega) (r := 36) dX10_isOpen_6 (by decide) rfl (fun c_6 => ?_) (fun c_6 => ?_)
    · exact absurd c_6 (by omega)
    · refine r_iload_n dX10_isOpen_9 rfl rfl ?_
      refine r_if_neB (r := 24) dX10_isOpen_10 (by decide) rfl (fun c_10 => ?_) (fun c_10 => ?_)
      · refine r_iconst dX10_isOpen_24 kc_1 rfl ?_
        refine r_goto (r := 29) dX10_isOpen_25 (by decide) ?_
        refine r_istore_n (ls' := [_, _, _, _]) dX10_isOpen_29 (Nat.le_of_ble_eq_true rfl) rfl rfl ?_
        refine r_iinc (ls' := [_, _, _, _]) dX10_isOpen_30 (Nat.le_of_ble_eq_true rfl) rfl (zinc1 _) rfl rfl ?_
        refine r_goto (r := 4) dX10_isOpen_33 (by decide) ?_
        rw [c_10, Bool.true_or] at ih
        exact ih
      · refine r_aload_n dX10_isOpen_13 rfl (zRv_ref _) rfl ?_
        refine m_geta hm 35 23 lfX10_79 rfl (by decide) dX10_isOpen_14 rfl ?_
        refine r_iload_n dX10_isOpen_17 rfl rfl ?_
        refine m_ialdv hm 23 _ (by decide) (by decide) rfl rfl (by show _ < 130; omega) (by first | (simp only [zGS, zMS, Nat.reduceEqDiff, OfNat.ofNat_ne_ofNat, false_and, and_false, true_and, and_true, and_self, if_true, if_false, ite_true, ite_false, reduceIte, reduceCtorEq]; first | done | assumption | rfl) | assumption | exact z2_eq | exact z1_eq | (simp [zGS, zMS]; first | done | assumption) | rfl) dX10_isOpen_18 rfl ?_
        refine r_bipush dX10_isOpen_19 kb_20 rfl ?_
        refine r_icmp_neN (by omega) (by omega) (r := 28) dX10_isOpen_21 (by decide) rfl (fun c_21 => ?_) (fun c_21 => ?_)
        · refine r_iconst dX10_isOpen_28 kc_0 rfl ?_
          refine r_istore_n (ls' := [_, _, _, _]) dX10_isOpen_29 (Nat.le_of_ble_eq_true rfl) rfl rfl ?_
          refine r_iinc (ls' := [_, _, _, _]) dX10_isOpen_30 (Nat.le_of_ble_eq_true rfl) rfl (zinc1 _) rfl rfl ?_
          refine r_goto (r := 4) dX10_isOpen_33 (by decide) ?_
          rw [c_10, decide_eq_false c_21, Bool.or_false] at ih
          exact ih
        · refine r_iconst dX10_isOpen_24 kc_1 rfl ?_
          refine r_goto (r := 29) dX10_isOpen_25 (by decide) ?_
          refine r_istore_n (ls' := [_, _, _, _]) dX10_isOpen_29 (Nat.le_of_ble_eq_true rfl) rfl rfl ?_
          refine r_iinc (ls' := [_, _, _, _]) dX10_isOpen_30 (Nat.le_of_ble_eq_true rfl) rfl (zinc1 _) rfl rfl ?_
          refine r_goto (r := 4) dX10_isOpen_33 (by decide) ?_
          rw [c_21, decide_eq_true rfl, Bool.or_true] at ih
          exact ih
theorem q_isOpen (E : ZE) (mo : Nat) (hm : E.2.2.2.2 = some mo) (w : ZW) (sg : ZM) (d : Nat) (W : List Nat) (hW : W.length ≤ 130) (h : wtG sg W) : CallQ E MX10_isOpen [.ref mo, .int (nI W.length)] w sg d 0 0 (fun v w' sg' => v = some (.int (zb (decide (20 ∈ W)))) ∧ w = w' ∧ sg = sg') := by
  have h0 := rio E mo hm w sg d W hW h W.length 0 (Nat.zero_add _)
  rw [isU_W h] at h0
  refine CallQ.of rfl (by simp [Value.category]) (Nat.le_of_ble_eq_true rfl) ?_
  refine r_iconst dX10_isOpen_0 kc_0 rfl ?_
  refine r_istore_n (ls' := [_, _, _, _]) dX10_isOpen_1 (Nat.le_of_ble_eq_true rfl) rfl rfl ?_
  refine r_iconst dX10_isOpen_2 kc_0 rfl ?_
  refine r_istore_n (ls' := [_, _, _, _]) dX10_isOpen_3 (Nat.le_of_ble_eq_true rfl) rfl rfl ?_
  exact h0
