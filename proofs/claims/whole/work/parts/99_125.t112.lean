/-! ===== the model: operators that wait ===== -/
def strN (x : Nat) : Nat := if x = 20 then 0 else if x < 11 ∧ 8 < x then 1 else if x = 8 then 3 else 2
theorem q_strength (E : ZE) (w : ZW) (sg : ZM) (d x : Nat) (hx : x < 128) : CallQ E MX10_strength [.int (nI x)] w sg d 0 0 (fun v w' sg' => v = some (.int (nI (strN x))) ∧ w = w' ∧ sg = sg') := by
  refine CallQ.of rfl (by simp [Value.category]) (Nat.le_of_ble_eq_true rfl) ?_
  unfold strN
  refine r_iload_n dX10_strength_0 rfl rfl ?_
  refine r_bipush dX10_strength_1 kb_20 rfl ?_
  refine r_icmp_neN (by omega) (by omega) (r := 10) dX10_strength_3 (by decide) rfl (fun c_3 => ?_) (fun c_3 => ?_)
  · refine r_iload_n dX10_strength_10 rfl rfl ?_
    refine r_bipush dX10_strength_11 kb_11 rfl ?_
    refine r_icmp_geN (by omega) (by omega) (r := 26) dX10_strength_13 (by decide) rfl (fun c_13 => ?_) (fun c_13 => ?_)
    · refine r_iload_n dX10_strength_26 rfl rfl ?_
      refine r_bipush dX10_strength_27 kb_8 rfl ?_
      refine r_icmp_neN (by omega) (by omega) (r := 36) dX10_strength_29 (by decide) rfl (fun c_29 => ?_) (fun c_29 => ?_)
      · refine r_iconst dX10_strength_36 kc_2 rfl ?_
        refine r_iret rfl dX10_strength_37 ?_
        rw [if_neg (by omega), if_neg (by omega), if_neg (by omega)]
        exact ⟨rfl, rfl, rfl⟩
      · refine r_iconst dX10_strength_32 kc_3 rfl ?_
        refine r_goto (r := 37) dX10_strength_33 (by decide) ?_
        refine r_iret rfl dX10_strength_37 ?_
        rw [if_neg (by omega), if_neg (by omega), if_pos (by omega)]
        exact ⟨rfl, rfl, rfl⟩
    · refine r_iload_n dX10_strength_16 rfl rfl ?_
      refine r_bipush dX10_strength_17 kb_8 rfl ?_
      refine r_icmp_leN (by omega) (by omega) (r := 26) dX10_strength_19 (by decide) rfl (fun c_19 => ?_) (fun c_19 => ?_)
      · refine r_iload_n dX10_strength_26 rfl rfl ?_
        refine r_bipush dX10_strength_27 kb_8 rfl ?_
        refine r_icmp_neN (by omega) (by omega) (r := 36) dX10_strength_29 (by decide) rfl (fun c_29 => ?_) (fun c_29 => ?_)
        · refine r_iconst dX10_strength_36 kc_2 rfl ?_
          refine r_iret rfl dX10_strength_37 ?_
          rw [if_neg (by omega), if_neg (by omega), if_neg (by omega)]
          exact ⟨rfl, rfl, rfl⟩
        · refine r_iconst dX10_strength_32 kc_3 rfl ?_
          refine r_goto (r := 37) dX10_strength_33 (by decide) ?_
          refine r_iret rfl dX10_strength_37 ?_
          rw [if_neg (by omega), if_neg (by omega), if_pos (by omega)]
          exact ⟨rfl, rfl, rfl⟩
      · refine r_iconst dX10_strength_22 kc_1 rfl ?_
        refine r_goto (r := 37) dX10_strength_23 (by decide) ?_
        refine r_iret rfl dX10_strength_37 ?_
        rw [if_neg (by omega), if_pos ⟨by omega, by omega⟩]
        exact ⟨rfl, rfl, rfl⟩
  · refine r_iconst dX10_strength_6 kc_0 rfl ?_
    refine r_goto (r := 37) dX10_strength_7 (by decide) ?_
    refine r_iret rfl dX10_strength_37 ?_
    rw [if_pos c_3]
    exact ⟨rfl, rfl, rfl⟩
/-- the operator of a sign -/
def sgnI (c : Nat) : Int32 := if c = 43 then nI 9 else if c = 45 then nI 10 else if c = 42 then nI 11 else if c = 47 then nI 12 else -1
theorem q_signOf (E : ZE) (mo : Nat) (w : ZW) (sg : ZM) (d c : Nat) (hc : c < 128) : CallQ E MX10_signOf [.ref mo, .int (nI c)] w sg d 0 0 (fun v w' sg' => v = some (.int (sgnI c)) ∧ w = w' ∧ sg = sg') := by
  refine CallQ.of rfl (by simp [Value.category]) (Nat.le_of_ble_eq_true rfl) ?_
  unfold sgnI
  refine r_iload_n dX10_signOf_0 rfl rfl ?_
  refine r_bipush dX10_signOf_1 kb_43 rfl ?_
  refine r_icmp_neN (by omega) (by omega) (r := 11) dX10_signOf_3 (by decide) rfl (fun c_3 => ?_) (fun c_3 => ?_)
  · refine r_iload_n dX10_signOf_11 rfl rfl ?_
    refine r_bipush dX10_signOf_12 kb_45 rfl ?_
    refine r_icmp_neN (by omega) (by omega) (r := 22) dX10_signOf_14 (by decide) rfl (fun c_14 => ?_) (fun c_14 => ?_)
    · refine r_iload_n dX10_signOf_22 rfl rfl ?_
      refine r_bipush dX10_signOf_23 kb_42 rfl ?_
      refine r_icmp_neN (by omega) (by omega) (r := 33) dX10_signOf_25 (by decide) rfl (fun c_25 => ?_) (fun c_25 => ?_)
      · refine r_iload_n dX10_signOf_33 rfl rfl ?_
        refine r_bipush dX10_signOf_34 kb_47 rfl ?_
        refine r_icmp_neN (by omega) (by omega) (r := 44) dX10_signOf_36 (by decide) rfl (fun c_36 => ?_) (fun c_36 => ?_)
        · refine r_iconst dX10_signOf_44 kc_m1 rfl ?_
          refine r_iret rfl dX10_signOf_45 ?_
          rw [if_neg c_3, if_neg c_14, if_neg c_25, if_neg c_36]
          exact ⟨rfl, rfl, rfl⟩
        · refine r_bipush dX10_signOf_39 kb_12 rfl ?_
          refine r_goto (r := 45) dX10_signOf_41 (by decide) ?_
          refine r_iret rfl dX10_signOf_45 ?_
          rw [if_neg c_3, if_neg c_14, if_neg c_25, if_pos c_36]
          exact ⟨rfl, rfl, rfl⟩
      · refine r_bipush dX10_signOf_28 kb_11 rfl ?_
        refine r_goto (r := 45) dX10_signOf_30 (by decide) ?_
        refine r_iret rfl dX10_signOf_45 ?_
        rw [if_neg c_3, if_neg c_14, if_pos c_25]
        exact ⟨rfl, rfl, rfl⟩
    · refine r_bipush dX10_signOf_17 kb_10 rfl ?_
      refine r_goto (r := 45) dX10_signOf_19 (by decide) ?_
      refine r_iret rfl dX10_signOf_45 ?_
      rw [if_neg c_3, if_pos c_14]
      exact ⟨rfl, rfl, rfl⟩
  · refine r_bipush dX10_signOf_6 kb_9 rfl ?_
    refine r_goto (r := 45) dX10_signOf_8 (by decide) ?_
    refine r_iret rfl dX10_signOf_45 ?_
    rw [if_pos c_3]
    exact ⟨rfl, rfl, rfl⟩
/-- what waits, the top first -/
def wtG (sg : ZM) : List Nat → Prop
  | [] => True
  | x :: W => ma sg 23 W.length = nI x ∧ x < 128 ∧ wtG sg W
theorem wtG.at {sg : ZM} : ∀ {W : List Nat}, wtG sg W → ∀ i, i < W.length → ∃ x, x < 128 ∧ ma sg 23 i = nI x ∧ W[W.length - 1 - i]? = some x
  | [], _, i, hi => absurd hi (Nat.not_lt_zero i)
  | x :: W, ⟨h1, h2, h3⟩, i, hi => by
    by_cases c : i = W.length
    · subst c
      refine ⟨x, h2, h1, ?_⟩
      rw [List.length_cons, Nat.add_sub_cancel, Nat.sub_self]
      rfl
    · have hi2 : i < W.length := by rw [List.length_cons] at hi; omega
      obtain ⟨y, y1, y2, y3⟩ := h3.at i hi2
      refine ⟨y, y1, y2, ?_⟩
      have e : (x :: W).length - 1 - i = (W.length - 1 - i) + 1 := by rw [List.length_cons]; omega
      rw [e]
      exact y3
theorem wtG.fr {sg sg' : ZM} : ∀ {W : List Nat}, wtG sg W → (∀ i, i < W.length → ma sg' 23 i = ma sg 23 i) → wtG sg' W
  | [], _, _ => trivial
  | x :: W, ⟨h1, h2, h3⟩, hf => ⟨(hf W.length (by simp)).trans h1, h2, h3.fr (fun i hi => hf i (by rw [List.length_cons]; omega))⟩
/-- minus signs on top -/
def negsN : List Nat → Nat
  | [] => 0
  | x :: W => if x = 8 then negsN W + 1 else 0
theorem rtu (E : ZE) (mo : Nat) (hm : E.2.2.2.2 = some mo) (w : ZW) (sg : ZM) (d n : Nat) (hn : n ≤ 130) : ∀ (W : List Nat) (k : Nat), wtG sg W → W.length + k = n → RW E MX10_turned 2 [some (.ref mo), some (.int (nI n)), some (.int (nI k))] [] w sg d 0 0 (PN E (fun v w' sg' => v = some (.int (nI (k + negsN W))) ∧ w = w' ∧ sg = sg'))
  | [], k, h, hk => by
    have hk2 : k = n := by have : ([] : List Nat).length = 0 := rfl; omega
    subst hk2
    refine r_iload_n dX10_turned_2 rfl rfl ?_
    refine r_iload_n dX10_turned_3 rfl rfl ?_
    refine r_isubN (by omega) dX10_turned_4 rfl ?_
    refine r_if_leN (by omega) (r := 29) dX10_turned_5 (by decide) rfl (fun c_5 => ?_) (fun c_5 => ?_)
    · refine r_iload_n dX10_turned_29 rfl rfl ?_
      refine r_iret rfl dX10_turned_30 ?_
      exact ⟨rfl, rfl, rfl⟩
    · exact absurd c_5 (by omega)
  | x :: W, k, ⟨h1, h2, h3⟩, hk => by
    have hlen : (x :: W).length = W.length + 1 := List.length_cons
    have hidx : n - 1 - k = W.length := by omega
    have hv : ma sg 23 (n - 1 - k) = nI x := by rw [hidx]; exact h1
    by_cases hx : x = 8
    · have e : k + negsN (x :: W) = k + 1 + negsN W := by show k + (if x = 8 then negsN W + 1 else 0) = _; rw [if_pos hx]; omega
      rw [e]
      refine r_iload_n dX10_turned_2 rfl rfl ?_
      refine r_iload_n dX10_turned_3 rfl rfl ?_
      refine r_isubN (by omega) dX10_turned_4 rfl ?_
      refine r_if_leN (by omega) (r := 29) dX10_turned_5 (by decide) rfl (fun c_5 => ?_) (fun c_5 => ?_)
      · exact absurd c_5 (by omega)
      · refine r_aload_n dX10_turned_8 rfl (zRv_ref _) rfl ?_
        refine m_geta hm 35 23 lfX10_79 rfl (by decide) dX10_turned_9 rfl ?_
        refine r_iload_n dX10_turned_12 rfl rfl ?_
        refine r_iconst dX10_turned_13 kc_1 rfl ?_
        refine r_isubN (by omega) dX10_turned_14 rfl ?_
        refine r_iload_n dX10_turned_15 rfl rfl ?_
        refine r_isubN (by omega) dX10_turned_16 rfl ?_
        refine m_ialdv hm 23 _ (by decide) (by decide) rfl rfl (by show _ < 130; omega) (by first | (simp only [zGS, zMS, Nat.reduceEqDiff, OfNat.ofNat_ne_ofNat, false_and, and_false, true_and, and_true, and_self, if_true, if_false, ite_true, ite_false, reduceIte, reduceCtorEq]; first | done | assumption | rfl) | assumption | exact z2_eq | exact z1_eq | (simp [zGS, zMS]; first | done | assumption) | rfl) dX10_turned_17 rfl ?_
        refine r_bipush dX10_turned_18 kb_8 rfl ?_
        refine r_icmp_neN (by omega) (by omega) (r := 29) dX10_turned_20 (by decide) rfl (fun c_20 => ?_) (fun c_20 => ?_)
        · exact absurd hx c_20
        · refine r_iinc (ls' := [_, _, _]) dX10_turned_23 (Nat.le_of_ble_eq_true rfl) rfl (zinc1 _) rfl rfl ?_
          refine r_goto (r := 2) dX10_turned_26 (by decide) ?_
          exact rtu E mo hm w sg d n hn W (k + 1) h3 (by omega)
    · have e : k + negsN (x :: W) = k := by show k + (if x = 8 then negsN W + 1 else 0) = _; rw [if_neg hx]; rfl
      rw [e]
      refine r_iload_n dX10_turned_2 rfl rfl ?_
      refine r_iload_n dX10_turned_3 rfl rfl ?_
      refine r_isubN (by omega) dX10_turned_4 rfl ?_
      refine r_if_leN (by omega) (r := 29) dX10_turned_5 (by decide) rfl (fun c_5 => ?_) (fun c_5 => ?_)
      · exact absurd c_5 (by omega)
      · refine r_aload_n dX10_turned_8 rfl (zRv_ref _) rfl ?_
        refine m_geta hm 35 23 lfX10_79 rfl (by decide) dX10_turned_9 rfl ?_
        refine r_iload_n dX10_turned_12 rfl rfl ?_
        refine r_iconst dX10_turned_13 kc_1 rfl ?_
        refine r_isubN (by omega) dX10_turned_14 rfl ?_
        refine r_iload_n dX10_turned_15 rfl rfl ?_
        refine r_isubN (by omega) dX10_turned_16 rfl ?_
        refine m_ialdv hm 23 _ (by decide) (by decide) rfl rfl (by show _ < 130; omega) (by first | (simp only [zGS, zMS, Nat.reduceEqDiff, OfNat.ofNat_ne_ofNat, false_and, and_false, true_and, and_true, and_self, if_true, if_false, ite_true, ite_false, reduceIte, reduceCtorEq]; first | done | assumption | rfl) | assumption | exact z2_eq | exact z1_eq | (simp [zGS, zMS]; first | done | assumption) | rfl) dX10_turned_17 rfl ?_
        refine r_bipush dX10_turned_18 kb_8 rfl ?_
        refine r_icmp_neN (by omega) (by omega) (r := 29) dX10_turned_20 (by decide) rfl (fun c_20 => ?_) (fun c_20 => ?_)
        · refine r_iload_n dX10_turned_29 rfl rfl ?_
          refine r_iret rfl dX10_turned_30 ?_
          exact ⟨rfl, rfl, rfl⟩
        · exact absurd c_20 hx
theorem q_turned (E : ZE) (mo : Nat) (hm : E.2.2.2.2 = some mo) (w : ZW) (sg : ZM) (d : Nat) (W : List Nat) (hn : W.length ≤ 130) (h : wtG sg W) : CallQ E MX10_turned [.ref mo, .int (nI W.length)] w sg d 0 0 (fun v w' sg' => v = some (.int (nI (negsN W))) ∧ w = w' ∧ sg = sg') := by
  have h0 := rtu E mo hm w sg d W.length hn W 0 h rfl
  rw [Nat.zero_add] at h0
  refine CallQ.of rfl (by simp [Value.category]) (Nat.le_of_ble_eq_true rfl) ?_
  refine r_iconst dX10_turned_0 kc_0 rfl ?_
  refine r_istore_n (ls' := [_, _, _]) dX10_turned_1 (Nat.le_of_ble_eq_true rfl) rfl rfl ?_
  exact h0
