/-! ===== the model: outside, move ===== -/
theorem q_outI (E : ZE) (w : ZW) (sg : ZM) (d : Nat) (v l h : Int32) : CallQ E MX10_outside [.int v, .int l, .int h] w sg d 0 0 (fun r w' sg' => r = some (.int (zb (!(decide (¬ v < l) && decide (¬ h < v))))) ∧ w = w' ∧ sg = sg') := by
  refine CallQ.of rfl (by simp [Value.category]) (Nat.le_of_ble_eq_true rfl) ?_
  refine r_iload_n dX10_outside_0 rfl rfl ?_
  refine r_iload_n dX10_outside_1 rfl rfl ?_
  refine r_icmp_lt (r := 10) dX10_outside_2 (by decide) rfl (fun c_2 => ?_) (fun c_2 => ?_)
  · refine r_iconst dX10_outside_10 kc_1 rfl ?_
    refine r_goto (r := 15) dX10_outside_11 (by decide) ?_
    refine r_zret .boolean rfl rfl dX10_outside_15 ?_
    rw [decide_eq_false (p := ¬ v < l) (fun q => q c_2)]
    exact ⟨rfl, rfl, rfl⟩
  · refine r_iload_n dX10_outside_5 rfl rfl ?_
    refine r_iload_n dX10_outside_6 rfl rfl ?_
    refine r_icmp_le (r := 14) dX10_outside_7 (by decide) rfl (fun c_7 => ?_) (fun c_7 => ?_)
    · refine r_iconst dX10_outside_14 kc_0 rfl ?_
      refine r_zret .boolean rfl rfl dX10_outside_15 ?_
      rw [decide_eq_true c_2, decide_eq_true (p := ¬ h < v) (Int32.not_lt.mpr c_7)]
      exact ⟨rfl, rfl, rfl⟩
    · refine r_iconst dX10_outside_10 kc_1 rfl ?_
      refine r_goto (r := 15) dX10_outside_11 (by decide) ?_
      refine r_zret .boolean rfl rfl dX10_outside_15 ?_
      rw [decide_eq_true c_2, decide_eq_false (p := ¬ h < v) (fun q => q (Int32.not_le.mp c_7))]
      exact ⟨rfl, rfl, rfl⟩
theorem out_in {k : Int32} {n : Nat} (hn : n < 2147483648) : (decide (¬ k < nI 0) && decide (¬ nI n - nI 1 < k)) = inI k n := by
  unfold inI
  rw [nI_0]
  congr 1
  refine decide_eq_decide.mpr ?_
  rcases Nat.eq_zero_or_pos n with rfl | q
  · rw [show nI 0 - nI 1 = (-1 : Int32) by decide, Int32.lt_iff_toInt_lt, Int32.lt_iff_toInt_lt]
    have h1 : (-1 : Int32).toInt = -1 := by decide
    have h2 : (nI 0).toInt = 0 := by decide
    omega
  · rw [pk_sub q, Int32.lt_iff_toInt_lt, Int32.lt_iff_toInt_lt, nI_toInt hn, nI_toInt (by omega)]
    omega
theorem q_outE (E : ZE) (w : ZW) (sg : ZM) (d n : Nat) (k h : Int32) (hn : n < 2147483648) (hh : h = nI n - nI 1) : CallQ E MX10_outside [.int k, .int (nI 0), .int h] w sg d 0 0 (fun r w' sg' => r = some (.int (zb (!inI k n))) ∧ w = w' ∧ sg = sg') := by
  have h0 := q_outI E w sg d k (nI 0) h
  rw [hh, out_in hn, ← hh] at h0
  exact h0
/-- only text b may have changed -/
def mvR (a c : ZM) (b : Nat) : Prop := mi c = mi a ∧ mg c = mg a ∧ ∀ j i, ¬ (j = 7 ∧ 120 * b ≤ i ∧ i < 120 * b + 120) → ¬ (j = 8 ∧ i = b) → ma c j i = ma a j i
def mvK (sg c : ZM) (b k : Nat) (X : List Nat) : Prop := mi c = mi sg ∧ mg c = mg sg ∧ (∀ j i, ¬ (j = 7 ∧ 120 * b ≤ i ∧ i < 120 * b + k) → ma c j i = ma sg j i) ∧ ∀ i x, i < k → X[i]? = some x → ma c 7 (120 * b + i) = nI x
theorem txA.ch {sg : ZM} {k : Nat} {X : List Nat} (ht : mTx sg) (hk : k ≤ 16) (h : txA sg k X) {i c : Nat} (hc : X[i]? = some c) : ma sg 7 (120 * k + i) = nI c ∧ c < 128 := by
  obtain ⟨h1, h2, h3, h4⟩ := h
  have hi := (List.getElem?_eq_some_iff.mp hc).1
  have h5 := h3 i c hc
  have h6 := (ht.c (show 120 * k + i < 2040 by omega)).1
  rw [h5] at h6
  exact ⟨h6, (h4 c (List.mem_of_getElem? hc)).2⟩
theorem rmv_2 (E : ZE) (mo : Nat) (hm : E.2.2.2.2 = some mo) (w : ZW) (sg : ZM) (d a b : Nat) (X : List Nat) (ha : a ≤ 16) (hb : b ≤ 16) (hab : a ≠ b) (ht : mTx sg) (h : txA sg a X) : ∀ (m k : Nat) (c : ZM), k + m = X.length → mvK sg c b k X → RW E MX10_move 2 [some (.ref mo), some (.int (nI a)), some (.int (nI b)), some (.int (nI k))] [] w c d 0 0 (PN E (fun v w' sg' => v = none ∧ w = w' ∧ ∃ c1, mvK sg c1 b X.length X ∧ sg' = msa c1 8 b (nI X.length))) := by
  intro m
  obtain ⟨h1, h2, h3, h4⟩ := id h
  induction m with
  | zero =>
    intro k c hk hK
    have hk2 : k = X.length := by omega
    subst hk2
    have e8 : ma c 8 a = nI X.length := (hK.2.2.1 8 a (by omega)).trans h1
    refine r_iload_n dX10_move_2 rfl rfl ?_
    refine r_aload_n dX10_move_3 rfl (zRv_ref _) rfl ?_
    refine m_geta hm 10 8 lfX10_32 rfl (by decide) dX10_move_4 rfl ?_
    refine r_iload_n dX10_move_7 rfl rfl ?_
    refine m_ialdv hm 8 _ (by decide) (by decide) rfl rfl (by show _ < 17; omega) (by first | (simp only [zGS, zMS, Nat.reduceEqDiff, OfNat.ofNat_ne_ofNat, false_and, and_false, true_and, and_true, and_self, if_true, if_false, ite_true, ite_false, reduceIte, reduceCtorEq]; first | done | assumption | rfl) | assumption | exact z2_eq | exact z1_eq | (simp [zGS, zMS]; first | done | assumption) | rfl) dX10_move_8 rfl ?_
    refine r_icmp_geN (by omega) (by omega) (r := 40) dX10_move_9 (by decide) rfl (fun c_9 => ?_) (fun c_9 => ?_)
    · refine r_aload_n dX10_move_40 rfl (zRv_ref _) rfl ?_
      refine m_geta hm 10 8 lfX10_32 rfl (by decide) dX10_move_41 rfl ?_
      refine r_iload_n dX10_move_44 rfl rfl ?_
      refine r_aload_n dX10_move_45 rfl (zRv_ref _) rfl ?_
      refine m_geta hm 10 8 lfX10_32 rfl (by decide) dX10_move_46 rfl ?_
      refine r_iload_n dX10_move_49 rfl rfl ?_
      refine m_ialdv hm 8 _ (by decide) (by decide) rfl rfl (by show _ < 17; omega) (by first | (simp only [zGS, zMS, Nat.reduceEqDiff, OfNat.ofNat_ne_ofNat, false_and, and_false, true_and, and_true, and_self, if_true, if_false, ite_true, ite_false, reduceIte, reduceCtorEq]; first | done | assumption | rfl) | assumption | exact z2_eq | exact z1_eq | (simp [zGS, zMS]; first | done | assumption) | rfl) dX10_move_50 rfl ?_
      refine m_iast hm 8 _ (by decide) (by decide) rfl rfl (by show _ < 17; omega) dX10_move_51 rfl ?_
      refine r_vret rfl dX10_move_52 ?_
      exact ⟨rfl, rfl, c, hK, rfl⟩
    · exact absurd c_9 (by omega)
  | succ m ih =>
    intro k c hk hK
    have e8 : ma c 8 a = nI X.length := (hK.2.2.1 8 a (by omega)).trans h1
    obtain ⟨x, hx⟩ : ∃ x, X[k]? = some x := ⟨X[k], List.getElem?_eq_getElem (by omega)⟩
    obtain ⟨x1, x2⟩ := h.ch ht ha hx
    have e7 : ma c 7 (120 * a + k) = nI x := (hK.2.2.1 7 (120 * a + k) (by omega)).trans x1
    refine r_iload_n dX10_move_2 rfl rfl ?_
    refine r_aload_n dX10_move_3 rfl (zRv_ref _) rfl ?_
    refine m_geta hm 10 8 lfX10_32 rfl (by decide) dX10_move_4 rfl ?_
    refine r_iload_n dX10_move_7 rfl rfl ?_
    refine m_ialdv hm 8 _ (by decide) (by decide) rfl rfl (by show _ < 17; omega) (by first | (simp only [zGS, zMS, Nat.reduceEqDiff, OfNat.ofNat_ne_ofNat, false_and, and_false, true_and, and_true, and_self, if_true, if_false, ite_true, ite_false, reduceIte, reduceCtorEq]; first | done | assumption | rfl) | assumption | exact z2_eq | exact z1_eq | (simp [zGS, zMS]; first | done | assumption) | rfl) dX10_move_8 rfl ?_
    refine r_icmp_geN (by omega) (by omega) (r := 40) dX10_move_9 (by decide) rfl (fun c_9 => ?_) (fun c_9 => ?_)
    · exact absurd c_9 (by omega)
    · refine r_aload_n dX10_move_12 rfl (zRv_ref _) rfl ?_
      refine m_geta hm 9 7 lfX10_28 rfl (by decide) dX10_move_13 rfl ?_
      refine r_bipush dX10_move_16 kb_120 rfl ?_
      refine r_iload_n dX10_move_18 rfl rfl ?_
      refine r_imulN dX10_move_19 rfl ?_
      refine r_iload_n dX10_move_20 rfl rfl ?_
      refine r_iaddN dX10_move_21 rfl ?_
      refine r_aload_n dX10_move_22 rfl (zRv_ref _) rfl ?_
      refine m_geta hm 9 7 lfX10_28 rfl (by decide) dX10_move_23 rfl ?_
      refine r_bipush dX10_move_26 kb_120 rfl ?_
      refine r_iload_n dX10_move_28 rfl rfl ?_
      refine r_imulN dX10_move_29 rfl ?_
      refine r_iload_n dX10_move_30 rfl rfl ?_
      refine r_iaddN dX10_move_31 rfl ?_
      refine m_caldv hm 7 _ (by decide) (by decide) rfl rfl (by show _ < 2040; omega) (by first | (simp only [zGS, zMS, Nat.reduceEqDiff, OfNat.ofNat_ne_ofNat, false_and, and_false, true_and, and_true, and_self, if_true, if_false, ite_true, ite_false, reduceIte, reduceCtorEq]; first | done | assumption | rfl) | assumption | exact z2_eq | exact z1_eq | (simp [zGS, zMS]; first | done | assumption) | rfl) dX10_move_32 rfl ?_
      refine m_cast hm 7 _ (by first | exact zch_nar (by omega) | assumption | (simp only [*]; exact zch_nar (by omega))) (by decide) (by decide) rfl rfl (by show _ < 2040; omega) dX10_move_33 rfl ?_
      refine r_iinc (ls' := [_, _, _, _]) dX10_move_34 (Nat.le_of_ble_eq_true rfl) rfl (zinc1 _) rfl rfl ?_
      refine r_goto (r := 2) dX10_move_37 (by decide) ?_
      refine ih (k + 1) _ (by omega) ⟨hK.1, hK.2.1, fun j i q => ?_, fun i y q hy => ?_⟩
      · rw [ma_msa, if_neg (by omega)]
        exact hK.2.2.1 j i (by omega)
      · rcases Nat.lt_or_ge i k with c9 | c9
        · rw [ma_msa, if_neg (by omega)]
          exact hK.2.2.2 i y c9 hy
        · have hik : i = k := by omega
          subst hik
          rw [hx] at hy
          cases hy
          rw [ma_msa, if_pos ⟨rfl, rfl⟩]
theorem q_move (E : ZE) (mo : Nat) (hm : E.2.2.2.2 = some mo) (w : ZW) (sg : ZM) (d a b : Nat) (X : List Nat) (ha : a ≤ 16) (hb : b ≤ 16) (hab : a ≠ b) (ht : mTx sg) (h : txA sg a X) : CallQ E MX10_move [.ref mo, .int (nI a), .int (nI b)] w sg d 0 0 (fun v w' sg' => v = none ∧ w = w' ∧ mvR sg sg' b ∧ mTx sg' ∧ txA sg' b X) := by
  have h0 := rmv_2 E mo hm w sg d a b X ha hb hab ht h X.length 0 sg (Nat.zero_add _) ⟨rfl, rfl, fun j i _ => rfl, fun i x q => absurd q (Nat.not_lt_zero i)⟩
  refine CallQ.mono (Q := fun v w' sg' => v = none ∧ w = w' ∧ ∃ c1, mvK sg c1 b X.length X ∧ sg' = msa c1 8 b (nI X.length)) ?_ ?_
  · refine CallQ.of rfl (by simp [Value.category]) (Nat.le_of_ble_eq_true rfl) ?_
    refine r_iconst dX10_move_0 kc_0 rfl ?_
    refine r_istore_n (ls' := [_, _, _, _]) dX10_move_1 (Nat.le_of_ble_eq_true rfl) rfl rfl ?_
    exact h0
  · rintro v w' sg' ⟨q1, q2, c1, ⟨k1, k2, k3, k4⟩, q4⟩
    have hl := h.2.1
    have hc7 : ∀ i c, X[i]? = some c → chN sg' (120 * b + i) = c := fun i c hc => by
      have hi := (List.getElem?_eq_some_iff.mp hc).1
      have := k4 i c hi hc
      have hc9 := (h.2.2.2 c (List.mem_of_getElem? hc)).2
      unfold chN
      rw [q4, ma_msa, if_neg (by omega), this, zcl (by omega)]
    refine ⟨q1, q2, ⟨?_, ?_, fun j i p r => ?_⟩, fun i hi => ?_, ?_, hl, hc7, h.2.2.2⟩
    · rw [q4]; exact k1
    · rw [q4]; exact k2
    · rw [q4, ma_msa, if_neg (by omega)]
      exact k3 j i (by omega)
    · rw [q4, ma_msa, if_neg (by omega)]
      by_cases c9 : 120 * b ≤ i ∧ i < 120 * b + X.length
      · obtain ⟨x, hx⟩ : ∃ x, X[i - 120 * b]? = some x := ⟨X[i - 120 * b], List.getElem?_eq_getElem (by omega)⟩
        have := k4 (i - 120 * b) x (by omega) hx
        rw [show 120 * b + (i - 120 * b) = i by omega] at this
        exact ⟨x, (h.2.2.2 x (List.mem_of_getElem? hx)).2, this⟩
      · rw [k3 7 i (by omega)]
        exact ht i hi
    · rw [q4, ma_msa, if_pos ⟨rfl, rfl⟩]
theorem txA.fr {a b : ZM} {k : Nat} {X : List Nat} (h : txA a k X) (h8 : ma b 8 k = ma a 8 k) (h7 : ∀ i, 120 * k ≤ i → i < 120 * k + 120 → ma b 7 i = ma a 7 i) : txA b k X := by
  obtain ⟨h1, h2, h3, h4⟩ := h
  refine ⟨h8.trans h1, h2, fun i c hc => ?_, h4⟩
  have hi := (List.getElem?_eq_some_iff.mp hc).1
  have := h3 i c hc
  unfold chN at this ⊢
  rw [h7 _ (by omega) (by omega)]
  exact this
/-! ===== the model's state: its texts, its tree ===== -/
def rlA (sg : ZM) (k : Nat) (q : List Nat × Nat) (R : PRule) : Prop := txA sg k q.1 ∧ ma sg 9 k = nI q.2 ∧ q.2 < 3 ∧ readR q.1 q.2 = some R
def mdT (sg : ZM) (Rs : List PRule) (B : List Nat) : Prop := Rs.length ≤ 16 ∧ mi sg 8 = nI Rs.length ∧ (∀ k R, Rs[k]? = some R → ∃ q, rlA sg k q R) ∧ txA sg 16 B ∧ mTx sg ∧ mWd sg
def mdI (sg : ZM) (T : List PEl) (Rs : List PRule) (B : List Nat) : Prop := mTree sg T ∧ mdT sg Rs B
theorem mTx.fr {a b : ZM} (h : mTx a) (e : ∀ i, ma b 7 i = ma a 7 i) : mTx b := fun i hi => by rw [e]; exact h i hi
theorem mdT.fr {a b : ZM} {Rs : List PRule} {B : List Nat} (h : mdT a Rs B) (e1 : mi b 8 = mi a 8) (e2 : ∀ j i, 7 ≤ j → j ≤ 9 → ma b j i = ma a j i) (e3 : ∀ j i, 24 ≤ j → j ≤ 25 → ma b j i = ma a j i) : mdT b Rs B := by
  obtain ⟨h1, h2, h3, h4, h5, h6⟩ := h
  refine ⟨h1, e1.trans h2, fun k R hR => ?_, h4.fr (e2 _ _ (by decide) (by decide)) (fun i _ _ => e2 _ _ (by decide) (by decide)), h5.fr (fun i => e2 _ _ (by decide) (by decide)), h6.kp e3⟩
  obtain ⟨q, q1, q2, q3⟩ := h3 k R hR
  exact ⟨q, q1.fr (e2 _ _ (by decide) (by decide)) (fun i _ _ => e2 _ _ (by decide) (by decide)), (e2 _ _ (by decide) (by decide)).trans q2, q3⟩
theorem mTree.fr {a b : ZM} {T : List PEl} (h : mTree a T) (e1 : mi b 1 = mi a 1) (e2 : ∀ j i, 1 ≤ j → j ≤ 6 → ma b j i = ma a j i) : mTree b T := by
  obtain ⟨h1, h2, h3⟩ := h
  refine ⟨h1, e1.trans h2, fun e he => ?_⟩
  rw [e2 1 e (by decide) (by decide), e2 2 e (by decide) (by decide), e2 3 e (by decide) (by decide), e2 4 e (by decide) (by decide), e2 5 e (by decide) (by decide), e2 6 e (by decide) (by decide)]
  exact h3 e he
theorem rKp.T {a b : ZM} {T : List PEl} (h : rKp a b) (t : mTree a T) : mTree b T := t.fr (h.1 1 (by decide)) (fun j i _ _ => h.2.1 j i (by omega))
theorem rKp.D {a b : ZM} {Rs : List PRule} {B : List Nat} (h : rKp a b) (t : mdT a Rs B) : mdT b Rs B := t.fr (h.1 8 (by decide)) (fun j i _ _ => h.2.1 j i (by omega)) (fun j i _ _ => h.2.1 j i (by omega))
theorem mdI.r {a b : ZM} {T : List PEl} {Rs : List PRule} {B : List Nat} (h : mdI a T Rs B) (k : rKp a b) : mdI b T Rs B := ⟨k.T h.1, k.D h.2⟩
theorem mdI.code {a : ZM} {T : List PEl} {Rs : List PRule} {B : List Nat} (h : mdI a T Rs B) (v : Int32) : mdI (msi a 0 v) T Rs B := ⟨h.1.fr (by rw [mi_msi, if_neg (by decide)]) (fun _ _ _ _ => rfl), h.2.fr (by rw [mi_msi, if_neg (by decide)]) (fun _ _ _ _ => rfl) (fun _ _ _ _ => rfl)⟩
