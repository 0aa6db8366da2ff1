/-! ===== the model: pour, isOpen ===== -/
/-- the signs l stand behind the first n -/
def adS (sg sg' : ZM) (n : Nat) (l : List PStep) : Prop := (∀ j, j ≠ 32 → mi sg' j = mi sg j) ∧ mi sg' 32 = nI (n + l.length) ∧ (∀ j i, ¬ (j = 21 ∧ n ≤ i) → ma sg' j i = ma sg j i) ∧ (∀ j i, ¬ (j = 22 ∧ n ≤ i) → mg sg' j i = mg sg j i) ∧ ∀ i q, l[i]? = some q → ma sg' 21 (n + i) = nI q.1 ∧ mg sg' 22 (n + i) = q.2
theorem adS.rf {sg : ZM} {n : Nat} (h : mi sg 32 = nI n) : adS sg sg n [] := ⟨fun _ _ => rfl, h, fun _ _ _ => rfl, fun _ _ _ => rfl, fun i q hq => (by cases hq)⟩
theorem adS.one {sg : ZM} {n k : Nat} {v : UInt32} : adS sg (msi (msg (msa sg 21 n (nI k)) 22 n v) 32 (nI (n + 1))) n [(k, v)] := by
  refine ⟨fun j h => by rw [mi_msi, if_neg h]; rfl, by rw [mi_msi, if_pos rfl]; rfl, fun j i h => ?_, fun j i h => ?_, fun i q hq => ?_⟩
  · show ma (msa sg 21 n (nI k)) j i = _
    rw [ma_msa, if_neg (fun q => h ⟨q.1, by omega⟩)]
  · show mg (msg (msa sg 21 n (nI k)) 22 n v) j i = _
    rw [mg_msg, if_neg (fun q => h ⟨q.1, by omega⟩)]
    rfl
  · cases i with
    | zero =>
      cases hq
      refine ⟨?_, ?_⟩
      · show ma (msa sg 21 n (nI k)) 21 n = _
        rw [ma_msa, if_pos ⟨rfl, rfl⟩]
      · show mg (msg (msa sg 21 n (nI k)) 22 n v) 22 n = _
        rw [mg_msg, if_pos ⟨rfl, rfl⟩]
    | succ i => simp at hq
theorem adS.tr {a b c : ZM} {n : Nat} {l1 l2 : List PStep} (h : adS a b n l1) (g : adS b c (n + l1.length) l2) : adS a c n (l1 ++ l2) := by
  obtain ⟨h1, h2, h3, h4, h5⟩ := h
  obtain ⟨g1, g2, g3, g4, g5⟩ := g
  refine ⟨fun j q => (g1 j q).trans (h1 j q), by rw [List.length_append, ← Nat.add_assoc]; exact g2, fun j i q => (g3 j i (fun z => q ⟨z.1, by omega⟩)).trans (h3 j i q), fun j i q => (g4 j i (fun z => q ⟨z.1, by omega⟩)).trans (h4 j i q), fun i q hq => ?_⟩
  rcases Nat.lt_or_ge i l1.length with c9 | c9
  · rw [List.getElem?_append_left c9] at hq
    obtain ⟨e1, e2⟩ := h5 i q hq
    exact ⟨(g3 21 (n + i) (fun z => by omega)).trans e1, (g4 22 (n + i) (fun z => by omega)).trans e2⟩
  · rw [List.getElem?_append_right c9] at hq
    have := g5 (i - l1.length) q hq
    rw [show n + l1.length + (i - l1.length) = n + i by omega] at this
    exact this
/-- what is poured, and what stays -/
def prO (s : Nat) : List Nat → List PStep
  | [] => []
  | x :: W => if s ≤ strN x then (x, 0) :: prO s W else []
def prW (s : Nat) : List Nat → List Nat
  | [] => []
  | x :: W => if s ≤ strN x then prW s W else x :: W
theorem strN_le (x : Nat) : strN x ≤ 3 := by
  unfold strN
  split
  · decide
  · split
    · decide
    · split <;> decide
theorem rpr (E : ZE) (mo : Nat) (hm : E.2.2.2.2 = some mo) (w : ZW) (d n s : Nat) (hd : 1 ≤ d) (hs : s < 4) (x1 : Value) : ∀ (W : List Nat) (sg : ZM) (m : Nat), wtG sg W → mi sg 32 = nI m → m + W.length < 130 → W.length ≤ 130 → RW E MX10_pour 2 [some (.ref mo), some x1, some (.int (nI s)), some (.int (nI W.length))] [] w sg d 0 0 (PN E (fun v w' sg' => v = some (.int (nI (prW s W).length)) ∧ w = w' ∧ adS sg sg' m (prO s W)))
  | [], sg, m, h, h32, hm9, hW => by
    refine r_iload_n dX10_pour_2 rfl rfl ?_
    refine r_if_leN (by omega) (r := 38) dX10_pour_3 (by decide) rfl (fun c_3 => ?_) (fun c_3 => ?_)
    · refine r_iload_n dX10_pour_38 rfl rfl ?_
      refine r_iret rfl dX10_pour_39 ?_
      exact ⟨rfl, rfl, adS.rf h32⟩
    · exact absurd c_3 (by decide)
  | x :: W, sg, m, ⟨h1, h2, h3⟩, h32, hm9, hW => by
    have hlen : (x :: W).length = W.length + 1 := List.length_cons
    rw [hlen] at hm9 hW ⊢
    have hst := strN_le x
    by_cases hx : s ≤ strN x
    · have e1 : prO s (x :: W) = (x, 0) :: prO s W := if_pos hx
      have e2 : prW s (x :: W) = prW s W := if_pos hx
      rw [e1, e2]
      refine r_iload_n dX10_pour_2 rfl rfl ?_
      refine r_if_leN (by omega) (r := 38) dX10_pour_3 (by decide) rfl (fun c_3 => ?_) (fun c_3 => ?_)
      · exact absurd c_3 (by omega)
      · refine r_aload_n dX10_pour_6 rfl (zRv_ref _) rfl ?_
        refine m_geta hm 35 23 lfX10_79 rfl (by decide) dX10_pour_7 rfl ?_
        refine r_iload_n dX10_pour_10 rfl rfl ?_
        refine r_iconst dX10_pour_11 kc_1 rfl ?_
        refine r_isubN (by omega) dX10_pour_12 rfl ?_
        rw [Nat.add_sub_cancel]
        refine m_ialdv hm 23 _ (by decide) (by decide) rfl rfl (by show _ < 130; omega) (by first | (simp only [zGS, zMS, Nat.reduceEqDiff, OfNat.ofNat_ne_ofNat, false_and, and_false, true_and, and_true, and_self, if_true, if_false, ite_true, ite_false, reduceIte, reduceCtorEq]; first | done | assumption | rfl) | assumption | exact z2_eq | exact z1_eq | (simp [zGS, zMS]; first | done | assumption) | rfl) dX10_pour_13 rfl ?_
        refine r_callS MX10_strength 1 [_] lsX10_235 (q_strength E w sg (d - 1) x h2) rfl rfl (by first | exact Nat.le_of_ble_eq_true rfl | (simp [zcat_rf, Value.category]; done)) (by omega) (Nat.le_of_eq (Nat.zero_add _)) (Nat.le_of_eq (Nat.zero_add _)) dX10_pour_14 rfl (fun v_ w_ sg_ hq_ => ?_)
        obtain ⟨rfl, rfl, rfl⟩ := hq_
        refine r_iload_n dX10_pour_17 rfl rfl ?_
        refine r_icmp_ltN (by omega) (by omega) (r := 38) dX10_pour_18 (by decide) rfl (fun c_18 => ?_) (fun c_18 => ?_)
        · exact absurd hx (by omega)
        · refine r_iinc (ls' := [_, _, _, _]) dX10_pour_21 (Nat.le_of_ble_eq_true rfl) rfl (zdec1 (by omega)) rfl rfl ?_
          rw [Nat.add_sub_cancel]
          refine r_aload_n dX10_pour_24 rfl (zRv_ref _) rfl ?_
          refine r_aload_n dX10_pour_25 rfl (zRv_ref _) rfl ?_
          refine m_geta hm 35 23 lfX10_79 rfl (by decide) dX10_pour_26 rfl ?_
          refine r_iload_n dX10_pour_29 rfl rfl ?_
          refine m_ialdv hm 23 _ (by decide) (by decide) rfl rfl (by show _ < 130; omega) (by first | (simp only [zGS, zMS, Nat.reduceEqDiff, OfNat.ofNat_ne_ofNat, false_and, and_false, true_and, and_true, and_self, if_true, if_false, ite_true, ite_false, reduceIte, reduceCtorEq]; first | done | assumption | rfl) | assumption | exact z2_eq | exact z1_eq | (simp [zGS, zMS]; first | done | assumption) | rfl) dX10_pour_30 rfl ?_
          refine r_fconst0 dX10_pour_31 rfl ?_
          refine r_callV MX10_add 2 [_, _] lvX10_231 (Or.inr (Or.inl ⟨hm, rfl⟩)) (q_add E mo hm w sg (d - 1) m (nI x) 0 (by omega) h32) rfl rfl (by first | exact Nat.le_of_ble_eq_true rfl | (simp [zcat_rf, Value.category]; done)) (by omega) (Nat.le_of_eq (Nat.zero_add _)) (Nat.le_of_eq (Nat.zero_add _)) dX10_pour_32 rfl (fun v_ w_ sg_ hq_ => ?_)
          obtain ⟨rfl, rfl, hs9⟩ := hq_
          obtain ⟨sg1, hsg1⟩ : ∃ y, y = sg_ := ⟨_, rfl⟩
          subst hsg1
          have p1 : adS sg sg1 m [(x, 0)] := by rw [hs9]; exact adS.one
          have h3' : wtG sg1 W := h3.fr (fun i _ => p1.2.2.1 23 i (fun z => absurd z.1 (by decide)))
          refine r_goto (r := 2) dX10_pour_35 (by decide) ?_
          refine RW.qmono (rpr E mo hm w d n s hd hs x1 W sg1 (m + 1) h3' p1.2.1 (by omega) (by omega)) ?_
          rintro v w' sg' ⟨q1, q2, q3⟩
          exact ⟨q1, q2, p1.tr q3⟩
    · have e1 : prO s (x :: W) = [] := if_neg hx
      have e2 : prW s (x :: W) = x :: W := if_neg hx
      rw [e1, e2, hlen]
      refine r_iload_n dX10_pour_2 rfl rfl ?_
      refine r_if_leN (by omega) (r := 38) dX10_pour_3 (by decide) rfl (fun c_3 => ?_) (fun c_3 => ?_)
      · exact absurd c_3 (by omega)
      · refine r_aload_n dX10_pour_6 rfl (zRv_ref _) rfl ?_
        refine m_geta hm 35 23 lfX10_79 rfl (by decide) dX10_pour_7 rfl ?_
        refine r_iload_n dX10_pour_10 rfl rfl ?_
        refine r_iconst dX10_pour_11 kc_1 rfl ?_
        refine r_isubN (by omega) dX10_pour_12 rfl ?_
        rw [Nat.add_sub_cancel]
        refine m_ialdv hm 23 _ (by decide) (by decide) rfl rfl (by show _ < 130; omega) (by first | (simp only [zGS, zMS, Nat.reduceEqDiff, OfNat.ofNat_ne_ofNat, false_and, and_false, true_and, and_true, and_self, if_true, if_false, ite_true, ite_false, reduceIte, reduceCtorEq]; first | done | assumption | rfl) | assumption | exact z2_eq | exact z1_eq | (simp [zGS, zMS]; first | done | assumption) | rfl) dX10_pour_13 rfl ?_
        refine r_callS MX10_strength 1 [_] lsX10_235 (q_strength E w sg (d - 1) x h2) rfl rfl (by first | exact Nat.le_of_ble_eq_true rfl | (simp [zcat_rf, Value.category]; done)) (by omega) (Nat.le_of_eq (Nat.zero_add _)) (Nat.le_of_eq (Nat.zero_add _)) dX10_pour_14 rfl (fun v_ w_ sg_ hq_ => ?_)
        obtain ⟨rfl, rfl, rfl⟩ := hq_
        refine r_iload_n dX10_pour_17 rfl rfl ?_
        refine r_icmp_ltN (by omega) (by omega) (r := 38) dX10_pour_18 (by decide) rfl (fun c_18 => ?_) (fun c_18 => ?_)
        · refine r_iload_n dX10_pour_38 rfl rfl ?_
          refine r_iret rfl dX10_pour_39 ?_
          exact ⟨rfl, rfl, adS.rf h32⟩
        · exact absurd c_18 (by omega)
theorem q_pour (E : ZE) (mo : Nat) (hm : E.2.2.2.2 = some mo) (w : ZW) (sg : ZM) (d s m : Nat) (hd : 1 ≤ d) (hs : s < 4) (W : List Nat) (h : wtG sg W) (h32 : mi sg 32 = nI m) (hb : m + W.length < 130) : CallQ E MX10_pour [.ref mo, .int (nI W.length), .int (nI s)] w sg d 0 0 (fun v w' sg' => v = some (.int (nI (prW s W).length)) ∧ w = w' ∧ adS sg sg' m (prO s W)) := by
  refine CallQ.of rfl (by simp [Value.category]) (Nat.le_of_ble_eq_true rfl) ?_
  refine r_iload_n dX10_pour_0 rfl rfl ?_
  refine r_istore_n (ls' := [_, _, _, _]) dX10_pour_1 (Nat.le_of_ble_eq_true rfl) rfl rfl ?_
  exact rpr E mo hm w d 0 s hd hs _ W sg m h h32 hb (by omega)
