/-! ===== the model's cursor over a text ===== -/
theorem q_addPart (E : ZE) (mo : Nat) (hm : E.2.2.2.2 = some mo) (w : ZW) (sg : ZM) (d n : Nat) (g k x y : Int32) (hn : n < 130) (h : mi sg 21 = nI n) : CallQ E MX10_addPart [.ref mo, .int g, .int k, .int x, .int y] w sg d 0 0 (fun v w' sg' => v = none ∧ w = w' ∧ sg' = msi (msa (msa (msa (msa sg 13 n g) 14 n k) 15 n x) 16 n y) 21 (nI (n + 1))) := by
  refine CallQ.of rfl (by simp [Value.category]) (Nat.le_of_ble_eq_true rfl) ?_
  refine r_aload_n dX10_addPart_0 rfl (zRv_ref _) rfl ?_
  refine m_geta hm 22 13 lfX10_47 rfl (by decide) dX10_addPart_1 rfl ?_
  refine r_aload_n dX10_addPart_4 rfl (zRv_ref _) rfl ?_
  refine m_getiv hm 21 lfX10_163 rfl (by first | (simp only [zGS, zMS, Nat.reduceEqDiff, OfNat.ofNat_ne_ofNat, false_and, and_false, true_and, and_true, and_self, if_true, if_false, ite_true, ite_false, reduceIte, reduceCtorEq]; first | done | assumption | rfl) | assumption | exact z2_eq | exact z1_eq | (simp [zGS, zMS]; first | done | assumption) | rfl) dX10_addPart_5 rfl ?_
  refine r_iload_n dX10_addPart_8 rfl rfl ?_
  refine m_iast hm 13 _ (by decide) (by decide) rfl rfl (by show _ < 130; omega) dX10_addPart_9 rfl ?_
  refine r_aload_n dX10_addPart_10 rfl (zRv_ref _) rfl ?_
  refine m_geta hm 23 14 lfX10_50 rfl (by decide) dX10_addPart_11 rfl ?_
  refine r_aload_n dX10_addPart_14 rfl (zRv_ref _) rfl ?_
  refine m_getiv hm 21 lfX10_163 rfl (by first | (simp only [zGS, zMS, Nat.reduceEqDiff, OfNat.ofNat_ne_ofNat, false_and, and_false, true_and, and_true, and_self, if_true, if_false, ite_true, ite_false, reduceIte, reduceCtorEq]; first | done | assumption | rfl) | assumption | exact z2_eq | exact z1_eq | (simp [zGS, zMS]; first | done | assumption) | rfl) dX10_addPart_15 rfl ?_
  refine r_iload_n dX10_addPart_18 rfl rfl ?_
  refine m_iast hm 14 _ (by decide) (by decide) rfl rfl (by show _ < 130; omega) dX10_addPart_19 rfl ?_
  refine r_aload_n dX10_addPart_20 rfl (zRv_ref _) rfl ?_
  refine m_geta hm 24 15 lfX10_53 rfl (by decide) dX10_addPart_21 rfl ?_
  refine r_aload_n dX10_addPart_24 rfl (zRv_ref _) rfl ?_
  refine m_getiv hm 21 lfX10_163 rfl (by first | (simp only [zGS, zMS, Nat.reduceEqDiff, OfNat.ofNat_ne_ofNat, false_and, and_false, true_and, and_true, and_self, if_true, if_false, ite_true, ite_false, reduceIte, reduceCtorEq]; first | done | assumption | rfl) | assumption | exact z2_eq | exact z1_eq | (simp [zGS, zMS]; first | done | assumption) | rfl) dX10_addPart_25 rfl ?_
  refine r_iload_n dX10_addPart_28 rfl rfl ?_
  refine m_iast hm 15 _ (by decide) (by decide) rfl rfl (by show _ < 130; omega) dX10_addPart_29 rfl ?_
  refine r_aload_n dX10_addPart_30 rfl (zRv_ref _) rfl ?_
  refine m_geta hm 25 16 lfX10_56 rfl (by decide) dX10_addPart_31 rfl ?_
  refine r_aload_n dX10_addPart_34 rfl (zRv_ref _) rfl ?_
  refine m_getiv hm 21 lfX10_163 rfl (by first | (simp only [zGS, zMS, Nat.reduceEqDiff, OfNat.ofNat_ne_ofNat, false_and, and_false, true_and, and_true, and_self, if_true, if_false, ite_true, ite_false, reduceIte, reduceCtorEq]; first | done | assumption | rfl) | assumption | exact z2_eq | exact z1_eq | (simp [zGS, zMS]; first | done | assumption) | rfl) dX10_addPart_35 rfl ?_
  refine r_iload dX10_addPart_38 rfl rfl ?_
  refine m_iast hm 16 _ (by decide) (by decide) rfl rfl (by show _ < 130; omega) dX10_addPart_40 rfl ?_
  refine r_aload_n dX10_addPart_41 rfl (zRv_ref _) rfl ?_
  refine r_dup dX10_addPart_42 (by first | rfl | exact zcat_rf _) rfl ?_
  refine m_getiv hm 21 lfX10_163 rfl (by first | (simp only [zGS, zMS, Nat.reduceEqDiff, OfNat.ofNat_ne_ofNat, false_and, and_false, true_and, and_true, and_self, if_true, if_false, ite_true, ite_false, reduceIte, reduceCtorEq]; first | done | assumption | rfl) | assumption | exact z2_eq | exact z1_eq | (simp [zGS, zMS]; first | done | assumption) | rfl) dX10_addPart_43 rfl ?_
  refine r_iconst dX10_addPart_46 kc_1 rfl ?_
  refine r_iaddN dX10_addPart_47 rfl ?_
  refine m_puti hm 21 lfX10_163 rfl rfl rfl dX10_addPart_48 rfl ?_
  refine r_vret rfl dX10_addPart_51 ?_
  exact ⟨rfl, rfl, rfl⟩
theorem q_add (E : ZE) (mo : Nat) (hm : E.2.2.2.2 = some mo) (w : ZW) (sg : ZM) (d n : Nat) (k : Int32) (v : UInt32) (hn : n < 130) (h : mi sg 32 = nI n) : CallQ E MX10_add [.ref mo, .int k, .float v] w sg d 0 0 (fun r w' sg' => r = none ∧ w = w' ∧ sg' = msi (msg (msa sg 21 n k) 22 n v) 32 (nI (n + 1))) := by
  refine CallQ.of rfl (by simp [Value.category]) (Nat.le_of_ble_eq_true rfl) ?_
  refine r_aload_n dX10_add_0 rfl (zRv_ref _) rfl ?_
  refine m_geta hm 33 21 lfX10_72 rfl (by decide) dX10_add_1 rfl ?_
  refine r_aload_n dX10_add_4 rfl (zRv_ref _) rfl ?_
  refine m_getiv hm 32 lfX10_169 rfl (by first | (simp only [zGS, zMS, Nat.reduceEqDiff, OfNat.ofNat_ne_ofNat, false_and, and_false, true_and, and_true, and_self, if_true, if_false, ite_true, ite_false, reduceIte, reduceCtorEq]; first | done | assumption | rfl) | assumption | exact z2_eq | exact z1_eq | (simp [zGS, zMS]; first | done | assumption) | rfl) dX10_add_5 rfl ?_
  refine r_iload_n dX10_add_8 rfl rfl ?_
  refine m_iast hm 21 _ (by decide) (by decide) rfl rfl (by show _ < 130; omega) dX10_add_9 rfl ?_
  refine r_aload_n dX10_add_10 rfl (zRv_ref _) rfl ?_
  refine m_geta hm 34 22 lfX10_75 rfl (by decide) dX10_add_11 rfl ?_
  refine r_aload_n dX10_add_14 rfl (zRv_ref _) rfl ?_
  refine m_getiv hm 32 lfX10_169 rfl (by first | (simp only [zGS, zMS, Nat.reduceEqDiff, OfNat.ofNat_ne_ofNat, false_and, and_false, true_and, and_true, and_self, if_true, if_false, ite_true, ite_false, reduceIte, reduceCtorEq]; first | done | assumption | rfl) | assumption | exact z2_eq | exact z1_eq | (simp [zGS, zMS]; first | done | assumption) | rfl) dX10_add_15 rfl ?_
  refine r_fload_n dX10_add_18 rfl rfl ?_
  refine m_fast hm 22 _ (by decide) (by decide) rfl rfl (by show _ < 130; omega) dX10_add_19 rfl ?_
  refine r_aload_n dX10_add_20 rfl (zRv_ref _) rfl ?_
  refine r_dup dX10_add_21 (by first | rfl | exact zcat_rf _) rfl ?_
  refine m_getiv hm 32 lfX10_169 rfl (by first | (simp only [zGS, zMS, Nat.reduceEqDiff, OfNat.ofNat_ne_ofNat, false_and, and_false, true_and, and_true, and_self, if_true, if_false, ite_true, ite_false, reduceIte, reduceCtorEq]; first | done | assumption | rfl) | assumption | exact z2_eq | exact z1_eq | (simp [zGS, zMS]; first | done | assumption) | rfl) dX10_add_22 rfl ?_
  refine r_iconst dX10_add_25 kc_1 rfl ?_
  refine r_iaddN dX10_add_26 rfl ?_
  refine m_puti hm 32 lfX10_169 rfl rfl rfl dX10_add_27 rfl ?_
  refine r_vret rfl dX10_add_30 ?_
  exact ⟨rfl, rfl, rfl⟩
/-- only the cursor has moved -/
def mvC (sg sg' : ZM) : Prop := (∀ k, k ≠ 14 → k ≠ 15 → mi sg' k = mi sg k) ∧ ma sg' = ma sg ∧ mg sg' = mg sg
theorem mvC.rf {sg : ZM} : mvC sg sg := ⟨fun _ _ _ => rfl, rfl, rfl⟩
theorem mvC.tr {a b c : ZM} (h : mvC a b) (g : mvC b c) : mvC a c := ⟨fun k h1 h2 => (g.1 k h1 h2).trans (h.1 k h1 h2), g.2.1.trans h.2.1, g.2.2.trans h.2.2⟩
theorem mvC.m14 {sg : ZM} {v : Int32} : mvC sg (msi sg 14 v) := ⟨fun k h1 h2 => by rw [mi_msi, if_neg h1], rfl, rfl⟩
theorem mvC.m15 {sg : ZM} {v : Int32} : mvC sg (msi sg 15 v) := ⟨fun k h1 h2 => by rw [mi_msi, if_neg h2], rfl, rfl⟩
/-- text f/120: what is left to read is r, and all is good -/
def cuG (sg : ZM) (f : Nat) (r : List Nat) : Prop := ∃ a, crI sg a (a + r.length) true ∧ mi sg 12 = nI f ∧ f ≤ a ∧ a + r.length ≤ f + 120 ∧ f ≤ 1920 ∧ (∀ i c, r[i]? = some c → chN sg (a + i) = c) ∧ ∀ c ∈ r, 1 ≤ c ∧ c < 128
/-- all is not good; m moves more are no harm -/
def cuB (sg : ZM) (f m : Nat) : Prop := ∃ a e, crI sg a e false ∧ mi sg 12 = nI f ∧ a + m ≤ 3000
theorem cuB.mono {sg : ZM} {f m m' : Nat} (h : cuB sg f m) (hm : m' ≤ m) : cuB sg f m' := by
  obtain ⟨a, e, h1, h2, h3⟩ := h
  exact ⟨a, e, h1, h2, by omega⟩
theorem chN_eq {sg sg' : ZM} (h : ma sg' = ma sg) (i : Nat) : chN sg' i = chN sg i := by unfold chN; rw [h]
theorem lkN_eq {sg sg' : ZM} (h : ma sg' = ma sg) (a e : Nat) : lkN sg' a e = lkN sg a e := by unfold lkN; rw [chN_eq h]
def hdN : List Nat → Nat
  | [] => 0
  | c :: _ => c
theorem lk_hd {sg : ZM} {a : Nat} {r : List Nat} (h : ∀ i c, r[i]? = some c → chN sg (a + i) = c) : lkN sg a (a + r.length) = hdN r := by
  cases r with
  | nil => exact if_neg (by simp)
  | cons c r =>
    have := h 0 c rfl
    unfold lkN
    rw [if_pos (by simp), Nat.add_zero] at *
    exact this
theorem cu_step {sg sg' : ZM} {f a c : Nat} {r : List Nat} (h1 : crI sg a (a + (c :: r).length) true) (h2 : mi sg 12 = nI f) (h3 : f ≤ a) (h4 : a + (c :: r).length ≤ f + 120) (h5 : f ≤ 1920) (h6 : ∀ i x, (c :: r)[i]? = some x → chN sg (a + i) = x) (h7 : ∀ x ∈ c :: r, 1 ≤ x ∧ x < 128) (hs : crI sg' (a + 1) (a + (c :: r).length) true) (hv : mvC sg sg') : cuG sg' f r := by
  have e1 : a + 1 + r.length = a + (c :: r).length := by rw [List.length_cons]; omega
  refine ⟨a + 1, by rw [e1]; exact hs, (hv.1 12 (by decide) (by decide)).trans h2, by omega, by rw [e1]; exact h4, h5, fun i x hx => ?_, fun x hx => h7 x (List.mem_cons_of_mem _ hx)⟩
  rw [chN_eq hv.2.1, Nat.add_assoc, Nat.add_comm 1 i]
  exact h6 (i + 1) x hx
theorem cu_stay {sg sg' : ZM} {f a : Nat} {r : List Nat} (h1 : crI sg a (a + r.length) true) (h2 : mi sg 12 = nI f) (h3 : f ≤ a) (h4 : a + r.length ≤ f + 120) (h5 : f ≤ 1920) (h6 : ∀ i x, r[i]? = some x → chN sg (a + i) = x) (h7 : ∀ x ∈ r, 1 ≤ x ∧ x < 128) (hs : crI sg' a (a + r.length) true) (hv : mvC sg sg') : cuG sg' f r :=
  ⟨a, hs, (hv.1 12 (by decide) (by decide)).trans h2, h3, h4, h5, fun i x hx => by rw [chN_eq hv.2.1]; exact h6 i x hx, h7⟩
theorem p_look (E : ZE) (mo : Nat) (hm : E.2.2.2.2 = some mo) (w : ZW) (sg : ZM) (d f : Nat) (r : List Nat) (h : cuG sg f r) : CallQ E MX10_look [.ref mo] w sg d 0 0 (fun v w' sg' => v = some (.int (nI (hdN r))) ∧ w = w' ∧ sg = sg') := by
  obtain ⟨a, h1, h2, h3, h4, h5, h6, h7⟩ := h
  rw [← lk_hd h6]
  exact q_look E mo hm w sg d a _ true h1
theorem p_pass (E : ZE) (mo : Nat) (hm : E.2.2.2.2 = some mo) (w : ZW) (sg : ZM) (d f c : Nat) (hd : 1 ≤ d) (hc : 1 ≤ c ∧ c < 128) (r : List Nat) (h : cuG sg f r) : CallQ E MX10_pass [.ref mo, .int (nI c)] w sg d 0 0 (fun v w' sg' => v = some (.int (zb (pCh c r).isSome)) ∧ w = w' ∧ mvC sg sg' ∧ cuG sg' f ((pCh c r).getD r)) := by
  obtain ⟨a, h1, h2, h3, h4, h5, h6, h7⟩ := h
  have hl := lk_hd h6
  refine (q_pass E mo hm w sg d a _ c true hd hc.2 h1).mono ?_
  rintro v w' sg' ⟨q1, q2, q3⟩
  have ha : a < 9999 := by omega
  rw [hl] at q1 q3
  cases r with
  | nil =>
    have e1 : hdN [] ≠ c := fun q => by have q9 : 0 = c := q; omega
    rw [if_neg e1] at q3
    rw [decide_eq_false e1] at q1
    refine ⟨q1, q2, by rw [q3]; exact mvC.m14, ?_⟩
    have h1' := h1.m14 (b := a) (by omega)
    rw [← q3] at h1'
    exact cu_stay h1 h2 h3 h4 h5 h6 h7 h1' (by rw [q3]; exact mvC.m14)
  | cons x r =>
    by_cases e1 : x = c
    · subst e1
      rw [if_pos (show hdN (x :: r) = x from rfl)] at q3
      rw [decide_eq_true (show hdN (x :: r) = x from rfl)] at q1
      have e2 : pCh x (x :: r) = some r := if_pos rfl
      rw [e2]
      have h1' := h1.m14 (b := a + 1) (by omega)
      rw [← q3] at h1'
      exact ⟨q1, q2, by rw [q3]; exact mvC.m14, cu_step h1 h2 h3 h4 h5 h6 h7 h1' (by rw [q3]; exact mvC.m14)⟩
    · rw [if_neg (show ¬ hdN (x :: r) = c from e1)] at q3
      rw [decide_eq_false (show ¬ hdN (x :: r) = c from e1)] at q1
      have e2 : pCh c (x :: r) = none := if_neg e1
      rw [e2]
      have h1' := h1.m14 (b := a) (by omega)
      rw [← q3] at h1'
      exact ⟨q1, q2, by rw [q3]; exact mvC.m14, cu_stay h1 h2 h3 h4 h5 h6 h7 h1' (by rw [q3]; exact mvC.m14)⟩
def cuO (sg : ZM) (f m : Nat) (o : Option (List Nat)) : Prop := match o with
  | none => cuB sg f m
  | some r => cuG sg f r
theorem p_expect (E : ZE) (mo : Nat) (hm : E.2.2.2.2 = some mo) (w : ZW) (sg : ZM) (d f c : Nat) (hd : 2 ≤ d) (hc : 1 ≤ c ∧ c < 128) (r : List Nat) (h : cuG sg f r) : CallQ E MX10_expect [.ref mo, .int (nI c)] w sg d 0 0 (fun v w' sg' => v = none ∧ w = w' ∧ mvC sg sg' ∧ cuO sg' f 900 (pCh c r)) := by
  obtain ⟨a, h1, h2, h3, h4, h5, h6, h7⟩ := h
  have hl := lk_hd h6
  refine (q_expect E mo hm w sg d a _ c true hd hc.2 h1).mono ?_
  rintro v w' sg' ⟨q1, q2, q3⟩
  have ha : a < 9999 := by omega
  rw [hl, Bool.true_and] at q3
  have hmv : mvC sg sg' := by rw [q3]; exact mvC.m14.tr mvC.m15
  refine ⟨q1, q2, hmv, ?_⟩
  have hbad : hdN r ≠ c → cuB sg' f 900 := fun e1 => by
    rw [if_neg e1, decide_eq_false e1] at q3
    have h1' := (h1.m14 (b := a) (by omega)).m15 (g' := false)
    rw [← q3] at h1'
    exact ⟨a, _, h1', (hmv.1 12 (by decide) (by decide)).trans h2, by omega⟩
  cases r with
  | nil => exact hbad (fun q => by have q9 : 0 = c := q; omega)
  | cons x r =>
    by_cases e1 : x = c
    · subst e1
      rw [if_pos (show hdN (x :: r) = x from rfl), decide_eq_true (show hdN (x :: r) = x from rfl)] at q3
      have e2 : pCh x (x :: r) = some r := if_pos rfl
      rw [e2]
      have h1' := (h1.m14 (b := a + 1) (by omega)).m15 (g' := true)
      rw [← q3] at h1'
      exact cu_step h1 h2 h3 h4 h5 h6 h7 h1' hmv
    · have e2 : pCh c (x :: r) = none := if_neg e1
      rw [e2]
      exact hbad e1
