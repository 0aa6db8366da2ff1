/-! ===== the model's cursor: digits, letters; when all is not good ===== -/
def digV (r : List Nat) : Int32 := match pDig r with
  | none => 0
  | some (x, _) => nI x
def rstO (o : Option (Nat × List Nat)) : Option (List Nat) := match o with
  | none => none
  | some (_, r) => some r
theorem p_isDigit (E : ZE) (mo : Nat) (hm : E.2.2.2.2 = some mo) (w : ZW) (sg : ZM) (d f : Nat) (hd : 1 ≤ d) (r : List Nat) (h : cuG sg f r) : CallQ E MX10_isDigit [.ref mo] w sg d 0 0 (fun v w' sg' => v = some (.int (zb (pDig r).isSome)) ∧ w = w' ∧ sg = sg') := by
  obtain ⟨a, h1, h2, h3, h4, h5, h6, h7⟩ := h
  have hl := lk_hd h6
  refine (q_isDigit E mo hm w sg d a _ true hd h1).mono ?_
  rintro v w' sg' ⟨q1, q2, q3⟩
  rw [hl] at q1
  refine ⟨?_, q2, q3⟩
  rw [q1]
  cases r with
  | nil => rfl
  | cons c r =>
    show some (Value.int (zb (inN c 48 57))) = some (Value.int (zb (if 48 ≤ c ∧ c ≤ 57 then some (c - 48, r) else none).isSome))
    unfold inN
    by_cases q : 48 ≤ c ∧ c ≤ 57
    · rw [decide_eq_true q, if_pos q]; rfl
    · rw [decide_eq_false q, if_neg q]; rfl
theorem p_digit (E : ZE) (mo : Nat) (hm : E.2.2.2.2 = some mo) (w : ZW) (sg : ZM) (d f : Nat) (hd : 2 ≤ d) (r : List Nat) (h : cuG sg f r) : CallQ E MX10_digit [.ref mo] w sg d 0 0 (fun v w' sg' => v = some (.int (digV r)) ∧ w = w' ∧ mvC sg sg' ∧ cuO sg' f 900 (rstO (pDig r))) := by
  obtain ⟨a, h1, h2, h3, h4, h5, h6, h7⟩ := h
  have hl := lk_hd h6
  have hge : true = true → a < a + r.length ∨ inN (lkN sg a (a + r.length)) 48 57 = false := fun _ => by
    cases r with
    | nil => rw [hl]; exact Or.inr (by decide)
    | cons c r => exact Or.inl (by simp)
  refine (q_digit E mo hm w sg d a _ true hd (by omega) h1 hge).mono ?_
  rintro v w' sg' ⟨q1, q2, q3⟩
  rw [hl, Bool.true_and] at q1 q3
  have hmv : mvC sg sg' := by rw [q3]; exact mvC.m15.tr mvC.m14
  have hbad : inN (hdN r) 48 57 = false → v = some (.int 0) ∧ cuB sg' f 900 := fun e1 => by
    rw [e1] at q1 q3
    have h1' := (h1.m15 (g' := false)).m14 (b := a + 1) (by omega)
    rw [← q3] at h1'
    exact ⟨q1, a + 1, _, h1', (hmv.1 12 (by decide) (by decide)).trans h2, by omega⟩
  cases r with
  | nil =>
    obtain ⟨g1, g2⟩ := hbad (by decide)
    exact ⟨g1, q2, hmv, g2⟩
  | cons c r =>
    by_cases q : 48 ≤ c ∧ c ≤ 57
    · have e2 : pDig (c :: r) = some (c - 48, r) := if_pos q
      have e3 : inN (hdN (c :: r)) 48 57 = true := decide_eq_true q
      rw [e3] at q1 q3
      unfold digV
      rw [e2]
      have h1' := (h1.m15 (g' := true)).m14 (b := a + 1) (by omega)
      rw [← q3] at h1'
      exact ⟨q1, q2, hmv, cu_step h1 h2 h3 h4 h5 h6 h7 h1' hmv⟩
    · have e2 : pDig (c :: r) = none := if_neg q
      unfold digV
      rw [e2]
      obtain ⟨g1, g2⟩ := hbad (decide_eq_false q)
      exact ⟨g1, q2, hmv, g2⟩
/-- a letter from a to lt -/
def pLet (lt : Nat) : List Nat → Option (Nat × List Nat)
  | [] => none
  | c :: r => if 97 ≤ c ∧ c ≤ lt then some (c, r) else none
def letV (lt : Nat) (r : List Nat) : Nat := match pLet lt r with
  | none => 97
  | some (x, _) => x
theorem p_letter (E : ZE) (mo : Nat) (hm : E.2.2.2.2 = some mo) (w : ZW) (sg : ZM) (d f lt : Nat) (hlt : lt < 128) (hd : 2 ≤ d) (r : List Nat) (h : cuG sg f r) : CallQ E MX10_letter [.ref mo, .int (nI lt)] w sg d 0 0 (fun v w' sg' => v = some (.int (nI (letV lt r))) ∧ w = w' ∧ mvC sg sg' ∧ cuO sg' f 900 (rstO (pLet lt r))) := by
  obtain ⟨a, h1, h2, h3, h4, h5, h6, h7⟩ := h
  have hl := lk_hd h6
  refine (q_letter E mo hm w sg d a _ lt true hd (by omega) hlt h1).mono ?_
  rintro v w' sg' ⟨q1, q2, q3⟩
  rw [hl, Bool.true_and] at q1 q3
  have hmv : mvC sg sg' := by rw [q3]; exact mvC.m15.tr mvC.m14
  have hbad : inN (hdN r) 97 lt = false → v = some (.int (nI 97)) ∧ cuB sg' f 900 := fun e1 => by
    rw [e1] at q1 q3
    have h1' := (h1.m15 (g' := false)).m14 (b := a + 1) (by omega)
    rw [← q3] at h1'
    exact ⟨q1, a + 1, _, h1', (hmv.1 12 (by decide) (by decide)).trans h2, by omega⟩
  cases r with
  | nil =>
    obtain ⟨g1, g2⟩ := hbad (decide_eq_false (fun q => absurd q.1 (by decide)))
    exact ⟨g1, q2, hmv, g2⟩
  | cons c r =>
    by_cases q : 97 ≤ c ∧ c ≤ lt
    · have e2 : pLet lt (c :: r) = some (c, r) := if_pos q
      have e3 : inN (hdN (c :: r)) 97 lt = true := decide_eq_true q
      rw [e3] at q1 q3
      unfold letV
      rw [e2]
      have h1' := (h1.m15 (g' := true)).m14 (b := a + 1) (by omega)
      rw [← q3] at h1'
      exact ⟨q1, q2, hmv, cu_step h1 h2 h3 h4 h5 h6 h7 h1' hmv⟩
    · have e2 : pLet lt (c :: r) = none := if_neg q
      unfold letV
      rw [e2]
      obtain ⟨g1, g2⟩ := hbad (decide_eq_false q)
      exact ⟨g1, q2, hmv, g2⟩
theorem b_look (E : ZE) (mo : Nat) (hm : E.2.2.2.2 = some mo) (w : ZW) (sg : ZM) (d f m : Nat) (h : cuB sg f m) : CallQ E MX10_look [.ref mo] w sg d 0 0 (fun v w' sg' => (∃ c, c < 128 ∧ v = some (.int (nI c))) ∧ w = w' ∧ sg = sg') := by
  obtain ⟨a, e, h1, h2, h3⟩ := h
  refine (q_look E mo hm w sg d a e false h1).mono ?_
  rintro v w' sg' ⟨q1, q2, q3⟩
  exact ⟨⟨_, h1.lk, q1⟩, q2, q3⟩
theorem b_pass (E : ZE) (mo : Nat) (hm : E.2.2.2.2 = some mo) (w : ZW) (sg : ZM) (d f c m : Nat) (hd : 1 ≤ d) (hc : c < 128) (h : cuB sg f (m + 1)) : CallQ E MX10_pass [.ref mo, .int (nI c)] w sg d 0 0 (fun v w' sg' => (∃ b, v = some (.int (zb b))) ∧ w = w' ∧ mvC sg sg' ∧ cuB sg' f m) := by
  obtain ⟨a, e, h1, h2, h3⟩ := h
  refine (q_pass E mo hm w sg d a e c false hd hc h1).mono ?_
  rintro v w' sg' ⟨q1, q2, q3⟩
  have hmv : mvC sg sg' := by rw [q3]; exact mvC.m14
  refine ⟨⟨_, q1⟩, q2, hmv, ?_⟩
  have hb : (if lkN sg a e = c then a + 1 else a) ≤ a + 1 := by split <;> omega
  have h1' := h1.m14 (b := if lkN sg a e = c then a + 1 else a) (by omega)
  rw [← q3] at h1'
  exact ⟨_, e, h1', (hmv.1 12 (by decide) (by decide)).trans h2, by omega⟩
theorem b_must (E : ZE) (mo : Nat) (hm : E.2.2.2.2 = some mo) (w : ZW) (sg : ZM) (d f m : Nat) (b : Bool) (h : cuB sg f m) : CallQ E MX10_must [.ref mo, .int (zb b)] w sg d 0 0 (fun v w' sg' => v = none ∧ w = w' ∧ mvC sg sg' ∧ cuB sg' f m) := by
  obtain ⟨a, e, h1, h2, h3⟩ := h
  refine (q_must E mo hm w sg d false b h1.2.2.2.1).mono ?_
  rintro v w' sg' ⟨q1, q2, q3⟩
  rw [Bool.false_and] at q3
  have hmv : mvC sg sg' := by rw [q3]; exact mvC.m15
  have h1' := h1.m15 (g' := false)
  rw [← q3] at h1'
  exact ⟨q1, q2, hmv, a, e, h1', (hmv.1 12 (by decide) (by decide)).trans h2, h3⟩
theorem b_expect (E : ZE) (mo : Nat) (hm : E.2.2.2.2 = some mo) (w : ZW) (sg : ZM) (d f c m : Nat) (hd : 2 ≤ d) (hc : c < 128) (h : cuB sg f (m + 1)) : CallQ E MX10_expect [.ref mo, .int (nI c)] w sg d 0 0 (fun v w' sg' => v = none ∧ w = w' ∧ mvC sg sg' ∧ cuB sg' f m) := by
  obtain ⟨a, e, h1, h2, h3⟩ := h
  refine (q_expect E mo hm w sg d a e c false hd hc h1).mono ?_
  rintro v w' sg' ⟨q1, q2, q3⟩
  rw [Bool.false_and] at q3
  have hmv : mvC sg sg' := by rw [q3]; exact mvC.m14.tr mvC.m15
  refine ⟨q1, q2, hmv, ?_⟩
  have hb : (if lkN sg a e = c then a + 1 else a) ≤ a + 1 := by split <;> omega
  have h1' := (h1.m14 (b := if lkN sg a e = c then a + 1 else a) (by omega)).m15 (g' := false)
  rw [← q3] at h1'
  exact ⟨_, e, h1', (hmv.1 12 (by decide) (by decide)).trans h2, by omega⟩
theorem b_digit (E : ZE) (mo : Nat) (hm : E.2.2.2.2 = some mo) (w : ZW) (sg : ZM) (d f m : Nat) (hd : 2 ≤ d) (h : cuB sg f (m + 1)) : CallQ E MX10_digit [.ref mo] w sg d 0 0 (fun v w' sg' => v = some (.int 0) ∧ w = w' ∧ mvC sg sg' ∧ cuB sg' f m) := by
  obtain ⟨a, e, h1, h2, h3⟩ := h
  refine (q_digit E mo hm w sg d a e false hd (by omega) h1 (fun q => by cases q)).mono ?_
  rintro v w' sg' ⟨q1, q2, q3⟩
  rw [Bool.false_and] at q1 q3
  have hmv : mvC sg sg' := by rw [q3]; exact mvC.m15.tr mvC.m14
  have h1' := (h1.m15 (g' := false)).m14 (b := a + 1) (by omega)
  rw [← q3] at h1'
  exact ⟨q1, q2, hmv, a + 1, e, h1', (hmv.1 12 (by decide) (by decide)).trans h2, by omega⟩
theorem b_letter (E : ZE) (mo : Nat) (hm : E.2.2.2.2 = some mo) (w : ZW) (sg : ZM) (d f lt m : Nat) (hlt : lt < 128) (hd : 2 ≤ d) (h : cuB sg f (m + 1)) : CallQ E MX10_letter [.ref mo, .int (nI lt)] w sg d 0 0 (fun v w' sg' => v = some (.int (nI 97)) ∧ w = w' ∧ mvC sg sg' ∧ cuB sg' f m) := by
  obtain ⟨a, e, h1, h2, h3⟩ := h
  refine (q_letter E mo hm w sg d a e lt false hd (by omega) hlt h1).mono ?_
  rintro v w' sg' ⟨q1, q2, q3⟩
  rw [Bool.false_and] at q1 q3
  have hmv : mvC sg sg' := by rw [q3]; exact mvC.m15.tr mvC.m14
  have h1' := (h1.m15 (g' := false)).m14 (b := a + 1) (by omega)
  rw [← q3] at h1'
  exact ⟨q1, q2, hmv, a + 1, e, h1', (hmv.1 12 (by decide) (by decide)).trans h2, by omega⟩
theorem b_isDigit (E : ZE) (mo : Nat) (hm : E.2.2.2.2 = some mo) (w : ZW) (sg : ZM) (d f m : Nat) (hd : 1 ≤ d) (h : cuB sg f m) : CallQ E MX10_isDigit [.ref mo] w sg d 0 0 (fun v w' sg' => (∃ b, v = some (.int (zb b))) ∧ w = w' ∧ sg = sg') := by
  obtain ⟨a, e, h1, h2, h3⟩ := h
  refine (q_isDigit E mo hm w sg d a e false hd h1).mono ?_
  rintro v w' sg' ⟨q1, q2, q3⟩
  exact ⟨⟨_, q1⟩, q2, q3⟩
