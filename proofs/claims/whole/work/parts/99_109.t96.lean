/-! ===== the model's cursor, good or not ===== -/
theorem cuO.mono {sg : ZM} {f m m' : Nat} {o : Option (List Nat)} (h : cuO sg f m o) (hm : m' ≤ m) : cuO sg f m' o := by
  cases o with
  | none => exact cuB.mono h hm
  | some r => exact h
def bndO (o : Option (List Nat)) (k : List Nat → Option (List Nat)) : Option (List Nat) := match o with
  | none => none
  | some r => k r
theorem o_look (E : ZE) (mo : Nat) (hm : E.2.2.2.2 = some mo) (w : ZW) (sg : ZM) (d f m : Nat) (o : Option (List Nat)) (h : cuO sg f m o) : CallQ E MX10_look [.ref mo] w sg d 0 0 (fun v w' sg' => ∃ c, v = some (.int (nI c)) ∧ c < 128 ∧ (∀ r, o = some r → c = hdN r) ∧ w = w' ∧ sg = sg') := by
  cases o with
  | none =>
    refine (b_look E mo hm w sg d f m h).mono ?_
    rintro v w' sg' ⟨⟨c, q1, q2⟩, q3, q4⟩
    exact ⟨c, q2, q1, fun r hr => (by cases hr), q3, q4⟩
  | some r =>
    have h7 : hdN r < 128 := by
      have h0 : cuG sg f r := h
      obtain ⟨a, -, -, -, -, -, -, h7⟩ := h0
      cases r with
      | nil => exact (by decide : 0 < 128)
      | cons c r => exact (h7 c List.mem_cons_self).2
    refine (p_look E mo hm w sg d f r h).mono ?_
    rintro v w' sg' ⟨q1, q2, q3⟩
    exact ⟨_, q1, h7, fun r' hr => (by cases hr; rfl), q2, q3⟩
theorem o_pass (E : ZE) (mo : Nat) (hm : E.2.2.2.2 = some mo) (w : ZW) (sg : ZM) (d f c m : Nat) (hd : 1 ≤ d) (hc : 1 ≤ c ∧ c < 128) (o : Option (List Nat)) (h : cuO sg f (m + 1) o) : CallQ E MX10_pass [.ref mo, .int (nI c)] w sg d 0 0 (fun v w' sg' => ∃ b, v = some (.int (zb b)) ∧ (∀ r, o = some r → b = (pCh c r).isSome) ∧ w = w' ∧ mvC sg sg' ∧ cuO sg' f m (bndO o fun r => some ((pCh c r).getD r))) := by
  cases o with
  | none =>
    refine (b_pass E mo hm w sg d f c m hd hc.2 h).mono ?_
    rintro v w' sg' ⟨⟨b, q1⟩, q2, q3, q4⟩
    exact ⟨b, q1, fun r hr => (by cases hr), q2, q3, q4⟩
  | some r =>
    refine (p_pass E mo hm w sg d f c hd hc r h).mono ?_
    rintro v w' sg' ⟨q1, q2, q3, q4⟩
    exact ⟨_, q1, fun r' hr => (by cases hr; rfl), q2, q3, q4⟩
theorem o_expect (E : ZE) (mo : Nat) (hm : E.2.2.2.2 = some mo) (w : ZW) (sg : ZM) (d f c m : Nat) (hm9 : m ≤ 900) (hd : 2 ≤ d) (hc : 1 ≤ c ∧ c < 128) (o : Option (List Nat)) (h : cuO sg f (m + 1) o) : CallQ E MX10_expect [.ref mo, .int (nI c)] w sg d 0 0 (fun v w' sg' => v = none ∧ w = w' ∧ mvC sg sg' ∧ cuO sg' f m (bndO o (pCh c))) := by
  cases o with
  | none => exact b_expect E mo hm w sg d f c m hd hc.2 h
  | some r =>
    refine (p_expect E mo hm w sg d f c hd hc r h).mono ?_
    rintro v w' sg' ⟨q1, q2, q3, q4⟩
    exact ⟨q1, q2, q3, q4.mono hm9⟩
theorem o_digit (E : ZE) (mo : Nat) (hm : E.2.2.2.2 = some mo) (w : ZW) (sg : ZM) (d f m : Nat) (hm9 : m ≤ 900) (hd : 2 ≤ d) (o : Option (List Nat)) (h : cuO sg f (m + 1) o) : CallQ E MX10_digit [.ref mo] w sg d 0 0 (fun v w' sg' => (∃ x, v = some (.int (nI x)) ∧ x < 10 ∧ ∀ r, o = some r → nI x = digV r) ∧ w = w' ∧ mvC sg sg' ∧ cuO sg' f m (bndO o fun r => rstO (pDig r))) := by
  cases o with
  | none =>
    refine (b_digit E mo hm w sg d f m hd h).mono ?_
    rintro v w' sg' ⟨q1, q2, q3, q4⟩
    exact ⟨⟨0, q1, by decide, fun r hr => (by cases hr)⟩, q2, q3, q4⟩
  | some r =>
    refine (p_digit E mo hm w sg d f hd r h).mono ?_
    rintro v w' sg' ⟨q1, q2, q3, q4⟩
    refine ⟨?_, q2, q3, q4.mono hm9⟩
    unfold digV at q1
    cases hq : pDig r with
    | none =>
      rw [hq] at q1
      refine ⟨0, q1, by decide, fun r' hr => ?_⟩
      cases hr
      unfold digV
      rw [hq]
      rfl
    | some p =>
      obtain ⟨x, r2⟩ := p
      rw [hq] at q1
      refine ⟨x, q1, (pDig_len hq).2, fun r' hr => ?_⟩
      cases hr
      unfold digV
      rw [hq]
theorem o_letter (E : ZE) (mo : Nat) (hm : E.2.2.2.2 = some mo) (w : ZW) (sg : ZM) (d f lt m : Nat) (hm9 : m ≤ 900) (hlt : 97 ≤ lt ∧ lt < 128) (hd : 2 ≤ d) (o : Option (List Nat)) (h : cuO sg f (m + 1) o) : CallQ E MX10_letter [.ref mo, .int (nI lt)] w sg d 0 0 (fun v w' sg' => (∃ x, v = some (.int (nI x)) ∧ 97 ≤ x ∧ x ≤ lt ∧ (o = none → x = 97) ∧ ∀ r, o = some r → x = letV lt r) ∧ w = w' ∧ mvC sg sg' ∧ cuO sg' f m (bndO o fun r => rstO (pLet lt r))) := by
  cases o with
  | none =>
    refine (b_letter E mo hm w sg d f lt m hlt.2 hd h).mono ?_
    rintro v w' sg' ⟨q1, q2, q3, q4⟩
    exact ⟨⟨97, q1, by omega, hlt.1, fun _ => rfl, fun r hr => (by cases hr)⟩, q2, q3, q4⟩
  | some r =>
    refine (p_letter E mo hm w sg d f lt hlt.2 hd r h).mono ?_
    rintro v w' sg' ⟨q1, q2, q3, q4⟩
    have hb : 97 ≤ letV lt r ∧ letV lt r ≤ lt := by
      unfold letV pLet
      cases r with
      | nil => exact ⟨(by decide : 97 ≤ 97), hlt.1⟩
      | cons c r =>
        by_cases q : 97 ≤ c ∧ c ≤ lt
        · simp only [if_pos q]; exact q
        · simp only [if_neg q]; exact ⟨by decide, hlt.1⟩
    exact ⟨⟨_, q1, hb.1, hb.2, fun q => (by cases q), fun r' hr => (by cases hr; rfl)⟩, q2, q3, q4.mono hm9⟩
theorem o_must (E : ZE) (mo : Nat) (hm : E.2.2.2.2 = some mo) (w : ZW) (sg : ZM) (d f m : Nat) (hm9 : m ≤ 900) (b : Bool) (o : Option (List Nat)) (h : cuO sg f m o) : CallQ E MX10_must [.ref mo, .int (zb b)] w sg d 0 0 (fun v w' sg' => v = none ∧ w = w' ∧ mvC sg sg' ∧ cuO sg' f m (bndO o fun r => if b = true then some r else none)) := by
  cases o with
  | none => exact b_must E mo hm w sg d f m b h
  | some r =>
    have h0 : cuG sg f r := h
    obtain ⟨a, h1, h2, h3, h4, h5, h6, h7⟩ := h0
    refine (q_must E mo hm w sg d true b h1.2.2.2.1).mono ?_
    rintro v w' sg' ⟨q1, q2, q3⟩
    rw [Bool.true_and] at q3
    have hmv : mvC sg sg' := by rw [q3]; exact mvC.m15
    refine ⟨q1, q2, hmv, ?_⟩
    have h1' := h1.m15 (g' := b)
    rw [← q3] at h1'
    cases b with
    | true => exact cu_stay h1 h2 h3 h4 h5 h6 h7 h1' hmv
    | false => exact ⟨a, _, h1', (hmv.1 12 (by decide) (by decide)).trans h2, by omega⟩
/-- whether all is good -/
theorem cuO.g {sg : ZM} {f m : Nat} {o : Option (List Nat)} (h : cuO sg f m o) : mi sg 15 = zb o.isSome := by
  cases o with
  | none =>
    have h0 : cuB sg f m := h
    obtain ⟨a, e, h1, -⟩ := h0
    exact h1.2.2.2.1
  | some r =>
    have h0 : cuG sg f r := h
    obtain ⟨a, h1, -⟩ := h0
    exact h1.2.2.2.1
/-- one part more -/
def adP (sg sg' : ZM) (n : Nat) (g k x y : Int32) : Prop := (∀ j, j ≠ 14 → j ≠ 15 → j ≠ 21 → mi sg' j = mi sg j) ∧ mi sg' 21 = nI (n + 1) ∧ (∀ j i, ¬ (13 ≤ j ∧ j ≤ 16 ∧ i = n) → ma sg' j i = ma sg j i) ∧ (ma sg' 13 n = g ∧ ma sg' 14 n = k ∧ ma sg' 15 n = x ∧ ma sg' 16 n = y) ∧ mg sg' = mg sg
theorem adP.of {sg : ZM} {n : Nat} {g k x y : Int32} : adP sg (msi (msa (msa (msa (msa sg 13 n g) 14 n k) 15 n x) 16 n y) 21 (nI (n + 1))) n g k x y := by
  refine ⟨fun j _ _ h => by rw [mi_msi, if_neg h]; rfl, by rw [mi_msi, if_pos rfl], fun j i h => ?_, ⟨?_, ?_, ?_, ?_⟩, rfl⟩
  · show ma (msa (msa (msa (msa sg 13 n g) 14 n k) 15 n x) 16 n y) j i = _
    rw [ma_msa, if_neg (fun q => h ⟨by omega, by omega, q.2⟩), ma_msa, if_neg (fun q => h ⟨by omega, by omega, q.2⟩), ma_msa, if_neg (fun q => h ⟨by omega, by omega, q.2⟩), ma_msa, if_neg (fun q => h ⟨by omega, by omega, q.2⟩)]
  · show ma (msa (msa (msa (msa sg 13 n g) 14 n k) 15 n x) 16 n y) 13 n = _
    rw [ma_msa, if_neg (by omega), ma_msa, if_neg (by omega), ma_msa, if_neg (by omega), ma_msa, if_pos ⟨rfl, rfl⟩]
  · show ma (msa (msa (msa (msa sg 13 n g) 14 n k) 15 n x) 16 n y) 14 n = _
    rw [ma_msa, if_neg (by omega), ma_msa, if_neg (by omega), ma_msa, if_pos ⟨rfl, rfl⟩]
  · show ma (msa (msa (msa (msa sg 13 n g) 14 n k) 15 n x) 16 n y) 15 n = _
    rw [ma_msa, if_neg (by omega), ma_msa, if_pos ⟨rfl, rfl⟩]
  · show ma (msa (msa (msa (msa sg 13 n g) 14 n k) 15 n x) 16 n y) 16 n = _
    rw [ma_msa, if_pos ⟨rfl, rfl⟩]
theorem adP.mv {sg sg1 sg' : ZM} {n : Nat} {g k x y : Int32} (h : mvC sg sg1) (p : adP sg1 sg' n g k x y) : adP sg sg' n g k x y := by
  obtain ⟨h1, h2, h3⟩ := h
  obtain ⟨p1, p2, p3, p4, p5⟩ := p
  exact ⟨fun j a b c => (p1 j a b c).trans (h1 j a b), p2, fun j i q => (p3 j i q).trans (by rw [h2]), p4, p5.trans h3⟩
/-- the cursor behind a part more -/
theorem cuO.ad {sg sg' : ZM} {n f m : Nat} {g k x y : Int32} {o : Option (List Nat)} (h : cuO sg f m o) (p : adP sg sg' n g k x y) (h14 : mi sg' 14 = mi sg 14) (h15 : mi sg' 15 = mi sg 15) : cuO sg' f m o := by
  obtain ⟨p1, p2, p3, p4, p5⟩ := p
  have ht : ∀ i, ma sg' 7 i = ma sg 7 i := fun i => p3 7 i (fun q => absurd q.1 (by decide))
  have hc : ∀ i, chN sg' i = chN sg i := fun i => by unfold chN; rw [ht]
  have h12 := p1 12 (by decide) (by decide) (by decide)
  have h13 := p1 13 (by decide) (by decide) (by decide)
  have key : ∀ a e g, crI sg a e g → crI sg' a e g := fun a e g ⟨q1, q2, q3, q4, q5, q6⟩ => ⟨fun i hi => by rw [ht]; exact q1 i hi, h14.trans q2, h13.trans q3, h15.trans q4, q5, q6⟩
  cases o with
  | none =>
    have h0 : cuB sg f m := h
    obtain ⟨a, e, h1, h2, h3⟩ := h0
    exact ⟨a, e, key _ _ _ h1, h12.trans h2, h3⟩
  | some r =>
    have h0 : cuG sg f r := h
    obtain ⟨a, h1, h2, h3, h4, h5, h6, h7⟩ := h0
    exact ⟨a, key _ _ _ h1, h12.trans h2, h3, h4, h5, fun i c q => by rw [hc]; exact h6 i c q, h7⟩
theorem o_addPart (E : ZE) (mo : Nat) (hm : E.2.2.2.2 = some mo) (w : ZW) (sg : ZM) (d f m n : Nat) (g k x y : Int32) (hn : n < 130) (h21 : mi sg 21 = nI n) (o : Option (List Nat)) (h : cuO sg f m o) : CallQ E MX10_addPart [.ref mo, .int g, .int k, .int x, .int y] w sg d 0 0 (fun v w' sg' => v = none ∧ w = w' ∧ adP sg sg' n g k x y ∧ cuO sg' f m o) := by
  refine (q_addPart E mo hm w sg d n g k x y hn h21).mono ?_
  rintro v w' sg' ⟨q1, q2, q3⟩
  have hp : adP sg sg' n g k x y := by rw [q3]; exact adP.of
  exact ⟨q1, q2, hp, h.ad hp (by rw [q3, mi_msi, if_neg (by decide)]; rfl) (by rw [q3, mi_msi, if_neg (by decide)]; rfl)⟩
