/-! ===== sets of elements, as bits ===== -/
theorem nI_bv {a : Nat} (h : a < 2147483648) : (nI a).toBitVec.toNat = a := by
  show (BitVec.ofNat 32 a).toNat = a
  rw [BitVec.toNat_ofNat]
  exact Nat.mod_eq_of_lt (by omega)
theorem nI_bvi {x : Int32} {a : Nat} (h : a < 2147483648) (e : x.toBitVec.toNat = a) : x = nI a := by
  apply Int32.toBitVec_inj.mp
  apply BitVec.eq_of_toNat_eq
  rw [e, nI_bv h]
theorem nI_and {a b : Nat} (ha : a < 2147483648) (hb : b < 2147483648) : nI a &&& nI b = nI (a &&& b) := by
  refine nI_bvi (Nat.lt_of_le_of_lt Nat.and_le_left ha) ?_
  rw [Int32.toBitVec_and, BitVec.toNat_and, nI_bv ha, nI_bv hb]
theorem nI_or {a b : Nat} (ha : a < 2147483648) (hb : b < 2147483648) : nI a ||| nI b = nI (a ||| b) := by
  refine nI_bvi (Nat.or_lt_two_pow (n := 31) ha hb) ?_
  rw [Int32.toBitVec_or, BitVec.toNat_or, nI_bv ha, nI_bv hb]
def bset (f : Nat → Bool) : Nat → Nat
  | 0 => 0
  | n + 1 => if f n = true then bset f n ||| 2 ^ n else bset f n
theorem bset_lt (f : Nat → Bool) : ∀ n, bset f n < 2 ^ n
  | 0 => Nat.one_pos
  | n + 1 => by
    have h := bset_lt f n
    have h2 : 2 ^ n < 2 ^ (n + 1) := Nat.pow_lt_pow_right (by decide) (Nat.lt_succ_self n)
    unfold bset
    split
    · exact Nat.or_lt_two_pow (Nat.lt_trans h h2) h2
    · exact Nat.lt_trans h h2
theorem bset_bit (f : Nat → Bool) : ∀ n i, (bset f n).testBit i = (decide (i < n) && f i)
  | 0, i => by simp [bset]
  | n + 1, i => by
    have h := bset_bit f n i
    have h2 : (2 ^ n).testBit i = decide (n = i) := Nat.testBit_two_pow
    unfold bset
    by_cases e : i = n
    · subst e
      cases hf : f i
      · rw [if_neg (by decide), h, hf]; simp
      · rw [if_pos rfl, Nat.testBit_or, h2, h]; simp
    · have e1 : decide (i < n + 1) = decide (i < n) := decide_eq_decide.mpr (by omega)
      have e2 : decide (n = i) = false := decide_eq_false (by omega)
      rw [e1, ← h]
      split
      · rw [Nat.testBit_or, h2, e2, Bool.or_false]
      · rfl
theorem bset_congr {f g : Nat → Bool} {n : Nat} (h : ∀ i, i < n → f i = g i) : bset f n = bset g n := by
  apply Nat.eq_of_testBit_eq
  intro i
  rw [bset_bit, bset_bit]
  by_cases e : i < n
  · rw [h i e]
  · simp [e]
/-- whether two sets meet -/
def bmeet (a b : Nat) : Bool := !decide (a &&& b = 0)
theorem bmeet_pow {a i : Nat} : bmeet a (2 ^ i) = a.testBit i := by
  unfold bmeet
  cases h : a.testBit i with
  | true =>
    simp only [Bool.not_eq_true', decide_eq_false_iff_not]
    intro e
    have := congrArg (fun z => z.testBit i) e
    simp [Nat.testBit_and, h, Nat.testBit_two_pow] at this
  | false =>
    simp only [Bool.not_eq_false', decide_eq_true_eq]
    apply Nat.eq_of_testBit_eq
    intro j
    rw [Nat.testBit_and, Nat.testBit_two_pow, Nat.zero_testBit]
    by_cases e : i = j
    · subst e; simp [h]
    · simp [e]
def blast (f : Nat → Bool) : Nat → Nat
  | 0 => 0
  | n + 1 => if f n = true then 2 ^ n else blast f n
theorem blast_le (f : Nat → Bool) : ∀ n, blast f n < 2 ^ n
  | 0 => Nat.one_pos
  | n + 1 => by
    have h := blast_le f n
    have h2 : 2 ^ n < 2 ^ (n + 1) := Nat.pow_lt_pow_right (by decide) (Nat.lt_succ_self n)
    unfold blast
    split
    · exact h2
    · exact Nat.lt_trans h h2
def bcnt (f : Nat → Bool) : Nat → Nat
  | 0 => 0
  | n + 1 => bcnt f n + (if f n = true then 1 else 0)
theorem bcnt_le (f : Nat → Bool) : ∀ n, bcnt f n ≤ n
  | 0 => Nat.le_refl _
  | n + 1 => by
    have h := bcnt_le f n
    unfold bcnt
    split <;> omega
/-! ===== the tree ===== -/
abbrev PEl : Type := Option Nat × Nat × Nat × Nat
def tE (T : List PEl) (e : Nat) : PEl := T.getD e (none, 0, 0, 0)
def tP (T : List PEl) (e : Nat) : Option Nat := (tE T e).1
def tG (T : List PEl) (e : Nat) : Nat := (tE T e).2.1
def tI (T : List PEl) (e : Nat) : Nat := (tE T e).2.2.1
def tC (T : List PEl) (e : Nat) : Nat := (tE T e).2.2.2
def isKid (T : List PEl) (p b : Nat) : Bool := decide (tP T b = some p)
def parS (T : List PEl) (e : Nat) : Nat := match tP T e with
  | none => 0
  | some p => 2 ^ p
def kidS (T : List PEl) (p : Nat) : Nat := bset (isKid T p) T.length
def lastS (T : List PEl) (p : Nat) : Nat := blast (isKid T p) T.length
def befS (T : List PEl) (e : Nat) : Nat := match tP T e with
  | none => 0
  | some p => bset (isKid T p) e
def jusS (T : List PEl) (e : Nat) : Nat := match tP T e with
  | none => 0
  | some p => blast (isKid T p) e
def idxT (T : List PEl) (e : Nat) : Nat := match tP T e with
  | none => 1
  | some p => bcnt (isKid T p) e + 1
def abvF (T : List PEl) : Nat → Nat → Nat
  | 0, _ => 0
  | f + 1, e => match tP T e with
    | none => 0
    | some p => abvF T f p ||| 2 ^ p
def abvS (T : List PEl) (e : Nat) : Nat := abvF T e e
/-- parents come first, what stands in an element is small -/
def wfT (T : List PEl) : Prop := T.length ≤ 24 ∧ (∀ e p, tP T e = some p → p < e) ∧ ∀ e, tG T e < 128 ∧ tI T e < 128 ∧ tC T e < 256
theorem tP_lt {T : List PEl} {e p : Nat} (h : tP T e = some p) : e < T.length := by
  unfold tP tE at h
  rw [List.getD_eq_getElem?_getD] at h
  cases e1 : T[e]? with
  | none => rw [e1] at h; cases h
  | some x => exact (List.getElem?_eq_some_iff.mp e1).1
theorem abvF_lt {T : List PEl} (hw : wfT T) : ∀ f e, abvF T f e < 2 ^ e
  | 0, e => Nat.two_pow_pos e
  | f + 1, e => by
    unfold abvF
    split
    · exact Nat.two_pow_pos e
    · rename_i p hp
      have h1 := hw.2.1 e p hp
      have h2 := abvF_lt hw f p
      have h3 : 2 ^ p < 2 ^ e := Nat.pow_lt_pow_right (by decide) h1
      exact Nat.or_lt_two_pow (Nat.lt_trans h2 h3) h3
/-- the elements that the compound before a sign may stand for -/
def relS (T : List PEl) (j e : Nat) : Nat := if j = 62 then parS T e else if j = 43 then jusS T e else if j = 126 then befS T e else abvS T e
def lastB (T : List PEl) (e : Nat) : Bool := match tP T e with
  | none => true
  | some p => decide (lastS T p = 2 ^ e)
def reachI (c s t : Int32) : Bool := if t = 0 then decide (c - s = 0) else !decide (c - s < 0) && decide (c - s - (c - s) / t * t = 0)
def holdP (T : List PEl) (e : Nat) (p : PPart) : Bool := if p.1 = 0 then decide (nI (tI T e) = p.2.1) else if p.1 = 1 then !decide (nI (tC T e) &&& p.2.1 = 0) else if p.1 = 2 then lastB T e else reachI (nI (idxT T e)) p.2.1 p.2.2
def fitB (T : List PEl) (e t : Nat) (ps : List PPart) : Bool := (decide (t = 0) || decide (t = tG T e)) && ps.all (holdP T e)
def fitC (T : List PEl) (e : Nat) (c : PComp) : Bool := (c.2.2.all fun b => !fitB T e b.1 b.2) && fitB T e c.1 c.2.1
def selGo (T : List PEl) : Nat → List (Nat × PComp) → Nat
  | found, [] => found
  | found, (j, c) :: l => selGo T (bset (fun e => bmeet (relS T j e) found && fitC T e c) T.length) l
def selSet (T : List PEl) (l : List (Nat × PComp)) : Nat := match l with
  | [] => 0
  | (_, c) :: l => selGo T (bset (fun e => fitC T e c) T.length) l
