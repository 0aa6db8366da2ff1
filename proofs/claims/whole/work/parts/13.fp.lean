theorem zy_X9_isDigit : zYok MX9_isDigit 1 := ⟨by decide +kernel, by decide +kernel, by decide +kernel⟩
/-! ===== floats: no NaN ===== -/
/-- what rounding leaves -/
def okDat (d : FP.Core.Datum) : Prop := (∃ s, d = .inf s) ∨ ∃ s c q, d = .fin s c q ∧ c < 2 ^ 24 ∧ q ≤ 104
theorem okDat_bound (s : Bool) (c : Nat) (q : Int) (hc : c < 2 ^ 24) : okDat (FP.Core.bound FP.Core.b32 s c q) := by
  unfold FP.Core.bound
  split
  · rename_i h
    exact Or.inr ⟨s, c, q, rfl, hc, h⟩
  · exact Or.inl ⟨s, rfl⟩
theorem okDat_ratio (s : Bool) (a b : Nat) (e : Int) : okDat (FP.Core.roundRatio FP.Core.b32 s a b e) := by
  unfold FP.Core.roundRatio
  split
  · exact Or.inr ⟨s, 0, _, rfl, by decide, by decide⟩
  · unfold FP.Core.roundAt FP.Core.settle
    split
    · rename_i h; exact okDat_bound s _ _ h
    · exact okDat_bound s _ _ (by decide)
theorem okDat_bits {d : FP.Core.Datum} (h : okDat d) : FP.Core.encode FP.Core.b32 d < 2 ^ 32 ∧ FP.Core.encode FP.Core.b32 d % 2 ^ 31 ≤ 2139095040 := by
  have t1 : FP.Core.b32.tails = 8388608 := by decide
  have t2 : FP.Core.b32.exps = 256 := by decide
  have t3 : FP.Core.b32.qmin = -149 := by decide
  rcases h with ⟨s, rfl⟩ | ⟨s, c, q, rfl, hc, hq⟩
  · show FP.Core.assemble FP.Core.b32 s _ _ < _ ∧ _
    unfold FP.Core.encode FP.Core.assemble
    rw [t1, t2]
    cases s <;> simp
  · unfold FP.Core.encode FP.Core.assemble
    rw [t1, t2, t3]
    dsimp only
    split
    · cases s <;> simp <;> omega
    · have hk : (q - -149).toNat + 1 ≤ 254 := by omega
      obtain ⟨k, hk2⟩ : ∃ k, (q - -149).toNat + 1 = k := ⟨_, rfl⟩
      rw [hk2] at hk ⊢
      cases s <;> simp <;> omega
theorem vfn_bits {r : UInt32} (h : r.toNat % 2 ^ 31 ≤ 2139095040) : vf_n32 r := by
  have h2 : (r &&& 2147483647).toNat = r.toNat % 2 ^ 31 := by
    rw [UInt32.toNat_and]
    exact Nat.and_two_pow_sub_one_eq_mod r.toNat 31
  unfold vf_n32
  show (r &&& 2147483647).toNat ≤ 2139095040
  rw [h2]
  exact h
theorem bits_vfn {r : UInt32} (h : vf_n32 r) : r.toNat % 2 ^ 31 ≤ 2139095040 := by
  have h2 : (r &&& 2147483647).toNat = r.toNat % 2 ^ 31 := by
    rw [UInt32.toNat_and]
    exact Nat.and_two_pow_sub_one_eq_mod r.toNat 31
  rw [← h2]
  exact h
theorem okDat_n {d : FP.Core.Datum} (h : okDat d) : vf_n32 (UInt32.ofNat (FP.Core.encode FP.Core.b32 d)) := by
  obtain ⟨h1, h2⟩ := okDat_bits h
  refine vfn_bits ?_
  have h3 : (UInt32.ofNat (FP.Core.encode FP.Core.b32 d)).toNat = FP.Core.encode FP.Core.b32 d := by
    show FP.Core.encode FP.Core.b32 d % 2 ^ 32 = _
    exact Nat.mod_eq_of_lt h1
  rw [h3]
  exact h2
/-- a number, no NaN, no infinity -/
def fFin (x : UInt32) : Prop := ∃ s c q, FP.Core.decode FP.Core.b32 x.toNat = .fin s c q
theorem fFin_of {x : UInt32} (h : x.toNat % 2 ^ 31 < 2139095040) : fFin x := by
  have t1 : FP.Core.b32.tails = 8388608 := by decide
  have t2 : FP.Core.b32.exps = 256 := by decide
  unfold fFin FP.Core.decode
  rw [if_neg (by unfold FP.Core.fieldE; rw [t1, t2]; omega)]
  split
  · exact ⟨_, _, _, rfl⟩
  · exact ⟨_, _, _, rfl⟩
theorem fDat_of {x : UInt32} (h : vf_n32 x) : (∃ s, FP.Core.decode FP.Core.b32 x.toNat = .inf s) ∨ fFin x := by
  have t1 : FP.Core.b32.tails = 8388608 := by decide
  have t2 : FP.Core.b32.exps = 256 := by decide
  have h1 := bits_vfn h
  by_cases g : x.toNat % 2 ^ 31 < 2139095040
  · exact Or.inr (fFin_of g)
  · refine Or.inl ⟨FP.Core.fieldS FP.Core.b32 x.toNat, ?_⟩
    unfold FP.Core.decode
    rw [if_pos (by unfold FP.Core.fieldE; rw [t1, t2]; omega), if_pos (by unfold FP.Core.fieldT; rw [t1]; omega)]
theorem fFin.lt {x : UInt32} (h : fFin x) : x.toNat % 2 ^ 31 < 2139095040 := by
  have t1 : FP.Core.b32.tails = 8388608 := by decide
  have t2 : FP.Core.b32.exps = 256 := by decide
  obtain ⟨s, c, q, h⟩ := h
  unfold FP.Core.decode at h
  split at h
  · split at h <;> cases h
  · rename_i g
    unfold FP.Core.fieldE at g
    rw [t1, t2] at g
    omega
theorem fFin.n {x : UInt32} (h : fFin x) : vf_n32 x := vfn_bits (Nat.le_of_lt h.lt)
theorem fadd_n {x y : UInt32} (hx : fFin x) (hy : fFin y) : vf_n32 (FP.fadd x y) := by
  obtain ⟨s, c, q, h1⟩ := hx
  obtain ⟨t, d, r, h2⟩ := hy
  show vf_n32 (UInt32.ofNat (FP.Core.add FP.Core.b32 x.toNat y.toNat))
  unfold FP.Core.add
  rw [h1, h2]
  exact okDat_n (okDat_ratio _ _ _ _)
theorem fsub_n {x y : UInt32} (hx : fFin x) (hy : fFin y) : vf_n32 (FP.fsub x y) := by
  obtain ⟨s, c, q, h1⟩ := hx
  obtain ⟨t, d, r, h2⟩ := hy
  show vf_n32 (UInt32.ofNat (FP.Core.sub FP.Core.b32 x.toNat y.toNat))
  unfold FP.Core.sub
  rw [h1, h2]
  exact okDat_n (okDat_ratio _ _ _ _)
theorem fmul_n {x y : UInt32} (hx : fFin x) (hy : fFin y) : vf_n32 (FP.fmul x y) := by
  obtain ⟨s, c, q, h1⟩ := hx
  obtain ⟨t, d, r, h2⟩ := hy
  show vf_n32 (UInt32.ofNat (FP.Core.mul FP.Core.b32 x.toNat y.toNat))
  unfold FP.Core.mul
  rw [h1, h2]
  exact okDat_n (okDat_ratio _ _ _ _)
theorem fdiv_n {x y : UInt32} (hx : vf_n32 x) (hy : fFin y) (hz : y.toNat % 2 ^ 31 ≠ 0) : vf_n32 (FP.fdiv x y) := by
  have t1 : FP.Core.b32.tails = 8388608 := by decide
  have t2 : FP.Core.b32.exps = 256 := by decide
  obtain ⟨t, d, r, h2⟩ := hy
  have hd : d ≠ 0 := by
    have h3 := h2
    unfold FP.Core.decode at h3
    split at h3
    · split at h3 <;> cases h3
    · split at h3
      · rename_i g
        cases h3
        unfold FP.Core.fieldE at g
        unfold FP.Core.fieldT
        rw [t1, t2] at g
        rw [t1]
        omega
      · cases h3
        rw [t1]
        omega
  show vf_n32 (UInt32.ofNat (FP.Core.div FP.Core.b32 x.toNat y.toNat))
  unfold FP.Core.div
  rcases fDat_of hx with ⟨s, h1⟩ | ⟨s, c, q, h1⟩
  · rw [h1, h2]
    exact okDat_n (Or.inl ⟨_, rfl⟩)
  · rw [h1, h2]
    show vf_n32 (UInt32.ofNat (FP.Core.encode FP.Core.b32 (if d = 0 then _ else _)))
    rw [if_neg hd]
    exact okDat_n (okDat_ratio _ _ _ _)
theorem fin_all : ∀ a, a < 100 → ∀ b, b < 100 → ((FP.i2f (nI (100 * a + b))).toNat % 2 ^ 31 < 2139095040 ∧ (FP.fdiv (FP.i2f (nI (100 * a + b))) 1092616192).toNat % 2 ^ 31 < 2139095040) := by decide +kernel
theorem fFin_i2f {n : Nat} (h : n < 10000) : fFin (FP.i2f (nI n)) := by
  have := (fin_all (n / 100) (by omega) (n % 100) (by omega)).1
  rw [show 100 * (n / 100) + n % 100 = n by omega] at this
  exact fFin_of this
theorem fFin_ten {n : Nat} (h : n < 10000) : fFin (FP.fdiv (FP.i2f (nI n)) 1092616192) := by
  have := (fin_all (n / 100) (by omega) (n % 100) (by omega)).2
  rw [show 100 * (n / 100) + n % 100 = n by omega] at this
  exact fFin_of this
/-- what is not above 1000000 nor below -1000000, and no NaN, is a number -/
theorem fFin_lim {x : UInt32} (h : vf_n32 x) (h1 : FP.fcmp x 1232348160 ≠ some .gt) (h2 : FP.fcmp x 3379831808 ≠ some .lt) : fFin x := by
  rcases fDat_of h with ⟨s, hs⟩ | h
  · exfalso
    cases s with
    | false =>
      refine h1 ?_
      show FP.Core.order (FP.Core.decode FP.Core.b32 x.toNat) (FP.Core.decode FP.Core.b32 (1232348160 : UInt32).toNat) = _
      rw [hs]
      decide +kernel
    | true =>
      refine h2 ?_
      show FP.Core.order (FP.Core.decode FP.Core.b32 x.toNat) (FP.Core.decode FP.Core.b32 (3379831808 : UInt32).toNat) = _
      rw [hs]
      decide +kernel
  · exact h
theorem fFin_neg {x : UInt32} (h : fFin x) : fFin (FP.fneg x) := by
  have h1 := h.lt
  refine fFin_of ?_
  have h2 : (FP.fneg x).toNat % 2 ^ 31 = x.toNat % 2 ^ 31 := by
    show (x ^^^ 2147483648).toNat % 2 ^ 31 = _
    rw [UInt32.toNat_xor]
    apply Nat.eq_of_testBit_eq
    intro i
    rw [Nat.testBit_mod_two_pow, Nat.testBit_mod_two_pow, Nat.testBit_xor]
    by_cases g : i < 31
    · rw [show (2147483648 : UInt32).toNat = 2 ^ 31 from rfl, Nat.testBit_two_pow, decide_eq_false (by omega : ¬ 31 = i), Bool.xor_false]
    · simp [g]
  rw [h2]
  exact h1
theorem znn_num (n : Nat) (h : n < 10000) : vf_n32 (FP.fdiv (FP.i2f (nI n)) 1092616192) := (fFin_ten h).n
