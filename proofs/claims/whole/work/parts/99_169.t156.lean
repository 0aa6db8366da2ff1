/-! ===== floats as doubles ===== -/
def okDt (d : FP.Core.Datum) : Prop := (∃ s, d = .inf s) ∨ ∃ s c q, d = .fin s c q ∧ c < 2 ^ 53 ∧ q ≤ 971
theorem okDt_bound (s : Bool) (c : Nat) (q : Int) (hc : c < 2 ^ 53) : okDt (FP.Core.bound FP.Core.b64 s c q) := by
  unfold FP.Core.bound
  split
  · rename_i h
    exact Or.inr ⟨s, c, q, rfl, hc, h⟩
  · exact Or.inl ⟨s, rfl⟩
theorem okDt_ratio (s : Bool) (a b : Nat) (e : Int) : okDt (FP.Core.roundRatio FP.Core.b64 s a b e) := by
  unfold FP.Core.roundRatio
  split
  · exact Or.inr ⟨s, 0, _, rfl, by decide, by decide⟩
  · unfold FP.Core.roundAt FP.Core.settle
    split
    · rename_i h; exact okDt_bound s _ _ h
    · exact okDt_bound s _ _ (by decide)
theorem okDt_bits {d : FP.Core.Datum} (h : okDt d) : FP.Core.encode FP.Core.b64 d < 2 ^ 64 ∧ FP.Core.encode FP.Core.b64 d % 2 ^ 63 ≤ 9218868437227405312 := by
  have t1 : FP.Core.b64.tails = 4503599627370496 := by decide
  have t2 : FP.Core.b64.exps = 2048 := by decide
  have t3 : FP.Core.b64.qmin = -1074 := by decide
  rcases h with ⟨s, rfl⟩ | ⟨s, c, q, rfl, hc, hq⟩
  · show FP.Core.assemble FP.Core.b64 s _ _ < _ ∧ _
    unfold FP.Core.encode FP.Core.assemble
    rw [t1, t2]
    cases s <;> simp
  · unfold FP.Core.encode FP.Core.assemble
    rw [t1, t2, t3]
    dsimp only
    split
    · cases s <;> simp <;> omega
    · have hk : (q - -1074).toNat + 1 ≤ 2046 := by omega
      obtain ⟨k, hk2⟩ : ∃ k, (q - -1074).toNat + 1 = k := ⟨_, rfl⟩
      rw [hk2] at hk ⊢
      cases s <;> simp <;> omega
theorem vdn_bits {r : UInt64} (h : r.toNat % 2 ^ 63 ≤ 9218868437227405312) : vf_n64 r := by
  have h2 : (r &&& 9223372036854775807).toNat = r.toNat % 2 ^ 63 := by
    rw [UInt64.toNat_and]
    exact Nat.and_two_pow_sub_one_eq_mod r.toNat 63
  unfold vf_n64
  show (r &&& 9223372036854775807).toNat ≤ 9218868437227405312
  rw [h2]
  exact h
theorem f2d_nat {x : UInt32} (h : fFin x) : ∃ d, okDt d ∧ (FP.f2d x).toNat = FP.Core.encode FP.Core.b64 d := by
  obtain ⟨s, c, q, h⟩ := h
  refine ⟨FP.Core.roundRatio FP.Core.b64 s c 1 q, okDt_ratio _ _ _ _, ?_⟩
  have hn : FP.Core.fIsNaN x = false := by
    show decide (FP.Core.decode FP.Core.b32 x.toNat = .nan) = false
    rw [h]
    rfl
  show (if FP.Core.fIsNaN x = true then _ else FP.Core.f2d x).toNat = _
  rw [hn, if_neg (by decide)]
  show (UInt64.ofNat (FP.Core.encode FP.Core.b64 (FP.Core.round FP.Core.b64 (FP.Core.decode FP.Core.b32 x.toNat)))).toNat = _
  rw [h]
  show FP.Core.encode FP.Core.b64 (FP.Core.roundRatio FP.Core.b64 s c 1 q) % 2 ^ 64 = _
  exact Nat.mod_eq_of_lt (okDt_bits (okDt_ratio _ _ _ _)).1
theorem f2d_n {x : UInt32} (h : fFin x) : vf_n64 (FP.f2d x) := by
  obtain ⟨d, h1, h2⟩ := f2d_nat h
  refine vdn_bits ?_
  rw [h2]
  exact (okDt_bits h1).2
theorem dDat_of {n : Nat} (h : n % 2 ^ 63 ≤ 9218868437227405312) : (∃ s, FP.Core.decode FP.Core.b64 n = .inf s) ∨ ∃ s c q, FP.Core.decode FP.Core.b64 n = .fin s c q := by
  have t1 : FP.Core.b64.tails = 4503599627370496 := by decide
  have t2 : FP.Core.b64.exps = 2048 := by decide
  by_cases g : n % 2 ^ 63 < 9218868437227405312
  · right
    unfold FP.Core.decode
    rw [if_neg (by unfold FP.Core.fieldE; rw [t1, t2]; omega)]
    split
    · exact ⟨_, _, _, rfl⟩
    · exact ⟨_, _, _, rfl⟩
  · refine Or.inl ⟨FP.Core.fieldS FP.Core.b64 n, ?_⟩
    unfold FP.Core.decode
    rw [if_pos (by unfold FP.Core.fieldE; rw [t1, t2]; omega), if_pos (by unfold FP.Core.fieldT; rw [t1]; omega)]
theorem dcmp_self {x : UInt32} (h : fFin x) : FP.dcmp (FP.f2d x) (FP.f2d x) = some .eq := by
  obtain ⟨d, h1, h2⟩ := f2d_nat h
  have h3 := (okDt_bits h1).2
  rw [← h2] at h3
  show FP.Core.order (FP.Core.decode FP.Core.b64 (FP.f2d x).toNat) (FP.Core.decode FP.Core.b64 (FP.f2d x).toNat) = _
  rcases dDat_of h3 with ⟨s, q⟩ | ⟨s, c, k, q⟩
  · rw [q]
    cases s <;> rfl
  · rw [q]
    show some (compare (FP.Core.signed s _) (FP.Core.signed s _)) = _
    simp
