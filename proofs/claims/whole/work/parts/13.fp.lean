theorem zy_X9_isDigit : zYok MX9_isDigit 1 := ⟨by decide +kernel, by decide +kernel, by decide +kernel⟩
/-! ===== numbers that are no NaN ===== -/
theorem znn_num (n : Nat) (h : n < 10000) : vf_n32 (FP.fdiv (FP.i2f (nI n)) 1092616192) := sorry
