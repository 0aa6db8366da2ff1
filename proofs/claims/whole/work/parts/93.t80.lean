/-! ===== element ===== -/
def lttI (c : Int32) : Bool := decide (¬ c < nI 97) && decide (¬ nI 122 < c)
theorem sp_lttI (E : ZE) (sg : ZM) (d : Nat) (c : Int32) (w : ZW) : CallQ E MX9_isLetter [.int c] w sg d 0 0 (fun v w' sg' => v = some (.int (zb (lttI c))) ∧ w = w' ∧ sg = sg') := by
  refine CallQ.of rfl (by simp [Value.category]) (Nat.le_of_ble_eq_true rfl) ?_
  unfold lttI
  refine r_iload_n dX9_isLetter_0 rfl rfl ?_
  refine r_bipush dX9_isLetter_1 kb_97 rfl ?_
  refine r_icmp_lt (r := 16) dX9_isLetter_3 (by decide) rfl (fun c_3 => ?_) (fun c_3 => ?_)
  · refine r_iconst dX9_isLetter_16 kc_0 rfl ?_
    refine r_zret .boolean rfl rfl dX9_isLetter_17 ?_
    rw [decide_eq_false (fun q => q c_3), Bool.false_and]
    exact ⟨rfl, rfl, rfl⟩
  · refine r_iload_n dX9_isLetter_6 rfl rfl ?_
    refine r_bipush dX9_isLetter_7 kb_122 rfl ?_
    refine r_icmp_gt (r := 16) dX9_isLetter_9 (by decide) rfl (fun c_9 => ?_) (fun c_9 => ?_)
    · refine r_iconst dX9_isLetter_16 kc_0 rfl ?_
      refine r_zret .boolean rfl rfl dX9_isLetter_17 ?_
      rw [decide_eq_false (p := ¬ nI 122 < c) (fun q => q c_9), Bool.and_false]
      exact ⟨rfl, rfl, rfl⟩
    · refine r_iconst dX9_isLetter_12 kc_1 rfl ?_
      refine r_goto (r := 17) dX9_isLetter_13 (by decide) ?_
      refine r_zret .boolean rfl rfl dX9_isLetter_17 ?_
      rw [decide_eq_true c_3, decide_eq_true c_9]
      exact ⟨rfl, rfl, rfl⟩
theorem lttI_n {c : Int32} (h : lttI c = true) : ∃ m, m < 128 ∧ c = nI m := by
  unfold lttI at h
  rw [Bool.and_eq_true, decide_eq_true_eq, decide_eq_true_eq] at h
  have h0 : ¬ c < 0 := fun q => h.1 (Int32.lt_trans q (by decide))
  obtain ⟨j, hj, rfl⟩ := nI_of h0
  have := h.2
  rw [nI_lt' (by decide) hj] at this
  exact ⟨j, by omega, rfl⟩
theorem fin_el {w w3 w4 w' : ZW} {x e n : Nat} (he : e = zsz w) (hx : x + 56 ≤ e) (h3 : ∀ b, b < e → zeq w w3 b) (po : Option Nat) (hpo : ∀ p, po = some p → x + 56 ≤ p ∧ p < e) (h4 : ∀ b, (∀ p, po = some p → b ≠ p) → zeq w3 w4 b) (hw : w' = zsi (zsi (zsq w4 (x + 1) n (some e)) 1001 x (nI (n + 1))) 1006 x (nI 1)) : (∀ b, b < zsz w → b ≠ x → b ≠ x + 1 → (∀ p, po = some p → b ≠ p) → zeq w w' b) ∧ (zk w' x = zk w x ∧ (∀ f, zr w' f x = zr w f x) ∧ zi w' 1001 x = nI (n + 1) ∧ zi w' 1003 x = zi w 1003 x ∧ zi w' 1006 x = nI 1) ∧ (zk w' (x + 1) = zk w (x + 1) ∧ zln w' (x + 1) = zln w (x + 1) ∧ (∀ i, i < n → zq w' (x + 1) i = zq w (x + 1) i) ∧ zq w' (x + 1) n = some e) ∧ (∀ b, b ≠ x → b ≠ x + 1 → zeq w4 w' b) := by
  subst hw
  have hne : ∀ p, po = some p → x ≠ p ∧ x + 1 ≠ p := fun p hp => by have := hpo p hp; omega
  have e5 : ∀ b, b ≠ x → b ≠ x + 1 → zeq w4 (zsi (zsi (zsq w4 (x + 1) n (some e)) 1001 x (nI (n + 1))) 1006 x (nI 1)) b := fun b h1 h2 => (zeq.sq h2).tr ((zeq.si h1).tr (zeq.si h1))
  have ex := (h3 x (by omega)).tr (h4 x (fun p hp => (hne p hp).1))
  have ex1 := (h3 (x + 1) (by omega)).tr (h4 (x + 1) (fun p hp => (hne p hp).2))
  refine ⟨fun b h1 h2 h5 h6 => ((h3 b (by omega)).tr (h4 b h6)).tr (e5 b h2 h5), ⟨ex.k, fun f => ex.r f, ?_, ?_, z2_eq⟩, ⟨ex1.k, ex1.ln, fun i hi => ?_, ?_⟩, e5⟩
  · rw [zi_zsi, if_neg (by omega)]
    exact z2_eq
  · rw [zi_zsi, if_neg (by omega), zi_zsi, if_neg (by omega)]
    exact ex.i 1003
  · show zq (zsq w4 (x + 1) n (some e)) (x + 1) i = _
    rw [zq_zsq, if_neg (fun q => by omega)]
    rw [ex1.q]
  · show zq (zsq w4 (x + 1) n (some e)) (x + 1) n = _
    rw [zq_zsq, if_pos ⟨rfl, rfl⟩]
