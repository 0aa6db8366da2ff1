/-! ===== counting bits ===== -/
def A3 (x y z : Nat) : Nat := x + 256 * y + 65536 * z
theorem and256 (h l mh ml : Nat) (hl : l < 256) (hm : ml < 256) : (l + 256 * h) &&& (ml + 256 * mh) = (l &&& ml) + 256 * (h &&& mh) := by
  have e1 : ((l + 256 * h) &&& (ml + 256 * mh)) / 2 ^ 8 = h &&& mh := by
    rw [Nat.and_div_two_pow]
    congr 1 <;> omega
  have e2 : ((l + 256 * h) &&& (ml + 256 * mh)) % 2 ^ 8 = l &&& ml := by
    rw [Nat.and_mod_two_pow]
    congr 1 <;> omega
  omega
theorem and3 (x y z p q r t : Nat) (hx : x < 256) (hy : y < 256) (hz : z < 256) (hp : p < 256) (hq : q < 256) (hr : r < 256) : A3 x y z &&& (A3 p q r + 16777216 * t) = A3 (x &&& p) (y &&& q) (z &&& r) := by
  have e1 : A3 x y z = x + 256 * (y + 256 * (z + 256 * 0)) := by unfold A3; omega
  have e2 : A3 p q r + 16777216 * t = p + 256 * (q + 256 * (r + 256 * t)) := by unfold A3; omega
  rw [e1, e2, and256 _ _ _ _ hx hp, and256 _ _ _ _ hy hq, and256 _ _ _ _ hz hr, Nat.zero_and]
  unfold A3
  omega
def g1 (a : Nat) : Nat := a - ((a / 2) &&& 85)
def g2 (a : Nat) : Nat := (a &&& 51) + ((a / 4) &&& 51)
theorem bk1 : ∀ a, a < 256 → ∀ t, t < 2 → (a / 2 + 128 * t) &&& 85 = (a / 2) &&& 85 := by decide +kernel
theorem bk1b : ∀ a, a < 256 → (a / 2) &&& 85 ≤ a ∧ g1 a < 256 := by decide +kernel
theorem bk2 : ∀ a, a < 256 → ∀ t, t < 4 → (a / 4 + 64 * t) &&& 51 = (a / 4) &&& 51 := by decide +kernel
theorem bk2b : ∀ a, a < 256 → g2 (g1 a) ≤ 68 ∧ g2 (g1 a) % 16 ≤ 4 := by decide +kernel
theorem bk3 : ∀ a, a < 256 → ∀ t, t < 5 → (g2 (g1 a) + g2 (g1 a) / 16 + 16 * t) &&& 15 = bcnt a.testBit 8 := by decide +kernel
def bc1 (s : Nat) : Nat := s - (s / 2 &&& 1431655765)
def bc2 (s : Nat) : Nat := (s &&& 858993459) + (s / 4 &&& 858993459)
def bc3 (s : Nat) : Nat := (s + s / 16) &&& 252645135
theorem bc1_3 {a b c : Nat} (ha : a < 256) (hb : b < 256) (hc : c < 256) : bc1 (A3 a b c) = A3 (g1 a) (g1 b) (g1 c) := by
  have e1 : A3 a b c / 2 = A3 (a / 2 + 128 * (b % 2)) (b / 2 + 128 * (c % 2)) (c / 2 + 128 * 0) := by unfold A3; omega
  unfold bc1
  rw [e1, show 1431655765 = A3 85 85 85 + 16777216 * 85 from rfl, and3 _ _ _ _ _ _ _ (by omega) (by omega) (by omega) (by decide) (by decide) (by decide), bk1 a ha _ (by omega), bk1 b hb _ (by omega), bk1 c hc _ (by omega)]
  have h1 := (bk1b a ha).1
  have h2 := (bk1b b hb).1
  have h3 := (bk1b c hc).1
  unfold g1 A3
  omega
theorem bc2_3 {a b c : Nat} (ha : a < 256) (hb : b < 256) (hc : c < 256) : bc2 (A3 a b c) = A3 (g2 a) (g2 b) (g2 c) := by
  have e1 : A3 a b c / 4 = A3 (a / 4 + 64 * (b % 4)) (b / 4 + 64 * (c % 4)) (c / 4 + 64 * 0) := by unfold A3; omega
  unfold bc2
  rw [e1, show 858993459 = A3 51 51 51 + 16777216 * 51 from rfl, and3 _ _ _ _ _ _ _ (by omega) (by omega) (by omega) (by decide) (by decide) (by decide), and3 _ _ _ _ _ _ _ (by omega) (by omega) (by omega) (by decide) (by decide) (by decide), bk2 a ha _ (by omega), bk2 b hb _ (by omega), bk2 c hc _ (by omega)]
  unfold g2 A3
  omega
theorem bc3_3 {a b c : Nat} (ha : a < 256) (hb : b < 256) (hc : c < 256) : bc3 (A3 (g2 (g1 a)) (g2 (g1 b)) (g2 (g1 c))) = A3 (bcnt a.testBit 8) (bcnt b.testBit 8) (bcnt c.testBit 8) := by
  obtain ⟨h1, h2⟩ := bk2b a ha
  obtain ⟨h3, h4⟩ := bk2b b hb
  obtain ⟨h5, h6⟩ := bk2b c hc
  have q1 := bk3 a ha (g2 (g1 b) % 16) (by omega)
  have q2 := bk3 b hb (g2 (g1 c) % 16) (by omega)
  have q3 := bk3 c hc 0 (by omega)
  generalize g2 (g1 a) = x at *
  generalize g2 (g1 b) = y at *
  generalize g2 (g1 c) = z at *
  have e1 : A3 x y z + A3 x y z / 16 = A3 (x + x / 16 + 16 * (y % 16)) (y + y / 16 + 16 * (z % 16)) (z + z / 16 + 16 * 0) := by unfold A3; omega
  unfold bc3
  rw [e1, show 252645135 = A3 15 15 15 + 16777216 * 15 from rfl, and3 _ _ _ _ _ _ _ (by omega) (by omega) (by omega) (by decide) (by decide) (by decide), q1, q2, q3]
def bc4 (s : Nat) : Nat := s + s / 256
def bc5 (s : Nat) : Nat := s + s / 65536
theorem bcnt_add (f : Nat → Bool) (m : Nat) : ∀ k, bcnt f (m + k) = bcnt f m + bcnt (fun i => f (m + i)) k
  | 0 => rfl
  | k + 1 => by
    show bcnt f (m + k) + _ = _ + (bcnt _ k + _)
    rw [bcnt_add f m k, Nat.add_assoc]
    rfl
theorem bc_all {s : Nat} (hs : s < 16777216) : (bc5 (bc4 (bc3 (bc2 (bc1 s))))) &&& 63 = bcnt s.testBit 24 ∧ bc3 (bc2 (bc1 s)) < 16777216 := by
  have ha : s % 256 < 256 := by omega
  have hb : s / 256 % 256 < 256 := by omega
  have hc : s / 65536 < 256 := by omega
  have e0 : s = A3 (s % 256) (s / 256 % 256) (s / 65536) := by unfold A3; omega
  have h1 := bcnt_le (s % 256).testBit 8
  have h2 := bcnt_le (s / 256 % 256).testBit 8
  have h3 := bcnt_le (s / 65536).testBit 8
  have e5 : bcnt s.testBit 24 = bcnt (s % 256).testBit 8 + bcnt (s / 256 % 256).testBit 8 + bcnt (s / 65536).testBit 8 := by
    rw [show 24 = 8 + 8 + 8 from rfl, bcnt_add, bcnt_add]
    congr 1
    · congr 1
      · refine bcnt_congr (fun i hi => ?_)
        rw [show 256 = 2 ^ 8 from rfl, Nat.testBit_mod_two_pow, decide_eq_true hi, Bool.true_and]
      · refine bcnt_congr (fun i hi => ?_)
        rw [show 256 = 2 ^ 8 from rfl, Nat.testBit_mod_two_pow, decide_eq_true hi, Bool.true_and, Nat.testBit_div_two_pow, Nat.add_comm]
    · refine bcnt_congr (fun i hi => ?_)
      rw [show 65536 = 2 ^ 16 from rfl, Nat.testBit_div_two_pow, Nat.add_comm]
  rw [e5]
  have e6 : bc3 (bc2 (bc1 s)) = A3 (bcnt (s % 256).testBit 8) (bcnt (s / 256 % 256).testBit 8) (bcnt (s / 65536).testBit 8) := by
    conv => lhs; rw [e0]
    rw [bc1_3 ha hb hc, bc2_3 (bk1b _ ha).2 (bk1b _ hb).2 (bk1b _ hc).2, bc3_3 ha hb hc]
  rw [e6]
  generalize bcnt (s % 256).testBit 8 = x at *
  generalize bcnt (s / 256 % 256).testBit 8 = y at *
  generalize bcnt (s / 65536).testBit 8 = z at *
  have e7 : bc4 (A3 x y z) = A3 (x + y) (y + z) z := by unfold bc4 A3; omega
  have e8 : bc5 (A3 (x + y) (y + z) z) = A3 (x + y + z) (y + z) z := by unfold bc5 A3; omega
  rw [e7, e8, show 63 = 2 ^ 6 - 1 from rfl, Nat.and_two_pow_sub_one_eq_mod]
  unfold A3
  omega
theorem bcnt_ext {f : Nat → Bool} {n : Nat} (h : ∀ i, n ≤ i → f i = false) : ∀ k, bcnt f (n + k) = bcnt f n
  | 0 => rfl
  | k + 1 => by
    show bcnt f (n + k) + (if f (n + k) = true then 1 else 0) = _
    rw [bcnt_ext h k, h (n + k) (by omega)]
    rfl
theorem bc_bset {f : Nat → Bool} {n : Nat} (hn : n ≤ 24) : bcnt (bset f n).testBit 24 = bcnt f n := by
  obtain ⟨k, hk⟩ : ∃ k, 24 = n + k := ⟨24 - n, by omega⟩
  rw [hk, bcnt_ext (fun i hi => by rw [bset_bit, decide_eq_false (by omega), Bool.false_and])]
  exact bcnt_congr (fun i hi => by rw [bset_bit, decide_eq_true hi, Bool.true_and])
theorem sp_bitCount (E : ZE) (sg : ZM) (d s : Nat) (hs : s < 16777216) (w : ZW) : CallQ E MJ6_bitCount_0f7a4 [.int (nI s)] w sg d 0 0 (fun v w' sg' => v = some (.int (nI (bcnt s.testBit 24))) ∧ w = w' ∧ sg = sg') := by
  obtain ⟨h1, h2⟩ := bc_all hs
  refine CallQ.of rfl (by simp [Value.category]) (Nat.le_of_ble_eq_true rfl) ?_
  have b1 : bc1 s ≤ s := by unfold bc1; omega
  have b1b : s / 2 ^ 1 &&& 1431655765 ≤ s / 2 ^ 1 := Nat.and_le_left
  have b2 : bc2 (bc1 s) < 67108864 := by
    have : bc1 s &&& 858993459 ≤ bc1 s := Nat.and_le_left
    have : bc1 s / 4 &&& 858993459 ≤ bc1 s / 4 := Nat.and_le_left
    unfold bc2
    omega
  have b4 : bc4 (bc3 (bc2 (bc1 s))) < 67108864 := by unfold bc4; omega
  have b5 : bc5 (bc4 (bc3 (bc2 (bc1 s)))) < 134217728 := by unfold bc5; omega
  refine r_iload_n dJ6_bitCount_0f7a4_0 rfl rfl ?_
  refine r_iload_n dJ6_bitCount_0f7a4_1 rfl rfl ?_
  refine r_iconst dJ6_bitCount_0f7a4_2 kc_1 rfl ?_
  refine r_iushr (v := nI (s / 2 ^ 1)) dJ6_bitCount_0f7a4_3 (pk_ushrN (by omega) (nI 1) 1 (by decide +kernel)) rfl ?_
  refine r_ldcwi dJ6_bitCount_0f7a4_4 tw_336 rfl ?_
  refine r_iand dJ6_bitCount_0f7a4_7 rfl ?_
  rw [show (1431655765 : Int32) = nI 1431655765 from rfl, nI_and (by omega) (by omega)]
  refine r_isubN (show s / 2 ^ 1 &&& 1431655765 ≤ s by omega) dJ6_bitCount_0f7a4_8 rfl ?_
  rw [show s - (s / 2 ^ 1 &&& 1431655765) = bc1 s from rfl]
  refine r_istore_n (ls' := [_]) dJ6_bitCount_0f7a4_9 (Nat.le_of_ble_eq_true rfl) rfl rfl ?_
  refine r_iload_n dJ6_bitCount_0f7a4_10 rfl rfl ?_
  refine r_ldcwi dJ6_bitCount_0f7a4_11 tw_337 rfl ?_
  refine r_iand dJ6_bitCount_0f7a4_14 rfl ?_
  rw [show (858993459 : Int32) = nI 858993459 from rfl, nI_and (by omega) (by omega)]
  refine r_iload_n dJ6_bitCount_0f7a4_15 rfl rfl ?_
  refine r_iconst dJ6_bitCount_0f7a4_16 kc_2 rfl ?_
  refine r_iushr (v := nI (bc1 s / 2 ^ 2)) dJ6_bitCount_0f7a4_17 (pk_ushrN (by omega) (nI 2) 2 (by decide +kernel)) rfl ?_
  refine r_ldcwi dJ6_bitCount_0f7a4_18 tw_337 rfl ?_
  refine r_iand dJ6_bitCount_0f7a4_21 rfl ?_
  rw [show (858993459 : Int32) = nI 858993459 from rfl, nI_and (by omega) (by omega)]
  refine r_iadd dJ6_bitCount_0f7a4_22 rfl ?_
  rw [show nI (bc1 s &&& 858993459) + nI (bc1 s / 2 ^ 2 &&& 858993459) = nI (bc2 (bc1 s)) from (nI_add _ _)]
  refine r_istore_n (ls' := [_]) dJ6_bitCount_0f7a4_23 (Nat.le_of_ble_eq_true rfl) rfl rfl ?_
  refine r_iload_n dJ6_bitCount_0f7a4_24 rfl rfl ?_
  refine r_iload_n dJ6_bitCount_0f7a4_25 rfl rfl ?_
  refine r_iconst dJ6_bitCount_0f7a4_26 kc_4 rfl ?_
  refine r_iushr (v := nI (bc2 (bc1 s) / 2 ^ 4)) dJ6_bitCount_0f7a4_27 (pk_ushrN (by omega) (nI 4) 4 (by decide +kernel)) rfl ?_
  refine r_iadd dJ6_bitCount_0f7a4_28 rfl ?_
  rw [show nI (bc2 (bc1 s)) + nI (bc2 (bc1 s) / 2 ^ 4) = nI (bc2 (bc1 s) + bc2 (bc1 s) / 2 ^ 4) from (nI_add _ _)]
  refine r_ldcwi dJ6_bitCount_0f7a4_29 tw_338 rfl ?_
  refine r_iand dJ6_bitCount_0f7a4_32 rfl ?_
  rw [show (252645135 : Int32) = nI 252645135 from rfl, nI_and (by omega) (by omega), show bc2 (bc1 s) + bc2 (bc1 s) / 2 ^ 4 &&& 252645135 = bc3 (bc2 (bc1 s)) from rfl]
  refine r_istore_n (ls' := [_]) dJ6_bitCount_0f7a4_33 (Nat.le_of_ble_eq_true rfl) rfl rfl ?_
  refine r_iload_n dJ6_bitCount_0f7a4_34 rfl rfl ?_
  refine r_iload_n dJ6_bitCount_0f7a4_35 rfl rfl ?_
  refine r_bipush dJ6_bitCount_0f7a4_36 kb_8 rfl ?_
  refine r_iushr (v := nI (bc3 (bc2 (bc1 s)) / 2 ^ 8)) dJ6_bitCount_0f7a4_38 (pk_ushrN (by omega) (nI 8) 8 (by decide +kernel)) rfl ?_
  refine r_iadd dJ6_bitCount_0f7a4_39 rfl ?_
  rw [show nI (bc3 (bc2 (bc1 s))) + nI (bc3 (bc2 (bc1 s)) / 2 ^ 8) = nI (bc4 (bc3 (bc2 (bc1 s)))) from (nI_add _ _)]
  refine r_istore_n (ls' := [_]) dJ6_bitCount_0f7a4_40 (Nat.le_of_ble_eq_true rfl) rfl rfl ?_
  refine r_iload_n dJ6_bitCount_0f7a4_41 rfl rfl ?_
  refine r_iload_n dJ6_bitCount_0f7a4_42 rfl rfl ?_
  refine r_bipush dJ6_bitCount_0f7a4_43 kb_16 rfl ?_
  refine r_iushr (v := nI (bc4 (bc3 (bc2 (bc1 s))) / 2 ^ 16)) dJ6_bitCount_0f7a4_45 (pk_ushrN (by omega) (nI 16) 16 (by decide +kernel)) rfl ?_
  refine r_iadd dJ6_bitCount_0f7a4_46 rfl ?_
  rw [show nI (bc4 (bc3 (bc2 (bc1 s)))) + nI (bc4 (bc3 (bc2 (bc1 s))) / 2 ^ 16) = nI (bc5 (bc4 (bc3 (bc2 (bc1 s))))) from (nI_add _ _)]
  refine r_istore_n (ls' := [_]) dJ6_bitCount_0f7a4_47 (Nat.le_of_ble_eq_true rfl) rfl rfl ?_
  refine r_iload_n dJ6_bitCount_0f7a4_48 rfl rfl ?_
  refine r_bipush dJ6_bitCount_0f7a4_49 kb_63 rfl ?_
  refine r_iand dJ6_bitCount_0f7a4_51 rfl ?_
  rw [nI_and (by omega) (by omega), h1]
  refine r_iret rfl dJ6_bitCount_0f7a4_52 ?_
  exact ⟨rfl, rfl, rfl⟩
