/-! ===== Math and Arrays ===== -/
theorem RW.gen {E : ZE} {M : ZMeth} {pc : Nat} {ls : List (Option Value)} {st : List Value} {w : ZW} {sg : ZM} {d nc ns : Nat} {P : ZPhi} (h : ∀ w', w' = w → RW E M pc ls st w' sg d nc ns P) : RW E M pc ls st w sg d nc ns P := h w rfl
section ZMM
variable {E : ZE} {M : ZMeth} {pc q : Nat} {ls : List (Option Value)} {st : List Value} {w : ZW} {sg : ZM} {d nc ns : Nat} {P : ZPhi} {idx : Nat}
theorem r_mmin {x y : Int32} (hL : ZLS M.1.cls idx MJ9_min_7cf53 2) (hdd : 1 ≤ d) (hW : (st.map fun v => v.category).sum ≤ 8) (hd : decode M.2.1 pc = .ok (.invokestatic idx, 3)) (hq : pc + 3 = q) (kk : RW E M q ls (.int (if y < x then y else x) :: st) w sg d nc ns P) : RW E M pc ls (.int y :: .int x :: st) w sg d nc ns P := by
  intro p e R s m args below meth c H locs cells slots mc ms A h
  subst hq
  have b9 := h.2.2.2.2.2.2.2.2.1
  have b10 := h.2.2.2.2.2.2.2.2.2
  have hcl := h.cells
  exact va_mmin h.x h.b (h.ml.trans h.L.1.symm) h.own (h.ts _ hL.1.1) (h.ts _ hL.1.2.1) (h.ts _ hL.1.2.2.1) (h.ts _ hL.1.2.2.2) (by omega) (by omega) (by omega) (by omega) hd (kk.u h)
theorem r_mmax {x y : Int32} (hL : ZLS M.1.cls idx MJ9_max_7cf53 2) (hdd : 1 ≤ d) (hW : (st.map fun v => v.category).sum ≤ 8) (hd : decode M.2.1 pc = .ok (.invokestatic idx, 3)) (hq : pc + 3 = q) (kk : RW E M q ls (.int (if x < y then y else x) :: st) w sg d nc ns P) : RW E M pc ls (.int y :: .int x :: st) w sg d nc ns P := by
  intro p e R s m args below meth c H locs cells slots mc ms A h
  subst hq
  have b9 := h.2.2.2.2.2.2.2.2.1
  have b10 := h.2.2.2.2.2.2.2.2.2
  have hcl := h.cells
  exact va_mmax h.x h.b (h.ml.trans h.L.1.symm) h.own (h.ts _ hL.1.1) (h.ts _ hL.1.2.1) (h.ts _ hL.1.2.2.1) (h.ts _ hL.1.2.2.2) (by omega) (by omega) (by omega) (by omega) hd (kk.u h)
end ZMM
theorem nI_lt' {x y : Nat} (hx : x < 2147483648) (hy : y < 2147483648) : (nI x < nI y) ↔ x < y := by
  constructor
  · intro h
    by_cases g : x < y
    · exact g
    · exact absurd h (nI_nlt (by omega) hx)
  · intro h
    exact nI_lt h hy
theorem za_zsA (w : ZW) (a k : Nat) (f : Nat → Int32) : za (zsA w a f) a k = f k := if_pos rfl
theorem zg_zsG (w : ZW) (a k : Nat) (f : Nat → UInt32) : zg (zsG w a f) a k = f k := if_pos rfl
/-- a new row at the heap's end, all else as it was -/
def znx (w w' : ZW) : Prop := zsz w' = zsz w + 1 ∧ ∀ b, b ≠ zsz w → zeq w w' b
theorem sp_copyOfI (E : ZE) (w : ZW) (sg : ZM) (d a n : Nat) (hdd : 1 ≤ d) (hk : zk w a = 22) (ha : a < zsz w) (hn : n < zln w a) (hl : zln w a ≤ 1000) : CallQ E MJ7_copyOf_59c91 [.ref a, .int (nI n)] w sg d 1 n (fun v w' sg' => v = some (.ref (zsz w)) ∧ znx w w' ∧ zk w' (zsz w) = 22 ∧ zln w' (zsz w) = n ∧ (∀ k, k < n → za w' (zsz w) k = za w a k) ∧ sg = sg') := by
  have n1 : ¬ a = zsz w := by omega
  obtain ⟨N, hN⟩ : ∃ N, zln w a = N := ⟨_, rfl⟩
  rw [hN] at hn hl
  have e1 : zk (znew w (2 + 20) n) a = 22 := by rw [zk_znew, if_neg n1]; exact hk
  have e2 : zln (znew w (2 + 20) n) a = N := by rw [zln_znew, if_neg n1]; exact hN
  have e3 : zk (znew w (2 + 20) n) (zsz w) = 22 := by rw [zk_znew, if_pos rfl]
  have e4 : zln (znew w (2 + 20) n) (zsz w) = n := by rw [zln_znew, if_pos rfl]
  refine CallQ.of rfl (by simp [Value.category]) (Nat.le_of_ble_eq_true rfl) ?_
  refine r_iload_n dJ7_copyOf_59c91_0 rfl rfl ?_
  refine r_aload_n dJ7_copyOf_59c91_1 rfl (zRv_ref _) rfl ?_
  refine r_alenv 2 (by decide) hk hN dJ7_copyOf_59c91_2 rfl ?_
  refine r_icmp_neN (by omega) (by omega) (r := 14) dJ7_copyOf_59c91_3 (by decide) rfl (fun c_3 => ?_) (fun c_3 => ?_)
  · refine r_iload_n dJ7_copyOf_59c91_14 rfl rfl ?_
    refine r_newa (atype := .int) (nc' := 0) (ns' := 0) 2 n (by decide) rfl (fun cA => znewc2 cA _ _) tw_153 rfl (by omega) (by decide) (by omega) dJ7_copyOf_59c91_15 rfl ?_
    refine r_astore_n (ls' := [_, _, _]) dJ7_copyOf_59c91_17 (Nat.le_of_ble_eq_true rfl) (zRv_ref _) rfl rfl ?_
    refine r_aload_n dJ7_copyOf_59c91_18 rfl (zRv_ref _) rfl ?_
    refine r_iconst dJ7_copyOf_59c91_19 kc_0 rfl ?_
    refine r_aload_n dJ7_copyOf_59c91_20 rfl (zRv_ref _) rfl ?_
    refine r_iconst dJ7_copyOf_59c91_21 kc_0 rfl ?_
    refine r_aload_n dJ7_copyOf_59c91_22 rfl (zRv_ref _) rfl ?_
    refine r_alenv 2 (by decide) e1 e2 dJ7_copyOf_59c91_23 rfl ?_
    refine r_iload_n dJ7_copyOf_59c91_24 rfl rfl ?_
    refine r_mmin lsJ7_304 hdd (Nat.le_of_ble_eq_true rfl) dJ7_copyOf_59c91_25 rfl ?_
    rw [if_pos ((nI_lt' (by omega) (by omega)).mpr hn)]
    refine r_copyi (idx := 150) tw_677 tw_679 tw_678 tw_109 e1 e3 (by rw [e2]; omega) (by rw [e4]; omega) (by omega) hdd (Nat.le_of_ble_eq_true rfl) dJ7_copyOf_59c91_28 rfl ?_
    refine r_aload_n dJ7_copyOf_59c91_31 rfl (zRv_ref _) rfl ?_
    refine r_aret rfl (by first | exact Or.inl ⟨_, rfl⟩ | exact Or.inr ⟨_, rfl⟩) (by first | exact zRv_ref _ | exact zRv_null | exact zRv_rf _ | assumption) dJ7_copyOf_59c91_32 ?_
    exact ⟨rfl, ⟨rfl, fun b hb => zeq.tr (zeq.nw hb) ⟨rfl, zsA_same _ _ _ b hb⟩⟩, e3, e4, fun k hk9 => by rw [za_zsA, if_pos hk9, za_znew, if_neg n1], rfl⟩
  · exact absurd c_3 (by omega)
theorem sp_copyOfF (E : ZE) (w : ZW) (sg : ZM) (d a n : Nat) (hdd : 1 ≤ d) (hk : zk w a = 21) (ha : a < zsz w) (hn : n < zln w a) (hl : zln w a ≤ 1000) : CallQ E MJ7_copyOf_33ae4 [.ref a, .int (nI n)] w sg d 1 n (fun v w' sg' => v = some (.ref (zsz w)) ∧ znx w w' ∧ zk w' (zsz w) = 21 ∧ zln w' (zsz w) = n ∧ (∀ k, k < n → zg w' (zsz w) k = zg w a k) ∧ sg = sg') := by
  have n1 : ¬ a = zsz w := by omega
  obtain ⟨N, hN⟩ : ∃ N, zln w a = N := ⟨_, rfl⟩
  rw [hN] at hn hl
  have e1 : zk (znew w (1 + 20) n) a = 21 := by rw [zk_znew, if_neg n1]; exact hk
  have e2 : zln (znew w (1 + 20) n) a = N := by rw [zln_znew, if_neg n1]; exact hN
  have e3 : zk (znew w (1 + 20) n) (zsz w) = 21 := by rw [zk_znew, if_pos rfl]
  have e4 : zln (znew w (1 + 20) n) (zsz w) = n := by rw [zln_znew, if_pos rfl]
  refine CallQ.of rfl (by simp [Value.category]) (Nat.le_of_ble_eq_true rfl) ?_
  refine r_iload_n dJ7_copyOf_33ae4_0 rfl rfl ?_
  refine r_aload_n dJ7_copyOf_33ae4_1 rfl (zRv_ref _) rfl ?_
  refine r_alenv 1 (by decide) hk hN dJ7_copyOf_33ae4_2 rfl ?_
  refine r_icmp_neN (by omega) (by omega) (r := 14) dJ7_copyOf_33ae4_3 (by decide) rfl (fun c_3 => ?_) (fun c_3 => ?_)
  · refine r_iload_n dJ7_copyOf_33ae4_14 rfl rfl ?_
    refine r_newa (atype := .float) (nc' := 0) (ns' := 0) 1 n (by decide) rfl (fun cA => znewc1 cA _ _) tw_154 rfl (by omega) (by decide) (by omega) dJ7_copyOf_33ae4_15 rfl ?_
    refine r_astore_n (ls' := [_, _, _]) dJ7_copyOf_33ae4_17 (Nat.le_of_ble_eq_true rfl) (zRv_ref _) rfl rfl ?_
    refine r_aload_n dJ7_copyOf_33ae4_18 rfl (zRv_ref _) rfl ?_
    refine r_iconst dJ7_copyOf_33ae4_19 kc_0 rfl ?_
    refine r_aload_n dJ7_copyOf_33ae4_20 rfl (zRv_ref _) rfl ?_
    refine r_iconst dJ7_copyOf_33ae4_21 kc_0 rfl ?_
    refine r_aload_n dJ7_copyOf_33ae4_22 rfl (zRv_ref _) rfl ?_
    refine r_alenv 1 (by decide) e1 e2 dJ7_copyOf_33ae4_23 rfl ?_
    refine r_iload_n dJ7_copyOf_33ae4_24 rfl rfl ?_
    refine r_mmin lsJ7_304 hdd (Nat.le_of_ble_eq_true rfl) dJ7_copyOf_33ae4_25 rfl ?_
    rw [if_pos ((nI_lt' (by omega) (by omega)).mpr hn)]
    refine r_copyf (idx := 150) tw_677 tw_679 tw_678 tw_109 e1 e3 (by rw [e2]; omega) (by rw [e4]; omega) (by omega) hdd (Nat.le_of_ble_eq_true rfl) dJ7_copyOf_33ae4_28 rfl ?_
    refine r_aload_n dJ7_copyOf_33ae4_31 rfl (zRv_ref _) rfl ?_
    refine r_aret rfl (by first | exact Or.inl ⟨_, rfl⟩ | exact Or.inr ⟨_, rfl⟩) (by first | exact zRv_ref _ | exact zRv_null | exact zRv_rf _ | assumption) dJ7_copyOf_33ae4_32 ?_
    exact ⟨rfl, ⟨rfl, fun b hb => zeq.tr (zeq.nw hb) ⟨rfl, zsG_same _ _ _ b hb⟩⟩, e3, e4, fun k hk9 => by rw [zg_zsG, if_pos hk9, zg_znew, if_neg n1], rfl⟩
  · exact absurd c_3 (by omega)
theorem zsA_step (w : ZW) (a i : Nat) (v : Int32) : zsa (zsA w a (fun k => if k < i then v else za w a k)) a i v = zsA w a (fun k => if k < i + 1 then v else za w a k) := by
  unfold zsa zsA z2
  simp only [zsz, zk, zln, zi, zr, zf, za, zq, zg, zl, zd, Prod.mk.injEq, true_and, and_true]
  funext x y
  by_cases e : x = a
  · subst e
    by_cases e2 : y = i
    · subst e2; simp
    · simp only [true_and, if_neg e2, if_true]
      by_cases h : y < i
      · rw [if_pos h, if_pos (by omega)]
      · rw [if_neg h, if_neg (by omega)]
  · simp [e]
theorem zsA_0 (w : ZW) (a : Nat) : zsA w a (fun k => za w a k) = w := by
  have h : ∀ x y, (if x = a then za w a y else za w x y) = za w x y := by
    intro x y
    by_cases e : x = a
    · subst e; rw [if_pos rfl]
    · rw [if_neg e]
  unfold zsA
  simp only [h]
  rfl
theorem rfill_loop (E : ZE) (w : ZW) (sg : ZM) (d a N : Nat) (v : Int32) (hk : zk w a = 22) (hN : zln w a = N) (hl : N ≤ 1000) : ∀ (m i : Nat), i + m = N → RW E MJ7_fill_53178 5 [some (.ref a), some (.int v), some (.int (nI i)), some (.int (nI N))] [] (zsA w a (fun k => if k < i then v else za w a k)) sg d 0 0 (PN E (fun u w' sg' => u = none ∧ w' = zsA w a (fun k => if k < N then v else za w a k) ∧ sg = sg'))
  | 0, i, hi => by
    have : i = N := by omega
    subst this
    refine r_iload_n dJ7_fill_53178_5 rfl rfl ?_
    refine r_iload_n dJ7_fill_53178_6 rfl rfl ?_
    refine r_icmp_geN (by omega) (by omega) (r := 20) dJ7_fill_53178_7 (by decide) rfl (fun c_7 => ?_) (fun c_7 => ?_)
    · refine r_vret rfl dJ7_fill_53178_20 ?_
      exact ⟨rfl, rfl, rfl⟩
    · exact absurd c_7 (by omega)
  | m + 1, i, hi => by
    refine r_iload_n dJ7_fill_53178_5 rfl rfl ?_
    refine r_iload_n dJ7_fill_53178_6 rfl rfl ?_
    refine r_icmp_geN (by omega) (by omega) (r := 20) dJ7_fill_53178_7 (by decide) rfl (fun c_7 => ?_) (fun c_7 => ?_)
    · exact absurd c_7 (by omega)
    · refine r_aload_n dJ7_fill_53178_10 rfl (zRv_ref _) rfl ?_
      refine r_iload_n dJ7_fill_53178_11 rfl rfl ?_
      refine r_iload_n dJ7_fill_53178_12 rfl rfl ?_
      refine r_iast i hk rfl (show i < zln w a by omega) (by omega) dJ7_fill_53178_13 rfl ?_
      refine r_iinc (ls' := [_, _, _, _]) dJ7_fill_53178_14 (Nat.le_of_ble_eq_true rfl) rfl (zinc1 _) rfl rfl ?_
      refine r_goto (r := 5) dJ7_fill_53178_17 (by decide) ?_
      rw [zsA_step]
      exact rfill_loop E w sg d a N v hk hN hl m (i + 1) (by omega)
theorem sp_fill (E : ZE) (w : ZW) (sg : ZM) (d a N : Nat) (v : Int32) (hk : zk w a = 22) (hN : zln w a = N) (hl : N ≤ 1000) : CallQ E MJ7_fill_53178 [.ref a, .int v] w sg d 0 0 (fun u w' sg' => u = none ∧ w' = zsA w a (fun k => if k < N then v else za w a k) ∧ sg = sg') := by
  refine CallQ.of rfl (by simp [Value.category]) (Nat.le_of_ble_eq_true rfl) ?_
  refine r_iconst dJ7_fill_53178_0 kc_0 rfl ?_
  refine r_istore_n (ls' := [_, _, _, _]) dJ7_fill_53178_1 (Nat.le_of_ble_eq_true rfl) rfl rfl ?_
  refine r_aload_n dJ7_fill_53178_2 rfl (zRv_ref _) rfl ?_
  refine r_alenv 2 (by decide) hk hN dJ7_fill_53178_3 rfl ?_
  refine r_istore_n (ls' := [_, _, _, _]) dJ7_fill_53178_4 (Nat.le_of_ble_eq_true rfl) rfl rfl ?_
  have h9 := rfill_loop E w sg d a N v hk hN hl N 0 (by omega)
  simp only [Nat.not_lt_zero, if_false] at h9
  rw [zsA_0] at h9
  exact h9
