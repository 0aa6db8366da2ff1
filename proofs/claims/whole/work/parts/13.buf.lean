/-! ===== the text buffer ===== -/
/-- the buffer's object and rows stand -/
def TBs (w : ZW) (tb tx sp nm : Nat) : Prop := zk w tb = 9 ∧ zr w 900 tb = some tx ∧ zr w 904 tb = some sp ∧ zr w 905 tb = some nm ∧ zk w tx = 20 ∧ zln w tx = 120 ∧ zk w sp = 22 ∧ zln w sp = 120 ∧ zk w nm = 21 ∧ zln w nm = 120
/-- what is being read: the rest r stands behind the place at -/
def TBr (w : ZW) (tb tx a : Nat) (r : List Nat) : Prop := zi w 903 tb = nI a ∧ zi w 902 tb = nI (a + r.length) ∧ a + r.length ≤ 120 ∧ (∀ i c, r[i]? = some c → za w tx (a + i) = nI c) ∧ ∀ c ∈ r, c < 128
def hd0 (r : List Nat) : Int32 := match r with
  | [] => -1
  | c :: _ => nI c
set_option maxHeartbeats 4000000 in
theorem sp_X9_isLetter (E : ZE) (w : ZW) (sg : ZM) (d c : Nat) (hc : c < 2147483648) : CallQ E MX9_isLetter [.int (nI c)] w sg d 0 0 (fun v w' sg' => v = some (.int (zb (decide (97 ≤ c ∧ c ≤ 122)))) ∧ w' = w ∧ sg' = sg) := by
  refine CallQ.of rfl (by simp [Value.category]) (Nat.le_of_ble_eq_true rfl) ?_
  refine r_iload_n dX9_isLetter_0 rfl rfl ?_
  refine r_bipush dX9_isLetter_1 kb_97 rfl ?_
  first | refine r_icmp_ltN (by omega) (by omega) (r := 16) dX9_isLetter_3 (by decide) rfl (fun c_3 => ?_) (fun c_3 => ?_) | refine r_icmp_lt (r := 16) dX9_isLetter_3 (by decide) rfl (fun c_3 => ?_) (fun c_3 => ?_)
  · refine r_iconst dX9_isLetter_16 kc_0 rfl ?_
    refine r_zret .boolean rfl (by first | exact zb_nar _ | rfl | decide | (simp only [*]; first | exact zb_nar _ | rfl)) dX9_isLetter_17 ?_
    refine ⟨?_, rfl, rfl⟩; simp [zb]; omega
  · refine r_iload_n dX9_isLetter_6 rfl rfl ?_
    refine r_bipush dX9_isLetter_7 kb_122 rfl ?_
    first | refine r_icmp_gtN (by omega) (by omega) (r := 16) dX9_isLetter_9 (by decide) rfl (fun c_9 => ?_) (fun c_9 => ?_) | refine r_icmp_gt (r := 16) dX9_isLetter_9 (by decide) rfl (fun c_9 => ?_) (fun c_9 => ?_)
    · refine r_iconst dX9_isLetter_16 kc_0 rfl ?_
      refine r_zret .boolean rfl (by first | exact zb_nar _ | rfl | decide | (simp only [*]; first | exact zb_nar _ | rfl)) dX9_isLetter_17 ?_
      refine ⟨?_, rfl, rfl⟩; simp [zb]; omega
    · refine r_iconst dX9_isLetter_12 kc_1 rfl ?_
      refine r_goto (r := 17) dX9_isLetter_13 (by decide) ?_
      refine r_zret .boolean rfl (by first | exact zb_nar _ | rfl | decide | (simp only [*]; first | exact zb_nar _ | rfl)) dX9_isLetter_17 ?_
      refine ⟨?_, rfl, rfl⟩; simp [zb]; omega
