/-! ===== the text buffer ===== -/
/-- the buffer's object and rows stand -/
def TBs (w : ZW) (tb tx sp nm : Nat) : Prop := zk w tb = 9 ∧ zr w 900 tb = some tx ∧ zr w 904 tb = some sp ∧ zr w 905 tb = some nm ∧ zk w tx = 20 ∧ zln w tx = 120 ∧ zk w sp = 22 ∧ zln w sp = 120 ∧ zk w nm = 21 ∧ zln w nm = 120
/-- what is being read: the rest r stands behind the place at -/
def TBr (w : ZW) (tb tx a : Nat) (r : List Nat) : Prop := zi w 903 tb = nI a ∧ zi w 902 tb = nI (a + r.length) ∧ a + r.length ≤ 120 ∧ (∀ i c, r[i]? = some c → za w tx (a + i) = nI c) ∧ ∀ c ∈ r, c < 128
theorem TBr.hd {w : ZW} {tb tx a c : Nat} {r : List Nat} (h : TBr w tb tx a (c :: r)) : za w tx a = nI c ∧ c < 128 := ⟨by have := h.2.2.2.1 0 c rfl; rwa [Nat.add_zero] at this, h.2.2.2.2 c List.mem_cons_self⟩
theorem TBr.nx {w : ZW} {tb tx a c : Nat} {r : List Nat} (h : TBr w tb tx a (c :: r)) : TBr (zsi w 903 tb (nI (a + 1))) tb tx (a + 1) r := by
  obtain ⟨h1, h2, h3, h4, h5⟩ := h
  rw [List.length_cons] at h2 h3
  refine ⟨z2_eq, ?_, by omega, fun i x hx => ?_, fun x hx => h5 x (List.mem_cons_of_mem _ hx)⟩
  · rw [zi_zsi, if_neg (fun e => absurd e.1 (by decide)), h2]
    congr 1
    omega
  · rw [za_zsi, Nat.add_assoc, Nat.add_comm 1 i]
    exact h4 (i + 1) x (by simpa using hx)
def hd0 (r : List Nat) : Int32 := match r with
  | [] => -1
  | c :: _ => nI c
theorem sp_X9_isLetter (E : ZE) (w : ZW) (sg : ZM) (d c : Nat) (hc : c < 2147483648) : CallQ E MX9_isLetter [.int (nI c)] w sg d 0 0 (fun v w' sg' => v = some (.int (zb (decide (97 ≤ c ∧ c ≤ 122)))) ∧ w = w' ∧ sg = sg') := by
  refine CallQ.of rfl (by simp [Value.category]) (Nat.le_of_ble_eq_true rfl) ?_
  refine r_iload_n dX9_isLetter_0 rfl rfl ?_
  refine r_bipush dX9_isLetter_1 kb_97 rfl ?_
  refine r_icmp_ltN (by omega) (by omega) (r := 16) dX9_isLetter_3 (by decide) rfl (fun c_3 => ?_) (fun c_3 => ?_)
  · refine r_iconst dX9_isLetter_16 kc_0 rfl ?_
    refine r_zret .boolean rfl rfl dX9_isLetter_17 ?_
    refine ⟨?_, rfl, rfl⟩; simp [zb]; omega
  · refine r_iload_n dX9_isLetter_6 rfl rfl ?_
    refine r_bipush dX9_isLetter_7 kb_122 rfl ?_
    refine r_icmp_gtN (by omega) (by omega) (r := 16) dX9_isLetter_9 (by decide) rfl (fun c_9 => ?_) (fun c_9 => ?_)
    · refine r_iconst dX9_isLetter_16 kc_0 rfl ?_
      refine r_zret .boolean rfl rfl dX9_isLetter_17 ?_
      refine ⟨?_, rfl, rfl⟩; simp [zb]; omega
    · refine r_iconst dX9_isLetter_12 kc_1 rfl ?_
      refine r_goto (r := 17) dX9_isLetter_13 (by decide) ?_
      refine r_zret .boolean rfl rfl dX9_isLetter_17 ?_
      refine ⟨?_, rfl, rfl⟩; simp [zb]; omega
theorem sp_X9_isDigit (E : ZE) (w : ZW) (sg : ZM) (d c : Nat) (hc : c < 2147483648) : CallQ E MX9_isDigit [.int (nI c)] w sg d 0 0 (fun v w' sg' => v = some (.int (zb (decide (48 ≤ c ∧ c ≤ 57)))) ∧ w = w' ∧ sg = sg') := by
  refine CallQ.of rfl (by simp [Value.category]) (Nat.le_of_ble_eq_true rfl) ?_
  refine r_iload_n dX9_isDigit_0 rfl rfl ?_
  refine r_bipush dX9_isDigit_1 kb_48 rfl ?_
  refine r_icmp_ltN (by omega) (by omega) (r := 16) dX9_isDigit_3 (by decide) rfl (fun c_3 => ?_) (fun c_3 => ?_)
  · refine r_iconst dX9_isDigit_16 kc_0 rfl ?_
    refine r_zret .boolean rfl rfl dX9_isDigit_17 ?_
    refine ⟨?_, rfl, rfl⟩; simp [zb]; omega
  · refine r_iload_n dX9_isDigit_6 rfl rfl ?_
    refine r_bipush dX9_isDigit_7 kb_57 rfl ?_
    refine r_icmp_gtN (by omega) (by omega) (r := 16) dX9_isDigit_9 (by decide) rfl (fun c_9 => ?_) (fun c_9 => ?_)
    · refine r_iconst dX9_isDigit_16 kc_0 rfl ?_
      refine r_zret .boolean rfl rfl dX9_isDigit_17 ?_
      refine ⟨?_, rfl, rfl⟩; simp [zb]; omega
    · refine r_iconst dX9_isDigit_12 kc_1 rfl ?_
      refine r_goto (r := 17) dX9_isDigit_13 (by decide) ?_
      refine r_zret .boolean rfl rfl dX9_isDigit_17 ?_
      refine ⟨?_, rfl, rfl⟩; simp [zb]; omega
theorem sp_X8_peek (E : ZE) (w : ZW) (sg : ZM) (d tb tx sp nm a : Nat) (r : List Nat) (h : TBs w tb tx sp nm) (hr : TBr w tb tx a r) : CallQ E MX8_peek [.ref tb] w sg d 0 0 (fun v w' sg' => v = some (.int (hd0 r)) ∧ w = w' ∧ sg = sg') := by
  obtain ⟨h1, h2, h3, h4, h5, h6, h7, h8, h9, h10⟩ := h
  have hr0 := hr
  obtain ⟨r1, r2, r3, -, -⟩ := hr
  refine CallQ.of rfl (by simp [Value.category]) (Nat.le_of_ble_eq_true rfl) ?_
  cases r with
  | nil =>
    refine r_aload_n dX8_peek_0 rfl (zRv_ref _) rfl ?_
    refine r_getiv 8 3 903 lfX8_22 (by first | (simp only [zKS]; first | assumption) | assumption | exact zk_nself _ _ _ | (simp [zKS, zNS, *]; done)) rfl rfl (by first | (simp only [zGS, zMS, Nat.reduceEqDiff, OfNat.ofNat_ne_ofNat, false_and, and_false, true_and, and_true, and_self, if_true, if_false, ite_true, ite_false, reduceIte, reduceCtorEq]; first | done | assumption | rfl) | assumption | exact z2_eq | exact z1_eq | (simp [zGS, zMS]; first | done | assumption) | rfl) dX8_peek_1 rfl ?_
    refine r_aload_n dX8_peek_4 rfl (zRv_ref _) rfl ?_
    refine r_getiv 8 2 902 lfX8_19 (by first | (simp only [zKS]; first | assumption) | assumption | exact zk_nself _ _ _ | (simp [zKS, zNS, *]; done)) rfl rfl (by first | (simp only [zGS, zMS, Nat.reduceEqDiff, OfNat.ofNat_ne_ofNat, false_and, and_false, true_and, and_true, and_self, if_true, if_false, ite_true, ite_false, reduceIte, reduceCtorEq]; first | done | assumption | rfl) | assumption | exact z2_eq | exact z1_eq | (simp [zGS, zMS]; first | done | assumption) | rfl) dX8_peek_5 rfl ?_
    refine r_icmp_geN (by omega) (by omega) (r := 23) dX8_peek_8 (by decide) rfl (fun c_8 => ?_) (fun c_8 => ?_)
    · refine r_iconst dX8_peek_23 kc_m1 rfl ?_
      refine r_iret rfl dX8_peek_24 ?_
      exact ⟨rfl, rfl, rfl⟩
    · exact absurd c_8 (by simp)
  | cons c r =>
    have e1 := hr0.hd.1
    rw [List.length_cons] at r2 r3
    refine r_aload_n dX8_peek_0 rfl (zRv_ref _) rfl ?_
    refine r_getiv 8 3 903 lfX8_22 (by first | (simp only [zKS]; first | assumption) | assumption | exact zk_nself _ _ _ | (simp [zKS, zNS, *]; done)) rfl rfl (by first | (simp only [zGS, zMS, Nat.reduceEqDiff, OfNat.ofNat_ne_ofNat, false_and, and_false, true_and, and_true, and_self, if_true, if_false, ite_true, ite_false, reduceIte, reduceCtorEq]; first | done | assumption | rfl) | assumption | exact z2_eq | exact z1_eq | (simp [zGS, zMS]; first | done | assumption) | rfl) dX8_peek_1 rfl ?_
    refine r_aload_n dX8_peek_4 rfl (zRv_ref _) rfl ?_
    refine r_getiv 8 2 902 lfX8_19 (by first | (simp only [zKS]; first | assumption) | assumption | exact zk_nself _ _ _ | (simp [zKS, zNS, *]; done)) rfl rfl (by first | (simp only [zGS, zMS, Nat.reduceEqDiff, OfNat.ofNat_ne_ofNat, false_and, and_false, true_and, and_true, and_self, if_true, if_false, ite_true, ite_false, reduceIte, reduceCtorEq]; first | done | assumption | rfl) | assumption | exact z2_eq | exact z1_eq | (simp [zGS, zMS]; first | done | assumption) | rfl) dX8_peek_5 rfl ?_
    refine r_icmp_geN (by omega) (by omega) (r := 23) dX8_peek_8 (by decide) rfl (fun c_8 => ?_) (fun c_8 => ?_)
    · exact absurd c_8 (by omega)
    · refine r_aload_n dX8_peek_11 rfl (zRv_ref _) rfl ?_
      refine r_gets 8 0 900 lfX8_9 (by first | (simp only [zKS]; first | assumption) | assumption | exact zk_nself _ _ _ | (simp [zKS, zNS, *]; done)) rfl rfl (by first | (simp only [zGS, Nat.reduceEqDiff, OfNat.ofNat_ne_ofNat, false_and, and_false, true_and, and_true, and_self, if_true, if_false, ite_true, ite_false, reduceIte, reduceCtorEq]; first | done | assumption) | assumption | exact z2_eq | (simp [zGS]; first | done | assumption)) dX8_peek_12 rfl ?_
      refine r_aload_n dX8_peek_15 rfl (zRv_ref _) rfl ?_
      refine r_getiv 8 3 903 lfX8_22 (by first | (simp only [zKS]; first | assumption) | assumption | exact zk_nself _ _ _ | (simp [zKS, zNS, *]; done)) rfl rfl (by first | (simp only [zGS, zMS, Nat.reduceEqDiff, OfNat.ofNat_ne_ofNat, false_and, and_false, true_and, and_true, and_self, if_true, if_false, ite_true, ite_false, reduceIte, reduceCtorEq]; first | done | assumption | rfl) | assumption | exact z2_eq | exact z1_eq | (simp [zGS, zMS]; first | done | assumption) | rfl) dX8_peek_16 rfl ?_
      refine r_caldv _ (by first | (simp only [zKS]; first | assumption) | assumption | exact zk_nself _ _ _ | (simp [zKS, zNS, *]; done)) rfl (by first | (rw [show zln _ _ = _ by assumption]; omega) | (simp only [zKS, *]; omega) | (simp [zKS, *]; omega)) (by omega) (by first | (simp only [zGS, zMS, Nat.reduceEqDiff, OfNat.ofNat_ne_ofNat, false_and, and_false, true_and, and_true, and_self, if_true, if_false, ite_true, ite_false, reduceIte, reduceCtorEq]; first | done | assumption | rfl) | assumption | exact z2_eq | exact z1_eq | (simp [zGS, zMS]; first | done | assumption) | rfl) dX8_peek_19 rfl ?_
      refine r_goto (r := 24) dX8_peek_20 (by decide) ?_
      refine r_iret rfl dX8_peek_24 ?_
      exact ⟨rfl, rfl, rfl⟩
theorem sp_X8_next (E : ZE) (w : ZW) (sg : ZM) (d tb tx sp nm a : Nat) (r : List Nat) (h : TBs w tb tx sp nm) (hr : TBr w tb tx a r) : CallQ E MX8_next [.ref tb] w sg d 0 0 (fun v w' sg' => v = some (.int (hd0 r)) ∧ (w' = match r with | [] => w | _ :: _ => zsi w 903 tb (nI (a + 1))) ∧ sg = sg') := by
  obtain ⟨h1, h2, h3, h4, h5, h6, h7, h8, h9, h10⟩ := h
  have hr0 := hr
  obtain ⟨r1, r2, r3, -, -⟩ := hr
  refine CallQ.of rfl (by simp [Value.category]) (Nat.le_of_ble_eq_true rfl) ?_
  cases r with
  | nil =>
    refine r_aload_n dX8_next_0 rfl (zRv_ref _) rfl ?_
    refine r_getiv 8 3 903 lfX8_22 (by first | (simp only [zKS]; first | assumption) | assumption | exact zk_nself _ _ _ | (simp [zKS, zNS, *]; done)) rfl rfl (by first | (simp only [zGS, zMS, Nat.reduceEqDiff, OfNat.ofNat_ne_ofNat, false_and, and_false, true_and, and_true, and_self, if_true, if_false, ite_true, ite_false, reduceIte, reduceCtorEq]; first | done | assumption | rfl) | assumption | exact z2_eq | exact z1_eq | (simp [zGS, zMS]; first | done | assumption) | rfl) dX8_next_1 rfl ?_
    refine r_aload_n dX8_next_4 rfl (zRv_ref _) rfl ?_
    refine r_getiv 8 2 902 lfX8_19 (by first | (simp only [zKS]; first | assumption) | assumption | exact zk_nself _ _ _ | (simp [zKS, zNS, *]; done)) rfl rfl (by first | (simp only [zGS, zMS, Nat.reduceEqDiff, OfNat.ofNat_ne_ofNat, false_and, and_false, true_and, and_true, and_self, if_true, if_false, ite_true, ite_false, reduceIte, reduceCtorEq]; first | done | assumption | rfl) | assumption | exact z2_eq | exact z1_eq | (simp [zGS, zMS]; first | done | assumption) | rfl) dX8_next_5 rfl ?_
    refine r_icmp_geN (by omega) (by omega) (r := 33) dX8_next_8 (by decide) rfl (fun c_8 => ?_) (fun c_8 => ?_)
    · refine r_iconst dX8_next_33 kc_m1 rfl ?_
      refine r_iret rfl dX8_next_34 ?_
      exact ⟨rfl, rfl, rfl⟩
    · exact absurd c_8 (by simp)
  | cons c r =>
    have e1 := hr0.hd.1
    rw [List.length_cons] at r2 r3
    refine r_aload_n dX8_next_0 rfl (zRv_ref _) rfl ?_
    refine r_getiv 8 3 903 lfX8_22 (by first | (simp only [zKS]; first | assumption) | assumption | exact zk_nself _ _ _ | (simp [zKS, zNS, *]; done)) rfl rfl (by first | (simp only [zGS, zMS, Nat.reduceEqDiff, OfNat.ofNat_ne_ofNat, false_and, and_false, true_and, and_true, and_self, if_true, if_false, ite_true, ite_false, reduceIte, reduceCtorEq]; first | done | assumption | rfl) | assumption | exact z2_eq | exact z1_eq | (simp [zGS, zMS]; first | done | assumption) | rfl) dX8_next_1 rfl ?_
    refine r_aload_n dX8_next_4 rfl (zRv_ref _) rfl ?_
    refine r_getiv 8 2 902 lfX8_19 (by first | (simp only [zKS]; first | assumption) | assumption | exact zk_nself _ _ _ | (simp [zKS, zNS, *]; done)) rfl rfl (by first | (simp only [zGS, zMS, Nat.reduceEqDiff, OfNat.ofNat_ne_ofNat, false_and, and_false, true_and, and_true, and_self, if_true, if_false, ite_true, ite_false, reduceIte, reduceCtorEq]; first | done | assumption | rfl) | assumption | exact z2_eq | exact z1_eq | (simp [zGS, zMS]; first | done | assumption) | rfl) dX8_next_5 rfl ?_
    refine r_icmp_geN (by omega) (by omega) (r := 33) dX8_next_8 (by decide) rfl (fun c_8 => ?_) (fun c_8 => ?_)
    · exact absurd c_8 (by omega)
    · refine r_aload_n dX8_next_11 rfl (zRv_ref _) rfl ?_
      refine r_dup dX8_next_12 (by first | rfl | exact zcat_rf _) rfl ?_
      refine r_getiv 8 3 903 lfX8_22 (by first | (simp only [zKS]; first | assumption) | assumption | exact zk_nself _ _ _ | (simp [zKS, zNS, *]; done)) rfl rfl (by first | (simp only [zGS, zMS, Nat.reduceEqDiff, OfNat.ofNat_ne_ofNat, false_and, and_false, true_and, and_true, and_self, if_true, if_false, ite_true, ite_false, reduceIte, reduceCtorEq]; first | done | assumption | rfl) | assumption | exact z2_eq | exact z1_eq | (simp [zGS, zMS]; first | done | assumption) | rfl) dX8_next_13 rfl ?_
      refine r_iconst dX8_next_16 kc_1 rfl ?_
      refine r_iaddN dX8_next_17 rfl ?_
      refine r_puti 8 3 903 lfX8_22 (by first | (simp only [zKS]; first | assumption) | assumption | exact zk_nself _ _ _ | (simp [zKS, zNS, *]; done)) rfl rfl rfl (Or.inl rfl) dX8_next_18 rfl ?_
      refine r_aload_n dX8_next_21 rfl (zRv_ref _) rfl ?_
      refine r_gets 8 0 900 lfX8_9 (by first | (simp only [zKS]; first | assumption) | assumption | exact zk_nself _ _ _ | (simp [zKS, zNS, *]; done)) rfl rfl (by first | (simp only [zGS, Nat.reduceEqDiff, OfNat.ofNat_ne_ofNat, false_and, and_false, true_and, and_true, and_self, if_true, if_false, ite_true, ite_false, reduceIte, reduceCtorEq]; first | done | assumption) | assumption | exact z2_eq | (simp [zGS]; first | done | assumption)) dX8_next_22 rfl ?_
      refine r_aload_n dX8_next_25 rfl (zRv_ref _) rfl ?_
      refine r_getiv 8 3 903 lfX8_22 (by first | (simp only [zKS]; first | assumption) | assumption | exact zk_nself _ _ _ | (simp [zKS, zNS, *]; done)) rfl rfl (by first | (simp only [zGS, zMS, Nat.reduceEqDiff, OfNat.ofNat_ne_ofNat, false_and, and_false, true_and, and_true, and_self, if_true, if_false, ite_true, ite_false, reduceIte, reduceCtorEq]; first | done | assumption | rfl) | assumption | exact z2_eq | exact z1_eq | (simp [zGS, zMS]; first | done | assumption) | rfl) dX8_next_26 rfl ?_
      refine r_iconst dX8_next_29 kc_1 rfl ?_
      refine r_isubN (by omega) dX8_next_30 rfl ?_
      refine r_caldv _ (by first | (simp only [zKS]; first | assumption) | assumption | exact zk_nself _ _ _ | (simp [zKS, zNS, *]; done)) rfl (by first | (rw [show zln _ _ = _ by assumption]; omega) | (simp only [zKS, *]; omega) | (simp [zKS, *]; omega)) (by omega) (by first | (simp only [zGS, zMS, Nat.reduceEqDiff, OfNat.ofNat_ne_ofNat, false_and, and_false, true_and, and_true, and_self, if_true, if_false, ite_true, ite_false, reduceIte, reduceCtorEq]; first | done | assumption | rfl) | assumption | exact z2_eq | exact z1_eq | (simp [zGS, zMS]; first | done | assumption) | rfl) dX8_next_31 rfl ?_
      refine r_iret rfl dX8_next_32 ?_
      exact ⟨rfl, rfl, rfl⟩
def hdis (r : List Nat) (c : Nat) : Bool := match r with
  | [] => false
  | x :: _ => decide (x = c)
theorem sp_X8_take (E : ZE) (w : ZW) (sg : ZM) (d tb tx sp nm a c : Nat) (hc : c < 65536) (r : List Nat) (h : TBs w tb tx sp nm) (hr : TBr w tb tx a r) : CallQ E MX8_take [.ref tb, .int (nI c)] w sg d 0 0 (fun v w' sg' => v = some (.int (zb (hdis r c))) ∧ (w' = if hdis r c = true then zsi w 903 tb (nI (a + 1)) else w) ∧ sg = sg') := by
  obtain ⟨h1, h2, h3, h4, h5, h6, h7, h8, h9, h10⟩ := h
  have hr0 := hr
  obtain ⟨r1, r2, r3, -, -⟩ := hr
  refine CallQ.of rfl (by simp [Value.category]) (Nat.le_of_ble_eq_true rfl) ?_
  cases r with
  | nil =>
    refine r_aload_n dX8_take_0 rfl (zRv_ref _) rfl ?_
    refine r_getiv 8 3 903 lfX8_22 (by first | (simp only [zKS]; first | assumption) | assumption | exact zk_nself _ _ _ | (simp [zKS, zNS, *]; done)) rfl rfl (by first | (simp only [zGS, zMS, Nat.reduceEqDiff, OfNat.ofNat_ne_ofNat, false_and, and_false, true_and, and_true, and_self, if_true, if_false, ite_true, ite_false, reduceIte, reduceCtorEq]; first | done | assumption | rfl) | assumption | exact z2_eq | exact z1_eq | (simp [zGS, zMS]; first | done | assumption) | rfl) dX8_take_1 rfl ?_
    refine r_aload_n dX8_take_4 rfl (zRv_ref _) rfl ?_
    refine r_getiv 8 2 902 lfX8_19 (by first | (simp only [zKS]; first | assumption) | assumption | exact zk_nself _ _ _ | (simp [zKS, zNS, *]; done)) rfl rfl (by first | (simp only [zGS, zMS, Nat.reduceEqDiff, OfNat.ofNat_ne_ofNat, false_and, and_false, true_and, and_true, and_self, if_true, if_false, ite_true, ite_false, reduceIte, reduceCtorEq]; first | done | assumption | rfl) | assumption | exact z2_eq | exact z1_eq | (simp [zGS, zMS]; first | done | assumption) | rfl) dX8_take_5 rfl ?_
    refine r_icmp_geN (by omega) (by omega) (r := 28) dX8_take_8 (by decide) rfl (fun c_8 => ?_) (fun c_8 => ?_)
    · refine r_iconst dX8_take_28 kc_0 rfl ?_
      refine r_istore_n (ls' := [_, _, _]) dX8_take_29 (Nat.le_of_ble_eq_true rfl) rfl rfl ?_
      refine r_iload_n dX8_take_30 rfl rfl ?_
      refine r_if_eqN (by omega) (r := 44) dX8_take_31 (by decide) rfl (fun c_31 => ?_) (fun c_31 => ?_)
      · refine r_iload_n dX8_take_44 rfl rfl ?_
        refine r_zret .boolean rfl rfl dX8_take_45 ?_
        exact ⟨rfl, rfl, rfl⟩
      · exact absurd rfl c_31
    · exact absurd c_8 (by simp)
  | cons x r =>
    have e1 := hr0.hd.1
    have e2 := hr0.hd.2
    rw [List.length_cons] at r2 r3
    refine r_aload_n dX8_take_0 rfl (zRv_ref _) rfl ?_
    refine r_getiv 8 3 903 lfX8_22 (by first | (simp only [zKS]; first | assumption) | assumption | exact zk_nself _ _ _ | (simp [zKS, zNS, *]; done)) rfl rfl (by first | (simp only [zGS, zMS, Nat.reduceEqDiff, OfNat.ofNat_ne_ofNat, false_and, and_false, true_and, and_true, and_self, if_true, if_false, ite_true, ite_false, reduceIte, reduceCtorEq]; first | done | assumption | rfl) | assumption | exact z2_eq | exact z1_eq | (simp [zGS, zMS]; first | done | assumption) | rfl) dX8_take_1 rfl ?_
    refine r_aload_n dX8_take_4 rfl (zRv_ref _) rfl ?_
    refine r_getiv 8 2 902 lfX8_19 (by first | (simp only [zKS]; first | assumption) | assumption | exact zk_nself _ _ _ | (simp [zKS, zNS, *]; done)) rfl rfl (by first | (simp only [zGS, zMS, Nat.reduceEqDiff, OfNat.ofNat_ne_ofNat, false_and, and_false, true_and, and_true, and_self, if_true, if_false, ite_true, ite_false, reduceIte, reduceCtorEq]; first | done | assumption | rfl) | assumption | exact z2_eq | exact z1_eq | (simp [zGS, zMS]; first | done | assumption) | rfl) dX8_take_5 rfl ?_
    refine r_icmp_geN (by omega) (by omega) (r := 28) dX8_take_8 (by decide) rfl (fun c_8 => ?_) (fun c_8 => ?_)
    · exact absurd c_8 (by omega)
    · refine r_aload_n dX8_take_11 rfl (zRv_ref _) rfl ?_
      refine r_gets 8 0 900 lfX8_9 (by first | (simp only [zKS]; first | assumption) | assumption | exact zk_nself _ _ _ | (simp [zKS, zNS, *]; done)) rfl rfl (by first | (simp only [zGS, Nat.reduceEqDiff, OfNat.ofNat_ne_ofNat, false_and, and_false, true_and, and_true, and_self, if_true, if_false, ite_true, ite_false, reduceIte, reduceCtorEq]; first | done | assumption) | assumption | exact z2_eq | (simp [zGS]; first | done | assumption)) dX8_take_12 rfl ?_
      refine r_aload_n dX8_take_15 rfl (zRv_ref _) rfl ?_
      refine r_getiv 8 3 903 lfX8_22 (by first | (simp only [zKS]; first | assumption) | assumption | exact zk_nself _ _ _ | (simp [zKS, zNS, *]; done)) rfl rfl (by first | (simp only [zGS, zMS, Nat.reduceEqDiff, OfNat.ofNat_ne_ofNat, false_and, and_false, true_and, and_true, and_self, if_true, if_false, ite_true, ite_false, reduceIte, reduceCtorEq]; first | done | assumption | rfl) | assumption | exact z2_eq | exact z1_eq | (simp [zGS, zMS]; first | done | assumption) | rfl) dX8_take_16 rfl ?_
      refine r_caldv _ (by first | (simp only [zKS]; first | assumption) | assumption | exact zk_nself _ _ _ | (simp [zKS, zNS, *]; done)) rfl (by first | (rw [show zln _ _ = _ by assumption]; omega) | (simp only [zKS, *]; omega) | (simp [zKS, *]; omega)) (by omega) (by first | (simp only [zGS, zMS, Nat.reduceEqDiff, OfNat.ofNat_ne_ofNat, false_and, and_false, true_and, and_true, and_self, if_true, if_false, ite_true, ite_false, reduceIte, reduceCtorEq]; first | done | assumption | rfl) | assumption | exact z2_eq | exact z1_eq | (simp [zGS, zMS]; first | done | assumption) | rfl) dX8_take_19 rfl ?_
      refine r_iload_n dX8_take_20 rfl rfl ?_
      refine r_icmp_neN (by omega) (by omega) (r := 28) dX8_take_21 (by decide) rfl (fun c_21 => ?_) (fun c_21 => ?_)
      · refine r_iconst dX8_take_28 kc_0 rfl ?_
        refine r_istore_n (ls' := [_, _, _]) dX8_take_29 (Nat.le_of_ble_eq_true rfl) rfl rfl ?_
        refine r_iload_n dX8_take_30 rfl rfl ?_
        refine r_if_eqN (by omega) (r := 44) dX8_take_31 (by decide) rfl (fun c_31 => ?_) (fun c_31 => ?_)
        · refine r_iload_n dX8_take_44 rfl rfl ?_
          refine r_zret .boolean rfl rfl dX8_take_45 ?_
          exact ⟨by simp [hdis, c_21, zb], by simp [hdis, c_21], rfl⟩
        · exact absurd rfl c_31
      · refine r_iconst dX8_take_24 kc_1 rfl ?_
        refine r_goto (r := 29) dX8_take_25 (by decide) ?_
        refine r_istore_n (ls' := [_, _, _]) dX8_take_29 (Nat.le_of_ble_eq_true rfl) rfl rfl ?_
        refine r_iload_n dX8_take_30 rfl rfl ?_
        refine r_if_eqN (by omega) (r := 44) dX8_take_31 (by decide) rfl (fun c_31 => ?_) (fun c_31 => ?_)
        · exact absurd c_31 (by decide)
        · refine r_aload_n dX8_take_34 rfl (zRv_ref _) rfl ?_
          refine r_dup dX8_take_35 (by first | rfl | exact zcat_rf _) rfl ?_
          refine r_getiv 8 3 903 lfX8_22 (by first | (simp only [zKS]; first | assumption) | assumption | exact zk_nself _ _ _ | (simp [zKS, zNS, *]; done)) rfl rfl (by first | (simp only [zGS, zMS, Nat.reduceEqDiff, OfNat.ofNat_ne_ofNat, false_and, and_false, true_and, and_true, and_self, if_true, if_false, ite_true, ite_false, reduceIte, reduceCtorEq]; first | done | assumption | rfl) | assumption | exact z2_eq | exact z1_eq | (simp [zGS, zMS]; first | done | assumption) | rfl) dX8_take_36 rfl ?_
          refine r_iconst dX8_take_39 kc_1 rfl ?_
          refine r_iaddN dX8_take_40 rfl ?_
          refine r_puti 8 3 903 lfX8_22 (by first | (simp only [zKS]; first | assumption) | assumption | exact zk_nself _ _ _ | (simp [zKS, zNS, *]; done)) rfl rfl rfl (Or.inl rfl) dX8_take_41 rfl ?_
          refine r_iload_n dX8_take_44 rfl rfl ?_
          refine r_zret .boolean rfl rfl dX8_take_45 ?_
          exact ⟨by simp [hdis, c_21, zb], by simp [hdis, c_21], rfl⟩
