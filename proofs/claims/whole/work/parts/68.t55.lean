/-! ===== StyleDesk: its checks ===== -/
section ZX2
variable {E : ZE} {M : ZMeth} {pc : Nat} {w : ZW} {sg : ZM} {d nc ns : Nat} {Q : ZQ} {X : ZX}
theorem x_vret (hr : M.2.2.2 = none) {ls : List (Option Value)} (hd : decode M.2.1 pc = .ok (.return_, 1)) (hQ : Q none w sg) : RW E M pc ls [] w sg d nc ns (PX E Q X) := RW.px (r_vret hr hd hQ)
theorem x_iret {x : Int32} {ls : List (Option Value)} (hr : M.2.2.2 = some .int) (hd : decode M.2.1 pc = .ok (.ireturn, 1)) (hQ : Q (some (.int x)) w sg) : RW E M pc ls [.int x] w sg d nc ns (PX E Q X) := RW.px (r_iret hr hd hQ)
theorem x_zret {x : Int32} {ls : List (Option Value)} (ty : FieldType) (hr : M.2.2.2 = some ty) (hn : narrow ty (.int x) = .int x) (hd : decode M.2.1 pc = .ok (.ireturn, 1)) (hQ : Q (some (.int x)) w sg) : RW E M pc ls [.int x] w sg d nc ns (PX E Q X) := RW.px (r_zret ty hr hn hd hQ)
theorem x_fret {x : UInt32} {ls : List (Option Value)} (hr : M.2.2.2 = some .float) (hd : decode M.2.1 pc = .ok (.freturn, 1)) (hQ : Q (some (.float x)) w sg) : RW E M pc ls [.float x] w sg d nc ns (PX E Q X) := RW.px (r_fret hr hd hQ)
end ZX2
/-- a number from 0 to below n -/
def inI (k : Int32) (n : Nat) : Bool := decide (¬ k < 0) && decide (k < nI n)
theorem inI_nat {k : Int32} {n : Nat} (hn : n < 2147483648) (h : inI k n = true) : ∃ j, j < n ∧ k = nI j := by
  unfold inI at h
  rw [Bool.and_eq_true, decide_eq_true_eq, decide_eq_true_eq] at h
  obtain ⟨j, hj, rfl⟩ := nI_of h.1
  exact ⟨j, (nI_lt' hj hn).mp h.2, rfl⟩
/-- thrown, nothing changed -/
def xQ (C : String) (w : ZW) (sg : ZM) (p : Prop) : ZX := fun C' w' sg' => C' = C ∧ p ∧ sg = sg' ∧ ∃ n, w' = zskip w n
theorem sp_isElement (E : ZE) (sg : ZM) (d x n nr : Nat) (k : Int32) (w : ZW) (h : isDesk w x n nr) : CallQ E MX9_isElement [.ref x, .int k] w sg d 0 0 (fun v w' sg' => v = some (.int (zb (inI k n))) ∧ w = w' ∧ sg = sg') := by
  obtain ⟨h1, h2, h3, h4, h5, h6, h7⟩ := h
  refine CallQ.of rfl (by simp [Value.category]) (Nat.le_of_ble_eq_true rfl) ?_
  refine r_iload_n dX9_isElement_0 rfl rfl ?_
  refine r_if_lt (r := 16) dX9_isElement_1 (by decide) rfl (fun c_1 => ?_) (fun c_1 => ?_)
  · refine r_iconst dX9_isElement_16 kc_0 rfl ?_
    refine r_zret .boolean rfl rfl dX9_isElement_17 ?_
    exact ⟨by unfold inI; rw [decide_eq_false (fun q => q c_1), Bool.false_and]; rfl, rfl, rfl⟩
  · refine r_iload_n dX9_isElement_4 rfl rfl ?_
    refine r_aload_n dX9_isElement_5 rfl (zRv_ref _) rfl ?_
    refine r_getiv 9 1 1001 lfX9_15 (by first | (simp only [zKS]; first | assumption) | assumption | exact zk_nself _ _ _ | (simp [zKS, zNS, *]; done)) rfl rfl (by first | (simp only [zGS, zMS, Nat.reduceEqDiff, OfNat.ofNat_ne_ofNat, false_and, and_false, true_and, and_true, and_self, if_true, if_false, ite_true, ite_false, reduceIte, reduceCtorEq]; first | done | assumption | rfl) | assumption | exact z2_eq | exact z1_eq | (simp [zGS, zMS]; first | done | assumption) | rfl) dX9_isElement_6 rfl ?_
    refine r_icmp_ge (r := 16) dX9_isElement_9 (by decide) rfl (fun c_9 => ?_) (fun c_9 => ?_)
    · refine r_iconst dX9_isElement_16 kc_0 rfl ?_
      refine r_zret .boolean rfl rfl dX9_isElement_17 ?_
      exact ⟨by unfold inI; rw [decide_eq_false (Int32.not_lt.mpr c_9), Bool.and_false]; rfl, rfl, rfl⟩
    · refine r_iconst dX9_isElement_12 kc_1 rfl ?_
      refine r_goto (r := 17) dX9_isElement_13 (by decide) ?_
      refine r_zret .boolean rfl rfl dX9_isElement_17 ?_
      exact ⟨by unfold inI; rw [decide_eq_true c_1, decide_eq_true (Int32.not_le.mp c_9)]; rfl, rfl, rfl⟩
theorem sp_checkRule (E : ZE) (sg : ZM) (d x n nr : Nat) (hd : 6 ≤ d) (k : Int32) (w : ZW) (h : isDesk w x n nr) : CallX E MX9_checkRule [.ref x, .int k] w sg d 1 6 (fun v w' sg' => v = none ∧ inI k nr = true ∧ w = w' ∧ sg = sg') (xQ zNSE w sg (inI k nr = false)) := by
  obtain ⟨h1, h2, h3, h4, h5, h6, h7⟩ := h
  have ht : inI k nr = false → RW E MX9_checkRule 12 [some (.ref x), some (.int k)] [] w sg d 1 6 (PX E (fun v w' sg' => v = none ∧ inI k nr = true ∧ w = w' ∧ sg = sg') (xQ zNSE w sg (inI k nr = false))) := fun hf => x_throw zNSE (ik := 146) (ic := 148) rfl lxN hd (Nat.le_refl 1) (Nat.le_refl 6) dX9_checkRule_12 dX9_checkRule_15 dX9_checkRule_16 dX9_checkRule_19 (fun m => ⟨rfl, hf, rfl, m, rfl⟩)
  refine CallX.of rfl (by simp [Value.category]) (Nat.le_of_ble_eq_true rfl) ?_
  refine r_iload_n dX9_checkRule_0 rfl rfl ?_
  refine r_if_lt (r := 12) dX9_checkRule_1 (by decide) rfl (fun c_1 => ?_) (fun c_1 => ?_)
  · exact ht (by unfold inI; rw [decide_eq_false (fun q => q c_1), Bool.false_and])
  · refine r_iload_n dX9_checkRule_4 rfl rfl ?_
    refine r_aload_n dX9_checkRule_5 rfl (zRv_ref _) rfl ?_
    refine r_getiv 9 3 1003 lfX9_25 (by first | (simp only [zKS]; first | assumption) | assumption | exact zk_nself _ _ _ | (simp [zKS, zNS, *]; done)) rfl rfl (by first | (simp only [zGS, zMS, Nat.reduceEqDiff, OfNat.ofNat_ne_ofNat, false_and, and_false, true_and, and_true, and_self, if_true, if_false, ite_true, ite_false, reduceIte, reduceCtorEq]; first | done | assumption | rfl) | assumption | exact z2_eq | exact z1_eq | (simp [zGS, zMS]; first | done | assumption) | rfl) dX9_checkRule_6 rfl ?_
    refine r_icmp_lt (r := 20) dX9_checkRule_9 (by decide) rfl (fun c_9 => ?_) (fun c_9 => ?_)
    · refine x_vret rfl dX9_checkRule_20 ?_
      exact ⟨rfl, by unfold inI; rw [decide_eq_true c_1, decide_eq_true c_9]; rfl, rfl, rfl⟩
    · exact ht (by unfold inI; rw [decide_eq_false c_9, Bool.and_false])
theorem sp_checkElement (E : ZE) (sg : ZM) (d x n nr : Nat) (hd : 6 ≤ d) (k : Int32) (w : ZW) (h : isDesk w x n nr) : CallX E MX9_checkElement [.ref x, .int k] w sg d 1 6 (fun v w' sg' => v = none ∧ inI k n = true ∧ w = w' ∧ sg = sg') (xQ zNSE w sg (inI k n = false)) := by
  have h1 := h.1
  refine CallX.of rfl (by simp [Value.category]) (Nat.le_of_ble_eq_true rfl) ?_
  refine r_aload_n dX9_checkElement_0 rfl (zRv_ref _) rfl ?_
  refine r_iload_n dX9_checkElement_1 rfl rfl ?_
  refine r_callV MX9_isElement 1 (a := 1) (a' := 6) [_] lvX9_46 (Or.inl ⟨9, by decide, (by first | (simp only [zKS]; first | assumption) | assumption | exact zk_nself _ _ _ | (simp [zKS, zNS, *]; done)), rfl⟩) (sp_isElement E sg (d - 1) x n nr k w h) rfl rfl (by first | exact Nat.le_of_ble_eq_true rfl | (simp [zcat_rf, Value.category]; done)) (by omega) (by first | omega | exact Nat.le_of_eq ((Nat.add_comm _ _).trans (Nat.succ_mul _ _).symm)) (by first | omega | exact Nat.le_of_eq ((Nat.add_comm _ _).trans (Nat.succ_mul _ _).symm)) dX9_checkElement_2 rfl (fun v_ w_ sg_ hq_ => ?_)
  obtain ⟨rfl, rfl, rfl⟩ := hq_
  refine r_if_neB (r := 16) dX9_checkElement_5 (by decide) rfl (fun c_5 => ?_) (fun c_5 => ?_)
  · refine x_vret rfl dX9_checkElement_16 ?_
    exact ⟨rfl, c_5, rfl, rfl⟩
  · exact x_throw zNSE (ik := 146) (ic := 148) rfl lxN hd (Nat.le_refl 1) (Nat.le_refl 6) dX9_checkElement_8 dX9_checkElement_11 dX9_checkElement_12 dX9_checkElement_15 (fun m => ⟨rfl, c_5, rfl, m, rfl⟩)
theorem sp_checkName (E : ZE) (sg : ZM) (d x n nr m : Nat) (hd : 6 ≤ d) (k : Int32) (w : ZW) (h : isDesk w x n nr) : CallX E MX9_checkName [.ref x, .int k, .int (nI m)] w sg d 1 6 (fun v w' sg' => v = none ∧ inI k m = true ∧ w = w' ∧ sg = sg') (xQ zIAE w sg (inI k m = false)) := by
  have h1 := h.1
  have ht : inI k m = false → RW E MX9_checkName 9 [some (.ref x), some (.int k), some (.int (nI m))] [] w sg d 1 6 (PX E (fun v w' sg' => v = none ∧ inI k m = true ∧ w = w' ∧ sg = sg') (xQ zIAE w sg (inI k m = false))) := fun hf => x_throw zIAE (ik := 53) (ic := 55) rfl lxA hd (Nat.le_refl 1) (Nat.le_refl 6) dX9_checkName_9 dX9_checkName_12 dX9_checkName_13 dX9_checkName_16 (fun m => ⟨rfl, hf, rfl, m, rfl⟩)
  refine CallX.of rfl (by simp [Value.category]) (Nat.le_of_ble_eq_true rfl) ?_
  refine r_iload_n dX9_checkName_0 rfl rfl ?_
  refine r_if_lt (r := 9) dX9_checkName_1 (by decide) rfl (fun c_1 => ?_) (fun c_1 => ?_)
  · exact ht (by unfold inI; rw [decide_eq_false (fun q => q c_1), Bool.false_and])
  · refine r_iload_n dX9_checkName_4 rfl rfl ?_
    refine r_iload_n dX9_checkName_5 rfl rfl ?_
    refine r_icmp_lt (r := 17) dX9_checkName_6 (by decide) rfl (fun c_6 => ?_) (fun c_6 => ?_)
    · refine x_vret rfl dX9_checkName_17 ?_
      exact ⟨rfl, by unfold inI; rw [decide_eq_true c_1, decide_eq_true c_6]; rfl, rfl, rfl⟩
    · exact ht (by unfold inI; rw [decide_eq_false c_6, Bool.and_false])
theorem sp_adopt (E : ZE) (sg : ZM) (d e k b : Nat) (hk : k < 2147483648) (hb : b < 2147483648) (w : ZW) (h : zk w e = 3) (h1 : zi w 310 e = nI k) : CallQ E MX2_adopt [.ref e, .int (nI b)] w sg d 0 0 (fun v w' sg' => v = none ∧ w' = zsi (zsi w 310 e (nI (k ||| b))) 311 e (nI b) ∧ sg = sg') := by
  refine CallQ.of rfl (by simp [Value.category]) (Nat.le_of_ble_eq_true rfl) ?_
  refine r_aload_n dX2_adopt_0 rfl (zRv_ref _) rfl ?_
  refine r_dup dX2_adopt_1 (by first | rfl | exact zcat_rf _) rfl ?_
  refine r_getiv 2 10 310 lfX2_29 (by first | (simp only [zKS]; first | assumption) | assumption | exact zk_nself _ _ _ | (simp [zKS, zNS, *]; done)) rfl rfl (by first | (simp only [zGS, zMS, Nat.reduceEqDiff, OfNat.ofNat_ne_ofNat, false_and, and_false, true_and, and_true, and_self, if_true, if_false, ite_true, ite_false, reduceIte, reduceCtorEq]; first | done | assumption | rfl) | assumption | exact z2_eq | exact z1_eq | (simp [zGS, zMS]; first | done | assumption) | rfl) dX2_adopt_2 rfl ?_
  refine r_iload_n dX2_adopt_5 rfl rfl ?_
  refine r_ior dX2_adopt_6 rfl ?_
  refine r_puti 2 10 310 lfX2_29 (by first | (simp only [zKS]; first | assumption) | assumption | exact zk_nself _ _ _ | (simp [zKS, zNS, *]; done)) rfl rfl rfl (Or.inl rfl) dX2_adopt_7 rfl ?_
  refine r_aload_n dX2_adopt_10 rfl (zRv_ref _) rfl ?_
  refine r_iload_n dX2_adopt_11 rfl rfl ?_
  refine r_puti 2 11 311 lfX2_35 (by first | (simp only [zKS]; first | assumption) | assumption | exact zk_nself _ _ _ | (simp [zKS, zNS, *]; done)) rfl rfl rfl (Or.inl rfl) dX2_adopt_12 rfl ?_
  refine r_vret rfl dX2_adopt_15 ?_
  exact ⟨rfl, by rw [nI_or hk hb], rfl⟩
