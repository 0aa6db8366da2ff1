/-! ===== element ===== -/
def okP (T : List PEl) (p : Int32) : Bool := if T.length = 0 then decide (p = -1) else inI p T.length
def okN (t i : Int32) : Bool := lttI t && (decide (i = 0) || lttI i)
def okCl (c : Int32) : Bool := decide (¬ c < 0) && decide (¬ nI 255 < c)
def okEl (T : List PEl) (p t i c : Int32) : Bool := (okP T p && okN t i) && okCl c
def newV (p t i c : Int32) : PEl := (if p = -1 then none else some (ixD p), ixD t, ixD i, ixD c)
def elQ (sg : ZM) (x : Nat) (T : List PEl) (Rs : List PRule) (B : List Nat) (p t i c : Int32) : ZQ := fun v w' sg' => (okEl T p t i c = true ∧ T.length ≠ 24) ∧ v = some (.int (nI T.length)) ∧ dskI w' x (T ++ [newV p t i c]) Rs B ∧ sg = sg'
def elX (sg : ZM) (x : Nat) (T : List PEl) (Rs : List PRule) (B : List Nat) (p t i c : Int32) : ZX := fun C w' sg' => (C = zIAE ∧ okEl T p t i c = false ∨ C = zISE ∧ okEl T p t i c = true ∧ T.length = 24) ∧ dskI w' x T Rs B ∧ sg = sg'
theorem rel_100 (E : ZE) (sg : ZM) (d : Nat) (hd : 7 ≤ d) (x : Nat) (p t i c : Int32) (T : List PEl) (Rs : List PRule) (B : List Nat) (w : ZW) (h : dskI w x T Rs B) (ho : okEl T p t i c = true) (h24 : T.length ≠ 24) (x5 x6 : Option Value) : RW E MX9_element 100 [some (.ref x), some (.int p), some (.int t), some (.int i), some (.int c), x5, x6, none, none] [] w sg d 9 70 (PX E (elQ sg x T Rs B p t i c) (elX sg x T Rs B p t i c)) := by
  have h0 := ho
  unfold okEl okN okCl at h0
  rw [Bool.and_eq_true, Bool.and_eq_true, Bool.and_eq_true, Bool.and_eq_true, decide_eq_true_eq, decide_eq_true_eq] at h0
  obtain ⟨⟨h1, h2, h3⟩, h4, h5⟩ := h0
  obtain ⟨a, ha, rfl⟩ := lttI_n h2
  have h6 : ∃ b, b < 128 ∧ i = nI b := by
    rw [Bool.or_eq_true, decide_eq_true_eq] at h3
    rcases h3 with h3 | h3
    · exact ⟨0, by decide, h3⟩
    · exact lttI_n h3
  obtain ⟨b, hb, rfl⟩ := h6
  obtain ⟨c, hc, rfl⟩ := nI_of h4
  have hc2 : c < 256 := by
    rw [nI_lt' (by decide) hc] at h5
    omega
  have hT24 : T.length ≤ 24 := by
    obtain ⟨-, -, -, A, Lo, Bk, DC, RG, K, hE, -⟩ := id h
    exact hE.1.2.2.1.1.1
  unfold okP at h1
  by_cases hz : T.length = 0
  · rw [if_pos hz, decide_eq_true_eq] at h1
    subst h1
    refine rel_r E sg d hd x a b c ha hb hc2 T Rs B w h hz _ _ (fun w' h' => ⟨⟨ho, h24⟩, rfl, ?_, rfl⟩) x5 x6
    have e1 : newV (-1) (nI a) (nI b) (nI c) = (none, a, b, c) := by
      unfold newV
      rw [if_pos rfl, ixD_n (by omega), ixD_n (by omega), ixD_n (by omega)]
    rw [e1]
    exact h'
  · rw [if_neg hz] at h1
    obtain ⟨q, hq, rfl⟩ := inI_nat (by omega) h1
    refine rel_c E sg d hd x q a b c ha hb hc2 T Rs B w h hq (by omega) _ _ (fun w' h' => ⟨⟨ho, h24⟩, rfl, ?_, rfl⟩) x5 x6
    have hneg : nI q ≠ -1 := fun z => by
      have h2 := congrArg (fun y : Int32 => y.toBitVec.toNat) z
      rw [nI_bv (by omega)] at h2
      have h3 : ((-1 : Int32)).toBitVec.toNat = 4294967295 := by decide
      omega
    have e1 : newV (nI q) (nI a) (nI b) (nI c) = (some q, a, b, c) := by
      unfold newV
      rw [if_neg hneg, ixD_n (by omega), ixD_n (by omega), ixD_n (by omega), ixD_n (by omega)]
    rw [e1]
    exact h'
theorem rel_52 (E : ZE) (sg : ZM) (d : Nat) (hd : 7 ≤ d) (x : Nat) (p t i c : Int32) (T : List PEl) (Rs : List PRule) (B : List Nat) (w : ZW) (h : dskI w x T Rs B) (pl nm : Bool) (h1 : pl = okP T p) (h2 : nm = okN t i) : RW E MX9_element 52 [some (.ref x), some (.int p), some (.int t), some (.int i), some (.int c), some (.int (zb pl)), some (.int (zb nm)), none, none] [] w sg d 9 70 (PX E (elQ sg x T Rs B p t i c) (elX sg x T Rs B p t i c)) := by
  obtain ⟨k1, k2, k3, k4, k5, k6, k7⟩ := h.desk
  have hT24 : T.length ≤ 24 := by
    obtain ⟨-, -, -, A, Lo, Bk, DC, RG, K, hE, -⟩ := id h
    exact hE.1.2.2.1.1.1
  have hbad : okEl T p t i c = false → ∀ x5 x6 x7 x8, RW E MX9_element 75 [some (.ref x), some (.int p), some (.int t), some (.int i), some (.int c), x5, x6, x7, x8] [] w sg d 9 70 (PX E (elQ sg x T Rs B p t i c) (elX sg x T Rs B p t i c)) := fun hf x5 x6 x7 x8 => x_throw zIAE (ik := 53) (ic := 55) rfl lxA (by omega) (by decide) (by decide) dX9_element_75 dX9_element_78 dX9_element_79 dX9_element_82 (fun m => ⟨Or.inl ⟨rfl, hf⟩, h.skip m, rfl⟩)
  have hok : okEl T p t i c = ((pl && nm) && okCl c) := by unfold okEl; rw [h1, h2]
  refine r_iload dX9_element_52 rfl rfl ?_
  refine r_if_eqB (r := 75) dX9_element_54 (by decide) rfl (fun c_54 => ?_) (fun c_54 => ?_)
  · exact hbad (by rw [hok, c_54]; rfl) _ _ _ _
  · refine r_iload dX9_element_57 rfl rfl ?_
    refine r_if_eqB (r := 75) dX9_element_59 (by decide) rfl (fun c_59 => ?_) (fun c_59 => ?_)
    · exact hbad (by rw [hok, c_59, Bool.and_false]; rfl) _ _ _ _
    · refine r_iload dX9_element_62 rfl rfl ?_
      refine r_if_lt (r := 75) dX9_element_64 (by decide) rfl (fun c_64 => ?_) (fun c_64 => ?_)
      · exact hbad (by rw [hok]; unfold okCl; rw [decide_eq_false (fun q => q c_64), Bool.false_and, Bool.and_false]) _ _ _ _
      · refine r_iload dX9_element_67 rfl rfl ?_
        refine r_sipush dX9_element_69 ks_255 rfl ?_
        refine r_icmp_le (r := 83) dX9_element_72 (by decide) rfl (fun c_72 => ?_) (fun c_72 => ?_)
        · refine r_aload_n dX9_element_83 rfl (zRv_ref _) rfl ?_
          refine r_getiv 9 1 1001 lfX9_15 (by first | (simp only [zKS]; first | assumption) | assumption | exact zk_nself _ _ _ | (simp [zKS, zNS, *]; done)) rfl rfl (by first | (simp only [zGS, zMS, Nat.reduceEqDiff, OfNat.ofNat_ne_ofNat, false_and, and_false, true_and, and_true, and_self, if_true, if_false, ite_true, ite_false, reduceIte, reduceCtorEq]; first | done | assumption | rfl) | assumption | exact z2_eq | exact z1_eq | (simp [zGS, zMS]; first | done | assumption) | rfl) dX9_element_84 rfl ?_
          refine r_bipush dX9_element_87 kb_24 rfl ?_
          refine r_icmp_neN (by omega) (by omega) (r := 100) dX9_element_89 (by decide) rfl (fun c_89 => ?_) (fun c_89 => ?_)
          · exact rel_100 E sg d hd x p t i c T Rs B w h (by rw [hok, c_54, c_59]; unfold okCl; rw [decide_eq_true (p := ¬ c < 0) c_64, decide_eq_true (p := ¬ nI 255 < c) (Int32.not_lt.mpr c_72)]; rfl) c_89 _ _
          · exact x_throw zISE (ik := 56) (ic := 58) rfl lxS (by omega) (by decide) (by decide) dX9_element_92 dX9_element_95 dX9_element_96 dX9_element_99 (fun m => ⟨Or.inr ⟨rfl, by rw [hok, c_54, c_59]; unfold okCl; rw [decide_eq_true (p := ¬ c < 0) c_64, decide_eq_true (p := ¬ nI 255 < c) (Int32.not_lt.mpr c_72)]; rfl, c_89⟩, h.skip m, rfl⟩)
        · exact hbad (by rw [hok]; unfold okCl; rw [decide_eq_false (p := ¬ nI 255 < c) (fun q => c_72 (Int32.not_lt.mp q)), Bool.and_false, Bool.and_false]) _ _ _ _
theorem rel_25 (E : ZE) (sg : ZM) (d : Nat) (hd : 7 ≤ d) (x : Nat) (p t i c : Int32) (T : List PEl) (Rs : List PRule) (B : List Nat) (w : ZW) (h : dskI w x T Rs B) (pl : Bool) (h1 : pl = okP T p) : RW E MX9_element 25 [some (.ref x), some (.int p), some (.int t), some (.int i), some (.int c), none, none, none, none] [.int (zb pl)] w sg d 9 70 (PX E (elQ sg x T Rs B p t i c) (elX sg x T Rs B p t i c)) := by
  have h52 := rel_52 E sg d hd x p t i c T Rs B w h pl
  refine r_istore (ls' := [_, _, _, _, _, _, _, _, _]) dX9_element_25 (Nat.le_of_ble_eq_true rfl) rfl rfl ?_
  refine r_iload_n dX9_element_27 rfl rfl ?_
  refine r_callS MX9_isLetter 1 (a := 9) (a' := 70) [_] lsX9_50 (sp_lttI E sg (d - 1) t w) rfl rfl (by first | exact Nat.le_of_ble_eq_true rfl | (simp [zcat_rf, Value.category]; done)) (by omega) (by first | omega | exact Nat.le_of_eq ((Nat.add_comm _ _).trans (Nat.succ_mul _ _).symm)) (by first | omega | exact Nat.le_of_eq ((Nat.add_comm _ _).trans (Nat.succ_mul _ _).symm)) dX9_element_28 rfl (fun v_ w_ sg_ hq_ => ?_)
  obtain ⟨rfl, rfl, rfl⟩ := hq_
  refine r_if_eqB (r := 49) dX9_element_31 (by decide) rfl (fun c_31 => ?_) (fun c_31 => ?_)
  · refine r_iconst dX9_element_49 kc_0 rfl ?_
    refine r_istore (ls' := [_, _, _, _, _, _, _, _, _]) dX9_element_50 (Nat.le_of_ble_eq_true rfl) rfl rfl ?_
    exact h52 false h1 (by unfold okN; rw [c_31, Bool.false_and])
  · refine r_iload_n dX9_element_34 rfl rfl ?_
    refine r_if_eq (r := 45) dX9_element_35 (by decide) rfl (fun c_35 => ?_) (fun c_35 => ?_)
    · refine r_iconst dX9_element_45 kc_1 rfl ?_
      refine r_goto (r := 50) dX9_element_46 (by decide) ?_
      refine r_istore (ls' := [_, _, _, _, _, _, _, _, _]) dX9_element_50 (Nat.le_of_ble_eq_true rfl) rfl rfl ?_
      exact h52 true h1 (by unfold okN; rw [c_31, decide_eq_true c_35]; rfl)
    · refine r_iload_n dX9_element_38 rfl rfl ?_
      refine r_callS MX9_isLetter 1 (a := 9) (a' := 70) [_] lsX9_50 (sp_lttI E sg (d - 1) i w) rfl rfl (by first | exact Nat.le_of_ble_eq_true rfl | (simp [zcat_rf, Value.category]; done)) (by omega) (by first | omega | exact Nat.le_of_eq ((Nat.add_comm _ _).trans (Nat.succ_mul _ _).symm)) (by first | omega | exact Nat.le_of_eq ((Nat.add_comm _ _).trans (Nat.succ_mul _ _).symm)) dX9_element_39 rfl (fun v_ w_ sg_ hq_ => ?_)
      obtain ⟨rfl, rfl, rfl⟩ := hq_
      refine r_if_eqB (r := 49) dX9_element_42 (by decide) rfl (fun c_42 => ?_) (fun c_42 => ?_)
      · refine r_iconst dX9_element_49 kc_0 rfl ?_
        refine r_istore (ls' := [_, _, _, _, _, _, _, _, _]) dX9_element_50 (Nat.le_of_ble_eq_true rfl) rfl rfl ?_
        exact h52 false h1 (by unfold okN; rw [c_42, decide_eq_false c_35, Bool.or_false, Bool.and_false])
      · refine r_iconst dX9_element_45 kc_1 rfl ?_
        refine r_goto (r := 50) dX9_element_46 (by decide) ?_
        refine r_istore (ls' := [_, _, _, _, _, _, _, _, _]) dX9_element_50 (Nat.le_of_ble_eq_true rfl) rfl rfl ?_
        exact h52 true h1 (by unfold okN; rw [c_31, c_42, Bool.or_true]; rfl)
theorem sp_element (E : ZE) (sg : ZM) (d : Nat) (hd : 7 ≤ d) (x : Nat) (p t i c : Int32) (T : List PEl) (Rs : List PRule) (B : List Nat) (w : ZW) (h : dskI w x T Rs B) : CallX E MX9_element [.ref x, .int p, .int t, .int i, .int c] w sg d 9 70 (elQ sg x T Rs B p t i c) (elX sg x T Rs B p t i c) := by
  have hD := h.desk
  obtain ⟨k1, k2, k3, k4, k5, k6, k7⟩ := id hD
  have hT24 : T.length ≤ 24 := by
    obtain ⟨-, -, -, A, Lo, Bk, DC, RG, K, hE, -⟩ := id h
    exact hE.1.2.2.1.1.1
  have h25 := rel_25 E sg d hd x p t i c T Rs B w h
  refine CallX.of rfl (by simp [Value.category]) (Nat.le_of_ble_eq_true rfl) ?_
  refine r_aload_n dX9_element_0 rfl (zRv_ref _) rfl ?_
  refine r_getiv 9 1 1001 lfX9_15 (by first | (simp only [zKS]; first | assumption) | assumption | exact zk_nself _ _ _ | (simp [zKS, zNS, *]; done)) rfl rfl (by first | (simp only [zGS, zMS, Nat.reduceEqDiff, OfNat.ofNat_ne_ofNat, false_and, and_false, true_and, and_true, and_self, if_true, if_false, ite_true, ite_false, reduceIte, reduceCtorEq]; first | done | assumption | rfl) | assumption | exact z2_eq | exact z1_eq | (simp [zGS, zMS]; first | done | assumption) | rfl) dX9_element_1 rfl ?_
  refine r_if_neN (by omega) (r := 20) dX9_element_4 (by decide) rfl (fun c_4 => ?_) (fun c_4 => ?_)
  · refine r_aload_n dX9_element_20 rfl (zRv_ref _) rfl ?_
    refine r_iload_n dX9_element_21 rfl rfl ?_
    refine r_callV MX9_isElement 1 (a := 9) (a' := 70) [_] lvX9_46 (Or.inl ⟨9, by decide, (by first | (simp only [zKS]; first | assumption) | assumption | exact zk_nself _ _ _ | (simp [zKS, zNS, *]; done)), rfl⟩) (sp_isElement E sg (d - 1) x T.length Rs.length p w hD) rfl rfl (by first | exact Nat.le_of_ble_eq_true rfl | (simp [zcat_rf, Value.category]; done)) (by omega) (by first | omega | exact Nat.le_of_eq ((Nat.add_comm _ _).trans (Nat.succ_mul _ _).symm)) (by first | omega | exact Nat.le_of_eq ((Nat.add_comm _ _).trans (Nat.succ_mul _ _).symm)) dX9_element_22 rfl (fun v_ w_ sg_ hq_ => ?_)
    obtain ⟨rfl, rfl, rfl⟩ := hq_
    exact h25 _ (by unfold okP; rw [if_neg c_4])
  · refine r_iload_n dX9_element_7 rfl rfl ?_
    refine r_iconst dX9_element_8 kc_m1 rfl ?_
    refine r_icmp_ne (r := 16) dX9_element_9 (by decide) rfl (fun c_9 => ?_) (fun c_9 => ?_)
    · refine r_iconst dX9_element_16 kc_0 rfl ?_
      refine r_goto (r := 25) dX9_element_17 (by decide) ?_
      exact h25 false (by unfold okP; rw [if_pos c_4, decide_eq_false c_9])
    · refine r_iconst dX9_element_12 kc_1 rfl ?_
      refine r_goto (r := 25) dX9_element_13 (by decide) ?_
      exact h25 true (by unfold okP; rw [if_pos c_4, decide_eq_true c_9])
