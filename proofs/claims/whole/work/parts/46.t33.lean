/-! ===== elements as the class has them ===== -/
def isEl (w : ZW) (T : List PEl) (A : Nat → Nat) (e : Nat) : Prop := zk w (A e) = 3 ∧ True ∧ zr w 300 (A e) = (tP T e).map A ∧ zi w 301 (A e) = nI (tG T e) ∧ zi w 302 (A e) = nI (tI T e) ∧ zi w 303 (A e) = nI (tC T e) ∧ zi w 304 (A e) = nI (2 ^ e) ∧ zi w 305 (A e) = nI (abvS T e) ∧ zi w 306 (A e) = nI (befS T e) ∧ zi w 307 (A e) = nI (jusS T e) ∧ zi w 308 (A e) = nI (idxT T e) ∧ zr w 309 (A e) = some (A e + 1) ∧ zi w 310 (A e) = nI (kidS T e) ∧ zi w 311 (A e) = nI (lastS T e)
def isEls (w : ZW) (T : List PEl) (A : Nat → Nat) : Prop := wfT T ∧ ∀ e, e < T.length → isEl w T A e
theorem p31 {a e : Nat} (h : a < 2 ^ e) (he : e ≤ 24) : a < 2147483648 := Nat.lt_of_lt_of_le h (Nat.le_trans (Nat.pow_le_pow_right (by decide) he) (by decide))
theorem p2e {e : Nat} (he : e ≤ 24) : 2 ^ e < 2147483648 := Nat.lt_of_le_of_lt (Nat.pow_le_pow_right (by decide) he) (by decide)
theorem lastS_lt {T : List PEl} (h : T.length ≤ 24) (p : Nat) : lastS T p < 2147483648 := p31 (blast_le _ _) h
theorem relS_lt {T : List PEl} (hw : wfT T) {j e : Nat} (he : e < T.length) : relS T j e < 2147483648 := by
  have h24 := hw.1
  unfold relS parS jusS befS abvS
  split
  · split
    · decide
    · rename_i p hp; exact p2e (by have := hw.2.1 e p hp; omega)
  · split
    · split
      · decide
      · exact p31 (blast_le _ _) (by omega)
    · split
      · split
        · decide
        · exact p31 (bset_lt _ _) (by omega)
      · exact p31 (abvF_lt hw _ _) (by omega)
theorem sp_isLast (E : ZE) (w : ZW) (sg : ZM) (d e : Nat) (T : List PEl) (A : Nat → Nat) (hT : isEls w T A) (he : e < T.length) : CallQ E MX2_isLast [.ref (A e)] w sg d 0 0 (fun v w' sg' => v = some (.int (zb (lastB T e))) ∧ w = w' ∧ sg = sg') := by
  obtain ⟨hw, hE⟩ := hT
  obtain ⟨g0, -, g1, -, -, -, g5, -⟩ := hE e he
  refine CallQ.of rfl (by simp [Value.category]) (Nat.le_of_ble_eq_true rfl) ?_
  unfold lastB
  cases hp : tP T e with
  | none =>
    rw [hp] at g1
    have g2 : zr w 300 (A e) = none := g1
    refine r_aload_n dX2_isLast_0 rfl (zRv_ref _) rfl ?_
    refine r_getr 2 0 300 lfX2_7 (by first | (simp only [zKS]; first | assumption) | assumption | exact zk_nself _ _ _ | (simp [zKS, zNS, *]; done)) rfl rfl dX2_isLast_1 rfl ?_
    refine r_ifnull (r := 21) dX2_isLast_4 (by decide) rfl (fun c_4 => ?_) (fun a_4 c_4 => ?_)
    · refine r_iconst dX2_isLast_21 kc_1 rfl ?_
      refine r_goto (r := 26) dX2_isLast_22 (by decide) ?_
      refine r_zret .boolean rfl rfl dX2_isLast_26 ?_
      exact ⟨rfl, rfl, rfl⟩
    · rw [g2] at c_4; cases c_4
  | some p =>
    rw [hp] at g1
    have g2 : zr w 300 (A e) = some (A p) := g1
    have hpe := hw.2.1 e p hp
    have hl := hw.1
    have g3 := hE p (by omega)
    have k3 := g3.1
    have g4 := g3.2.2.2.2.2.2.2.2.2.2.2.2.2
    have q1 := lastS_lt hl p
    have q2 := p2e (e := e) (by omega)
    refine r_aload_n dX2_isLast_0 rfl (zRv_ref _) rfl ?_
    refine r_getr 2 0 300 lfX2_7 (by first | (simp only [zKS]; first | assumption) | assumption | exact zk_nself _ _ _ | (simp [zKS, zNS, *]; done)) rfl rfl dX2_isLast_1 rfl ?_
    refine r_ifnull (r := 21) dX2_isLast_4 (by decide) rfl (fun c_4 => ?_) (fun a_4 c_4 => ?_)
    · rw [g2] at c_4; cases c_4
    · rw [g2] at c_4; cases c_4 -- go
      refine r_aload_n dX2_isLast_7 rfl (zRv_ref _) rfl ?_
      refine r_gets 2 0 300 lfX2_7 (by first | (simp only [zKS]; first | assumption) | assumption | exact zk_nself _ _ _ | (simp [zKS, zNS, *]; done)) rfl rfl (by first | (simp only [zGS, Nat.reduceEqDiff, OfNat.ofNat_ne_ofNat, false_and, and_false, true_and, and_true, and_self, if_true, if_false, ite_true, ite_false, reduceIte, reduceCtorEq]; first | done | assumption) | assumption | exact z2_eq | (simp [zGS]; first | done | assumption)) dX2_isLast_8 rfl ?_
      refine r_getiv 2 11 311 lfX2_35 (by first | (simp only [zKS]; first | assumption) | assumption | exact zk_nself _ _ _ | (simp [zKS, zNS, *]; done)) rfl rfl (by first | (simp only [zGS, zMS, Nat.reduceEqDiff, OfNat.ofNat_ne_ofNat, false_and, and_false, true_and, and_true, and_self, if_true, if_false, ite_true, ite_false, reduceIte, reduceCtorEq]; first | done | assumption | rfl) | assumption | exact z2_eq | exact z1_eq | (simp [zGS, zMS]; first | done | assumption) | rfl) dX2_isLast_11 rfl ?_
      refine r_aload_n dX2_isLast_14 rfl (zRv_ref _) rfl ?_
      refine r_getiv 2 4 304 lfX2_23 (by first | (simp only [zKS]; first | assumption) | assumption | exact zk_nself _ _ _ | (simp [zKS, zNS, *]; done)) rfl rfl (by first | (simp only [zGS, zMS, Nat.reduceEqDiff, OfNat.ofNat_ne_ofNat, false_and, and_false, true_and, and_true, and_self, if_true, if_false, ite_true, ite_false, reduceIte, reduceCtorEq]; first | done | assumption | rfl) | assumption | exact z2_eq | exact z1_eq | (simp [zGS, zMS]; first | done | assumption) | rfl) dX2_isLast_15 rfl ?_
      refine r_icmp_neN (by omega) (by omega) (r := 25) dX2_isLast_18 (by decide) rfl (fun c_18 => ?_) (fun c_18 => ?_)
      · refine r_iconst dX2_isLast_25 kc_0 rfl ?_
        refine r_zret .boolean rfl rfl dX2_isLast_26 ?_
        exact ⟨by simp [zb, c_18], rfl, rfl⟩
      · refine r_iconst dX2_isLast_21 kc_1 rfl ?_
        refine r_goto (r := 26) dX2_isLast_22 (by decide) ?_
        refine r_zret .boolean rfl rfl dX2_isLast_26 ?_
        exact ⟨by simp [zb, c_18], rfl, rfl⟩
theorem relOut : ∀ c, c < 128 → ¬ (c = 43 ∨ c = 62 ∨ c = 126) → Op.lookupswitch.offset [(43, 54), (62, 35), (126, 59)] 64 (nI c).toInt = 64 := by decide +kernel
theorem sp_related (E : ZE) (w : ZW) (sg : ZM) (d e j : Nat) (hj : j < 128) (T : List PEl) (A : Nat → Nat) (hT : isEls w T A) (he : e < T.length) : CallQ E MX2_related [.ref (A e), .int (nI j)] w sg d 0 0 (fun v w' sg' => v = some (.int (nI (relS T j e))) ∧ w = w' ∧ sg = sg') := by
  obtain ⟨hw, hE⟩ := hT
  obtain ⟨g0, -, g1, -, -, -, g5, g6, g7, g8, -⟩ := hE e he
  refine CallQ.of rfl (by simp [Value.category]) (Nat.le_of_ble_eq_true rfl) ?_
  by_cases h62 : j = 62
  · subst h62
    rw [show relS T 62 e = parS T e from rfl]
    unfold parS
    cases hp : tP T e with
    | none =>
      rw [hp] at g1
      have g2 : zr w 300 (A e) = none := g1
      refine r_iload_n dX2_related_0 rfl rfl ?_
      refine r_lookup (off := 35) (r := 36) dX2_related_1 (by decide) (show Op.lookupswitch.offset [(43, 54), (62, 35), (126, 59)] 64 (nI 62).toInt = 35 by decide +kernel) (by decide) ?_
      refine r_aload_n dX2_related_36 rfl (zRv_ref _) rfl ?_
      refine r_getr 2 0 300 lfX2_7 (by first | (simp only [zKS]; first | assumption) | assumption | exact zk_nself _ _ _ | (simp [zKS, zNS, *]; done)) rfl rfl dX2_related_37 rfl ?_
      refine r_ifnonnull (r := 47) dX2_related_40 (by decide) rfl (fun c_40 => ?_) (fun a_40 c_40 => ?_)
      · refine r_iconst dX2_related_43 kc_0 rfl ?_
        refine r_goto (r := 54) dX2_related_44 (by decide) ?_
        refine r_iret rfl dX2_related_54 ?_
        exact ⟨rfl, rfl, rfl⟩
      · rw [g2] at c_40; cases c_40
    | some p =>
      rw [hp] at g1
      have g2 : zr w 300 (A e) = some (A p) := g1
      have hpe := hw.2.1 e p hp
      have g3 := hE p (by omega)
      have k3 := g3.1
      have g4 := g3.2.2.2.2.2.2.1
      refine r_iload_n dX2_related_0 rfl rfl ?_
      refine r_lookup (off := 35) (r := 36) dX2_related_1 (by decide) (show Op.lookupswitch.offset [(43, 54), (62, 35), (126, 59)] 64 (nI 62).toInt = 35 by decide +kernel) (by decide) ?_
      refine r_aload_n dX2_related_36 rfl (zRv_ref _) rfl ?_
      refine r_getr 2 0 300 lfX2_7 (by first | (simp only [zKS]; first | assumption) | assumption | exact zk_nself _ _ _ | (simp [zKS, zNS, *]; done)) rfl rfl dX2_related_37 rfl ?_
      refine r_ifnonnull (r := 47) dX2_related_40 (by decide) rfl (fun c_40 => ?_) (fun a_40 c_40 => ?_)
      · rw [g2] at c_40; cases c_40
      · rw [g2] at c_40; cases c_40 -- go
        refine r_aload_n dX2_related_47 rfl (zRv_ref _) rfl ?_
        refine r_gets 2 0 300 lfX2_7 (by first | (simp only [zKS]; first | assumption) | assumption | exact zk_nself _ _ _ | (simp [zKS, zNS, *]; done)) rfl rfl (by first | (simp only [zGS, Nat.reduceEqDiff, OfNat.ofNat_ne_ofNat, false_and, and_false, true_and, and_true, and_self, if_true, if_false, ite_true, ite_false, reduceIte, reduceCtorEq]; first | done | assumption) | assumption | exact z2_eq | (simp [zGS]; first | done | assumption)) dX2_related_48 rfl ?_
        refine r_getiv 2 4 304 lfX2_23 (by first | (simp only [zKS]; first | assumption) | assumption | exact zk_nself _ _ _ | (simp [zKS, zNS, *]; done)) rfl rfl (by first | (simp only [zGS, zMS, Nat.reduceEqDiff, OfNat.ofNat_ne_ofNat, false_and, and_false, true_and, and_true, and_self, if_true, if_false, ite_true, ite_false, reduceIte, reduceCtorEq]; first | done | assumption | rfl) | assumption | exact z2_eq | exact z1_eq | (simp [zGS, zMS]; first | done | assumption) | rfl) dX2_related_51 rfl ?_
        refine r_iret rfl dX2_related_54 ?_
        exact ⟨rfl, rfl, rfl⟩
  · by_cases h43 : j = 43
    · subst h43
      refine r_iload_n dX2_related_0 rfl rfl ?_
      refine r_lookup (off := 54) (r := 55) dX2_related_1 (by decide) (show Op.lookupswitch.offset [(43, 54), (62, 35), (126, 59)] 64 (nI 43).toInt = 54 by decide +kernel) (by decide) ?_
      refine r_aload_n dX2_related_55 rfl (zRv_ref _) rfl ?_
      refine r_getiv 2 7 307 lfX2_38 (by first | (simp only [zKS]; first | assumption) | assumption | exact zk_nself _ _ _ | (simp [zKS, zNS, *]; done)) rfl rfl (by first | (simp only [zGS, zMS, Nat.reduceEqDiff, OfNat.ofNat_ne_ofNat, false_and, and_false, true_and, and_true, and_self, if_true, if_false, ite_true, ite_false, reduceIte, reduceCtorEq]; first | done | assumption | rfl) | assumption | exact z2_eq | exact z1_eq | (simp [zGS, zMS]; first | done | assumption) | rfl) dX2_related_56 rfl ?_
      refine r_iret rfl dX2_related_59 ?_
      exact ⟨rfl, rfl, rfl⟩
    · by_cases h126 : j = 126
      · subst h126
        refine r_iload_n dX2_related_0 rfl rfl ?_
        refine r_lookup (off := 59) (r := 60) dX2_related_1 (by decide) (show Op.lookupswitch.offset [(43, 54), (62, 35), (126, 59)] 64 (nI 126).toInt = 59 by decide +kernel) (by decide) ?_
        refine r_aload_n dX2_related_60 rfl (zRv_ref _) rfl ?_
        refine r_getiv 2 6 306 lfX2_32 (by first | (simp only [zKS]; first | assumption) | assumption | exact zk_nself _ _ _ | (simp [zKS, zNS, *]; done)) rfl rfl (by first | (simp only [zGS, zMS, Nat.reduceEqDiff, OfNat.ofNat_ne_ofNat, false_and, and_false, true_and, and_true, and_self, if_true, if_false, ite_true, ite_false, reduceIte, reduceCtorEq]; first | done | assumption | rfl) | assumption | exact z2_eq | exact z1_eq | (simp [zGS, zMS]; first | done | assumption) | rfl) dX2_related_61 rfl ?_
        refine r_iret rfl dX2_related_64 ?_
        exact ⟨rfl, rfl, rfl⟩
      · rw [show relS T j e = abvS T e by unfold relS; rw [if_neg h62, if_neg h43, if_neg h126]]
        refine r_iload_n dX2_related_0 rfl rfl ?_
        refine r_lookup (off := 64) (r := 65) dX2_related_1 (by decide) (relOut j hj (by omega)) (by decide) ?_
        refine r_aload_n dX2_related_65 rfl (zRv_ref _) rfl ?_
        refine r_getiv 2 5 305 lfX2_26 (by first | (simp only [zKS]; first | assumption) | assumption | exact zk_nself _ _ _ | (simp [zKS, zNS, *]; done)) rfl rfl (by first | (simp only [zGS, zMS, Nat.reduceEqDiff, OfNat.ofNat_ne_ofNat, false_and, and_false, true_and, and_true, and_self, if_true, if_false, ite_true, ite_false, reduceIte, reduceCtorEq]; first | done | assumption | rfl) | assumption | exact z2_eq | exact z1_eq | (simp [zGS, zMS]; first | done | assumption) | rfl) dX2_related_66 rfl ?_
        refine r_iret rfl dX2_related_69 ?_
        exact ⟨rfl, rfl, rfl⟩
theorem sp_reached (E : ZE) (w : ZW) (sg : ZM) (d lo hi p : Nat) (P : PPart) (c : Int32) (hp : isPart w lo hi p P) : CallQ E MX3_isReached [.ref p, .int (c - P.2.1)] w sg d 0 0 (fun v w' sg' => v = some (.int (zb (reachI c P.2.1 P.2.2))) ∧ w = w' ∧ sg = sg') := by
  obtain ⟨-, -, g1, g2, g3, g4⟩ := hp
  refine CallQ.of rfl (by simp [Value.category]) (Nat.le_of_ble_eq_true rfl) ?_
  unfold reachI
  refine r_aload_n dX3_isReached_0 rfl (zRv_ref _) rfl ?_
  refine r_getiv 3 2 402 lfX3_16 (by first | (simp only [zKS]; first | assumption) | assumption | exact zk_nself _ _ _ | (simp [zKS, zNS, *]; done)) rfl rfl (by first | (simp only [zGS, zMS, Nat.reduceEqDiff, OfNat.ofNat_ne_ofNat, false_and, and_false, true_and, and_true, and_self, if_true, if_false, ite_true, ite_false, reduceIte, reduceCtorEq]; first | done | assumption | rfl) | assumption | exact z2_eq | exact z1_eq | (simp [zGS, zMS]; first | done | assumption) | rfl) dX3_isReached_1 rfl ?_
  refine r_if_ne (r := 19) dX3_isReached_4 (by decide) rfl (fun c_4 => ?_) (fun c_4 => ?_)
  · refine r_iload_n dX3_isReached_19 rfl rfl ?_
    refine r_if_lt (r := 36) dX3_isReached_20 (by decide) rfl (fun c_20 => ?_) (fun c_20 => ?_)
    · refine r_iconst dX3_isReached_36 kc_0 rfl ?_
      refine r_zret .boolean rfl rfl dX3_isReached_37 ?_
      refine ⟨?_, rfl, rfl⟩
      simp [zb, *]
    · refine r_iload_n dX3_isReached_23 rfl rfl ?_
      refine r_aload_n dX3_isReached_24 rfl (zRv_ref _) rfl ?_
      refine r_getiv 3 2 402 lfX3_16 (by first | (simp only [zKS]; first | assumption) | assumption | exact zk_nself _ _ _ | (simp [zKS, zNS, *]; done)) rfl rfl (by first | (simp only [zGS, zMS, Nat.reduceEqDiff, OfNat.ofNat_ne_ofNat, false_and, and_false, true_and, and_true, and_self, if_true, if_false, ite_true, ite_false, reduceIte, reduceCtorEq]; first | done | assumption | rfl) | assumption | exact z2_eq | exact z1_eq | (simp [zGS, zMS]; first | done | assumption) | rfl) dX3_isReached_25 rfl ?_
      refine r_irem dX3_isReached_28 c_4 rfl ?_
      refine r_if_ne (r := 36) dX3_isReached_29 (by decide) rfl (fun c_29 => ?_) (fun c_29 => ?_)
      · refine r_iconst dX3_isReached_36 kc_0 rfl ?_
        refine r_zret .boolean rfl rfl dX3_isReached_37 ?_
        refine ⟨?_, rfl, rfl⟩
        simp [zb, *]
      · refine r_iconst dX3_isReached_32 kc_1 rfl ?_
        refine r_goto (r := 37) dX3_isReached_33 (by decide) ?_
        refine r_zret .boolean rfl rfl dX3_isReached_37 ?_
        refine ⟨?_, rfl, rfl⟩
        simp [zb, *]
  · refine r_iload_n dX3_isReached_7 rfl rfl ?_
    refine r_if_ne (r := 15) dX3_isReached_8 (by decide) rfl (fun c_8 => ?_) (fun c_8 => ?_)
    · refine r_iconst dX3_isReached_15 kc_0 rfl ?_
      refine r_goto (r := 37) dX3_isReached_16 (by decide) ?_
      refine r_zret .boolean rfl rfl dX3_isReached_37 ?_
      refine ⟨?_, rfl, rfl⟩
      simp [zb, *]
    · refine r_iconst dX3_isReached_11 kc_1 rfl ?_
      refine r_goto (r := 37) dX3_isReached_12 (by decide) ?_
      refine r_zret .boolean rfl rfl dX3_isReached_37 ?_
      refine ⟨?_, rfl, rfl⟩
      simp [zb, *]
theorem idxT_lt {T : List PEl} {e : Nat} (he : e ≤ 24) : idxT T e < 2147483648 := by
  unfold idxT
  split
  · decide
  · have := bcnt_le (isKid T ‹_›) e
    omega
theorem sp_holds (E : ZE) (w : ZW) (sg : ZM) (d lo hi p e : Nat) (hd : 1 ≤ d) (P : PPart) (hp : isPart w lo hi p P) (hP : P.1 < 4) (T : List PEl) (A : Nat → Nat) (hT : isEls w T A) (he : e < T.length) : CallQ E MX3_holds [.ref p, .ref (A e)] w sg d 0 0 (fun v w' sg' => v = some (.int (zb (holdP T e P))) ∧ w = w' ∧ sg = sg') := by
  have hp0 := hp
  obtain ⟨-, -, g1, g2, g3, g4⟩ := hp
  have hw := hT.1
  have hl := hw.1
  obtain ⟨f0, -, f1, f2, f3, f4, f5, f6, f7, f8, f9, -⟩ := hT.2 e he
  refine CallQ.of rfl (by simp [Value.category]) (Nat.le_of_ble_eq_true rfl) ?_
  unfold holdP
  obtain ⟨k, s, t⟩ := P
  dsimp only at *
  rcases (by omega : k = 0 ∨ k = 1 ∨ k = 2 ∨ k = 3) with rfl | rfl | rfl | rfl
  · skip
    refine r_aload_n dX3_holds_0 rfl (zRv_ref _) rfl ?_
    refine r_getiv 3 0 400 lfX3_7 (by first | (simp only [zKS]; first | assumption) | assumption | exact zk_nself _ _ _ | (simp [zKS, zNS, *]; done)) rfl rfl (by first | (simp only [zGS, zMS, Nat.reduceEqDiff, OfNat.ofNat_ne_ofNat, false_and, and_false, true_and, and_true, and_self, if_true, if_false, ite_true, ite_false, reduceIte, reduceCtorEq]; first | done | assumption | rfl) | assumption | exact z2_eq | exact z1_eq | (simp [zGS, zMS]; first | done | assumption) | rfl) dX3_holds_1 rfl ?_
    refine r_tableIn (off := 28) (r := 32) dX3_holds_4 (by decide +kernel) (by decide +kernel) (by decide +kernel) (by decide) ?_
    refine r_aload_n dX3_holds_32 rfl (by first | exact zRv_ref _ | exact zRv_null | exact zRv_rf _ | assumption) rfl ?_
    refine r_getiv 2 2 302 lfX3_23 (by first | (simp only [zKS]; first | assumption) | assumption | exact zk_nself _ _ _ | (simp [zKS, zNS, *]; done)) rfl rfl (by first | (simp only [zGS, zMS, Nat.reduceEqDiff, OfNat.ofNat_ne_ofNat, false_and, and_false, true_and, and_true, and_self, if_true, if_false, ite_true, ite_false, reduceIte, reduceCtorEq]; first | done | assumption | rfl) | assumption | exact z2_eq | exact z1_eq | (simp [zGS, zMS]; first | done | assumption) | rfl) dX3_holds_33 rfl ?_
    refine r_aload_n dX3_holds_36 rfl (zRv_ref _) rfl ?_
    refine r_getiv 3 1 401 lfX3_13 (by first | (simp only [zKS]; first | assumption) | assumption | exact zk_nself _ _ _ | (simp [zKS, zNS, *]; done)) rfl rfl (by first | (simp only [zGS, zMS, Nat.reduceEqDiff, OfNat.ofNat_ne_ofNat, false_and, and_false, true_and, and_true, and_self, if_true, if_false, ite_true, ite_false, reduceIte, reduceCtorEq]; first | done | assumption | rfl) | assumption | exact z2_eq | exact z1_eq | (simp [zGS, zMS]; first | done | assumption) | rfl) dX3_holds_37 rfl ?_
    refine r_icmp_ne (r := 47) dX3_holds_40 (by decide) rfl (fun c_40 => ?_) (fun c_40 => ?_)
    · refine r_iconst dX3_holds_47 kc_0 rfl ?_
      refine r_zret .boolean rfl rfl dX3_holds_48 ?_
      refine ⟨?_, rfl, rfl⟩
      simp [zb, *]
    · refine r_iconst dX3_holds_43 kc_1 rfl ?_
      refine r_goto (r := 48) dX3_holds_44 (by decide) ?_
      refine r_zret .boolean rfl rfl dX3_holds_48 ?_
      refine ⟨?_, rfl, rfl⟩
      simp [zb, *]
  · skip
    refine r_aload_n dX3_holds_0 rfl (zRv_ref _) rfl ?_
    refine r_getiv 3 0 400 lfX3_7 (by first | (simp only [zKS]; first | assumption) | assumption | exact zk_nself _ _ _ | (simp [zKS, zNS, *]; done)) rfl rfl (by first | (simp only [zGS, zMS, Nat.reduceEqDiff, OfNat.ofNat_ne_ofNat, false_and, and_false, true_and, and_true, and_self, if_true, if_false, ite_true, ite_false, reduceIte, reduceCtorEq]; first | done | assumption | rfl) | assumption | exact z2_eq | exact z1_eq | (simp [zGS, zMS]; first | done | assumption) | rfl) dX3_holds_1 rfl ?_
    refine r_tableIn (off := 45) (r := 49) dX3_holds_4 (by decide +kernel) (by decide +kernel) (by decide +kernel) (by decide) ?_
    refine r_aload_n dX3_holds_49 rfl (by first | exact zRv_ref _ | exact zRv_null | exact zRv_rf _ | assumption) rfl ?_
    refine r_getiv 2 3 303 lfX3_28 (by first | (simp only [zKS]; first | assumption) | assumption | exact zk_nself _ _ _ | (simp [zKS, zNS, *]; done)) rfl rfl (by first | (simp only [zGS, zMS, Nat.reduceEqDiff, OfNat.ofNat_ne_ofNat, false_and, and_false, true_and, and_true, and_self, if_true, if_false, ite_true, ite_false, reduceIte, reduceCtorEq]; first | done | assumption | rfl) | assumption | exact z2_eq | exact z1_eq | (simp [zGS, zMS]; first | done | assumption) | rfl) dX3_holds_50 rfl ?_
    refine r_aload_n dX3_holds_53 rfl (zRv_ref _) rfl ?_
    refine r_getiv 3 1 401 lfX3_13 (by first | (simp only [zKS]; first | assumption) | assumption | exact zk_nself _ _ _ | (simp [zKS, zNS, *]; done)) rfl rfl (by first | (simp only [zGS, zMS, Nat.reduceEqDiff, OfNat.ofNat_ne_ofNat, false_and, and_false, true_and, and_true, and_self, if_true, if_false, ite_true, ite_false, reduceIte, reduceCtorEq]; first | done | assumption | rfl) | assumption | exact z2_eq | exact z1_eq | (simp [zGS, zMS]; first | done | assumption) | rfl) dX3_holds_54 rfl ?_
    refine r_iand dX3_holds_57 rfl ?_
    refine r_if_eq (r := 65) dX3_holds_58 (by decide) rfl (fun c_58 => ?_) (fun c_58 => ?_)
    · refine r_iconst dX3_holds_65 kc_0 rfl ?_
      refine r_zret .boolean rfl rfl dX3_holds_66 ?_
      refine ⟨?_, rfl, rfl⟩
      simp [zb, *]
    · refine r_iconst dX3_holds_61 kc_1 rfl ?_
      refine r_goto (r := 66) dX3_holds_62 (by decide) ?_
      refine r_zret .boolean rfl rfl dX3_holds_66 ?_
      refine ⟨?_, rfl, rfl⟩
      simp [zb, *]
  · skip
    refine r_aload_n dX3_holds_0 rfl (zRv_ref _) rfl ?_
    refine r_getiv 3 0 400 lfX3_7 (by first | (simp only [zKS]; first | assumption) | assumption | exact zk_nself _ _ _ | (simp [zKS, zNS, *]; done)) rfl rfl (by first | (simp only [zGS, zMS, Nat.reduceEqDiff, OfNat.ofNat_ne_ofNat, false_and, and_false, true_and, and_true, and_self, if_true, if_false, ite_true, ite_false, reduceIte, reduceCtorEq]; first | done | assumption | rfl) | assumption | exact z2_eq | exact z1_eq | (simp [zGS, zMS]; first | done | assumption) | rfl) dX3_holds_1 rfl ?_
    refine r_tableIn (off := 63) (r := 67) dX3_holds_4 (by decide +kernel) (by decide +kernel) (by decide +kernel) (by decide) ?_
    refine r_aload_n dX3_holds_67 rfl (by first | exact zRv_ref _ | exact zRv_null | exact zRv_rf _ | assumption) rfl ?_
    refine r_callV MX2_isLast 0 [] lvX3_31 (Or.inl ⟨2, by decide, (by first | (simp only [zKS]; first | assumption) | assumption | exact zk_nself _ _ _ | (simp [zKS, zNS, *]; done)), rfl⟩) (sp_isLast E w sg (d - 1) e T A hT he) rfl rfl (by first | exact Nat.le_of_ble_eq_true rfl | (simp [zcat_rf, Value.category]; done)) (by omega) (Nat.le_of_eq (Nat.zero_add _)) (Nat.le_of_eq (Nat.zero_add _)) dX3_holds_68 rfl (fun v_ w_ sg_ hq_ => ?_)
    obtain ⟨rfl, rfl, rfl⟩ := hq_
    refine r_zret .boolean rfl (zb_nar _) dX3_holds_71 ?_
    exact ⟨rfl, rfl, rfl⟩
  · skip
    refine r_aload_n dX3_holds_0 rfl (zRv_ref _) rfl ?_
    refine r_getiv 3 0 400 lfX3_7 (by first | (simp only [zKS]; first | assumption) | assumption | exact zk_nself _ _ _ | (simp [zKS, zNS, *]; done)) rfl rfl (by first | (simp only [zGS, zMS, Nat.reduceEqDiff, OfNat.ofNat_ne_ofNat, false_and, and_false, true_and, and_true, and_self, if_true, if_false, ite_true, ite_false, reduceIte, reduceCtorEq]; first | done | assumption | rfl) | assumption | exact z2_eq | exact z1_eq | (simp [zGS, zMS]; first | done | assumption) | rfl) dX3_holds_1 rfl ?_
    refine r_tableOut (r := 72) dX3_holds_4 (by decide +kernel) (by decide) ?_
    refine r_aload_n dX3_holds_72 rfl (zRv_ref _) rfl ?_
    refine r_aload_n dX3_holds_73 rfl (by first | exact zRv_ref _ | exact zRv_null | exact zRv_rf _ | assumption) rfl ?_
    refine r_getiv 2 8 308 lfX3_35 (by first | (simp only [zKS]; first | assumption) | assumption | exact zk_nself _ _ _ | (simp [zKS, zNS, *]; done)) rfl rfl (by first | (simp only [zGS, zMS, Nat.reduceEqDiff, OfNat.ofNat_ne_ofNat, false_and, and_false, true_and, and_true, and_self, if_true, if_false, ite_true, ite_false, reduceIte, reduceCtorEq]; first | done | assumption | rfl) | assumption | exact z2_eq | exact z1_eq | (simp [zGS, zMS]; first | done | assumption) | rfl) dX3_holds_74 rfl ?_
    refine r_aload_n dX3_holds_77 rfl (zRv_ref _) rfl ?_
    refine r_getiv 3 1 401 lfX3_13 (by first | (simp only [zKS]; first | assumption) | assumption | exact zk_nself _ _ _ | (simp [zKS, zNS, *]; done)) rfl rfl (by first | (simp only [zGS, zMS, Nat.reduceEqDiff, OfNat.ofNat_ne_ofNat, false_and, and_false, true_and, and_true, and_self, if_true, if_false, ite_true, ite_false, reduceIte, reduceCtorEq]; first | done | assumption | rfl) | assumption | exact z2_eq | exact z1_eq | (simp [zGS, zMS]; first | done | assumption) | rfl) dX3_holds_78 rfl ?_
    refine r_isub dX3_holds_81 rfl ?_
    refine r_callV MX3_isReached 1 [_] lvX3_38 (Or.inl ⟨3, by decide, (by first | (simp only [zKS]; first | assumption) | assumption | exact zk_nself _ _ _ | (simp [zKS, zNS, *]; done)), rfl⟩) (sp_reached E w sg (d - 1) lo hi p (3, s, t) (nI (idxT T e)) hp0) rfl rfl (by first | exact Nat.le_of_ble_eq_true rfl | (simp [zcat_rf, Value.category]; done)) (by omega) (Nat.le_of_eq (Nat.zero_add _)) (Nat.le_of_eq (Nat.zero_add _)) dX3_holds_82 rfl (fun v_ w_ sg_ hq_ => ?_)
    obtain ⟨rfl, rfl, rfl⟩ := hq_
    refine r_zret .boolean rfl (zb_nar _) dX3_holds_85 ?_
    exact ⟨rfl, rfl, rfl⟩
