/-! ===== matches ===== -/
def readM (B : List Nat) : Option (List (List (Nat × PComp))) := match pSels B with
  | some (ls, []) => some ls
  | _ => none
def mtD (T : List PEl) (ls : List (List (Nat × PComp))) (e : Int32) : Bool := (msS T ls 0).testBit (ixD e)
def mtQ (sg : ZM) (x : Nat) (T : List PEl) (Rs : List PRule) (B : List Nat) (e : Int32) : ZQ := fun v w' sg' => inI e T.length = true ∧ (∃ ls, readM B = some ls ∧ v = some (.int (zb (mtD T ls e)))) ∧ dskI w' x T Rs [] ∧ sg = sg'
def mtX (sg : ZM) (x : Nat) (T : List PEl) (Rs : List PRule) (B : List Nat) (e : Int32) : ZX := fun C w' sg' => (C = zNSE ∧ inI e T.length = false ∨ C = zIAE ∧ inI e T.length = true ∧ readM B = none) ∧ dskI w' x T Rs [] ∧ sg = sg'
theorem rmt_83 (E : ZE) (sg : ZM) (d : Nat) (x : Nat) (e : Int32) (T : List PEl) (Rs : List PRule) (B : List Nat) (ls : List (List (Nat × PComp))) (hB : readM B = some ls) (he : inI e T.length = true) (acc : Nat) (ha : acc < 2147483648) (hacc : acc = msS T ls 0) (w : ZW) (hD : dskI w x T Rs []) (x2 : Option Value) : RW E MX9_matches 83 [some (.ref x), some (.int e), x2, some (.int (nI acc)), some .null] [] w sg d 0 0 (PX E (mtQ sg x T Rs B e) (mtX sg x T Rs B e)) := by
  obtain ⟨k1, k2, k3, k4, k5, k6, k7⟩ := hD.desk
  obtain ⟨-, -, -, A, Lo, Bk, DC, RG, K9, hE, -⟩ := id hD
  have hT := hE.1.2.2.1
  have hA := hE.1.2.2.2.1
  have h24 := hT.1.1
  obtain ⟨i, hi, rfl⟩ := inI_nat (by omega) he
  have el := hT.2 i hi
  have n1 := el.1
  have n2 : zi w 304 (A i) = nI (2 ^ i) := el.2.2.2.2.2.2.1
  have hvb : 2 ^ i < 16777216 := Nat.lt_of_lt_of_le (Nat.pow_lt_pow_right (by decide) (show i < 24 by omega)) (p24 (Nat.le_refl 24))
  have hbit : mtD T ls (nI i) = acc.testBit i := by unfold mtD; rw [ixD_n (by omega), ← hacc]
  have hm := bmeet_pow (a := acc) (i := i)
  have hand : acc &&& 2 ^ i < 2147483648 := Nat.lt_of_le_of_lt Nat.and_le_left ha
  have hz : nI (acc &&& 2 ^ i) = 0 ↔ acc &&& 2 ^ i = 0 := ⟨fun q => by
    have h9 := congrArg (fun y : Int32 => y.toBitVec.toNat) q
    rw [nI_bv hand] at h9
    exact h9, fun q => by rw [q]; rfl⟩
  refine r_iload_n dX9_matches_83 rfl rfl ?_
  refine r_aload_n dX9_matches_84 rfl (zRv_ref _) rfl ?_
  refine r_gets 9 0 1000 lfX9_11 (by first | (simp only [zKS]; first | assumption) | assumption | exact zk_nself _ _ _ | (simp [zKS, zNS, *]; done)) rfl rfl (by first | (simp only [zGS, Nat.reduceEqDiff, OfNat.ofNat_ne_ofNat, false_and, and_false, true_and, and_true, and_self, if_true, if_false, ite_true, ite_false, reduceIte, reduceCtorEq]; first | done | assumption) | assumption | exact z2_eq | (simp [zGS]; first | done | assumption)) dX9_matches_85 rfl ?_
  refine r_iload_n dX9_matches_88 rfl rfl ?_
  refine r_aals7 i (hA.2.2 i hi) hA.1 rfl (by rw [hA.2.1]; omega) (by omega) dX9_matches_89 rfl ?_
  refine r_getiv 2 4 304 lfX9_62 (by first | (simp only [zKS]; first | assumption) | assumption | exact zk_nself _ _ _ | (simp [zKS, zNS, *]; done)) rfl rfl (by first | (simp only [zGS, zMS, Nat.reduceEqDiff, OfNat.ofNat_ne_ofNat, false_and, and_false, true_and, and_true, and_self, if_true, if_false, ite_true, ite_false, reduceIte, reduceCtorEq]; first | done | assumption | rfl) | assumption | exact z2_eq | exact z1_eq | (simp [zGS, zMS]; first | done | assumption) | rfl) dX9_matches_90 rfl ?_
  refine r_iand dX9_matches_93 rfl ?_
  rw [nI_and ha (by omega)]
  refine r_if_eq (r := 101) dX9_matches_94 (by decide) rfl (fun c_94 => ?_) (fun c_94 => ?_)
  · refine r_iconst dX9_matches_101 kc_0 rfl ?_
    refine x_zret .boolean rfl rfl dX9_matches_102 ?_
    refine ⟨he, ⟨ls, hB, ?_⟩, hD, rfl⟩
    rw [hbit, ← hm]
    unfold bmeet
    rw [decide_eq_true (hz.mp c_94)]
    rfl
  · refine r_iconst dX9_matches_97 kc_1 rfl ?_
    refine r_goto (r := 102) dX9_matches_98 (by decide) ?_
    refine x_zret .boolean rfl rfl dX9_matches_102 ?_
    refine ⟨he, ⟨ls, hB, ?_⟩, hD, rfl⟩
    rw [hbit, ← hm]
    unfold bmeet
    rw [decide_eq_false (fun q => c_94 (hz.mpr q))]
    rfl
theorem rm_bad (E : ZE) (sg : ZM) (d : Nat) (hd : 12 ≤ d) (x : Nat) (e : Int32) (T : List PEl) (Rs : List PRule) (B : List Nat) (he : inI e T.length = true) (hf : readM B = none) (w2 : ZW) (hD2 : dskI w2 x T Rs []) (x2 x3 x4 : Option Value) : RW E MX9_matches 34 [some (.ref x), some (.int e), x2, x3, x4] [] w2 sg d 1 6 (PX E (mtQ sg x T Rs B e) (mtX sg x T Rs B e)) := x_throw zIAE (ik := 53) (ic := 55) rfl lxA (by omega) (by decide) (by decide) dX9_matches_34 dX9_matches_37 dX9_matches_38 dX9_matches_41 (fun m => ⟨Or.inr ⟨rfl, he, hf⟩, hD2.skip m, rfl⟩)
theorem rm_19n (E : ZE) (sg : ZM) (d : Nat) (hd : 12 ≤ d) (x : Nat) (e : Int32) (T : List PEl) (Rs : List PRule) (B : List Nat) (he : inI e T.length = true) (hf : readM B = none) (w2 : ZW) (hD2 : dskI w2 x T Rs []) : RW E MX9_matches 19 [some (.ref x), some (.int e), none, none, none] [.null] w2 sg d 1 6 (PX E (mtQ sg x T Rs B e) (mtX sg x T Rs B e)) := by
  refine r_astore_n (ls' := [_, _, _, _, _]) dX9_matches_19 (Nat.le_of_ble_eq_true rfl) (by first | exact zRv_ref _ | exact zRv_null | exact zRv_rf _ | assumption) rfl rfl ?_
  refine r_aload_n dX9_matches_20 rfl (by first | exact zRv_ref _ | exact zRv_null | exact zRv_rf _ | assumption) rfl ?_
  refine r_ifnullZ (r := 34) dX9_matches_21 (by decide) rfl (fun c_21 => ?_) (fun a_21 c_21 => ?_)
  · exact rm_bad E sg d hd x e T Rs B he hf w2 hD2 _ _ _
  · cases c_21
theorem rm_19s (E : ZE) (sg : ZM) (d : Nat) (hd : 12 ≤ d) (x f lo hi : Nat) (e : Int32) (T : List PEl) (Rs : List PRule) (B : List Nat) (he : inI e T.length = true) (ls : List (List (Nat × PComp))) (r : List Nat) (hp : pSels B = some (ls, r)) (w1 w2 : ZW) (hD1 : dskI w1 x T Rs []) (hr : rdI w1 w2 x) (hlo : zsz w1 ≤ lo) (hs : Seg (isSl w2 lo hi) w2 703 (some f) ls none) (hn : TBn w2 (x + 3) (x + 4) (x + 5) (x + 6) r) : RW E MX9_matches 19 [some (.ref x), some (.int e), none, none, none] [.ref f] w2 sg d 1 6 (PX E (mtQ sg x T Rs B e) (mtX sg x T Rs B e)) := by
  have hD2 := hr.d hD1
  obtain ⟨k1, k2, k3, k4, k5, k6, k7⟩ := hD2.desk
  have hk3 : zk w2 (x + 3) = 9 := hD2.1.2.1.1
  obtain ⟨-, ss, hm⟩ := hn
  cases r with
  | nil =>
    have hB : readM B = some ls := by unfold readM; rw [hp]
    refine r_astore_n (ls' := [_, _, _, _, _]) dX9_matches_19 (Nat.le_of_ble_eq_true rfl) (by first | exact zRv_ref _ | exact zRv_null | exact zRv_rf _ | assumption) rfl rfl ?_
    refine r_aload_n dX9_matches_20 rfl (by first | exact zRv_ref _ | exact zRv_null | exact zRv_rf _ | assumption) rfl ?_
    refine r_ifnullR (r := 34) dX9_matches_21 (by decide) rfl (fun c_21 => ?_) (fun a_21 c_21 => ?_)
    · cases c_21
    · refine r_aload_n dX9_matches_24 rfl (zRv_ref _) rfl ?_
      refine r_gets 9 4 1004 lfX9_31 (by first | (simp only [zKS]; first | assumption) | assumption | exact zk_nself _ _ _ | (simp [zKS, zNS, *]; done)) rfl rfl (by first | (simp only [zGS, Nat.reduceEqDiff, OfNat.ofNat_ne_ofNat, false_and, and_false, true_and, and_true, and_self, if_true, if_false, ite_true, ite_false, reduceIte, reduceCtorEq]; first | done | assumption) | assumption | exact z2_eq | (simp [zGS]; first | done | assumption)) dX9_matches_25 rfl ?_
      refine r_callV MX8_isAtEnd 0 (a := 1) (a' := 6) [] lvX9_93 (Or.inl ⟨8, by decide, (by first | (simp only [zKS]; first | assumption) | assumption | exact zk_nself _ _ _ | (simp [zKS, zNS, *]; done)), rfl⟩) (sp_atEnd E w2 sg (d - 1) (x + 3) (x + 4) (x + 5) (x + 6) [] ss hm) rfl rfl (by first | exact Nat.le_of_ble_eq_true rfl | (simp [zcat_rf, Value.category]; done)) (by omega) (by first | omega | exact Nat.le_of_eq ((Nat.add_comm _ _).trans (Nat.succ_mul _ _).symm)) (by first | omega | exact Nat.le_of_eq ((Nat.add_comm _ _).trans (Nat.succ_mul _ _).symm)) dX9_matches_28 rfl (fun v_ w_ sg_ hq_ => ?_)
      obtain ⟨rfl, rfl, rfl⟩ := hq_
      refine r_if_neB (r := 42) dX9_matches_31 (by decide) rfl (fun c_31 => ?_) (fun c_31 => ?_)
      · refine r_iconst dX9_matches_42 kc_0 rfl ?_
        refine r_istore_n (ls' := [_, _, _, _, _]) dX9_matches_43 (Nat.le_of_ble_eq_true rfl) rfl rfl ?_
        refine r_aload_n dX9_matches_44 rfl (by first | exact zRv_ref _ | exact zRv_null | exact zRv_rf _ | assumption) rfl ?_
        refine r_astore (ls' := [_, _, _, _, _]) dX9_matches_45 (Nat.le_of_ble_eq_true rfl) (by first | exact zRv_ref _ | exact zRv_null | exact zRv_rf _ | assumption) rfl rfl ?_
        refine RW.mono (rmt E sg d (by omega) x 0 lo hi e T Rs [] w1 hD1 hlo (some (.ref f)) _ _ ls (some f) 0 _ (by decide) hr hs (pSels_ok hp) (fun w' acc' h1 h2 h3 => rmt_83 E sg d x e T Rs B ls hB he acc' h2 h1 w' (h3.d hD1) (some (.ref f)))) (Nat.le_refl _) (Nat.zero_le _) (Nat.zero_le _) (fun _ _ h => h)
      · cases c_31
  | cons c r =>
    have hf : readM B = none := by unfold readM; rw [hp]
    refine r_astore_n (ls' := [_, _, _, _, _]) dX9_matches_19 (Nat.le_of_ble_eq_true rfl) (by first | exact zRv_ref _ | exact zRv_null | exact zRv_rf _ | assumption) rfl rfl ?_
    refine r_aload_n dX9_matches_20 rfl (by first | exact zRv_ref _ | exact zRv_null | exact zRv_rf _ | assumption) rfl ?_
    refine r_ifnullR (r := 34) dX9_matches_21 (by decide) rfl (fun c_21 => ?_) (fun a_21 c_21 => ?_)
    · cases c_21
    · refine r_aload_n dX9_matches_24 rfl (zRv_ref _) rfl ?_
      refine r_gets 9 4 1004 lfX9_31 (by first | (simp only [zKS]; first | assumption) | assumption | exact zk_nself _ _ _ | (simp [zKS, zNS, *]; done)) rfl rfl (by first | (simp only [zGS, Nat.reduceEqDiff, OfNat.ofNat_ne_ofNat, false_and, and_false, true_and, and_true, and_self, if_true, if_false, ite_true, ite_false, reduceIte, reduceCtorEq]; first | done | assumption) | assumption | exact z2_eq | (simp [zGS]; first | done | assumption)) dX9_matches_25 rfl ?_
      refine r_callV MX8_isAtEnd 0 (a := 1) (a' := 6) [] lvX9_93 (Or.inl ⟨8, by decide, (by first | (simp only [zKS]; first | assumption) | assumption | exact zk_nself _ _ _ | (simp [zKS, zNS, *]; done)), rfl⟩) (sp_atEnd E w2 sg (d - 1) (x + 3) (x + 4) (x + 5) (x + 6) (c :: r) ss hm) rfl rfl (by first | exact Nat.le_of_ble_eq_true rfl | (simp [zcat_rf, Value.category]; done)) (by omega) (by first | omega | exact Nat.le_of_eq ((Nat.add_comm _ _).trans (Nat.succ_mul _ _).symm)) (by first | omega | exact Nat.le_of_eq ((Nat.add_comm _ _).trans (Nat.succ_mul _ _).symm)) dX9_matches_28 rfl (fun v_ w_ sg_ hq_ => ?_)
      obtain ⟨rfl, rfl, rfl⟩ := hq_
      refine r_if_neB (r := 42) dX9_matches_31 (by decide) rfl (fun c_31 => ?_) (fun c_31 => ?_)
      · refine r_iconst dX9_matches_42 kc_0 rfl ?_
        refine r_istore_n (ls' := [_, _, _, _, _]) dX9_matches_43 (Nat.le_of_ble_eq_true rfl) rfl rfl ?_
        refine r_aload_n dX9_matches_44 rfl (by first | exact zRv_ref _ | exact zRv_null | exact zRv_rf _ | assumption) rfl ?_
        refine r_astore (ls' := [_, _, _, _, _]) dX9_matches_45 (Nat.le_of_ble_eq_true rfl) (by first | exact zRv_ref _ | exact zRv_null | exact zRv_rf _ | assumption) rfl rfl ?_
        cases c_31
      · exact rm_bad E sg d hd x e T Rs B he hf w2 hD2 _ _ _
theorem sp_matches (E : ZE) (sg : ZM) (d : Nat) (hd : 12 ≤ d) (x : Nat) (e : Int32) (T : List PEl) (Rs : List PRule) (B : List Nat) (w : ZW) (h : dskI w x T Rs B) : CallX E MX9_matches [.ref x, .int e] w sg d 257 1152 (mtQ sg x T Rs B e) (mtX sg x T Rs B e) := by
  obtain ⟨hI, hN, hr⟩ := sr_I h
  obtain ⟨k1, k2, k3, k4, k5, k6, k7⟩ := h.desk
  have hk3 : zk w (x + 3) = 9 := h.1.2.2.1.1
  refine CallX.of rfl (by simp [Value.category]) (Nat.le_of_ble_eq_true rfl) ?_
  refine r_aload_n dX9_matches_0 rfl (zRv_ref _) rfl ?_
  refine r_gets 9 4 1004 lfX9_31 (by first | (simp only [zKS]; first | assumption) | assumption | exact zk_nself _ _ _ | (simp [zKS, zNS, *]; done)) rfl rfl (by first | (simp only [zGS, Nat.reduceEqDiff, OfNat.ofNat_ne_ofNat, false_and, and_false, true_and, and_true, and_self, if_true, if_false, ite_true, ite_false, reduceIte, reduceCtorEq]; first | done | assumption) | assumption | exact z2_eq | (simp [zGS]; first | done | assumption)) dX9_matches_1 rfl ?_
  refine r_callV MX8_startReading 0 (a := 257) (a' := 1152) [] lvX9_73 (Or.inl ⟨8, by decide, (by first | (simp only [zKS]; first | assumption) | assumption | exact zk_nself _ _ _ | (simp [zKS, zNS, *]; done)), rfl⟩) (sp_startReading E w sg (d - 1) (x + 3) hk3) rfl rfl (by first | exact Nat.le_of_ble_eq_true rfl | (simp [zcat_rf, Value.category]; done)) (by omega) (by first | omega | exact Nat.le_of_eq ((Nat.add_comm _ _).trans (Nat.succ_mul _ _).symm)) (by first | omega | exact Nat.le_of_eq ((Nat.add_comm _ _).trans (Nat.succ_mul _ _).symm)) dX9_matches_4 rfl (fun v_ w_ sg_ hq_ => ?_)
  obtain ⟨rfl, hw1, rfl⟩ := hq_
  obtain ⟨w1, hw1'⟩ : ∃ y, y = w_ := ⟨_, rfl⟩
  subst hw1'
  rw [← show w1 = srW w (x + 3) from hw1] at hI hN hr
  clear hw1
  have hD1 := hI.desk
  have m1 : zk w1 x = 10 := hD1.1
  have m6 : zr w1 1004 x = some (x + 3) := hD1.2.2.2.2.2.1
  have m3 : zk w1 (x + 3) = 9 := hI.1.2.2.1.1
  refine r_aload_n dX9_matches_7 rfl (zRv_ref _) rfl ?_
  refine r_iload_n dX9_matches_8 rfl rfl ?_
  refine x_callV (a := 256) (a' := 1146) MX9_checkElement 1 [_] rfl lvX9_90 (Or.inl ⟨9, by decide, m1, rfl⟩) (sp_checkElement E sg (d - 1) x T.length Rs.length (by omega) e w1 hD1) rfl rfl (by first | exact Nat.le_of_ble_eq_true rfl | (simp [zcat_rf, Value.category]; done)) (by omega) (by decide) (by decide) dX9_matches_9 rfl (fun C w' sg' hX => by obtain ⟨rfl, q, rfl, n, rfl⟩ := hX; exact ⟨Or.inl ⟨rfl, q⟩, hI.skip n, rfl⟩) (fun v_ w_ sg_ hq_ => ?_)
  obtain ⟨rfl, he, rfl, rfl⟩ := hq_
  refine r_aload_n dX9_matches_12 rfl (zRv_ref _) rfl ?_
  refine r_gets 9 4 1004 lfX9_31 (by first | (simp only [zKS]; first | assumption) | assumption | exact zk_nself _ _ _ | (simp [zKS, zNS, *]; done)) rfl rfl (by first | (simp only [zGS, Nat.reduceEqDiff, OfNat.ofNat_ne_ofNat, false_and, and_false, true_and, and_true, and_self, if_true, if_false, ite_true, ite_false, reduceIte, reduceCtorEq]; first | done | assumption) | assumption | exact z2_eq | (simp [zGS]; first | done | assumption)) dX9_matches_13 rfl ?_
  refine r_callV MX8_readSelectors 0 (a := 1) (a' := 6) [] lvX9_76 (Or.inl ⟨8, by decide, (by first | (simp only [zKS]; first | assumption) | assumption | exact zk_nself _ _ _ | (simp [zKS, zNS, *]; done)), rfl⟩) (sp_sels E sg (d - 1) (by omega) (x + 3) (x + 4) (x + 5) (x + 6) w1 B hN) rfl rfl (by first | exact Nat.le_of_ble_eq_true rfl | (simp [zcat_rf, Value.category]; done)) (by omega) (by first | omega | exact Nat.le_of_eq ((Nat.add_comm _ _).trans (Nat.succ_mul _ _).symm)) (by first | omega | exact Nat.le_of_eq ((Nat.add_comm _ _).trans (Nat.succ_mul _ _).symm)) dX9_matches_16 rfl (fun v_ w_ sg_ hq_ => ?_)
  obtain ⟨rfl, gv, gm⟩ := hq_
  obtain ⟨w2, hw2⟩ : ∃ y, y = w_ := ⟨_, rfl⟩
  subst hw2
  have hS2 : TBs w2 (x + 3) (x + 4) (x + 5) (x + 6) := by
    cases hp : pSels B with
    | none => rw [hp] at gm; exact gm.2.2.1
    | some q => rw [hp] at gm; obtain ⟨-, -, ss, hm, -⟩ := gm; exact hm
  have hr2 := hr.tb gv hS2
  have hD2 := hr2.d hI
  cases hp : pSels B with
  | none =>
    rw [hp] at gm
    obtain ⟨rfl, -, -⟩ := gm
    exact rm_19n E sg d hd x e T Rs B he (by unfold readM; rw [hp]) w2 hD2
  | some q =>
    obtain ⟨ls, r⟩ := q
    rw [hp] at gm
    obtain ⟨⟨f, rfl, hs⟩, hn⟩ := gm
    exact rm_19s E sg d hd x f (zsz w1) (zsz w2) e T Rs B he ls r hp w1 w2 hI hr2 (Nat.le_refl _) (hs.imp (fun a l g => ⟨g.sl, rfl⟩)) hn
