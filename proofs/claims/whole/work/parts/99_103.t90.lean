/-! ===== rule ===== -/
theorem ru_65 (E : ZE) (sg : ZM) (d : Nat) (hd : 6 ≤ d) (x : Nat) (o : Int32) (T : List PEl) (Rs : List PRule) (B : List Nat) (hf : ruO Rs B o = (2, none)) (w : ZW) (hD : dskI w x T Rs []) (x2 : Value) (nc ns : Nat) (h1 : 1 ≤ nc) (h2 : 6 ≤ ns) : RW E MX9_rule 65 [some (.ref x), some (.int o), some x2, none] [.null] w sg d nc ns (PX E (ruQ sg x T Rs B o) (ruX sg x T Rs B o)) := by
  refine r_astore_n (ls' := [_, _, _, _]) dX9_rule_65 (Nat.le_of_ble_eq_true rfl) (by first | exact zRv_ref _ | exact zRv_null | exact zRv_rf _ | assumption) rfl rfl ?_
  refine r_aload_n dX9_rule_66 rfl (by first | exact zRv_ref _ | exact zRv_null | exact zRv_rf _ | assumption) rfl ?_
  refine r_ifnonnullZ (r := 78) dX9_rule_67 (by decide) rfl (fun c_67 => ?_) (fun a_67 c_67 => ?_)
  · exact ru_70 E sg d hd x o T Rs B hf w hD _ _ nc ns h1 h2
  · cases c_67
theorem ru_48n (E : ZE) (sg : ZM) (d : Nat) (hd : 6 ≤ d) (x : Nat) (o : Int32) (T : List PEl) (Rs : List PRule) (B : List Nat) (hf : ruO Rs B o = (2, none)) (w : ZW) (hD : dskI w x T Rs []) (nc ns : Nat) (h1 : 1 ≤ nc) (h2 : 6 ≤ ns) : RW E MX9_rule 48 [some (.ref x), some (.int o), none, none] [.null] w sg d nc ns (PX E (ruQ sg x T Rs B o) (ruX sg x T Rs B o)) := by
  refine r_astore_n (ls' := [_, _, _, _]) dX9_rule_48 (Nat.le_of_ble_eq_true rfl) (by first | exact zRv_ref _ | exact zRv_null | exact zRv_rf _ | assumption) rfl rfl ?_
  refine r_aload_n dX9_rule_49 rfl (by first | exact zRv_ref _ | exact zRv_null | exact zRv_rf _ | assumption) rfl ?_
  refine r_ifnonnullZ (r := 57) dX9_rule_50 (by decide) rfl (fun c_50 => ?_) (fun a_50 c_50 => ?_)
  · refine r_aconst_null dX9_rule_53 rfl ?_
    refine r_goto (r := 65) dX9_rule_54 (by decide) ?_
    exact ru_65 E sg d hd x o T Rs B hf w hD _ nc ns h1 h2
  · cases c_50
theorem ru_65s (E : ZE) (sg : ZM) (d : Nat) (hd : 6 ≤ d) (x f g z2 : Nat) (o : Int32) (T : List PEl) (Rs : List PRule) (B : List Nat) (w1 w : ZW) (hD1 : dskI w1 x T Rs []) (hr : rdI w1 w x) (ls : List (List (Nat × PComp))) (ds : List PDecl) (hf : ruO Rs B o = (0, some (ls, ds))) (h12 : zsz w1 ≤ z2) (h23 : z2 ≤ zsz w) (hn : Rs.length < 16) (hls : okSels ls) (hds : okDs ds) (hs : Seg (isSl w (zsz w1) z2) w 703 (some f) ls none) (hdd : Seg (isDecl w z2 (zsz w)) w 205 (some g) ds none) : RW E MX9_rule 65 [some (.ref x), some (.int o), some (.ref f), none] [.ref g] w sg d 1 6 (PX E (ruQ sg x T Rs B o) (ruX sg x T Rs B o)) := by
  refine r_astore_n (ls' := [_, _, _, _]) dX9_rule_65 (Nat.le_of_ble_eq_true rfl) (by first | exact zRv_ref _ | exact zRv_null | exact zRv_rf _ | assumption) rfl rfl ?_
  refine r_aload_n dX9_rule_66 rfl (by first | exact zRv_ref _ | exact zRv_null | exact zRv_rf _ | assumption) rfl ?_
  refine r_ifnonnullR (r := 78) dX9_rule_67 (by decide) rfl (fun c_67 => ?_) (fun a_67 c_67 => ?_)
  · cases c_67
  · exact ru_78 E sg d hd x f g z2 o T Rs B w1 w hD1 hr ls ds hf h12 h23 hn hls hds hs hdd
theorem ru_48s (E : ZE) (sg : ZM) (d : Nat) (hd : 33 ≤ d) (x f og : Nat) (hog : og < 3) (T : List PEl) (Rs : List PRule) (B : List Nat) (w1 w2 : ZW) (hD1 : dskI w1 x T Rs []) (hr : rdI w1 w2 x) (hn16 : Rs.length < 16) (ls : List (List (Nat × PComp))) (r : List Nat) (hp : pSels B = some (ls, r)) (hs : Seg (isSl w2 (zsz w1) (zsz w2)) w2 703 (some f) ls none) (hn : TBn w2 (x + 3) (x + 4) (x + 5) (x + 6) r) (hin : inI (nI og) 3 = true) : RW E MX9_rule 48 [some (.ref x), some (.int (nI og)), none, none] [.ref f] w2 sg d 13 990 (PX E (ruQ sg x T Rs B (nI og)) (ruX sg x T Rs B (nI og))) := by
  have hD2 := hr.d hD1
  obtain ⟨k1, k2, k3, k4, k5, k6, k7⟩ := hD2.desk
  have hk3 : zk w2 (x + 3) = 9 := hD2.1.2.1.1
  have hdec : CDecl E sg (d - 1 - 1) (x + 3) (x + 4) (x + 5) (x + 6) (nI og) 3 246 (pDecl og) := fun w r h => sp_decl E sg (d - 1 - 1) (by omega) _ _ _ _ og (by omega) w r h
  have hix : ixD (nI og) = og := ixD_n (by omega)
  have hru : ruO Rs B (nI og) = (match (match pDecs (pDecl og) r with | none => none | some ds => some (ls, ds) : Option PRule) with | none => (2, none) | some R => (0, some R)) := by
    unfold ruO readR
    rw [if_neg (by omega), hin, if_neg (by decide), hix, hp]
    cases hq : pDecs (pDecl og) r with
    | none => simp only [hq]
    | some ds => simp only [hq]
  have hl120 : r.length ≤ 120 := by
    obtain ⟨-, ss, hm⟩ := hn
    obtain ⟨-, ⟨a, h1, h2, h3, -⟩, -⟩ := hm
    omega
  have hcall := sp_decs E sg (d - 1) (by omega) (x + 3) (x + 4) (x + 5) (x + 6) (nI og) 3 246 (pDecl og) hdec w2 r hn
  refine r_astore_n (ls' := [_, _, _, _]) dX9_rule_48 (Nat.le_of_ble_eq_true rfl) (by first | exact zRv_ref _ | exact zRv_null | exact zRv_rf _ | assumption) rfl rfl ?_
  refine r_aload_n dX9_rule_49 rfl (by first | exact zRv_ref _ | exact zRv_null | exact zRv_rf _ | assumption) rfl ?_
  refine r_ifnonnullR (r := 57) dX9_rule_50 (by decide) rfl (fun c_50 => ?_) (fun a_50 c_50 => ?_)
  · cases c_50
  · refine r_aload_n dX9_rule_57 rfl (zRv_ref _) rfl ?_
    refine r_gets 9 4 1004 lfX9_31 (by first | (simp only [zKS]; first | assumption) | assumption | exact zk_nself _ _ _ | (simp [zKS, zNS, *]; done)) rfl rfl (by first | (simp only [zGS, Nat.reduceEqDiff, OfNat.ofNat_ne_ofNat, false_and, and_false, true_and, and_true, and_self, if_true, if_false, ite_true, ite_false, reduceIte, reduceCtorEq]; first | done | assumption) | assumption | exact z2_eq | (simp [zGS]; first | done | assumption)) dX9_rule_58 rfl ?_
    refine r_iload_n dX9_rule_61 rfl rfl ?_
    refine r_callV MX8_readDeclarations 1 (a := 1) (a' := 6) [_] lvX9_80 (Or.inl ⟨8, by decide, (by first | (simp only [zKS]; first | assumption) | assumption | exact zk_nself _ _ _ | (simp [zKS, zNS, *]; done)), rfl⟩) (hcall) rfl rfl (by first | exact Nat.le_of_ble_eq_true rfl | (simp [zcat_rf, Value.category]; done)) (by omega) (by first | omega | exact Nat.le_of_eq ((Nat.add_comm _ _).trans (Nat.succ_mul _ _).symm)) (by first | omega | exact Nat.le_of_eq ((Nat.add_comm _ _).trans (Nat.succ_mul _ _).symm)) dX9_rule_62 rfl (fun v_ w_ sg_ hq_ => ?_)
    obtain ⟨rfl, gv, ⟨gb, gx⟩, gm⟩ := hq_
    obtain ⟨w3, hw3⟩ : ∃ y, y = w_ := ⟨_, rfl⟩
    subst hw3
    have hr3 := hr.tb gv gx.1
    have hD3 := hr3.d hD1
    cases hq : pDecs (pDecl og) r with
    | none =>
      rw [hq] at gm hru
      have gm2 : v_ = some .null := gm
      subst gm2
      exact ru_65 E sg d (by omega) x (nI og) T Rs B hru w3 hD3 _ 1 6 (Nat.le_refl _) (Nat.le_refl _)
    | some ds =>
      rw [hq] at gm hru
      obtain ⟨g, rfl, hdd⟩ := gm
      have hz12 : zsz w1 ≤ zsz w2 := hr.2.1
      have hx13 := hr.1
      have hs3 : Seg (isSl w3 (zsz w1) (zsz w2)) w3 703 (some f) ls none := segS hs (fun b g1 g2 => gv.2.1 b g2 (fun z => z) (by omega) (by omega) (by omega))
      exact ru_65s E sg d (by omega) x f g (zsz w2) (nI og) T Rs B w1 w3 hD1 hr3 ls ds hru hz12 gv.1 hn16 (pSels_ok hp) (pDecs_ok hog hl120 hq) hs3 hdd
theorem sp_rule (E : ZE) (sg : ZM) (d : Nat) (hd : 33 ≤ d) (x : Nat) (o : Int32) (T : List PEl) (Rs : List PRule) (B : List Nat) (w : ZW) (h : dskI w x T Rs B) : CallX E MX9_rule [.ref x, .int o] w sg d 268 2130 (ruQ sg x T Rs B o) (ruX sg x T Rs B o) := by
  obtain ⟨hI, hN, hr⟩ := sr_I h
  obtain ⟨k1, k2, k3, k4, k5, k6, k7⟩ := h.desk
  have hk3 : zk w (x + 3) = 9 := h.1.2.2.1.1
  have h16 : Rs.length ≤ 16 := by
    obtain ⟨-, -, -, A, Lo, Bk, DC, RG, K9, hE, -⟩ := id h
    exact hE.2.2.1.2.2.1
  refine CallX.of rfl (by simp [Value.category]) (Nat.le_of_ble_eq_true rfl) ?_
  refine r_aload_n dX9_rule_0 rfl (zRv_ref _) rfl ?_
  refine r_gets 9 4 1004 lfX9_31 (by first | (simp only [zKS]; first | assumption) | assumption | exact zk_nself _ _ _ | (simp [zKS, zNS, *]; done)) rfl rfl (by first | (simp only [zGS, Nat.reduceEqDiff, OfNat.ofNat_ne_ofNat, false_and, and_false, true_and, and_true, and_self, if_true, if_false, ite_true, ite_false, reduceIte, reduceCtorEq]; first | done | assumption) | assumption | exact z2_eq | (simp [zGS]; first | done | assumption)) dX9_rule_1 rfl ?_
  refine r_callV MX8_startReading 0 (a := 268) (a' := 2130) [] lvX9_73 (Or.inl ⟨8, by decide, (by first | (simp only [zKS]; first | assumption) | assumption | exact zk_nself _ _ _ | (simp [zKS, zNS, *]; done)), rfl⟩) (sp_startReading E w sg (d - 1) (x + 3) hk3) rfl rfl (by first | exact Nat.le_of_ble_eq_true rfl | (simp [zcat_rf, Value.category]; done)) (by omega) (by first | omega | exact Nat.le_of_eq ((Nat.add_comm _ _).trans (Nat.succ_mul _ _).symm)) (by first | omega | exact Nat.le_of_eq ((Nat.add_comm _ _).trans (Nat.succ_mul _ _).symm)) dX9_rule_4 rfl (fun v_ w_ sg_ hq_ => ?_)
  obtain ⟨rfl, hw1, rfl⟩ := hq_
  obtain ⟨w1, hw1'⟩ : ∃ y, y = w_ := ⟨_, rfl⟩
  subst hw1'
  rw [← show w1 = srW w (x + 3) from hw1] at hI hN hr
  clear hw1
  have hD1 := hI.desk
  have m1 : zk w1 x = 10 := hD1.1
  have m5 : zi w1 1003 x = nI Rs.length := hD1.2.2.2.2.1
  have m6 : zr w1 1004 x = some (x + 3) := hD1.2.2.2.2.2.1
  have m3 : zk w1 (x + 3) = 9 := hI.1.2.2.1.1
  refine r_aload_n dX9_rule_7 rfl (zRv_ref _) rfl ?_
  refine r_getiv 9 3 1003 lfX9_25 (by first | (simp only [zKS]; first | assumption) | assumption | exact zk_nself _ _ _ | (simp [zKS, zNS, *]; done)) rfl rfl (by first | (simp only [zGS, zMS, Nat.reduceEqDiff, OfNat.ofNat_ne_ofNat, false_and, and_false, true_and, and_true, and_self, if_true, if_false, ite_true, ite_false, reduceIte, reduceCtorEq]; first | done | assumption | rfl) | assumption | exact z2_eq | exact z1_eq | (simp [zGS, zMS]; first | done | assumption) | rfl) dX9_rule_8 rfl ?_
  refine r_bipush dX9_rule_11 kb_16 rfl ?_
  refine r_icmp_neN (by omega) (by omega) (r := 24) dX9_rule_13 (by decide) rfl (fun c_13 => ?_) (fun c_13 => ?_)
  · refine r_iload_n dX9_rule_24 rfl rfl ?_
    refine r_if_lt (r := 33) dX9_rule_25 (by decide) rfl (fun c_25 => ?_) (fun c_25 => ?_)
    · exact x_throw zIAE (ik := 53) (ic := 55) rfl lxA (by omega) (by decide) (by decide) dX9_rule_33 dX9_rule_36 dX9_rule_37 dX9_rule_40 (fun m => ⟨Or.inr ⟨rfl, by unfold ruO; rw [if_neg c_13, show inI o 3 = false by unfold inI; rw [decide_eq_false (fun q => q c_25), Bool.false_and], if_pos rfl]⟩, hI.skip m, rfl⟩)
    · refine r_iload_n dX9_rule_28 rfl rfl ?_
      refine r_iconst dX9_rule_29 kc_3 rfl ?_
      refine r_icmp_lt (r := 41) dX9_rule_30 (by decide) rfl (fun c_30 => ?_) (fun c_30 => ?_)
      · refine r_aload_n dX9_rule_41 rfl (zRv_ref _) rfl ?_
        refine r_gets 9 4 1004 lfX9_31 (by first | (simp only [zKS]; first | assumption) | assumption | exact zk_nself _ _ _ | (simp [zKS, zNS, *]; done)) rfl rfl (by first | (simp only [zGS, Nat.reduceEqDiff, OfNat.ofNat_ne_ofNat, false_and, and_false, true_and, and_true, and_self, if_true, if_false, ite_true, ite_false, reduceIte, reduceCtorEq]; first | done | assumption) | assumption | exact z2_eq | (simp [zGS]; first | done | assumption)) dX9_rule_42 rfl ?_
        refine r_callV MX8_readSelectors 0 (a := 13) (a' := 990) [] lvX9_76 (Or.inl ⟨8, by decide, (by first | (simp only [zKS]; first | assumption) | assumption | exact zk_nself _ _ _ | (simp [zKS, zNS, *]; done)), rfl⟩) (sp_sels E sg (d - 1) (by omega) (x + 3) (x + 4) (x + 5) (x + 6) w1 B hN) rfl rfl (by first | exact Nat.le_of_ble_eq_true rfl | (simp [zcat_rf, Value.category]; done)) (by omega) (by first | omega | exact Nat.le_of_eq ((Nat.add_comm _ _).trans (Nat.succ_mul _ _).symm)) (by first | omega | exact Nat.le_of_eq ((Nat.add_comm _ _).trans (Nat.succ_mul _ _).symm)) dX9_rule_45 rfl (fun v_ w_ sg_ hq_ => ?_)
        obtain ⟨rfl, gv, gm⟩ := hq_
        obtain ⟨w2, hw2⟩ : ∃ y, y = w_ := ⟨_, rfl⟩
        subst hw2
        have hin : inI o 3 = true := by unfold inI; rw [decide_eq_true (p := ¬ o < 0) c_25, decide_eq_true (p := o < nI 3) c_30]; rfl
        have hS2 : TBs w2 (x + 3) (x + 4) (x + 5) (x + 6) := by
          cases hp : pSels B with
          | none => rw [hp] at gm; exact gm.2.2.1
          | some q => rw [hp] at gm; obtain ⟨-, -, ss, hm, -⟩ := gm; exact hm
        have hr2 := hr.tb gv hS2
        have hD2 := hr2.d hI
        cases hp : pSels B with
        | none =>
          rw [hp] at gm
          obtain ⟨rfl, -, -⟩ := gm
          exact ru_48n E sg d (by omega) x o T Rs B (by unfold ruO readR; rw [if_neg c_13, hin, if_neg (by decide), hp]) w2 hD2 13 990 (by decide) (by decide)
        | some q =>
          obtain ⟨ls, r⟩ := q
          rw [hp] at gm
          obtain ⟨⟨f, rfl, hs⟩, hn⟩ := gm
          obtain ⟨og, hog, rfl⟩ := inI_nat (by decide) hin
          exact ru_48s E sg d hd x f og hog T Rs B w1 w2 hI hr2 (by omega) ls r hp (hs.imp (fun a l g => ⟨g.sl, rfl⟩)) hn hin
      · exact x_throw zIAE (ik := 53) (ic := 55) rfl lxA (by omega) (by decide) (by decide) dX9_rule_33 dX9_rule_36 dX9_rule_37 dX9_rule_40 (fun m => ⟨Or.inr ⟨rfl, by unfold ruO; rw [if_neg c_13, show inI o 3 = false by unfold inI; rw [decide_eq_false (p := o < nI 3) c_30, Bool.and_false], if_pos rfl]⟩, hI.skip m, rfl⟩)
  · exact x_throw zISE (ik := 56) (ic := 58) rfl lxS (by omega) (by decide) (by decide) dX9_rule_16 dX9_rule_19 dX9_rule_20 dX9_rule_23 (fun m => ⟨Or.inl ⟨rfl, by unfold ruO; rw [if_pos c_13]⟩, hI.skip m, rfl⟩)
