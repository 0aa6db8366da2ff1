/-! ===== element, a child ===== -/
theorem p24 {n : Nat} (h : n ≤ 24) : 2 ^ n ≤ 16777216 := Nat.pow_le_pow_right (by decide) h
theorem rel_c (E : ZE) (sg : ZM) (d : Nat) (hd : 7 ≤ d) (x : Nat) (q a b c : Nat) (ha : a < 128) (hb : b < 128) (hc : c < 256) (T : List PEl) (Rs : List PRule) (B : List Nat) (w : ZW) (h : dskI w x T Rs B) (hq : q < T.length) (h24 : T.length < 24) (Q : ZQ) (X : ZX) (hQ : ∀ w', dskI w' x (T ++ [(some q, a, b, c)]) Rs B → Q (some (.int (nI T.length))) w' sg) (x5 x6 : Option Value) : RW E MX9_element 100 [some (.ref x), some (.int (nI q)), some (.int (nI a)), some (.int (nI b)), some (.int (nI c)), x5, x6, none, none] [] w sg d 9 70 (PX E Q X) := by
  obtain ⟨k1, k2, k3, k4, k5, k6, k7⟩ := h.desk
  obtain ⟨hB, hR, hok, A, Lo, Bk, DC, RG, K, hE, -⟩ := id h
  have hxz := hB.1
  have hEA := hE.1.2.2.2.1
  have hT := hE.1.2.2.1
  have hz1 : zsz (znew w (2 + 1) 0) = zsz w + 1 := rfl
  have i0 : zi (znew w (2 + 1) 0) 1001 x = nI T.length := ((zeq.nw (by omega)).i _).trans k3
  have g0 := hE.2.2.2.2.2.1.1 q hq
  have g00 := hE.1.1.1 q hq
  obtain ⟨e1, e2, e3, e4, e5, e6, e7, e8, e9, e10, e11, e12, e13, e14⟩ := hT.2 q hq
  have zn : zeq w (znew w (2 + 1) 0) (A q) := zeq.nw (by omega)
  have hva : abvS T q < 16777216 := Nat.lt_of_lt_of_le (abvF_lt hT.1 q q) (p24 (by omega))
  have hvb : 2 ^ q < 16777216 := Nat.lt_of_lt_of_le (Nat.pow_lt_pow_right (by decide) (show q < 24 by omega)) (p24 (Nat.le_refl 24))
  have hvn : 2 ^ T.length < 16777216 := Nat.lt_of_lt_of_le (Nat.pow_lt_pow_right (by decide) h24) (p24 (Nat.le_refl 24))
  have hvc : kidS T q < 16777216 := Nat.lt_of_lt_of_le (bset_lt _ _) (p24 (by omega))
  have hneg : nI q ≠ -1 := fun z => by
    have h2 := congrArg (fun y : Int32 => y.toBitVec.toNat) z
    rw [nI_bv (by omega)] at h2
    have h3 : ((-1 : Int32)).toBitVec.toNat = 4294967295 := by decide
    omega
  refine r_iload_n dX9_element_100 rfl rfl ?_
  refine r_iconst dX9_element_101 kc_m1 rfl ?_
  refine r_icmp_ne (r := 109) dX9_element_102 (by decide) rfl (fun c_102 => ?_) (fun c_102 => ?_)
  · refine r_aload_n dX9_element_109 rfl (zRv_ref _) rfl ?_
    refine r_gets 9 0 1000 lfX9_11 (by first | (simp only [zKS]; first | assumption | exact zk_nw (by assumption) (by omega)) | assumption | exact zk_nw (by assumption) (by omega) | exact zk_nself _ _ _ | (simp [zKS, zNS, *]; done)) rfl rfl (by first | (simp only [zGS, Nat.reduceEqDiff, OfNat.ofNat_ne_ofNat, false_and, and_false, true_and, and_true, and_self, if_true, if_false, ite_true, ite_false, reduceIte, reduceCtorEq]; first | done | assumption) | assumption | exact z2_eq | (simp [zGS]; first | done | assumption)) dX9_element_110 rfl ?_
    refine r_iload_n dX9_element_113 rfl rfl ?_
    refine r_aals7 q (hEA.2.2 q hq) hEA.1 rfl (by rw [hEA.2.1]; omega) (by omega) dX9_element_114 rfl ?_
    refine r_astore (ls' := [_, _, _, _, _, _, _, _, _]) dX9_element_115 (Nat.le_of_ble_eq_true rfl) (by first | exact zRv_ref _ | exact zRv_null | exact zRv_rf _ | assumption) rfl rfl ?_
    refine r_new (nc' := 8) (ns' := 58) 2 lnX9_9 (by decide) (by decide) dX9_element_117 rfl ?_
    refine r_dup dX9_element_120 (by first | rfl | exact zcat_rf _) rfl ?_
    refine r_aload_n dX9_element_121 rfl (zRv_ref _) rfl ?_
    refine r_getiv 9 1 1001 lfX9_15 (by first | (simp only [zKS]; first | assumption | exact zk_nw (by assumption) (by omega)) | assumption | exact zk_nw (by assumption) (by omega) | exact zk_nself _ _ _ | (simp [zKS, zNS, *]; done)) rfl rfl (by first | (simp only [zGS, zMS, Nat.reduceEqDiff, OfNat.ofNat_ne_ofNat, false_and, and_false, true_and, and_true, and_self, if_true, if_false, ite_true, ite_false, reduceIte, reduceCtorEq]; first | done | assumption | rfl) | assumption | exact z2_eq | exact z1_eq | (simp [zGS, zMS]; first | done | assumption) | rfl) dX9_element_122 rfl ?_
    refine r_aload dX9_element_125 rfl (by first | exact zRv_ref _ | exact zRv_null | exact zRv_rf _ | assumption) rfl ?_
    refine r_iload_n dX9_element_127 rfl rfl ?_
    refine r_iload_n dX9_element_128 rfl rfl ?_
    refine r_iload dX9_element_129 rfl rfl ?_
    refine r_callI MX2_init 5 (a := 0) (a' := 1) [_, _, _, _, _] liX9_59 (sp_X2_init1 E sg (d - 1) (by omega) (zsz w) T.length a b c h24 (A q) (abvS T q) (2 ^ q) (kidS T q) (lastS T q) (by omega) hva hvb hvc _ rfl (zk_nself _ _ _) (zn.k.trans e1) ((zn.i _).trans e7) ((zn.i _).trans e8) ((zn.i _).trans e13) ((zn.i _).trans e14)) rfl rfl (by first | exact Nat.le_of_ble_eq_true rfl | (simp [zcat_rf, Value.category]; done)) (by omega) (by decide) (by decide) dX9_element_131 rfl (fun v_ w_ sg_ hq_ => ?_)
    obtain ⟨rfl, rfl, g1, g2, g3, g4, g5, g6, g7, g8, g9⟩ := hq_
    obtain ⟨w3, hw3⟩ : ∃ y, y = w_ := ⟨_, rfl⟩
    subst hw3
    have z3 : ∀ b, b < zsz w → zeq w w3 b := fun b hb => (zeq.nw (by omega)).tr (g2 b hb)
    have kx : zk w3 x = 10 := (z3 x (by omega)).k.trans k1
    have ix : zi w3 1001 x = nI T.length := ((z3 x (by omega)).i _).trans k3
    have rx : zr w3 1000 x = some (x + 1) := ((z3 x (by omega)).r _).trans k2
    have kq : zk w3 (A q) = 3 := (z3 (A q) (by omega)).k.trans e1
    have bit9 : zi w3 304 (zsz w) = nI (2 ^ T.length) := g4.2.2.2.2.2.1
    refine r_astore (ls' := [_, _, _, _, _, _, _, _, _]) dX9_element_134 (Nat.le_of_ble_eq_true rfl) (zRv_ref _) rfl rfl ?_
    refine r_aload dX9_element_136 rfl (by first | exact zRv_ref _ | exact zRv_null | exact zRv_rf _ | assumption) rfl ?_
    refine r_ifnullR (r := 151) dX9_element_138 (by decide) rfl (fun c_138 => ?_) (fun a_138 c_138 => ?_)
    · cases c_138
    · refine r_aload dX9_element_141 rfl (by first | exact zRv_ref _ | exact zRv_null | exact zRv_rf _ | assumption) rfl ?_
      refine r_aload dX9_element_143 rfl (zRv_ref _) rfl ?_
      refine r_getiv 2 4 304 lfX9_62 (by first | (simp only [zKS]; first | assumption | exact zk_nw (by assumption) (by omega)) | assumption | exact zk_nw (by assumption) (by omega) | exact zk_nself _ _ _ | (simp [zKS, zNS, *]; done)) rfl rfl (by first | (simp only [zGS, zMS, Nat.reduceEqDiff, OfNat.ofNat_ne_ofNat, false_and, and_false, true_and, and_true, and_self, if_true, if_false, ite_true, ite_false, reduceIte, reduceCtorEq]; first | done | assumption | rfl) | assumption | exact z2_eq | exact z1_eq | (simp [zGS, zMS]; first | done | assumption) | rfl) dX9_element_145 rfl ?_
      refine r_callV MX2_adopt 1 (a := 0) (a' := 0) [_] lvX9_65 (Or.inl ⟨2, by decide, (by first | (simp only [zKS]; first | assumption | exact zk_nw (by assumption) (by omega)) | assumption | exact zk_nw (by assumption) (by omega) | exact zk_nself _ _ _ | (simp [zKS, zNS, *]; done)), rfl⟩) (sp_adopt E sg (d - 1) (A q) (kidS T q) (2 ^ T.length) (by omega) (by omega) w3 kq (((z3 (A q) (by omega)).i _).trans e13)) rfl rfl (by first | exact Nat.le_of_ble_eq_true rfl | (simp [zcat_rf, Value.category]; done)) (by omega) (by first | omega | exact Nat.le_of_eq ((Nat.add_comm _ _).trans (Nat.succ_mul _ _).symm)) (by first | omega | exact Nat.le_of_eq ((Nat.add_comm _ _).trans (Nat.succ_mul _ _).symm)) dX9_element_148 rfl (fun v_ w_ sg_ hq_ => ?_)
      obtain ⟨rfl, hw4, rfl⟩ := hq_
      obtain ⟨w4, hw4'⟩ : ∃ y, y = w_ := ⟨_, rfl⟩
      subst hw4'
      have z4 : ∀ b, b ≠ A q → zeq w3 w4 b := fun b hb => by rw [hw4]; exact (zeq.si hb).tr (zeq.si hb)
      have y1 : zk w4 (A q) = 3 := by rw [hw4]; exact kq
      have y2 : ∀ f, zr w4 f (A q) = zr w3 f (A q) := by rw [hw4]; exact fun f => rfl
      have y3 : ∀ f, f ≠ 310 → f ≠ 311 → zi w4 f (A q) = zi w3 f (A q) := by rw [hw4]; exact fun f h1 h2 => by rw [zi_zsi, if_neg (fun q => h2 q.1), zi_zsi, if_neg (fun q => h1 q.1)]
      have y4 : zi w4 310 (A q) = nI (kidS T q ||| 2 ^ T.length) := by rw [hw4, zi_zsi, if_neg (by omega)]; exact z2_eq
      have y5 : zi w4 311 (A q) = nI (2 ^ T.length) := by rw [hw4]; exact z2_eq
      have y6 : zsz w4 = zsz w3 := by rw [hw4]; rfl
      clear hw4
      have kx4 : zk w4 x = 10 := (z4 x (by omega)).k.trans kx
      have ix4 : zi w4 1001 x = nI T.length := ((z4 x (by omega)).i _).trans ix
      have rx4 : zr w4 1000 x = some (x + 1) := ((z4 x (by omega)).r _).trans rx
      have ke4 : zk w4 (zsz w) = 3 := (z4 (zsz w) (by omega)).k.trans g3
      have zx1 : zeq w w4 (x + 1) := (z3 (x + 1) (by omega)).tr (z4 (x + 1) (by omega))
      refine r_aload_n dX9_element_151 rfl (zRv_ref _) rfl ?_
      refine r_gets 9 0 1000 lfX9_11 (by first | (simp only [zKS]; first | assumption | exact zk_nw (by assumption) (by omega)) | assumption | exact zk_nw (by assumption) (by omega) | exact zk_nself _ _ _ | (simp [zKS, zNS, *]; done)) rfl rfl (by first | (simp only [zGS, Nat.reduceEqDiff, OfNat.ofNat_ne_ofNat, false_and, and_false, true_and, and_true, and_self, if_true, if_false, ite_true, ite_false, reduceIte, reduceCtorEq]; first | done | assumption) | assumption | exact z2_eq | (simp [zGS]; first | done | assumption)) dX9_element_152 rfl ?_
      refine r_aload_n dX9_element_155 rfl (zRv_ref _) rfl ?_
      refine r_getiv 9 1 1001 lfX9_15 (by first | (simp only [zKS]; first | assumption | exact zk_nw (by assumption) (by omega)) | assumption | exact zk_nw (by assumption) (by omega) | exact zk_nself _ _ _ | (simp [zKS, zNS, *]; done)) rfl rfl (by first | (simp only [zGS, zMS, Nat.reduceEqDiff, OfNat.ofNat_ne_ofNat, false_and, and_false, true_and, and_true, and_self, if_true, if_false, ite_true, ite_false, reduceIte, reduceCtorEq]; first | done | assumption | rfl) | assumption | exact z2_eq | exact z1_eq | (simp [zGS, zMS]; first | done | assumption) | rfl) dX9_element_156 rfl ?_
      refine r_aload dX9_element_159 rfl (zRv_ref _) rfl ?_
      refine r_aast7 T.length ke4 (zx1.k.trans hEA.1) rfl (by rw [zx1.ln, hEA.2.1]; omega) (by omega) dX9_element_161 rfl ?_
      refine r_aload_n dX9_element_162 rfl (zRv_ref _) rfl ?_
      refine r_dup dX9_element_163 (by first | rfl | exact zcat_rf _) rfl ?_
      refine r_getiv 9 1 1001 lfX9_15 (by first | (simp only [zKS]; first | assumption | exact zk_nw (by assumption) (by omega)) | assumption | exact zk_nw (by assumption) (by omega) | exact zk_nself _ _ _ | (simp [zKS, zNS, *]; done)) rfl rfl (by first | (simp only [zGS, zMS, Nat.reduceEqDiff, OfNat.ofNat_ne_ofNat, false_and, and_false, true_and, and_true, and_self, if_true, if_false, ite_true, ite_false, reduceIte, reduceCtorEq]; first | done | assumption | rfl) | assumption | exact z2_eq | exact z1_eq | (simp [zGS, zMS]; first | done | assumption) | rfl) dX9_element_164 rfl ?_
      refine r_iconst dX9_element_167 kc_1 rfl ?_
      refine r_iaddN dX9_element_168 rfl ?_
      refine r_puti 9 1 1001 lfX9_15 (by first | (simp only [zKS]; first | assumption | exact zk_nw (by assumption) (by omega)) | assumption | exact zk_nw (by assumption) (by omega) | exact zk_nself _ _ _ | (simp [zKS, zNS, *]; done)) rfl rfl rfl (Or.inl rfl) dX9_element_169 rfl ?_
      refine r_aload_n dX9_element_172 rfl (zRv_ref _) rfl ?_
      refine r_iconst dX9_element_173 kc_1 rfl ?_
      refine r_putz 9 6 1006 (by first | exact Or.inl rfl | exact Or.inr rfl | exact zb01 _ | assumption) lfX9_42 (by first | (simp only [zKS]; first | assumption | exact zk_nw (by assumption) (by omega)) | assumption | exact zk_nw (by assumption) (by omega) | exact zk_nself _ _ _ | (simp [zKS, zNS, *]; done)) rfl rfl rfl (Or.inl rfl) dX9_element_174 rfl ?_
      refine r_aload_n dX9_element_177 rfl (zRv_ref _) rfl ?_
      refine r_getiv 9 1 1001 lfX9_15 (by first | (simp only [zKS]; first | assumption | exact zk_nw (by assumption) (by omega)) | assumption | exact zk_nw (by assumption) (by omega) | exact zk_nself _ _ _ | (simp [zKS, zNS, *]; done)) rfl rfl (by first | (simp only [zGS, zMS, Nat.reduceEqDiff, OfNat.ofNat_ne_ofNat, false_and, and_false, true_and, and_true, and_self, if_true, if_false, ite_true, ite_false, reduceIte, reduceCtorEq]; first | done | assumption | rfl) | assumption | exact z2_eq | exact z1_eq | (simp [zGS, zMS]; first | done | assumption) | rfl) dX9_element_178 rfl ?_
      refine r_iconst dX9_element_181 kc_1 rfl ?_
      refine r_isubN (by omega) dX9_element_182 rfl ?_
      refine x_iret rfl dX9_element_183 ?_
      obtain ⟨f1, f2, f3, f4⟩ := fin_el (w := w) (w3 := w3) (w4 := w4) (x := x) (n := T.length) rfl hxz z3 (some (A q)) (fun p hp => by cases hp; exact ⟨by omega, by omega⟩) (fun b hb => z4 b (hb (A q) rfl)) rfl
      obtain ⟨n1, n2, n3⟩ := new_sets hT.1 (v := (some q, a, b, c)) hT.1.1 (fun p hp => by cases hp; exact hq)
      obtain ⟨n4, n5, n6, n7⟩ := n3
      have f6 : newF w3 (zsz w) T.length (some (A q)) a b c (abvS T q ||| 2 ^ q) (kidS T q) (lastS T q) (bcnt (kidS T q).testBit 24 + 1) := ⟨g3, g4, g5, g6, g8, g9⟩
      have fq := f4 (A q) (by omega) (by omega)
      have r3q := z3 (A q) (by omega)
      refine hQ _ (el_I hB hR hok hE (some q, a, b, c) (by omega) (fun p hp => by cases hp; exact hq) ha hb hc (y6.trans g1) (fun b' h1 h2 h3 h4 => f1 b' h1 h2 h3 (fun p hp => by cases hp; exact h4 q rfl)) f2 ⟨f3.1.trans hEA.1, f3.2.1.trans hEA.2.1, f3.2.2.1, f3.2.2.2⟩ (fun q' hq' => ?_) ?_)
      · cases hq'
        exact ⟨fq.k.trans y1, fun f => (fq.r f).trans ((y2 f).trans (r3q.r f)), fun f h1 h2 => (fq.i f).trans ((y3 f h1 h2).trans (r3q.i f)), (fq.i _).trans y4, (fq.i _).trans y5⟩
      · rw [n4, n5, n6, n7]
        exact f6.z (fun j hj => (z4 _ (by omega)).tr (f4 _ (by omega) (by omega)))
  · exact absurd c_102 hneg
