/-! ===== element, its end ===== -/
theorem rel_r (E : ZE) (sg : ZM) (d : Nat) (hd : 7 ≤ d) (x : Nat) (a b c : Nat) (ha : a < 128) (hb : b < 128) (hc : c < 256) (T : List PEl) (Rs : List PRule) (B : List Nat) (w : ZW) (h : dskI w x T Rs B) (h0 : T.length = 0) (Q : ZQ) (X : ZX) (hQ : ∀ w', dskI w' x (T ++ [(none, a, b, c)]) Rs B → Q (some (.int (nI T.length))) w' sg) (x5 x6 : Option Value) : RW E MX9_element 100 [some (.ref x), some (.int (-1)), some (.int (nI a)), some (.int (nI b)), some (.int (nI c)), x5, x6, none, none] [] w sg d 9 70 (PX E Q X) := by
  obtain ⟨k1, k2, k3, k4, k5, k6, k7⟩ := h.desk
  obtain ⟨hB, hR, hok, A, Lo, Bk, DC, RG, K, hE, -⟩ := id h
  have hxz := hB.1
  have hEA := hE.1.2.2.2.1
  have hz1 : zsz (znew w (2 + 1) 0) = zsz w + 1 := rfl
  have i0 : zi (znew w (2 + 1) 0) 1001 x = nI T.length := ((zeq.nw (by omega)).i _).trans k3
  refine r_iload_n dX9_element_100 rfl rfl ?_
  refine r_iconst dX9_element_101 kc_m1 rfl ?_
  refine r_icmp_ne (r := 109) dX9_element_102 (by decide) rfl (fun c_102 => ?_) (fun c_102 => ?_)
  · exact absurd rfl c_102
  · refine r_aconst_null dX9_element_105 rfl ?_
    refine r_goto (r := 115) dX9_element_106 (by decide) ?_
    refine r_astore (ls' := [_, _, _, _, _, _, _, _, _]) dX9_element_115 (Nat.le_of_ble_eq_true rfl) (zRv_null) rfl rfl ?_
    refine r_new (nc' := 8) (ns' := 58) 2 lnX9_9 (by decide) (by decide) dX9_element_117 rfl ?_
    refine r_dup dX9_element_120 (by first | rfl | exact zcat_rf _) rfl ?_
    refine r_aload_n dX9_element_121 rfl (zRv_ref _) rfl ?_
    refine r_getiv 9 1 1001 lfX9_15 (by first | (simp only [zKS]; first | assumption | exact zk_nw (by assumption) (by omega)) | assumption | exact zk_nw (by assumption) (by omega) | exact zk_nself _ _ _ | (simp [zKS, zNS, *]; done)) rfl rfl (by first | (simp only [zGS, zMS, Nat.reduceEqDiff, OfNat.ofNat_ne_ofNat, false_and, and_false, true_and, and_true, and_self, if_true, if_false, ite_true, ite_false, reduceIte, reduceCtorEq]; first | done | assumption | rfl) | assumption | exact z2_eq | exact z1_eq | (simp [zGS, zMS]; first | done | assumption) | rfl) dX9_element_122 rfl ?_
    refine r_aload dX9_element_125 rfl (zRv_null) rfl ?_
    refine r_iload_n dX9_element_127 rfl rfl ?_
    refine r_iload_n dX9_element_128 rfl rfl ?_
    refine r_iload dX9_element_129 rfl rfl ?_
    refine r_callI MX2_init 5 (a := 0) (a' := 1) [_, _, _, _, _] liX9_59 (sp_X2_init0 E sg (d - 1) (by omega) (zsz w) T.length a b c (by omega) _ rfl (zk_nself _ _ _)) rfl rfl (by first | exact Nat.le_of_ble_eq_true rfl | (simp [zcat_rf, Value.category]; done)) (by omega) (by decide) (by decide) dX9_element_131 rfl (fun v_ w_ sg_ hq_ => ?_)
    obtain ⟨rfl, rfl, g1, g2, g3, g4, g5, g6, g7, g8, g9⟩ := hq_
    obtain ⟨w3, hw3⟩ : ∃ y, y = w_ := ⟨_, rfl⟩
    subst hw3
    have z3 : ∀ b, b < zsz w → zeq w w3 b := fun b hb => (zeq.nw (by omega)).tr (g2 b hb)
    have kx : zk w3 x = 10 := (z3 x (by omega)).k.trans k1
    have ix : zi w3 1001 x = nI T.length := ((z3 x (by omega)).i _).trans k3
    have rx : zr w3 1000 x = some (x + 1) := ((z3 x (by omega)).r _).trans k2
    refine r_astore (ls' := [_, _, _, _, _, _, _, _, _]) dX9_element_134 (Nat.le_of_ble_eq_true rfl) (zRv_ref _) rfl rfl ?_
    refine r_aload dX9_element_136 rfl (zRv_null) rfl ?_
    refine r_ifnullZ (r := 151) dX9_element_138 (by decide) rfl (fun c_138 => ?_) (fun a_138 c_138 => ?_)
    · refine r_aload_n dX9_element_151 rfl (zRv_ref _) rfl ?_
      refine r_gets 9 0 1000 lfX9_11 (by first | (simp only [zKS]; first | assumption | exact zk_nw (by assumption) (by omega)) | assumption | exact zk_nw (by assumption) (by omega) | exact zk_nself _ _ _ | (simp [zKS, zNS, *]; done)) rfl rfl (by first | (simp only [zGS, Nat.reduceEqDiff, OfNat.ofNat_ne_ofNat, false_and, and_false, true_and, and_true, and_self, if_true, if_false, ite_true, ite_false, reduceIte, reduceCtorEq]; first | done | assumption) | assumption | exact z2_eq | (simp [zGS]; first | done | assumption)) dX9_element_152 rfl ?_
      refine r_aload_n dX9_element_155 rfl (zRv_ref _) rfl ?_
      refine r_getiv 9 1 1001 lfX9_15 (by first | (simp only [zKS]; first | assumption | exact zk_nw (by assumption) (by omega)) | assumption | exact zk_nw (by assumption) (by omega) | exact zk_nself _ _ _ | (simp [zKS, zNS, *]; done)) rfl rfl (by first | (simp only [zGS, zMS, Nat.reduceEqDiff, OfNat.ofNat_ne_ofNat, false_and, and_false, true_and, and_true, and_self, if_true, if_false, ite_true, ite_false, reduceIte, reduceCtorEq]; first | done | assumption | rfl) | assumption | exact z2_eq | exact z1_eq | (simp [zGS, zMS]; first | done | assumption) | rfl) dX9_element_156 rfl ?_
      refine r_aload dX9_element_159 rfl (zRv_ref _) rfl ?_
      refine r_aast7 T.length g3 (((z3 (x + 1) (by omega)).k).trans hEA.1) rfl (by rw [(z3 (x + 1) (by omega)).ln, hEA.2.1]; omega) (by omega) dX9_element_161 rfl ?_
      refine r_aload_n dX9_element_162 rfl (zRv_ref _) rfl ?_
      refine r_dup dX9_element_163 (by first | rfl | exact zcat_rf _) rfl ?_
      refine r_getiv 9 1 1001 lfX9_15 (by first | (simp only [zKS]; first | assumption | exact zk_nw (by assumption) (by omega)) | assumption | exact zk_nw (by assumption) (by omega) | exact zk_nself _ _ _ | (simp [zKS, zNS, *]; done)) rfl rfl (by first | (simp only [zGS, zMS, Nat.reduceEqDiff, OfNat.ofNat_ne_ofNat, false_and, and_false, true_and, and_true, and_self, if_true, if_false, ite_true, ite_false, reduceIte, reduceCtorEq]; first | done | assumption | rfl) | assumption | exact z2_eq | exact z1_eq | (simp [zGS, zMS]; first | done | assumption) | rfl) dX9_element_164 rfl ?_
      refine r_iconst dX9_element_167 kc_1 rfl ?_
      refine r_iaddN dX9_element_168 rfl ?_
      refine r_puti 9 1 1001 lfX9_15 (by first | (simp only [zKS]; first | assumption | exact zk_nw (by assumption) (by omega)) | assumption | exact zk_nw (by assumption) (by omega) | exact zk_nself _ _ _ | (simp [zKS, zNS, *]; done)) rfl rfl rfl (Or.inl rfl) dX9_element_169 rfl ?_
      refine r_aload_n dX9_element_172 rfl (zRv_ref _) rfl ?_
      refine r_iconst dX9_element_173 kc_1 rfl ?_
      refine r_putz 9 6 1006 (by first | exact Or.inl rfl | exact Or.inr rfl | exact zb01 _ | assumption) lfX9_42 (by first | (simp only [zKS]; first | assumption | exact zk_nw (by assumption) (by omega)) | assumption | exact zk_nw (by assumption) (by omega) | exact zk_nself _ _ _ | (simp [zKS, zNS, *]; done)) rfl rfl rfl (Or.inl rfl) dX9_element_174 rfl ?_
      refine r_aload_n dX9_element_177 rfl (zRv_ref _) rfl ?_
      refine r_getiv 9 1 1001 lfX9_15 (by first | (simp only [zKS]; first | assumption | exact zk_nw (by assumption) (by omega)) | assumption | exact zk_nw (by assumption) (by omega) | exact zk_nself _ _ _ | (simp [zKS, zNS, *]; done)) rfl rfl (by first | (simp only [zGS, zMS, Nat.reduceEqDiff, OfNat.ofNat_ne_ofNat, false_and, and_false, true_and, and_true, and_self, if_true, if_false, ite_true, ite_false, reduceIte, reduceCtorEq]; first | done | assumption | rfl) | assumption | exact z2_eq | exact z1_eq | (simp [zGS, zMS]; first | done | assumption) | rfl) dX9_element_178 rfl ?_
      refine r_iconst dX9_element_181 kc_1 rfl ?_
      refine r_isubN (by omega) dX9_element_182 rfl ?_
      refine x_iret rfl dX9_element_183 ?_
      obtain ⟨f1, f2, f3, f4⟩ := fin_el (w := w) (w3 := w3) (w4 := w3) (x := x) (n := T.length) rfl hxz z3 none (fun p q => by cases q) (fun b _ => zeq.rf) rfl
      have hT := hE.1.2.2.1
      obtain ⟨n1, n2, n3⟩ := new_sets hT.1 (v := (none, a, b, c)) hT.1.1 (fun p q => by cases q)
      obtain ⟨n4, n5, n6, n7⟩ := n3
      have f6 : newF w3 (zsz w) T.length none a b c 0 0 0 1 := ⟨g3, g4, g5, g6, g8, g9⟩
      refine hQ _ (el_I hB hR hok hE (none, a, b, c) (by omega) (fun p q => by cases q) ha hb hc g1 (fun b' h1 h2 h3 h4 => f1 b' h1 h2 h3 (fun p q => by cases q)) f2 ⟨f3.1.trans hEA.1, f3.2.1.trans hEA.2.1, f3.2.2.1, f3.2.2.2⟩ (fun q hq => by cases hq) ?_)
      rw [n4, n5, n6, n7]
      exact f6.z (fun j hj => f4 _ (by omega) (by omega))
    · cases c_138
