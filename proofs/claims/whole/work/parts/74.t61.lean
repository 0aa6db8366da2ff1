/-! ===== Reckoner.settleAt, its middle ===== -/
theorem fFin_ini (p : Nat) : fFin (iniV p) := by
  unfold iniV
  split
  · exact fFin_of (by decide +kernel)
  · exact fFin_of (by decide +kernel)
theorem fFin_whU {T : List PEl} {L : Nat → Nat → PLd} {V : Nat → Nat → UInt32} (h : isV T L V) (e p : Nat) : fFin (whU T V e p) := by
  unfold whU
  split
  · exact fFin_ini 0
  · exact h.2 _ _
theorem fFin_emU {T : List PEl} {L : Nat → Nat → PLd} {V : Nat → Nat → UInt32} (h : isV T L V) (e p : Nat) : fFin (emU T V e p) := by
  unfold emU
  split
  · split
    · exact fFin_ini 1
    · exact h.2 _ _
  · exact h.2 _ _
theorem wantP_lt (p : Nat) : wantP p < 2 := by unfold wantP; split <;> decide
theorem nI_ex (v : Int32) : ∃ n, v = nI n := ⟨v.toBitVec.toNat, by
  apply Int32.toBitVec.inj
  show v.toBitVec = BitVec.ofNat 32 v.toBitVec.toNat
  rw [BitVec.ofNat_toNat, BitVec.setWidth_eq]⟩
theorem ech.unit {X : Nat → Prop} {w : ZW} {k wanted : Nat} {wh em : UInt32} (h : X k) : ech X w (unitW w k wanted wh em) := ech.tr (ech.tr (ech.si (f := 501) (v := nI wanted) h) (ech.sf (f := 503) (v := wh) h) (fun _ q => q)) (ech.sf (f := 502) (v := em) h) (fun _ q => q)
theorem rsa_3 (E : ZE) (sg : ZM) (d x nr : Nat) (T : List PEl) (A : Nat → Nat) (DC : Nat → PDecl → Prop) (RG : Nat → Nat → Prop) (L : Nat → Nat → PLd) (V : Nat → Nat → UInt32) (hV : isV T L V) (w0 w : ZW) (e p : Nat) (he : e < T.length) (hp : p < 6) (hs : seQ w0 w x nr T A DC RG L V) (a : Nat) (x5 x6 x8 : Option Value) (kd : Nat) (hkd : kd < 3) (v : UInt32) (h1 : zi w 501 (x + 7) = nI (wantP p)) (h2 : za w (x + 7 + 2) 0 = nI kd) (h3 : kd = wantP p → zg w (x + 7 + 3) 0 = v) (h4 : calV T L V e p = if kd = wantP p then (2, v) else (3, stdV T V e p)) : RW E MX4_settleAt 139 [some (.ref (x + 7)), some (.ref (A e)), some (.int (nI p)), some (.ref (A e + 1)), some (.ref a), x5, x6, some (.float (stdV T V e p)), x8] [] w sg d 0 0 (PN E (saQ w0 sg x nr T A DC RG L V e p)) := by
  have hwl := wantP_lt p
  obtain ⟨⟨k1, k2, k3, k4, k5, k6⟩, ⟨a1, a2, a3, a4, a5⟩, l1, l2, l3, l4, l5⟩ := hs.2.1.2.1
  by_cases hk : kd = wantP p
  · rw [if_pos hk] at h4
    have h5 := h3 hk
    refine r_aload_n dX4_settleAt_139 rfl (zRv_ref _) rfl ?_
    refine r_gets 4 4 504 lfX4_17 (by first | (simp only [zKS]; first | assumption) | assumption | exact zk_nself _ _ _ | (simp [zKS, zNS, *]; done)) rfl rfl (by first | (simp only [zGS, Nat.reduceEqDiff, OfNat.ofNat_ne_ofNat, false_and, and_false, true_and, and_true, and_self, if_true, if_false, ite_true, ite_false, reduceIte, reduceCtorEq]; first | done | assumption) | assumption | exact z2_eq | (simp [zGS]; first | done | assumption)) dX4_settleAt_140 rfl ?_
    refine r_iconst dX4_settleAt_143 kc_0 rfl ?_
    refine r_ialdv 0 a2 rfl (by omega) (by omega) h2 dX4_settleAt_144 rfl ?_
    refine r_aload_n dX4_settleAt_145 rfl (zRv_ref _) rfl ?_
    refine r_getiv 4 1 501 lfX4_69 (by first | (simp only [zKS]; first | assumption) | assumption | exact zk_nself _ _ _ | (simp [zKS, zNS, *]; done)) rfl rfl (by first | (simp only [zGS, zMS, Nat.reduceEqDiff, OfNat.ofNat_ne_ofNat, false_and, and_false, true_and, and_true, and_self, if_true, if_false, ite_true, ite_false, reduceIte, reduceCtorEq]; first | done | assumption | rfl) | assumption | exact z2_eq | exact z1_eq | (simp [zGS, zMS]; first | done | assumption) | rfl) dX4_settleAt_146 rfl ?_
    refine r_icmp_neN (by omega) (by omega) (r := 156) dX4_settleAt_149 (by decide) rfl (fun c_149 => ?_) (fun c_149 => ?_)
    · exact absurd hk c_149
    · refine r_iconst dX4_settleAt_152 kc_2 rfl ?_
      refine r_goto (r := 157) dX4_settleAt_153 (by decide) ?_
      refine r_istore (ls' := [_, _, _, _, _, _, _, _, _]) dX4_settleAt_157 (Nat.le_of_ble_eq_true rfl) rfl rfl ?_
      refine r_aload_n dX4_settleAt_159 rfl (zRv_ref _) rfl ?_
      refine r_gets 4 4 504 lfX4_17 (by first | (simp only [zKS]; first | assumption) | assumption | exact zk_nself _ _ _ | (simp [zKS, zNS, *]; done)) rfl rfl (by first | (simp only [zGS, Nat.reduceEqDiff, OfNat.ofNat_ne_ofNat, false_and, and_false, true_and, and_true, and_self, if_true, if_false, ite_true, ite_false, reduceIte, reduceCtorEq]; first | done | assumption) | assumption | exact z2_eq | (simp [zGS]; first | done | assumption)) dX4_settleAt_160 rfl ?_
      refine r_iconst dX4_settleAt_163 kc_0 rfl ?_
      refine r_ialdv 0 a2 rfl (by omega) (by omega) h2 dX4_settleAt_164 rfl ?_
      refine r_aload_n dX4_settleAt_165 rfl (zRv_ref _) rfl ?_
      refine r_getiv 4 1 501 lfX4_69 (by first | (simp only [zKS]; first | assumption) | assumption | exact zk_nself _ _ _ | (simp [zKS, zNS, *]; done)) rfl rfl (by first | (simp only [zGS, zMS, Nat.reduceEqDiff, OfNat.ofNat_ne_ofNat, false_and, and_false, true_and, and_true, and_self, if_true, if_false, ite_true, ite_false, reduceIte, reduceCtorEq]; first | done | assumption | rfl) | assumption | exact z2_eq | exact z1_eq | (simp [zGS, zMS]; first | done | assumption) | rfl) dX4_settleAt_166 rfl ?_
      refine r_icmp_neN (by omega) (by omega) (r := 181) dX4_settleAt_169 (by decide) rfl (fun c_169 => ?_) (fun c_169 => ?_)
      · exact absurd hk c_169
      · refine r_aload_n dX4_settleAt_172 rfl (zRv_ref _) rfl ?_
        refine r_gets 4 5 505 lfX4_21 (by first | (simp only [zKS]; first | assumption) | assumption | exact zk_nself _ _ _ | (simp [zKS, zNS, *]; done)) rfl rfl (by first | (simp only [zGS, Nat.reduceEqDiff, OfNat.ofNat_ne_ofNat, false_and, and_false, true_and, and_true, and_self, if_true, if_false, ite_true, ite_false, reduceIte, reduceCtorEq]; first | done | assumption) | assumption | exact z2_eq | (simp [zGS]; first | done | assumption)) dX4_settleAt_173 rfl ?_
        refine r_iconst dX4_settleAt_176 kc_0 rfl ?_
        refine r_faldv 0 a3 rfl (by omega) (by omega) h5 dX4_settleAt_177 rfl ?_
        refine r_goto (r := 183) dX4_settleAt_178 (by decide) ?_
        refine r_fstore (ls' := [_, _, _, _, _, _, _, _, _]) dX4_settleAt_183 (Nat.le_of_ble_eq_true rfl) rfl rfl ?_
        exact rsa_2 E sg d x nr T A DC RG L V hV w0 w e p he hp hs _ _ _ 2 v (by rw [h4]) (by rw [h4])
  · rw [if_neg hk] at h4
    refine r_aload_n dX4_settleAt_139 rfl (zRv_ref _) rfl ?_
    refine r_gets 4 4 504 lfX4_17 (by first | (simp only [zKS]; first | assumption) | assumption | exact zk_nself _ _ _ | (simp [zKS, zNS, *]; done)) rfl rfl (by first | (simp only [zGS, Nat.reduceEqDiff, OfNat.ofNat_ne_ofNat, false_and, and_false, true_and, and_true, and_self, if_true, if_false, ite_true, ite_false, reduceIte, reduceCtorEq]; first | done | assumption) | assumption | exact z2_eq | (simp [zGS]; first | done | assumption)) dX4_settleAt_140 rfl ?_
    refine r_iconst dX4_settleAt_143 kc_0 rfl ?_
    refine r_ialdv 0 a2 rfl (by omega) (by omega) h2 dX4_settleAt_144 rfl ?_
    refine r_aload_n dX4_settleAt_145 rfl (zRv_ref _) rfl ?_
    refine r_getiv 4 1 501 lfX4_69 (by first | (simp only [zKS]; first | assumption) | assumption | exact zk_nself _ _ _ | (simp [zKS, zNS, *]; done)) rfl rfl (by first | (simp only [zGS, zMS, Nat.reduceEqDiff, OfNat.ofNat_ne_ofNat, false_and, and_false, true_and, and_true, and_self, if_true, if_false, ite_true, ite_false, reduceIte, reduceCtorEq]; first | done | assumption | rfl) | assumption | exact z2_eq | exact z1_eq | (simp [zGS, zMS]; first | done | assumption) | rfl) dX4_settleAt_146 rfl ?_
    refine r_icmp_neN (by omega) (by omega) (r := 156) dX4_settleAt_149 (by decide) rfl (fun c_149 => ?_) (fun c_149 => ?_)
    · refine r_iconst dX4_settleAt_156 kc_3 rfl ?_
      refine r_istore (ls' := [_, _, _, _, _, _, _, _, _]) dX4_settleAt_157 (Nat.le_of_ble_eq_true rfl) rfl rfl ?_
      refine r_aload_n dX4_settleAt_159 rfl (zRv_ref _) rfl ?_
      refine r_gets 4 4 504 lfX4_17 (by first | (simp only [zKS]; first | assumption) | assumption | exact zk_nself _ _ _ | (simp [zKS, zNS, *]; done)) rfl rfl (by first | (simp only [zGS, Nat.reduceEqDiff, OfNat.ofNat_ne_ofNat, false_and, and_false, true_and, and_true, and_self, if_true, if_false, ite_true, ite_false, reduceIte, reduceCtorEq]; first | done | assumption) | assumption | exact z2_eq | (simp [zGS]; first | done | assumption)) dX4_settleAt_160 rfl ?_
      refine r_iconst dX4_settleAt_163 kc_0 rfl ?_
      refine r_ialdv 0 a2 rfl (by omega) (by omega) h2 dX4_settleAt_164 rfl ?_
      refine r_aload_n dX4_settleAt_165 rfl (zRv_ref _) rfl ?_
      refine r_getiv 4 1 501 lfX4_69 (by first | (simp only [zKS]; first | assumption) | assumption | exact zk_nself _ _ _ | (simp [zKS, zNS, *]; done)) rfl rfl (by first | (simp only [zGS, zMS, Nat.reduceEqDiff, OfNat.ofNat_ne_ofNat, false_and, and_false, true_and, and_true, and_self, if_true, if_false, ite_true, ite_false, reduceIte, reduceCtorEq]; first | done | assumption | rfl) | assumption | exact z2_eq | exact z1_eq | (simp [zGS, zMS]; first | done | assumption) | rfl) dX4_settleAt_166 rfl ?_
      refine r_icmp_neN (by omega) (by omega) (r := 181) dX4_settleAt_169 (by decide) rfl (fun c_169 => ?_) (fun c_169 => ?_)
      · refine r_fload dX4_settleAt_181 rfl rfl ?_
        refine r_fstore (ls' := [_, _, _, _, _, _, _, _, _]) dX4_settleAt_183 (Nat.le_of_ble_eq_true rfl) rfl rfl ?_
        exact rsa_2 E sg d x nr T A DC RG L V hV w0 w e p he hp hs _ _ _ 3 _ (by rw [h4]) (by rw [h4])
      · exact absurd c_169 hk
    · exact absurd c_149 hk
theorem rsa_1 (E : ZE) (sg : ZM) (d : Nat) (hd : 4 ≤ d) (x nr : Nat) (T : List PEl) (A : Nat → Nat) (DC : Nat → PDecl → Prop) (RG : Nat → Nat → Prop) (hWD : ∀ a D, DC a D → D.2.1 = 2 → okD D) (L : Nat → Nat → PLd) (V : Nat → Nat → UInt32) (hV : isV T L V) (w : ZW) (e p : Nat) (he : e < T.length) (hp : p < 6) (hC : cchE w x nr T A DC RG L V) (hq1 : ∀ q, tP T e = some q → zg w (A q + 5) p = V q p) (hq2 : p ≠ 1 → zg w (A e + 5) 1 = V e 1) (l x8 : Option Value) (hl : l = some .null ∧ L e p = none ∨ ∃ a k D wt, l = some (.ref a) ∧ L e p = some (k, D, wt) ∧ DC a D) : RW E MX4_settleAt 81 [some (.ref (x + 7)), some (.ref (A e)), some (.int (nI p)), some (.ref (A e + 1)), l, some (.float (iniV p)), some (.float (inhV T V e p)), some (.float (stdV T V e p)), x8] [] w sg d 0 0 (PN E (saQ w sg x nr T A DC RG L V e p)) := by
  have hs0 := seQ.rf hC
  obtain ⟨⟨hE, hL, K, hK1, hK2⟩, hR, hc⟩ := hC
  rcases hl with ⟨rfl, hLe⟩ | ⟨a, k, D, wt, rfl, hLe, hDC⟩
  · have c1 : calV T L V e p = (0, stdV T V e p) := by unfold calV; rw [hLe]
    refine r_iconst dX4_settleAt_81 kc_0 rfl ?_
    refine r_istore (ls' := [_, _, _, _, _, _, _, _, _]) dX4_settleAt_82 (Nat.le_of_ble_eq_true rfl) rfl rfl ?_
    refine r_aload dX4_settleAt_84 rfl (by first | exact zRv_ref _ | exact zRv_null | exact zRv_rf _ | assumption) rfl ?_
    refine r_ifnullZ (r := 121) dX4_settleAt_86 (by decide) rfl (fun c_86 => ?_) (fun a_86 c_86 => ?_)
    · refine r_aload dX4_settleAt_121 rfl (by first | exact zRv_ref _ | exact zRv_null | exact zRv_rf _ | assumption) rfl ?_
      refine r_ifnullZ (r := 185) dX4_settleAt_123 (by decide) rfl (fun c_123 => ?_) (fun a_123 c_123 => ?_)
      · exact rsa_2 E sg d x nr T A DC RG L V hV w w e p he hp hs0 _ _ _ 0 _ (by rw [c1]) (by rw [c1])
      · cases c_123
    · cases c_86
  · obtain ⟨q1, q2, q3, lo, hi, q4, q5⟩ := hE.2.2.2.2.2 a D hDC
    obtain ⟨-, -, i1, i2, i3, i4, -⟩ := q5
    by_cases h2 : D.2.1 = 2
    · have e1 : ech (XD x) w (unitW w (x + 7) (wantP p) (whU T V e p) (emU T V e p)) := ech.unit ⟨by omega, by omega⟩
      obtain ⟨w2, hw2⟩ : ∃ y, y = unitW w (x + 7) (wantP p) (whU T V e p) (emU T V e p) := ⟨_, rfl⟩
      rw [← hw2] at e1
      obtain ⟨oc, hoc⟩ := nI_ex (zi w 509 (x + 7))
      have hp1 : passE w2 x nr T A DC RG L K (wantP p) (emU T V e p) (whU T V e p) oc := by
        refine ⟨⟨hE.d e1, hL.d hE e1, hK1.d hE e1⟩, by rw [hw2]; exact hR, ?_, ?_, ?_, ?_⟩
        · rw [hw2]
          simp [unitW, zi_zsf, zi_zsi]
        · rw [hw2]
          simp [unitW, zf_zsf]
        · rw [hw2]
          simp [unitW, zf_zsf]
        · rw [hw2]
          simp [unitW, zi_zsf, zi_zsi]
          exact hoc
      have kk : zk w (x + 7) = 5 := hR.1.1
      have kk2 : zk (unitW w (x + 7) (wantP p) (whU T V e p) (emU T V e p)) (x + 7) = 5 := kk
      have hsu := sp_setUnits E sg (d - 1) (x + 7) e p hp w hR x nr T A DC RG hE he V hq1 hq2
      rw [← hw2] at hsu
      refine r_iconst dX4_settleAt_81 kc_0 rfl ?_
      refine r_istore (ls' := [_, _, _, _, _, _, _, _, _]) dX4_settleAt_82 (Nat.le_of_ble_eq_true rfl) rfl rfl ?_
      refine r_aload dX4_settleAt_84 rfl (by first | exact zRv_ref _ | exact zRv_null | exact zRv_rf _ | assumption) rfl ?_
      refine r_ifnullR (r := 121) dX4_settleAt_86 (by decide) rfl (fun c_86 => ?_) (fun a_86 c_86 => ?_)
      · cases c_86
      · refine r_aload dX4_settleAt_89 rfl (by first | exact zRv_ref _ | exact zRv_null | exact zRv_rf _ | assumption) rfl ?_
        refine r_getiv 1 1 201 lfX4_56 (by first | (simp only [zKS]; first | assumption) | assumption | exact zk_nself _ _ _ | (simp [zKS, zNS, *]; done)) rfl rfl (by first | (simp only [zGS, zMS, Nat.reduceEqDiff, OfNat.ofNat_ne_ofNat, false_and, and_false, true_and, and_true, and_self, if_true, if_false, ite_true, ite_false, reduceIte, reduceCtorEq]; first | done | assumption | rfl) | assumption | exact z2_eq | exact z1_eq | (simp [zGS, zMS]; first | done | assumption) | rfl) dX4_settleAt_91 rfl ?_
        refine r_iconst dX4_settleAt_94 kc_2 rfl ?_
        refine r_icmp_eqN (by omega) (by omega) (r := 121) dX4_settleAt_95 (by decide) rfl (fun c_95 => ?_) (fun c_95 => ?_)
        · refine r_aload dX4_settleAt_121 rfl (by first | exact zRv_ref _ | exact zRv_null | exact zRv_rf _ | assumption) rfl ?_
          refine r_ifnullR (r := 185) dX4_settleAt_123 (by decide) rfl (fun c_123 => ?_) (fun a_123 c_123 => ?_)
          · cases c_123
          · refine r_aload_n dX4_settleAt_126 rfl (zRv_ref _) rfl ?_
            refine r_aload_n dX4_settleAt_127 rfl (by first | exact zRv_ref _ | exact zRv_null | exact zRv_rf _ | assumption) rfl ?_
            refine r_iload_n dX4_settleAt_128 rfl rfl ?_
            refine r_callV MX4_setUnits 2 [_, _] lvX4_62 (Or.inl ⟨4, by decide, (by first | (simp only [zKS]; first | assumption) | assumption | exact zk_nself _ _ _ | (simp [zKS, zNS, *]; done)), rfl⟩) (hsu) rfl rfl (by first | exact Nat.le_of_ble_eq_true rfl | (simp [zcat_rf, Value.category]; done)) (by omega) (Nat.le_of_eq (Nat.zero_add _)) (Nat.le_of_eq (Nat.zero_add _)) dX4_settleAt_129 rfl (fun v_ w_ sg_ hq_ => ?_)
            obtain ⟨rfl, rfl, rfl⟩ := hq_
            refine r_aload_n dX4_settleAt_132 rfl (zRv_ref _) rfl ?_
            refine r_aload dX4_settleAt_133 rfl (by first | exact zRv_ref _ | exact zRv_null | exact zRv_rf _ | assumption) rfl ?_
            refine r_aload_n dX4_settleAt_135 rfl (by first | exact zRv_ref _ | exact zRv_null | exact zRv_rf _ | assumption) rfl ?_
            refine r_callV MX4_workOut 2 [_, _] lvX4_65 (Or.inl ⟨4, by decide, (by first | (simp only [zKS]; first | assumption) | assumption | exact zk_nself _ _ _ | (simp [zKS, zNS, *]; done)), rfl⟩) (sp_workOut E sg (d - 1) (by omega) x nr T A DC RG hWD L (wantP p) (wantP_lt p) (emU T V e p) (whU T V e p) (fFin_emU hV e p) (fFin_whU hV e p) a D hDC h2 e he _ K _ hp1 hK2) rfl rfl (by first | exact Nat.le_of_ble_eq_true rfl | (simp [zcat_rf, Value.category]; done)) (by omega) (Nat.le_of_eq (Nat.zero_add _)) (Nat.le_of_eq (Nat.zero_add _)) dX4_settleAt_136 rfl (fun v_ w_ sg_ hq_ => ?_)
            obtain ⟨rfl, rfl, g1, ⟨K2, g2, g3⟩, g4⟩ := hq_
            rcases g4 with ⟨f, u, g5, g6, g7, g8, g9⟩ | ⟨g5, g6⟩
            · refine rsa_3 E sg d x nr T A DC RG L V hV w _ e p he hp ((hs0.x0 (e1.to (fun a q => Or.inl q)) hp1 hK2).x0 g1 g2 g3) a _ _ _ u.1 (by omega) u.2 g2.2.2.1 g8 (fun _ => g9) ?_
              unfold calV
              rw [hLe]
              simp only []
              rw [if_pos h2, evR_some g5]
            · refine rsa_3 E sg d x nr T A DC RG L V hV w _ e p he hp ((hs0.x0 (e1.to (fun a q => Or.inl q)) hp1 hK2).x0 g1 g2 g3) a _ _ _ 2 (by omega) 0 g2.2.2.1 g6 (fun q => absurd q (by have := wantP_lt p; omega)) ?_
              unfold calV
              rw [hLe]
              simp only []
              rw [if_pos h2, evR_none g5, if_neg (by have := wantP_lt p; omega)]
        · exact absurd h2 c_95
    · skip
      refine r_iconst dX4_settleAt_81 kc_0 rfl ?_
      refine r_istore (ls' := [_, _, _, _, _, _, _, _, _]) dX4_settleAt_82 (Nat.le_of_ble_eq_true rfl) rfl rfl ?_
      refine r_aload dX4_settleAt_84 rfl (by first | exact zRv_ref _ | exact zRv_null | exact zRv_rf _ | assumption) rfl ?_
      refine r_ifnullR (r := 121) dX4_settleAt_86 (by decide) rfl (fun c_86 => ?_) (fun a_86 c_86 => ?_)
      · cases c_86
      · refine r_aload dX4_settleAt_89 rfl (by first | exact zRv_ref _ | exact zRv_null | exact zRv_rf _ | assumption) rfl ?_
        refine r_getiv 1 1 201 lfX4_56 (by first | (simp only [zKS]; first | assumption) | assumption | exact zk_nself _ _ _ | (simp [zKS, zNS, *]; done)) rfl rfl (by first | (simp only [zGS, zMS, Nat.reduceEqDiff, OfNat.ofNat_ne_ofNat, false_and, and_false, true_and, and_true, and_self, if_true, if_false, ite_true, ite_false, reduceIte, reduceCtorEq]; first | done | assumption | rfl) | assumption | exact z2_eq | exact z1_eq | (simp [zGS, zMS]; first | done | assumption) | rfl) dX4_settleAt_91 rfl ?_
        refine r_iconst dX4_settleAt_94 kc_2 rfl ?_
        refine r_icmp_eqN (by omega) (by omega) (r := 121) dX4_settleAt_95 (by decide) rfl (fun c_95 => ?_) (fun c_95 => ?_)
        · exact absurd c_95 h2
        · refine r_iconst dX4_settleAt_98 kc_1 rfl ?_
          refine r_istore (ls' := [_, _, _, _, _, _, _, _, _]) dX4_settleAt_99 (Nat.le_of_ble_eq_true rfl) rfl rfl ?_
          refine r_aload dX4_settleAt_101 rfl (by first | exact zRv_ref _ | exact zRv_null | exact zRv_rf _ | assumption) rfl ?_
          refine r_getiv 1 1 201 lfX4_56 (by first | (simp only [zKS]; first | assumption) | assumption | exact zk_nself _ _ _ | (simp [zKS, zNS, *]; done)) rfl rfl (by first | (simp only [zGS, zMS, Nat.reduceEqDiff, OfNat.ofNat_ne_ofNat, false_and, and_false, true_and, and_true, and_self, if_true, if_false, ite_true, ite_false, reduceIte, reduceCtorEq]; first | done | assumption | rfl) | assumption | exact z2_eq | exact z1_eq | (simp [zGS, zMS]; first | done | assumption) | rfl) dX4_settleAt_103 rfl ?_
          refine r_if_neN (by omega) (r := 114) dX4_settleAt_106 (by decide) rfl (fun c_106 => ?_) (fun c_106 => ?_)
          · refine r_fload dX4_settleAt_114 rfl rfl ?_
            refine r_fstore (ls' := [_, _, _, _, _, _, _, _, _]) dX4_settleAt_116 (Nat.le_of_ble_eq_true rfl) rfl rfl ?_
            refine r_goto (r := 185) dX4_settleAt_118 (by decide) ?_
            exact rsa_2 E sg d x nr T A DC RG L V hV w w e p he hp hs0 _ _ _ 1 _ (by unfold calV; rw [hLe]; simp only []; rw [if_neg h2]) (by unfold calV; rw [hLe]; simp only []; rw [if_neg h2, if_neg c_106])
          · refine r_fload dX4_settleAt_109 rfl rfl ?_
            refine r_goto (r := 116) dX4_settleAt_111 (by decide) ?_
            refine r_fstore (ls' := [_, _, _, _, _, _, _, _, _]) dX4_settleAt_116 (Nat.le_of_ble_eq_true rfl) rfl rfl ?_
            refine r_goto (r := 185) dX4_settleAt_118 (by decide) ?_
            exact rsa_2 E sg d x nr T A DC RG L V hV w w e p he hp hs0 _ _ _ 1 _ (by unfold calV; rw [hLe]; simp only []; rw [if_neg h2]) (by unfold calV; rw [hLe]; simp only []; rw [if_neg h2, if_pos c_106])
