/-! ===== Reckoner.open, setUnits ===== -/
def opnW (w : ZW) (k s oc n : Nat) (e : Nat) : ZW := zsi (zsa (zsq (zsa w (s + 6) (n - 6) (nI 3)) (k + 4) oc (some e)) (k + 5) oc (nI n)) 509 k (nI (oc + 1))
theorem sp_open (E : ZE) (sg : ZM) (d k n e s oc : Nat) (hn : 6 ≤ n ∧ n < 10) (w : ZW) (hk : isRk w k) (hes : zk w e = 3) (hst : zr w 309 e = some s) (hs : isSty w s) (hoc : zi w 509 k = nI oc) (ho : oc < 96) : CallQ E MX4_open [.ref k, .int (nI n), .ref e] w sg d 0 0 (fun v w' sg' => v = none ∧ sg = sg' ∧ w' = opnW w k s oc n e) := by
  obtain ⟨⟨k1, k2, k3, k4, k5, k6⟩, ⟨a1, a2, a3, a4, a5⟩, l1, l2, l3, l4, l5⟩ := hk
  obtain ⟨⟨s1, s2, s3, s4, s5, s6, s7, s8⟩, ⟨t1, t2, t3, t4, t5, t6, t7⟩, m1, m2, m3, m4, m5, m6, m7⟩ := hs
  refine CallQ.of rfl (by simp [Value.category]) (Nat.le_of_ble_eq_true rfl) ?_
  refine r_aload_n dX4_open_0 rfl (by first | exact zRv_ref _ | exact zRv_null | exact zRv_rf _ | assumption) rfl ?_
  refine r_gets 2 9 309 lfX4_39 (by first | (simp only [zKS]; first | assumption) | assumption | exact zk_nself _ _ _ | (simp [zKS, zNS, *]; done)) rfl rfl (by first | (simp only [zGS, Nat.reduceEqDiff, OfNat.ofNat_ne_ofNat, false_and, and_false, true_and, and_true, and_self, if_true, if_false, ite_true, ite_false, reduceIte, reduceCtorEq]; first | done | assumption) | assumption | exact z2_eq | (simp [zGS]; first | done | assumption)) dX4_open_1 rfl ?_
  refine r_gets 7 5 805 lfX4_79 (by first | (simp only [zKS]; first | assumption) | assumption | exact zk_nself _ _ _ | (simp [zKS, zNS, *]; done)) rfl rfl (by first | (simp only [zGS, Nat.reduceEqDiff, OfNat.ofNat_ne_ofNat, false_and, and_false, true_and, and_true, and_self, if_true, if_false, ite_true, ite_false, reduceIte, reduceCtorEq]; first | done | assumption) | assumption | exact z2_eq | (simp [zGS]; first | done | assumption)) dX4_open_4 rfl ?_
  refine r_iload_n dX4_open_7 rfl rfl ?_
  refine r_bipush dX4_open_8 kb_6 rfl ?_
  refine r_isubN (by omega) dX4_open_10 rfl ?_
  refine r_iconst dX4_open_11 kc_3 rfl ?_
  refine r_iast (n - 6) t6 rfl (by show n - 6 < zln w (s + 6); omega) (by omega) dX4_open_12 rfl ?_
  refine r_aload_n dX4_open_13 rfl (zRv_ref _) rfl ?_
  refine r_getiv 4 9 509 lfX4_88 (by first | (simp only [zKS]; first | assumption) | assumption | exact zk_nself _ _ _ | (simp [zKS, zNS, *]; done)) rfl rfl (by first | (simp only [zGS, zMS, Nat.reduceEqDiff, OfNat.ofNat_ne_ofNat, false_and, and_false, true_and, and_true, and_self, if_true, if_false, ite_true, ite_false, reduceIte, reduceCtorEq]; first | done | assumption | rfl) | assumption | exact z2_eq | exact z1_eq | (simp [zGS, zMS]; first | done | assumption) | rfl) dX4_open_14 rfl ?_
  refine r_aload_n dX4_open_17 rfl (zRv_ref _) rfl ?_
  refine r_gets 4 8 508 lfX4_28 (by first | (simp only [zKS]; first | assumption) | assumption | exact zk_nself _ _ _ | (simp [zKS, zNS, *]; done)) rfl rfl (by first | (simp only [zGS, Nat.reduceEqDiff, OfNat.ofNat_ne_ofNat, false_and, and_false, true_and, and_true, and_self, if_true, if_false, ite_true, ite_false, reduceIte, reduceCtorEq]; first | done | assumption) | assumption | exact z2_eq | (simp [zGS]; first | done | assumption)) dX4_open_18 rfl ?_
  refine r_alenv 2 (by decide) (by first | (simp only [zKS]; first | assumption) | assumption | exact zk_nself _ _ _ | (simp [zKS, zNS, *]; done)) (by first | (simp only [zGS, zMS, Nat.reduceEqDiff, OfNat.ofNat_ne_ofNat, false_and, and_false, true_and, and_true, and_self, if_true, if_false, ite_true, ite_false, reduceIte, reduceCtorEq]; first | done | assumption | rfl) | assumption | exact z2_eq | exact z1_eq | (simp [zGS, zMS]; first | done | assumption) | rfl) dX4_open_21 rfl ?_
  refine r_icmp_geN (by omega) (by omega) (r := 55) dX4_open_22 (by decide) rfl (fun c_22 => ?_) (fun c_22 => ?_)
  · exact absurd c_22 (by omega)
  · refine r_aload_n dX4_open_25 rfl (zRv_ref _) rfl ?_
    refine r_gets 4 7 507 lfX4_25 (by first | (simp only [zKS]; first | assumption) | assumption | exact zk_nself _ _ _ | (simp [zKS, zNS, *]; done)) rfl rfl (by first | (simp only [zGS, Nat.reduceEqDiff, OfNat.ofNat_ne_ofNat, false_and, and_false, true_and, and_true, and_self, if_true, if_false, ite_true, ite_false, reduceIte, reduceCtorEq]; first | done | assumption) | assumption | exact z2_eq | (simp [zGS]; first | done | assumption)) dX4_open_26 rfl ?_
    refine r_aload_n dX4_open_29 rfl (zRv_ref _) rfl ?_
    refine r_getiv 4 9 509 lfX4_88 (by first | (simp only [zKS]; first | assumption) | assumption | exact zk_nself _ _ _ | (simp [zKS, zNS, *]; done)) rfl rfl (by first | (simp only [zGS, zMS, Nat.reduceEqDiff, OfNat.ofNat_ne_ofNat, false_and, and_false, true_and, and_true, and_self, if_true, if_false, ite_true, ite_false, reduceIte, reduceCtorEq]; first | done | assumption | rfl) | assumption | exact z2_eq | exact z1_eq | (simp [zGS, zMS]; first | done | assumption) | rfl) dX4_open_30 rfl ?_
    refine r_aload_n dX4_open_33 rfl (by first | exact zRv_ref _ | exact zRv_null | exact zRv_rf _ | assumption) rfl ?_
    refine r_aast7 oc hes a4 rfl (by show oc < zln w (k + 4); omega) (by omega) dX4_open_34 rfl ?_
    refine r_aload_n dX4_open_35 rfl (zRv_ref _) rfl ?_
    refine r_gets 4 8 508 lfX4_28 (by first | (simp only [zKS]; first | assumption) | assumption | exact zk_nself _ _ _ | (simp [zKS, zNS, *]; done)) rfl rfl (by first | (simp only [zGS, Nat.reduceEqDiff, OfNat.ofNat_ne_ofNat, false_and, and_false, true_and, and_true, and_self, if_true, if_false, ite_true, ite_false, reduceIte, reduceCtorEq]; first | done | assumption) | assumption | exact z2_eq | (simp [zGS]; first | done | assumption)) dX4_open_36 rfl ?_
    refine r_aload_n dX4_open_39 rfl (zRv_ref _) rfl ?_
    refine r_getiv 4 9 509 lfX4_88 (by first | (simp only [zKS]; first | assumption) | assumption | exact zk_nself _ _ _ | (simp [zKS, zNS, *]; done)) rfl rfl (by first | (simp only [zGS, zMS, Nat.reduceEqDiff, OfNat.ofNat_ne_ofNat, false_and, and_false, true_and, and_true, and_self, if_true, if_false, ite_true, ite_false, reduceIte, reduceCtorEq]; first | done | assumption | rfl) | assumption | exact z2_eq | exact z1_eq | (simp [zGS, zMS]; first | done | assumption) | rfl) dX4_open_40 rfl ?_
    refine r_iload_n dX4_open_43 rfl rfl ?_
    refine r_iast oc a5 rfl (by show oc < zln w (k + 5); omega) (by omega) dX4_open_44 rfl ?_
    refine r_aload_n dX4_open_45 rfl (zRv_ref _) rfl ?_
    refine r_dup dX4_open_46 (by first | rfl | exact zcat_rf _) rfl ?_
    refine r_getiv 4 9 509 lfX4_88 (by first | (simp only [zKS]; first | assumption) | assumption | exact zk_nself _ _ _ | (simp [zKS, zNS, *]; done)) rfl rfl (by first | (simp only [zGS, zMS, Nat.reduceEqDiff, OfNat.ofNat_ne_ofNat, false_and, and_false, true_and, and_true, and_self, if_true, if_false, ite_true, ite_false, reduceIte, reduceCtorEq]; first | done | assumption | rfl) | assumption | exact z2_eq | exact z1_eq | (simp [zGS, zMS]; first | done | assumption) | rfl) dX4_open_47 rfl ?_
    refine r_iconst dX4_open_50 kc_1 rfl ?_
    refine r_iaddN dX4_open_51 rfl ?_
    refine r_puti 4 9 509 lfX4_88 (by first | (simp only [zKS]; first | assumption) | assumption | exact zk_nself _ _ _ | (simp [zKS, zNS, *]; done)) rfl rfl rfl (Or.inl rfl) dX4_open_52 rfl ?_
    refine r_vret rfl dX4_open_55 ?_
    exact ⟨rfl, rfl, rfl⟩
def wantP (p : Nat) : Nat := if p = 0 ∨ p = 5 then 0 else 1
/-- the parent's value, 0 for the root -/
def whU (T : List PEl) (V : Nat → Nat → UInt32) (e p : Nat) : UInt32 := match tP T e with
  | none => FP.fconst0
  | some q => V q p
def emU (T : List PEl) (V : Nat → Nat → UInt32) (e p : Nat) : UInt32 := if p = 1 then (match tP T e with
  | none => 1098907648
  | some q => V q 1) else V e 1
def unitW (w : ZW) (k wanted : Nat) (whole em : UInt32) : ZW := zsf (zsf (zsi w 501 k (nI wanted)) 503 k whole) 502 k em
theorem sp_setUnits (E : ZE) (sg : ZM) (d k e p : Nat) (hp : p < 6) (w : ZW) (hk : isRk w k) (x nr : Nat) (T : List PEl) (A : Nat → Nat) (DC : Nat → PDecl → Prop) (RG : Nat → Nat → Prop) (hE : envA w x nr T A DC RG) (he : e < T.length) (V : Nat → Nat → UInt32) (hV1 : ∀ q, tP T e = some q → zg w (A q + 5) p = V q p) (hV2 : p ≠ 1 → zg w (A e + 5) 1 = V e 1) : CallQ E MX4_setUnits [.ref k, .ref (A e), .int (nI p)] w sg d 0 0 (fun v w' sg' => v = none ∧ sg = sg' ∧ w' = unitW w k (wantP p) (whU T V e p) (emU T V e p)) := by
  obtain ⟨⟨k1, k2, k3, k4, k5, k6⟩, ⟨a1, a2, a3, a4, a5⟩, l1, l2, l3, l4, l5⟩ := hk
  obtain ⟨f0, -, f1, -, -, -, -, -, -, -, -, f10, -⟩ := hE.2.2.1.2 e he
  obtain ⟨⟨s1, s2, s3, s4, s5, s6, s7, s8⟩, ⟨t1, t2, t3, t4, t5, t6, t7⟩, m1, m2, m3, m4, m5, m6, m7⟩ := hE.2.2.2.2.1 e he
  have hw9 : (if p = 0 ∨ p = 5 then 0 else 1) = wantP p := rfl
  refine CallQ.of rfl (by simp [Value.category]) (Nat.le_of_ble_eq_true rfl) ?_
  unfold whU emU wantP
  cases hq : tP T e with
  | none =>
    rw [hq] at f1
    have f2 : zr w 300 (A e) = none := f1
    by_cases h1 : p = 1
    · have h05 : ¬ (p = 0 ∨ p = 5) := by omega
      rw [if_neg h05, if_pos h1]
      refine r_aload_n dX4_setUnits_0 rfl (by first | exact zRv_ref _ | exact zRv_null | exact zRv_rf _ | assumption) rfl ?_
      refine r_getr 2 0 300 lfX4_31 (by first | (simp only [zKS]; first | assumption) | assumption | exact zk_nself _ _ _ | (simp [zKS, zNS, *]; done)) rfl rfl dX4_setUnits_1 rfl ?_
      rw [f2]
      refine r_astore_n (ls' := [_, _, _, _]) dX4_setUnits_4 (Nat.le_of_ble_eq_true rfl) (by first | exact zRv_ref _ | exact zRv_null | exact zRv_rf _ | assumption) rfl rfl ?_
      refine r_aload_n dX4_setUnits_5 rfl (zRv_ref _) rfl ?_
      refine r_iload_n dX4_setUnits_6 rfl rfl ?_
      refine r_if_eqN (by omega) (r := 15) dX4_setUnits_7 (by decide) rfl (fun c_7 => ?_) (fun c_7 => ?_)
      · exact absurd c_7 (by omega)
      · refine r_iload_n dX4_setUnits_10 rfl rfl ?_
        refine r_iconst dX4_setUnits_11 kc_5 rfl ?_
        refine r_icmp_neN (by omega) (by omega) (r := 19) dX4_setUnits_12 (by decide) rfl (fun c_12 => ?_) (fun c_12 => ?_)
        · refine r_iconst dX4_setUnits_19 kc_1 rfl ?_
          refine r_puti 4 1 501 lfX4_69 (by first | (simp only [zKS]; first | assumption) | assumption | exact zk_nself _ _ _ | (simp [zKS, zNS, *]; done)) rfl rfl rfl (Or.inl rfl) dX4_setUnits_20 rfl ?_
          refine r_aload_n dX4_setUnits_23 rfl (zRv_ref _) rfl ?_
          refine r_aload_n dX4_setUnits_24 rfl (by first | exact zRv_ref _ | exact zRv_null | exact zRv_rf _ | assumption) rfl ?_
          refine r_ifnonnullZ (r := 32) dX4_setUnits_25 (by decide) rfl (fun c_25 => ?_) (fun a_25 c_25 => ?_)
          · refine r_fconst0 dX4_setUnits_28 rfl ?_
            refine r_goto (r := 41) dX4_setUnits_29 (by decide) ?_
            refine r_putf 4 3 503 lfX4_72 (by first | (simp only [zKS]; first | assumption) | assumption | exact zk_nself _ _ _ | (simp [zKS, zNS, *]; done)) rfl rfl rfl (Or.inl rfl) dX4_setUnits_41 rfl ?_
            refine r_iload_n dX4_setUnits_44 rfl rfl ?_
            refine r_iconst dX4_setUnits_45 kc_1 rfl ?_
            refine r_icmp_eqN (by omega) (by omega) (r := 65) dX4_setUnits_46 (by decide) rfl (fun c_46 => ?_) (fun c_46 => ?_)
            · refine r_aload_n dX4_setUnits_65 rfl (zRv_ref _) rfl ?_
              refine r_aload_n dX4_setUnits_66 rfl (by first | exact zRv_ref _ | exact zRv_null | exact zRv_rf _ | assumption) rfl ?_
              refine r_ifnonnullZ (r := 75) dX4_setUnits_67 (by decide) rfl (fun c_67 => ?_) (fun a_67 c_67 => ?_)
              · refine r_ldcf dX4_setUnits_70 tw_871 rfl ?_
                refine r_goto (r := 79) dX4_setUnits_72 (by decide) ?_
                refine r_putf 4 2 502 lfX4_76 (by first | (simp only [zKS]; first | assumption) | assumption | exact zk_nself _ _ _ | (simp [zKS, zNS, *]; done)) rfl rfl rfl (Or.inl rfl) dX4_setUnits_79 rfl ?_
                refine r_vret rfl dX4_setUnits_82 ?_
                exact ⟨rfl, rfl, rfl⟩
              · cases c_67
            · exact absurd h1 c_46
          · cases c_25
        · exact absurd c_12 (by omega)
    · rw [if_neg h1]
      have g2 := hV2 h1
      refine r_aload_n dX4_setUnits_0 rfl (by first | exact zRv_ref _ | exact zRv_null | exact zRv_rf _ | assumption) rfl ?_
      refine r_getr 2 0 300 lfX4_31 (by first | (simp only [zKS]; first | assumption) | assumption | exact zk_nself _ _ _ | (simp [zKS, zNS, *]; done)) rfl rfl dX4_setUnits_1 rfl ?_
      rw [f2]
      refine r_astore_n (ls' := [_, _, _, _]) dX4_setUnits_4 (Nat.le_of_ble_eq_true rfl) (by first | exact zRv_ref _ | exact zRv_null | exact zRv_rf _ | assumption) rfl rfl ?_
      refine r_aload_n dX4_setUnits_5 rfl (zRv_ref _) rfl ?_
      refine r_iload_n dX4_setUnits_6 rfl rfl ?_
      refine r_if_eqN (by omega) (r := 15) dX4_setUnits_7 (by decide) rfl (fun c_7 => ?_) (fun c_7 => ?_)
      · refine r_iconst dX4_setUnits_15 kc_0 rfl ?_
        refine r_goto (r := 20) dX4_setUnits_16 (by decide) ?_
        refine r_puti 4 1 501 lfX4_69 (by first | (simp only [zKS]; first | assumption) | assumption | exact zk_nself _ _ _ | (simp [zKS, zNS, *]; done)) rfl rfl rfl (Or.inl rfl) dX4_setUnits_20 rfl ?_
        refine r_aload_n dX4_setUnits_23 rfl (zRv_ref _) rfl ?_
        refine r_aload_n dX4_setUnits_24 rfl (by first | exact zRv_ref _ | exact zRv_null | exact zRv_rf _ | assumption) rfl ?_
        refine r_ifnonnullZ (r := 32) dX4_setUnits_25 (by decide) rfl (fun c_25 => ?_) (fun a_25 c_25 => ?_)
        · refine r_fconst0 dX4_setUnits_28 rfl ?_
          refine r_goto (r := 41) dX4_setUnits_29 (by decide) ?_
          refine r_putf 4 3 503 lfX4_72 (by first | (simp only [zKS]; first | assumption) | assumption | exact zk_nself _ _ _ | (simp [zKS, zNS, *]; done)) rfl rfl rfl (Or.inl rfl) dX4_setUnits_41 rfl ?_
          refine r_iload_n dX4_setUnits_44 rfl rfl ?_
          refine r_iconst dX4_setUnits_45 kc_1 rfl ?_
          refine r_icmp_eqN (by omega) (by omega) (r := 65) dX4_setUnits_46 (by decide) rfl (fun c_46 => ?_) (fun c_46 => ?_)
          · exact absurd c_46 h1
          · refine r_aload_n dX4_setUnits_49 rfl (zRv_ref _) rfl ?_
            refine r_aload_n dX4_setUnits_50 rfl (by first | exact zRv_ref _ | exact zRv_null | exact zRv_rf _ | assumption) rfl ?_
            refine r_gets 2 9 309 lfX4_39 (by first | (simp only [zKS]; first | assumption) | assumption | exact zk_nself _ _ _ | (simp [zKS, zNS, *]; done)) rfl rfl (by first | (simp only [zGS, Nat.reduceEqDiff, OfNat.ofNat_ne_ofNat, false_and, and_false, true_and, and_true, and_self, if_true, if_false, ite_true, ite_false, reduceIte, reduceCtorEq]; first | done | assumption) | assumption | exact z2_eq | (simp [zGS]; first | done | assumption)) dX4_setUnits_51 rfl ?_
            refine r_gets 7 3 803 lfX4_53 (by first | (simp only [zKS]; first | assumption) | assumption | exact zk_nself _ _ _ | (simp [zKS, zNS, *]; done)) rfl rfl (by first | (simp only [zGS, Nat.reduceEqDiff, OfNat.ofNat_ne_ofNat, false_and, and_false, true_and, and_true, and_self, if_true, if_false, ite_true, ite_false, reduceIte, reduceCtorEq]; first | done | assumption) | assumption | exact z2_eq | (simp [zGS]; first | done | assumption)) dX4_setUnits_54 rfl ?_
            refine r_iconst dX4_setUnits_57 kc_1 rfl ?_
            refine r_faldv 1 (by first | exact t4 | (simp only [zKS]; exact t4)) rfl (by show 1 < zln w (A e + 1 + 4); omega) (by decide) g2 dX4_setUnits_58 rfl ?_
            refine r_putf 4 2 502 lfX4_76 (by first | (simp only [zKS]; first | assumption) | assumption | exact zk_nself _ _ _ | (simp [zKS, zNS, *]; done)) rfl rfl rfl (Or.inl rfl) dX4_setUnits_59 rfl ?_
            refine r_goto (r := 82) dX4_setUnits_62 (by decide) ?_
            refine r_vret rfl dX4_setUnits_82 ?_
            rw [if_pos (Or.inl c_7)]
            exact ⟨rfl, rfl, rfl⟩
        · cases c_25
      · refine r_iload_n dX4_setUnits_10 rfl rfl ?_
        refine r_iconst dX4_setUnits_11 kc_5 rfl ?_
        refine r_icmp_neN (by omega) (by omega) (r := 19) dX4_setUnits_12 (by decide) rfl (fun c_12 => ?_) (fun c_12 => ?_)
        · refine r_iconst dX4_setUnits_19 kc_1 rfl ?_
          refine r_puti 4 1 501 lfX4_69 (by first | (simp only [zKS]; first | assumption) | assumption | exact zk_nself _ _ _ | (simp [zKS, zNS, *]; done)) rfl rfl rfl (Or.inl rfl) dX4_setUnits_20 rfl ?_
          refine r_aload_n dX4_setUnits_23 rfl (zRv_ref _) rfl ?_
          refine r_aload_n dX4_setUnits_24 rfl (by first | exact zRv_ref _ | exact zRv_null | exact zRv_rf _ | assumption) rfl ?_
          refine r_ifnonnullZ (r := 32) dX4_setUnits_25 (by decide) rfl (fun c_25 => ?_) (fun a_25 c_25 => ?_)
          · refine r_fconst0 dX4_setUnits_28 rfl ?_
            refine r_goto (r := 41) dX4_setUnits_29 (by decide) ?_
            refine r_putf 4 3 503 lfX4_72 (by first | (simp only [zKS]; first | assumption) | assumption | exact zk_nself _ _ _ | (simp [zKS, zNS, *]; done)) rfl rfl rfl (Or.inl rfl) dX4_setUnits_41 rfl ?_
            refine r_iload_n dX4_setUnits_44 rfl rfl ?_
            refine r_iconst dX4_setUnits_45 kc_1 rfl ?_
            refine r_icmp_eqN (by omega) (by omega) (r := 65) dX4_setUnits_46 (by decide) rfl (fun c_46 => ?_) (fun c_46 => ?_)
            · exact absurd c_46 h1
            · refine r_aload_n dX4_setUnits_49 rfl (zRv_ref _) rfl ?_
              refine r_aload_n dX4_setUnits_50 rfl (by first | exact zRv_ref _ | exact zRv_null | exact zRv_rf _ | assumption) rfl ?_
              refine r_gets 2 9 309 lfX4_39 (by first | (simp only [zKS]; first | assumption) | assumption | exact zk_nself _ _ _ | (simp [zKS, zNS, *]; done)) rfl rfl (by first | (simp only [zGS, Nat.reduceEqDiff, OfNat.ofNat_ne_ofNat, false_and, and_false, true_and, and_true, and_self, if_true, if_false, ite_true, ite_false, reduceIte, reduceCtorEq]; first | done | assumption) | assumption | exact z2_eq | (simp [zGS]; first | done | assumption)) dX4_setUnits_51 rfl ?_
              refine r_gets 7 3 803 lfX4_53 (by first | (simp only [zKS]; first | assumption) | assumption | exact zk_nself _ _ _ | (simp [zKS, zNS, *]; done)) rfl rfl (by first | (simp only [zGS, Nat.reduceEqDiff, OfNat.ofNat_ne_ofNat, false_and, and_false, true_and, and_true, and_self, if_true, if_false, ite_true, ite_false, reduceIte, reduceCtorEq]; first | done | assumption) | assumption | exact z2_eq | (simp [zGS]; first | done | assumption)) dX4_setUnits_54 rfl ?_
              refine r_iconst dX4_setUnits_57 kc_1 rfl ?_
              refine r_faldv 1 (by first | exact t4 | (simp only [zKS]; exact t4)) rfl (by show 1 < zln w (A e + 1 + 4); omega) (by decide) g2 dX4_setUnits_58 rfl ?_
              refine r_putf 4 2 502 lfX4_76 (by first | (simp only [zKS]; first | assumption) | assumption | exact zk_nself _ _ _ | (simp [zKS, zNS, *]; done)) rfl rfl rfl (Or.inl rfl) dX4_setUnits_59 rfl ?_
              refine r_goto (r := 82) dX4_setUnits_62 (by decide) ?_
              refine r_vret rfl dX4_setUnits_82 ?_
              rw [if_neg (by omega)]
              exact ⟨rfl, rfl, rfl⟩
          · cases c_25
        · refine r_iconst dX4_setUnits_15 kc_0 rfl ?_
          refine r_goto (r := 20) dX4_setUnits_16 (by decide) ?_
          refine r_puti 4 1 501 lfX4_69 (by first | (simp only [zKS]; first | assumption) | assumption | exact zk_nself _ _ _ | (simp [zKS, zNS, *]; done)) rfl rfl rfl (Or.inl rfl) dX4_setUnits_20 rfl ?_
          refine r_aload_n dX4_setUnits_23 rfl (zRv_ref _) rfl ?_
          refine r_aload_n dX4_setUnits_24 rfl (by first | exact zRv_ref _ | exact zRv_null | exact zRv_rf _ | assumption) rfl ?_
          refine r_ifnonnullZ (r := 32) dX4_setUnits_25 (by decide) rfl (fun c_25 => ?_) (fun a_25 c_25 => ?_)
          · refine r_fconst0 dX4_setUnits_28 rfl ?_
            refine r_goto (r := 41) dX4_setUnits_29 (by decide) ?_
            refine r_putf 4 3 503 lfX4_72 (by first | (simp only [zKS]; first | assumption) | assumption | exact zk_nself _ _ _ | (simp [zKS, zNS, *]; done)) rfl rfl rfl (Or.inl rfl) dX4_setUnits_41 rfl ?_
            refine r_iload_n dX4_setUnits_44 rfl rfl ?_
            refine r_iconst dX4_setUnits_45 kc_1 rfl ?_
            refine r_icmp_eqN (by omega) (by omega) (r := 65) dX4_setUnits_46 (by decide) rfl (fun c_46 => ?_) (fun c_46 => ?_)
            · exact absurd c_46 h1
            · refine r_aload_n dX4_setUnits_49 rfl (zRv_ref _) rfl ?_
              refine r_aload_n dX4_setUnits_50 rfl (by first | exact zRv_ref _ | exact zRv_null | exact zRv_rf _ | assumption) rfl ?_
              refine r_gets 2 9 309 lfX4_39 (by first | (simp only [zKS]; first | assumption) | assumption | exact zk_nself _ _ _ | (simp [zKS, zNS, *]; done)) rfl rfl (by first | (simp only [zGS, Nat.reduceEqDiff, OfNat.ofNat_ne_ofNat, false_and, and_false, true_and, and_true, and_self, if_true, if_false, ite_true, ite_false, reduceIte, reduceCtorEq]; first | done | assumption) | assumption | exact z2_eq | (simp [zGS]; first | done | assumption)) dX4_setUnits_51 rfl ?_
              refine r_gets 7 3 803 lfX4_53 (by first | (simp only [zKS]; first | assumption) | assumption | exact zk_nself _ _ _ | (simp [zKS, zNS, *]; done)) rfl rfl (by first | (simp only [zGS, Nat.reduceEqDiff, OfNat.ofNat_ne_ofNat, false_and, and_false, true_and, and_true, and_self, if_true, if_false, ite_true, ite_false, reduceIte, reduceCtorEq]; first | done | assumption) | assumption | exact z2_eq | (simp [zGS]; first | done | assumption)) dX4_setUnits_54 rfl ?_
              refine r_iconst dX4_setUnits_57 kc_1 rfl ?_
              refine r_faldv 1 (by first | exact t4 | (simp only [zKS]; exact t4)) rfl (by show 1 < zln w (A e + 1 + 4); omega) (by decide) g2 dX4_setUnits_58 rfl ?_
              refine r_putf 4 2 502 lfX4_76 (by first | (simp only [zKS]; first | assumption) | assumption | exact zk_nself _ _ _ | (simp [zKS, zNS, *]; done)) rfl rfl rfl (Or.inl rfl) dX4_setUnits_59 rfl ?_
              refine r_goto (r := 82) dX4_setUnits_62 (by decide) ?_
              refine r_vret rfl dX4_setUnits_82 ?_
              rw [if_pos (Or.inr c_12)]
              exact ⟨rfl, rfl, rfl⟩
          · cases c_25
  | some q =>
    rw [hq] at f1
    have f2 : zr w 300 (A e) = some (A q) := f1
    have hqe := hE.2.2.1.1.2.1 e q hq
    obtain ⟨j0, -, -, -, -, -, -, -, -, -, -, j10, -⟩ := hE.2.2.1.2 q (by omega)
    obtain ⟨⟨u1, u2, u3, u4, u5, u6, u7, u8⟩, ⟨v1, v2, v3, v4, v5, v6, v7⟩, y1, y2, y3, y4, y5, y6, y7⟩ := hE.2.2.2.2.1 q (by omega)
    have g1 := hV1 q hq
    by_cases h1 : p = 1
    · have h05 : ¬ (p = 0 ∨ p = 5) := by omega
      rw [if_neg h05, if_pos h1]
      refine r_aload_n dX4_setUnits_0 rfl (by first | exact zRv_ref _ | exact zRv_null | exact zRv_rf _ | assumption) rfl ?_
      refine r_getr 2 0 300 lfX4_31 (by first | (simp only [zKS]; first | assumption) | assumption | exact zk_nself _ _ _ | (simp [zKS, zNS, *]; done)) rfl rfl dX4_setUnits_1 rfl ?_
      rw [f2]
      refine r_astore_n (ls' := [_, _, _, _]) dX4_setUnits_4 (Nat.le_of_ble_eq_true rfl) (by first | exact zRv_ref _ | exact zRv_null | exact zRv_rf _ | assumption) rfl rfl ?_
      refine r_aload_n dX4_setUnits_5 rfl (zRv_ref _) rfl ?_
      refine r_iload_n dX4_setUnits_6 rfl rfl ?_
      refine r_if_eqN (by omega) (r := 15) dX4_setUnits_7 (by decide) rfl (fun c_7 => ?_) (fun c_7 => ?_)
      · exact absurd c_7 (by omega)
      · refine r_iload_n dX4_setUnits_10 rfl rfl ?_
        refine r_iconst dX4_setUnits_11 kc_5 rfl ?_
        refine r_icmp_neN (by omega) (by omega) (r := 19) dX4_setUnits_12 (by decide) rfl (fun c_12 => ?_) (fun c_12 => ?_)
        · refine r_iconst dX4_setUnits_19 kc_1 rfl ?_
          refine r_puti 4 1 501 lfX4_69 (by first | (simp only [zKS]; first | assumption) | assumption | exact zk_nself _ _ _ | (simp [zKS, zNS, *]; done)) rfl rfl rfl (Or.inl rfl) dX4_setUnits_20 rfl ?_
          refine r_aload_n dX4_setUnits_23 rfl (zRv_ref _) rfl ?_
          refine r_aload_n dX4_setUnits_24 rfl (by first | exact zRv_ref _ | exact zRv_null | exact zRv_rf _ | assumption) rfl ?_
          refine r_ifnonnullR (r := 32) dX4_setUnits_25 (by decide) rfl (fun c_25 => ?_) (fun a_25 c_25 => ?_)
          · cases c_25
          · refine r_aload_n dX4_setUnits_32 rfl (by first | exact zRv_ref _ | exact zRv_null | exact zRv_rf _ | assumption) rfl ?_
            refine r_gets 2 9 309 lfX4_39 (by first | (simp only [zKS]; first | assumption) | assumption | exact zk_nself _ _ _ | (simp [zKS, zNS, *]; done)) rfl rfl (by first | (simp only [zGS, Nat.reduceEqDiff, OfNat.ofNat_ne_ofNat, false_and, and_false, true_and, and_true, and_self, if_true, if_false, ite_true, ite_false, reduceIte, reduceCtorEq]; first | done | assumption) | assumption | exact z2_eq | (simp [zGS]; first | done | assumption)) dX4_setUnits_33 rfl ?_
            refine r_gets 7 3 803 lfX4_53 (by first | (simp only [zKS]; first | assumption) | assumption | exact zk_nself _ _ _ | (simp [zKS, zNS, *]; done)) rfl rfl (by first | (simp only [zGS, Nat.reduceEqDiff, OfNat.ofNat_ne_ofNat, false_and, and_false, true_and, and_true, and_self, if_true, if_false, ite_true, ite_false, reduceIte, reduceCtorEq]; first | done | assumption) | assumption | exact z2_eq | (simp [zGS]; first | done | assumption)) dX4_setUnits_36 rfl ?_
            refine r_iload_n dX4_setUnits_39 rfl rfl ?_
            refine r_faldv p (by first | exact v4 | (simp only [zKS]; exact v4)) rfl (by show p < zln w (A q + 1 + 4); omega) (by omega) g1 dX4_setUnits_40 rfl ?_
            refine r_putf 4 3 503 lfX4_72 (by first | (simp only [zKS]; first | assumption) | assumption | exact zk_nself _ _ _ | (simp [zKS, zNS, *]; done)) rfl rfl rfl (Or.inl rfl) dX4_setUnits_41 rfl ?_
            refine r_iload_n dX4_setUnits_44 rfl rfl ?_
            refine r_iconst dX4_setUnits_45 kc_1 rfl ?_
            refine r_icmp_eqN (by omega) (by omega) (r := 65) dX4_setUnits_46 (by decide) rfl (fun c_46 => ?_) (fun c_46 => ?_)
            · refine r_aload_n dX4_setUnits_65 rfl (zRv_ref _) rfl ?_
              refine r_aload_n dX4_setUnits_66 rfl (by first | exact zRv_ref _ | exact zRv_null | exact zRv_rf _ | assumption) rfl ?_
              refine r_ifnonnullR (r := 75) dX4_setUnits_67 (by decide) rfl (fun c_67 => ?_) (fun a_67 c_67 => ?_)
              · cases c_67
              · refine r_aload_n dX4_setUnits_75 rfl (zRv_ref _) rfl ?_
                refine r_getfv 4 3 503 lfX4_72 (by first | (simp only [zKS]; first | assumption) | assumption | exact zk_nself _ _ _ | (simp [zKS, zNS, *]; done)) rfl rfl (by first | (simp only [zGS, zMS, Nat.reduceEqDiff, OfNat.ofNat_ne_ofNat, false_and, and_false, true_and, and_true, and_self, if_true, if_false, ite_true, ite_false, reduceIte, reduceCtorEq]; first | done | assumption | rfl) | assumption | exact z2_eq | exact z1_eq | (simp [zGS, zMS]; first | done | assumption) | rfl) dX4_setUnits_76 rfl ?_
                refine r_putf 4 2 502 lfX4_76 (by first | (simp only [zKS]; first | assumption) | assumption | exact zk_nself _ _ _ | (simp [zKS, zNS, *]; done)) rfl rfl rfl (Or.inl rfl) dX4_setUnits_79 rfl ?_
                refine r_vret rfl dX4_setUnits_82 ?_
                rw [h1] at g1 ⊢
                exact ⟨rfl, rfl, rfl⟩
            · exact absurd h1 c_46
        · exact absurd c_12 (by omega)
    · rw [if_neg h1]
      have g2 := hV2 h1
      refine r_aload_n dX4_setUnits_0 rfl (by first | exact zRv_ref _ | exact zRv_null | exact zRv_rf _ | assumption) rfl ?_
      refine r_getr 2 0 300 lfX4_31 (by first | (simp only [zKS]; first | assumption) | assumption | exact zk_nself _ _ _ | (simp [zKS, zNS, *]; done)) rfl rfl dX4_setUnits_1 rfl ?_
      rw [f2]
      refine r_astore_n (ls' := [_, _, _, _]) dX4_setUnits_4 (Nat.le_of_ble_eq_true rfl) (by first | exact zRv_ref _ | exact zRv_null | exact zRv_rf _ | assumption) rfl rfl ?_
      refine r_aload_n dX4_setUnits_5 rfl (zRv_ref _) rfl ?_
      refine r_iload_n dX4_setUnits_6 rfl rfl ?_
      refine r_if_eqN (by omega) (r := 15) dX4_setUnits_7 (by decide) rfl (fun c_7 => ?_) (fun c_7 => ?_)
      · refine r_iconst dX4_setUnits_15 kc_0 rfl ?_
        refine r_goto (r := 20) dX4_setUnits_16 (by decide) ?_
        refine r_puti 4 1 501 lfX4_69 (by first | (simp only [zKS]; first | assumption) | assumption | exact zk_nself _ _ _ | (simp [zKS, zNS, *]; done)) rfl rfl rfl (Or.inl rfl) dX4_setUnits_20 rfl ?_
        refine r_aload_n dX4_setUnits_23 rfl (zRv_ref _) rfl ?_
        refine r_aload_n dX4_setUnits_24 rfl (by first | exact zRv_ref _ | exact zRv_null | exact zRv_rf _ | assumption) rfl ?_
        refine r_ifnonnullR (r := 32) dX4_setUnits_25 (by decide) rfl (fun c_25 => ?_) (fun a_25 c_25 => ?_)
        · cases c_25
        · refine r_aload_n dX4_setUnits_32 rfl (by first | exact zRv_ref _ | exact zRv_null | exact zRv_rf _ | assumption) rfl ?_
          refine r_gets 2 9 309 lfX4_39 (by first | (simp only [zKS]; first | assumption) | assumption | exact zk_nself _ _ _ | (simp [zKS, zNS, *]; done)) rfl rfl (by first | (simp only [zGS, Nat.reduceEqDiff, OfNat.ofNat_ne_ofNat, false_and, and_false, true_and, and_true, and_self, if_true, if_false, ite_true, ite_false, reduceIte, reduceCtorEq]; first | done | assumption) | assumption | exact z2_eq | (simp [zGS]; first | done | assumption)) dX4_setUnits_33 rfl ?_
          refine r_gets 7 3 803 lfX4_53 (by first | (simp only [zKS]; first | assumption) | assumption | exact zk_nself _ _ _ | (simp [zKS, zNS, *]; done)) rfl rfl (by first | (simp only [zGS, Nat.reduceEqDiff, OfNat.ofNat_ne_ofNat, false_and, and_false, true_and, and_true, and_self, if_true, if_false, ite_true, ite_false, reduceIte, reduceCtorEq]; first | done | assumption) | assumption | exact z2_eq | (simp [zGS]; first | done | assumption)) dX4_setUnits_36 rfl ?_
          refine r_iload_n dX4_setUnits_39 rfl rfl ?_
          refine r_faldv p (by first | exact v4 | (simp only [zKS]; exact v4)) rfl (by show p < zln w (A q + 1 + 4); omega) (by omega) g1 dX4_setUnits_40 rfl ?_
          refine r_putf 4 3 503 lfX4_72 (by first | (simp only [zKS]; first | assumption) | assumption | exact zk_nself _ _ _ | (simp [zKS, zNS, *]; done)) rfl rfl rfl (Or.inl rfl) dX4_setUnits_41 rfl ?_
          refine r_iload_n dX4_setUnits_44 rfl rfl ?_
          refine r_iconst dX4_setUnits_45 kc_1 rfl ?_
          refine r_icmp_eqN (by omega) (by omega) (r := 65) dX4_setUnits_46 (by decide) rfl (fun c_46 => ?_) (fun c_46 => ?_)
          · exact absurd c_46 h1
          · refine r_aload_n dX4_setUnits_49 rfl (zRv_ref _) rfl ?_
            refine r_aload_n dX4_setUnits_50 rfl (by first | exact zRv_ref _ | exact zRv_null | exact zRv_rf _ | assumption) rfl ?_
            refine r_gets 2 9 309 lfX4_39 (by first | (simp only [zKS]; first | assumption) | assumption | exact zk_nself _ _ _ | (simp [zKS, zNS, *]; done)) rfl rfl (by first | (simp only [zGS, Nat.reduceEqDiff, OfNat.ofNat_ne_ofNat, false_and, and_false, true_and, and_true, and_self, if_true, if_false, ite_true, ite_false, reduceIte, reduceCtorEq]; first | done | assumption) | assumption | exact z2_eq | (simp [zGS]; first | done | assumption)) dX4_setUnits_51 rfl ?_
            refine r_gets 7 3 803 lfX4_53 (by first | (simp only [zKS]; first | assumption) | assumption | exact zk_nself _ _ _ | (simp [zKS, zNS, *]; done)) rfl rfl (by first | (simp only [zGS, Nat.reduceEqDiff, OfNat.ofNat_ne_ofNat, false_and, and_false, true_and, and_true, and_self, if_true, if_false, ite_true, ite_false, reduceIte, reduceCtorEq]; first | done | assumption) | assumption | exact z2_eq | (simp [zGS]; first | done | assumption)) dX4_setUnits_54 rfl ?_
            refine r_iconst dX4_setUnits_57 kc_1 rfl ?_
            refine r_faldv 1 (by first | exact t4 | (simp only [zKS]; exact t4)) rfl (by show 1 < zln w (A e + 1 + 4); omega) (by decide) g2 dX4_setUnits_58 rfl ?_
            refine r_putf 4 2 502 lfX4_76 (by first | (simp only [zKS]; first | assumption) | assumption | exact zk_nself _ _ _ | (simp [zKS, zNS, *]; done)) rfl rfl rfl (Or.inl rfl) dX4_setUnits_59 rfl ?_
            refine r_goto (r := 82) dX4_setUnits_62 (by decide) ?_
            refine r_vret rfl dX4_setUnits_82 ?_
            rw [if_pos (Or.inl c_7)]
            exact ⟨rfl, rfl, rfl⟩
      · refine r_iload_n dX4_setUnits_10 rfl rfl ?_
        refine r_iconst dX4_setUnits_11 kc_5 rfl ?_
        refine r_icmp_neN (by omega) (by omega) (r := 19) dX4_setUnits_12 (by decide) rfl (fun c_12 => ?_) (fun c_12 => ?_)
        · refine r_iconst dX4_setUnits_19 kc_1 rfl ?_
          refine r_puti 4 1 501 lfX4_69 (by first | (simp only [zKS]; first | assumption) | assumption | exact zk_nself _ _ _ | (simp [zKS, zNS, *]; done)) rfl rfl rfl (Or.inl rfl) dX4_setUnits_20 rfl ?_
          refine r_aload_n dX4_setUnits_23 rfl (zRv_ref _) rfl ?_
          refine r_aload_n dX4_setUnits_24 rfl (by first | exact zRv_ref _ | exact zRv_null | exact zRv_rf _ | assumption) rfl ?_
          refine r_ifnonnullR (r := 32) dX4_setUnits_25 (by decide) rfl (fun c_25 => ?_) (fun a_25 c_25 => ?_)
          · cases c_25
          · refine r_aload_n dX4_setUnits_32 rfl (by first | exact zRv_ref _ | exact zRv_null | exact zRv_rf _ | assumption) rfl ?_
            refine r_gets 2 9 309 lfX4_39 (by first | (simp only [zKS]; first | assumption) | assumption | exact zk_nself _ _ _ | (simp [zKS, zNS, *]; done)) rfl rfl (by first | (simp only [zGS, Nat.reduceEqDiff, OfNat.ofNat_ne_ofNat, false_and, and_false, true_and, and_true, and_self, if_true, if_false, ite_true, ite_false, reduceIte, reduceCtorEq]; first | done | assumption) | assumption | exact z2_eq | (simp [zGS]; first | done | assumption)) dX4_setUnits_33 rfl ?_
            refine r_gets 7 3 803 lfX4_53 (by first | (simp only [zKS]; first | assumption) | assumption | exact zk_nself _ _ _ | (simp [zKS, zNS, *]; done)) rfl rfl (by first | (simp only [zGS, Nat.reduceEqDiff, OfNat.ofNat_ne_ofNat, false_and, and_false, true_and, and_true, and_self, if_true, if_false, ite_true, ite_false, reduceIte, reduceCtorEq]; first | done | assumption) | assumption | exact z2_eq | (simp [zGS]; first | done | assumption)) dX4_setUnits_36 rfl ?_
            refine r_iload_n dX4_setUnits_39 rfl rfl ?_
            refine r_faldv p (by first | exact v4 | (simp only [zKS]; exact v4)) rfl (by show p < zln w (A q + 1 + 4); omega) (by omega) g1 dX4_setUnits_40 rfl ?_
            refine r_putf 4 3 503 lfX4_72 (by first | (simp only [zKS]; first | assumption) | assumption | exact zk_nself _ _ _ | (simp [zKS, zNS, *]; done)) rfl rfl rfl (Or.inl rfl) dX4_setUnits_41 rfl ?_
            refine r_iload_n dX4_setUnits_44 rfl rfl ?_
            refine r_iconst dX4_setUnits_45 kc_1 rfl ?_
            refine r_icmp_eqN (by omega) (by omega) (r := 65) dX4_setUnits_46 (by decide) rfl (fun c_46 => ?_) (fun c_46 => ?_)
            · exact absurd c_46 h1
            · refine r_aload_n dX4_setUnits_49 rfl (zRv_ref _) rfl ?_
              refine r_aload_n dX4_setUnits_50 rfl (by first | exact zRv_ref _ | exact zRv_null | exact zRv_rf _ | assumption) rfl ?_
              refine r_gets 2 9 309 lfX4_39 (by first | (simp only [zKS]; first | assumption) | assumption | exact zk_nself _ _ _ | (simp [zKS, zNS, *]; done)) rfl rfl (by first | (simp only [zGS, Nat.reduceEqDiff, OfNat.ofNat_ne_ofNat, false_and, and_false, true_and, and_true, and_self, if_true, if_false, ite_true, ite_false, reduceIte, reduceCtorEq]; first | done | assumption) | assumption | exact z2_eq | (simp [zGS]; first | done | assumption)) dX4_setUnits_51 rfl ?_
              refine r_gets 7 3 803 lfX4_53 (by first | (simp only [zKS]; first | assumption) | assumption | exact zk_nself _ _ _ | (simp [zKS, zNS, *]; done)) rfl rfl (by first | (simp only [zGS, Nat.reduceEqDiff, OfNat.ofNat_ne_ofNat, false_and, and_false, true_and, and_true, and_self, if_true, if_false, ite_true, ite_false, reduceIte, reduceCtorEq]; first | done | assumption) | assumption | exact z2_eq | (simp [zGS]; first | done | assumption)) dX4_setUnits_54 rfl ?_
              refine r_iconst dX4_setUnits_57 kc_1 rfl ?_
              refine r_faldv 1 (by first | exact t4 | (simp only [zKS]; exact t4)) rfl (by show 1 < zln w (A e + 1 + 4); omega) (by decide) g2 dX4_setUnits_58 rfl ?_
              refine r_putf 4 2 502 lfX4_76 (by first | (simp only [zKS]; first | assumption) | assumption | exact zk_nself _ _ _ | (simp [zKS, zNS, *]; done)) rfl rfl rfl (Or.inl rfl) dX4_setUnits_59 rfl ?_
              refine r_goto (r := 82) dX4_setUnits_62 (by decide) ?_
              refine r_vret rfl dX4_setUnits_82 ?_
              rw [if_neg (by omega)]
              exact ⟨rfl, rfl, rfl⟩
        · refine r_iconst dX4_setUnits_15 kc_0 rfl ?_
          refine r_goto (r := 20) dX4_setUnits_16 (by decide) ?_
          refine r_puti 4 1 501 lfX4_69 (by first | (simp only [zKS]; first | assumption) | assumption | exact zk_nself _ _ _ | (simp [zKS, zNS, *]; done)) rfl rfl rfl (Or.inl rfl) dX4_setUnits_20 rfl ?_
          refine r_aload_n dX4_setUnits_23 rfl (zRv_ref _) rfl ?_
          refine r_aload_n dX4_setUnits_24 rfl (by first | exact zRv_ref _ | exact zRv_null | exact zRv_rf _ | assumption) rfl ?_
          refine r_ifnonnullR (r := 32) dX4_setUnits_25 (by decide) rfl (fun c_25 => ?_) (fun a_25 c_25 => ?_)
          · cases c_25
          · refine r_aload_n dX4_setUnits_32 rfl (by first | exact zRv_ref _ | exact zRv_null | exact zRv_rf _ | assumption) rfl ?_
            refine r_gets 2 9 309 lfX4_39 (by first | (simp only [zKS]; first | assumption) | assumption | exact zk_nself _ _ _ | (simp [zKS, zNS, *]; done)) rfl rfl (by first | (simp only [zGS, Nat.reduceEqDiff, OfNat.ofNat_ne_ofNat, false_and, and_false, true_and, and_true, and_self, if_true, if_false, ite_true, ite_false, reduceIte, reduceCtorEq]; first | done | assumption) | assumption | exact z2_eq | (simp [zGS]; first | done | assumption)) dX4_setUnits_33 rfl ?_
            refine r_gets 7 3 803 lfX4_53 (by first | (simp only [zKS]; first | assumption) | assumption | exact zk_nself _ _ _ | (simp [zKS, zNS, *]; done)) rfl rfl (by first | (simp only [zGS, Nat.reduceEqDiff, OfNat.ofNat_ne_ofNat, false_and, and_false, true_and, and_true, and_self, if_true, if_false, ite_true, ite_false, reduceIte, reduceCtorEq]; first | done | assumption) | assumption | exact z2_eq | (simp [zGS]; first | done | assumption)) dX4_setUnits_36 rfl ?_
            refine r_iload_n dX4_setUnits_39 rfl rfl ?_
            refine r_faldv p (by first | exact v4 | (simp only [zKS]; exact v4)) rfl (by show p < zln w (A q + 1 + 4); omega) (by omega) g1 dX4_setUnits_40 rfl ?_
            refine r_putf 4 3 503 lfX4_72 (by first | (simp only [zKS]; first | assumption) | assumption | exact zk_nself _ _ _ | (simp [zKS, zNS, *]; done)) rfl rfl rfl (Or.inl rfl) dX4_setUnits_41 rfl ?_
            refine r_iload_n dX4_setUnits_44 rfl rfl ?_
            refine r_iconst dX4_setUnits_45 kc_1 rfl ?_
            refine r_icmp_eqN (by omega) (by omega) (r := 65) dX4_setUnits_46 (by decide) rfl (fun c_46 => ?_) (fun c_46 => ?_)
            · exact absurd c_46 h1
            · refine r_aload_n dX4_setUnits_49 rfl (zRv_ref _) rfl ?_
              refine r_aload_n dX4_setUnits_50 rfl (by first | exact zRv_ref _ | exact zRv_null | exact zRv_rf _ | assumption) rfl ?_
              refine r_gets 2 9 309 lfX4_39 (by first | (simp only [zKS]; first | assumption) | assumption | exact zk_nself _ _ _ | (simp [zKS, zNS, *]; done)) rfl rfl (by first | (simp only [zGS, Nat.reduceEqDiff, OfNat.ofNat_ne_ofNat, false_and, and_false, true_and, and_true, and_self, if_true, if_false, ite_true, ite_false, reduceIte, reduceCtorEq]; first | done | assumption) | assumption | exact z2_eq | (simp [zGS]; first | done | assumption)) dX4_setUnits_51 rfl ?_
              refine r_gets 7 3 803 lfX4_53 (by first | (simp only [zKS]; first | assumption) | assumption | exact zk_nself _ _ _ | (simp [zKS, zNS, *]; done)) rfl rfl (by first | (simp only [zGS, Nat.reduceEqDiff, OfNat.ofNat_ne_ofNat, false_and, and_false, true_and, and_true, and_self, if_true, if_false, ite_true, ite_false, reduceIte, reduceCtorEq]; first | done | assumption) | assumption | exact z2_eq | (simp [zGS]; first | done | assumption)) dX4_setUnits_54 rfl ?_
              refine r_iconst dX4_setUnits_57 kc_1 rfl ?_
              refine r_faldv 1 (by first | exact t4 | (simp only [zKS]; exact t4)) rfl (by show 1 < zln w (A e + 1 + 4); omega) (by decide) g2 dX4_setUnits_58 rfl ?_
              refine r_putf 4 2 502 lfX4_76 (by first | (simp only [zKS]; first | assumption) | assumption | exact zk_nself _ _ _ | (simp [zKS, zNS, *]; done)) rfl rfl rfl (Or.inl rfl) dX4_setUnits_59 rfl ?_
              refine r_goto (r := 82) dX4_setUnits_62 (by decide) ?_
              refine r_vret rfl dX4_setUnits_82 ?_
              rw [if_pos (Or.inr c_12)]
              exact ⟨rfl, rfl, rfl⟩
