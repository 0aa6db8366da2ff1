/-! ===== Reckoner.settleAt ===== -/
theorem sp_settleAt (E : ZE) (sg : ZM) (d : Nat) (hd : 4 ≤ d) (x nr : Nat) (T : List PEl) (A : Nat → Nat) (DC : Nat → PDecl → Prop) (RG : Nat → Nat → Prop) (hWD : ∀ a D, DC a D → D.2.1 = 2 → okD D) (L : Nat → Nat → PLd) (V : Nat → Nat → UInt32) (hV : isV T L V) (w : ZW) (e p : Nat) (he : e < T.length) (hp : p < 6) (hC : cchE w x nr T A DC RG L V) (hq1 : ∀ q, tP T e = some q → zg w (A q + 5) p = V q p) (hq2 : p ≠ 1 → zg w (A e + 5) 1 = V e 1) : CallQ E MX4_settleAt [.ref (x + 7), .ref (A e), .int (nI p)] w sg d 0 0 (saQ w sg x nr T A DC RG L V e p) := by
  have hs0 := seQ.rf hC
  have hC0 := hC
  obtain ⟨⟨hE, hL, K, hK1, hK2⟩, hR, hc⟩ := hC
  have hld := hL e he p (by omega)
  have hst := hE.2.2.2.2.1 e he
  obtain ⟨⟨s1, s2, s3, s4, s5, s6, s7, s8⟩, ⟨t1, t2, t3, t4, t5, t6, t7⟩, m1, m2, m3, m4, m5, m6, m7⟩ := hst
  obtain ⟨f0, -, f1, -, -, -, -, -, -, -, -, f10, -⟩ := hE.2.2.1.2 e he
  refine CallQ.of rfl (by simp [Value.category]) (Nat.le_of_ble_eq_true rfl) ?_
  rcases hc e he p hp with h4 | h4
  · obtain ⟨l, hl1, hl2⟩ : ∃ o, zq w (A e + 2) p = o ∧ (o = none ∧ L e p = none ∨ ∃ a k D wt, o = some a ∧ L e p = some (k, D, wt) ∧ DC a D) := by
      cases hLe : L e p with
      | none => rw [hLe] at hld; exact ⟨none, hld, Or.inl ⟨rfl, rfl⟩⟩
      | some t =>
        obtain ⟨k, D, wt⟩ := t
        rw [hLe] at hld
        obtain ⟨a, ha, hDC, -, -⟩ := hld
        exact ⟨some a, ha, Or.inr ⟨a, k, D, wt, rfl, rfl, hDC⟩⟩
    have hl3 : some (va_rf l) = some .null ∧ L e p = none ∨ ∃ a k D wt, some (va_rf l) = some (.ref a) ∧ L e p = some (k, D, wt) ∧ DC a D := by
      rcases hl2 with ⟨rfl, q⟩ | ⟨a, k, D, wt, rfl, q1, q2⟩
      · exact Or.inl ⟨rfl, q⟩
      · exact Or.inr ⟨a, k, D, wt, rfl, q1, q2⟩
    have h81 := rsa_1 E sg d hd x nr T A DC RG hWD L V hV w e p he hp hC0 hq1 hq2 (some (va_rf l)) none hl3
    cases hq : tP T e with
    | none =>
      have e1 : inhV T V e p = iniV p := by unfold inhV; rw [hq]
      rw [hq] at f1
      have f2 : zr w 300 (A e) = none := f1
      by_cases h1 : p = 1
      · have e2 : iniV p = 1098907648 := if_pos h1
        have e3 : stdV T V e p = 1098907648 := by unfold stdV; rw [if_pos (Or.inr h1), e1, e2]
        rw [e1, e2, e3] at h81
        refine r_aload_n dX4_settleAt_0 rfl (by first | exact zRv_ref _ | exact zRv_null | exact zRv_rf _ | assumption) rfl ?_
        refine r_gets 2 9 309 lfX4_39 (by first | (simp only [zKS]; first | assumption) | assumption | exact zk_nself _ _ _ | (simp [zKS, zNS, *]; done)) rfl rfl (by first | (simp only [zGS, Nat.reduceEqDiff, OfNat.ofNat_ne_ofNat, false_and, and_false, true_and, and_true, and_self, if_true, if_false, ite_true, ite_false, reduceIte, reduceCtorEq]; first | done | assumption) | assumption | exact z2_eq | (simp [zGS]; first | done | assumption)) dX4_settleAt_1 rfl ?_
        refine r_astore_n (ls' := [_, _, _, _, _, _, _, _, _]) dX4_settleAt_4 (Nat.le_of_ble_eq_true rfl) (zRv_ref _) rfl rfl ?_
        refine r_aload_n dX4_settleAt_5 rfl (zRv_ref _) rfl ?_
        refine r_gets 7 4 804 lfX4_43 (by first | (simp only [zKS]; first | assumption) | assumption | exact zk_nself _ _ _ | (simp [zKS, zNS, *]; done)) rfl rfl (by first | (simp only [zGS, Nat.reduceEqDiff, OfNat.ofNat_ne_ofNat, false_and, and_false, true_and, and_true, and_self, if_true, if_false, ite_true, ite_false, reduceIte, reduceCtorEq]; first | done | assumption) | assumption | exact z2_eq | (simp [zGS]; first | done | assumption)) dX4_settleAt_6 rfl ?_
        refine r_iload_n dX4_settleAt_9 rfl rfl ?_
        refine r_ialdv p t5 rfl (by show p < zln w (A e + 1 + 5); omega) (by omega) h4 dX4_settleAt_10 rfl ?_
        refine r_iconst dX4_settleAt_11 kc_4 rfl ?_
        refine r_icmp_eqN (by omega) (by omega) (r := 16) dX4_settleAt_12 (by decide) rfl (fun c_12 => ?_) (fun c_12 => ?_)
        · refine r_aload_n dX4_settleAt_16 rfl (zRv_ref _) rfl ?_
          refine r_gets 7 0 800 lfX4_48 (by first | (simp only [zKS]; first | assumption) | assumption | exact zk_nself _ _ _ | (simp [zKS, zNS, *]; done)) rfl rfl (by first | (simp only [zGS, Nat.reduceEqDiff, OfNat.ofNat_ne_ofNat, false_and, and_false, true_and, and_true, and_self, if_true, if_false, ite_true, ite_false, reduceIte, reduceCtorEq]; first | done | assumption) | assumption | exact z2_eq | (simp [zGS]; first | done | assumption)) dX4_settleAt_17 rfl ?_
          refine r_iload_n dX4_settleAt_20 rfl rfl ?_
          refine r_aald6 p t1 rfl (by show p < zln w (A e + 1 + 1); omega) (by omega) dX4_settleAt_21 rfl ?_
          rw [hl1]
          refine r_astore (ls' := [_, _, _, _, _, _, _, _, _]) dX4_settleAt_22 (Nat.le_of_ble_eq_true rfl) (by first | exact zRv_ref _ | exact zRv_null | exact zRv_rf _ | assumption) rfl rfl ?_
          refine r_iload_n dX4_settleAt_24 rfl rfl ?_
          refine r_iconst dX4_settleAt_25 kc_1 rfl ?_
          refine r_icmp_neN (by omega) (by omega) (r := 34) dX4_settleAt_26 (by decide) rfl (fun c_26 => ?_) (fun c_26 => ?_)
          · exact absurd h1 c_26
          · refine r_ldcf dX4_settleAt_29 tw_871 rfl ?_
            refine r_goto (r := 35) dX4_settleAt_31 (by decide) ?_
            refine r_fstore (ls' := [_, _, _, _, _, _, _, _, _]) dX4_settleAt_35 (Nat.le_of_ble_eq_true rfl) rfl rfl ?_
            refine r_aload_n dX4_settleAt_37 rfl (by first | exact zRv_ref _ | exact zRv_null | exact zRv_rf _ | assumption) rfl ?_
            refine r_getr 2 0 300 lfX4_31 (by first | (simp only [zKS]; first | assumption) | assumption | exact zk_nself _ _ _ | (simp [zKS, zNS, *]; done)) rfl rfl dX4_settleAt_38 rfl ?_
            rw [f2]
            refine r_ifnonnullZ (r := 49) dX4_settleAt_41 (by decide) rfl (fun c_41 => ?_) (fun a_41 c_41 => ?_)
            · refine r_fload dX4_settleAt_44 rfl rfl ?_
              refine r_goto (r := 61) dX4_settleAt_46 (by decide) ?_
              refine r_fstore (ls' := [_, _, _, _, _, _, _, _, _]) dX4_settleAt_61 (Nat.le_of_ble_eq_true rfl) rfl rfl ?_
              refine r_iload_n dX4_settleAt_63 rfl rfl ?_
              refine r_if_eqN (by omega) (r := 72) dX4_settleAt_64 (by decide) rfl (fun c_64 => ?_) (fun c_64 => ?_)
              · refine r_fload dX4_settleAt_72 rfl rfl ?_
                refine r_goto (r := 79) dX4_settleAt_74 (by decide) ?_
                refine r_fstore (ls' := [_, _, _, _, _, _, _, _, _]) dX4_settleAt_79 (Nat.le_of_ble_eq_true rfl) rfl rfl ?_
                exact absurd c_64 (by omega)
              · refine r_iload_n dX4_settleAt_67 rfl rfl ?_
                refine r_iconst dX4_settleAt_68 kc_1 rfl ?_
                refine r_icmp_neN (by omega) (by omega) (r := 77) dX4_settleAt_69 (by decide) rfl (fun c_69 => ?_) (fun c_69 => ?_)
                · refine r_fload dX4_settleAt_77 rfl rfl ?_
                  refine r_fstore (ls' := [_, _, _, _, _, _, _, _, _]) dX4_settleAt_79 (Nat.le_of_ble_eq_true rfl) rfl rfl ?_
                  exact absurd h1 c_69
                · refine r_fload dX4_settleAt_72 rfl rfl ?_
                  refine r_goto (r := 79) dX4_settleAt_74 (by decide) ?_
                  refine r_fstore (ls' := [_, _, _, _, _, _, _, _, _]) dX4_settleAt_79 (Nat.le_of_ble_eq_true rfl) rfl rfl ?_
                  exact h81
            · cases c_41
        · exact absurd rfl c_12
      · have e2 : iniV p = FP.fconst0 := if_neg h1
        have e3 : p = 0 → stdV T V e p = FP.fconst0 := fun h => by unfold stdV; rw [if_pos (Or.inl h), e1, e2]
        have e4 : p ≠ 0 → stdV T V e p = FP.fconst0 := fun h => by unfold stdV; rw [if_neg (by omega), e2]
        rw [e1, e2] at h81
        refine r_aload_n dX4_settleAt_0 rfl (by first | exact zRv_ref _ | exact zRv_null | exact zRv_rf _ | assumption) rfl ?_
        refine r_gets 2 9 309 lfX4_39 (by first | (simp only [zKS]; first | assumption) | assumption | exact zk_nself _ _ _ | (simp [zKS, zNS, *]; done)) rfl rfl (by first | (simp only [zGS, Nat.reduceEqDiff, OfNat.ofNat_ne_ofNat, false_and, and_false, true_and, and_true, and_self, if_true, if_false, ite_true, ite_false, reduceIte, reduceCtorEq]; first | done | assumption) | assumption | exact z2_eq | (simp [zGS]; first | done | assumption)) dX4_settleAt_1 rfl ?_
        refine r_astore_n (ls' := [_, _, _, _, _, _, _, _, _]) dX4_settleAt_4 (Nat.le_of_ble_eq_true rfl) (zRv_ref _) rfl rfl ?_
        refine r_aload_n dX4_settleAt_5 rfl (zRv_ref _) rfl ?_
        refine r_gets 7 4 804 lfX4_43 (by first | (simp only [zKS]; first | assumption) | assumption | exact zk_nself _ _ _ | (simp [zKS, zNS, *]; done)) rfl rfl (by first | (simp only [zGS, Nat.reduceEqDiff, OfNat.ofNat_ne_ofNat, false_and, and_false, true_and, and_true, and_self, if_true, if_false, ite_true, ite_false, reduceIte, reduceCtorEq]; first | done | assumption) | assumption | exact z2_eq | (simp [zGS]; first | done | assumption)) dX4_settleAt_6 rfl ?_
        refine r_iload_n dX4_settleAt_9 rfl rfl ?_
        refine r_ialdv p t5 rfl (by show p < zln w (A e + 1 + 5); omega) (by omega) h4 dX4_settleAt_10 rfl ?_
        refine r_iconst dX4_settleAt_11 kc_4 rfl ?_
        refine r_icmp_eqN (by omega) (by omega) (r := 16) dX4_settleAt_12 (by decide) rfl (fun c_12 => ?_) (fun c_12 => ?_)
        · refine r_aload_n dX4_settleAt_16 rfl (zRv_ref _) rfl ?_
          refine r_gets 7 0 800 lfX4_48 (by first | (simp only [zKS]; first | assumption) | assumption | exact zk_nself _ _ _ | (simp [zKS, zNS, *]; done)) rfl rfl (by first | (simp only [zGS, Nat.reduceEqDiff, OfNat.ofNat_ne_ofNat, false_and, and_false, true_and, and_true, and_self, if_true, if_false, ite_true, ite_false, reduceIte, reduceCtorEq]; first | done | assumption) | assumption | exact z2_eq | (simp [zGS]; first | done | assumption)) dX4_settleAt_17 rfl ?_
          refine r_iload_n dX4_settleAt_20 rfl rfl ?_
          refine r_aald6 p t1 rfl (by show p < zln w (A e + 1 + 1); omega) (by omega) dX4_settleAt_21 rfl ?_
          rw [hl1]
          refine r_astore (ls' := [_, _, _, _, _, _, _, _, _]) dX4_settleAt_22 (Nat.le_of_ble_eq_true rfl) (by first | exact zRv_ref _ | exact zRv_null | exact zRv_rf _ | assumption) rfl rfl ?_
          refine r_iload_n dX4_settleAt_24 rfl rfl ?_
          refine r_iconst dX4_settleAt_25 kc_1 rfl ?_
          refine r_icmp_neN (by omega) (by omega) (r := 34) dX4_settleAt_26 (by decide) rfl (fun c_26 => ?_) (fun c_26 => ?_)
          · refine r_fconst0 dX4_settleAt_34 rfl ?_
            refine r_fstore (ls' := [_, _, _, _, _, _, _, _, _]) dX4_settleAt_35 (Nat.le_of_ble_eq_true rfl) rfl rfl ?_
            refine r_aload_n dX4_settleAt_37 rfl (by first | exact zRv_ref _ | exact zRv_null | exact zRv_rf _ | assumption) rfl ?_
            refine r_getr 2 0 300 lfX4_31 (by first | (simp only [zKS]; first | assumption) | assumption | exact zk_nself _ _ _ | (simp [zKS, zNS, *]; done)) rfl rfl dX4_settleAt_38 rfl ?_
            rw [f2]
            refine r_ifnonnullZ (r := 49) dX4_settleAt_41 (by decide) rfl (fun c_41 => ?_) (fun a_41 c_41 => ?_)
            · refine r_fload dX4_settleAt_44 rfl rfl ?_
              refine r_goto (r := 61) dX4_settleAt_46 (by decide) ?_
              refine r_fstore (ls' := [_, _, _, _, _, _, _, _, _]) dX4_settleAt_61 (Nat.le_of_ble_eq_true rfl) rfl rfl ?_
              refine r_iload_n dX4_settleAt_63 rfl rfl ?_
              refine r_if_eqN (by omega) (r := 72) dX4_settleAt_64 (by decide) rfl (fun c_64 => ?_) (fun c_64 => ?_)
              · refine r_fload dX4_settleAt_72 rfl rfl ?_
                refine r_goto (r := 79) dX4_settleAt_74 (by decide) ?_
                refine r_fstore (ls' := [_, _, _, _, _, _, _, _, _]) dX4_settleAt_79 (Nat.le_of_ble_eq_true rfl) rfl rfl ?_
                rw [e3 c_64] at h81
                exact h81
              · refine r_iload_n dX4_settleAt_67 rfl rfl ?_
                refine r_iconst dX4_settleAt_68 kc_1 rfl ?_
                refine r_icmp_neN (by omega) (by omega) (r := 77) dX4_settleAt_69 (by decide) rfl (fun c_69 => ?_) (fun c_69 => ?_)
                · refine r_fload dX4_settleAt_77 rfl rfl ?_
                  refine r_fstore (ls' := [_, _, _, _, _, _, _, _, _]) dX4_settleAt_79 (Nat.le_of_ble_eq_true rfl) rfl rfl ?_
                  rw [e4 c_64] at h81
                  exact h81
                · refine r_fload dX4_settleAt_72 rfl rfl ?_
                  refine r_goto (r := 79) dX4_settleAt_74 (by decide) ?_
                  refine r_fstore (ls' := [_, _, _, _, _, _, _, _, _]) dX4_settleAt_79 (Nat.le_of_ble_eq_true rfl) rfl rfl ?_
                  exact absurd c_69 h1
            · cases c_41
          · exact absurd c_26 h1
        · exact absurd rfl c_12
    | some q =>
      have e1 : inhV T V e p = V q p := by unfold inhV; rw [hq]
      rw [hq] at f1 hq1
      have f2 : zr w 300 (A e) = some (A q) := f1
      have hqe := hE.2.2.1.1.2.1 e q hq
      obtain ⟨j0, -, -, -, -, -, -, -, -, -, -, j10, -⟩ := hE.2.2.1.2 q (by omega)
      obtain ⟨⟨u1, u2, u3, u4, u5, u6, u7, u8⟩, ⟨v1, v2, v3, v4, v5, v6, v7⟩, y1, y2, y3, y4, y5, y6, y7⟩ := hE.2.2.2.2.1 q (by omega)
      by_cases h1 : p = 1
      · have e2 : iniV p = 1098907648 := if_pos h1
        have e3 : stdV T V e p = V q p := by unfold stdV; rw [if_pos (Or.inr h1), e1]
        rw [e1, e2, e3] at h81
        refine r_aload_n dX4_settleAt_0 rfl (by first | exact zRv_ref _ | exact zRv_null | exact zRv_rf _ | assumption) rfl ?_
        refine r_gets 2 9 309 lfX4_39 (by first | (simp only [zKS]; first | assumption) | assumption | exact zk_nself _ _ _ | (simp [zKS, zNS, *]; done)) rfl rfl (by first | (simp only [zGS, Nat.reduceEqDiff, OfNat.ofNat_ne_ofNat, false_and, and_false, true_and, and_true, and_self, if_true, if_false, ite_true, ite_false, reduceIte, reduceCtorEq]; first | done | assumption) | assumption | exact z2_eq | (simp [zGS]; first | done | assumption)) dX4_settleAt_1 rfl ?_
        refine r_astore_n (ls' := [_, _, _, _, _, _, _, _, _]) dX4_settleAt_4 (Nat.le_of_ble_eq_true rfl) (zRv_ref _) rfl rfl ?_
        refine r_aload_n dX4_settleAt_5 rfl (zRv_ref _) rfl ?_
        refine r_gets 7 4 804 lfX4_43 (by first | (simp only [zKS]; first | assumption) | assumption | exact zk_nself _ _ _ | (simp [zKS, zNS, *]; done)) rfl rfl (by first | (simp only [zGS, Nat.reduceEqDiff, OfNat.ofNat_ne_ofNat, false_and, and_false, true_and, and_true, and_self, if_true, if_false, ite_true, ite_false, reduceIte, reduceCtorEq]; first | done | assumption) | assumption | exact z2_eq | (simp [zGS]; first | done | assumption)) dX4_settleAt_6 rfl ?_
        refine r_iload_n dX4_settleAt_9 rfl rfl ?_
        refine r_ialdv p t5 rfl (by show p < zln w (A e + 1 + 5); omega) (by omega) h4 dX4_settleAt_10 rfl ?_
        refine r_iconst dX4_settleAt_11 kc_4 rfl ?_
        refine r_icmp_eqN (by omega) (by omega) (r := 16) dX4_settleAt_12 (by decide) rfl (fun c_12 => ?_) (fun c_12 => ?_)
        · refine r_aload_n dX4_settleAt_16 rfl (zRv_ref _) rfl ?_
          refine r_gets 7 0 800 lfX4_48 (by first | (simp only [zKS]; first | assumption) | assumption | exact zk_nself _ _ _ | (simp [zKS, zNS, *]; done)) rfl rfl (by first | (simp only [zGS, Nat.reduceEqDiff, OfNat.ofNat_ne_ofNat, false_and, and_false, true_and, and_true, and_self, if_true, if_false, ite_true, ite_false, reduceIte, reduceCtorEq]; first | done | assumption) | assumption | exact z2_eq | (simp [zGS]; first | done | assumption)) dX4_settleAt_17 rfl ?_
          refine r_iload_n dX4_settleAt_20 rfl rfl ?_
          refine r_aald6 p t1 rfl (by show p < zln w (A e + 1 + 1); omega) (by omega) dX4_settleAt_21 rfl ?_
          rw [hl1]
          refine r_astore (ls' := [_, _, _, _, _, _, _, _, _]) dX4_settleAt_22 (Nat.le_of_ble_eq_true rfl) (by first | exact zRv_ref _ | exact zRv_null | exact zRv_rf _ | assumption) rfl rfl ?_
          refine r_iload_n dX4_settleAt_24 rfl rfl ?_
          refine r_iconst dX4_settleAt_25 kc_1 rfl ?_
          refine r_icmp_neN (by omega) (by omega) (r := 34) dX4_settleAt_26 (by decide) rfl (fun c_26 => ?_) (fun c_26 => ?_)
          · exact absurd h1 c_26
          · refine r_ldcf dX4_settleAt_29 tw_871 rfl ?_
            refine r_goto (r := 35) dX4_settleAt_31 (by decide) ?_
            refine r_fstore (ls' := [_, _, _, _, _, _, _, _, _]) dX4_settleAt_35 (Nat.le_of_ble_eq_true rfl) rfl rfl ?_
            refine r_aload_n dX4_settleAt_37 rfl (by first | exact zRv_ref _ | exact zRv_null | exact zRv_rf _ | assumption) rfl ?_
            refine r_getr 2 0 300 lfX4_31 (by first | (simp only [zKS]; first | assumption) | assumption | exact zk_nself _ _ _ | (simp [zKS, zNS, *]; done)) rfl rfl dX4_settleAt_38 rfl ?_
            rw [f2]
            refine r_ifnonnullR (r := 49) dX4_settleAt_41 (by decide) rfl (fun c_41 => ?_) (fun a_41 c_41 => ?_)
            · cases c_41
            · refine r_aload_n dX4_settleAt_49 rfl (by first | exact zRv_ref _ | exact zRv_null | exact zRv_rf _ | assumption) rfl ?_
              refine r_gets 2 0 300 lfX4_31 (by first | (simp only [zKS]; first | assumption) | assumption | exact zk_nself _ _ _ | (simp [zKS, zNS, *]; done)) rfl rfl (by first | (simp only [zGS, Nat.reduceEqDiff, OfNat.ofNat_ne_ofNat, false_and, and_false, true_and, and_true, and_self, if_true, if_false, ite_true, ite_false, reduceIte, reduceCtorEq]; first | done | assumption) | assumption | exact z2_eq | (simp [zGS]; first | done | assumption)) dX4_settleAt_50 rfl ?_
              refine r_gets 2 9 309 lfX4_39 (by first | (simp only [zKS]; first | assumption) | assumption | exact zk_nself _ _ _ | (simp [zKS, zNS, *]; done)) rfl rfl (by first | (simp only [zGS, Nat.reduceEqDiff, OfNat.ofNat_ne_ofNat, false_and, and_false, true_and, and_true, and_self, if_true, if_false, ite_true, ite_false, reduceIte, reduceCtorEq]; first | done | assumption) | assumption | exact z2_eq | (simp [zGS]; first | done | assumption)) dX4_settleAt_53 rfl ?_
              refine r_gets 7 3 803 lfX4_53 (by first | (simp only [zKS]; first | assumption) | assumption | exact zk_nself _ _ _ | (simp [zKS, zNS, *]; done)) rfl rfl (by first | (simp only [zGS, Nat.reduceEqDiff, OfNat.ofNat_ne_ofNat, false_and, and_false, true_and, and_true, and_self, if_true, if_false, ite_true, ite_false, reduceIte, reduceCtorEq]; first | done | assumption) | assumption | exact z2_eq | (simp [zGS]; first | done | assumption)) dX4_settleAt_56 rfl ?_
              refine r_iload_n dX4_settleAt_59 rfl rfl ?_
              refine r_faldv p v4 rfl (by show p < zln w (A q + 1 + 4); omega) (by omega) (hq1 q rfl) dX4_settleAt_60 rfl ?_
              refine r_fstore (ls' := [_, _, _, _, _, _, _, _, _]) dX4_settleAt_61 (Nat.le_of_ble_eq_true rfl) rfl rfl ?_
              refine r_iload_n dX4_settleAt_63 rfl rfl ?_
              refine r_if_eqN (by omega) (r := 72) dX4_settleAt_64 (by decide) rfl (fun c_64 => ?_) (fun c_64 => ?_)
              · refine r_fload dX4_settleAt_72 rfl rfl ?_
                refine r_goto (r := 79) dX4_settleAt_74 (by decide) ?_
                refine r_fstore (ls' := [_, _, _, _, _, _, _, _, _]) dX4_settleAt_79 (Nat.le_of_ble_eq_true rfl) rfl rfl ?_
                exact absurd c_64 (by omega)
              · refine r_iload_n dX4_settleAt_67 rfl rfl ?_
                refine r_iconst dX4_settleAt_68 kc_1 rfl ?_
                refine r_icmp_neN (by omega) (by omega) (r := 77) dX4_settleAt_69 (by decide) rfl (fun c_69 => ?_) (fun c_69 => ?_)
                · refine r_fload dX4_settleAt_77 rfl rfl ?_
                  refine r_fstore (ls' := [_, _, _, _, _, _, _, _, _]) dX4_settleAt_79 (Nat.le_of_ble_eq_true rfl) rfl rfl ?_
                  exact absurd h1 c_69
                · refine r_fload dX4_settleAt_72 rfl rfl ?_
                  refine r_goto (r := 79) dX4_settleAt_74 (by decide) ?_
                  refine r_fstore (ls' := [_, _, _, _, _, _, _, _, _]) dX4_settleAt_79 (Nat.le_of_ble_eq_true rfl) rfl rfl ?_
                  exact h81
        · exact absurd rfl c_12
      · have e2 : iniV p = FP.fconst0 := if_neg h1
        have e3 : p = 0 → stdV T V e p = V q p := fun h => by unfold stdV; rw [if_pos (Or.inl h), e1]
        have e4 : p ≠ 0 → stdV T V e p = FP.fconst0 := fun h => by unfold stdV; rw [if_neg (by omega), e2]
        rw [e1, e2] at h81
        refine r_aload_n dX4_settleAt_0 rfl (by first | exact zRv_ref _ | exact zRv_null | exact zRv_rf _ | assumption) rfl ?_
        refine r_gets 2 9 309 lfX4_39 (by first | (simp only [zKS]; first | assumption) | assumption | exact zk_nself _ _ _ | (simp [zKS, zNS, *]; done)) rfl rfl (by first | (simp only [zGS, Nat.reduceEqDiff, OfNat.ofNat_ne_ofNat, false_and, and_false, true_and, and_true, and_self, if_true, if_false, ite_true, ite_false, reduceIte, reduceCtorEq]; first | done | assumption) | assumption | exact z2_eq | (simp [zGS]; first | done | assumption)) dX4_settleAt_1 rfl ?_
        refine r_astore_n (ls' := [_, _, _, _, _, _, _, _, _]) dX4_settleAt_4 (Nat.le_of_ble_eq_true rfl) (zRv_ref _) rfl rfl ?_
        refine r_aload_n dX4_settleAt_5 rfl (zRv_ref _) rfl ?_
        refine r_gets 7 4 804 lfX4_43 (by first | (simp only [zKS]; first | assumption) | assumption | exact zk_nself _ _ _ | (simp [zKS, zNS, *]; done)) rfl rfl (by first | (simp only [zGS, Nat.reduceEqDiff, OfNat.ofNat_ne_ofNat, false_and, and_false, true_and, and_true, and_self, if_true, if_false, ite_true, ite_false, reduceIte, reduceCtorEq]; first | done | assumption) | assumption | exact z2_eq | (simp [zGS]; first | done | assumption)) dX4_settleAt_6 rfl ?_
        refine r_iload_n dX4_settleAt_9 rfl rfl ?_
        refine r_ialdv p t5 rfl (by show p < zln w (A e + 1 + 5); omega) (by omega) h4 dX4_settleAt_10 rfl ?_
        refine r_iconst dX4_settleAt_11 kc_4 rfl ?_
        refine r_icmp_eqN (by omega) (by omega) (r := 16) dX4_settleAt_12 (by decide) rfl (fun c_12 => ?_) (fun c_12 => ?_)
        · refine r_aload_n dX4_settleAt_16 rfl (zRv_ref _) rfl ?_
          refine r_gets 7 0 800 lfX4_48 (by first | (simp only [zKS]; first | assumption) | assumption | exact zk_nself _ _ _ | (simp [zKS, zNS, *]; done)) rfl rfl (by first | (simp only [zGS, Nat.reduceEqDiff, OfNat.ofNat_ne_ofNat, false_and, and_false, true_and, and_true, and_self, if_true, if_false, ite_true, ite_false, reduceIte, reduceCtorEq]; first | done | assumption) | assumption | exact z2_eq | (simp [zGS]; first | done | assumption)) dX4_settleAt_17 rfl ?_
          refine r_iload_n dX4_settleAt_20 rfl rfl ?_
          refine r_aald6 p t1 rfl (by show p < zln w (A e + 1 + 1); omega) (by omega) dX4_settleAt_21 rfl ?_
          rw [hl1]
          refine r_astore (ls' := [_, _, _, _, _, _, _, _, _]) dX4_settleAt_22 (Nat.le_of_ble_eq_true rfl) (by first | exact zRv_ref _ | exact zRv_null | exact zRv_rf _ | assumption) rfl rfl ?_
          refine r_iload_n dX4_settleAt_24 rfl rfl ?_
          refine r_iconst dX4_settleAt_25 kc_1 rfl ?_
          refine r_icmp_neN (by omega) (by omega) (r := 34) dX4_settleAt_26 (by decide) rfl (fun c_26 => ?_) (fun c_26 => ?_)
          · refine r_fconst0 dX4_settleAt_34 rfl ?_
            refine r_fstore (ls' := [_, _, _, _, _, _, _, _, _]) dX4_settleAt_35 (Nat.le_of_ble_eq_true rfl) rfl rfl ?_
            refine r_aload_n dX4_settleAt_37 rfl (by first | exact zRv_ref _ | exact zRv_null | exact zRv_rf _ | assumption) rfl ?_
            refine r_getr 2 0 300 lfX4_31 (by first | (simp only [zKS]; first | assumption) | assumption | exact zk_nself _ _ _ | (simp [zKS, zNS, *]; done)) rfl rfl dX4_settleAt_38 rfl ?_
            rw [f2]
            refine r_ifnonnullR (r := 49) dX4_settleAt_41 (by decide) rfl (fun c_41 => ?_) (fun a_41 c_41 => ?_)
            · cases c_41
            · refine r_aload_n dX4_settleAt_49 rfl (by first | exact zRv_ref _ | exact zRv_null | exact zRv_rf _ | assumption) rfl ?_
              refine r_gets 2 0 300 lfX4_31 (by first | (simp only [zKS]; first | assumption) | assumption | exact zk_nself _ _ _ | (simp [zKS, zNS, *]; done)) rfl rfl (by first | (simp only [zGS, Nat.reduceEqDiff, OfNat.ofNat_ne_ofNat, false_and, and_false, true_and, and_true, and_self, if_true, if_false, ite_true, ite_false, reduceIte, reduceCtorEq]; first | done | assumption) | assumption | exact z2_eq | (simp [zGS]; first | done | assumption)) dX4_settleAt_50 rfl ?_
              refine r_gets 2 9 309 lfX4_39 (by first | (simp only [zKS]; first | assumption) | assumption | exact zk_nself _ _ _ | (simp [zKS, zNS, *]; done)) rfl rfl (by first | (simp only [zGS, Nat.reduceEqDiff, OfNat.ofNat_ne_ofNat, false_and, and_false, true_and, and_true, and_self, if_true, if_false, ite_true, ite_false, reduceIte, reduceCtorEq]; first | done | assumption) | assumption | exact z2_eq | (simp [zGS]; first | done | assumption)) dX4_settleAt_53 rfl ?_
              refine r_gets 7 3 803 lfX4_53 (by first | (simp only [zKS]; first | assumption) | assumption | exact zk_nself _ _ _ | (simp [zKS, zNS, *]; done)) rfl rfl (by first | (simp only [zGS, Nat.reduceEqDiff, OfNat.ofNat_ne_ofNat, false_and, and_false, true_and, and_true, and_self, if_true, if_false, ite_true, ite_false, reduceIte, reduceCtorEq]; first | done | assumption) | assumption | exact z2_eq | (simp [zGS]; first | done | assumption)) dX4_settleAt_56 rfl ?_
              refine r_iload_n dX4_settleAt_59 rfl rfl ?_
              refine r_faldv p v4 rfl (by show p < zln w (A q + 1 + 4); omega) (by omega) (hq1 q rfl) dX4_settleAt_60 rfl ?_
              refine r_fstore (ls' := [_, _, _, _, _, _, _, _, _]) dX4_settleAt_61 (Nat.le_of_ble_eq_true rfl) rfl rfl ?_
              refine r_iload_n dX4_settleAt_63 rfl rfl ?_
              refine r_if_eqN (by omega) (r := 72) dX4_settleAt_64 (by decide) rfl (fun c_64 => ?_) (fun c_64 => ?_)
              · refine r_fload dX4_settleAt_72 rfl rfl ?_
                refine r_goto (r := 79) dX4_settleAt_74 (by decide) ?_
                refine r_fstore (ls' := [_, _, _, _, _, _, _, _, _]) dX4_settleAt_79 (Nat.le_of_ble_eq_true rfl) rfl rfl ?_
                rw [e3 c_64] at h81
                exact h81
              · refine r_iload_n dX4_settleAt_67 rfl rfl ?_
                refine r_iconst dX4_settleAt_68 kc_1 rfl ?_
                refine r_icmp_neN (by omega) (by omega) (r := 77) dX4_settleAt_69 (by decide) rfl (fun c_69 => ?_) (fun c_69 => ?_)
                · refine r_fload dX4_settleAt_77 rfl rfl ?_
                  refine r_fstore (ls' := [_, _, _, _, _, _, _, _, _]) dX4_settleAt_79 (Nat.le_of_ble_eq_true rfl) rfl rfl ?_
                  rw [e4 c_64] at h81
                  exact h81
                · refine r_fload dX4_settleAt_72 rfl rfl ?_
                  refine r_goto (r := 79) dX4_settleAt_74 (by decide) ?_
                  refine r_fstore (ls' := [_, _, _, _, _, _, _, _, _]) dX4_settleAt_79 (Nat.le_of_ble_eq_true rfl) rfl rfl ?_
                  exact absurd c_69 h1
          · exact absurd c_26 h1
        · exact absurd rfl c_12
  · obtain ⟨q1, q2⟩ := h4
    have h6 : (calV T L V e p).1 < 4 := by
      unfold calV
      split
      · exact Nat.zero_lt_succ 3
      · split
        · split
          · exact Nat.lt_succ_self 3
          · split
            · exact (by decide : 2 < 4)
            · exact (by decide : 3 < 4)
        · exact Nat.one_lt_succ_succ 2
    refine r_aload_n dX4_settleAt_0 rfl (by first | exact zRv_ref _ | exact zRv_null | exact zRv_rf _ | assumption) rfl ?_
    refine r_gets 2 9 309 lfX4_39 (by first | (simp only [zKS]; first | assumption) | assumption | exact zk_nself _ _ _ | (simp [zKS, zNS, *]; done)) rfl rfl (by first | (simp only [zGS, Nat.reduceEqDiff, OfNat.ofNat_ne_ofNat, false_and, and_false, true_and, and_true, and_self, if_true, if_false, ite_true, ite_false, reduceIte, reduceCtorEq]; first | done | assumption) | assumption | exact z2_eq | (simp [zGS]; first | done | assumption)) dX4_settleAt_1 rfl ?_
    refine r_astore_n (ls' := [_, _, _, _, _, _, _, _, _]) dX4_settleAt_4 (Nat.le_of_ble_eq_true rfl) (zRv_ref _) rfl rfl ?_
    refine r_aload_n dX4_settleAt_5 rfl (zRv_ref _) rfl ?_
    refine r_gets 7 4 804 lfX4_43 (by first | (simp only [zKS]; first | assumption) | assumption | exact zk_nself _ _ _ | (simp [zKS, zNS, *]; done)) rfl rfl (by first | (simp only [zGS, Nat.reduceEqDiff, OfNat.ofNat_ne_ofNat, false_and, and_false, true_and, and_true, and_self, if_true, if_false, ite_true, ite_false, reduceIte, reduceCtorEq]; first | done | assumption) | assumption | exact z2_eq | (simp [zGS]; first | done | assumption)) dX4_settleAt_6 rfl ?_
    refine r_iload_n dX4_settleAt_9 rfl rfl ?_
    refine r_ialdv p t5 rfl (by show p < zln w (A e + 1 + 5); omega) (by omega) q1 dX4_settleAt_10 rfl ?_
    refine r_iconst dX4_settleAt_11 kc_4 rfl ?_
    refine r_icmp_eqN (by omega) (by omega) (r := 16) dX4_settleAt_12 (by decide) rfl (fun c_12 => ?_) (fun c_12 => ?_)
    · exact absurd c_12 (by omega)
    · refine r_vret rfl dX4_settleAt_15 ?_
      exact ⟨rfl, rfl, hs0, q1, q2⟩
