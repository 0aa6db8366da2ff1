/-! ===== Reckoner.combine ===== -/
def okStk (st : List PVal) : Prop := ∀ x ∈ st, x.1 ≤ 1 ∧ fFin x.2
theorem cmpE {o : Option Ordering} : (Op.cmpValue o .l = 0) ↔ o = some .eq := by
  cases o with
  | none => exact ⟨fun h => absurd h (by decide), fun h => by cases h⟩
  | some x => cases x <;> first | exact ⟨fun h => absurd h (by decide), fun h => by cases h⟩ | exact ⟨fun _ => rfl, fun _ => by decide⟩
theorem zero_cmp {b : UInt32} (h : b.toNat % 2 ^ 31 = 0) : FP.fcmp b FP.fconst0 = some .eq := by
  have h1 : b.toNat < 4294967296 := b.toNat_lt
  rcases (by omega : b.toNat = 0 ∨ b.toNat = 2147483648) with e | e
  · have : b = 0 := UInt32.toNat_inj.mp (by rw [e]; rfl)
    subst this
    decide +kernel
  · have : b = 2147483648 := UInt32.toNat_inj.mp (by rw [e]; rfl)
    subst this
    decide +kernel
theorem opQ_ret {k : Nat} {w w' : ZW} {sg : ZM} {o : Option (List PVal)} {b : Bool} {v : Value} (h : o.isSome = b) (hv : v = .int (zb b)) (hr : rkS k w w') (hs : ∀ st', o = some st' → isStk w' k st') : opQ k w sg o (some v) w' sg := ⟨rfl, hr, by rw [hv, h], hs⟩
theorem sp_combine (E : ZE) (sg : ZM) (d k s : Nat) (hd : 1 ≤ d) (hs4 : 5 ≤ s ∧ s < 9) (w : ZW) (hk : isRk w k) (st : List PVal) (hs : isStk w k st) (ho : okStk st) : CallQ E MX4_combine [.ref k, .int (nI s)] w sg d 0 0 (opQ k w sg (comS s st)) := by
  have hk0 := hk
  obtain ⟨⟨k1, k2, k3, k4, k5, k6⟩, ⟨a1, a2, a3, a4, a5⟩, l1, l2, l3, l4, l5⟩ := hk
  obtain ⟨h1, h2, h3⟩ := hs
  refine CallQ.of rfl (by simp [Value.category]) (Nat.le_of_ble_eq_true rfl) ?_
  cases st with
  | nil =>
    refine r_aload_n dX4_combine_0 rfl (zRv_ref _) rfl ?_
    refine r_getiv 4 6 506 lfX4_98 (by first | (simp only [zKS]; first | assumption) | assumption | exact zk_nself _ _ _ | (simp [zKS, zNS, *]; done)) rfl rfl (by first | (simp only [zGS, zMS, Nat.reduceEqDiff, OfNat.ofNat_ne_ofNat, false_and, and_false, true_and, and_true, and_self, if_true, if_false, ite_true, ite_false, reduceIte, reduceCtorEq]; first | done | assumption | rfl) | assumption | exact z2_eq | exact z1_eq | (simp [zGS, zMS]; first | done | assumption) | rfl) dX4_combine_1 rfl ?_
    refine r_iconst dX4_combine_4 kc_2 rfl ?_
    refine r_icmp_geN (by omega) (by omega) (r := 10) dX4_combine_5 (by decide) rfl (fun c_5 => ?_) (fun c_5 => ?_)
    · exact absurd c_5 (by simp)
    · refine r_iconst dX4_combine_8 kc_0 rfl ?_
      refine r_zret .boolean rfl rfl dX4_combine_9 ?_
      exact ⟨rfl, rkS.rf, rfl, fun _ q => by cases q⟩
  | cons y st =>
    cases st with
    | nil =>
      refine r_aload_n dX4_combine_0 rfl (zRv_ref _) rfl ?_
      refine r_getiv 4 6 506 lfX4_98 (by first | (simp only [zKS]; first | assumption) | assumption | exact zk_nself _ _ _ | (simp [zKS, zNS, *]; done)) rfl rfl (by first | (simp only [zGS, zMS, Nat.reduceEqDiff, OfNat.ofNat_ne_ofNat, false_and, and_false, true_and, and_true, and_self, if_true, if_false, ite_true, ite_false, reduceIte, reduceCtorEq]; first | done | assumption | rfl) | assumption | exact z2_eq | exact z1_eq | (simp [zGS, zMS]; first | done | assumption) | rfl) dX4_combine_1 rfl ?_
      refine r_iconst dX4_combine_4 kc_2 rfl ?_
      refine r_icmp_geN (by omega) (by omega) (r := 10) dX4_combine_5 (by decide) rfl (fun c_5 => ?_) (fun c_5 => ?_)
      · exact absurd c_5 (by simp)
      · refine r_iconst dX4_combine_8 kc_0 rfl ?_
        refine r_zret .boolean rfl rfl dX4_combine_9 ?_
        exact ⟨rfl, rkS.rf, rfl, fun _ q => by cases q⟩
    | cons z st =>
      obtain ⟨y1, b⟩ := y
      obtain ⟨z1, a⟩ := z
      rw [List.length_cons, List.length_cons] at h1 h2
      obtain ⟨g1, g2, f1, f2, f3⟩ := h3
      rw [List.length_cons] at g1 g2
      have oy := ho (y1, b) List.mem_cons_self
      have oz := ho (z1, a) (List.mem_cons_of_mem _ List.mem_cons_self)
      have q1 : y1 ≤ 1 := oy.1
      have q2 : fFin b := oy.2
      have q3 : z1 ≤ 1 := oz.1
      have q4 : fFin a := oz.2
      have n1 := fadd_n q4 q2
      have n2 := fsub_n q4 q2
      have n3 := fmul_n q4 q2
      rcases (by omega : s = 5 ∨ s = 6 ∨ s = 7 ∨ s = 8) with rfl | rfl | rfl | rfl
      · have hc : comS 5 ((y1, b) :: (z1, a) :: st) = (if z1 = y1 then pushS z1 (FP.fadd a b) st else none) := rfl
        rw [hc]
        refine r_aload_n dX4_combine_0 rfl (zRv_ref _) rfl ?_
        refine r_getiv 4 6 506 lfX4_98 (by first | (simp only [zKS]; first | assumption) | assumption | exact zk_nself _ _ _ | (simp [zKS, zNS, *]; done)) rfl rfl (by first | (simp only [zGS, zMS, Nat.reduceEqDiff, OfNat.ofNat_ne_ofNat, false_and, and_false, true_and, and_true, and_self, if_true, if_false, ite_true, ite_false, reduceIte, reduceCtorEq]; first | done | assumption | rfl) | assumption | exact z2_eq | exact z1_eq | (simp [zGS, zMS]; first | done | assumption) | rfl) dX4_combine_1 rfl ?_
        refine r_iconst dX4_combine_4 kc_2 rfl ?_
        refine r_icmp_geN (by omega) (by omega) (r := 10) dX4_combine_5 (by decide) rfl (fun c_5 => ?_) (fun c_5 => ?_)
        · refine r_aload_n dX4_combine_10 rfl (zRv_ref _) rfl ?_
          refine r_dup dX4_combine_11 (by first | rfl | exact zcat_rf _) rfl ?_
          refine r_getiv 4 6 506 lfX4_98 (by first | (simp only [zKS]; first | assumption) | assumption | exact zk_nself _ _ _ | (simp [zKS, zNS, *]; done)) rfl rfl (by first | (simp only [zGS, zMS, Nat.reduceEqDiff, OfNat.ofNat_ne_ofNat, false_and, and_false, true_and, and_true, and_self, if_true, if_false, ite_true, ite_false, reduceIte, reduceCtorEq]; first | done | assumption | rfl) | assumption | exact z2_eq | exact z1_eq | (simp [zGS, zMS]; first | done | assumption) | rfl) dX4_combine_12 rfl ?_
          refine r_iconst dX4_combine_15 kc_2 rfl ?_
          refine r_isubN (by omega) dX4_combine_16 rfl ?_
          rw [show st.length + 1 + 1 - 2 = st.length by omega]
          refine r_puti 4 6 506 lfX4_98 (by first | (simp only [zKS]; first | assumption) | assumption | exact zk_nself _ _ _ | (simp [zKS, zNS, *]; done)) rfl rfl rfl (Or.inl rfl) dX4_combine_17 rfl ?_
          refine RW.gen (fun w1 e1 => ?_)
          have hR : rkS k w w1 := by rw [e1]; exact ⟨rfl, rfl, rfl, fun f b e => by rw [zi_zsi, if_neg (fun q => e ⟨q.2, q.1⟩)], rfl, rfl, fun _ _ => rfl, rfl, fun _ _ => rfl, rfl, rfl⟩
          have hk1 := hk0.s hR
          obtain ⟨⟨m1, m2, m3, m4, m5, m6⟩, ⟨b1, b2, b3, b4, b5⟩, d1, d2, d3, d4, d5⟩ := id hk1
          have hh : zi w1 506 k = nI st.length := by rw [e1]; exact z2_eq
          have c1 : za w1 (k + 2) st.length = nI z1 := by rw [e1]; exact f1
          have c2 : za w1 (k + 2) (st.length + 1) = nI y1 := by rw [e1]; exact g1
          have c3 : zg w1 (k + 3) st.length = a := by rw [e1]; exact f2
          have c4 : zg w1 (k + 3) (st.length + 1) = b := by rw [e1]; exact g2
          have hS : isStk w1 k st := ⟨hh, by omega, f3.fr (fun i hi => by rw [e1]; exact ⟨rfl, rfl⟩)⟩
          clear e1
          refine r_aload_n dX4_combine_20 rfl (zRv_ref _) rfl ?_
          refine r_gets 4 4 504 lfX4_17 (by first | (simp only [zKS]; first | assumption) | assumption | exact zk_nself _ _ _ | (simp [zKS, zNS, *]; done)) rfl rfl (by first | (simp only [zGS, Nat.reduceEqDiff, OfNat.ofNat_ne_ofNat, false_and, and_false, true_and, and_true, and_self, if_true, if_false, ite_true, ite_false, reduceIte, reduceCtorEq]; first | done | assumption) | assumption | exact z2_eq | (simp [zGS]; first | done | assumption)) dX4_combine_21 rfl ?_
          refine r_aload_n dX4_combine_24 rfl (zRv_ref _) rfl ?_
          refine r_getiv 4 6 506 lfX4_98 (by first | (simp only [zKS]; first | assumption) | assumption | exact zk_nself _ _ _ | (simp [zKS, zNS, *]; done)) rfl rfl (by first | (simp only [zGS, zMS, Nat.reduceEqDiff, OfNat.ofNat_ne_ofNat, false_and, and_false, true_and, and_true, and_self, if_true, if_false, ite_true, ite_false, reduceIte, reduceCtorEq]; first | done | assumption | rfl) | assumption | exact z2_eq | exact z1_eq | (simp [zGS, zMS]; first | done | assumption) | rfl) dX4_combine_25 rfl ?_
          refine r_ialdv st.length b2 rfl (by omega) (by omega) c1 dX4_combine_28 rfl ?_
          refine r_istore_n (ls' := [_, _, _, _, _, _, _]) dX4_combine_29 (Nat.le_of_ble_eq_true rfl) rfl rfl ?_
          refine r_aload_n dX4_combine_30 rfl (zRv_ref _) rfl ?_
          refine r_gets 4 4 504 lfX4_17 (by first | (simp only [zKS]; first | assumption) | assumption | exact zk_nself _ _ _ | (simp [zKS, zNS, *]; done)) rfl rfl (by first | (simp only [zGS, Nat.reduceEqDiff, OfNat.ofNat_ne_ofNat, false_and, and_false, true_and, and_true, and_self, if_true, if_false, ite_true, ite_false, reduceIte, reduceCtorEq]; first | done | assumption) | assumption | exact z2_eq | (simp [zGS]; first | done | assumption)) dX4_combine_31 rfl ?_
          refine r_aload_n dX4_combine_34 rfl (zRv_ref _) rfl ?_
          refine r_getiv 4 6 506 lfX4_98 (by first | (simp only [zKS]; first | assumption) | assumption | exact zk_nself _ _ _ | (simp [zKS, zNS, *]; done)) rfl rfl (by first | (simp only [zGS, zMS, Nat.reduceEqDiff, OfNat.ofNat_ne_ofNat, false_and, and_false, true_and, and_true, and_self, if_true, if_false, ite_true, ite_false, reduceIte, reduceCtorEq]; first | done | assumption | rfl) | assumption | exact z2_eq | exact z1_eq | (simp [zGS, zMS]; first | done | assumption) | rfl) dX4_combine_35 rfl ?_
          refine r_iconst dX4_combine_38 kc_1 rfl ?_
          refine r_iaddN dX4_combine_39 rfl ?_
          refine r_ialdv (st.length + 1) b2 rfl (by omega) (by omega) c2 dX4_combine_40 rfl ?_
          refine r_istore_n (ls' := [_, _, _, _, _, _, _]) dX4_combine_41 (Nat.le_of_ble_eq_true rfl) rfl rfl ?_
          refine r_aload_n dX4_combine_42 rfl (zRv_ref _) rfl ?_
          refine r_gets 4 5 505 lfX4_21 (by first | (simp only [zKS]; first | assumption) | assumption | exact zk_nself _ _ _ | (simp [zKS, zNS, *]; done)) rfl rfl (by first | (simp only [zGS, Nat.reduceEqDiff, OfNat.ofNat_ne_ofNat, false_and, and_false, true_and, and_true, and_self, if_true, if_false, ite_true, ite_false, reduceIte, reduceCtorEq]; first | done | assumption) | assumption | exact z2_eq | (simp [zGS]; first | done | assumption)) dX4_combine_43 rfl ?_
          refine r_aload_n dX4_combine_46 rfl (zRv_ref _) rfl ?_
          refine r_getiv 4 6 506 lfX4_98 (by first | (simp only [zKS]; first | assumption) | assumption | exact zk_nself _ _ _ | (simp [zKS, zNS, *]; done)) rfl rfl (by first | (simp only [zGS, zMS, Nat.reduceEqDiff, OfNat.ofNat_ne_ofNat, false_and, and_false, true_and, and_true, and_self, if_true, if_false, ite_true, ite_false, reduceIte, reduceCtorEq]; first | done | assumption | rfl) | assumption | exact z2_eq | exact z1_eq | (simp [zGS, zMS]; first | done | assumption) | rfl) dX4_combine_47 rfl ?_
          refine r_faldv st.length b3 rfl (by omega) (by omega) c3 dX4_combine_50 rfl ?_
          refine r_fstore (ls' := [_, _, _, _, _, _, _]) dX4_combine_51 (Nat.le_of_ble_eq_true rfl) rfl rfl ?_
          refine r_aload_n dX4_combine_53 rfl (zRv_ref _) rfl ?_
          refine r_gets 4 5 505 lfX4_21 (by first | (simp only [zKS]; first | assumption) | assumption | exact zk_nself _ _ _ | (simp [zKS, zNS, *]; done)) rfl rfl (by first | (simp only [zGS, Nat.reduceEqDiff, OfNat.ofNat_ne_ofNat, false_and, and_false, true_and, and_true, and_self, if_true, if_false, ite_true, ite_false, reduceIte, reduceCtorEq]; first | done | assumption) | assumption | exact z2_eq | (simp [zGS]; first | done | assumption)) dX4_combine_54 rfl ?_
          refine r_aload_n dX4_combine_57 rfl (zRv_ref _) rfl ?_
          refine r_getiv 4 6 506 lfX4_98 (by first | (simp only [zKS]; first | assumption) | assumption | exact zk_nself _ _ _ | (simp [zKS, zNS, *]; done)) rfl rfl (by first | (simp only [zGS, zMS, Nat.reduceEqDiff, OfNat.ofNat_ne_ofNat, false_and, and_false, true_and, and_true, and_self, if_true, if_false, ite_true, ite_false, reduceIte, reduceCtorEq]; first | done | assumption | rfl) | assumption | exact z2_eq | exact z1_eq | (simp [zGS, zMS]; first | done | assumption) | rfl) dX4_combine_58 rfl ?_
          refine r_iconst dX4_combine_61 kc_1 rfl ?_
          refine r_iaddN dX4_combine_62 rfl ?_
          refine r_faldv (st.length + 1) b3 rfl (by omega) (by omega) c4 dX4_combine_63 rfl ?_
          refine r_fstore (ls' := [_, _, _, _, _, _, _]) dX4_combine_64 (Nat.le_of_ble_eq_true rfl) rfl rfl ?_
          refine r_iload_n dX4_combine_66 rfl rfl ?_
          refine r_tableIn (off := 25) (r := 92) dX4_combine_67 (by decide +kernel) (by decide +kernel) (by decide +kernel) (by decide) ?_
          refine r_iload_n dX4_combine_92 rfl rfl ?_
          refine r_iload_n dX4_combine_93 rfl rfl ?_
          refine r_icmp_neN (by omega) (by omega) (r := 114) dX4_combine_94 (by decide) rfl (fun c_94 => ?_) (fun c_94 => ?_)
          · refine r_iconst dX4_combine_114 kc_0 rfl ?_
            refine r_zret .boolean rfl rfl dX4_combine_115 ?_
            rw [if_neg c_94]
            exact opQ_ret (b := false) rfl rfl hR (fun _ q => by cases q)
          · refine r_aload_n dX4_combine_97 rfl (zRv_ref _) rfl ?_
            refine r_iload_n dX4_combine_98 rfl rfl ?_
            refine r_fload dX4_combine_99 rfl rfl ?_
            refine r_fload dX4_combine_101 rfl rfl ?_
            refine r_fadd dX4_combine_103 (by first | assumption | fail) rfl ?_
            refine r_callV MX4_push 2 [_, _] lvX4_112 (Or.inl ⟨4, by decide, (by first | (simp only [zKS]; first | assumption) | assumption | exact zk_nself _ _ _ | (simp [zKS, zNS, *]; done)), rfl⟩) (sp_pushS E sg (d - 1) k z1 (by omega) _ w1 hk1 st hS (by omega)) rfl rfl (by first | exact Nat.le_of_ble_eq_true rfl | (simp [zcat_rf, Value.category]; done)) (by omega) (Nat.le_of_eq (Nat.zero_add _)) (Nat.le_of_eq (Nat.zero_add _)) dX4_combine_104 rfl (fun v_ w_ sg_ hq_ => ?_)
            obtain ⟨rfl, hR2, rfl, hst⟩ := hq_
            refine r_if_eqB (r := 114) dX4_combine_107 (by decide) rfl (fun c_107 => ?_) (fun c_107 => ?_)
            · refine r_iconst dX4_combine_114 kc_0 rfl ?_
              refine r_zret .boolean rfl rfl dX4_combine_115 ?_
              rw [if_pos c_94]
              exact opQ_ret c_107 rfl (hR.tr hR2) hst
            · refine r_iconst dX4_combine_110 kc_1 rfl ?_
              refine r_goto (r := 115) dX4_combine_111 (by decide) ?_
              refine r_zret .boolean rfl rfl dX4_combine_115 ?_
              rw [if_pos c_94]
              exact opQ_ret c_107 rfl (hR.tr hR2) hst
        · exact absurd c_5 (by omega)
      · have hc : comS 6 ((y1, b) :: (z1, a) :: st) = (if z1 = y1 then pushS z1 (FP.fsub a b) st else none) := rfl
        rw [hc]
        refine r_aload_n dX4_combine_0 rfl (zRv_ref _) rfl ?_
        refine r_getiv 4 6 506 lfX4_98 (by first | (simp only [zKS]; first | assumption) | assumption | exact zk_nself _ _ _ | (simp [zKS, zNS, *]; done)) rfl rfl (by first | (simp only [zGS, zMS, Nat.reduceEqDiff, OfNat.ofNat_ne_ofNat, false_and, and_false, true_and, and_true, and_self, if_true, if_false, ite_true, ite_false, reduceIte, reduceCtorEq]; first | done | assumption | rfl) | assumption | exact z2_eq | exact z1_eq | (simp [zGS, zMS]; first | done | assumption) | rfl) dX4_combine_1 rfl ?_
        refine r_iconst dX4_combine_4 kc_2 rfl ?_
        refine r_icmp_geN (by omega) (by omega) (r := 10) dX4_combine_5 (by decide) rfl (fun c_5 => ?_) (fun c_5 => ?_)
        · refine r_aload_n dX4_combine_10 rfl (zRv_ref _) rfl ?_
          refine r_dup dX4_combine_11 (by first | rfl | exact zcat_rf _) rfl ?_
          refine r_getiv 4 6 506 lfX4_98 (by first | (simp only [zKS]; first | assumption) | assumption | exact zk_nself _ _ _ | (simp [zKS, zNS, *]; done)) rfl rfl (by first | (simp only [zGS, zMS, Nat.reduceEqDiff, OfNat.ofNat_ne_ofNat, false_and, and_false, true_and, and_true, and_self, if_true, if_false, ite_true, ite_false, reduceIte, reduceCtorEq]; first | done | assumption | rfl) | assumption | exact z2_eq | exact z1_eq | (simp [zGS, zMS]; first | done | assumption) | rfl) dX4_combine_12 rfl ?_
          refine r_iconst dX4_combine_15 kc_2 rfl ?_
          refine r_isubN (by omega) dX4_combine_16 rfl ?_
          rw [show st.length + 1 + 1 - 2 = st.length by omega]
          refine r_puti 4 6 506 lfX4_98 (by first | (simp only [zKS]; first | assumption) | assumption | exact zk_nself _ _ _ | (simp [zKS, zNS, *]; done)) rfl rfl rfl (Or.inl rfl) dX4_combine_17 rfl ?_
          refine RW.gen (fun w1 e1 => ?_)
          have hR : rkS k w w1 := by rw [e1]; exact ⟨rfl, rfl, rfl, fun f b e => by rw [zi_zsi, if_neg (fun q => e ⟨q.2, q.1⟩)], rfl, rfl, fun _ _ => rfl, rfl, fun _ _ => rfl, rfl, rfl⟩
          have hk1 := hk0.s hR
          obtain ⟨⟨m1, m2, m3, m4, m5, m6⟩, ⟨b1, b2, b3, b4, b5⟩, d1, d2, d3, d4, d5⟩ := id hk1
          have hh : zi w1 506 k = nI st.length := by rw [e1]; exact z2_eq
          have c1 : za w1 (k + 2) st.length = nI z1 := by rw [e1]; exact f1
          have c2 : za w1 (k + 2) (st.length + 1) = nI y1 := by rw [e1]; exact g1
          have c3 : zg w1 (k + 3) st.length = a := by rw [e1]; exact f2
          have c4 : zg w1 (k + 3) (st.length + 1) = b := by rw [e1]; exact g2
          have hS : isStk w1 k st := ⟨hh, by omega, f3.fr (fun i hi => by rw [e1]; exact ⟨rfl, rfl⟩)⟩
          clear e1
          refine r_aload_n dX4_combine_20 rfl (zRv_ref _) rfl ?_
          refine r_gets 4 4 504 lfX4_17 (by first | (simp only [zKS]; first | assumption) | assumption | exact zk_nself _ _ _ | (simp [zKS, zNS, *]; done)) rfl rfl (by first | (simp only [zGS, Nat.reduceEqDiff, OfNat.ofNat_ne_ofNat, false_and, and_false, true_and, and_true, and_self, if_true, if_false, ite_true, ite_false, reduceIte, reduceCtorEq]; first | done | assumption) | assumption | exact z2_eq | (simp [zGS]; first | done | assumption)) dX4_combine_21 rfl ?_
          refine r_aload_n dX4_combine_24 rfl (zRv_ref _) rfl ?_
          refine r_getiv 4 6 506 lfX4_98 (by first | (simp only [zKS]; first | assumption) | assumption | exact zk_nself _ _ _ | (simp [zKS, zNS, *]; done)) rfl rfl (by first | (simp only [zGS, zMS, Nat.reduceEqDiff, OfNat.ofNat_ne_ofNat, false_and, and_false, true_and, and_true, and_self, if_true, if_false, ite_true, ite_false, reduceIte, reduceCtorEq]; first | done | assumption | rfl) | assumption | exact z2_eq | exact z1_eq | (simp [zGS, zMS]; first | done | assumption) | rfl) dX4_combine_25 rfl ?_
          refine r_ialdv st.length b2 rfl (by omega) (by omega) c1 dX4_combine_28 rfl ?_
          refine r_istore_n (ls' := [_, _, _, _, _, _, _]) dX4_combine_29 (Nat.le_of_ble_eq_true rfl) rfl rfl ?_
          refine r_aload_n dX4_combine_30 rfl (zRv_ref _) rfl ?_
          refine r_gets 4 4 504 lfX4_17 (by first | (simp only [zKS]; first | assumption) | assumption | exact zk_nself _ _ _ | (simp [zKS, zNS, *]; done)) rfl rfl (by first | (simp only [zGS, Nat.reduceEqDiff, OfNat.ofNat_ne_ofNat, false_and, and_false, true_and, and_true, and_self, if_true, if_false, ite_true, ite_false, reduceIte, reduceCtorEq]; first | done | assumption) | assumption | exact z2_eq | (simp [zGS]; first | done | assumption)) dX4_combine_31 rfl ?_
          refine r_aload_n dX4_combine_34 rfl (zRv_ref _) rfl ?_
          refine r_getiv 4 6 506 lfX4_98 (by first | (simp only [zKS]; first | assumption) | assumption | exact zk_nself _ _ _ | (simp [zKS, zNS, *]; done)) rfl rfl (by first | (simp only [zGS, zMS, Nat.reduceEqDiff, OfNat.ofNat_ne_ofNat, false_and, and_false, true_and, and_true, and_self, if_true, if_false, ite_true, ite_false, reduceIte, reduceCtorEq]; first | done | assumption | rfl) | assumption | exact z2_eq | exact z1_eq | (simp [zGS, zMS]; first | done | assumption) | rfl) dX4_combine_35 rfl ?_
          refine r_iconst dX4_combine_38 kc_1 rfl ?_
          refine r_iaddN dX4_combine_39 rfl ?_
          refine r_ialdv (st.length + 1) b2 rfl (by omega) (by omega) c2 dX4_combine_40 rfl ?_
          refine r_istore_n (ls' := [_, _, _, _, _, _, _]) dX4_combine_41 (Nat.le_of_ble_eq_true rfl) rfl rfl ?_
          refine r_aload_n dX4_combine_42 rfl (zRv_ref _) rfl ?_
          refine r_gets 4 5 505 lfX4_21 (by first | (simp only [zKS]; first | assumption) | assumption | exact zk_nself _ _ _ | (simp [zKS, zNS, *]; done)) rfl rfl (by first | (simp only [zGS, Nat.reduceEqDiff, OfNat.ofNat_ne_ofNat, false_and, and_false, true_and, and_true, and_self, if_true, if_false, ite_true, ite_false, reduceIte, reduceCtorEq]; first | done | assumption) | assumption | exact z2_eq | (simp [zGS]; first | done | assumption)) dX4_combine_43 rfl ?_
          refine r_aload_n dX4_combine_46 rfl (zRv_ref _) rfl ?_
          refine r_getiv 4 6 506 lfX4_98 (by first | (simp only [zKS]; first | assumption) | assumption | exact zk_nself _ _ _ | (simp [zKS, zNS, *]; done)) rfl rfl (by first | (simp only [zGS, zMS, Nat.reduceEqDiff, OfNat.ofNat_ne_ofNat, false_and, and_false, true_and, and_true, and_self, if_true, if_false, ite_true, ite_false, reduceIte, reduceCtorEq]; first | done | assumption | rfl) | assumption | exact z2_eq | exact z1_eq | (simp [zGS, zMS]; first | done | assumption) | rfl) dX4_combine_47 rfl ?_
          refine r_faldv st.length b3 rfl (by omega) (by omega) c3 dX4_combine_50 rfl ?_
          refine r_fstore (ls' := [_, _, _, _, _, _, _]) dX4_combine_51 (Nat.le_of_ble_eq_true rfl) rfl rfl ?_
          refine r_aload_n dX4_combine_53 rfl (zRv_ref _) rfl ?_
          refine r_gets 4 5 505 lfX4_21 (by first | (simp only [zKS]; first | assumption) | assumption | exact zk_nself _ _ _ | (simp [zKS, zNS, *]; done)) rfl rfl (by first | (simp only [zGS, Nat.reduceEqDiff, OfNat.ofNat_ne_ofNat, false_and, and_false, true_and, and_true, and_self, if_true, if_false, ite_true, ite_false, reduceIte, reduceCtorEq]; first | done | assumption) | assumption | exact z2_eq | (simp [zGS]; first | done | assumption)) dX4_combine_54 rfl ?_
          refine r_aload_n dX4_combine_57 rfl (zRv_ref _) rfl ?_
          refine r_getiv 4 6 506 lfX4_98 (by first | (simp only [zKS]; first | assumption) | assumption | exact zk_nself _ _ _ | (simp [zKS, zNS, *]; done)) rfl rfl (by first | (simp only [zGS, zMS, Nat.reduceEqDiff, OfNat.ofNat_ne_ofNat, false_and, and_false, true_and, and_true, and_self, if_true, if_false, ite_true, ite_false, reduceIte, reduceCtorEq]; first | done | assumption | rfl) | assumption | exact z2_eq | exact z1_eq | (simp [zGS, zMS]; first | done | assumption) | rfl) dX4_combine_58 rfl ?_
          refine r_iconst dX4_combine_61 kc_1 rfl ?_
          refine r_iaddN dX4_combine_62 rfl ?_
          refine r_faldv (st.length + 1) b3 rfl (by omega) (by omega) c4 dX4_combine_63 rfl ?_
          refine r_fstore (ls' := [_, _, _, _, _, _, _]) dX4_combine_64 (Nat.le_of_ble_eq_true rfl) rfl rfl ?_
          refine r_iload_n dX4_combine_66 rfl rfl ?_
          refine r_tableIn (off := 49) (r := 116) dX4_combine_67 (by decide +kernel) (by decide +kernel) (by decide +kernel) (by decide) ?_
          refine r_iload_n dX4_combine_116 rfl rfl ?_
          refine r_iload_n dX4_combine_117 rfl rfl ?_
          refine r_icmp_neN (by omega) (by omega) (r := 138) dX4_combine_118 (by decide) rfl (fun c_118 => ?_) (fun c_118 => ?_)
          · refine r_iconst dX4_combine_138 kc_0 rfl ?_
            refine r_zret .boolean rfl rfl dX4_combine_139 ?_
            rw [if_neg c_118]
            exact opQ_ret (b := false) rfl rfl hR (fun _ q => by cases q)
          · refine r_aload_n dX4_combine_121 rfl (zRv_ref _) rfl ?_
            refine r_iload_n dX4_combine_122 rfl rfl ?_
            refine r_fload dX4_combine_123 rfl rfl ?_
            refine r_fload dX4_combine_125 rfl rfl ?_
            refine r_fsub dX4_combine_127 (by first | assumption | fail) rfl ?_
            refine r_callV MX4_push 2 [_, _] lvX4_112 (Or.inl ⟨4, by decide, (by first | (simp only [zKS]; first | assumption) | assumption | exact zk_nself _ _ _ | (simp [zKS, zNS, *]; done)), rfl⟩) (sp_pushS E sg (d - 1) k z1 (by omega) _ w1 hk1 st hS (by omega)) rfl rfl (by first | exact Nat.le_of_ble_eq_true rfl | (simp [zcat_rf, Value.category]; done)) (by omega) (Nat.le_of_eq (Nat.zero_add _)) (Nat.le_of_eq (Nat.zero_add _)) dX4_combine_128 rfl (fun v_ w_ sg_ hq_ => ?_)
            obtain ⟨rfl, hR2, rfl, hst⟩ := hq_
            refine r_if_eqB (r := 138) dX4_combine_131 (by decide) rfl (fun c_131 => ?_) (fun c_131 => ?_)
            · refine r_iconst dX4_combine_138 kc_0 rfl ?_
              refine r_zret .boolean rfl rfl dX4_combine_139 ?_
              rw [if_pos c_118]
              exact opQ_ret c_131 rfl (hR.tr hR2) hst
            · refine r_iconst dX4_combine_134 kc_1 rfl ?_
              refine r_goto (r := 139) dX4_combine_135 (by decide) ?_
              refine r_zret .boolean rfl rfl dX4_combine_139 ?_
              rw [if_pos c_118]
              exact opQ_ret c_131 rfl (hR.tr hR2) hst
        · exact absurd c_5 (by omega)
      · have hc : comS 7 ((y1, b) :: (z1, a) :: st) = (if z1 = 0 ∨ y1 = 0 then pushS (if z1 = 0 then y1 else z1) (FP.fmul a b) st else none) := rfl
        rw [hc]
        refine r_aload_n dX4_combine_0 rfl (zRv_ref _) rfl ?_
        refine r_getiv 4 6 506 lfX4_98 (by first | (simp only [zKS]; first | assumption) | assumption | exact zk_nself _ _ _ | (simp [zKS, zNS, *]; done)) rfl rfl (by first | (simp only [zGS, zMS, Nat.reduceEqDiff, OfNat.ofNat_ne_ofNat, false_and, and_false, true_and, and_true, and_self, if_true, if_false, ite_true, ite_false, reduceIte, reduceCtorEq]; first | done | assumption | rfl) | assumption | exact z2_eq | exact z1_eq | (simp [zGS, zMS]; first | done | assumption) | rfl) dX4_combine_1 rfl ?_
        refine r_iconst dX4_combine_4 kc_2 rfl ?_
        refine r_icmp_geN (by omega) (by omega) (r := 10) dX4_combine_5 (by decide) rfl (fun c_5 => ?_) (fun c_5 => ?_)
        · refine r_aload_n dX4_combine_10 rfl (zRv_ref _) rfl ?_
          refine r_dup dX4_combine_11 (by first | rfl | exact zcat_rf _) rfl ?_
          refine r_getiv 4 6 506 lfX4_98 (by first | (simp only [zKS]; first | assumption) | assumption | exact zk_nself _ _ _ | (simp [zKS, zNS, *]; done)) rfl rfl (by first | (simp only [zGS, zMS, Nat.reduceEqDiff, OfNat.ofNat_ne_ofNat, false_and, and_false, true_and, and_true, and_self, if_true, if_false, ite_true, ite_false, reduceIte, reduceCtorEq]; first | done | assumption | rfl) | assumption | exact z2_eq | exact z1_eq | (simp [zGS, zMS]; first | done | assumption) | rfl) dX4_combine_12 rfl ?_
          refine r_iconst dX4_combine_15 kc_2 rfl ?_
          refine r_isubN (by omega) dX4_combine_16 rfl ?_
          rw [show st.length + 1 + 1 - 2 = st.length by omega]
          refine r_puti 4 6 506 lfX4_98 (by first | (simp only [zKS]; first | assumption) | assumption | exact zk_nself _ _ _ | (simp [zKS, zNS, *]; done)) rfl rfl rfl (Or.inl rfl) dX4_combine_17 rfl ?_
          refine RW.gen (fun w1 e1 => ?_)
          have hR : rkS k w w1 := by rw [e1]; exact ⟨rfl, rfl, rfl, fun f b e => by rw [zi_zsi, if_neg (fun q => e ⟨q.2, q.1⟩)], rfl, rfl, fun _ _ => rfl, rfl, fun _ _ => rfl, rfl, rfl⟩
          have hk1 := hk0.s hR
          obtain ⟨⟨m1, m2, m3, m4, m5, m6⟩, ⟨b1, b2, b3, b4, b5⟩, d1, d2, d3, d4, d5⟩ := id hk1
          have hh : zi w1 506 k = nI st.length := by rw [e1]; exact z2_eq
          have c1 : za w1 (k + 2) st.length = nI z1 := by rw [e1]; exact f1
          have c2 : za w1 (k + 2) (st.length + 1) = nI y1 := by rw [e1]; exact g1
          have c3 : zg w1 (k + 3) st.length = a := by rw [e1]; exact f2
          have c4 : zg w1 (k + 3) (st.length + 1) = b := by rw [e1]; exact g2
          have hS : isStk w1 k st := ⟨hh, by omega, f3.fr (fun i hi => by rw [e1]; exact ⟨rfl, rfl⟩)⟩
          clear e1
          refine r_aload_n dX4_combine_20 rfl (zRv_ref _) rfl ?_
          refine r_gets 4 4 504 lfX4_17 (by first | (simp only [zKS]; first | assumption) | assumption | exact zk_nself _ _ _ | (simp [zKS, zNS, *]; done)) rfl rfl (by first | (simp only [zGS, Nat.reduceEqDiff, OfNat.ofNat_ne_ofNat, false_and, and_false, true_and, and_true, and_self, if_true, if_false, ite_true, ite_false, reduceIte, reduceCtorEq]; first | done | assumption) | assumption | exact z2_eq | (simp [zGS]; first | done | assumption)) dX4_combine_21 rfl ?_
          refine r_aload_n dX4_combine_24 rfl (zRv_ref _) rfl ?_
          refine r_getiv 4 6 506 lfX4_98 (by first | (simp only [zKS]; first | assumption) | assumption | exact zk_nself _ _ _ | (simp [zKS, zNS, *]; done)) rfl rfl (by first | (simp only [zGS, zMS, Nat.reduceEqDiff, OfNat.ofNat_ne_ofNat, false_and, and_false, true_and, and_true, and_self, if_true, if_false, ite_true, ite_false, reduceIte, reduceCtorEq]; first | done | assumption | rfl) | assumption | exact z2_eq | exact z1_eq | (simp [zGS, zMS]; first | done | assumption) | rfl) dX4_combine_25 rfl ?_
          refine r_ialdv st.length b2 rfl (by omega) (by omega) c1 dX4_combine_28 rfl ?_
          refine r_istore_n (ls' := [_, _, _, _, _, _, _]) dX4_combine_29 (Nat.le_of_ble_eq_true rfl) rfl rfl ?_
          refine r_aload_n dX4_combine_30 rfl (zRv_ref _) rfl ?_
          refine r_gets 4 4 504 lfX4_17 (by first | (simp only [zKS]; first | assumption) | assumption | exact zk_nself _ _ _ | (simp [zKS, zNS, *]; done)) rfl rfl (by first | (simp only [zGS, Nat.reduceEqDiff, OfNat.ofNat_ne_ofNat, false_and, and_false, true_and, and_true, and_self, if_true, if_false, ite_true, ite_false, reduceIte, reduceCtorEq]; first | done | assumption) | assumption | exact z2_eq | (simp [zGS]; first | done | assumption)) dX4_combine_31 rfl ?_
          refine r_aload_n dX4_combine_34 rfl (zRv_ref _) rfl ?_
          refine r_getiv 4 6 506 lfX4_98 (by first | (simp only [zKS]; first | assumption) | assumption | exact zk_nself _ _ _ | (simp [zKS, zNS, *]; done)) rfl rfl (by first | (simp only [zGS, zMS, Nat.reduceEqDiff, OfNat.ofNat_ne_ofNat, false_and, and_false, true_and, and_true, and_self, if_true, if_false, ite_true, ite_false, reduceIte, reduceCtorEq]; first | done | assumption | rfl) | assumption | exact z2_eq | exact z1_eq | (simp [zGS, zMS]; first | done | assumption) | rfl) dX4_combine_35 rfl ?_
          refine r_iconst dX4_combine_38 kc_1 rfl ?_
          refine r_iaddN dX4_combine_39 rfl ?_
          refine r_ialdv (st.length + 1) b2 rfl (by omega) (by omega) c2 dX4_combine_40 rfl ?_
          refine r_istore_n (ls' := [_, _, _, _, _, _, _]) dX4_combine_41 (Nat.le_of_ble_eq_true rfl) rfl rfl ?_
          refine r_aload_n dX4_combine_42 rfl (zRv_ref _) rfl ?_
          refine r_gets 4 5 505 lfX4_21 (by first | (simp only [zKS]; first | assumption) | assumption | exact zk_nself _ _ _ | (simp [zKS, zNS, *]; done)) rfl rfl (by first | (simp only [zGS, Nat.reduceEqDiff, OfNat.ofNat_ne_ofNat, false_and, and_false, true_and, and_true, and_self, if_true, if_false, ite_true, ite_false, reduceIte, reduceCtorEq]; first | done | assumption) | assumption | exact z2_eq | (simp [zGS]; first | done | assumption)) dX4_combine_43 rfl ?_
          refine r_aload_n dX4_combine_46 rfl (zRv_ref _) rfl ?_
          refine r_getiv 4 6 506 lfX4_98 (by first | (simp only [zKS]; first | assumption) | assumption | exact zk_nself _ _ _ | (simp [zKS, zNS, *]; done)) rfl rfl (by first | (simp only [zGS, zMS, Nat.reduceEqDiff, OfNat.ofNat_ne_ofNat, false_and, and_false, true_and, and_true, and_self, if_true, if_false, ite_true, ite_false, reduceIte, reduceCtorEq]; first | done | assumption | rfl) | assumption | exact z2_eq | exact z1_eq | (simp [zGS, zMS]; first | done | assumption) | rfl) dX4_combine_47 rfl ?_
          refine r_faldv st.length b3 rfl (by omega) (by omega) c3 dX4_combine_50 rfl ?_
          refine r_fstore (ls' := [_, _, _, _, _, _, _]) dX4_combine_51 (Nat.le_of_ble_eq_true rfl) rfl rfl ?_
          refine r_aload_n dX4_combine_53 rfl (zRv_ref _) rfl ?_
          refine r_gets 4 5 505 lfX4_21 (by first | (simp only [zKS]; first | assumption) | assumption | exact zk_nself _ _ _ | (simp [zKS, zNS, *]; done)) rfl rfl (by first | (simp only [zGS, Nat.reduceEqDiff, OfNat.ofNat_ne_ofNat, false_and, and_false, true_and, and_true, and_self, if_true, if_false, ite_true, ite_false, reduceIte, reduceCtorEq]; first | done | assumption) | assumption | exact z2_eq | (simp [zGS]; first | done | assumption)) dX4_combine_54 rfl ?_
          refine r_aload_n dX4_combine_57 rfl (zRv_ref _) rfl ?_
          refine r_getiv 4 6 506 lfX4_98 (by first | (simp only [zKS]; first | assumption) | assumption | exact zk_nself _ _ _ | (simp [zKS, zNS, *]; done)) rfl rfl (by first | (simp only [zGS, zMS, Nat.reduceEqDiff, OfNat.ofNat_ne_ofNat, false_and, and_false, true_and, and_true, and_self, if_true, if_false, ite_true, ite_false, reduceIte, reduceCtorEq]; first | done | assumption | rfl) | assumption | exact z2_eq | exact z1_eq | (simp [zGS, zMS]; first | done | assumption) | rfl) dX4_combine_58 rfl ?_
          refine r_iconst dX4_combine_61 kc_1 rfl ?_
          refine r_iaddN dX4_combine_62 rfl ?_
          refine r_faldv (st.length + 1) b3 rfl (by omega) (by omega) c4 dX4_combine_63 rfl ?_
          refine r_fstore (ls' := [_, _, _, _, _, _, _]) dX4_combine_64 (Nat.le_of_ble_eq_true rfl) rfl rfl ?_
          refine r_iload_n dX4_combine_66 rfl rfl ?_
          refine r_tableIn (off := 73) (r := 140) dX4_combine_67 (by decide +kernel) (by decide +kernel) (by decide +kernel) (by decide) ?_
          refine r_iload_n dX4_combine_140 rfl rfl ?_
          refine r_if_eqN (by omega) (r := 148) dX4_combine_141 (by decide) rfl (fun c_141 => ?_) (fun c_141 => ?_)
          · refine r_iconst dX4_combine_148 kc_1 rfl ?_
            refine r_goto (r := 153) dX4_combine_149 (by decide) ?_
            refine r_istore (ls' := [_, _, _, _, _, _, _]) dX4_combine_153 (Nat.le_of_ble_eq_true rfl) rfl rfl ?_
            refine r_iload dX4_combine_155 rfl rfl ?_
            refine r_if_eqN (by omega) (r := 185) dX4_combine_157 (by decide) rfl (fun c_157 => ?_) (fun c_157 => ?_)
            · exact absurd c_157 (by decide)
            · refine r_aload_n dX4_combine_160 rfl (zRv_ref _) rfl ?_
              refine r_iload_n dX4_combine_161 rfl rfl ?_
              refine r_if_neN (by omega) (r := 169) dX4_combine_162 (by decide) rfl (fun c_162 => ?_) (fun c_162 => ?_)
              · exact absurd c_141 c_162
              · refine r_iload_n dX4_combine_165 rfl rfl ?_
                refine r_goto (r := 170) dX4_combine_166 (by decide) ?_
                refine r_fload dX4_combine_170 rfl rfl ?_
                refine r_fload dX4_combine_172 rfl rfl ?_
                refine r_fmul dX4_combine_174 (by first | assumption | fail) rfl ?_
                refine r_callV MX4_push 2 [_, _] lvX4_112 (Or.inl ⟨4, by decide, (by first | (simp only [zKS]; first | assumption) | assumption | exact zk_nself _ _ _ | (simp [zKS, zNS, *]; done)), rfl⟩) (sp_pushS E sg (d - 1) k y1 (by omega) _ w1 hk1 st hS (by omega)) rfl rfl (by first | exact Nat.le_of_ble_eq_true rfl | (simp [zcat_rf, Value.category]; done)) (by omega) (Nat.le_of_eq (Nat.zero_add _)) (Nat.le_of_eq (Nat.zero_add _)) dX4_combine_175 rfl (fun v_ w_ sg_ hq_ => ?_)
                obtain ⟨rfl, hR2, rfl, hst⟩ := hq_
                refine r_if_eqB (r := 185) dX4_combine_178 (by decide) rfl (fun c_178 => ?_) (fun c_178 => ?_)
                · refine r_iconst dX4_combine_185 kc_0 rfl ?_
                  refine r_zret .boolean rfl rfl dX4_combine_186 ?_
                  rw [if_pos (Or.inl c_141), if_pos c_141]
                  exact opQ_ret c_178 rfl (hR.tr hR2) hst
                · refine r_iconst dX4_combine_181 kc_1 rfl ?_
                  refine r_goto (r := 186) dX4_combine_182 (by decide) ?_
                  refine r_zret .boolean rfl rfl dX4_combine_186 ?_
                  rw [if_pos (Or.inl c_141), if_pos c_141]
                  exact opQ_ret c_178 rfl (hR.tr hR2) hst
          · refine r_iload_n dX4_combine_144 rfl rfl ?_
            refine r_if_neN (by omega) (r := 152) dX4_combine_145 (by decide) rfl (fun c_145 => ?_) (fun c_145 => ?_)
            · refine r_iconst dX4_combine_152 kc_0 rfl ?_
              refine r_istore (ls' := [_, _, _, _, _, _, _]) dX4_combine_153 (Nat.le_of_ble_eq_true rfl) rfl rfl ?_
              refine r_iload dX4_combine_155 rfl rfl ?_
              refine r_if_eqN (by omega) (r := 185) dX4_combine_157 (by decide) rfl (fun c_157 => ?_) (fun c_157 => ?_)
              · refine r_iconst dX4_combine_185 kc_0 rfl ?_
                refine r_zret .boolean rfl rfl dX4_combine_186 ?_
                rw [if_neg (fun q => q.elim c_141 c_145)]
                exact opQ_ret (b := false) rfl rfl hR (fun _ q => by cases q)
              · exact absurd rfl c_157
            · refine r_iconst dX4_combine_148 kc_1 rfl ?_
              refine r_goto (r := 153) dX4_combine_149 (by decide) ?_
              refine r_istore (ls' := [_, _, _, _, _, _, _]) dX4_combine_153 (Nat.le_of_ble_eq_true rfl) rfl rfl ?_
              refine r_iload dX4_combine_155 rfl rfl ?_
              refine r_if_eqN (by omega) (r := 185) dX4_combine_157 (by decide) rfl (fun c_157 => ?_) (fun c_157 => ?_)
              · exact absurd c_157 (by decide)
              · refine r_aload_n dX4_combine_160 rfl (zRv_ref _) rfl ?_
                refine r_iload_n dX4_combine_161 rfl rfl ?_
                refine r_if_neN (by omega) (r := 169) dX4_combine_162 (by decide) rfl (fun c_162 => ?_) (fun c_162 => ?_)
                · refine r_iload_n dX4_combine_169 rfl rfl ?_
                  refine r_fload dX4_combine_170 rfl rfl ?_
                  refine r_fload dX4_combine_172 rfl rfl ?_
                  refine r_fmul dX4_combine_174 (by first | assumption | fail) rfl ?_
                  refine r_callV MX4_push 2 [_, _] lvX4_112 (Or.inl ⟨4, by decide, (by first | (simp only [zKS]; first | assumption) | assumption | exact zk_nself _ _ _ | (simp [zKS, zNS, *]; done)), rfl⟩) (sp_pushS E sg (d - 1) k z1 (by omega) _ w1 hk1 st hS (by omega)) rfl rfl (by first | exact Nat.le_of_ble_eq_true rfl | (simp [zcat_rf, Value.category]; done)) (by omega) (Nat.le_of_eq (Nat.zero_add _)) (Nat.le_of_eq (Nat.zero_add _)) dX4_combine_175 rfl (fun v_ w_ sg_ hq_ => ?_)
                  obtain ⟨rfl, hR2, rfl, hst⟩ := hq_
                  refine r_if_eqB (r := 185) dX4_combine_178 (by decide) rfl (fun c_178 => ?_) (fun c_178 => ?_)
                  · refine r_iconst dX4_combine_185 kc_0 rfl ?_
                    refine r_zret .boolean rfl rfl dX4_combine_186 ?_
                    rw [if_pos (Or.inr c_145), if_neg c_141]
                    exact opQ_ret c_178 rfl (hR.tr hR2) hst
                  · refine r_iconst dX4_combine_181 kc_1 rfl ?_
                    refine r_goto (r := 186) dX4_combine_182 (by decide) ?_
                    refine r_zret .boolean rfl rfl dX4_combine_186 ?_
                    rw [if_pos (Or.inr c_145), if_neg c_141]
                    exact opQ_ret c_178 rfl (hR.tr hR2) hst
                · exact absurd c_162 c_141
        · exact absurd c_5 (by omega)
      · have hc : comS 8 ((y1, b) :: (z1, a) :: st) = (if y1 = 0 ∧ ¬ FP.fcmp b 0 = some .eq then pushS z1 (FP.fdiv a b) st else none) := rfl
        rw [hc]
        have n4 : ¬ FP.fcmp b 0 = some .eq → vf_n32 (FP.fdiv a b) := fun g => fdiv_n q4.n q2 (fun q => g (zero_cmp q))
        refine r_aload_n dX4_combine_0 rfl (zRv_ref _) rfl ?_
        refine r_getiv 4 6 506 lfX4_98 (by first | (simp only [zKS]; first | assumption) | assumption | exact zk_nself _ _ _ | (simp [zKS, zNS, *]; done)) rfl rfl (by first | (simp only [zGS, zMS, Nat.reduceEqDiff, OfNat.ofNat_ne_ofNat, false_and, and_false, true_and, and_true, and_self, if_true, if_false, ite_true, ite_false, reduceIte, reduceCtorEq]; first | done | assumption | rfl) | assumption | exact z2_eq | exact z1_eq | (simp [zGS, zMS]; first | done | assumption) | rfl) dX4_combine_1 rfl ?_
        refine r_iconst dX4_combine_4 kc_2 rfl ?_
        refine r_icmp_geN (by omega) (by omega) (r := 10) dX4_combine_5 (by decide) rfl (fun c_5 => ?_) (fun c_5 => ?_)
        · refine r_aload_n dX4_combine_10 rfl (zRv_ref _) rfl ?_
          refine r_dup dX4_combine_11 (by first | rfl | exact zcat_rf _) rfl ?_
          refine r_getiv 4 6 506 lfX4_98 (by first | (simp only [zKS]; first | assumption) | assumption | exact zk_nself _ _ _ | (simp [zKS, zNS, *]; done)) rfl rfl (by first | (simp only [zGS, zMS, Nat.reduceEqDiff, OfNat.ofNat_ne_ofNat, false_and, and_false, true_and, and_true, and_self, if_true, if_false, ite_true, ite_false, reduceIte, reduceCtorEq]; first | done | assumption | rfl) | assumption | exact z2_eq | exact z1_eq | (simp [zGS, zMS]; first | done | assumption) | rfl) dX4_combine_12 rfl ?_
          refine r_iconst dX4_combine_15 kc_2 rfl ?_
          refine r_isubN (by omega) dX4_combine_16 rfl ?_
          rw [show st.length + 1 + 1 - 2 = st.length by omega]
          refine r_puti 4 6 506 lfX4_98 (by first | (simp only [zKS]; first | assumption) | assumption | exact zk_nself _ _ _ | (simp [zKS, zNS, *]; done)) rfl rfl rfl (Or.inl rfl) dX4_combine_17 rfl ?_
          refine RW.gen (fun w1 e1 => ?_)
          have hR : rkS k w w1 := by rw [e1]; exact ⟨rfl, rfl, rfl, fun f b e => by rw [zi_zsi, if_neg (fun q => e ⟨q.2, q.1⟩)], rfl, rfl, fun _ _ => rfl, rfl, fun _ _ => rfl, rfl, rfl⟩
          have hk1 := hk0.s hR
          obtain ⟨⟨m1, m2, m3, m4, m5, m6⟩, ⟨b1, b2, b3, b4, b5⟩, d1, d2, d3, d4, d5⟩ := id hk1
          have hh : zi w1 506 k = nI st.length := by rw [e1]; exact z2_eq
          have c1 : za w1 (k + 2) st.length = nI z1 := by rw [e1]; exact f1
          have c2 : za w1 (k + 2) (st.length + 1) = nI y1 := by rw [e1]; exact g1
          have c3 : zg w1 (k + 3) st.length = a := by rw [e1]; exact f2
          have c4 : zg w1 (k + 3) (st.length + 1) = b := by rw [e1]; exact g2
          have hS : isStk w1 k st := ⟨hh, by omega, f3.fr (fun i hi => by rw [e1]; exact ⟨rfl, rfl⟩)⟩
          clear e1
          refine r_aload_n dX4_combine_20 rfl (zRv_ref _) rfl ?_
          refine r_gets 4 4 504 lfX4_17 (by first | (simp only [zKS]; first | assumption) | assumption | exact zk_nself _ _ _ | (simp [zKS, zNS, *]; done)) rfl rfl (by first | (simp only [zGS, Nat.reduceEqDiff, OfNat.ofNat_ne_ofNat, false_and, and_false, true_and, and_true, and_self, if_true, if_false, ite_true, ite_false, reduceIte, reduceCtorEq]; first | done | assumption) | assumption | exact z2_eq | (simp [zGS]; first | done | assumption)) dX4_combine_21 rfl ?_
          refine r_aload_n dX4_combine_24 rfl (zRv_ref _) rfl ?_
          refine r_getiv 4 6 506 lfX4_98 (by first | (simp only [zKS]; first | assumption) | assumption | exact zk_nself _ _ _ | (simp [zKS, zNS, *]; done)) rfl rfl (by first | (simp only [zGS, zMS, Nat.reduceEqDiff, OfNat.ofNat_ne_ofNat, false_and, and_false, true_and, and_true, and_self, if_true, if_false, ite_true, ite_false, reduceIte, reduceCtorEq]; first | done | assumption | rfl) | assumption | exact z2_eq | exact z1_eq | (simp [zGS, zMS]; first | done | assumption) | rfl) dX4_combine_25 rfl ?_
          refine r_ialdv st.length b2 rfl (by omega) (by omega) c1 dX4_combine_28 rfl ?_
          refine r_istore_n (ls' := [_, _, _, _, _, _, _]) dX4_combine_29 (Nat.le_of_ble_eq_true rfl) rfl rfl ?_
          refine r_aload_n dX4_combine_30 rfl (zRv_ref _) rfl ?_
          refine r_gets 4 4 504 lfX4_17 (by first | (simp only [zKS]; first | assumption) | assumption | exact zk_nself _ _ _ | (simp [zKS, zNS, *]; done)) rfl rfl (by first | (simp only [zGS, Nat.reduceEqDiff, OfNat.ofNat_ne_ofNat, false_and, and_false, true_and, and_true, and_self, if_true, if_false, ite_true, ite_false, reduceIte, reduceCtorEq]; first | done | assumption) | assumption | exact z2_eq | (simp [zGS]; first | done | assumption)) dX4_combine_31 rfl ?_
          refine r_aload_n dX4_combine_34 rfl (zRv_ref _) rfl ?_
          refine r_getiv 4 6 506 lfX4_98 (by first | (simp only [zKS]; first | assumption) | assumption | exact zk_nself _ _ _ | (simp [zKS, zNS, *]; done)) rfl rfl (by first | (simp only [zGS, zMS, Nat.reduceEqDiff, OfNat.ofNat_ne_ofNat, false_and, and_false, true_and, and_true, and_self, if_true, if_false, ite_true, ite_false, reduceIte, reduceCtorEq]; first | done | assumption | rfl) | assumption | exact z2_eq | exact z1_eq | (simp [zGS, zMS]; first | done | assumption) | rfl) dX4_combine_35 rfl ?_
          refine r_iconst dX4_combine_38 kc_1 rfl ?_
          refine r_iaddN dX4_combine_39 rfl ?_
          refine r_ialdv (st.length + 1) b2 rfl (by omega) (by omega) c2 dX4_combine_40 rfl ?_
          refine r_istore_n (ls' := [_, _, _, _, _, _, _]) dX4_combine_41 (Nat.le_of_ble_eq_true rfl) rfl rfl ?_
          refine r_aload_n dX4_combine_42 rfl (zRv_ref _) rfl ?_
          refine r_gets 4 5 505 lfX4_21 (by first | (simp only [zKS]; first | assumption) | assumption | exact zk_nself _ _ _ | (simp [zKS, zNS, *]; done)) rfl rfl (by first | (simp only [zGS, Nat.reduceEqDiff, OfNat.ofNat_ne_ofNat, false_and, and_false, true_and, and_true, and_self, if_true, if_false, ite_true, ite_false, reduceIte, reduceCtorEq]; first | done | assumption) | assumption | exact z2_eq | (simp [zGS]; first | done | assumption)) dX4_combine_43 rfl ?_
          refine r_aload_n dX4_combine_46 rfl (zRv_ref _) rfl ?_
          refine r_getiv 4 6 506 lfX4_98 (by first | (simp only [zKS]; first | assumption) | assumption | exact zk_nself _ _ _ | (simp [zKS, zNS, *]; done)) rfl rfl (by first | (simp only [zGS, zMS, Nat.reduceEqDiff, OfNat.ofNat_ne_ofNat, false_and, and_false, true_and, and_true, and_self, if_true, if_false, ite_true, ite_false, reduceIte, reduceCtorEq]; first | done | assumption | rfl) | assumption | exact z2_eq | exact z1_eq | (simp [zGS, zMS]; first | done | assumption) | rfl) dX4_combine_47 rfl ?_
          refine r_faldv st.length b3 rfl (by omega) (by omega) c3 dX4_combine_50 rfl ?_
          refine r_fstore (ls' := [_, _, _, _, _, _, _]) dX4_combine_51 (Nat.le_of_ble_eq_true rfl) rfl rfl ?_
          refine r_aload_n dX4_combine_53 rfl (zRv_ref _) rfl ?_
          refine r_gets 4 5 505 lfX4_21 (by first | (simp only [zKS]; first | assumption) | assumption | exact zk_nself _ _ _ | (simp [zKS, zNS, *]; done)) rfl rfl (by first | (simp only [zGS, Nat.reduceEqDiff, OfNat.ofNat_ne_ofNat, false_and, and_false, true_and, and_true, and_self, if_true, if_false, ite_true, ite_false, reduceIte, reduceCtorEq]; first | done | assumption) | assumption | exact z2_eq | (simp [zGS]; first | done | assumption)) dX4_combine_54 rfl ?_
          refine r_aload_n dX4_combine_57 rfl (zRv_ref _) rfl ?_
          refine r_getiv 4 6 506 lfX4_98 (by first | (simp only [zKS]; first | assumption) | assumption | exact zk_nself _ _ _ | (simp [zKS, zNS, *]; done)) rfl rfl (by first | (simp only [zGS, zMS, Nat.reduceEqDiff, OfNat.ofNat_ne_ofNat, false_and, and_false, true_and, and_true, and_self, if_true, if_false, ite_true, ite_false, reduceIte, reduceCtorEq]; first | done | assumption | rfl) | assumption | exact z2_eq | exact z1_eq | (simp [zGS, zMS]; first | done | assumption) | rfl) dX4_combine_58 rfl ?_
          refine r_iconst dX4_combine_61 kc_1 rfl ?_
          refine r_iaddN dX4_combine_62 rfl ?_
          refine r_faldv (st.length + 1) b3 rfl (by omega) (by omega) c4 dX4_combine_63 rfl ?_
          refine r_fstore (ls' := [_, _, _, _, _, _, _]) dX4_combine_64 (Nat.le_of_ble_eq_true rfl) rfl rfl ?_
          refine r_iload_n dX4_combine_66 rfl rfl ?_
          refine r_tableOut (r := 187) dX4_combine_67 (by decide +kernel) (by decide) ?_
          refine r_iload_n dX4_combine_187 rfl rfl ?_
          refine r_if_neN (by omega) (r := 215) dX4_combine_188 (by decide) rfl (fun c_188 => ?_) (fun c_188 => ?_)
          · refine r_iconst dX4_combine_215 kc_0 rfl ?_
            refine r_zret .boolean rfl rfl dX4_combine_216 ?_
            rw [if_neg (fun q => c_188 q.1)]
            exact opQ_ret (b := false) rfl rfl hR (fun _ q => by cases q)
          · refine r_fload dX4_combine_191 rfl rfl ?_
            refine r_fconst0 dX4_combine_193 rfl ?_
            refine r_fcmp dX4_combine_194 rfl ?_
            refine r_if_eq (r := 215) dX4_combine_195 (by decide) rfl (fun c_195 => ?_) (fun c_195 => ?_)
            · refine r_iconst dX4_combine_215 kc_0 rfl ?_
              refine r_zret .boolean rfl rfl dX4_combine_216 ?_
              rw [if_neg (fun q => q.2 (cmpE.mp c_195))]
              exact opQ_ret (b := false) rfl rfl hR (fun _ q => by cases q)
            · refine r_aload_n dX4_combine_198 rfl (zRv_ref _) rfl ?_
              refine r_iload_n dX4_combine_199 rfl rfl ?_
              refine r_fload dX4_combine_200 rfl rfl ?_
              refine r_fload dX4_combine_202 rfl rfl ?_
              have n5 := n4 (fun q => c_195 (cmpE.mpr q))
              refine r_fdiv dX4_combine_204 (by first | assumption | fail) rfl ?_
              refine r_callV MX4_push 2 [_, _] lvX4_112 (Or.inl ⟨4, by decide, (by first | (simp only [zKS]; first | assumption) | assumption | exact zk_nself _ _ _ | (simp [zKS, zNS, *]; done)), rfl⟩) (sp_pushS E sg (d - 1) k z1 (by omega) _ w1 hk1 st hS (by omega)) rfl rfl (by first | exact Nat.le_of_ble_eq_true rfl | (simp [zcat_rf, Value.category]; done)) (by omega) (Nat.le_of_eq (Nat.zero_add _)) (Nat.le_of_eq (Nat.zero_add _)) dX4_combine_205 rfl (fun v_ w_ sg_ hq_ => ?_)
              obtain ⟨rfl, hR2, rfl, hst⟩ := hq_
              refine r_if_eqB (r := 215) dX4_combine_208 (by decide) rfl (fun c_208 => ?_) (fun c_208 => ?_)
              · refine r_iconst dX4_combine_215 kc_0 rfl ?_
                refine r_zret .boolean rfl rfl dX4_combine_216 ?_
                rw [if_pos ⟨c_188, fun q => c_195 (cmpE.mpr q)⟩]
                exact opQ_ret c_208 rfl (hR.tr hR2) hst
              · refine r_iconst dX4_combine_211 kc_1 rfl ?_
                refine r_goto (r := 216) dX4_combine_212 (by decide) ?_
                refine r_zret .boolean rfl rfl dX4_combine_216 ?_
                rw [if_pos ⟨c_188, fun q => c_195 (cmpE.mpr q)⟩]
                exact opQ_ret c_208 rfl (hR.tr hR2) hst
        · exact absurd c_5 (by omega)
