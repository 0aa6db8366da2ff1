/-! ===== Reckoner.workOut, its second loop ===== -/
def woQ (w0 : ZW) (sg : ZM) (x nr : Nat) (T : List PEl) (A : Nat → Nat) (DC : Nat → PDecl → Prop) (RG : Nat → Nat → Prop) (L : Nat → Nat → PLd) (wanted : Nat) (em whole : UInt32) (D0 : PDecl) (e0 : Nat) : ZQ := fun v w' sg' => v = none ∧ sg = sg' ∧ ech (X0 x A T.length) w0 w' ∧ (∃ K, passE w' x nr T A DC RG L K wanted em whole 0 ∧ okK K) ∧ ((∃ f u, ev T L wanted em whole f D0 e0 = some u ∧ u.1 ≤ 1 ∧ fFin u.2 ∧ za w' (x + 7 + 2) 0 = nI u.1 ∧ zg w' (x + 7 + 3) 0 = u.2) ∨ ((∀ f, ev T L wanted em whole f D0 e0 = none) ∧ za w' (x + 7 + 2) 0 = nI 2))
theorem slotD_L {L : Nat → Nat → PLd} {e n : Nat} {D : PDecl} (h : slotD L e n = some D) : D.2.1 = 2 ∧ ∃ k wt, L e (6 + n) = some (k, D, wt) := by
  unfold slotD at h
  split at h
  · cases h
  · rename_i k D' wt hl
    split at h
    · rename_i g
      cases h
      exact ⟨g, k, wt, hl⟩
    · cases h
set_option maxRecDepth 20000 in
theorem rwo_2 (E : ZE) (sg : ZM) (d : Nat) (hd : 3 ≤ d) (x nr : Nat) (T : List PEl) (A : Nat → Nat) (DC : Nat → PDecl → Prop) (RG : Nat → Nat → Prop) (hWD : ∀ a D, DC a D → D.2.1 = 2 → okD D) (L : Nat → Nat → PLd) (wanted : Nat) (hwt : wanted < 2) (em whole : UInt32) (hem : fFin em) (hwh : fFin whole) (Q : Nat → Bool) (hP : pathP T (fun e => Q e = true)) (hQl : ∀ e, Q e = true → e < T.length) (a0 : Nat) (D0 : PDecl) (hD0 : DC a0 D0) (hs0 : D0.2.1 = 2) (e0 : Nat) (hQ0 : Q e0 = true) (w0 : ZW) : ∀ (m t : Nat) (w : ZW) (K : PKn) (os : List (Nat × Nat)) (x4 x5 x6 x7 : Option Value), t + m = 193 → woI w x nr T A DC RG L wanted em whole Q K os t → ech (X0 x A T.length) w0 w → RW E MX4_workOut 32 [some (.ref (x + 7)), some (.ref a0), some (.ref (A e0)), some (.int (nI t)), x4, x5, x6, x7] [] w sg d 0 0 (PN E (woQ w0 sg x nr T A DC RG L wanted em whole D0 e0))
  | 0, t, w, K, os, x4, x5, x6, x7, hm, hI, hw => by
    have := hI.2.2.2.2.2.2.2.2.1
    omega
  | m + 1, t, w, K, os, x4, x5, x6, x7, hm, hI, hw => by
    have ht := hI.2.2.2.2.2.2.2.2.1
    have h24 := hI.1.1.1.2.2.1.1.1
    have hwf := hI.1.1.1.2.2.1.1
    have hrec : ∀ (w2 : ZW) (K2 : PKn) (os2 : List (Nat × Nat)) {w1 : ZW}, woI w2 x nr T A DC RG L wanted em whole Q K2 os2 (t + 1) → ech (X0 x A T.length) w w1 → ech (X0 x A T.length) w1 w2 → ∀ {x4 x5 x6 x7 : Option Value}, RW E MX4_workOut 32 [some (.ref (x + 7)), some (.ref a0), some (.ref (A e0)), some (.int (nI (t + 1))), x4, x5, x6, x7] [] w2 sg d 0 0 (PN E (woQ w0 sg x nr T A DC RG L wanted em whole D0 e0)) := fun w2 K2 os2 _ hI2 g1 g2 _ _ _ _ => rwo_2 E sg d hd x nr T A DC RG hWD L wanted hwt em whole hem hwh Q hP hQl a0 D0 hD0 hs0 e0 hQ0 w0 m (t + 1) w2 K2 os2 _ _ _ _ (by omega) hI2 ((hw.tr g1 (fun _ q => q)).tr g2 (fun _ q => q))
    obtain ⟨⟨c1, c2, c3, c4, c5, c6⟩, ⟨k1, k2, k3, k4, k5⟩, l1, l2, l3, l4, l5⟩ := id hI.1.2.1
    have hocG : ∀ pl, Q pl = true → ∀ e n D', n < 4 → fnd T L (6 + n) (pl + 1) pl = some (e, D') → (K e n).1 = 4 → os.length < 96 := fun pl hpl e n D' hn hf h4 => by
      have hQe : Q e = true := fnd_path hP hpl hf
      have := unkN_put (Q := Q) (K := K) (e := e) (n := n) (v := (3, 0)) (by show (3 : Nat) ≠ 4; decide) hQe (by have := hQl e hQe; omega) hn h4
      have := hI.2.2.2.2.2.2.2.2.2
      omega
    cases os with
    | nil =>
      have he0 := hQl e0 hQ0
      have hok0 := hWD a0 D0 hD0 hs0
      have hoc := hocG e0 hQ0
      have hu4 : zi w 509 (x + 7) = nI 0 := hI.1.2.2.2.2.2
      cases hR : pasS T L K wanted em whole e0 D0.2.2.2 [] with
      | inl q =>
        obtain ⟨e, n⟩ := q
        obtain ⟨q4, s, q5, q6, q7, D', q8⟩ := pasS_wait _ _ _ hR
        have hs13 := (hok0.2.2 s q5).1
        have hQe : Q e = true := fnd_path hP hQ0 q8
        refine r_iload_n dX4_workOut_32 rfl rfl ?_
        refine r_iconst dX4_workOut_33 kc_2 rfl ?_
        refine r_aload_n dX4_workOut_34 rfl (zRv_ref _) rfl ?_
        refine r_gets 4 8 508 lfX4_28 (by first | (simp only [zKS]; first | assumption) | assumption | exact zk_nself _ _ _ | (simp [zKS, zNS, *]; done)) rfl rfl (by first | (simp only [zGS, Nat.reduceEqDiff, OfNat.ofNat_ne_ofNat, false_and, and_false, true_and, and_true, and_self, if_true, if_false, ite_true, ite_false, reduceIte, reduceCtorEq]; first | done | assumption) | assumption | exact z2_eq | (simp [zGS]; first | done | assumption)) dX4_workOut_35 rfl ?_
        refine r_alenv 2 (by decide) (by first | (simp only [zKS]; first | assumption) | assumption | exact zk_nself _ _ _ | (simp [zKS, zNS, *]; done)) (by first | (simp only [zGS, zMS, Nat.reduceEqDiff, OfNat.ofNat_ne_ofNat, false_and, and_false, true_and, and_true, and_self, if_true, if_false, ite_true, ite_false, reduceIte, reduceCtorEq]; first | done | assumption | rfl) | assumption | exact z2_eq | exact z1_eq | (simp [zGS, zMS]; first | done | assumption) | rfl) dX4_workOut_38 rfl ?_
        refine r_imulN dX4_workOut_39 rfl ?_
        refine r_icmp_gtN (by omega) (by omega) (r := 171) dX4_workOut_40 (by decide) rfl (fun c_40 => ?_) (fun c_40 => ?_)
        · exact absurd c_40 (by omega)
        · refine r_aload_n dX4_workOut_43 rfl (zRv_ref _) rfl ?_
          refine r_getiv 4 9 509 lfX4_88 (by first | (simp only [zKS]; first | assumption) | assumption | exact zk_nself _ _ _ | (simp [zKS, zNS, *]; done)) rfl rfl (by first | (simp only [zGS, zMS, Nat.reduceEqDiff, OfNat.ofNat_ne_ofNat, false_and, and_false, true_and, and_true, and_self, if_true, if_false, ite_true, ite_false, reduceIte, reduceCtorEq]; first | done | assumption | rfl) | assumption | exact z2_eq | exact z1_eq | (simp [zGS, zMS]; first | done | assumption) | rfl) dX4_workOut_44 rfl ?_
          refine r_iconst dX4_workOut_47 kc_1 rfl ?_
          refine r_isub dX4_workOut_48 rfl ?_
          rw [show nI 0 - nI 1 = (-1 : Int32) by decide +kernel]
          refine r_istore (ls' := [_, _, _, _, _, _, _, _]) dX4_workOut_49 (Nat.le_of_ble_eq_true rfl) rfl rfl ?_
          refine r_iload dX4_workOut_51 rfl rfl ?_
          refine r_if_ge (r := 60) dX4_workOut_53 (by decide) rfl (fun c_53 => ?_) (fun c_53 => ?_)
          · exact absurd c_53 (by decide)
          · refine r_aload_n dX4_workOut_56 rfl (by first | exact zRv_ref _ | exact zRv_null | exact zRv_rf _ | assumption) rfl ?_
            refine r_goto (r := 67) dX4_workOut_57 (by decide) ?_
            refine r_astore (ls' := [_, _, _, _, _, _, _, _]) dX4_workOut_67 (Nat.le_of_ble_eq_true rfl) (by first | exact zRv_ref _ | exact zRv_null | exact zRv_rf _ | assumption) rfl rfl ?_
            refine r_iload dX4_workOut_69 rfl rfl ?_
            refine r_if_ge (r := 78) dX4_workOut_71 (by decide) rfl (fun c_71 => ?_) (fun c_71 => ?_)
            · exact absurd c_71 (by decide)
            · refine r_aload_n dX4_workOut_74 rfl (by first | exact zRv_ref _ | exact zRv_null | exact zRv_rf _ | assumption) rfl ?_
              refine r_goto (r := 94) dX4_workOut_75 (by decide) ?_
              refine r_astore (ls' := [_, _, _, _, _, _, _, _]) dX4_workOut_94 (Nat.le_of_ble_eq_true rfl) (by first | exact zRv_ref _ | exact zRv_null | exact zRv_rf _ | assumption) rfl rfl ?_
              refine r_aload_n dX4_workOut_96 rfl (zRv_ref _) rfl ?_
              refine r_aload dX4_workOut_97 rfl (by first | exact zRv_ref _ | exact zRv_null | exact zRv_rf _ | assumption) rfl ?_
              refine r_aload dX4_workOut_99 rfl (by first | exact zRv_ref _ | exact zRv_null | exact zRv_rf _ | assumption) rfl ?_
              refine r_callV MX4_pass 2 [_, _] lvX4_91 (Or.inl ⟨4, by decide, (by first | (simp only [zKS]; first | assumption) | assumption | exact zk_nself _ _ _ | (simp [zKS, zNS, *]; done)), rfl⟩) (sp_pass E sg (d - 1) (by omega) x nr T A DC RG L K hI.2.1 wanted hwt em whole hem hwh 0 e0 hoc he0 a0 D0 hD0 hok0 w hI.1) rfl rfl (by first | exact Nat.le_of_ble_eq_true rfl | (simp [zcat_rf, Value.category]; done)) (by omega) (Nat.le_of_eq (Nat.zero_add _)) (Nat.le_of_eq (Nat.zero_add _)) dX4_workOut_101 rfl (fun v_ w_ sg_ hq_ => ?_)
              rw [hR] at hq_
              obtain ⟨rfl, rfl, w1, hr, rfl⟩ := hq_
              have hI1 := hI.s hr
              refine r_if_eqB (r := 165) dX4_workOut_104 (by decide) rfl (fun c_104 => ?_) (fun c_104 => ?_)
              · refine r_iinc (ls' := [_, _, _, _, _, _, _, _]) dX4_workOut_165 (Nat.le_of_ble_eq_true rfl) rfl (zinc1 _) rfl rfl ?_
                refine r_goto (r := 32) dX4_workOut_168 (by decide) ?_
                exact hrec _ _ _ (hI1.opn hQe (hQl e hQe) (by dsimp only at q7; omega) q4 (fnd_slot q8) (fun r hr => by cases hr)) (hr.e.to (fun a g => Or.inl (XK.d a g))) (opnW_e (hQl e hQe))
              · exact absurd c_104 (by decide)
      | inr o =>
        cases o with
        | none =>
          have hno := ev_none hP hI.2.2.1 hI.2.1 hQ0 (fun s hs => (hok0.2.2 s hs).1) (fun e n D' q1 q2 q3 q4 => by have := hI.2.2.2.2.2.1 e n q1 q2 q4; cases this) hR
          refine r_iload_n dX4_workOut_32 rfl rfl ?_
          refine r_iconst dX4_workOut_33 kc_2 rfl ?_
          refine r_aload_n dX4_workOut_34 rfl (zRv_ref _) rfl ?_
          refine r_gets 4 8 508 lfX4_28 (by first | (simp only [zKS]; first | assumption) | assumption | exact zk_nself _ _ _ | (simp [zKS, zNS, *]; done)) rfl rfl (by first | (simp only [zGS, Nat.reduceEqDiff, OfNat.ofNat_ne_ofNat, false_and, and_false, true_and, and_true, and_self, if_true, if_false, ite_true, ite_false, reduceIte, reduceCtorEq]; first | done | assumption) | assumption | exact z2_eq | (simp [zGS]; first | done | assumption)) dX4_workOut_35 rfl ?_
          refine r_alenv 2 (by decide) (by first | (simp only [zKS]; first | assumption) | assumption | exact zk_nself _ _ _ | (simp [zKS, zNS, *]; done)) (by first | (simp only [zGS, zMS, Nat.reduceEqDiff, OfNat.ofNat_ne_ofNat, false_and, and_false, true_and, and_true, and_self, if_true, if_false, ite_true, ite_false, reduceIte, reduceCtorEq]; first | done | assumption | rfl) | assumption | exact z2_eq | exact z1_eq | (simp [zGS, zMS]; first | done | assumption) | rfl) dX4_workOut_38 rfl ?_
          refine r_imulN dX4_workOut_39 rfl ?_
          refine r_icmp_gtN (by omega) (by omega) (r := 171) dX4_workOut_40 (by decide) rfl (fun c_40 => ?_) (fun c_40 => ?_)
          · exact absurd c_40 (by omega)
          · refine r_aload_n dX4_workOut_43 rfl (zRv_ref _) rfl ?_
            refine r_getiv 4 9 509 lfX4_88 (by first | (simp only [zKS]; first | assumption) | assumption | exact zk_nself _ _ _ | (simp [zKS, zNS, *]; done)) rfl rfl (by first | (simp only [zGS, zMS, Nat.reduceEqDiff, OfNat.ofNat_ne_ofNat, false_and, and_false, true_and, and_true, and_self, if_true, if_false, ite_true, ite_false, reduceIte, reduceCtorEq]; first | done | assumption | rfl) | assumption | exact z2_eq | exact z1_eq | (simp [zGS, zMS]; first | done | assumption) | rfl) dX4_workOut_44 rfl ?_
            refine r_iconst dX4_workOut_47 kc_1 rfl ?_
            refine r_isub dX4_workOut_48 rfl ?_
            rw [show nI 0 - nI 1 = (-1 : Int32) by decide +kernel]
            refine r_istore (ls' := [_, _, _, _, _, _, _, _]) dX4_workOut_49 (Nat.le_of_ble_eq_true rfl) rfl rfl ?_
            refine r_iload dX4_workOut_51 rfl rfl ?_
            refine r_if_ge (r := 60) dX4_workOut_53 (by decide) rfl (fun c_53 => ?_) (fun c_53 => ?_)
            · exact absurd c_53 (by decide)
            · refine r_aload_n dX4_workOut_56 rfl (by first | exact zRv_ref _ | exact zRv_null | exact zRv_rf _ | assumption) rfl ?_
              refine r_goto (r := 67) dX4_workOut_57 (by decide) ?_
              refine r_astore (ls' := [_, _, _, _, _, _, _, _]) dX4_workOut_67 (Nat.le_of_ble_eq_true rfl) (by first | exact zRv_ref _ | exact zRv_null | exact zRv_rf _ | assumption) rfl rfl ?_
              refine r_iload dX4_workOut_69 rfl rfl ?_
              refine r_if_ge (r := 78) dX4_workOut_71 (by decide) rfl (fun c_71 => ?_) (fun c_71 => ?_)
              · exact absurd c_71 (by decide)
              · refine r_aload_n dX4_workOut_74 rfl (by first | exact zRv_ref _ | exact zRv_null | exact zRv_rf _ | assumption) rfl ?_
                refine r_goto (r := 94) dX4_workOut_75 (by decide) ?_
                refine r_astore (ls' := [_, _, _, _, _, _, _, _]) dX4_workOut_94 (Nat.le_of_ble_eq_true rfl) (by first | exact zRv_ref _ | exact zRv_null | exact zRv_rf _ | assumption) rfl rfl ?_
                refine r_aload_n dX4_workOut_96 rfl (zRv_ref _) rfl ?_
                refine r_aload dX4_workOut_97 rfl (by first | exact zRv_ref _ | exact zRv_null | exact zRv_rf _ | assumption) rfl ?_
                refine r_aload dX4_workOut_99 rfl (by first | exact zRv_ref _ | exact zRv_null | exact zRv_rf _ | assumption) rfl ?_
                refine r_callV MX4_pass 2 [_, _] lvX4_91 (Or.inl ⟨4, by decide, (by first | (simp only [zKS]; first | assumption) | assumption | exact zk_nself _ _ _ | (simp [zKS, zNS, *]; done)), rfl⟩) (sp_pass E sg (d - 1) (by omega) x nr T A DC RG L K hI.2.1 wanted hwt em whole hem hwh 0 e0 hoc he0 a0 D0 hD0 hok0 w hI.1) rfl rfl (by first | exact Nat.le_of_ble_eq_true rfl | (simp [zcat_rf, Value.category]; done)) (by omega) (Nat.le_of_eq (Nat.zero_add _)) (Nat.le_of_eq (Nat.zero_add _)) dX4_workOut_101 rfl (fun v_ w_ sg_ hq_ => ?_)
                rw [hR] at hq_
                obtain ⟨rfl, rfl, hr, hz⟩ := hq_
                refine r_if_eqB (r := 165) dX4_workOut_104 (by decide) rfl (fun c_104 => ?_) (fun c_104 => ?_)
                · exact absurd c_104 (by decide)
                · refine r_iload dX4_workOut_107 rfl rfl ?_
                  refine r_if_ge (r := 113) dX4_workOut_109 (by decide) rfl (fun c_109 => ?_) (fun c_109 => ?_)
                  · exact absurd c_109 (by decide)
                  · refine r_vret rfl dX4_workOut_112 ?_
                    exact ⟨rfl, rfl, hw.tr (hr.e.to (fun a g => Or.inl (XK.d a g))) (fun _ q => q), ⟨K, hI.1.s hr, hI.2.1⟩, Or.inr ⟨hno, hz⟩⟩
        | some st =>
          obtain ⟨os1, os2⟩ := pasS_fin hI.2.1 hem hwh D0.2.2.2 [] _ hok0.2.2 (fun _ q => by cases q) hok0.1 hR
          obtain ⟨f, hf⟩ := pasS_good hP hI.2.2.1 hQ0 _ _ _ (fun s hs => (hok0.2.2 s hs).1) hR
          obtain ⟨u, rfl⟩ : ∃ u, st = [u] := by
            cases st with
            | nil => cases os2
            | cons u st => cases st with
              | nil => exact ⟨u, rfl⟩
              | cons _ _ => cases os2
          have hev : ev T L wanted em whole (f + 1) D0 e0 = some u := by
            unfold ev
            show one1 (runS wanted em whole (nmE T L wanted em whole e0 f) D0.2.2.2 []) = _
            rw [hf]
            rfl
          have hu := os1 u List.mem_cons_self
          refine r_iload_n dX4_workOut_32 rfl rfl ?_
          refine r_iconst dX4_workOut_33 kc_2 rfl ?_
          refine r_aload_n dX4_workOut_34 rfl (zRv_ref _) rfl ?_
          refine r_gets 4 8 508 lfX4_28 (by first | (simp only [zKS]; first | assumption) | assumption | exact zk_nself _ _ _ | (simp [zKS, zNS, *]; done)) rfl rfl (by first | (simp only [zGS, Nat.reduceEqDiff, OfNat.ofNat_ne_ofNat, false_and, and_false, true_and, and_true, and_self, if_true, if_false, ite_true, ite_false, reduceIte, reduceCtorEq]; first | done | assumption) | assumption | exact z2_eq | (simp [zGS]; first | done | assumption)) dX4_workOut_35 rfl ?_
          refine r_alenv 2 (by decide) (by first | (simp only [zKS]; first | assumption) | assumption | exact zk_nself _ _ _ | (simp [zKS, zNS, *]; done)) (by first | (simp only [zGS, zMS, Nat.reduceEqDiff, OfNat.ofNat_ne_ofNat, false_and, and_false, true_and, and_true, and_self, if_true, if_false, ite_true, ite_false, reduceIte, reduceCtorEq]; first | done | assumption | rfl) | assumption | exact z2_eq | exact z1_eq | (simp [zGS, zMS]; first | done | assumption) | rfl) dX4_workOut_38 rfl ?_
          refine r_imulN dX4_workOut_39 rfl ?_
          refine r_icmp_gtN (by omega) (by omega) (r := 171) dX4_workOut_40 (by decide) rfl (fun c_40 => ?_) (fun c_40 => ?_)
          · exact absurd c_40 (by omega)
          · refine r_aload_n dX4_workOut_43 rfl (zRv_ref _) rfl ?_
            refine r_getiv 4 9 509 lfX4_88 (by first | (simp only [zKS]; first | assumption) | assumption | exact zk_nself _ _ _ | (simp [zKS, zNS, *]; done)) rfl rfl (by first | (simp only [zGS, zMS, Nat.reduceEqDiff, OfNat.ofNat_ne_ofNat, false_and, and_false, true_and, and_true, and_self, if_true, if_false, ite_true, ite_false, reduceIte, reduceCtorEq]; first | done | assumption | rfl) | assumption | exact z2_eq | exact z1_eq | (simp [zGS, zMS]; first | done | assumption) | rfl) dX4_workOut_44 rfl ?_
            refine r_iconst dX4_workOut_47 kc_1 rfl ?_
            refine r_isub dX4_workOut_48 rfl ?_
            rw [show nI 0 - nI 1 = (-1 : Int32) by decide +kernel]
            refine r_istore (ls' := [_, _, _, _, _, _, _, _]) dX4_workOut_49 (Nat.le_of_ble_eq_true rfl) rfl rfl ?_
            refine r_iload dX4_workOut_51 rfl rfl ?_
            refine r_if_ge (r := 60) dX4_workOut_53 (by decide) rfl (fun c_53 => ?_) (fun c_53 => ?_)
            · exact absurd c_53 (by decide)
            · refine r_aload_n dX4_workOut_56 rfl (by first | exact zRv_ref _ | exact zRv_null | exact zRv_rf _ | assumption) rfl ?_
              refine r_goto (r := 67) dX4_workOut_57 (by decide) ?_
              refine r_astore (ls' := [_, _, _, _, _, _, _, _]) dX4_workOut_67 (Nat.le_of_ble_eq_true rfl) (by first | exact zRv_ref _ | exact zRv_null | exact zRv_rf _ | assumption) rfl rfl ?_
              refine r_iload dX4_workOut_69 rfl rfl ?_
              refine r_if_ge (r := 78) dX4_workOut_71 (by decide) rfl (fun c_71 => ?_) (fun c_71 => ?_)
              · exact absurd c_71 (by decide)
              · refine r_aload_n dX4_workOut_74 rfl (by first | exact zRv_ref _ | exact zRv_null | exact zRv_rf _ | assumption) rfl ?_
                refine r_goto (r := 94) dX4_workOut_75 (by decide) ?_
                refine r_astore (ls' := [_, _, _, _, _, _, _, _]) dX4_workOut_94 (Nat.le_of_ble_eq_true rfl) (by first | exact zRv_ref _ | exact zRv_null | exact zRv_rf _ | assumption) rfl rfl ?_
                refine r_aload_n dX4_workOut_96 rfl (zRv_ref _) rfl ?_
                refine r_aload dX4_workOut_97 rfl (by first | exact zRv_ref _ | exact zRv_null | exact zRv_rf _ | assumption) rfl ?_
                refine r_aload dX4_workOut_99 rfl (by first | exact zRv_ref _ | exact zRv_null | exact zRv_rf _ | assumption) rfl ?_
                refine r_callV MX4_pass 2 [_, _] lvX4_91 (Or.inl ⟨4, by decide, (by first | (simp only [zKS]; first | assumption) | assumption | exact zk_nself _ _ _ | (simp [zKS, zNS, *]; done)), rfl⟩) (sp_pass E sg (d - 1) (by omega) x nr T A DC RG L K hI.2.1 wanted hwt em whole hem hwh 0 e0 hoc he0 a0 D0 hD0 hok0 w hI.1) rfl rfl (by first | exact Nat.le_of_ble_eq_true rfl | (simp [zcat_rf, Value.category]; done)) (by omega) (Nat.le_of_eq (Nat.zero_add _)) (Nat.le_of_eq (Nat.zero_add _)) dX4_workOut_101 rfl (fun v_ w_ sg_ hq_ => ?_)
                rw [hR] at hq_
                obtain ⟨rfl, rfl, hr, hz⟩ := hq_
                refine r_if_eqB (r := 165) dX4_workOut_104 (by decide) rfl (fun c_104 => ?_) (fun c_104 => ?_)
                · exact absurd c_104 (by decide)
                · refine r_iload dX4_workOut_107 rfl rfl ?_
                  refine r_if_ge (r := 113) dX4_workOut_109 (by decide) rfl (fun c_109 => ?_) (fun c_109 => ?_)
                  · exact absurd c_109 (by decide)
                  · refine r_vret rfl dX4_workOut_112 ?_
                    exact ⟨rfl, rfl, hw.tr (hr.e.to (fun a g => Or.inl (XK.d a g))) (fun _ q => q), ⟨K, hI.1.s hr, hI.2.1⟩, Or.inl ⟨f + 1, u, hev, hu.1, hu.2, hz.2.2.1, hz.2.2.2.1⟩⟩
    | cons q os =>
      obtain ⟨e, n⟩ := q
      obtain ⟨hQe, hn, hK3, D, hsl⟩ := hI.2.2.2.2.1 (e, n) List.mem_cons_self
      have he := hQl e hQe
      dsimp only at hn hsl
      obtain ⟨hsum, k9, wt, hLe⟩ := slotD_L hsl
      have hld := hI.1.1.2.1 e he (6 + n) (by omega)
      rw [hLe] at hld
      obtain ⟨ad, g1, g2, -, -⟩ := hld
      have hokD := hWD ad D g2 hsum
      obtain ⟨o1, o2, o3⟩ := id hI.2.2.2.1
      have hu4 : zi w 509 (x + 7) = nI (os.length + 1) := hI.1.2.2.2.2.2
      have hoc := hocG e hQe
      have hlen : ((e, n) :: os).length = os.length + 1 := rfl
      obtain ⟨f0, -, -, -, -, -, -, -, -, -, -, f10, -⟩ := hI.1.1.1.2.2.1.2 e he
      obtain ⟨⟨s1, s2, s3, s4, s5, s6, s7, s8⟩, ⟨t1, t2, t3, t4, t5, t6, t7⟩, m1, m2, m3, m4, m5, m6, m7⟩ := hI.1.1.1.2.2.2.2.1 e he
      have hch := hI.2.2.2.2.2.2.2.1
      have hb96 := hI.2.2.2.2.2.2.2.2.2
      cases hR : pasS T L K wanted em whole e D.2.2.2 [] with
      | inl q =>
        obtain ⟨e', n'⟩ := q
        obtain ⟨q4, s, q5, q6, q7, D', q8⟩ := pasS_wait _ _ _ hR
        have hs13 := (hokD.2.2 s q5).1
        have hQe' : Q e' = true := fnd_path hP hQe q8
        have hask : lead2 T L wanted em whole D e D' e' := lead2_ask ⟨s, q5, q6, q7⟩ q8
        have hcc : ∀ r ∈ (e, n) :: os, ∀ Dr, slotD L r.1 r.2 = some Dr → lead2 T L wanted em whole Dr r.1 D' e' := fun r hr Dr hDr => by
          rcases List.mem_cons.mp hr with rfl | hr
          · dsimp only at hDr
            rw [hsl] at hDr
            cases hDr
            exact hask
          · exact (hch.1 r hr Dr D hDr hsl).tr hask
        refine r_iload_n dX4_workOut_32 rfl rfl ?_
        refine r_iconst dX4_workOut_33 kc_2 rfl ?_
        refine r_aload_n dX4_workOut_34 rfl (zRv_ref _) rfl ?_
        refine r_gets 4 8 508 lfX4_28 (by first | (simp only [zKS]; first | assumption) | assumption | exact zk_nself _ _ _ | (simp [zKS, zNS, *]; done)) rfl rfl (by first | (simp only [zGS, Nat.reduceEqDiff, OfNat.ofNat_ne_ofNat, false_and, and_false, true_and, and_true, and_self, if_true, if_false, ite_true, ite_false, reduceIte, reduceCtorEq]; first | done | assumption) | assumption | exact z2_eq | (simp [zGS]; first | done | assumption)) dX4_workOut_35 rfl ?_
        refine r_alenv 2 (by decide) (by first | (simp only [zKS]; first | assumption) | assumption | exact zk_nself _ _ _ | (simp [zKS, zNS, *]; done)) (by first | (simp only [zGS, zMS, Nat.reduceEqDiff, OfNat.ofNat_ne_ofNat, false_and, and_false, true_and, and_true, and_self, if_true, if_false, ite_true, ite_false, reduceIte, reduceCtorEq]; first | done | assumption | rfl) | assumption | exact z2_eq | exact z1_eq | (simp [zGS, zMS]; first | done | assumption) | rfl) dX4_workOut_38 rfl ?_
        refine r_imulN dX4_workOut_39 rfl ?_
        refine r_icmp_gtN (by omega) (by omega) (r := 171) dX4_workOut_40 (by decide) rfl (fun c_40 => ?_) (fun c_40 => ?_)
        · exact absurd c_40 (by omega)
        · refine r_aload_n dX4_workOut_43 rfl (zRv_ref _) rfl ?_
          refine r_getiv 4 9 509 lfX4_88 (by first | (simp only [zKS]; first | assumption) | assumption | exact zk_nself _ _ _ | (simp [zKS, zNS, *]; done)) rfl rfl (by first | (simp only [zGS, zMS, Nat.reduceEqDiff, OfNat.ofNat_ne_ofNat, false_and, and_false, true_and, and_true, and_self, if_true, if_false, ite_true, ite_false, reduceIte, reduceCtorEq]; first | done | assumption | rfl) | assumption | exact z2_eq | exact z1_eq | (simp [zGS, zMS]; first | done | assumption) | rfl) dX4_workOut_44 rfl ?_
          refine r_iconst dX4_workOut_47 kc_1 rfl ?_
          refine r_isubN (by omega) dX4_workOut_48 rfl ?_
          rw [show os.length + 1 - 1 = os.length by omega]
          refine r_istore (ls' := [_, _, _, _, _, _, _, _]) dX4_workOut_49 (Nat.le_of_ble_eq_true rfl) rfl rfl ?_
          refine r_iload dX4_workOut_51 rfl rfl ?_
          refine r_if_geN (by omega) (r := 60) dX4_workOut_53 (by decide) rfl (fun c_53 => ?_) (fun c_53 => ?_)
          · refine r_aload_n dX4_workOut_60 rfl (zRv_ref _) rfl ?_
            refine r_gets 4 7 507 lfX4_25 (by first | (simp only [zKS]; first | assumption) | assumption | exact zk_nself _ _ _ | (simp [zKS, zNS, *]; done)) rfl rfl (by first | (simp only [zGS, Nat.reduceEqDiff, OfNat.ofNat_ne_ofNat, false_and, and_false, true_and, and_true, and_self, if_true, if_false, ite_true, ite_false, reduceIte, reduceCtorEq]; first | done | assumption) | assumption | exact z2_eq | (simp [zGS]; first | done | assumption)) dX4_workOut_61 rfl ?_
            refine r_iload dX4_workOut_64 rfl rfl ?_
            refine r_aals7 os.length o1 k4 rfl (by omega) (by omega) dX4_workOut_66 rfl ?_
            refine r_astore (ls' := [_, _, _, _, _, _, _, _]) dX4_workOut_67 (Nat.le_of_ble_eq_true rfl) (by first | exact zRv_ref _ | exact zRv_null | exact zRv_rf _ | assumption) rfl rfl ?_
            refine r_iload dX4_workOut_69 rfl rfl ?_
            refine r_if_geN (by omega) (r := 78) dX4_workOut_71 (by decide) rfl (fun c_71 => ?_) (fun c_71 => ?_)
            · refine r_aload dX4_workOut_78 rfl (by first | exact zRv_ref _ | exact zRv_null | exact zRv_rf _ | assumption) rfl ?_
              refine r_gets 2 9 309 lfX4_39 (by first | (simp only [zKS]; first | assumption) | assumption | exact zk_nself _ _ _ | (simp [zKS, zNS, *]; done)) rfl rfl (by first | (simp only [zGS, Nat.reduceEqDiff, OfNat.ofNat_ne_ofNat, false_and, and_false, true_and, and_true, and_self, if_true, if_false, ite_true, ite_false, reduceIte, reduceCtorEq]; first | done | assumption) | assumption | exact z2_eq | (simp [zGS]; first | done | assumption)) dX4_workOut_80 rfl ?_
              refine r_gets 7 0 800 lfX4_48 (by first | (simp only [zKS]; first | assumption) | assumption | exact zk_nself _ _ _ | (simp [zKS, zNS, *]; done)) rfl rfl (by first | (simp only [zGS, Nat.reduceEqDiff, OfNat.ofNat_ne_ofNat, false_and, and_false, true_and, and_true, and_self, if_true, if_false, ite_true, ite_false, reduceIte, reduceCtorEq]; first | done | assumption) | assumption | exact z2_eq | (simp [zGS]; first | done | assumption)) dX4_workOut_83 rfl ?_
              refine r_aload_n dX4_workOut_86 rfl (zRv_ref _) rfl ?_
              refine r_gets 4 8 508 lfX4_28 (by first | (simp only [zKS]; first | assumption) | assumption | exact zk_nself _ _ _ | (simp [zKS, zNS, *]; done)) rfl rfl (by first | (simp only [zGS, Nat.reduceEqDiff, OfNat.ofNat_ne_ofNat, false_and, and_false, true_and, and_true, and_self, if_true, if_false, ite_true, ite_false, reduceIte, reduceCtorEq]; first | done | assumption) | assumption | exact z2_eq | (simp [zGS]; first | done | assumption)) dX4_workOut_87 rfl ?_
              refine r_iload dX4_workOut_90 rfl rfl ?_
              refine r_ialdv os.length k5 rfl (by omega) (by omega) o2 dX4_workOut_92 rfl ?_
              refine r_aals6 (6 + n) g1 t1 rfl (by omega) (by omega) dX4_workOut_93 rfl ?_
              refine r_astore (ls' := [_, _, _, _, _, _, _, _]) dX4_workOut_94 (Nat.le_of_ble_eq_true rfl) (by first | exact zRv_ref _ | exact zRv_null | exact zRv_rf _ | assumption) rfl rfl ?_
              refine r_aload_n dX4_workOut_96 rfl (zRv_ref _) rfl ?_
              refine r_aload dX4_workOut_97 rfl (by first | exact zRv_ref _ | exact zRv_null | exact zRv_rf _ | assumption) rfl ?_
              refine r_aload dX4_workOut_99 rfl (by first | exact zRv_ref _ | exact zRv_null | exact zRv_rf _ | assumption) rfl ?_
              refine r_callV MX4_pass 2 [_, _] lvX4_91 (Or.inl ⟨4, by decide, (by first | (simp only [zKS]; first | assumption) | assumption | exact zk_nself _ _ _ | (simp [zKS, zNS, *]; done)), rfl⟩) (sp_pass E sg (d - 1) (by omega) x nr T A DC RG L K hI.2.1 wanted hwt em whole hem hwh (os.length + 1) e hoc he ad D g2 hokD w hI.1) rfl rfl (by first | exact Nat.le_of_ble_eq_true rfl | (simp [zcat_rf, Value.category]; done)) (by omega) (Nat.le_of_eq (Nat.zero_add _)) (Nat.le_of_eq (Nat.zero_add _)) dX4_workOut_101 rfl (fun v_ w_ sg_ hq_ => ?_)
              rw [hR] at hq_
              obtain ⟨rfl, rfl, w1, hr, rfl⟩ := hq_
              have hI1 := hI.s hr
              refine r_if_eqB (r := 165) dX4_workOut_104 (by decide) rfl (fun c_104 => ?_) (fun c_104 => ?_)
              · refine r_iinc (ls' := [_, _, _, _, _, _, _, _]) dX4_workOut_165 (Nat.le_of_ble_eq_true rfl) rfl (zinc1 _) rfl rfl ?_
                refine r_goto (r := 32) dX4_workOut_168 (by decide) ?_
                exact hrec _ _ _ (hI1.opn hQe' (hQl e' hQe') (by dsimp only at q7; omega) q4 (fnd_slot q8) hcc) (hr.e.to (fun a g => Or.inl (XK.d a g))) (opnW_e (hQl e' hQe'))
              · exact absurd c_104 (by decide)
            · exact absurd c_71 (by omega)
          · exact absurd c_53 (by omega)
      | inr o =>
        cases o with
        | none =>
          have hno := ev_none hP hI.2.2.1 hI.2.1 hQe (fun s hs => (hokD.2.2 s hs).1) (fun e' n' D' q1 q2 q3 q4 => by
            rcases List.mem_cons.mp (hI.2.2.2.2.2.1 e' n' q1 q2 q4) with g | g
            · cases g
              rw [hsl] at q3
              cases q3
              exact fun f hf => ⟨f, Nat.le_refl f, hf⟩
            · exact hch.1 (e', n') g D' D q3 hsl) hR
          refine r_iload_n dX4_workOut_32 rfl rfl ?_
          refine r_iconst dX4_workOut_33 kc_2 rfl ?_
          refine r_aload_n dX4_workOut_34 rfl (zRv_ref _) rfl ?_
          refine r_gets 4 8 508 lfX4_28 (by first | (simp only [zKS]; first | assumption) | assumption | exact zk_nself _ _ _ | (simp [zKS, zNS, *]; done)) rfl rfl (by first | (simp only [zGS, Nat.reduceEqDiff, OfNat.ofNat_ne_ofNat, false_and, and_false, true_and, and_true, and_self, if_true, if_false, ite_true, ite_false, reduceIte, reduceCtorEq]; first | done | assumption) | assumption | exact z2_eq | (simp [zGS]; first | done | assumption)) dX4_workOut_35 rfl ?_
          refine r_alenv 2 (by decide) (by first | (simp only [zKS]; first | assumption) | assumption | exact zk_nself _ _ _ | (simp [zKS, zNS, *]; done)) (by first | (simp only [zGS, zMS, Nat.reduceEqDiff, OfNat.ofNat_ne_ofNat, false_and, and_false, true_and, and_true, and_self, if_true, if_false, ite_true, ite_false, reduceIte, reduceCtorEq]; first | done | assumption | rfl) | assumption | exact z2_eq | exact z1_eq | (simp [zGS, zMS]; first | done | assumption) | rfl) dX4_workOut_38 rfl ?_
          refine r_imulN dX4_workOut_39 rfl ?_
          refine r_icmp_gtN (by omega) (by omega) (r := 171) dX4_workOut_40 (by decide) rfl (fun c_40 => ?_) (fun c_40 => ?_)
          · exact absurd c_40 (by omega)
          · refine r_aload_n dX4_workOut_43 rfl (zRv_ref _) rfl ?_
            refine r_getiv 4 9 509 lfX4_88 (by first | (simp only [zKS]; first | assumption) | assumption | exact zk_nself _ _ _ | (simp [zKS, zNS, *]; done)) rfl rfl (by first | (simp only [zGS, zMS, Nat.reduceEqDiff, OfNat.ofNat_ne_ofNat, false_and, and_false, true_and, and_true, and_self, if_true, if_false, ite_true, ite_false, reduceIte, reduceCtorEq]; first | done | assumption | rfl) | assumption | exact z2_eq | exact z1_eq | (simp [zGS, zMS]; first | done | assumption) | rfl) dX4_workOut_44 rfl ?_
            refine r_iconst dX4_workOut_47 kc_1 rfl ?_
            refine r_isubN (by omega) dX4_workOut_48 rfl ?_
            rw [show os.length + 1 - 1 = os.length by omega]
            refine r_istore (ls' := [_, _, _, _, _, _, _, _]) dX4_workOut_49 (Nat.le_of_ble_eq_true rfl) rfl rfl ?_
            refine r_iload dX4_workOut_51 rfl rfl ?_
            refine r_if_geN (by omega) (r := 60) dX4_workOut_53 (by decide) rfl (fun c_53 => ?_) (fun c_53 => ?_)
            · refine r_aload_n dX4_workOut_60 rfl (zRv_ref _) rfl ?_
              refine r_gets 4 7 507 lfX4_25 (by first | (simp only [zKS]; first | assumption) | assumption | exact zk_nself _ _ _ | (simp [zKS, zNS, *]; done)) rfl rfl (by first | (simp only [zGS, Nat.reduceEqDiff, OfNat.ofNat_ne_ofNat, false_and, and_false, true_and, and_true, and_self, if_true, if_false, ite_true, ite_false, reduceIte, reduceCtorEq]; first | done | assumption) | assumption | exact z2_eq | (simp [zGS]; first | done | assumption)) dX4_workOut_61 rfl ?_
              refine r_iload dX4_workOut_64 rfl rfl ?_
              refine r_aals7 os.length o1 k4 rfl (by omega) (by omega) dX4_workOut_66 rfl ?_
              refine r_astore (ls' := [_, _, _, _, _, _, _, _]) dX4_workOut_67 (Nat.le_of_ble_eq_true rfl) (by first | exact zRv_ref _ | exact zRv_null | exact zRv_rf _ | assumption) rfl rfl ?_
              refine r_iload dX4_workOut_69 rfl rfl ?_
              refine r_if_geN (by omega) (r := 78) dX4_workOut_71 (by decide) rfl (fun c_71 => ?_) (fun c_71 => ?_)
              · refine r_aload dX4_workOut_78 rfl (by first | exact zRv_ref _ | exact zRv_null | exact zRv_rf _ | assumption) rfl ?_
                refine r_gets 2 9 309 lfX4_39 (by first | (simp only [zKS]; first | assumption) | assumption | exact zk_nself _ _ _ | (simp [zKS, zNS, *]; done)) rfl rfl (by first | (simp only [zGS, Nat.reduceEqDiff, OfNat.ofNat_ne_ofNat, false_and, and_false, true_and, and_true, and_self, if_true, if_false, ite_true, ite_false, reduceIte, reduceCtorEq]; first | done | assumption) | assumption | exact z2_eq | (simp [zGS]; first | done | assumption)) dX4_workOut_80 rfl ?_
                refine r_gets 7 0 800 lfX4_48 (by first | (simp only [zKS]; first | assumption) | assumption | exact zk_nself _ _ _ | (simp [zKS, zNS, *]; done)) rfl rfl (by first | (simp only [zGS, Nat.reduceEqDiff, OfNat.ofNat_ne_ofNat, false_and, and_false, true_and, and_true, and_self, if_true, if_false, ite_true, ite_false, reduceIte, reduceCtorEq]; first | done | assumption) | assumption | exact z2_eq | (simp [zGS]; first | done | assumption)) dX4_workOut_83 rfl ?_
                refine r_aload_n dX4_workOut_86 rfl (zRv_ref _) rfl ?_
                refine r_gets 4 8 508 lfX4_28 (by first | (simp only [zKS]; first | assumption) | assumption | exact zk_nself _ _ _ | (simp [zKS, zNS, *]; done)) rfl rfl (by first | (simp only [zGS, Nat.reduceEqDiff, OfNat.ofNat_ne_ofNat, false_and, and_false, true_and, and_true, and_self, if_true, if_false, ite_true, ite_false, reduceIte, reduceCtorEq]; first | done | assumption) | assumption | exact z2_eq | (simp [zGS]; first | done | assumption)) dX4_workOut_87 rfl ?_
                refine r_iload dX4_workOut_90 rfl rfl ?_
                refine r_ialdv os.length k5 rfl (by omega) (by omega) o2 dX4_workOut_92 rfl ?_
                refine r_aals6 (6 + n) g1 t1 rfl (by omega) (by omega) dX4_workOut_93 rfl ?_
                refine r_astore (ls' := [_, _, _, _, _, _, _, _]) dX4_workOut_94 (Nat.le_of_ble_eq_true rfl) (by first | exact zRv_ref _ | exact zRv_null | exact zRv_rf _ | assumption) rfl rfl ?_
                refine r_aload_n dX4_workOut_96 rfl (zRv_ref _) rfl ?_
                refine r_aload dX4_workOut_97 rfl (by first | exact zRv_ref _ | exact zRv_null | exact zRv_rf _ | assumption) rfl ?_
                refine r_aload dX4_workOut_99 rfl (by first | exact zRv_ref _ | exact zRv_null | exact zRv_rf _ | assumption) rfl ?_
                refine r_callV MX4_pass 2 [_, _] lvX4_91 (Or.inl ⟨4, by decide, (by first | (simp only [zKS]; first | assumption) | assumption | exact zk_nself _ _ _ | (simp [zKS, zNS, *]; done)), rfl⟩) (sp_pass E sg (d - 1) (by omega) x nr T A DC RG L K hI.2.1 wanted hwt em whole hem hwh (os.length + 1) e hoc he ad D g2 hokD w hI.1) rfl rfl (by first | exact Nat.le_of_ble_eq_true rfl | (simp [zcat_rf, Value.category]; done)) (by omega) (Nat.le_of_eq (Nat.zero_add _)) (Nat.le_of_eq (Nat.zero_add _)) dX4_workOut_101 rfl (fun v_ w_ sg_ hq_ => ?_)
                rw [hR] at hq_
                obtain ⟨rfl, rfl, hr, hk0⟩ := hq_
                obtain ⟨w1, hw1⟩ : ∃ x, x = w_ := ⟨_, rfl⟩
                subst hw1
                have hI1 := hI.s hr
                obtain ⟨vv, hvv⟩ : ∃ vv : PVal, vv = (2, zg w1 (x + 7 + 3) 0) := ⟨_, rfl⟩
                have hk0 : za w1 (x + 7 + 2) 0 = nI vv.1 := by rw [hvv]; exact hk0
                have ha0 : zg w1 (x + 7 + 3) 0 = vv.2 := by rw [hvv]
                have hv2 : vv.1 ≤ 2 := by rw [hvv]; exact Nat.le_refl 2
                have hvf : vv.1 ≤ 1 → fFin vv.2 := fun g => by rw [hvv] at g; exact absurd (show (2 : Nat) ≤ 1 from g) (by decide)
                have hvd : ∀ D', slotD L e n = some D' → (vv.1 ≤ 1 → ∃ f, ev T L wanted em whole f D' e = some vv) ∧ (vv.1 = 2 → ∀ f, ev T L wanted em whole f D' e = none) := fun D' g => by
                  rw [hsl] at g
                  cases g
                  exact ⟨fun g => by rw [hvv] at g; exact absurd (show (2 : Nat) ≤ 1 from g) (by decide), fun _ => hno⟩
                obtain ⟨⟨m1, m2, m3, m4, m5, m6⟩, ⟨b1, b2, b3, b4, b5⟩, -⟩ := id hI1.1.2.1
                obtain ⟨z1, z2, z3⟩ := id hI1.2.2.2.1
                obtain ⟨j0, -, -, -, -, -, -, -, -, -, -, j10, -⟩ := hI1.1.1.1.2.2.1.2 e he
                obtain ⟨⟨u1, u2, u3, u4, u5, u6, u7, u8⟩, ⟨v1, v2, v3, v4, v5, v6, v7⟩, y1, y2, y3, y4, y5, y6, y7⟩ := hI1.1.1.1.2.2.2.2.1 e he
                have r4 : zln w1 (x + 7 + 2) = 15 := hI1.1.2.1.2.2.2.1
                have r5 : zln w1 (x + 7 + 3) = 15 := hI1.1.2.1.2.2.2.2.1
                have r6 : zln w1 (x + 7 + 5) = 96 := hI1.1.2.1.2.2.2.2.2.2
                have ex := sltW_e (w := w1) (x := x) (A := A) (N := T.length) (e := e) (n := n) (oc := os.length) (kd := nI vv.1) (amt := vv.2) he
                refine r_if_eqB (r := 165) dX4_workOut_104 (by decide) rfl (fun c_104 => ?_) (fun c_104 => ?_)
                · exact absurd c_104 (by decide)
                · refine r_iload dX4_workOut_107 rfl rfl ?_
                  refine r_if_geN (by omega) (r := 113) dX4_workOut_109 (by decide) rfl (fun c_109 => ?_) (fun c_109 => ?_)
                  · refine r_aload_n dX4_workOut_113 rfl (zRv_ref _) rfl ?_
                    refine r_gets 4 8 508 lfX4_28 (by first | (simp only [zKS]; first | assumption) | assumption | exact zk_nself _ _ _ | (simp [zKS, zNS, *]; done)) rfl rfl (by first | (simp only [zGS, Nat.reduceEqDiff, OfNat.ofNat_ne_ofNat, false_and, and_false, true_and, and_true, and_self, if_true, if_false, ite_true, ite_false, reduceIte, reduceCtorEq]; first | done | assumption) | assumption | exact z2_eq | (simp [zGS]; first | done | assumption)) dX4_workOut_114 rfl ?_
                    refine r_iload dX4_workOut_117 rfl rfl ?_
                    refine r_ialdv os.length b5 rfl (by omega) (by omega) z2 dX4_workOut_119 rfl ?_
                    refine r_bipush dX4_workOut_120 kb_6 rfl ?_
                    refine r_isubN (by omega) dX4_workOut_122 rfl ?_
                    rw [show 6 + n - 6 = n by omega]
                    refine r_istore (ls' := [_, _, _, _, _, _, _, _]) dX4_workOut_123 (Nat.le_of_ble_eq_true rfl) rfl rfl ?_
                    refine r_aload dX4_workOut_125 rfl (by first | exact zRv_ref _ | exact zRv_null | exact zRv_rf _ | assumption) rfl ?_
                    refine r_gets 2 9 309 lfX4_39 (by first | (simp only [zKS]; first | assumption) | assumption | exact zk_nself _ _ _ | (simp [zKS, zNS, *]; done)) rfl rfl (by first | (simp only [zGS, Nat.reduceEqDiff, OfNat.ofNat_ne_ofNat, false_and, and_false, true_and, and_true, and_self, if_true, if_false, ite_true, ite_false, reduceIte, reduceCtorEq]; first | done | assumption) | assumption | exact z2_eq | (simp [zGS]; first | done | assumption)) dX4_workOut_127 rfl ?_
                    refine r_gets 7 5 805 lfX4_79 (by first | (simp only [zKS]; first | assumption) | assumption | exact zk_nself _ _ _ | (simp [zKS, zNS, *]; done)) rfl rfl (by first | (simp only [zGS, Nat.reduceEqDiff, OfNat.ofNat_ne_ofNat, false_and, and_false, true_and, and_true, and_self, if_true, if_false, ite_true, ite_false, reduceIte, reduceCtorEq]; first | done | assumption) | assumption | exact z2_eq | (simp [zGS]; first | done | assumption)) dX4_workOut_130 rfl ?_
                    refine r_iload dX4_workOut_133 rfl rfl ?_
                    refine r_aload_n dX4_workOut_135 rfl (zRv_ref _) rfl ?_
                    refine r_gets 4 4 504 lfX4_17 (by first | (simp only [zKS]; first | assumption) | assumption | exact zk_nself _ _ _ | (simp [zKS, zNS, *]; done)) rfl rfl (by first | (simp only [zGS, Nat.reduceEqDiff, OfNat.ofNat_ne_ofNat, false_and, and_false, true_and, and_true, and_self, if_true, if_false, ite_true, ite_false, reduceIte, reduceCtorEq]; first | done | assumption) | assumption | exact z2_eq | (simp [zGS]; first | done | assumption)) dX4_workOut_136 rfl ?_
                    refine r_iconst dX4_workOut_139 kc_0 rfl ?_
                    refine r_ialdv 0 b2 rfl (by omega) (by decide) hk0 dX4_workOut_140 rfl ?_
                    refine r_iast n v6 rfl (by show n < zln w1 (A e + 1 + 6); omega) (by omega) dX4_workOut_141 rfl ?_
                    refine r_aload dX4_workOut_142 rfl (by first | exact zRv_ref _ | exact zRv_null | exact zRv_rf _ | assumption) rfl ?_
                    refine r_gets 2 9 309 lfX4_39 (by first | (simp only [zKS]; first | assumption) | assumption | exact zk_nself _ _ _ | (simp [zKS, zNS, *]; done)) rfl rfl (by first | (simp only [zGS, Nat.reduceEqDiff, OfNat.ofNat_ne_ofNat, false_and, and_false, true_and, and_true, and_self, if_true, if_false, ite_true, ite_false, reduceIte, reduceCtorEq]; first | done | assumption) | assumption | exact z2_eq | (simp [zGS]; first | done | assumption)) dX4_workOut_144 rfl ?_
                    refine r_gets 7 6 806 lfX4_95 (by first | (simp only [zKS]; first | assumption) | assumption | exact zk_nself _ _ _ | (simp [zKS, zNS, *]; done)) rfl rfl (by first | (simp only [zGS, Nat.reduceEqDiff, OfNat.ofNat_ne_ofNat, false_and, and_false, true_and, and_true, and_self, if_true, if_false, ite_true, ite_false, reduceIte, reduceCtorEq]; first | done | assumption) | assumption | exact z2_eq | (simp [zGS]; first | done | assumption)) dX4_workOut_147 rfl ?_
                    refine r_iload dX4_workOut_150 rfl rfl ?_
                    refine r_aload_n dX4_workOut_152 rfl (zRv_ref _) rfl ?_
                    refine r_gets 4 5 505 lfX4_21 (by first | (simp only [zKS]; first | assumption) | assumption | exact zk_nself _ _ _ | (simp [zKS, zNS, *]; done)) rfl rfl (by first | (simp only [zGS, Nat.reduceEqDiff, OfNat.ofNat_ne_ofNat, false_and, and_false, true_and, and_true, and_self, if_true, if_false, ite_true, ite_false, reduceIte, reduceCtorEq]; first | done | assumption) | assumption | exact z2_eq | (simp [zGS]; first | done | assumption)) dX4_workOut_153 rfl ?_
                    refine r_iconst dX4_workOut_156 kc_0 rfl ?_
                    refine r_faldv 0 b3 rfl (by show 0 < zln w1 (x + 7 + 3); omega) (by decide) ha0 dX4_workOut_157 rfl ?_
                    refine r_fast n v7 rfl (by show n < zln w1 (A e + 1 + 7); omega) (by omega) dX4_workOut_158 rfl ?_
                    refine r_aload_n dX4_workOut_159 rfl (zRv_ref _) rfl ?_
                    refine r_iload dX4_workOut_160 rfl rfl ?_
                    refine r_puti 4 9 509 lfX4_88 (by first | (simp only [zKS]; first | assumption) | assumption | exact zk_nself _ _ _ | (simp [zKS, zNS, *]; done)) rfl rfl rfl (Or.inl rfl) dX4_workOut_162 rfl ?_
                    refine r_iinc (ls' := [_, _, _, _, _, _, _, _]) dX4_workOut_165 (Nat.le_of_ble_eq_true rfl) rfl (zinc1 _) rfl rfl ?_
                    refine r_goto (r := 32) dX4_workOut_168 (by decide) ?_
                    exact hrec _ _ _ (hI1.cls he hv2 hvf hvd) (hr.e.to (fun a g => Or.inl (XK.d a g))) ex
                  · exact absurd c_109 (by omega)
              · exact absurd c_71 (by omega)
            · exact absurd c_53 (by omega)
        | some st =>
          obtain ⟨os1, os2⟩ := pasS_fin hI.2.1 hem hwh D.2.2.2 [] _ hokD.2.2 (fun _ q => by cases q) hokD.1 hR
          obtain ⟨f, hf⟩ := pasS_good hP hI.2.2.1 hQe _ _ _ (fun s hs => (hokD.2.2 s hs).1) hR
          obtain ⟨vv, rfl⟩ : ∃ u, st = [u] := by
            cases st with
            | nil => cases os2
            | cons u st => cases st with
              | nil => exact ⟨u, rfl⟩
              | cons _ _ => cases os2
          have hev : ev T L wanted em whole (f + 1) D e = some vv := by
            unfold ev
            show one1 (runS wanted em whole (nmE T L wanted em whole e f) D.2.2.2 []) = _
            rw [hf]
            rfl
          have hu := os1 vv List.mem_cons_self
          have hv2 : vv.1 ≤ 2 := by have := hu.1; omega
          have hvf : vv.1 ≤ 1 → fFin vv.2 := fun _ => hu.2
          have hvd : ∀ D', slotD L e n = some D' → (vv.1 ≤ 1 → ∃ f, ev T L wanted em whole f D' e = some vv) ∧ (vv.1 = 2 → ∀ f, ev T L wanted em whole f D' e = none) := fun D' g => by
            rw [hsl] at g
            cases g
            exact ⟨fun _ => ⟨f + 1, hev⟩, fun g => by have := hu.1; omega⟩
          refine r_iload_n dX4_workOut_32 rfl rfl ?_
          refine r_iconst dX4_workOut_33 kc_2 rfl ?_
          refine r_aload_n dX4_workOut_34 rfl (zRv_ref _) rfl ?_
          refine r_gets 4 8 508 lfX4_28 (by first | (simp only [zKS]; first | assumption) | assumption | exact zk_nself _ _ _ | (simp [zKS, zNS, *]; done)) rfl rfl (by first | (simp only [zGS, Nat.reduceEqDiff, OfNat.ofNat_ne_ofNat, false_and, and_false, true_and, and_true, and_self, if_true, if_false, ite_true, ite_false, reduceIte, reduceCtorEq]; first | done | assumption) | assumption | exact z2_eq | (simp [zGS]; first | done | assumption)) dX4_workOut_35 rfl ?_
          refine r_alenv 2 (by decide) (by first | (simp only [zKS]; first | assumption) | assumption | exact zk_nself _ _ _ | (simp [zKS, zNS, *]; done)) (by first | (simp only [zGS, zMS, Nat.reduceEqDiff, OfNat.ofNat_ne_ofNat, false_and, and_false, true_and, and_true, and_self, if_true, if_false, ite_true, ite_false, reduceIte, reduceCtorEq]; first | done | assumption | rfl) | assumption | exact z2_eq | exact z1_eq | (simp [zGS, zMS]; first | done | assumption) | rfl) dX4_workOut_38 rfl ?_
          refine r_imulN dX4_workOut_39 rfl ?_
          refine r_icmp_gtN (by omega) (by omega) (r := 171) dX4_workOut_40 (by decide) rfl (fun c_40 => ?_) (fun c_40 => ?_)
          · exact absurd c_40 (by omega)
          · refine r_aload_n dX4_workOut_43 rfl (zRv_ref _) rfl ?_
            refine r_getiv 4 9 509 lfX4_88 (by first | (simp only [zKS]; first | assumption) | assumption | exact zk_nself _ _ _ | (simp [zKS, zNS, *]; done)) rfl rfl (by first | (simp only [zGS, zMS, Nat.reduceEqDiff, OfNat.ofNat_ne_ofNat, false_and, and_false, true_and, and_true, and_self, if_true, if_false, ite_true, ite_false, reduceIte, reduceCtorEq]; first | done | assumption | rfl) | assumption | exact z2_eq | exact z1_eq | (simp [zGS, zMS]; first | done | assumption) | rfl) dX4_workOut_44 rfl ?_
            refine r_iconst dX4_workOut_47 kc_1 rfl ?_
            refine r_isubN (by omega) dX4_workOut_48 rfl ?_
            rw [show os.length + 1 - 1 = os.length by omega]
            refine r_istore (ls' := [_, _, _, _, _, _, _, _]) dX4_workOut_49 (Nat.le_of_ble_eq_true rfl) rfl rfl ?_
            refine r_iload dX4_workOut_51 rfl rfl ?_
            refine r_if_geN (by omega) (r := 60) dX4_workOut_53 (by decide) rfl (fun c_53 => ?_) (fun c_53 => ?_)
            · refine r_aload_n dX4_workOut_60 rfl (zRv_ref _) rfl ?_
              refine r_gets 4 7 507 lfX4_25 (by first | (simp only [zKS]; first | assumption) | assumption | exact zk_nself _ _ _ | (simp [zKS, zNS, *]; done)) rfl rfl (by first | (simp only [zGS, Nat.reduceEqDiff, OfNat.ofNat_ne_ofNat, false_and, and_false, true_and, and_true, and_self, if_true, if_false, ite_true, ite_false, reduceIte, reduceCtorEq]; first | done | assumption) | assumption | exact z2_eq | (simp [zGS]; first | done | assumption)) dX4_workOut_61 rfl ?_
              refine r_iload dX4_workOut_64 rfl rfl ?_
              refine r_aals7 os.length o1 k4 rfl (by omega) (by omega) dX4_workOut_66 rfl ?_
              refine r_astore (ls' := [_, _, _, _, _, _, _, _]) dX4_workOut_67 (Nat.le_of_ble_eq_true rfl) (by first | exact zRv_ref _ | exact zRv_null | exact zRv_rf _ | assumption) rfl rfl ?_
              refine r_iload dX4_workOut_69 rfl rfl ?_
              refine r_if_geN (by omega) (r := 78) dX4_workOut_71 (by decide) rfl (fun c_71 => ?_) (fun c_71 => ?_)
              · refine r_aload dX4_workOut_78 rfl (by first | exact zRv_ref _ | exact zRv_null | exact zRv_rf _ | assumption) rfl ?_
                refine r_gets 2 9 309 lfX4_39 (by first | (simp only [zKS]; first | assumption) | assumption | exact zk_nself _ _ _ | (simp [zKS, zNS, *]; done)) rfl rfl (by first | (simp only [zGS, Nat.reduceEqDiff, OfNat.ofNat_ne_ofNat, false_and, and_false, true_and, and_true, and_self, if_true, if_false, ite_true, ite_false, reduceIte, reduceCtorEq]; first | done | assumption) | assumption | exact z2_eq | (simp [zGS]; first | done | assumption)) dX4_workOut_80 rfl ?_
                refine r_gets 7 0 800 lfX4_48 (by first | (simp only [zKS]; first | assumption) | assumption | exact zk_nself _ _ _ | (simp [zKS, zNS, *]; done)) rfl rfl (by first | (simp only [zGS, Nat.reduceEqDiff, OfNat.ofNat_ne_ofNat, false_and, and_false, true_and, and_true, and_self, if_true, if_false, ite_true, ite_false, reduceIte, reduceCtorEq]; first | done | assumption) | assumption | exact z2_eq | (simp [zGS]; first | done | assumption)) dX4_workOut_83 rfl ?_
                refine r_aload_n dX4_workOut_86 rfl (zRv_ref _) rfl ?_
                refine r_gets 4 8 508 lfX4_28 (by first | (simp only [zKS]; first | assumption) | assumption | exact zk_nself _ _ _ | (simp [zKS, zNS, *]; done)) rfl rfl (by first | (simp only [zGS, Nat.reduceEqDiff, OfNat.ofNat_ne_ofNat, false_and, and_false, true_and, and_true, and_self, if_true, if_false, ite_true, ite_false, reduceIte, reduceCtorEq]; first | done | assumption) | assumption | exact z2_eq | (simp [zGS]; first | done | assumption)) dX4_workOut_87 rfl ?_
                refine r_iload dX4_workOut_90 rfl rfl ?_
                refine r_ialdv os.length k5 rfl (by omega) (by omega) o2 dX4_workOut_92 rfl ?_
                refine r_aals6 (6 + n) g1 t1 rfl (by omega) (by omega) dX4_workOut_93 rfl ?_
                refine r_astore (ls' := [_, _, _, _, _, _, _, _]) dX4_workOut_94 (Nat.le_of_ble_eq_true rfl) (by first | exact zRv_ref _ | exact zRv_null | exact zRv_rf _ | assumption) rfl rfl ?_
                refine r_aload_n dX4_workOut_96 rfl (zRv_ref _) rfl ?_
                refine r_aload dX4_workOut_97 rfl (by first | exact zRv_ref _ | exact zRv_null | exact zRv_rf _ | assumption) rfl ?_
                refine r_aload dX4_workOut_99 rfl (by first | exact zRv_ref _ | exact zRv_null | exact zRv_rf _ | assumption) rfl ?_
                refine r_callV MX4_pass 2 [_, _] lvX4_91 (Or.inl ⟨4, by decide, (by first | (simp only [zKS]; first | assumption) | assumption | exact zk_nself _ _ _ | (simp [zKS, zNS, *]; done)), rfl⟩) (sp_pass E sg (d - 1) (by omega) x nr T A DC RG L K hI.2.1 wanted hwt em whole hem hwh (os.length + 1) e hoc he ad D g2 hokD w hI.1) rfl rfl (by first | exact Nat.le_of_ble_eq_true rfl | (simp [zcat_rf, Value.category]; done)) (by omega) (Nat.le_of_eq (Nat.zero_add _)) (Nat.le_of_eq (Nat.zero_add _)) dX4_workOut_101 rfl (fun v_ w_ sg_ hq_ => ?_)
                rw [hR] at hq_
                obtain ⟨rfl, rfl, hr, hz⟩ := hq_
                obtain ⟨w1, hw1⟩ : ∃ x, x = w_ := ⟨_, rfl⟩
                subst hw1
                have hI1 := hI.s hr
                have hk0 : za w1 (x + 7 + 2) 0 = nI vv.1 := hz.2.2.1
                have ha0 : zg w1 (x + 7 + 3) 0 = vv.2 := hz.2.2.2.1
                obtain ⟨⟨m1, m2, m3, m4, m5, m6⟩, ⟨b1, b2, b3, b4, b5⟩, -⟩ := id hI1.1.2.1
                obtain ⟨z1, z2, z3⟩ := id hI1.2.2.2.1
                obtain ⟨j0, -, -, -, -, -, -, -, -, -, -, j10, -⟩ := hI1.1.1.1.2.2.1.2 e he
                obtain ⟨⟨u1, u2, u3, u4, u5, u6, u7, u8⟩, ⟨v1, v2, v3, v4, v5, v6, v7⟩, y1, y2, y3, y4, y5, y6, y7⟩ := hI1.1.1.1.2.2.2.2.1 e he
                have r4 : zln w1 (x + 7 + 2) = 15 := hI1.1.2.1.2.2.2.1
                have r5 : zln w1 (x + 7 + 3) = 15 := hI1.1.2.1.2.2.2.2.1
                have r6 : zln w1 (x + 7 + 5) = 96 := hI1.1.2.1.2.2.2.2.2.2
                have ex := sltW_e (w := w1) (x := x) (A := A) (N := T.length) (e := e) (n := n) (oc := os.length) (kd := nI vv.1) (amt := vv.2) he
                refine r_if_eqB (r := 165) dX4_workOut_104 (by decide) rfl (fun c_104 => ?_) (fun c_104 => ?_)
                · exact absurd c_104 (by decide)
                · refine r_iload dX4_workOut_107 rfl rfl ?_
                  refine r_if_geN (by omega) (r := 113) dX4_workOut_109 (by decide) rfl (fun c_109 => ?_) (fun c_109 => ?_)
                  · refine r_aload_n dX4_workOut_113 rfl (zRv_ref _) rfl ?_
                    refine r_gets 4 8 508 lfX4_28 (by first | (simp only [zKS]; first | assumption) | assumption | exact zk_nself _ _ _ | (simp [zKS, zNS, *]; done)) rfl rfl (by first | (simp only [zGS, Nat.reduceEqDiff, OfNat.ofNat_ne_ofNat, false_and, and_false, true_and, and_true, and_self, if_true, if_false, ite_true, ite_false, reduceIte, reduceCtorEq]; first | done | assumption) | assumption | exact z2_eq | (simp [zGS]; first | done | assumption)) dX4_workOut_114 rfl ?_
                    refine r_iload dX4_workOut_117 rfl rfl ?_
                    refine r_ialdv os.length b5 rfl (by omega) (by omega) z2 dX4_workOut_119 rfl ?_
                    refine r_bipush dX4_workOut_120 kb_6 rfl ?_
                    refine r_isubN (by omega) dX4_workOut_122 rfl ?_
                    rw [show 6 + n - 6 = n by omega]
                    refine r_istore (ls' := [_, _, _, _, _, _, _, _]) dX4_workOut_123 (Nat.le_of_ble_eq_true rfl) rfl rfl ?_
                    refine r_aload dX4_workOut_125 rfl (by first | exact zRv_ref _ | exact zRv_null | exact zRv_rf _ | assumption) rfl ?_
                    refine r_gets 2 9 309 lfX4_39 (by first | (simp only [zKS]; first | assumption) | assumption | exact zk_nself _ _ _ | (simp [zKS, zNS, *]; done)) rfl rfl (by first | (simp only [zGS, Nat.reduceEqDiff, OfNat.ofNat_ne_ofNat, false_and, and_false, true_and, and_true, and_self, if_true, if_false, ite_true, ite_false, reduceIte, reduceCtorEq]; first | done | assumption) | assumption | exact z2_eq | (simp [zGS]; first | done | assumption)) dX4_workOut_127 rfl ?_
                    refine r_gets 7 5 805 lfX4_79 (by first | (simp only [zKS]; first | assumption) | assumption | exact zk_nself _ _ _ | (simp [zKS, zNS, *]; done)) rfl rfl (by first | (simp only [zGS, Nat.reduceEqDiff, OfNat.ofNat_ne_ofNat, false_and, and_false, true_and, and_true, and_self, if_true, if_false, ite_true, ite_false, reduceIte, reduceCtorEq]; first | done | assumption) | assumption | exact z2_eq | (simp [zGS]; first | done | assumption)) dX4_workOut_130 rfl ?_
                    refine r_iload dX4_workOut_133 rfl rfl ?_
                    refine r_aload_n dX4_workOut_135 rfl (zRv_ref _) rfl ?_
                    refine r_gets 4 4 504 lfX4_17 (by first | (simp only [zKS]; first | assumption) | assumption | exact zk_nself _ _ _ | (simp [zKS, zNS, *]; done)) rfl rfl (by first | (simp only [zGS, Nat.reduceEqDiff, OfNat.ofNat_ne_ofNat, false_and, and_false, true_and, and_true, and_self, if_true, if_false, ite_true, ite_false, reduceIte, reduceCtorEq]; first | done | assumption) | assumption | exact z2_eq | (simp [zGS]; first | done | assumption)) dX4_workOut_136 rfl ?_
                    refine r_iconst dX4_workOut_139 kc_0 rfl ?_
                    refine r_ialdv 0 b2 rfl (by omega) (by decide) hk0 dX4_workOut_140 rfl ?_
                    refine r_iast n v6 rfl (by show n < zln w1 (A e + 1 + 6); omega) (by omega) dX4_workOut_141 rfl ?_
                    refine r_aload dX4_workOut_142 rfl (by first | exact zRv_ref _ | exact zRv_null | exact zRv_rf _ | assumption) rfl ?_
                    refine r_gets 2 9 309 lfX4_39 (by first | (simp only [zKS]; first | assumption) | assumption | exact zk_nself _ _ _ | (simp [zKS, zNS, *]; done)) rfl rfl (by first | (simp only [zGS, Nat.reduceEqDiff, OfNat.ofNat_ne_ofNat, false_and, and_false, true_and, and_true, and_self, if_true, if_false, ite_true, ite_false, reduceIte, reduceCtorEq]; first | done | assumption) | assumption | exact z2_eq | (simp [zGS]; first | done | assumption)) dX4_workOut_144 rfl ?_
                    refine r_gets 7 6 806 lfX4_95 (by first | (simp only [zKS]; first | assumption) | assumption | exact zk_nself _ _ _ | (simp [zKS, zNS, *]; done)) rfl rfl (by first | (simp only [zGS, Nat.reduceEqDiff, OfNat.ofNat_ne_ofNat, false_and, and_false, true_and, and_true, and_self, if_true, if_false, ite_true, ite_false, reduceIte, reduceCtorEq]; first | done | assumption) | assumption | exact z2_eq | (simp [zGS]; first | done | assumption)) dX4_workOut_147 rfl ?_
                    refine r_iload dX4_workOut_150 rfl rfl ?_
                    refine r_aload_n dX4_workOut_152 rfl (zRv_ref _) rfl ?_
                    refine r_gets 4 5 505 lfX4_21 (by first | (simp only [zKS]; first | assumption) | assumption | exact zk_nself _ _ _ | (simp [zKS, zNS, *]; done)) rfl rfl (by first | (simp only [zGS, Nat.reduceEqDiff, OfNat.ofNat_ne_ofNat, false_and, and_false, true_and, and_true, and_self, if_true, if_false, ite_true, ite_false, reduceIte, reduceCtorEq]; first | done | assumption) | assumption | exact z2_eq | (simp [zGS]; first | done | assumption)) dX4_workOut_153 rfl ?_
                    refine r_iconst dX4_workOut_156 kc_0 rfl ?_
                    refine r_faldv 0 b3 rfl (by show 0 < zln w1 (x + 7 + 3); omega) (by decide) ha0 dX4_workOut_157 rfl ?_
                    refine r_fast n v7 rfl (by show n < zln w1 (A e + 1 + 7); omega) (by omega) dX4_workOut_158 rfl ?_
                    refine r_aload_n dX4_workOut_159 rfl (zRv_ref _) rfl ?_
                    refine r_iload dX4_workOut_160 rfl rfl ?_
                    refine r_puti 4 9 509 lfX4_88 (by first | (simp only [zKS]; first | assumption) | assumption | exact zk_nself _ _ _ | (simp [zKS, zNS, *]; done)) rfl rfl rfl (Or.inl rfl) dX4_workOut_162 rfl ?_
                    refine r_iinc (ls' := [_, _, _, _, _, _, _, _]) dX4_workOut_165 (Nat.le_of_ble_eq_true rfl) rfl (zinc1 _) rfl rfl ?_
                    refine r_goto (r := 32) dX4_workOut_168 (by decide) ?_
                    exact hrec _ _ _ (hI1.cls he hv2 hvf hvd) (hr.e.to (fun a g => Or.inl (XK.d a g))) ex
                  · exact absurd c_109 (by omega)
              · exact absurd c_71 (by omega)
            · exact absurd c_53 (by omega)
