/-! ===== the model: lookUp ===== -/
def luR (Rs : List PRule) (o : Option (Nat × PDecl)) (p : Nat) (b : Int32) : Prop := match o with
  | some (q, D) => q = p ∧ ∃ r i R, Rs[r]? = some R ∧ R.2[i]? = some D ∧ i < 4 ∧ r < 16 ∧ b = nI (4 * r + i) ∧ D.2.1 = 2
  | none => b = -1 ∨ ∃ r i R D, Rs[r]? = some R ∧ R.2[i]? = some D ∧ i < 4 ∧ r < 16 ∧ b = nI (4 * r + i) ∧ D.2.1 ≠ 2
theorem lu_19 (E : ZE) (mo : Nat) (hm : E.2.2.2.2 = some mo) (w : ZW) (sg : ZM) (d n : Nat) (hd : 2 ≤ d) (hn : n < 10) (T : List PEl) (hT : mTree sg T) (Rs : List PRule) (hl : Rs.length ≤ 16) (h8 : mi sg 8 = nI Rs.length) (hS : svT sg T Rs) (P : ZPhi) : ∀ (f p : Nat) (b : Int32), p ≤ f → p < T.length → bsR T Rs p (ldD T Rs p n) b → (∀ p' b', p' < T.length → luR Rs (fnd T (ldD T Rs) n (f + 1) p) p' b' → RW E MX10_lookUp 61 [some (.ref mo), some (.int (nI n)), some (.int (nI p')), some (.int b'), none] [] w sg d 0 0 P) → RW E MX10_lookUp 19 [some (.ref mo), some (.int (nI n)), some (.int (nI p)), some (.int b), none] [] w sg d 0 0 P := by
  have hw := hT.1
  have h24 := hw.1
  intro f
  induction f with
  | zero =>
    intro p b hp hp2 hb K
    have hp0 : p = 0 := by omega
    subst hp0
    obtain ⟨a1, -⟩ := hT.2.2 0 hp2
    have hq : tP T 0 = none := by
      cases hq : tP T 0 with
      | none => rfl
      | some q => have := hw.2.1 0 q hq; omega
    rw [parI_n hq] at a1
    have hf : luR Rs (fnd T (ldD T Rs) n (0 + 1) 0) 0 b := by
      unfold fnd
      rw [hq]
      cases hL : ldD T Rs 0 n with
      | none => rw [hL] at hb; exact Or.inl hb
      | some x =>
        obtain ⟨k0, D, wt⟩ := x
        rw [hL] at hb
        obtain ⟨i, R, g1, g2, g3, g4, g5, g6⟩ := hb
        simp only []
        by_cases c0 : D.2.1 = 0
        · rw [if_pos c0]
          exact Or.inr ⟨k0, i, R, D, g1, g2, g3, g4, g5, by omega⟩
        · rw [if_neg c0]
          by_cases c2 : D.2.1 = 2
          · rw [if_pos c2]
            exact ⟨rfl, k0, i, R, g1, g2, g3, g4, g5, c2⟩
          · rw [if_neg c2]
            exact Or.inr ⟨k0, i, R, D, g1, g2, g3, g4, g5, c2⟩
    have K2 := K 0 b hp2 hf
    refine r_aload_n dX10_lookUp_19 rfl (zRv_ref _) rfl ?_
    refine m_geta hm 2 1 lfX10_7 rfl (by decide) dX10_lookUp_20 rfl ?_
    refine r_iload_n dX10_lookUp_23 rfl rfl ?_
    refine m_ialdv hm 1 _ (by decide) (by decide) rfl rfl (by show _ < 24; omega) (by first | (simp only [zGS, zMS, Nat.reduceEqDiff, OfNat.ofNat_ne_ofNat, false_and, and_false, true_and, and_true, and_self, if_true, if_false, ite_true, ite_false, reduceIte, reduceCtorEq]; first | done | assumption | rfl) | assumption | exact z2_eq | exact z1_eq | (simp [zGS, zMS]; first | done | assumption) | rfl) dX10_lookUp_24 rfl ?_
    refine r_iconst dX10_lookUp_25 kc_m1 rfl ?_
    refine r_icmp_eq (r := 61) dX10_lookUp_26 (by decide) rfl (fun c_26 => ?_) (fun c_26 => ?_)
    · exact K2
    · exact absurd rfl c_26
  | succ f ih =>
    intro p b hp hp2 hb K
    obtain ⟨a1, -⟩ := hT.2.2 p hp2
    cases hq : tP T p with
    | none =>
      rw [parI_n hq] at a1
      have hf : luR Rs (fnd T (ldD T Rs) n (f + 1 + 1) p) p b := by
        unfold fnd
        rw [hq]
        cases hL : ldD T Rs p n with
        | none => rw [hL] at hb; exact Or.inl hb
        | some x =>
          obtain ⟨k0, D, wt⟩ := x
          rw [hL] at hb
          obtain ⟨i, R, g1, g2, g3, g4, g5, g6⟩ := hb
          simp only []
          by_cases c0 : D.2.1 = 0
          · rw [if_pos c0]
            exact Or.inr ⟨k0, i, R, D, g1, g2, g3, g4, g5, by omega⟩
          · rw [if_neg c0]
            by_cases c2 : D.2.1 = 2
            · rw [if_pos c2]
              exact ⟨rfl, k0, i, R, g1, g2, g3, g4, g5, c2⟩
            · rw [if_neg c2]
              exact Or.inr ⟨k0, i, R, D, g1, g2, g3, g4, g5, c2⟩
      have K2 := K p b hp2 hf
      refine r_aload_n dX10_lookUp_19 rfl (zRv_ref _) rfl ?_
      refine m_geta hm 2 1 lfX10_7 rfl (by decide) dX10_lookUp_20 rfl ?_
      refine r_iload_n dX10_lookUp_23 rfl rfl ?_
      refine m_ialdv hm 1 _ (by decide) (by decide) rfl rfl (by show _ < 24; omega) (by first | (simp only [zGS, zMS, Nat.reduceEqDiff, OfNat.ofNat_ne_ofNat, false_and, and_false, true_and, and_true, and_self, if_true, if_false, ite_true, ite_false, reduceIte, reduceCtorEq]; first | done | assumption | rfl) | assumption | exact z2_eq | exact z1_eq | (simp [zGS, zMS]; first | done | assumption) | rfl) dX10_lookUp_24 rfl ?_
      refine r_iconst dX10_lookUp_25 kc_m1 rfl ?_
      refine r_icmp_eq (r := 61) dX10_lookUp_26 (by decide) rfl (fun c_26 => ?_) (fun c_26 => ?_)
      · exact K2
      · exact absurd rfl c_26
    | some q =>
      have hqp := hw.2.1 p q hq
      rw [parI_s hq] at a1
      have wq := q_winnerOf E mo hm w sg (d - 1) q n (by omega) T Rs hn (by omega) h24 hl h8 hS
      have up : fnd T (ldD T Rs) n (f + 1 + 1) p = fnd T (ldD T Rs) n (f + 1) q → RW E MX10_lookUp 44 [some (.ref mo), some (.int (nI n)), some (.int (nI p)), some (.int b), none] [] w sg d 0 0 P := fun he => by
        rw [he] at K
        refine r_aload_n dX10_lookUp_44 rfl (zRv_ref _) rfl ?_
        refine m_geta hm 2 1 lfX10_7 rfl (by decide) dX10_lookUp_45 rfl ?_
        refine r_iload_n dX10_lookUp_48 rfl rfl ?_
        refine m_ialdv hm 1 _ (by decide) (by decide) rfl rfl (by show _ < 24; omega) (by first | (simp only [zGS, zMS, Nat.reduceEqDiff, OfNat.ofNat_ne_ofNat, false_and, and_false, true_and, and_true, and_self, if_true, if_false, ite_true, ite_false, reduceIte, reduceCtorEq]; first | done | assumption | rfl) | assumption | exact z2_eq | exact z1_eq | (simp [zGS, zMS]; first | done | assumption) | rfl) dX10_lookUp_49 rfl ?_
        refine r_istore_n (ls' := [_, _, _, _, _]) dX10_lookUp_50 (Nat.le_of_ble_eq_true rfl) rfl rfl ?_
        refine r_aload_n dX10_lookUp_51 rfl (zRv_ref _) rfl ?_
        refine r_iload_n dX10_lookUp_52 rfl rfl ?_
        refine r_iload_n dX10_lookUp_53 rfl rfl ?_
        refine r_callV MX10_winnerOf 2 [_, _] lvX10_316 (Or.inr (Or.inl ⟨hm, rfl⟩)) (wq) rfl rfl (by first | exact Nat.le_of_ble_eq_true rfl | (simp [zcat_rf, Value.category]; done)) (by omega) (Nat.le_of_eq (Nat.zero_add _)) (Nat.le_of_eq (Nat.zero_add _)) dX10_lookUp_54 rfl (fun v_ w_ sg_ hq_ => ?_)
        obtain ⟨⟨b2, rfl, hb2⟩, rfl, rfl⟩ := hq_
        refine r_istore_n (ls' := [_, _, _, _, _]) dX10_lookUp_57 (Nat.le_of_ble_eq_true rfl) rfl rfl ?_
        refine r_goto (r := 19) dX10_lookUp_58 (by decide) ?_
        exact ih q b2 (by omega) (by omega) hb2 K
      cases hL : ldD T Rs p n with
      | none =>
        rw [hL] at hb
        have hb1 : b = -1 := hb
        subst hb1
        have u2 := up (by
          show (match ldD T Rs p n with
            | none => (match tP T p with
              | none => none
              | some p => fnd T (ldD T Rs) n (f + 1) p)
            | some (_, D, _) => if D.2.1 = 0 then (match tP T p with
              | none => none
              | some p => fnd T (ldD T Rs) n (f + 1) p) else if D.2.1 = 2 then some (p, D) else none) = _
          rw [hL, hq])
        refine r_aload_n dX10_lookUp_19 rfl (zRv_ref _) rfl ?_
        refine m_geta hm 2 1 lfX10_7 rfl (by decide) dX10_lookUp_20 rfl ?_
        refine r_iload_n dX10_lookUp_23 rfl rfl ?_
        refine m_ialdv hm 1 _ (by decide) (by decide) rfl rfl (by show _ < 24; omega) (by first | (simp only [zGS, zMS, Nat.reduceEqDiff, OfNat.ofNat_ne_ofNat, false_and, and_false, true_and, and_true, and_self, if_true, if_false, ite_true, ite_false, reduceIte, reduceCtorEq]; first | done | assumption | rfl) | assumption | exact z2_eq | exact z1_eq | (simp [zGS, zMS]; first | done | assumption) | rfl) dX10_lookUp_24 rfl ?_
        refine r_iconst dX10_lookUp_25 kc_m1 rfl ?_
        refine r_icmp_eq (r := 61) dX10_lookUp_26 (by decide) rfl (fun c_26 => ?_) (fun c_26 => ?_)
        · exact absurd c_26 (nI_neg (by omega))
        · refine r_iload_n dX10_lookUp_29 rfl rfl ?_
          refine r_iconst dX10_lookUp_30 kc_m1 rfl ?_
          refine r_icmp_eq (r := 44) dX10_lookUp_31 (by decide) rfl (fun c_31 => ?_) (fun c_31 => ?_)
          · exact u2
          · exact absurd rfl c_31
      | some x =>
        obtain ⟨k0, D, wt⟩ := x
        rw [hL] at hb
        obtain ⟨i, R, g1, g2, g3, g4, rfl, g6⟩ := hb
        obtain ⟨-, -, ⟨og, -, -, s5⟩, -⟩ := hS k0 R g1
        obtain ⟨d1, d2, d3, d4, -⟩ := s5 i D g2
        have he : fnd T (ldD T Rs) n (f + 1 + 1) p = (if D.2.1 = 0 then fnd T (ldD T Rs) n (f + 1) q else if D.2.1 = 2 then some (p, D) else none) := by
          show (match ldD T Rs p n with
            | none => (match tP T p with
              | none => none
              | some p => fnd T (ldD T Rs) n (f + 1) p)
            | some (_, D, _) => if D.2.1 = 0 then (match tP T p with
              | none => none
              | some p => fnd T (ldD T Rs) n (f + 1) p) else if D.2.1 = 2 then some (p, D) else none) = _
          rw [hL, hq]
        by_cases c0 : D.2.1 = 0
        · have u2 := up (by rw [he, if_pos c0])
          have d2' : ma sg 29 (4 * k0 + i) = nI 1 := by rw [d2, c0]; rfl
          refine r_aload_n dX10_lookUp_19 rfl (zRv_ref _) rfl ?_
          refine m_geta hm 2 1 lfX10_7 rfl (by decide) dX10_lookUp_20 rfl ?_
          refine r_iload_n dX10_lookUp_23 rfl rfl ?_
          refine m_ialdv hm 1 _ (by decide) (by decide) rfl rfl (by show _ < 24; omega) (by first | (simp only [zGS, zMS, Nat.reduceEqDiff, OfNat.ofNat_ne_ofNat, false_and, and_false, true_and, and_true, and_self, if_true, if_false, ite_true, ite_false, reduceIte, reduceCtorEq]; first | done | assumption | rfl) | assumption | exact z2_eq | exact z1_eq | (simp [zGS, zMS]; first | done | assumption) | rfl) dX10_lookUp_24 rfl ?_
          refine r_iconst dX10_lookUp_25 kc_m1 rfl ?_
          refine r_icmp_eq (r := 61) dX10_lookUp_26 (by decide) rfl (fun c_26 => ?_) (fun c_26 => ?_)
          · exact absurd c_26 (nI_neg (by omega))
          · refine r_iload_n dX10_lookUp_29 rfl rfl ?_
            refine r_iconst dX10_lookUp_30 kc_m1 rfl ?_
            refine r_icmp_eq (r := 44) dX10_lookUp_31 (by decide) rfl (fun c_31 => ?_) (fun c_31 => ?_)
            · exact absurd c_31 (nI_neg (by omega))
            · refine r_aload_n dX10_lookUp_34 rfl (zRv_ref _) rfl ?_
              refine m_geta hm 41 29 lfX10_97 rfl (by decide) dX10_lookUp_35 rfl ?_
              refine r_iload_n dX10_lookUp_38 rfl rfl ?_
              refine m_ialdv hm 29 _ (by decide) (by decide) rfl rfl (by show _ < 64; omega) (by first | (simp only [zGS, zMS, Nat.reduceEqDiff, OfNat.ofNat_ne_ofNat, false_and, and_false, true_and, and_true, and_self, if_true, if_false, ite_true, ite_false, reduceIte, reduceCtorEq]; first | done | assumption | rfl) | assumption | exact z2_eq | exact z1_eq | (simp [zGS, zMS]; first | done | assumption) | rfl) dX10_lookUp_39 rfl ?_
              refine r_iconst dX10_lookUp_40 kc_1 rfl ?_
              refine r_icmp_neN (by omega) (by omega) (r := 61) dX10_lookUp_41 (by decide) rfl (fun c_41 => ?_) (fun c_41 => ?_)
              · exact absurd rfl c_41
              · exact u2
        · have K2 := K p (nI (4 * k0 + i)) hp2 (by
            rw [he, if_neg c0]
            by_cases c2 : D.2.1 = 2
            · rw [if_pos c2]
              exact ⟨rfl, k0, i, R, g1, g2, g3, g4, rfl, c2⟩
            · rw [if_neg c2]
              exact Or.inr ⟨k0, i, R, D, g1, g2, g3, g4, rfl, c2⟩)
          have hk : kdM D.2.1 ≠ 1 ∧ kdM D.2.1 < 3 := by
            unfold kdM
            rw [if_neg c0]
            split <;> exact ⟨by decide, by decide⟩
          refine r_aload_n dX10_lookUp_19 rfl (zRv_ref _) rfl ?_
          refine m_geta hm 2 1 lfX10_7 rfl (by decide) dX10_lookUp_20 rfl ?_
          refine r_iload_n dX10_lookUp_23 rfl rfl ?_
          refine m_ialdv hm 1 _ (by decide) (by decide) rfl rfl (by show _ < 24; omega) (by first | (simp only [zGS, zMS, Nat.reduceEqDiff, OfNat.ofNat_ne_ofNat, false_and, and_false, true_and, and_true, and_self, if_true, if_false, ite_true, ite_false, reduceIte, reduceCtorEq]; first | done | assumption | rfl) | assumption | exact z2_eq | exact z1_eq | (simp [zGS, zMS]; first | done | assumption) | rfl) dX10_lookUp_24 rfl ?_
          refine r_iconst dX10_lookUp_25 kc_m1 rfl ?_
          refine r_icmp_eq (r := 61) dX10_lookUp_26 (by decide) rfl (fun c_26 => ?_) (fun c_26 => ?_)
          · exact absurd c_26 (nI_neg (by omega))
          · refine r_iload_n dX10_lookUp_29 rfl rfl ?_
            refine r_iconst dX10_lookUp_30 kc_m1 rfl ?_
            refine r_icmp_eq (r := 44) dX10_lookUp_31 (by decide) rfl (fun c_31 => ?_) (fun c_31 => ?_)
            · exact absurd c_31 (nI_neg (by omega))
            · refine r_aload_n dX10_lookUp_34 rfl (zRv_ref _) rfl ?_
              refine m_geta hm 41 29 lfX10_97 rfl (by decide) dX10_lookUp_35 rfl ?_
              refine r_iload_n dX10_lookUp_38 rfl rfl ?_
              refine m_ialdv hm 29 _ (by decide) (by decide) rfl rfl (by show _ < 64; omega) (by first | (simp only [zGS, zMS, Nat.reduceEqDiff, OfNat.ofNat_ne_ofNat, false_and, and_false, true_and, and_true, and_self, if_true, if_false, ite_true, ite_false, reduceIte, reduceCtorEq]; first | done | assumption | rfl) | assumption | exact z2_eq | exact z1_eq | (simp [zGS, zMS]; first | done | assumption) | rfl) dX10_lookUp_39 rfl ?_
              refine r_iconst dX10_lookUp_40 kc_1 rfl ?_
              refine r_icmp_neN (by omega) (by omega) (r := 61) dX10_lookUp_41 (by decide) rfl (fun c_41 => ?_) (fun c_41 => ?_)
              · exact K2
              · exact absurd c_41 hk.1
/-- the ways it can end -/
def luQ (sg : ZM) (T : List PEl) (Rs : List PRule) (KS : Nat → Nat × PVal) (st : List PVal) (H dp m pl : Nat) (w : ZW) : ZQ := fun v w' sg' => v = none ∧ w = w' ∧ wB sg sg' ∧ match fnd T (ldD T Rs) (6 + m) (pl + 1) pl with
  | none => mi sg' 56 = zb true ∧ mi sg' 48 = nI (dp + 1)
  | some (p, D) => p < T.length ∧ D.2.1 = 2 ∧ (((KS (4 * p + m)).1 = 1 ∧ mi sg' 56 = zb true ∧ mi sg' 48 = nI (dp + 1)) ∨ ((KS (4 * p + m)).1 = 2 ∧ stO sg sg' H (pushS (KS (4 * p + m)).2.1 (KS (4 * p + m)).2.2 st)) ∨ ((KS (4 * p + m)).1 = 0 ∧ ∃ r i R, Rs[r]? = some R ∧ R.2[i]? = some D ∧ i < 4 ∧ mi sg' 48 = nI (dp + 2) ∧ (mi sg' 45 = mi sg 45 ∧ mi sg' 56 = mi sg 56) ∧ frR sg' (dp + 1) r i (aR R i) p (nI (4 * p + m)) ∧ tblR sg' R i D ∧ (∀ H, loS sg sg' (dp + 1) H) ∧ knG sg' (ksPut KS (4 * p + m) (1, (0, 0)))))
theorem q_lookUp (E : ZE) (mo : Nat) (hm : E.2.2.2.2 = some mo) (w : ZW) (sg : ZM) (d m dp pl H : Nat) (hd : 17 ≤ d) (hm4 : m < 4) (T : List PEl) (Rs : List PRule) (B : List Nat) (hI : mdI sg T Rs B) (hS : svT sg T Rs) (h48 : mi sg 48 = nI (dp + 1)) (hdp : dp + 1 < 100) (h36 : ma sg 36 dp = nI pl) (hpl : pl < T.length) (h56 : mi sg 56 = zb false) (st : List PVal) (h45 : mi sg 45 = nI (H + st.length)) (hA : stA sg H st) (hH : H + st.length < 3000) (KS : Nat → Nat × PVal) (hK : knG sg KS) (hKv : ∀ s, s < 96 → (KS s).1 = 2 → (KS s).2.1 ≤ 1 ∧ fFin (KS s).2.2) : CallQ E MX10_lookUp [.ref mo, .int (nI (6 + m))] w sg d 0 0 (luQ sg T Rs KS st H dp m pl w) := by
  have hT := hI.1
  have h24 := hT.1.1
  have hl : Rs.length ≤ 16 := hI.2.1
  have h8 : mi sg 8 = nI Rs.length := hI.2.2.1
  have wq := q_winnerOf E mo hm w sg (d - 1) pl (6 + m) (by omega) T Rs (by omega) hpl h24 hl h8 hS
  have wbad : wB sg (msi sg 56 (zb true)) := ⟨fun j _ _ _ q => by rw [mi_msi, if_neg q], fun _ _ _ _ => rfl, fun _ _ _ _ _ => rfl⟩
  have b56 : mi (msi sg 56 (zb true)) 56 = zb true := by rw [mi_msi, if_pos rfl]
  have b48 : mi (msi sg 56 (zb true)) 48 = nI (dp + 1) := by rw [mi_msi, if_neg (by decide)]; exact h48
  have bad : fnd T (ldD T Rs) (6 + m) (pl + 1) pl = none → luQ sg T Rs KS st H dp m pl w none w (msi sg 56 (zb true)) := fun q => by
    unfold luQ
    rw [q]
    exact ⟨rfl, rfl, wbad, b56, b48⟩
  refine CallQ.of rfl (by simp [Value.category]) (Nat.le_of_ble_eq_true rfl) ?_
  refine r_aload_n dX10_lookUp_0 rfl (zRv_ref _) rfl ?_
  refine m_geta hm 51 36 lfX10_118 rfl (by decide) dX10_lookUp_1 rfl ?_
  refine r_aload_n dX10_lookUp_4 rfl (zRv_ref _) rfl ?_
  refine m_getiv hm 48 lfX10_328 rfl (by first | (simp only [zGS, zMS, Nat.reduceEqDiff, OfNat.ofNat_ne_ofNat, false_and, and_false, true_and, and_true, and_self, if_true, if_false, ite_true, ite_false, reduceIte, reduceCtorEq]; first | done | assumption | rfl) | assumption | exact z2_eq | exact z1_eq | (simp [zGS, zMS]; first | done | assumption) | rfl) dX10_lookUp_5 rfl ?_
  refine r_iconst dX10_lookUp_8 kc_1 rfl ?_
  refine r_isubN (by omega) dX10_lookUp_9 rfl ?_
  rw [Nat.add_sub_cancel]
  refine m_ialdv hm 36 _ (by decide) (by decide) rfl rfl (by show _ < 100; omega) (by first | (simp only [zGS, zMS, Nat.reduceEqDiff, OfNat.ofNat_ne_ofNat, false_and, and_false, true_and, and_true, and_self, if_true, if_false, ite_true, ite_false, reduceIte, reduceCtorEq]; first | done | assumption | rfl) | assumption | exact z2_eq | exact z1_eq | (simp [zGS, zMS]; first | done | assumption) | rfl) dX10_lookUp_10 rfl ?_
  refine r_istore_n (ls' := [_, _, _, _, _]) dX10_lookUp_11 (Nat.le_of_ble_eq_true rfl) rfl rfl ?_
  refine r_aload_n dX10_lookUp_12 rfl (zRv_ref _) rfl ?_
  refine r_iload_n dX10_lookUp_13 rfl rfl ?_
  refine r_iload_n dX10_lookUp_14 rfl rfl ?_
  refine r_callV MX10_winnerOf 2 [_, _] lvX10_316 (Or.inr (Or.inl ⟨hm, rfl⟩)) (wq) rfl rfl (by first | exact Nat.le_of_ble_eq_true rfl | (simp [zcat_rf, Value.category]; done)) (by omega) (Nat.le_of_eq (Nat.zero_add _)) (Nat.le_of_eq (Nat.zero_add _)) dX10_lookUp_15 rfl (fun v_ w_ sg_ hq_ => ?_)
  obtain ⟨⟨b, rfl, hb⟩, rfl, rfl⟩ := hq_
  refine r_istore_n (ls' := [_, _, _, _, _]) dX10_lookUp_18 (Nat.le_of_ble_eq_true rfl) rfl rfl ?_
  refine lu_19 E mo hm w sg d (6 + m) (by omega) (by omega) T hT Rs hl h8 hS _ pl pl b (Nat.le_refl _) hpl hb (fun p b hp hlu => ?_)
  cases hf : fnd T (ldD T Rs) (6 + m) (pl + 1) pl with
  | none =>
    rw [hf] at hlu
    have hbad := bad hf
    rcases hlu with rfl | ⟨r, i, R, D, g1, g2, g3, g4, rfl, g5⟩
    · skip
      refine r_iconst dX10_lookUp_61 kc_4 rfl ?_
      refine r_iload_n dX10_lookUp_62 rfl rfl ?_
      refine r_imulN dX10_lookUp_63 rfl ?_
      refine r_iload_n dX10_lookUp_64 rfl rfl ?_
      refine r_iaddN dX10_lookUp_65 rfl ?_
      refine r_bipush dX10_lookUp_66 kb_6 rfl ?_
      refine r_isubN (by omega) dX10_lookUp_68 rfl ?_
      rw [Nat.add_sub_assoc (by omega : 6 ≤ 6 + m), Nat.add_sub_cancel_left]
      refine r_istore (ls' := [_, _, _, _, _]) dX10_lookUp_69 (Nat.le_of_ble_eq_true rfl) rfl rfl ?_
      refine r_iload_n dX10_lookUp_71 rfl rfl ?_
      refine r_iconst dX10_lookUp_72 kc_m1 rfl ?_
      refine r_icmp_eq (r := 96) dX10_lookUp_73 (by decide) rfl (fun c_73 => ?_) (fun c_73 => ?_)
      · skip -- go
        refine r_aload_n dX10_lookUp_96 rfl (zRv_ref _) rfl ?_
        refine r_iconst dX10_lookUp_97 kc_1 rfl ?_
        refine m_putz hm 56 (by first | exact Or.inl rfl | exact Or.inr rfl | exact zb01 _ | assumption) lfX10_319 rfl rfl rfl dX10_lookUp_98 rfl ?_
        refine r_goto (r := 152) dX10_lookUp_101 (by decide) ?_
        refine r_vret rfl dX10_lookUp_152 ?_
        exact hbad
      · exact absurd rfl c_73
    · obtain ⟨-, -, ⟨og, -, -, s5⟩, -⟩ := hS r R g1
      obtain ⟨d1, d2, d3, d4, -⟩ := s5 i D g2
      have hk : kdM D.2.1 ≠ 0 ∧ kdM D.2.1 < 3 := by
        unfold kdM
        split
        · exact ⟨by decide, by decide⟩
        · split
          · exact ⟨by decide, by decide⟩
          · omega
      refine r_iconst dX10_lookUp_61 kc_4 rfl ?_
      refine r_iload_n dX10_lookUp_62 rfl rfl ?_
      refine r_imulN dX10_lookUp_63 rfl ?_
      refine r_iload_n dX10_lookUp_64 rfl rfl ?_
      refine r_iaddN dX10_lookUp_65 rfl ?_
      refine r_bipush dX10_lookUp_66 kb_6 rfl ?_
      refine r_isubN (by omega) dX10_lookUp_68 rfl ?_
      rw [Nat.add_sub_assoc (by omega : 6 ≤ 6 + m), Nat.add_sub_cancel_left]
      refine r_istore (ls' := [_, _, _, _, _]) dX10_lookUp_69 (Nat.le_of_ble_eq_true rfl) rfl rfl ?_
      refine r_iload_n dX10_lookUp_71 rfl rfl ?_
      refine r_iconst dX10_lookUp_72 kc_m1 rfl ?_
      refine r_icmp_eq (r := 96) dX10_lookUp_73 (by decide) rfl (fun c_73 => ?_) (fun c_73 => ?_)
      · exact absurd c_73 (nI_neg (by omega))
      · refine r_aload_n dX10_lookUp_76 rfl (zRv_ref _) rfl ?_
        refine m_geta hm 41 29 lfX10_97 rfl (by decide) dX10_lookUp_77 rfl ?_
        refine r_iload_n dX10_lookUp_80 rfl rfl ?_
        refine m_ialdv hm 29 _ (by decide) (by decide) rfl rfl (by show _ < 64; omega) (by first | (simp only [zGS, zMS, Nat.reduceEqDiff, OfNat.ofNat_ne_ofNat, false_and, and_false, true_and, and_true, and_self, if_true, if_false, ite_true, ite_false, reduceIte, reduceCtorEq]; first | done | assumption | rfl) | assumption | exact z2_eq | exact z1_eq | (simp [zGS, zMS]; first | done | assumption) | rfl) dX10_lookUp_81 rfl ?_
        refine r_if_neN (by omega) (r := 96) dX10_lookUp_82 (by decide) rfl (fun c_82 => ?_) (fun c_82 => ?_)
        · skip -- go
          refine r_aload_n dX10_lookUp_96 rfl (zRv_ref _) rfl ?_
          refine r_iconst dX10_lookUp_97 kc_1 rfl ?_
          refine m_putz hm 56 (by first | exact Or.inl rfl | exact Or.inr rfl | exact zb01 _ | assumption) lfX10_319 rfl rfl rfl dX10_lookUp_98 rfl ?_
          refine r_goto (r := 152) dX10_lookUp_101 (by decide) ?_
          refine r_vret rfl dX10_lookUp_152 ?_
          exact hbad
        · exact absurd c_82 hk.1
  | some x =>
    obtain ⟨p2, D⟩ := x
    rw [hf] at hlu
    obtain ⟨rfl, r, i, R, g1, g2, g3, g4, rfl, g5⟩ := hlu
    obtain ⟨-, -, ⟨og, -, -, s5⟩, -⟩ := hS r R g1
    obtain ⟨d1, d2, d3, d4, -⟩ := s5 i D g2
    have d2' : ma sg 29 (4 * r + i) = nI 0 := by rw [d2, g5]; rfl
    obtain ⟨k1, k2, k3⟩ := hK (4 * p2 + m) (by omega)
    have hQ : ∀ sg', wB sg sg' → ((((KS (4 * p2 + m)).1 = 1 ∧ mi sg' 56 = zb true ∧ mi sg' 48 = nI (dp + 1)) ∨ ((KS (4 * p2 + m)).1 = 2 ∧ stO sg sg' H (pushS (KS (4 * p2 + m)).2.1 (KS (4 * p2 + m)).2.2 st)) ∨ ((KS (4 * p2 + m)).1 = 0 ∧ ∃ r i R, Rs[r]? = some R ∧ R.2[i]? = some D ∧ i < 4 ∧ mi sg' 48 = nI (dp + 2) ∧ (mi sg' 45 = mi sg 45 ∧ mi sg' 56 = mi sg 56) ∧ frR sg' (dp + 1) r i (aR R i) p2 (nI (4 * p2 + m)) ∧ tblR sg' R i D ∧ (∀ H, loS sg sg' (dp + 1) H) ∧ knG sg' (ksPut KS (4 * p2 + m) (1, (0, 0)))))) → luQ sg T Rs KS st H dp m pl w none w sg' := fun sg' z1 z2 => by
      unfold luQ
      rw [hf]
      exact ⟨rfl, rfl, z1, hp, g5, z2⟩
    rcases (by omega : (KS (4 * p2 + m)).1 = 1 ∨ (KS (4 * p2 + m)).1 = 2 ∨ (KS (4 * p2 + m)).1 = 0) with hk | hk | hk
    · rw [hk] at k1
      have hbad := hQ _ wbad (Or.inl ⟨hk, b56, b48⟩)
      refine r_iconst dX10_lookUp_61 kc_4 rfl ?_
      refine r_iload_n dX10_lookUp_62 rfl rfl ?_
      refine r_imulN dX10_lookUp_63 rfl ?_
      refine r_iload_n dX10_lookUp_64 rfl rfl ?_
      refine r_iaddN dX10_lookUp_65 rfl ?_
      refine r_bipush dX10_lookUp_66 kb_6 rfl ?_
      refine r_isubN (by omega) dX10_lookUp_68 rfl ?_
      rw [Nat.add_sub_assoc (by omega : 6 ≤ 6 + m), Nat.add_sub_cancel_left]
      refine r_istore (ls' := [_, _, _, _, _]) dX10_lookUp_69 (Nat.le_of_ble_eq_true rfl) rfl rfl ?_
      refine r_iload_n dX10_lookUp_71 rfl rfl ?_
      refine r_iconst dX10_lookUp_72 kc_m1 rfl ?_
      refine r_icmp_eq (r := 96) dX10_lookUp_73 (by decide) rfl (fun c_73 => ?_) (fun c_73 => ?_)
      · exact absurd c_73 (nI_neg (by omega))
      · refine r_aload_n dX10_lookUp_76 rfl (zRv_ref _) rfl ?_
        refine m_geta hm 41 29 lfX10_97 rfl (by decide) dX10_lookUp_77 rfl ?_
        refine r_iload_n dX10_lookUp_80 rfl rfl ?_
        refine m_ialdv hm 29 _ (by decide) (by decide) rfl rfl (by show _ < 64; omega) (by first | (simp only [zGS, zMS, Nat.reduceEqDiff, OfNat.ofNat_ne_ofNat, false_and, and_false, true_and, and_true, and_self, if_true, if_false, ite_true, ite_false, reduceIte, reduceCtorEq]; first | done | assumption | rfl) | assumption | exact z2_eq | exact z1_eq | (simp [zGS, zMS]; first | done | assumption) | rfl) dX10_lookUp_81 rfl ?_
        refine r_if_neN (by omega) (r := 96) dX10_lookUp_82 (by decide) rfl (fun c_82 => ?_) (fun c_82 => ?_)
        · exact absurd rfl c_82
        · refine r_aload_n dX10_lookUp_85 rfl (zRv_ref _) rfl ?_
          refine m_geta hm 53 38 lfX10_124 rfl (by decide) dX10_lookUp_86 rfl ?_
          refine r_iload dX10_lookUp_89 rfl rfl ?_
          refine m_ialdv hm 38 _ (by decide) (by decide) rfl rfl (by show _ < 96; omega) (by first | (simp only [zGS, zMS, Nat.reduceEqDiff, OfNat.ofNat_ne_ofNat, false_and, and_false, true_and, and_true, and_self, if_true, if_false, ite_true, ite_false, reduceIte, reduceCtorEq]; first | done | assumption | rfl) | assumption | exact z2_eq | exact z1_eq | (simp [zGS, zMS]; first | done | assumption) | rfl) dX10_lookUp_91 rfl ?_
          refine r_iconst dX10_lookUp_92 kc_1 rfl ?_
          refine r_icmp_neN (by omega) (by omega) (r := 104) dX10_lookUp_93 (by decide) rfl (fun c_93 => ?_) (fun c_93 => ?_)
          · exact absurd rfl c_93
          · skip -- go
            refine r_aload_n dX10_lookUp_96 rfl (zRv_ref _) rfl ?_
            refine r_iconst dX10_lookUp_97 kc_1 rfl ?_
            refine m_putz hm 56 (by first | exact Or.inl rfl | exact Or.inr rfl | exact zb01 _ | assumption) lfX10_319 rfl rfl rfl dX10_lookUp_98 rfl ?_
            refine r_goto (r := 152) dX10_lookUp_101 (by decide) ?_
            refine r_vret rfl dX10_lookUp_152 ?_
            exact hbad
    · rw [hk] at k1
      obtain ⟨k4, k5⟩ := k3 hk
      obtain ⟨v1, v2⟩ := hKv (4 * p2 + m) (by omega) hk
      have hpu := p_push E mo hm w sg (d - 1) H (KS (4 * p2 + m)).2.1 v1 (KS (4 * p2 + m)).2.2 v2.n _ rfl st h56 h45 hA hH
      refine r_iconst dX10_lookUp_61 kc_4 rfl ?_
      refine r_iload_n dX10_lookUp_62 rfl rfl ?_
      refine r_imulN dX10_lookUp_63 rfl ?_
      refine r_iload_n dX10_lookUp_64 rfl rfl ?_
      refine r_iaddN dX10_lookUp_65 rfl ?_
      refine r_bipush dX10_lookUp_66 kb_6 rfl ?_
      refine r_isubN (by omega) dX10_lookUp_68 rfl ?_
      rw [Nat.add_sub_assoc (by omega : 6 ≤ 6 + m), Nat.add_sub_cancel_left]
      refine r_istore (ls' := [_, _, _, _, _]) dX10_lookUp_69 (Nat.le_of_ble_eq_true rfl) rfl rfl ?_
      refine r_iload_n dX10_lookUp_71 rfl rfl ?_
      refine r_iconst dX10_lookUp_72 kc_m1 rfl ?_
      refine r_icmp_eq (r := 96) dX10_lookUp_73 (by decide) rfl (fun c_73 => ?_) (fun c_73 => ?_)
      · exact absurd c_73 (nI_neg (by omega))
      · refine r_aload_n dX10_lookUp_76 rfl (zRv_ref _) rfl ?_
        refine m_geta hm 41 29 lfX10_97 rfl (by decide) dX10_lookUp_77 rfl ?_
        refine r_iload_n dX10_lookUp_80 rfl rfl ?_
        refine m_ialdv hm 29 _ (by decide) (by decide) rfl rfl (by show _ < 64; omega) (by first | (simp only [zGS, zMS, Nat.reduceEqDiff, OfNat.ofNat_ne_ofNat, false_and, and_false, true_and, and_true, and_self, if_true, if_false, ite_true, ite_false, reduceIte, reduceCtorEq]; first | done | assumption | rfl) | assumption | exact z2_eq | exact z1_eq | (simp [zGS, zMS]; first | done | assumption) | rfl) dX10_lookUp_81 rfl ?_
        refine r_if_neN (by omega) (r := 96) dX10_lookUp_82 (by decide) rfl (fun c_82 => ?_) (fun c_82 => ?_)
        · exact absurd rfl c_82
        · refine r_aload_n dX10_lookUp_85 rfl (zRv_ref _) rfl ?_
          refine m_geta hm 53 38 lfX10_124 rfl (by decide) dX10_lookUp_86 rfl ?_
          refine r_iload dX10_lookUp_89 rfl rfl ?_
          refine m_ialdv hm 38 _ (by decide) (by decide) rfl rfl (by show _ < 96; omega) (by first | (simp only [zGS, zMS, Nat.reduceEqDiff, OfNat.ofNat_ne_ofNat, false_and, and_false, true_and, and_true, and_self, if_true, if_false, ite_true, ite_false, reduceIte, reduceCtorEq]; first | done | assumption | rfl) | assumption | exact z2_eq | exact z1_eq | (simp [zGS, zMS]; first | done | assumption) | rfl) dX10_lookUp_91 rfl ?_
          refine r_iconst dX10_lookUp_92 kc_1 rfl ?_
          refine r_icmp_neN (by omega) (by omega) (r := 104) dX10_lookUp_93 (by decide) rfl (fun c_93 => ?_) (fun c_93 => ?_)
          · refine r_aload_n dX10_lookUp_104 rfl (zRv_ref _) rfl ?_
            refine m_geta hm 53 38 lfX10_124 rfl (by decide) dX10_lookUp_105 rfl ?_
            refine r_iload dX10_lookUp_108 rfl rfl ?_
            skip
            refine m_ialdv hm 38 _ (by decide) (by decide) rfl rfl (by show _ < 96; omega) (by first | (simp only [zGS, zMS, Nat.reduceEqDiff, OfNat.ofNat_ne_ofNat, false_and, and_false, true_and, and_true, and_self, if_true, if_false, ite_true, ite_false, reduceIte, reduceCtorEq]; first | done | assumption | rfl) | assumption | exact z2_eq | exact z1_eq | (simp [zGS, zMS]; first | done | assumption) | rfl) dX10_lookUp_110 rfl ?_
            refine r_iconst dX10_lookUp_111 kc_2 rfl ?_
            refine r_icmp_neN (by omega) (by omega) (r := 136) dX10_lookUp_112 (by decide) rfl (fun c_112 => ?_) (fun c_112 => ?_)
            · exact absurd rfl c_112
            · refine r_aload_n dX10_lookUp_115 rfl (zRv_ref _) rfl ?_
              refine r_aload_n dX10_lookUp_116 rfl (zRv_ref _) rfl ?_
              refine m_geta hm 54 39 lfX10_127 rfl (by decide) dX10_lookUp_117 rfl ?_
              refine r_iload dX10_lookUp_120 rfl rfl ?_
              refine m_faldv hm 39 _ (by decide) (by decide) rfl rfl (by show _ < 96; omega) (by first | (simp only [zGS, zMS, Nat.reduceEqDiff, OfNat.ofNat_ne_ofNat, false_and, and_false, true_and, and_true, and_self, if_true, if_false, ite_true, ite_false, reduceIte, reduceCtorEq]; first | done | assumption | rfl) | assumption | exact z2_eq | exact z1_eq | (simp [zGS, zMS]; first | done | assumption) | rfl) dX10_lookUp_122 rfl ?_
              refine r_aload_n dX10_lookUp_123 rfl (zRv_ref _) rfl ?_
              refine m_geta hm 55 40 lfX10_130 rfl (by decide) dX10_lookUp_124 rfl ?_
              refine r_iload dX10_lookUp_127 rfl rfl ?_
              refine m_zaldv hm 40 _ (by decide) (by decide) rfl rfl (by show _ < 96; omega) (by first | (simp only [zGS, zMS, Nat.reduceEqDiff, OfNat.ofNat_ne_ofNat, false_and, and_false, true_and, and_true, and_self, if_true, if_false, ite_true, ite_false, reduceIte, reduceCtorEq]; first | done | assumption | rfl) | assumption | exact z2_eq | exact z1_eq | (simp [zGS, zMS]; first | done | assumption) | rfl) dX10_lookUp_129 rfl ?_
              refine r_callV MX10_push 2 [_, _] lvX10_331 (Or.inr (Or.inl ⟨hm, rfl⟩)) (hpu) rfl rfl (by first | exact Nat.le_of_ble_eq_true rfl | (simp [zcat_rf, Value.category]; done)) (by omega) (Nat.le_of_eq (Nat.zero_add _)) (Nat.le_of_eq (Nat.zero_add _)) dX10_lookUp_130 rfl (fun v_ w_ sg_ hq_ => ?_)
              obtain ⟨rfl, rfl, q3⟩ := hq_
              refine r_goto (r := 152) dX10_lookUp_133 (by decide) ?_
              refine r_vret rfl dX10_lookUp_152 ?_
              exact hQ _ (q3.1.b) (Or.inr (Or.inl ⟨hk, q3⟩))
          · exact absurd c_93 (by decide)
    · rw [hk] at k1
      have hI2 : mdI (msa sg 38 (4 * p2 + m) (nI 1)) T Rs B := (show wB sg (msa sg 38 (4 * p2 + m) (nI 1)) from ⟨fun _ _ _ _ _ => rfl, fun j i _ q => by rw [ma_msa, if_neg (by omega)], fun _ _ _ _ _ => rfl⟩).I hI
      have hbg := q_beginSum E mo hm w (msa sg 38 (4 * p2 + m) (nI 1)) (d - 1) r i (dp + 1) p2 (by omega) (nI (4 * p2 + m)) T Rs B R D g1 g2 g3 hI2 h48 (by omega)
      refine r_iconst dX10_lookUp_61 kc_4 rfl ?_
      refine r_iload_n dX10_lookUp_62 rfl rfl ?_
      refine r_imulN dX10_lookUp_63 rfl ?_
      refine r_iload_n dX10_lookUp_64 rfl rfl ?_
      refine r_iaddN dX10_lookUp_65 rfl ?_
      refine r_bipush dX10_lookUp_66 kb_6 rfl ?_
      refine r_isubN (by omega) dX10_lookUp_68 rfl ?_
      rw [Nat.add_sub_assoc (by omega : 6 ≤ 6 + m), Nat.add_sub_cancel_left]
      refine r_istore (ls' := [_, _, _, _, _]) dX10_lookUp_69 (Nat.le_of_ble_eq_true rfl) rfl rfl ?_
      refine r_iload_n dX10_lookUp_71 rfl rfl ?_
      refine r_iconst dX10_lookUp_72 kc_m1 rfl ?_
      refine r_icmp_eq (r := 96) dX10_lookUp_73 (by decide) rfl (fun c_73 => ?_) (fun c_73 => ?_)
      · exact absurd c_73 (nI_neg (by omega))
      · refine r_aload_n dX10_lookUp_76 rfl (zRv_ref _) rfl ?_
        refine m_geta hm 41 29 lfX10_97 rfl (by decide) dX10_lookUp_77 rfl ?_
        refine r_iload_n dX10_lookUp_80 rfl rfl ?_
        refine m_ialdv hm 29 _ (by decide) (by decide) rfl rfl (by show _ < 64; omega) (by first | (simp only [zGS, zMS, Nat.reduceEqDiff, OfNat.ofNat_ne_ofNat, false_and, and_false, true_and, and_true, and_self, if_true, if_false, ite_true, ite_false, reduceIte, reduceCtorEq]; first | done | assumption | rfl) | assumption | exact z2_eq | exact z1_eq | (simp [zGS, zMS]; first | done | assumption) | rfl) dX10_lookUp_81 rfl ?_
        refine r_if_neN (by omega) (r := 96) dX10_lookUp_82 (by decide) rfl (fun c_82 => ?_) (fun c_82 => ?_)
        · exact absurd rfl c_82
        · refine r_aload_n dX10_lookUp_85 rfl (zRv_ref _) rfl ?_
          refine m_geta hm 53 38 lfX10_124 rfl (by decide) dX10_lookUp_86 rfl ?_
          refine r_iload dX10_lookUp_89 rfl rfl ?_
          refine m_ialdv hm 38 _ (by decide) (by decide) rfl rfl (by show _ < 96; omega) (by first | (simp only [zGS, zMS, Nat.reduceEqDiff, OfNat.ofNat_ne_ofNat, false_and, and_false, true_and, and_true, and_self, if_true, if_false, ite_true, ite_false, reduceIte, reduceCtorEq]; first | done | assumption | rfl) | assumption | exact z2_eq | exact z1_eq | (simp [zGS, zMS]; first | done | assumption) | rfl) dX10_lookUp_91 rfl ?_
          refine r_iconst dX10_lookUp_92 kc_1 rfl ?_
          refine r_icmp_neN (by omega) (by omega) (r := 104) dX10_lookUp_93 (by decide) rfl (fun c_93 => ?_) (fun c_93 => ?_)
          · refine r_aload_n dX10_lookUp_104 rfl (zRv_ref _) rfl ?_
            refine m_geta hm 53 38 lfX10_124 rfl (by decide) dX10_lookUp_105 rfl ?_
            refine r_iload dX10_lookUp_108 rfl rfl ?_
            skip
            refine m_ialdv hm 38 _ (by decide) (by decide) rfl rfl (by show _ < 96; omega) (by first | (simp only [zGS, zMS, Nat.reduceEqDiff, OfNat.ofNat_ne_ofNat, false_and, and_false, true_and, and_true, and_self, if_true, if_false, ite_true, ite_false, reduceIte, reduceCtorEq]; first | done | assumption | rfl) | assumption | exact z2_eq | exact z1_eq | (simp [zGS, zMS]; first | done | assumption) | rfl) dX10_lookUp_110 rfl ?_
            refine r_iconst dX10_lookUp_111 kc_2 rfl ?_
            refine r_icmp_neN (by omega) (by omega) (r := 136) dX10_lookUp_112 (by decide) rfl (fun c_112 => ?_) (fun c_112 => ?_)
            · refine r_aload_n dX10_lookUp_136 rfl (zRv_ref _) rfl ?_
              refine m_geta hm 53 38 lfX10_124 rfl (by decide) dX10_lookUp_137 rfl ?_
              refine r_iload dX10_lookUp_140 rfl rfl ?_
              refine r_iconst dX10_lookUp_142 kc_1 rfl ?_
              refine m_iast hm 38 _ (by decide) (by decide) rfl rfl (by show _ < 96; omega) dX10_lookUp_143 rfl ?_
              refine r_aload_n dX10_lookUp_144 rfl (zRv_ref _) rfl ?_
              refine r_iload_n dX10_lookUp_145 rfl rfl ?_
              refine r_iload_n dX10_lookUp_146 rfl rfl ?_
              refine r_iload dX10_lookUp_147 rfl rfl ?_
              refine r_callV MX10_beginSum 3 [_, _, _] lvX10_335 (Or.inr (Or.inl ⟨hm, rfl⟩)) (hbg) rfl rfl (by first | exact Nat.le_of_ble_eq_true rfl | (simp [zcat_rf, Value.category]; done)) (by omega) (Nat.le_of_eq (Nat.zero_add _)) (Nat.le_of_eq (Nat.zero_add _)) dX10_lookUp_149 rfl (fun v_ w_ sg_ hq_ => ?_)
              obtain ⟨rfl, rfl, e1, e2, e3, e4, e5, e6, e7⟩ := hq_
              refine r_vret rfl dX10_lookUp_152 ?_
              refine hQ _ ((show wB sg (msa sg 38 (4 * p2 + m) (nI 1)) from ⟨fun _ _ _ _ _ => rfl, fun j i _ q => by rw [ma_msa, if_neg (by omega)], fun _ _ _ _ _ => rfl⟩).tr e1) (Or.inr (Or.inr ⟨hk, r, i, R, g1, g2, g3, e2, e3, e4, e5, fun H => ⟨fun j k a b c => ((e6 H).1 j k a b c).trans (by rw [ma_msa, if_neg (by omega)]), fun k c => ⟨((e6 H).2 k c).1, ((e6 H).2 k c).2.trans (by rw [ma_msa, if_neg (by omega)])⟩⟩, e7 _ (fun x hx => ?_)⟩))
              obtain ⟨x1, x2, x3⟩ := hK x hx
              unfold ksPut
              rw [ma_msa, ma_msa, if_neg (by omega : ¬ (40 = 38 ∧ x = 4 * p2 + m))]
              by_cases c : x = 4 * p2 + m
              · rw [if_pos ⟨rfl, c⟩, if_pos c]
                exact ⟨rfl, (by decide : 1 < 3), fun q => absurd q (by decide : ¬ 1 = 2)⟩
              · rw [if_neg (fun z => c z.2), if_neg c]
                exact ⟨x1, x2, x3⟩
            · exact absurd c_112 (by decide)
          · exact absurd c_93 (by decide)
