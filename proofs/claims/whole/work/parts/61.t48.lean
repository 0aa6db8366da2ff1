/-! ===== Reckoner.pass, its walk ===== -/
def passQ (k : Nat) (A : Nat → Nat) (w : ZW) (sg : ZM) (oc : Nat) (R : (Nat × Nat) ⊕ Option (List PVal)) : ZQ := fun v w' sg' => sg = sg' ∧ match R with
  | .inl (e, n) => v = some (.int (zb false)) ∧ ∃ w1, rkS k w w1 ∧ w' = opnW w1 k (A e + 1) oc (6 + n) (A e)
  | .inr (some st) => v = some (.int (zb true)) ∧ rkS k w w' ∧ isStk w' k st
  | .inr none => v = some (.int (zb true)) ∧ rkS k w w' ∧ za w' (k + 2) 0 = nI 2
def passE (w : ZW) (x nr : Nat) (T : List PEl) (A : Nat → Nat) (DC : Nat → PDecl → Prop) (RG : Nat → Nat → Prop) (L : Nat → Nat → PLd) (K : PKn) (wanted : Nat) (em whole : UInt32) (oc : Nat) : Prop := (envA w x nr T A DC RG ∧ leadsW w T A DC L ∧ nkW w T.length A K) ∧ isRk w (x + 7) ∧ zi w 501 (x + 7) = nI wanted ∧ zf w 502 (x + 7) = em ∧ zf w 503 (x + 7) = whole ∧ zi w 509 (x + 7) = nI oc
theorem passE.s {w w' : ZW} {x nr : Nat} {T : List PEl} {A : Nat → Nat} {DC : Nat → PDecl → Prop} {RG : Nat → Nat → Prop} {L : Nat → Nat → PLd} {K : PKn} {wanted : Nat} {em whole : UInt32} {oc : Nat} (h : passE w x nr T A DC RG L K wanted em whole oc) (e : rkS (x + 7) w w') : passE w' x nr T A DC RG L K wanted em whole oc := by
  obtain ⟨⟨h1, h2, h3⟩, h4, h5, h6, h7, h8⟩ := h
  have ed := e.e.to XK.d
  exact ⟨⟨h1.d ed, h2.d h1 ed, h3.d h1 ed⟩, h4.s e, (e.2.2.2.1 501 _ (fun q => absurd q.2 (by decide))).trans h5, by rw [e.2.2.2.2.2.1]; exact h6, by rw [e.2.2.2.2.2.1]; exact h7, (e.2.2.2.1 509 _ (fun q => absurd q.2 (by decide))).trans h8⟩
theorem rpass_bad (E : ZE) (sg : ZM) (d x oc a i : Nat) (w0 w : ZW) (A : Nat → Nat) (pl : Nat) (hk : isRk w (x + 7)) (hr : rkS (x + 7) w0 w) (D : PDecl) (lo hi : Nat) (hD : isDecl w lo hi a D) (hl : D.2.2.2.length ≤ 120) (hi9 : i ≤ 121) (x5 x6 x7 : Option Value) : RW E MX4_pass 10 [some (.ref (x + 7)), some (.ref a), some (.ref (A pl)), some (.int (zb false)), some (.int (nI i)), x5, x6, x7] [] w sg d 0 0 (PN E (passQ (x + 7) A w0 sg oc (.inr none))) := by
  obtain ⟨⟨k1, k2, k3, k4, k5, k6⟩, ⟨a1, a2, a3, a4, a5⟩, l1, l2, l3, l4, l5⟩ := hk
  obtain ⟨-, -, dk, -, -, -, p, q, dp, dq, -, kp, lp, kq, lq, -⟩ := hD
  have hfin : ∀ x5 x6 x7, RW E MX4_pass 184 [some (.ref (x + 7)), some (.ref a), some (.ref (A pl)), some (.int (zb false)), some (.int (nI i)), x5, x6, x7] [] w sg d 0 0 (PN E (passQ (x + 7) A w0 sg oc (.inr none))) := fun x5 x6 x7 => by
    refine r_iload_n dX4_pass_184 rfl rfl ?_
    refine r_if_neB (r := 195) dX4_pass_185 (by decide) rfl (fun c_185 => ?_) (fun c_185 => ?_)
    · exact absurd c_185 (by decide)
    · refine r_aload_n dX4_pass_188 rfl (zRv_ref _) rfl ?_
      refine r_gets 4 4 504 lfX4_17 (by first | (simp only [zKS]; first | assumption) | assumption | exact zk_nself _ _ _ | (simp [zKS, zNS, *]; done)) rfl rfl (by first | (simp only [zGS, Nat.reduceEqDiff, OfNat.ofNat_ne_ofNat, false_and, and_false, true_and, and_true, and_self, if_true, if_false, ite_true, ite_false, reduceIte, reduceCtorEq]; first | done | assumption) | assumption | exact z2_eq | (simp [zGS]; first | done | assumption)) dX4_pass_189 rfl ?_
      refine r_iconst dX4_pass_192 kc_0 rfl ?_
      refine r_iconst dX4_pass_193 kc_2 rfl ?_
      refine r_iast 0 a2 rfl (by show 0 < zln w (x + 7 + 2); omega) (by decide) dX4_pass_194 rfl ?_
      refine r_iconst dX4_pass_195 kc_1 rfl ?_
      refine r_zret .boolean rfl rfl dX4_pass_196 ?_
      refine ⟨rfl, rfl, hr.tr ⟨rfl, rfl, rfl, fun _ _ _ => rfl, rfl, rfl, fun b e => z2_row e, rfl, fun _ _ => rfl, rfl, rfl⟩, ?_⟩
      rw [za_zsa, if_pos ⟨rfl, rfl⟩]
  refine r_iload dX4_pass_10 rfl rfl ?_
  refine r_aload_n dX4_pass_12 rfl (by first | exact zRv_ref _ | exact zRv_null | exact zRv_rf _ | assumption) rfl ?_
  refine r_gets 1 3 203 lfX4_101 (by first | (simp only [zKS]; first | assumption) | assumption | exact zk_nself _ _ _ | (simp [zKS, zNS, *]; done)) rfl rfl (by first | (simp only [zGS, Nat.reduceEqDiff, OfNat.ofNat_ne_ofNat, false_and, and_false, true_and, and_true, and_self, if_true, if_false, ite_true, ite_false, reduceIte, reduceCtorEq]; first | done | assumption) | assumption | exact z2_eq | (simp [zGS]; first | done | assumption)) dX4_pass_13 rfl ?_
  refine r_alenv 2 (by decide) (by first | (simp only [zKS]; first | assumption) | assumption | exact zk_nself _ _ _ | (simp [zKS, zNS, *]; done)) (by first | (simp only [zGS, zMS, Nat.reduceEqDiff, OfNat.ofNat_ne_ofNat, false_and, and_false, true_and, and_true, and_self, if_true, if_false, ite_true, ite_false, reduceIte, reduceCtorEq]; first | done | assumption | rfl) | assumption | exact z2_eq | exact z1_eq | (simp [zGS, zMS]; first | done | assumption) | rfl) dX4_pass_16 rfl ?_
  refine r_icmp_geN (by omega) (by omega) (r := 184) dX4_pass_17 (by decide) rfl (fun c_17 => ?_) (fun c_17 => ?_)
  · exact hfin _ _ _
  · refine r_iload_n dX4_pass_20 rfl rfl ?_
    refine r_if_eqB (r := 184) dX4_pass_21 (by decide) rfl (fun c_21 => ?_) (fun c_21 => ?_)
    · exact hfin _ _ _
    · exact absurd c_21 (by decide)
theorem rpass (E : ZE) (sg : ZM) (d : Nat) (hd : 2 ≤ d) (x nr : Nat) (T : List PEl) (A : Nat → Nat) (DC : Nat → PDecl → Prop) (RG : Nat → Nat → Prop) (L : Nat → Nat → PLd) (K : PKn) (hK : okK K) (wanted : Nat) (hwt : wanted < 2) (em whole : UInt32) (hem : fFin em) (hwh : fFin whole) (oc : Nat) (pl : Nat) (hoc : ∀ e n D', n < 4 → fnd T L (6 + n) (pl + 1) pl = some (e, D') → (K e n).1 = 4 → oc < 96) (hpl : pl < T.length) (a : Nat) (D : PDecl) (hD : DC a D) (hok : okD D) (w0 : ZW) : ∀ (ss : List PStep) (i : Nat) (w : ZW) (st : List PVal) (x5 x6 x7 : Option Value), D.2.2.2.drop i = ss → i ≤ D.2.2.2.length → passE w x nr T A DC RG L K wanted em whole oc → rkS (x + 7) w0 w → isStk w (x + 7) st → okStk st → hgt ss st.length = some 1 → RW E MX4_pass 10 [some (.ref (x + 7)), some (.ref a), some (.ref (A pl)), some (.int (zb true)), some (.int (nI i)), x5, x6, x7] [] w sg d 0 0 (PN E (passQ (x + 7) A w0 sg oc (pasS T L K wanted em whole pl ss st)))
  | [], i, w, st, x5, x6, x7, hdr, hi, hE, hr, hs, ho, hh => by
    have hlen : i = D.2.2.2.length := by
      have := congrArg List.length hdr
      rw [List.length_drop, List.length_nil] at this
      omega
    obtain ⟨⟨hE1, hE2, hE3⟩, hk, -, -, -, -⟩ := hE
    obtain ⟨d1, d2, d3, lo, hi9, d4, d5⟩ := hE1.2.2.2.2.2 a D hD
    obtain ⟨-, -, dk, -, -, -, p, q, dp, dq, -, kp, lp, kq, lq, -⟩ := d5
    have hl := hok.2.1
    refine r_iload dX4_pass_10 rfl rfl ?_
    refine r_aload_n dX4_pass_12 rfl (by first | exact zRv_ref _ | exact zRv_null | exact zRv_rf _ | assumption) rfl ?_
    refine r_gets 1 3 203 lfX4_101 (by first | (simp only [zKS]; first | assumption) | assumption | exact zk_nself _ _ _ | (simp [zKS, zNS, *]; done)) rfl rfl (by first | (simp only [zGS, Nat.reduceEqDiff, OfNat.ofNat_ne_ofNat, false_and, and_false, true_and, and_true, and_self, if_true, if_false, ite_true, ite_false, reduceIte, reduceCtorEq]; first | done | assumption) | assumption | exact z2_eq | (simp [zGS]; first | done | assumption)) dX4_pass_13 rfl ?_
    refine r_alenv 2 (by decide) (by first | (simp only [zKS]; first | assumption) | assumption | exact zk_nself _ _ _ | (simp [zKS, zNS, *]; done)) (by first | (simp only [zGS, zMS, Nat.reduceEqDiff, OfNat.ofNat_ne_ofNat, false_and, and_false, true_and, and_true, and_self, if_true, if_false, ite_true, ite_false, reduceIte, reduceCtorEq]; first | done | assumption | rfl) | assumption | exact z2_eq | exact z1_eq | (simp [zGS, zMS]; first | done | assumption) | rfl) dX4_pass_16 rfl ?_
    refine r_icmp_geN (by omega) (by omega) (r := 184) dX4_pass_17 (by decide) rfl (fun c_17 => ?_) (fun c_17 => ?_)
    · refine r_iload_n dX4_pass_184 rfl rfl ?_
      refine r_if_neB (r := 195) dX4_pass_185 (by decide) rfl (fun c_185 => ?_) (fun c_185 => ?_)
      · refine r_iconst dX4_pass_195 kc_1 rfl ?_
        refine r_zret .boolean rfl rfl dX4_pass_196 ?_
        exact ⟨rfl, rfl, hr, hs⟩
      · exact absurd c_185 (by decide)
    · exact absurd c_17 (by omega)
  | s :: ss, i, w, st, x5, x6, x7, hdr, hi, hE, hr, hs, ho, hh => by
    have hlen : i < D.2.2.2.length := by
      have := congrArg List.length hdr
      rw [List.length_drop, List.length_cons] at this
      omega
    have hget : D.2.2.2[i]? = some s := by
      have := congrArg (fun l => l[0]?) hdr
      simpa [List.getElem?_drop] using this
    have hdr2 : D.2.2.2.drop (i + 1) = ss := by
      have := congrArg (List.drop 1) hdr
      rw [List.drop_drop] at this
      simpa [Nat.add_comm] using this
    have hE0 := hE
    obtain ⟨⟨hE1, hE2, hE3⟩, hk, hu1, hu2, hu3, hu4⟩ := hE
    have hk0 := hk
    obtain ⟨⟨k1, k2, k3, k4, k5, k6⟩, ⟨a1, a2, a3, a4, a5⟩, l1, l2, l3, l4, l5⟩ := hk
    obtain ⟨d1, d2, d3, lo, hi9, d4, d5⟩ := hE1.2.2.2.2.2 a D hD
    obtain ⟨-, -, dk, -, -, -, p, q, dp, dq, -, kp, lp, kq, lq, dss⟩ := id d5
    obtain ⟨v1, v2⟩ := dss i s hget
    have hl := hok.2.1
    have hos := hok.2.2 s (List.mem_of_getElem? hget)
    have hs13 := hos.1
    have hbad : ∀ (w' : ZW) (x5 x6 x7 : Option Value), rkS (x + 7) w w' → RW E MX4_pass 10 [some (.ref (x + 7)), some (.ref a), some (.ref (A pl)), some (.int (zb false)), some (.int (nI (i + 1))), x5, x6, x7] [] w' sg d 0 0 (PN E (passQ (x + 7) A w0 sg oc (.inr none))) := fun w' x5 x6 x7 hr' => by
      have hE' := hE0.s hr'
      obtain ⟨-, -, -, lo', hi', -, q5⟩ := hE'.1.1.2.2.2.2.2 a D hD
      exact rpass_bad E sg d x oc a (i + 1) w0 w' A pl hE'.2.1 (hr.tr hr') D lo' hi' q5 hl (by omega) x5 x6 x7
    have hgo : ∀ (w' : ZW) (st' : List PVal) (x5 x6 x7 : Option Value), rkS (x + 7) w w' → isStk w' (x + 7) st' → okStk st' → hgt ss st'.length = some 1 → RW E MX4_pass 10 [some (.ref (x + 7)), some (.ref a), some (.ref (A pl)), some (.int (zb true)), some (.int (nI (i + 1))), x5, x6, x7] [] w' sg d 0 0 (PN E (passQ (x + 7) A w0 sg oc (pasS T L K wanted em whole pl ss st'))) := fun w' st' x5 x6 x7 hr' hs' ho' hh' => rpass E sg d hd x nr T A DC RG L K hK wanted hwt em whole hem hwh oc pl hoc hpl a D hD hok w0 ss (i + 1) w' st' x5 x6 x7 hdr2 (by omega) (hE0.s hr') (hr.tr hr') hs' ho' hh'
    unfold hgt at hh
    unfold pasS
    by_cases h9 : 9 ≤ s.1
    · rw [if_pos h9]
      rw [if_pos (Or.inr h9)] at hh
      have h15 : st.length < 15 := by
        by_cases g : st.length < 15
        · exact g
        · rw [if_neg g] at hh; cases hh
      rw [if_pos h15] at hh
      cases hf : fnd T L (6 + (s.1 - 9)) (pl + 1) pl with
      | none =>
        refine r_iload dX4_pass_10 rfl rfl ?_
        refine r_aload_n dX4_pass_12 rfl (by first | exact zRv_ref _ | exact zRv_null | exact zRv_rf _ | assumption) rfl ?_
        refine r_gets 1 3 203 lfX4_101 (by first | (simp only [zKS]; first | assumption) | assumption | exact zk_nself _ _ _ | (simp [zKS, zNS, *]; done)) rfl rfl (by first | (simp only [zGS, Nat.reduceEqDiff, OfNat.ofNat_ne_ofNat, false_and, and_false, true_and, and_true, and_self, if_true, if_false, ite_true, ite_false, reduceIte, reduceCtorEq]; first | done | assumption) | assumption | exact z2_eq | (simp [zGS]; first | done | assumption)) dX4_pass_13 rfl ?_
        refine r_alenv 2 (by decide) (by first | (simp only [zKS]; first | assumption) | assumption | exact zk_nself _ _ _ | (simp [zKS, zNS, *]; done)) (by first | (simp only [zGS, zMS, Nat.reduceEqDiff, OfNat.ofNat_ne_ofNat, false_and, and_false, true_and, and_true, and_self, if_true, if_false, ite_true, ite_false, reduceIte, reduceCtorEq]; first | done | assumption | rfl) | assumption | exact z2_eq | exact z1_eq | (simp [zGS, zMS]; first | done | assumption) | rfl) dX4_pass_16 rfl ?_
        refine r_icmp_geN (by omega) (by omega) (r := 184) dX4_pass_17 (by decide) rfl (fun c_17 => ?_) (fun c_17 => ?_)
        · exact absurd c_17 (by omega)
        · refine r_iload_n dX4_pass_20 rfl rfl ?_
          refine r_if_eqB (r := 184) dX4_pass_21 (by decide) rfl (fun c_21 => ?_) (fun c_21 => ?_)
          · exact absurd c_21 (by decide)
          · refine r_aload_n dX4_pass_24 rfl (by first | exact zRv_ref _ | exact zRv_null | exact zRv_rf _ | assumption) rfl ?_
            refine r_gets 1 3 203 lfX4_101 (by first | (simp only [zKS]; first | assumption) | assumption | exact zk_nself _ _ _ | (simp [zKS, zNS, *]; done)) rfl rfl (by first | (simp only [zGS, Nat.reduceEqDiff, OfNat.ofNat_ne_ofNat, false_and, and_false, true_and, and_true, and_self, if_true, if_false, ite_true, ite_false, reduceIte, reduceCtorEq]; first | done | assumption) | assumption | exact z2_eq | (simp [zGS]; first | done | assumption)) dX4_pass_25 rfl ?_
            refine r_iload dX4_pass_28 rfl rfl ?_
            refine r_ialdv i kp rfl (by omega) (by omega) v1 dX4_pass_30 rfl ?_
            refine r_istore (ls' := [_, _, _, _, _, _, _, _]) dX4_pass_31 (Nat.le_of_ble_eq_true rfl) rfl rfl ?_
            refine r_iload dX4_pass_33 rfl rfl ?_
            refine r_bipush dX4_pass_35 kb_9 rfl ?_
            refine r_icmp_ltN (by omega) (by omega) (r := 135) dX4_pass_37 (by decide) rfl (fun c_37 => ?_) (fun c_37 => ?_)
            · exact absurd c_37 (by omega)
            · refine r_iload dX4_pass_40 rfl rfl ?_
              refine r_bipush dX4_pass_42 kb_9 rfl ?_
              refine r_isubN (by omega) dX4_pass_44 rfl ?_
              refine r_istore (ls' := [_, _, _, _, _, _, _, _]) dX4_pass_45 (Nat.le_of_ble_eq_true rfl) rfl rfl ?_
              refine r_aload_n dX4_pass_47 rfl (zRv_ref _) rfl ?_
              refine r_bipush dX4_pass_48 kb_6 rfl ?_
              refine r_iload dX4_pass_50 rfl rfl ?_
              refine r_iaddN dX4_pass_52 rfl ?_
              refine r_aload_n dX4_pass_53 rfl (by first | exact zRv_ref _ | exact zRv_null | exact zRv_rf _ | assumption) rfl ?_
              refine r_callV MX4_find 2 [_, _] lvX4_104 (Or.inl ⟨4, by decide, (by first | (simp only [zKS]; first | assumption) | assumption | exact zk_nself _ _ _ | (simp [zKS, zNS, *]; done)), rfl⟩) (sp_find E sg (d - 1) (x + 7) (6 + (s.1 - 9)) nr (by omega) w x T A DC RG hE1 L hE2 pl hpl) rfl rfl (by first | exact Nat.le_of_ble_eq_true rfl | (simp [zcat_rf, Value.category]; done)) (by omega) (Nat.le_of_eq (Nat.zero_add _)) (Nat.le_of_eq (Nat.zero_add _)) dX4_pass_54 rfl (fun v_ w_ sg_ hq_ => ?_)
              rw [hf] at hq_
              obtain ⟨rfl, rfl, rfl⟩ := hq_
              refine r_astore (ls' := [_, _, _, _, _, _, _, _]) dX4_pass_57 (Nat.le_of_ble_eq_true rfl) (by first | exact zRv_ref _ | exact zRv_null | exact zRv_rf _ | assumption) rfl rfl ?_
              refine r_aload dX4_pass_59 rfl (by first | exact zRv_ref _ | exact zRv_null | exact zRv_rf _ | assumption) rfl ?_
              refine r_ifnullZ (r := 92) dX4_pass_61 (by decide) rfl (fun c_61 => ?_) (fun a_61 c_61 => ?_)
              · refine r_aload dX4_pass_92 rfl (by first | exact zRv_ref _ | exact zRv_null | exact zRv_rf _ | assumption) rfl ?_
                refine r_ifnullZ (r := 130) dX4_pass_94 (by decide) rfl (fun c_94 => ?_) (fun a_94 c_94 => ?_)
                · refine r_iconst dX4_pass_130 kc_0 rfl ?_
                  refine r_istore_n (ls' := [_, _, _, _, _, _, _, _]) dX4_pass_131 (Nat.le_of_ble_eq_true rfl) rfl rfl ?_
                  refine r_goto (r := 178) dX4_pass_132 (by decide) ?_
                  refine r_iinc (ls' := [_, _, _, _, _, _, _, _]) dX4_pass_178 (Nat.le_of_ble_eq_true rfl) rfl (zinc1 _) rfl rfl ?_
                  refine r_goto (r := 10) dX4_pass_181 (by decide) ?_
                  exact hbad w _ _ _ rkS.rf
                · cases c_94
              · cases c_61
      | some q9 =>
        obtain ⟨e, D'⟩ := q9
        have hle := fnd_lt hE1.2.2.1.1 hf
        have he : e < T.length := Nat.lt_of_le_of_lt hle hpl
        obtain ⟨f0, -, f1, -, -, -, -, -, -, -, -, f10, -⟩ := hE1.2.2.1.2 e he
        have hsty := hE1.2.2.2.2.1 e he
        obtain ⟨⟨s1, s2, s3, s4, s5, s6, s7, s8⟩, ⟨t1, t2, t3, t4, t5, t6, t7⟩, m1, m2, m3, m4, m5, m6, m7⟩ := id hsty
        obtain ⟨n1, n2⟩ := hE3 e he (s.1 - 9) (by omega)
        obtain ⟨o1, o2⟩ := hK e (s.1 - 9)
        dsimp only
        by_cases h4 : (K e (s.1 - 9)).1 = 4
        · rw [if_pos h4]
          have hoc4 := hoc e (s.1 - 9) D' (by omega) hf h4
          refine r_iload dX4_pass_10 rfl rfl ?_
          refine r_aload_n dX4_pass_12 rfl (by first | exact zRv_ref _ | exact zRv_null | exact zRv_rf _ | assumption) rfl ?_
          refine r_gets 1 3 203 lfX4_101 (by first | (simp only [zKS]; first | assumption) | assumption | exact zk_nself _ _ _ | (simp [zKS, zNS, *]; done)) rfl rfl (by first | (simp only [zGS, Nat.reduceEqDiff, OfNat.ofNat_ne_ofNat, false_and, and_false, true_and, and_true, and_self, if_true, if_false, ite_true, ite_false, reduceIte, reduceCtorEq]; first | done | assumption) | assumption | exact z2_eq | (simp [zGS]; first | done | assumption)) dX4_pass_13 rfl ?_
          refine r_alenv 2 (by decide) (by first | (simp only [zKS]; first | assumption) | assumption | exact zk_nself _ _ _ | (simp [zKS, zNS, *]; done)) (by first | (simp only [zGS, zMS, Nat.reduceEqDiff, OfNat.ofNat_ne_ofNat, false_and, and_false, true_and, and_true, and_self, if_true, if_false, ite_true, ite_false, reduceIte, reduceCtorEq]; first | done | assumption | rfl) | assumption | exact z2_eq | exact z1_eq | (simp [zGS, zMS]; first | done | assumption) | rfl) dX4_pass_16 rfl ?_
          refine r_icmp_geN (by omega) (by omega) (r := 184) dX4_pass_17 (by decide) rfl (fun c_17 => ?_) (fun c_17 => ?_)
          · exact absurd c_17 (by omega)
          · refine r_iload_n dX4_pass_20 rfl rfl ?_
            refine r_if_eqB (r := 184) dX4_pass_21 (by decide) rfl (fun c_21 => ?_) (fun c_21 => ?_)
            · exact absurd c_21 (by decide)
            · refine r_aload_n dX4_pass_24 rfl (by first | exact zRv_ref _ | exact zRv_null | exact zRv_rf _ | assumption) rfl ?_
              refine r_gets 1 3 203 lfX4_101 (by first | (simp only [zKS]; first | assumption) | assumption | exact zk_nself _ _ _ | (simp [zKS, zNS, *]; done)) rfl rfl (by first | (simp only [zGS, Nat.reduceEqDiff, OfNat.ofNat_ne_ofNat, false_and, and_false, true_and, and_true, and_self, if_true, if_false, ite_true, ite_false, reduceIte, reduceCtorEq]; first | done | assumption) | assumption | exact z2_eq | (simp [zGS]; first | done | assumption)) dX4_pass_25 rfl ?_
              refine r_iload dX4_pass_28 rfl rfl ?_
              refine r_ialdv i kp rfl (by omega) (by omega) v1 dX4_pass_30 rfl ?_
              refine r_istore (ls' := [_, _, _, _, _, _, _, _]) dX4_pass_31 (Nat.le_of_ble_eq_true rfl) rfl rfl ?_
              refine r_iload dX4_pass_33 rfl rfl ?_
              refine r_bipush dX4_pass_35 kb_9 rfl ?_
              refine r_icmp_ltN (by omega) (by omega) (r := 135) dX4_pass_37 (by decide) rfl (fun c_37 => ?_) (fun c_37 => ?_)
              · exact absurd c_37 (by omega)
              · refine r_iload dX4_pass_40 rfl rfl ?_
                refine r_bipush dX4_pass_42 kb_9 rfl ?_
                refine r_isubN (by omega) dX4_pass_44 rfl ?_
                refine r_istore (ls' := [_, _, _, _, _, _, _, _]) dX4_pass_45 (Nat.le_of_ble_eq_true rfl) rfl rfl ?_
                refine r_aload_n dX4_pass_47 rfl (zRv_ref _) rfl ?_
                refine r_bipush dX4_pass_48 kb_6 rfl ?_
                refine r_iload dX4_pass_50 rfl rfl ?_
                refine r_iaddN dX4_pass_52 rfl ?_
                refine r_aload_n dX4_pass_53 rfl (by first | exact zRv_ref _ | exact zRv_null | exact zRv_rf _ | assumption) rfl ?_
                refine r_callV MX4_find 2 [_, _] lvX4_104 (Or.inl ⟨4, by decide, (by first | (simp only [zKS]; first | assumption) | assumption | exact zk_nself _ _ _ | (simp [zKS, zNS, *]; done)), rfl⟩) (sp_find E sg (d - 1) (x + 7) (6 + (s.1 - 9)) nr (by omega) w x T A DC RG hE1 L hE2 pl hpl) rfl rfl (by first | exact Nat.le_of_ble_eq_true rfl | (simp [zcat_rf, Value.category]; done)) (by omega) (Nat.le_of_eq (Nat.zero_add _)) (Nat.le_of_eq (Nat.zero_add _)) dX4_pass_54 rfl (fun v_ w_ sg_ hq_ => ?_)
                rw [hf] at hq_
                obtain ⟨rfl, rfl, rfl⟩ := hq_
                refine r_astore (ls' := [_, _, _, _, _, _, _, _]) dX4_pass_57 (Nat.le_of_ble_eq_true rfl) (by first | exact zRv_ref _ | exact zRv_null | exact zRv_rf _ | assumption) rfl rfl ?_
                refine r_aload dX4_pass_59 rfl (by first | exact zRv_ref _ | exact zRv_null | exact zRv_rf _ | assumption) rfl ?_
                refine r_ifnullR (r := 92) dX4_pass_61 (by decide) rfl (fun c_61 => ?_) (fun a_61 c_61 => ?_)
                · cases c_61
                · refine r_aload dX4_pass_64 rfl (by first | exact zRv_ref _ | exact zRv_null | exact zRv_rf _ | assumption) rfl ?_
                  refine r_gets 2 9 309 lfX4_39 (by first | (simp only [zKS]; first | assumption) | assumption | exact zk_nself _ _ _ | (simp [zKS, zNS, *]; done)) rfl rfl (by first | (simp only [zGS, Nat.reduceEqDiff, OfNat.ofNat_ne_ofNat, false_and, and_false, true_and, and_true, and_self, if_true, if_false, ite_true, ite_false, reduceIte, reduceCtorEq]; first | done | assumption) | assumption | exact z2_eq | (simp [zGS]; first | done | assumption)) dX4_pass_66 rfl ?_
                  refine r_gets 7 5 805 lfX4_79 (by first | (simp only [zKS]; first | assumption) | assumption | exact zk_nself _ _ _ | (simp [zKS, zNS, *]; done)) rfl rfl (by first | (simp only [zGS, Nat.reduceEqDiff, OfNat.ofNat_ne_ofNat, false_and, and_false, true_and, and_true, and_self, if_true, if_false, ite_true, ite_false, reduceIte, reduceCtorEq]; first | done | assumption) | assumption | exact z2_eq | (simp [zGS]; first | done | assumption)) dX4_pass_69 rfl ?_
                  refine r_iload dX4_pass_72 rfl rfl ?_
                  refine r_ialdv (s.1 - 9) t6 rfl (by show s.1 - 9 < zln w (A e + 1 + 6); omega) (by omega) n1 dX4_pass_74 rfl ?_
                  refine r_iconst dX4_pass_75 kc_4 rfl ?_
                  refine r_icmp_neN (by omega) (by omega) (r := 92) dX4_pass_76 (by decide) rfl (fun c_76 => ?_) (fun c_76 => ?_)
                  · exact absurd h4 c_76
                  · refine r_aload_n dX4_pass_79 rfl (zRv_ref _) rfl ?_
                    refine r_bipush dX4_pass_80 kb_6 rfl ?_
                    refine r_iload dX4_pass_82 rfl rfl ?_
                    refine r_iaddN dX4_pass_84 rfl ?_
                    refine r_aload dX4_pass_85 rfl (by first | exact zRv_ref _ | exact zRv_null | exact zRv_rf _ | assumption) rfl ?_
                    refine r_callV MX4_open 2 [_, _] lvX4_108 (Or.inl ⟨4, by decide, (by first | (simp only [zKS]; first | assumption) | assumption | exact zk_nself _ _ _ | (simp [zKS, zNS, *]; done)), rfl⟩) (sp_open E sg (d - 1) (x + 7) (6 + (s.1 - 9)) (A e) (A e + 1) oc (by omega) w hk0 f0 f10 hsty hu4 hoc4) rfl rfl (by first | exact Nat.le_of_ble_eq_true rfl | (simp [zcat_rf, Value.category]; done)) (by omega) (Nat.le_of_eq (Nat.zero_add _)) (Nat.le_of_eq (Nat.zero_add _)) dX4_pass_87 rfl (fun v_ w_ sg_ hq_ => ?_)
                    obtain ⟨rfl, rfl, rfl⟩ := hq_
                    refine r_iconst dX4_pass_90 kc_0 rfl ?_
                    refine r_zret .boolean rfl rfl dX4_pass_91 ?_
                    exact ⟨rfl, rfl, w, hr, rfl⟩
        · rw [if_neg h4]
          cases hp : pushS (K e (s.1 - 9)).1 (K e (s.1 - 9)).2 st with
          | none =>
            refine r_iload dX4_pass_10 rfl rfl ?_
            refine r_aload_n dX4_pass_12 rfl (by first | exact zRv_ref _ | exact zRv_null | exact zRv_rf _ | assumption) rfl ?_
            refine r_gets 1 3 203 lfX4_101 (by first | (simp only [zKS]; first | assumption) | assumption | exact zk_nself _ _ _ | (simp [zKS, zNS, *]; done)) rfl rfl (by first | (simp only [zGS, Nat.reduceEqDiff, OfNat.ofNat_ne_ofNat, false_and, and_false, true_and, and_true, and_self, if_true, if_false, ite_true, ite_false, reduceIte, reduceCtorEq]; first | done | assumption) | assumption | exact z2_eq | (simp [zGS]; first | done | assumption)) dX4_pass_13 rfl ?_
            refine r_alenv 2 (by decide) (by first | (simp only [zKS]; first | assumption) | assumption | exact zk_nself _ _ _ | (simp [zKS, zNS, *]; done)) (by first | (simp only [zGS, zMS, Nat.reduceEqDiff, OfNat.ofNat_ne_ofNat, false_and, and_false, true_and, and_true, and_self, if_true, if_false, ite_true, ite_false, reduceIte, reduceCtorEq]; first | done | assumption | rfl) | assumption | exact z2_eq | exact z1_eq | (simp [zGS, zMS]; first | done | assumption) | rfl) dX4_pass_16 rfl ?_
            refine r_icmp_geN (by omega) (by omega) (r := 184) dX4_pass_17 (by decide) rfl (fun c_17 => ?_) (fun c_17 => ?_)
            · exact absurd c_17 (by omega)
            · refine r_iload_n dX4_pass_20 rfl rfl ?_
              refine r_if_eqB (r := 184) dX4_pass_21 (by decide) rfl (fun c_21 => ?_) (fun c_21 => ?_)
              · exact absurd c_21 (by decide)
              · refine r_aload_n dX4_pass_24 rfl (by first | exact zRv_ref _ | exact zRv_null | exact zRv_rf _ | assumption) rfl ?_
                refine r_gets 1 3 203 lfX4_101 (by first | (simp only [zKS]; first | assumption) | assumption | exact zk_nself _ _ _ | (simp [zKS, zNS, *]; done)) rfl rfl (by first | (simp only [zGS, Nat.reduceEqDiff, OfNat.ofNat_ne_ofNat, false_and, and_false, true_and, and_true, and_self, if_true, if_false, ite_true, ite_false, reduceIte, reduceCtorEq]; first | done | assumption) | assumption | exact z2_eq | (simp [zGS]; first | done | assumption)) dX4_pass_25 rfl ?_
                refine r_iload dX4_pass_28 rfl rfl ?_
                refine r_ialdv i kp rfl (by omega) (by omega) v1 dX4_pass_30 rfl ?_
                refine r_istore (ls' := [_, _, _, _, _, _, _, _]) dX4_pass_31 (Nat.le_of_ble_eq_true rfl) rfl rfl ?_
                refine r_iload dX4_pass_33 rfl rfl ?_
                refine r_bipush dX4_pass_35 kb_9 rfl ?_
                refine r_icmp_ltN (by omega) (by omega) (r := 135) dX4_pass_37 (by decide) rfl (fun c_37 => ?_) (fun c_37 => ?_)
                · exact absurd c_37 (by omega)
                · refine r_iload dX4_pass_40 rfl rfl ?_
                  refine r_bipush dX4_pass_42 kb_9 rfl ?_
                  refine r_isubN (by omega) dX4_pass_44 rfl ?_
                  refine r_istore (ls' := [_, _, _, _, _, _, _, _]) dX4_pass_45 (Nat.le_of_ble_eq_true rfl) rfl rfl ?_
                  refine r_aload_n dX4_pass_47 rfl (zRv_ref _) rfl ?_
                  refine r_bipush dX4_pass_48 kb_6 rfl ?_
                  refine r_iload dX4_pass_50 rfl rfl ?_
                  refine r_iaddN dX4_pass_52 rfl ?_
                  refine r_aload_n dX4_pass_53 rfl (by first | exact zRv_ref _ | exact zRv_null | exact zRv_rf _ | assumption) rfl ?_
                  refine r_callV MX4_find 2 [_, _] lvX4_104 (Or.inl ⟨4, by decide, (by first | (simp only [zKS]; first | assumption) | assumption | exact zk_nself _ _ _ | (simp [zKS, zNS, *]; done)), rfl⟩) (sp_find E sg (d - 1) (x + 7) (6 + (s.1 - 9)) nr (by omega) w x T A DC RG hE1 L hE2 pl hpl) rfl rfl (by first | exact Nat.le_of_ble_eq_true rfl | (simp [zcat_rf, Value.category]; done)) (by omega) (Nat.le_of_eq (Nat.zero_add _)) (Nat.le_of_eq (Nat.zero_add _)) dX4_pass_54 rfl (fun v_ w_ sg_ hq_ => ?_)
                  rw [hf] at hq_
                  obtain ⟨rfl, rfl, rfl⟩ := hq_
                  refine r_astore (ls' := [_, _, _, _, _, _, _, _]) dX4_pass_57 (Nat.le_of_ble_eq_true rfl) (by first | exact zRv_ref _ | exact zRv_null | exact zRv_rf _ | assumption) rfl rfl ?_
                  refine r_aload dX4_pass_59 rfl (by first | exact zRv_ref _ | exact zRv_null | exact zRv_rf _ | assumption) rfl ?_
                  refine r_ifnullR (r := 92) dX4_pass_61 (by decide) rfl (fun c_61 => ?_) (fun a_61 c_61 => ?_)
                  · cases c_61
                  · refine r_aload dX4_pass_64 rfl (by first | exact zRv_ref _ | exact zRv_null | exact zRv_rf _ | assumption) rfl ?_
                    refine r_gets 2 9 309 lfX4_39 (by first | (simp only [zKS]; first | assumption) | assumption | exact zk_nself _ _ _ | (simp [zKS, zNS, *]; done)) rfl rfl (by first | (simp only [zGS, Nat.reduceEqDiff, OfNat.ofNat_ne_ofNat, false_and, and_false, true_and, and_true, and_self, if_true, if_false, ite_true, ite_false, reduceIte, reduceCtorEq]; first | done | assumption) | assumption | exact z2_eq | (simp [zGS]; first | done | assumption)) dX4_pass_66 rfl ?_
                    refine r_gets 7 5 805 lfX4_79 (by first | (simp only [zKS]; first | assumption) | assumption | exact zk_nself _ _ _ | (simp [zKS, zNS, *]; done)) rfl rfl (by first | (simp only [zGS, Nat.reduceEqDiff, OfNat.ofNat_ne_ofNat, false_and, and_false, true_and, and_true, and_self, if_true, if_false, ite_true, ite_false, reduceIte, reduceCtorEq]; first | done | assumption) | assumption | exact z2_eq | (simp [zGS]; first | done | assumption)) dX4_pass_69 rfl ?_
                    refine r_iload dX4_pass_72 rfl rfl ?_
                    refine r_ialdv (s.1 - 9) t6 rfl (by show s.1 - 9 < zln w (A e + 1 + 6); omega) (by omega) n1 dX4_pass_74 rfl ?_
                    refine r_iconst dX4_pass_75 kc_4 rfl ?_
                    refine r_icmp_neN (by omega) (by omega) (r := 92) dX4_pass_76 (by decide) rfl (fun c_76 => ?_) (fun c_76 => ?_)
                    · refine r_aload dX4_pass_92 rfl (by first | exact zRv_ref _ | exact zRv_null | exact zRv_rf _ | assumption) rfl ?_
                      refine r_ifnullR (r := 130) dX4_pass_94 (by decide) rfl (fun c_94 => ?_) (fun a_94 c_94 => ?_)
                      · cases c_94
                      · refine r_aload_n dX4_pass_97 rfl (zRv_ref _) rfl ?_
                        refine r_aload dX4_pass_98 rfl (by first | exact zRv_ref _ | exact zRv_null | exact zRv_rf _ | assumption) rfl ?_
                        refine r_gets 2 9 309 lfX4_39 (by first | (simp only [zKS]; first | assumption) | assumption | exact zk_nself _ _ _ | (simp [zKS, zNS, *]; done)) rfl rfl (by first | (simp only [zGS, Nat.reduceEqDiff, OfNat.ofNat_ne_ofNat, false_and, and_false, true_and, and_true, and_self, if_true, if_false, ite_true, ite_false, reduceIte, reduceCtorEq]; first | done | assumption) | assumption | exact z2_eq | (simp [zGS]; first | done | assumption)) dX4_pass_100 rfl ?_
                        refine r_gets 7 5 805 lfX4_79 (by first | (simp only [zKS]; first | assumption) | assumption | exact zk_nself _ _ _ | (simp [zKS, zNS, *]; done)) rfl rfl (by first | (simp only [zGS, Nat.reduceEqDiff, OfNat.ofNat_ne_ofNat, false_and, and_false, true_and, and_true, and_self, if_true, if_false, ite_true, ite_false, reduceIte, reduceCtorEq]; first | done | assumption) | assumption | exact z2_eq | (simp [zGS]; first | done | assumption)) dX4_pass_103 rfl ?_
                        refine r_iload dX4_pass_106 rfl rfl ?_
                        refine r_ialdv (s.1 - 9) t6 rfl (by show s.1 - 9 < zln w (A e + 1 + 6); omega) (by omega) n1 dX4_pass_108 rfl ?_
                        refine r_aload dX4_pass_109 rfl (by first | exact zRv_ref _ | exact zRv_null | exact zRv_rf _ | assumption) rfl ?_
                        refine r_gets 2 9 309 lfX4_39 (by first | (simp only [zKS]; first | assumption) | assumption | exact zk_nself _ _ _ | (simp [zKS, zNS, *]; done)) rfl rfl (by first | (simp only [zGS, Nat.reduceEqDiff, OfNat.ofNat_ne_ofNat, false_and, and_false, true_and, and_true, and_self, if_true, if_false, ite_true, ite_false, reduceIte, reduceCtorEq]; first | done | assumption) | assumption | exact z2_eq | (simp [zGS]; first | done | assumption)) dX4_pass_111 rfl ?_
                        refine r_gets 7 6 806 lfX4_95 (by first | (simp only [zKS]; first | assumption) | assumption | exact zk_nself _ _ _ | (simp [zKS, zNS, *]; done)) rfl rfl (by first | (simp only [zGS, Nat.reduceEqDiff, OfNat.ofNat_ne_ofNat, false_and, and_false, true_and, and_true, and_self, if_true, if_false, ite_true, ite_false, reduceIte, reduceCtorEq]; first | done | assumption) | assumption | exact z2_eq | (simp [zGS]; first | done | assumption)) dX4_pass_114 rfl ?_
                        refine r_iload dX4_pass_117 rfl rfl ?_
                        refine r_faldv (s.1 - 9) t7 rfl (by show s.1 - 9 < zln w (A e + 1 + 7); omega) (by omega) n2 dX4_pass_119 rfl ?_
                        refine r_callV MX4_push 2 [_, _] lvX4_112 (Or.inl ⟨4, by decide, (by first | (simp only [zKS]; first | assumption) | assumption | exact zk_nself _ _ _ | (simp [zKS, zNS, *]; done)), rfl⟩) (sp_pushS E sg (d - 1) (x + 7) (K e (s.1 - 9)).1 (by omega) (K e (s.1 - 9)).2 w hk0 st hs h15) rfl rfl (by first | exact Nat.le_of_ble_eq_true rfl | (simp [zcat_rf, Value.category]; done)) (by omega) (Nat.le_of_eq (Nat.zero_add _)) (Nat.le_of_eq (Nat.zero_add _)) dX4_pass_120 rfl (fun v_ w_ sg_ hq_ => ?_)
                        rw [hp] at hq_
                        obtain ⟨rfl, hR2, rfl, hst⟩ := hq_
                        refine r_if_eqB (r := 130) dX4_pass_123 (by decide) rfl (fun c_123 => ?_) (fun c_123 => ?_)
                        · refine r_iconst dX4_pass_130 kc_0 rfl ?_
                          refine r_istore_n (ls' := [_, _, _, _, _, _, _, _]) dX4_pass_131 (Nat.le_of_ble_eq_true rfl) rfl rfl ?_
                          refine r_goto (r := 178) dX4_pass_132 (by decide) ?_
                          refine r_iinc (ls' := [_, _, _, _, _, _, _, _]) dX4_pass_178 (Nat.le_of_ble_eq_true rfl) rfl (zinc1 _) rfl rfl ?_
                          refine r_goto (r := 10) dX4_pass_181 (by decide) ?_
                          exact hbad _ _ _ _ hR2
                        · cases c_123
                    · exact absurd c_76 h4
          | some st2 =>
            have hk1 : (K e (s.1 - 9)).1 ≤ 1 := by
              unfold pushS at hp
              split at hp
              · rename_i g
                rw [Bool.and_eq_true, decide_eq_true_eq] at g
                exact g.1
              · cases hp
            obtain ⟨w1, w2⟩ := pushS_ok hp (o2 hk1).n ho
            dsimp only
            refine r_iload dX4_pass_10 rfl rfl ?_
            refine r_aload_n dX4_pass_12 rfl (by first | exact zRv_ref _ | exact zRv_null | exact zRv_rf _ | assumption) rfl ?_
            refine r_gets 1 3 203 lfX4_101 (by first | (simp only [zKS]; first | assumption) | assumption | exact zk_nself _ _ _ | (simp [zKS, zNS, *]; done)) rfl rfl (by first | (simp only [zGS, Nat.reduceEqDiff, OfNat.ofNat_ne_ofNat, false_and, and_false, true_and, and_true, and_self, if_true, if_false, ite_true, ite_false, reduceIte, reduceCtorEq]; first | done | assumption) | assumption | exact z2_eq | (simp [zGS]; first | done | assumption)) dX4_pass_13 rfl ?_
            refine r_alenv 2 (by decide) (by first | (simp only [zKS]; first | assumption) | assumption | exact zk_nself _ _ _ | (simp [zKS, zNS, *]; done)) (by first | (simp only [zGS, zMS, Nat.reduceEqDiff, OfNat.ofNat_ne_ofNat, false_and, and_false, true_and, and_true, and_self, if_true, if_false, ite_true, ite_false, reduceIte, reduceCtorEq]; first | done | assumption | rfl) | assumption | exact z2_eq | exact z1_eq | (simp [zGS, zMS]; first | done | assumption) | rfl) dX4_pass_16 rfl ?_
            refine r_icmp_geN (by omega) (by omega) (r := 184) dX4_pass_17 (by decide) rfl (fun c_17 => ?_) (fun c_17 => ?_)
            · exact absurd c_17 (by omega)
            · refine r_iload_n dX4_pass_20 rfl rfl ?_
              refine r_if_eqB (r := 184) dX4_pass_21 (by decide) rfl (fun c_21 => ?_) (fun c_21 => ?_)
              · exact absurd c_21 (by decide)
              · refine r_aload_n dX4_pass_24 rfl (by first | exact zRv_ref _ | exact zRv_null | exact zRv_rf _ | assumption) rfl ?_
                refine r_gets 1 3 203 lfX4_101 (by first | (simp only [zKS]; first | assumption) | assumption | exact zk_nself _ _ _ | (simp [zKS, zNS, *]; done)) rfl rfl (by first | (simp only [zGS, Nat.reduceEqDiff, OfNat.ofNat_ne_ofNat, false_and, and_false, true_and, and_true, and_self, if_true, if_false, ite_true, ite_false, reduceIte, reduceCtorEq]; first | done | assumption) | assumption | exact z2_eq | (simp [zGS]; first | done | assumption)) dX4_pass_25 rfl ?_
                refine r_iload dX4_pass_28 rfl rfl ?_
                refine r_ialdv i kp rfl (by omega) (by omega) v1 dX4_pass_30 rfl ?_
                refine r_istore (ls' := [_, _, _, _, _, _, _, _]) dX4_pass_31 (Nat.le_of_ble_eq_true rfl) rfl rfl ?_
                refine r_iload dX4_pass_33 rfl rfl ?_
                refine r_bipush dX4_pass_35 kb_9 rfl ?_
                refine r_icmp_ltN (by omega) (by omega) (r := 135) dX4_pass_37 (by decide) rfl (fun c_37 => ?_) (fun c_37 => ?_)
                · exact absurd c_37 (by omega)
                · refine r_iload dX4_pass_40 rfl rfl ?_
                  refine r_bipush dX4_pass_42 kb_9 rfl ?_
                  refine r_isubN (by omega) dX4_pass_44 rfl ?_
                  refine r_istore (ls' := [_, _, _, _, _, _, _, _]) dX4_pass_45 (Nat.le_of_ble_eq_true rfl) rfl rfl ?_
                  refine r_aload_n dX4_pass_47 rfl (zRv_ref _) rfl ?_
                  refine r_bipush dX4_pass_48 kb_6 rfl ?_
                  refine r_iload dX4_pass_50 rfl rfl ?_
                  refine r_iaddN dX4_pass_52 rfl ?_
                  refine r_aload_n dX4_pass_53 rfl (by first | exact zRv_ref _ | exact zRv_null | exact zRv_rf _ | assumption) rfl ?_
                  refine r_callV MX4_find 2 [_, _] lvX4_104 (Or.inl ⟨4, by decide, (by first | (simp only [zKS]; first | assumption) | assumption | exact zk_nself _ _ _ | (simp [zKS, zNS, *]; done)), rfl⟩) (sp_find E sg (d - 1) (x + 7) (6 + (s.1 - 9)) nr (by omega) w x T A DC RG hE1 L hE2 pl hpl) rfl rfl (by first | exact Nat.le_of_ble_eq_true rfl | (simp [zcat_rf, Value.category]; done)) (by omega) (Nat.le_of_eq (Nat.zero_add _)) (Nat.le_of_eq (Nat.zero_add _)) dX4_pass_54 rfl (fun v_ w_ sg_ hq_ => ?_)
                  rw [hf] at hq_
                  obtain ⟨rfl, rfl, rfl⟩ := hq_
                  refine r_astore (ls' := [_, _, _, _, _, _, _, _]) dX4_pass_57 (Nat.le_of_ble_eq_true rfl) (by first | exact zRv_ref _ | exact zRv_null | exact zRv_rf _ | assumption) rfl rfl ?_
                  refine r_aload dX4_pass_59 rfl (by first | exact zRv_ref _ | exact zRv_null | exact zRv_rf _ | assumption) rfl ?_
                  refine r_ifnullR (r := 92) dX4_pass_61 (by decide) rfl (fun c_61 => ?_) (fun a_61 c_61 => ?_)
                  · cases c_61
                  · refine r_aload dX4_pass_64 rfl (by first | exact zRv_ref _ | exact zRv_null | exact zRv_rf _ | assumption) rfl ?_
                    refine r_gets 2 9 309 lfX4_39 (by first | (simp only [zKS]; first | assumption) | assumption | exact zk_nself _ _ _ | (simp [zKS, zNS, *]; done)) rfl rfl (by first | (simp only [zGS, Nat.reduceEqDiff, OfNat.ofNat_ne_ofNat, false_and, and_false, true_and, and_true, and_self, if_true, if_false, ite_true, ite_false, reduceIte, reduceCtorEq]; first | done | assumption) | assumption | exact z2_eq | (simp [zGS]; first | done | assumption)) dX4_pass_66 rfl ?_
                    refine r_gets 7 5 805 lfX4_79 (by first | (simp only [zKS]; first | assumption) | assumption | exact zk_nself _ _ _ | (simp [zKS, zNS, *]; done)) rfl rfl (by first | (simp only [zGS, Nat.reduceEqDiff, OfNat.ofNat_ne_ofNat, false_and, and_false, true_and, and_true, and_self, if_true, if_false, ite_true, ite_false, reduceIte, reduceCtorEq]; first | done | assumption) | assumption | exact z2_eq | (simp [zGS]; first | done | assumption)) dX4_pass_69 rfl ?_
                    refine r_iload dX4_pass_72 rfl rfl ?_
                    refine r_ialdv (s.1 - 9) t6 rfl (by show s.1 - 9 < zln w (A e + 1 + 6); omega) (by omega) n1 dX4_pass_74 rfl ?_
                    refine r_iconst dX4_pass_75 kc_4 rfl ?_
                    refine r_icmp_neN (by omega) (by omega) (r := 92) dX4_pass_76 (by decide) rfl (fun c_76 => ?_) (fun c_76 => ?_)
                    · refine r_aload dX4_pass_92 rfl (by first | exact zRv_ref _ | exact zRv_null | exact zRv_rf _ | assumption) rfl ?_
                      refine r_ifnullR (r := 130) dX4_pass_94 (by decide) rfl (fun c_94 => ?_) (fun a_94 c_94 => ?_)
                      · cases c_94
                      · refine r_aload_n dX4_pass_97 rfl (zRv_ref _) rfl ?_
                        refine r_aload dX4_pass_98 rfl (by first | exact zRv_ref _ | exact zRv_null | exact zRv_rf _ | assumption) rfl ?_
                        refine r_gets 2 9 309 lfX4_39 (by first | (simp only [zKS]; first | assumption) | assumption | exact zk_nself _ _ _ | (simp [zKS, zNS, *]; done)) rfl rfl (by first | (simp only [zGS, Nat.reduceEqDiff, OfNat.ofNat_ne_ofNat, false_and, and_false, true_and, and_true, and_self, if_true, if_false, ite_true, ite_false, reduceIte, reduceCtorEq]; first | done | assumption) | assumption | exact z2_eq | (simp [zGS]; first | done | assumption)) dX4_pass_100 rfl ?_
                        refine r_gets 7 5 805 lfX4_79 (by first | (simp only [zKS]; first | assumption) | assumption | exact zk_nself _ _ _ | (simp [zKS, zNS, *]; done)) rfl rfl (by first | (simp only [zGS, Nat.reduceEqDiff, OfNat.ofNat_ne_ofNat, false_and, and_false, true_and, and_true, and_self, if_true, if_false, ite_true, ite_false, reduceIte, reduceCtorEq]; first | done | assumption) | assumption | exact z2_eq | (simp [zGS]; first | done | assumption)) dX4_pass_103 rfl ?_
                        refine r_iload dX4_pass_106 rfl rfl ?_
                        refine r_ialdv (s.1 - 9) t6 rfl (by show s.1 - 9 < zln w (A e + 1 + 6); omega) (by omega) n1 dX4_pass_108 rfl ?_
                        refine r_aload dX4_pass_109 rfl (by first | exact zRv_ref _ | exact zRv_null | exact zRv_rf _ | assumption) rfl ?_
                        refine r_gets 2 9 309 lfX4_39 (by first | (simp only [zKS]; first | assumption) | assumption | exact zk_nself _ _ _ | (simp [zKS, zNS, *]; done)) rfl rfl (by first | (simp only [zGS, Nat.reduceEqDiff, OfNat.ofNat_ne_ofNat, false_and, and_false, true_and, and_true, and_self, if_true, if_false, ite_true, ite_false, reduceIte, reduceCtorEq]; first | done | assumption) | assumption | exact z2_eq | (simp [zGS]; first | done | assumption)) dX4_pass_111 rfl ?_
                        refine r_gets 7 6 806 lfX4_95 (by first | (simp only [zKS]; first | assumption) | assumption | exact zk_nself _ _ _ | (simp [zKS, zNS, *]; done)) rfl rfl (by first | (simp only [zGS, Nat.reduceEqDiff, OfNat.ofNat_ne_ofNat, false_and, and_false, true_and, and_true, and_self, if_true, if_false, ite_true, ite_false, reduceIte, reduceCtorEq]; first | done | assumption) | assumption | exact z2_eq | (simp [zGS]; first | done | assumption)) dX4_pass_114 rfl ?_
                        refine r_iload dX4_pass_117 rfl rfl ?_
                        refine r_faldv (s.1 - 9) t7 rfl (by show s.1 - 9 < zln w (A e + 1 + 7); omega) (by omega) n2 dX4_pass_119 rfl ?_
                        refine r_callV MX4_push 2 [_, _] lvX4_112 (Or.inl ⟨4, by decide, (by first | (simp only [zKS]; first | assumption) | assumption | exact zk_nself _ _ _ | (simp [zKS, zNS, *]; done)), rfl⟩) (sp_pushS E sg (d - 1) (x + 7) (K e (s.1 - 9)).1 (by omega) (K e (s.1 - 9)).2 w hk0 st hs h15) rfl rfl (by first | exact Nat.le_of_ble_eq_true rfl | (simp [zcat_rf, Value.category]; done)) (by omega) (Nat.le_of_eq (Nat.zero_add _)) (Nat.le_of_eq (Nat.zero_add _)) dX4_pass_120 rfl (fun v_ w_ sg_ hq_ => ?_)
                        rw [hp] at hq_
                        obtain ⟨rfl, hR2, rfl, hst⟩ := hq_
                        refine r_if_eqB (r := 130) dX4_pass_123 (by decide) rfl (fun c_123 => ?_) (fun c_123 => ?_)
                        · cases c_123
                        · refine r_iconst dX4_pass_126 kc_1 rfl ?_
                          refine r_goto (r := 131) dX4_pass_127 (by decide) ?_
                          refine r_istore_n (ls' := [_, _, _, _, _, _, _, _]) dX4_pass_131 (Nat.le_of_ble_eq_true rfl) rfl rfl ?_
                          refine r_goto (r := 178) dX4_pass_132 (by decide) ?_
                          refine r_iinc (ls' := [_, _, _, _, _, _, _, _]) dX4_pass_178 (Nat.le_of_ble_eq_true rfl) rfl (zinc1 _) rfl rfl ?_
                          refine r_goto (r := 10) dX4_pass_181 (by decide) ?_
                          exact hgo _ st2 _ _ _ hR2 (hst st2 rfl) w1 (by rw [w2]; exact hh)
                    · exact absurd c_76 h4
    · rw [if_neg h9]
      cases hp : stepS wanted em whole s st with
      | none =>
        by_cases h3 : s.1 ≤ 3
        · have hp2 : numS wanted em whole s.1 s.2 st = none := by rw [← hp]; unfold stepS; rw [if_pos h3]
          rw [if_pos (Or.inl h3)] at hh
          have h15 : st.length < 15 := by
            by_cases g : st.length < 15
            · exact g
            · rw [if_neg g] at hh; cases hh
          refine r_iload dX4_pass_10 rfl rfl ?_
          refine r_aload_n dX4_pass_12 rfl (by first | exact zRv_ref _ | exact zRv_null | exact zRv_rf _ | assumption) rfl ?_
          refine r_gets 1 3 203 lfX4_101 (by first | (simp only [zKS]; first | assumption) | assumption | exact zk_nself _ _ _ | (simp [zKS, zNS, *]; done)) rfl rfl (by first | (simp only [zGS, Nat.reduceEqDiff, OfNat.ofNat_ne_ofNat, false_and, and_false, true_and, and_true, and_self, if_true, if_false, ite_true, ite_false, reduceIte, reduceCtorEq]; first | done | assumption) | assumption | exact z2_eq | (simp [zGS]; first | done | assumption)) dX4_pass_13 rfl ?_
          refine r_alenv 2 (by decide) (by first | (simp only [zKS]; first | assumption) | assumption | exact zk_nself _ _ _ | (simp [zKS, zNS, *]; done)) (by first | (simp only [zGS, zMS, Nat.reduceEqDiff, OfNat.ofNat_ne_ofNat, false_and, and_false, true_and, and_true, and_self, if_true, if_false, ite_true, ite_false, reduceIte, reduceCtorEq]; first | done | assumption | rfl) | assumption | exact z2_eq | exact z1_eq | (simp [zGS, zMS]; first | done | assumption) | rfl) dX4_pass_16 rfl ?_
          refine r_icmp_geN (by omega) (by omega) (r := 184) dX4_pass_17 (by decide) rfl (fun c_17 => ?_) (fun c_17 => ?_)
          · exact absurd c_17 (by omega)
          · refine r_iload_n dX4_pass_20 rfl rfl ?_
            refine r_if_eqB (r := 184) dX4_pass_21 (by decide) rfl (fun c_21 => ?_) (fun c_21 => ?_)
            · exact absurd c_21 (by decide)
            · refine r_aload_n dX4_pass_24 rfl (by first | exact zRv_ref _ | exact zRv_null | exact zRv_rf _ | assumption) rfl ?_
              refine r_gets 1 3 203 lfX4_101 (by first | (simp only [zKS]; first | assumption) | assumption | exact zk_nself _ _ _ | (simp [zKS, zNS, *]; done)) rfl rfl (by first | (simp only [zGS, Nat.reduceEqDiff, OfNat.ofNat_ne_ofNat, false_and, and_false, true_and, and_true, and_self, if_true, if_false, ite_true, ite_false, reduceIte, reduceCtorEq]; first | done | assumption) | assumption | exact z2_eq | (simp [zGS]; first | done | assumption)) dX4_pass_25 rfl ?_
              refine r_iload dX4_pass_28 rfl rfl ?_
              refine r_ialdv i kp rfl (by omega) (by omega) v1 dX4_pass_30 rfl ?_
              refine r_istore (ls' := [_, _, _, _, _, _, _, _]) dX4_pass_31 (Nat.le_of_ble_eq_true rfl) rfl rfl ?_
              refine r_iload dX4_pass_33 rfl rfl ?_
              refine r_bipush dX4_pass_35 kb_9 rfl ?_
              refine r_icmp_ltN (by omega) (by omega) (r := 135) dX4_pass_37 (by decide) rfl (fun c_37 => ?_) (fun c_37 => ?_)
              · refine r_iload dX4_pass_135 rfl rfl ?_
                refine r_iconst dX4_pass_137 kc_3 rfl ?_
                refine r_icmp_gtN (by omega) (by omega) (r := 158) dX4_pass_138 (by decide) rfl (fun c_138 => ?_) (fun c_138 => ?_)
                · exact absurd c_138 (by omega)
                · refine r_aload_n dX4_pass_141 rfl (zRv_ref _) rfl ?_
                  refine r_iload dX4_pass_142 rfl rfl ?_
                  refine r_aload_n dX4_pass_144 rfl (by first | exact zRv_ref _ | exact zRv_null | exact zRv_rf _ | assumption) rfl ?_
                  refine r_gets 1 4 204 lfX4_116 (by first | (simp only [zKS]; first | assumption) | assumption | exact zk_nself _ _ _ | (simp [zKS, zNS, *]; done)) rfl rfl (by first | (simp only [zGS, Nat.reduceEqDiff, OfNat.ofNat_ne_ofNat, false_and, and_false, true_and, and_true, and_self, if_true, if_false, ite_true, ite_false, reduceIte, reduceCtorEq]; first | done | assumption) | assumption | exact z2_eq | (simp [zGS]; first | done | assumption)) dX4_pass_145 rfl ?_
                  refine r_iload dX4_pass_148 rfl rfl ?_
                  refine r_faldv i kq rfl (by omega) (by omega) v2 dX4_pass_150 rfl ?_
                  refine r_callV MX4_pushNumber 2 [_, _] lvX4_119 (Or.inl ⟨4, by decide, (by first | (simp only [zKS]; first | assumption) | assumption | exact zk_nself _ _ _ | (simp [zKS, zNS, *]; done)), rfl⟩) (sp_pushNumber E sg (d - 1) (x + 7) s.1 wanted (by omega) (by omega) hwt s.2 em whole (hos.2 h3) hem hwh w hk0 hu1 hu2 hu3 st hs h15) rfl rfl (by first | exact Nat.le_of_ble_eq_true rfl | (simp [zcat_rf, Value.category]; done)) (by omega) (Nat.le_of_eq (Nat.zero_add _)) (Nat.le_of_eq (Nat.zero_add _)) dX4_pass_151 rfl (fun v_ w_ sg_ hq_ => ?_)
                  rw [hp2] at hq_
                  obtain ⟨rfl, hR2, rfl, hst⟩ := hq_
                  refine r_istore_n (ls' := [_, _, _, _, _, _, _, _]) dX4_pass_154 (Nat.le_of_ble_eq_true rfl) rfl rfl ?_
                  refine r_goto (r := 178) dX4_pass_155 (by decide) ?_
                  refine r_iinc (ls' := [_, _, _, _, _, _, _, _]) dX4_pass_178 (Nat.le_of_ble_eq_true rfl) rfl (zinc1 _) rfl rfl ?_
                  refine r_goto (r := 10) dX4_pass_181 (by decide) ?_
                  exact hbad _ _ _ _ hR2
              · exact absurd c_37 (by omega)
        · by_cases h4 : s.1 = 4
          · have hp2 : negS st = none := by rw [← hp]; unfold stepS; rw [if_neg h3, if_pos h4]
            refine r_iload dX4_pass_10 rfl rfl ?_
            refine r_aload_n dX4_pass_12 rfl (by first | exact zRv_ref _ | exact zRv_null | exact zRv_rf _ | assumption) rfl ?_
            refine r_gets 1 3 203 lfX4_101 (by first | (simp only [zKS]; first | assumption) | assumption | exact zk_nself _ _ _ | (simp [zKS, zNS, *]; done)) rfl rfl (by first | (simp only [zGS, Nat.reduceEqDiff, OfNat.ofNat_ne_ofNat, false_and, and_false, true_and, and_true, and_self, if_true, if_false, ite_true, ite_false, reduceIte, reduceCtorEq]; first | done | assumption) | assumption | exact z2_eq | (simp [zGS]; first | done | assumption)) dX4_pass_13 rfl ?_
            refine r_alenv 2 (by decide) (by first | (simp only [zKS]; first | assumption) | assumption | exact zk_nself _ _ _ | (simp [zKS, zNS, *]; done)) (by first | (simp only [zGS, zMS, Nat.reduceEqDiff, OfNat.ofNat_ne_ofNat, false_and, and_false, true_and, and_true, and_self, if_true, if_false, ite_true, ite_false, reduceIte, reduceCtorEq]; first | done | assumption | rfl) | assumption | exact z2_eq | exact z1_eq | (simp [zGS, zMS]; first | done | assumption) | rfl) dX4_pass_16 rfl ?_
            refine r_icmp_geN (by omega) (by omega) (r := 184) dX4_pass_17 (by decide) rfl (fun c_17 => ?_) (fun c_17 => ?_)
            · exact absurd c_17 (by omega)
            · refine r_iload_n dX4_pass_20 rfl rfl ?_
              refine r_if_eqB (r := 184) dX4_pass_21 (by decide) rfl (fun c_21 => ?_) (fun c_21 => ?_)
              · exact absurd c_21 (by decide)
              · refine r_aload_n dX4_pass_24 rfl (by first | exact zRv_ref _ | exact zRv_null | exact zRv_rf _ | assumption) rfl ?_
                refine r_gets 1 3 203 lfX4_101 (by first | (simp only [zKS]; first | assumption) | assumption | exact zk_nself _ _ _ | (simp [zKS, zNS, *]; done)) rfl rfl (by first | (simp only [zGS, Nat.reduceEqDiff, OfNat.ofNat_ne_ofNat, false_and, and_false, true_and, and_true, and_self, if_true, if_false, ite_true, ite_false, reduceIte, reduceCtorEq]; first | done | assumption) | assumption | exact z2_eq | (simp [zGS]; first | done | assumption)) dX4_pass_25 rfl ?_
                refine r_iload dX4_pass_28 rfl rfl ?_
                refine r_ialdv i kp rfl (by omega) (by omega) v1 dX4_pass_30 rfl ?_
                refine r_istore (ls' := [_, _, _, _, _, _, _, _]) dX4_pass_31 (Nat.le_of_ble_eq_true rfl) rfl rfl ?_
                refine r_iload dX4_pass_33 rfl rfl ?_
                refine r_bipush dX4_pass_35 kb_9 rfl ?_
                refine r_icmp_ltN (by omega) (by omega) (r := 135) dX4_pass_37 (by decide) rfl (fun c_37 => ?_) (fun c_37 => ?_)
                · refine r_iload dX4_pass_135 rfl rfl ?_
                  refine r_iconst dX4_pass_137 kc_3 rfl ?_
                  refine r_icmp_gtN (by omega) (by omega) (r := 158) dX4_pass_138 (by decide) rfl (fun c_138 => ?_) (fun c_138 => ?_)
                  · refine r_iload dX4_pass_158 rfl rfl ?_
                    refine r_iconst dX4_pass_160 kc_4 rfl ?_
                    refine r_icmp_neN (by omega) (by omega) (r := 171) dX4_pass_161 (by decide) rfl (fun c_161 => ?_) (fun c_161 => ?_)
                    · exact absurd h4 c_161
                    · refine r_aload_n dX4_pass_164 rfl (zRv_ref _) rfl ?_
                      refine r_callV MX4_negate 0 [] lvX4_122 (Or.inl ⟨4, by decide, (by first | (simp only [zKS]; first | assumption) | assumption | exact zk_nself _ _ _ | (simp [zKS, zNS, *]; done)), rfl⟩) (sp_negate E sg (d - 1) (x + 7) w hk0 st hs) rfl rfl (by first | exact Nat.le_of_ble_eq_true rfl | (simp [zcat_rf, Value.category]; done)) (by omega) (Nat.le_of_eq (Nat.zero_add _)) (Nat.le_of_eq (Nat.zero_add _)) dX4_pass_165 rfl (fun v_ w_ sg_ hq_ => ?_)
                      rw [hp2] at hq_
                      obtain ⟨rfl, hR2, rfl, hst⟩ := hq_
                      refine r_goto (r := 177) dX4_pass_168 (by decide) ?_
                      refine r_istore_n (ls' := [_, _, _, _, _, _, _, _]) dX4_pass_177 (Nat.le_of_ble_eq_true rfl) rfl rfl ?_
                      refine r_iinc (ls' := [_, _, _, _, _, _, _, _]) dX4_pass_178 (Nat.le_of_ble_eq_true rfl) rfl (zinc1 _) rfl rfl ?_
                      refine r_goto (r := 10) dX4_pass_181 (by decide) ?_
                      exact hbad _ _ _ _ hR2
                  · exact absurd c_138 (by omega)
                · exact absurd c_37 (by omega)
          · have hp2 : comS s.1 st = none := by rw [← hp]; unfold stepS; rw [if_neg h3, if_neg h4]
            refine r_iload dX4_pass_10 rfl rfl ?_
            refine r_aload_n dX4_pass_12 rfl (by first | exact zRv_ref _ | exact zRv_null | exact zRv_rf _ | assumption) rfl ?_
            refine r_gets 1 3 203 lfX4_101 (by first | (simp only [zKS]; first | assumption) | assumption | exact zk_nself _ _ _ | (simp [zKS, zNS, *]; done)) rfl rfl (by first | (simp only [zGS, Nat.reduceEqDiff, OfNat.ofNat_ne_ofNat, false_and, and_false, true_and, and_true, and_self, if_true, if_false, ite_true, ite_false, reduceIte, reduceCtorEq]; first | done | assumption) | assumption | exact z2_eq | (simp [zGS]; first | done | assumption)) dX4_pass_13 rfl ?_
            refine r_alenv 2 (by decide) (by first | (simp only [zKS]; first | assumption) | assumption | exact zk_nself _ _ _ | (simp [zKS, zNS, *]; done)) (by first | (simp only [zGS, zMS, Nat.reduceEqDiff, OfNat.ofNat_ne_ofNat, false_and, and_false, true_and, and_true, and_self, if_true, if_false, ite_true, ite_false, reduceIte, reduceCtorEq]; first | done | assumption | rfl) | assumption | exact z2_eq | exact z1_eq | (simp [zGS, zMS]; first | done | assumption) | rfl) dX4_pass_16 rfl ?_
            refine r_icmp_geN (by omega) (by omega) (r := 184) dX4_pass_17 (by decide) rfl (fun c_17 => ?_) (fun c_17 => ?_)
            · exact absurd c_17 (by omega)
            · refine r_iload_n dX4_pass_20 rfl rfl ?_
              refine r_if_eqB (r := 184) dX4_pass_21 (by decide) rfl (fun c_21 => ?_) (fun c_21 => ?_)
              · exact absurd c_21 (by decide)
              · refine r_aload_n dX4_pass_24 rfl (by first | exact zRv_ref _ | exact zRv_null | exact zRv_rf _ | assumption) rfl ?_
                refine r_gets 1 3 203 lfX4_101 (by first | (simp only [zKS]; first | assumption) | assumption | exact zk_nself _ _ _ | (simp [zKS, zNS, *]; done)) rfl rfl (by first | (simp only [zGS, Nat.reduceEqDiff, OfNat.ofNat_ne_ofNat, false_and, and_false, true_and, and_true, and_self, if_true, if_false, ite_true, ite_false, reduceIte, reduceCtorEq]; first | done | assumption) | assumption | exact z2_eq | (simp [zGS]; first | done | assumption)) dX4_pass_25 rfl ?_
                refine r_iload dX4_pass_28 rfl rfl ?_
                refine r_ialdv i kp rfl (by omega) (by omega) v1 dX4_pass_30 rfl ?_
                refine r_istore (ls' := [_, _, _, _, _, _, _, _]) dX4_pass_31 (Nat.le_of_ble_eq_true rfl) rfl rfl ?_
                refine r_iload dX4_pass_33 rfl rfl ?_
                refine r_bipush dX4_pass_35 kb_9 rfl ?_
                refine r_icmp_ltN (by omega) (by omega) (r := 135) dX4_pass_37 (by decide) rfl (fun c_37 => ?_) (fun c_37 => ?_)
                · refine r_iload dX4_pass_135 rfl rfl ?_
                  refine r_iconst dX4_pass_137 kc_3 rfl ?_
                  refine r_icmp_gtN (by omega) (by omega) (r := 158) dX4_pass_138 (by decide) rfl (fun c_138 => ?_) (fun c_138 => ?_)
                  · refine r_iload dX4_pass_158 rfl rfl ?_
                    refine r_iconst dX4_pass_160 kc_4 rfl ?_
                    refine r_icmp_neN (by omega) (by omega) (r := 171) dX4_pass_161 (by decide) rfl (fun c_161 => ?_) (fun c_161 => ?_)
                    · refine r_aload_n dX4_pass_171 rfl (zRv_ref _) rfl ?_
                      refine r_iload dX4_pass_172 rfl rfl ?_
                      refine r_callV MX4_combine 1 [_] lvX4_126 (Or.inl ⟨4, by decide, (by first | (simp only [zKS]; first | assumption) | assumption | exact zk_nself _ _ _ | (simp [zKS, zNS, *]; done)), rfl⟩) (sp_combine E sg (d - 1) (x + 7) s.1 (by omega) (by omega) w hk0 st hs ho) rfl rfl (by first | exact Nat.le_of_ble_eq_true rfl | (simp [zcat_rf, Value.category]; done)) (by omega) (Nat.le_of_eq (Nat.zero_add _)) (Nat.le_of_eq (Nat.zero_add _)) dX4_pass_174 rfl (fun v_ w_ sg_ hq_ => ?_)
                      rw [hp2] at hq_
                      obtain ⟨rfl, hR2, rfl, hst⟩ := hq_
                      refine r_istore_n (ls' := [_, _, _, _, _, _, _, _]) dX4_pass_177 (Nat.le_of_ble_eq_true rfl) rfl rfl ?_
                      refine r_iinc (ls' := [_, _, _, _, _, _, _, _]) dX4_pass_178 (Nat.le_of_ble_eq_true rfl) rfl (zinc1 _) rfl rfl ?_
                      refine r_goto (r := 10) dX4_pass_181 (by decide) ?_
                      exact hbad _ _ _ _ hR2
                    · exact absurd c_161 h4
                  · exact absurd c_138 (by omega)
                · exact absurd c_37 (by omega)
      | some st2 =>
        obtain ⟨w1, w2⟩ := stepS_ok hp hos (by omega) hem hwh ho
        dsimp only
        by_cases h3 : s.1 ≤ 3
        · have hp2 : numS wanted em whole s.1 s.2 st = some st2 := by rw [← hp]; unfold stepS; rw [if_pos h3]
          rw [if_pos (Or.inl h3)] at hh
          have h15 : st.length < 15 := by
            by_cases g : st.length < 15
            · exact g
            · rw [if_neg g] at hh; cases hh
          rw [if_pos h15] at hh
          have hh2 : hgt ss st2.length = some 1 := by rw [show st2.length = st.length + 1 by omega]; exact hh
          refine r_iload dX4_pass_10 rfl rfl ?_
          refine r_aload_n dX4_pass_12 rfl (by first | exact zRv_ref _ | exact zRv_null | exact zRv_rf _ | assumption) rfl ?_
          refine r_gets 1 3 203 lfX4_101 (by first | (simp only [zKS]; first | assumption) | assumption | exact zk_nself _ _ _ | (simp [zKS, zNS, *]; done)) rfl rfl (by first | (simp only [zGS, Nat.reduceEqDiff, OfNat.ofNat_ne_ofNat, false_and, and_false, true_and, and_true, and_self, if_true, if_false, ite_true, ite_false, reduceIte, reduceCtorEq]; first | done | assumption) | assumption | exact z2_eq | (simp [zGS]; first | done | assumption)) dX4_pass_13 rfl ?_
          refine r_alenv 2 (by decide) (by first | (simp only [zKS]; first | assumption) | assumption | exact zk_nself _ _ _ | (simp [zKS, zNS, *]; done)) (by first | (simp only [zGS, zMS, Nat.reduceEqDiff, OfNat.ofNat_ne_ofNat, false_and, and_false, true_and, and_true, and_self, if_true, if_false, ite_true, ite_false, reduceIte, reduceCtorEq]; first | done | assumption | rfl) | assumption | exact z2_eq | exact z1_eq | (simp [zGS, zMS]; first | done | assumption) | rfl) dX4_pass_16 rfl ?_
          refine r_icmp_geN (by omega) (by omega) (r := 184) dX4_pass_17 (by decide) rfl (fun c_17 => ?_) (fun c_17 => ?_)
          · exact absurd c_17 (by omega)
          · refine r_iload_n dX4_pass_20 rfl rfl ?_
            refine r_if_eqB (r := 184) dX4_pass_21 (by decide) rfl (fun c_21 => ?_) (fun c_21 => ?_)
            · exact absurd c_21 (by decide)
            · refine r_aload_n dX4_pass_24 rfl (by first | exact zRv_ref _ | exact zRv_null | exact zRv_rf _ | assumption) rfl ?_
              refine r_gets 1 3 203 lfX4_101 (by first | (simp only [zKS]; first | assumption) | assumption | exact zk_nself _ _ _ | (simp [zKS, zNS, *]; done)) rfl rfl (by first | (simp only [zGS, Nat.reduceEqDiff, OfNat.ofNat_ne_ofNat, false_and, and_false, true_and, and_true, and_self, if_true, if_false, ite_true, ite_false, reduceIte, reduceCtorEq]; first | done | assumption) | assumption | exact z2_eq | (simp [zGS]; first | done | assumption)) dX4_pass_25 rfl ?_
              refine r_iload dX4_pass_28 rfl rfl ?_
              refine r_ialdv i kp rfl (by omega) (by omega) v1 dX4_pass_30 rfl ?_
              refine r_istore (ls' := [_, _, _, _, _, _, _, _]) dX4_pass_31 (Nat.le_of_ble_eq_true rfl) rfl rfl ?_
              refine r_iload dX4_pass_33 rfl rfl ?_
              refine r_bipush dX4_pass_35 kb_9 rfl ?_
              refine r_icmp_ltN (by omega) (by omega) (r := 135) dX4_pass_37 (by decide) rfl (fun c_37 => ?_) (fun c_37 => ?_)
              · refine r_iload dX4_pass_135 rfl rfl ?_
                refine r_iconst dX4_pass_137 kc_3 rfl ?_
                refine r_icmp_gtN (by omega) (by omega) (r := 158) dX4_pass_138 (by decide) rfl (fun c_138 => ?_) (fun c_138 => ?_)
                · exact absurd c_138 (by omega)
                · refine r_aload_n dX4_pass_141 rfl (zRv_ref _) rfl ?_
                  refine r_iload dX4_pass_142 rfl rfl ?_
                  refine r_aload_n dX4_pass_144 rfl (by first | exact zRv_ref _ | exact zRv_null | exact zRv_rf _ | assumption) rfl ?_
                  refine r_gets 1 4 204 lfX4_116 (by first | (simp only [zKS]; first | assumption) | assumption | exact zk_nself _ _ _ | (simp [zKS, zNS, *]; done)) rfl rfl (by first | (simp only [zGS, Nat.reduceEqDiff, OfNat.ofNat_ne_ofNat, false_and, and_false, true_and, and_true, and_self, if_true, if_false, ite_true, ite_false, reduceIte, reduceCtorEq]; first | done | assumption) | assumption | exact z2_eq | (simp [zGS]; first | done | assumption)) dX4_pass_145 rfl ?_
                  refine r_iload dX4_pass_148 rfl rfl ?_
                  refine r_faldv i kq rfl (by omega) (by omega) v2 dX4_pass_150 rfl ?_
                  refine r_callV MX4_pushNumber 2 [_, _] lvX4_119 (Or.inl ⟨4, by decide, (by first | (simp only [zKS]; first | assumption) | assumption | exact zk_nself _ _ _ | (simp [zKS, zNS, *]; done)), rfl⟩) (sp_pushNumber E sg (d - 1) (x + 7) s.1 wanted (by omega) (by omega) hwt s.2 em whole (hos.2 h3) hem hwh w hk0 hu1 hu2 hu3 st hs h15) rfl rfl (by first | exact Nat.le_of_ble_eq_true rfl | (simp [zcat_rf, Value.category]; done)) (by omega) (Nat.le_of_eq (Nat.zero_add _)) (Nat.le_of_eq (Nat.zero_add _)) dX4_pass_151 rfl (fun v_ w_ sg_ hq_ => ?_)
                  rw [hp2] at hq_
                  obtain ⟨rfl, hR2, rfl, hst⟩ := hq_
                  refine r_istore_n (ls' := [_, _, _, _, _, _, _, _]) dX4_pass_154 (Nat.le_of_ble_eq_true rfl) rfl rfl ?_
                  refine r_goto (r := 178) dX4_pass_155 (by decide) ?_
                  refine r_iinc (ls' := [_, _, _, _, _, _, _, _]) dX4_pass_178 (Nat.le_of_ble_eq_true rfl) rfl (zinc1 _) rfl rfl ?_
                  refine r_goto (r := 10) dX4_pass_181 (by decide) ?_
                  exact hgo _ st2 _ _ _ hR2 (hst st2 rfl) w1 hh2
              · exact absurd c_37 (by omega)
        · rw [if_neg (by omega)] at hh
          by_cases h4 : s.1 = 4
          · have hp2 : negS st = some st2 := by rw [← hp]; unfold stepS; rw [if_neg h3, if_pos h4]
            rw [if_pos h4] at hh
            have hh2 : hgt ss st2.length = some 1 := by
              rw [show st2.length = st.length by omega]
              split at hh
              · exact hh
              · cases hh
            refine r_iload dX4_pass_10 rfl rfl ?_
            refine r_aload_n dX4_pass_12 rfl (by first | exact zRv_ref _ | exact zRv_null | exact zRv_rf _ | assumption) rfl ?_
            refine r_gets 1 3 203 lfX4_101 (by first | (simp only [zKS]; first | assumption) | assumption | exact zk_nself _ _ _ | (simp [zKS, zNS, *]; done)) rfl rfl (by first | (simp only [zGS, Nat.reduceEqDiff, OfNat.ofNat_ne_ofNat, false_and, and_false, true_and, and_true, and_self, if_true, if_false, ite_true, ite_false, reduceIte, reduceCtorEq]; first | done | assumption) | assumption | exact z2_eq | (simp [zGS]; first | done | assumption)) dX4_pass_13 rfl ?_
            refine r_alenv 2 (by decide) (by first | (simp only [zKS]; first | assumption) | assumption | exact zk_nself _ _ _ | (simp [zKS, zNS, *]; done)) (by first | (simp only [zGS, zMS, Nat.reduceEqDiff, OfNat.ofNat_ne_ofNat, false_and, and_false, true_and, and_true, and_self, if_true, if_false, ite_true, ite_false, reduceIte, reduceCtorEq]; first | done | assumption | rfl) | assumption | exact z2_eq | exact z1_eq | (simp [zGS, zMS]; first | done | assumption) | rfl) dX4_pass_16 rfl ?_
            refine r_icmp_geN (by omega) (by omega) (r := 184) dX4_pass_17 (by decide) rfl (fun c_17 => ?_) (fun c_17 => ?_)
            · exact absurd c_17 (by omega)
            · refine r_iload_n dX4_pass_20 rfl rfl ?_
              refine r_if_eqB (r := 184) dX4_pass_21 (by decide) rfl (fun c_21 => ?_) (fun c_21 => ?_)
              · exact absurd c_21 (by decide)
              · refine r_aload_n dX4_pass_24 rfl (by first | exact zRv_ref _ | exact zRv_null | exact zRv_rf _ | assumption) rfl ?_
                refine r_gets 1 3 203 lfX4_101 (by first | (simp only [zKS]; first | assumption) | assumption | exact zk_nself _ _ _ | (simp [zKS, zNS, *]; done)) rfl rfl (by first | (simp only [zGS, Nat.reduceEqDiff, OfNat.ofNat_ne_ofNat, false_and, and_false, true_and, and_true, and_self, if_true, if_false, ite_true, ite_false, reduceIte, reduceCtorEq]; first | done | assumption) | assumption | exact z2_eq | (simp [zGS]; first | done | assumption)) dX4_pass_25 rfl ?_
                refine r_iload dX4_pass_28 rfl rfl ?_
                refine r_ialdv i kp rfl (by omega) (by omega) v1 dX4_pass_30 rfl ?_
                refine r_istore (ls' := [_, _, _, _, _, _, _, _]) dX4_pass_31 (Nat.le_of_ble_eq_true rfl) rfl rfl ?_
                refine r_iload dX4_pass_33 rfl rfl ?_
                refine r_bipush dX4_pass_35 kb_9 rfl ?_
                refine r_icmp_ltN (by omega) (by omega) (r := 135) dX4_pass_37 (by decide) rfl (fun c_37 => ?_) (fun c_37 => ?_)
                · refine r_iload dX4_pass_135 rfl rfl ?_
                  refine r_iconst dX4_pass_137 kc_3 rfl ?_
                  refine r_icmp_gtN (by omega) (by omega) (r := 158) dX4_pass_138 (by decide) rfl (fun c_138 => ?_) (fun c_138 => ?_)
                  · refine r_iload dX4_pass_158 rfl rfl ?_
                    refine r_iconst dX4_pass_160 kc_4 rfl ?_
                    refine r_icmp_neN (by omega) (by omega) (r := 171) dX4_pass_161 (by decide) rfl (fun c_161 => ?_) (fun c_161 => ?_)
                    · exact absurd h4 c_161
                    · refine r_aload_n dX4_pass_164 rfl (zRv_ref _) rfl ?_
                      refine r_callV MX4_negate 0 [] lvX4_122 (Or.inl ⟨4, by decide, (by first | (simp only [zKS]; first | assumption) | assumption | exact zk_nself _ _ _ | (simp [zKS, zNS, *]; done)), rfl⟩) (sp_negate E sg (d - 1) (x + 7) w hk0 st hs) rfl rfl (by first | exact Nat.le_of_ble_eq_true rfl | (simp [zcat_rf, Value.category]; done)) (by omega) (Nat.le_of_eq (Nat.zero_add _)) (Nat.le_of_eq (Nat.zero_add _)) dX4_pass_165 rfl (fun v_ w_ sg_ hq_ => ?_)
                      rw [hp2] at hq_
                      obtain ⟨rfl, hR2, rfl, hst⟩ := hq_
                      refine r_goto (r := 177) dX4_pass_168 (by decide) ?_
                      refine r_istore_n (ls' := [_, _, _, _, _, _, _, _]) dX4_pass_177 (Nat.le_of_ble_eq_true rfl) rfl rfl ?_
                      refine r_iinc (ls' := [_, _, _, _, _, _, _, _]) dX4_pass_178 (Nat.le_of_ble_eq_true rfl) rfl (zinc1 _) rfl rfl ?_
                      refine r_goto (r := 10) dX4_pass_181 (by decide) ?_
                      exact hgo _ st2 _ _ _ hR2 (hst st2 rfl) w1 hh2
                  · exact absurd c_138 (by omega)
                · exact absurd c_37 (by omega)
          · have hp2 : comS s.1 st = some st2 := by rw [← hp]; unfold stepS; rw [if_neg h3, if_neg h4]
            rw [if_neg h4] at hh
            have hh2 : hgt ss st2.length = some 1 := by
              rw [show st2.length = st.length - 1 by omega]
              split at hh
              · exact hh
              · cases hh
            refine r_iload dX4_pass_10 rfl rfl ?_
            refine r_aload_n dX4_pass_12 rfl (by first | exact zRv_ref _ | exact zRv_null | exact zRv_rf _ | assumption) rfl ?_
            refine r_gets 1 3 203 lfX4_101 (by first | (simp only [zKS]; first | assumption) | assumption | exact zk_nself _ _ _ | (simp [zKS, zNS, *]; done)) rfl rfl (by first | (simp only [zGS, Nat.reduceEqDiff, OfNat.ofNat_ne_ofNat, false_and, and_false, true_and, and_true, and_self, if_true, if_false, ite_true, ite_false, reduceIte, reduceCtorEq]; first | done | assumption) | assumption | exact z2_eq | (simp [zGS]; first | done | assumption)) dX4_pass_13 rfl ?_
            refine r_alenv 2 (by decide) (by first | (simp only [zKS]; first | assumption) | assumption | exact zk_nself _ _ _ | (simp [zKS, zNS, *]; done)) (by first | (simp only [zGS, zMS, Nat.reduceEqDiff, OfNat.ofNat_ne_ofNat, false_and, and_false, true_and, and_true, and_self, if_true, if_false, ite_true, ite_false, reduceIte, reduceCtorEq]; first | done | assumption | rfl) | assumption | exact z2_eq | exact z1_eq | (simp [zGS, zMS]; first | done | assumption) | rfl) dX4_pass_16 rfl ?_
            refine r_icmp_geN (by omega) (by omega) (r := 184) dX4_pass_17 (by decide) rfl (fun c_17 => ?_) (fun c_17 => ?_)
            · exact absurd c_17 (by omega)
            · refine r_iload_n dX4_pass_20 rfl rfl ?_
              refine r_if_eqB (r := 184) dX4_pass_21 (by decide) rfl (fun c_21 => ?_) (fun c_21 => ?_)
              · exact absurd c_21 (by decide)
              · refine r_aload_n dX4_pass_24 rfl (by first | exact zRv_ref _ | exact zRv_null | exact zRv_rf _ | assumption) rfl ?_
                refine r_gets 1 3 203 lfX4_101 (by first | (simp only [zKS]; first | assumption) | assumption | exact zk_nself _ _ _ | (simp [zKS, zNS, *]; done)) rfl rfl (by first | (simp only [zGS, Nat.reduceEqDiff, OfNat.ofNat_ne_ofNat, false_and, and_false, true_and, and_true, and_self, if_true, if_false, ite_true, ite_false, reduceIte, reduceCtorEq]; first | done | assumption) | assumption | exact z2_eq | (simp [zGS]; first | done | assumption)) dX4_pass_25 rfl ?_
                refine r_iload dX4_pass_28 rfl rfl ?_
                refine r_ialdv i kp rfl (by omega) (by omega) v1 dX4_pass_30 rfl ?_
                refine r_istore (ls' := [_, _, _, _, _, _, _, _]) dX4_pass_31 (Nat.le_of_ble_eq_true rfl) rfl rfl ?_
                refine r_iload dX4_pass_33 rfl rfl ?_
                refine r_bipush dX4_pass_35 kb_9 rfl ?_
                refine r_icmp_ltN (by omega) (by omega) (r := 135) dX4_pass_37 (by decide) rfl (fun c_37 => ?_) (fun c_37 => ?_)
                · refine r_iload dX4_pass_135 rfl rfl ?_
                  refine r_iconst dX4_pass_137 kc_3 rfl ?_
                  refine r_icmp_gtN (by omega) (by omega) (r := 158) dX4_pass_138 (by decide) rfl (fun c_138 => ?_) (fun c_138 => ?_)
                  · refine r_iload dX4_pass_158 rfl rfl ?_
                    refine r_iconst dX4_pass_160 kc_4 rfl ?_
                    refine r_icmp_neN (by omega) (by omega) (r := 171) dX4_pass_161 (by decide) rfl (fun c_161 => ?_) (fun c_161 => ?_)
                    · refine r_aload_n dX4_pass_171 rfl (zRv_ref _) rfl ?_
                      refine r_iload dX4_pass_172 rfl rfl ?_
                      refine r_callV MX4_combine 1 [_] lvX4_126 (Or.inl ⟨4, by decide, (by first | (simp only [zKS]; first | assumption) | assumption | exact zk_nself _ _ _ | (simp [zKS, zNS, *]; done)), rfl⟩) (sp_combine E sg (d - 1) (x + 7) s.1 (by omega) (by omega) w hk0 st hs ho) rfl rfl (by first | exact Nat.le_of_ble_eq_true rfl | (simp [zcat_rf, Value.category]; done)) (by omega) (Nat.le_of_eq (Nat.zero_add _)) (Nat.le_of_eq (Nat.zero_add _)) dX4_pass_174 rfl (fun v_ w_ sg_ hq_ => ?_)
                      rw [hp2] at hq_
                      obtain ⟨rfl, hR2, rfl, hst⟩ := hq_
                      refine r_istore_n (ls' := [_, _, _, _, _, _, _, _]) dX4_pass_177 (Nat.le_of_ble_eq_true rfl) rfl rfl ?_
                      refine r_iinc (ls' := [_, _, _, _, _, _, _, _]) dX4_pass_178 (Nat.le_of_ble_eq_true rfl) rfl (zinc1 _) rfl rfl ?_
                      refine r_goto (r := 10) dX4_pass_181 (by decide) ?_
                      exact hgo _ st2 _ _ _ hR2 (hst st2 rfl) w1 hh2
                    · exact absurd c_161 h4
                  · exact absurd c_138 (by omega)
                · exact absurd c_37 (by omega)
theorem sp_pass (E : ZE) (sg : ZM) (d : Nat) (hd : 2 ≤ d) (x nr : Nat) (T : List PEl) (A : Nat → Nat) (DC : Nat → PDecl → Prop) (RG : Nat → Nat → Prop) (L : Nat → Nat → PLd) (K : PKn) (hK : okK K) (wanted : Nat) (hwt : wanted < 2) (em whole : UInt32) (hem : fFin em) (hwh : fFin whole) (oc : Nat) (pl : Nat) (hoc : ∀ e n D', n < 4 → fnd T L (6 + n) (pl + 1) pl = some (e, D') → (K e n).1 = 4 → oc < 96) (hpl : pl < T.length) (a : Nat) (D : PDecl) (hD : DC a D) (hok : okD D) (w : ZW) (hE : passE w x nr T A DC RG L K wanted em whole oc) : CallQ E MX4_pass [.ref (x + 7), .ref a, .ref (A pl)] w sg d 0 0 (passQ (x + 7) A w sg oc (pasS T L K wanted em whole pl D.2.2.2 [])) := by
  have k1 := hE.2.1.1.1
  have hR : rkS (x + 7) w (zsi w 506 (x + 7) (nI 0)) := ⟨rfl, rfl, rfl, fun f b e => by rw [zi_zsi, if_neg (fun q => e ⟨q.2, q.1⟩)], rfl, rfl, fun _ _ => rfl, rfl, fun _ _ => rfl, rfl, rfl⟩
  refine CallQ.of rfl (by simp [Value.category]) (Nat.le_of_ble_eq_true rfl) ?_
  refine r_aload_n dX4_pass_0 rfl (zRv_ref _) rfl ?_
  refine r_iconst dX4_pass_1 kc_0 rfl ?_
  refine r_puti 4 6 506 lfX4_98 (by first | (simp only [zKS]; first | assumption) | assumption | exact zk_nself _ _ _ | (simp [zKS, zNS, *]; done)) rfl rfl rfl (Or.inl rfl) dX4_pass_2 rfl ?_
  refine r_iconst dX4_pass_5 kc_1 rfl ?_
  refine r_istore_n (ls' := [_, _, _, _, _, _, _, _]) dX4_pass_6 (Nat.le_of_ble_eq_true rfl) rfl rfl ?_
  refine r_iconst dX4_pass_7 kc_0 rfl ?_
  refine r_istore (ls' := [_, _, _, _, _, _, _, _]) dX4_pass_8 (Nat.le_of_ble_eq_true rfl) rfl rfl ?_
  exact rpass E sg d hd x nr T A DC RG L K hK wanted hwt em whole hem hwh oc pl hoc hpl a D hD hok w D.2.2.2 0 _ [] _ _ _ rfl (Nat.zero_le _) (hE.s hR) hR ⟨z2_eq, by decide, trivial⟩ (fun _ q => by cases q) hok.1
