/-! ===== the model: work, its loop ===== -/
theorem wk_lk (E : ZE) (mo : Nat) (hm : E.2.2.2.2 = some mo) (w : ZW) (sg : ZM) (d m : Nat) (hd : 1 ≤ d) (hm4 : m < 4) (Q : ZQ) (hq : CallQ E MX10_lookUp [.ref mo, .int (nI (6 + m))] w sg (d - 1) 0 0 Q) (hQ : ∀ v w' sg', Q v w' sg' → v = none ∧ w = w') (x1 x2 x3 x4 x5 : Value) (P : ZPhi) (K : ∀ sg2, Q none w sg2 → RW E MX10_work 46 [some (.ref mo), some x1, some x2, some x3, some x4, some x5, some (.int (nI (m + 4)))] [] w sg2 d 0 0 P) : RW E MX10_work 150 [some (.ref mo), some x1, some x2, some x3, some x4, some x5, some (.int (nI (m + 4)))] [] w sg d 0 0 P := by
  refine r_iload dX10_work_150 rfl rfl ?_
  refine r_iconst dX10_work_152 kc_4 rfl ?_
  refine r_icmp_geN (by omega) (by omega) (r := 267) dX10_work_153 (by decide) rfl (fun c_153 => ?_) (fun c_153 => ?_)
  · refine r_iload dX10_work_267 rfl rfl ?_
    refine r_bipush dX10_work_269 kb_8 rfl ?_
    refine r_icmp_geN (by omega) (by omega) (r := 288) dX10_work_271 (by decide) rfl (fun c_271 => ?_) (fun c_271 => ?_)
    · exact absurd c_271 (by omega)
    · refine r_aload_n dX10_work_274 rfl (zRv_ref _) rfl ?_
      refine r_iload dX10_work_275 rfl rfl ?_
      refine r_iconst dX10_work_277 kc_4 rfl ?_
      refine r_isubN (by omega) dX10_work_278 rfl ?_
      refine r_bipush dX10_work_279 kb_6 rfl ?_
      refine r_iaddN dX10_work_281 rfl ?_
      rw [show m + 4 - 4 + 6 = 6 + m by omega]
      refine r_callV MX10_lookUp 1 [_] lvX10_350 (Or.inr (Or.inl ⟨hm, rfl⟩)) (hq) rfl rfl (by first | exact Nat.le_of_ble_eq_true rfl | (simp [zcat_rf, Value.category]; done)) (by omega) (Nat.le_of_eq (Nat.zero_add _)) (Nat.le_of_eq (Nat.zero_add _)) dX10_work_282 rfl (fun v_ w_ sg_ hq_ => ?_)
      obtain ⟨rfl, rfl⟩ := hQ _ _ _ hq_
      refine r_goto (r := 327) dX10_work_285 (by decide) ?_
      refine r_goto (r := 46) dX10_work_327 (by decide) ?_
      exact K _ hq_
  · exact absurd c_153 (by omega)
theorem wk_end (E : ZE) (mo : Nat) (hm : E.2.2.2.2 = some mo) (w : ZW) (sg : ZM) (d : Nat) (hd : 1 ≤ d) (Q : ZQ) (hq : CallQ E MX10_endSum [.ref mo] w sg (d - 1) 0 0 Q) (hQ : ∀ v w' sg', Q v w' sg' → v = none ∧ w = w') (ls : List (Option Value)) (x0 : Value) (hx0 : x0 = .ref mo) (x1 x2 x3 x4 x5 x6 : Value) (P : ZPhi) (K : ∀ sg2, Q none w sg2 → RW E MX10_work 46 [some (.ref mo), some x1, some x2, some x3, some x4, some x5, some x6] [] w sg2 d 0 0 P) : RW E MX10_work 143 [some (.ref mo), some x1, some x2, some x3, some x4, some x5, some x6] [] w sg d 0 0 P := by
  refine r_aload_n dX10_work_143 rfl (zRv_ref _) rfl ?_
  refine r_callV MX10_endSum 0 [] lvX10_339 (Or.inr (Or.inl ⟨hm, rfl⟩)) (hq) rfl rfl (by first | exact Nat.le_of_ble_eq_true rfl | (simp [zcat_rf, Value.category]; done)) (by omega) (Nat.le_of_eq (Nat.zero_add _)) (Nat.le_of_eq (Nat.zero_add _)) dX10_work_144 rfl (fun v_ w_ sg_ hq_ => ?_)
  obtain ⟨rfl, rfl⟩ := hQ _ _ _ hq_
  refine r_goto (r := 327) dX10_work_147 (by decide) ?_
  refine r_goto (r := 46) dX10_work_327 (by decide) ?_
  exact K _ hq_
theorem cvC_lo {s : Nat} (h : s ≤ 3) : cvC s = s := if_pos h
theorem cvC_mid {s : Nat} (h : 3 < s) (h2 : s < 9) : cvC s = s + 4 := by
  unfold cvC
  rw [if_neg (by omega), if_pos (by omega)]
theorem cvC_hi {s : Nat} (h : 9 ≤ s) : cvC s = s - 9 + 4 := by
  unfold cvC
  rw [if_neg (by omega), if_neg (by omega)]
  omega
theorem wk_main (E : ZE) (mo : Nat) (hm : E.2.2.2.2 = some mo) (w : ZW) (d e p : Nat) (hd : 18 ≤ d) (T : List PEl) (Rs : List PRule) (B : List Nat) (V : Nat → Nat → UInt32) (hVf : ∀ a b, fFin (V a b)) (sg0 : ZM) (hI0 : mdI sg0 T Rs B) (hS0 : svT sg0 T Rs) (hV0 : vlE sg0 T V e p) (he : e < T.length) (hp : p < 6) (x1 : Value) (P : ZPhi) (n : Nat) (hN : ∀ m, m < n → FRp E mo w d e p T Rs V sg0 x1 P m) : FRp E mo w d e p T Rs V sg0 x1 P n := by
  have h24 := hI0.1.1.1
  have hl16 : Rs.length ≤ 16 := hI0.2.1
  have hem : fFin (emU T V e p) := by
    unfold emU
    split
    · cases tP T e with
      | none => exact fFin_of (x := 1098907648) (by decide)
      | some q => exact hVf q 1
    · exact hVf e 1
  have hwh : fFin (whU T V e p) := by
    unfold whU
    cases tP T e with
    | none => exact fFin_of (x := FP.fconst0) (by decide)
    | some q => exact hVf q p
  intro dp H r i pl slot KS D R pre rest
  induction rest generalizing KS pre with
  | nil =>
    intro st f0 sg x4 x5 x6 h hok h15 hkO hdu hun hH Kb K
    have h0 := h
    obtain ⟨h1, h2, h3, h4, h5, h6, h7, h8, h9, h10, h11, h12⟩ := h
    have hst : st.length = 1 := Option.some.inj h11
    obtain ⟨v, rfl⟩ := List.length_eq_one_iff.mp hst
    have hpre : pre = D.2.2.2 := by rw [h9, List.append_nil]
    subst hpre
    exact K sg KS v f0 x4 x5 x6 h0 hkO (Nat.le_refl _) (fun _ _ q => q) loS.rf
  | cons s rest ih =>
    intro st f0 sg x4 x5 x6 h hok h15 hkO hdu hun hH Kb K
    have h0 := h
    obtain ⟨hB, h48, ⟨f1, f2, f3, f4⟩, ⟨hR, hD, hi⟩, ⟨t1, t2, t3, t4, t5⟩, ⟨h56, h45, hA⟩, hls, hkn, hDD, hrun, hh, hpl⟩ := h
    have hr := (List.getElem?_eq_some_iff.mp hR).1
    have hos := hok s List.mem_cons_self
    have hokr : ∀ z ∈ rest, okSt z := fun z hz => hok z (List.mem_cons_of_mem _ hz)
    have hln : D.2.2.2.length = pre.length + (rest.length + 1) := by rw [hDD, List.length_append, List.length_cons]
    have hsm : s ∈ D.2.2.2 := by rw [hDD]; exact List.mem_append_right _ List.mem_cons_self
    have hq : D.2.2.2[pre.length]? = some s := by rw [hDD, List.getElem?_append_right (Nat.le_refl _), Nat.sub_self]; rfl
    obtain ⟨t6, t7⟩ := t5 _ s hq
    refine wk_hd E mo hm w T Rs _ _ _ sg0 sg d dp H r i pl slot KS D R pre rest s st f0 h0 hos.1 (by omega) (by omega) x1 _ _ x4 x5 x6 P ?_
    obtain ⟨sg1, hs1⟩ : ∃ y, y = msa sg 35 dp (nI (aR R i + pre.length + 1)) := ⟨_, rfl⟩
    have m1 : ∀ j k, ¬ (j = 35 ∧ k = dp) → ma sg1 j k = ma sg j k := fun j k q => by rw [hs1, ma_msa, if_neg q]
    have i35 : ma sg1 35 dp = nI (aR R i + pre.length + 1) := by rw [hs1, ma_msa, if_pos ⟨rfl, rfl⟩]
    have g1 : mg sg1 = mg sg := by rw [hs1]; rfl
    have n1 : mi sg1 = mi sg := by rw [hs1]; rfl
    have hb1 : wB sg sg1 := ⟨fun j _ _ _ _ => by rw [n1], fun j k _ q => m1 j k (by omega), fun j k _ _ _ => by rw [g1]⟩
    have hB1 : wB sg0 sg1 := hB.tr hb1
    have hlo1 : loS sg sg1 dp H := ⟨fun j k a b c => m1 j k (by omega), fun k c => ⟨by rw [g1], m1 33 k (by omega)⟩⟩
    have e45 : mi sg1 45 = nI (H + st.length) := by rw [n1]; exact h45
    have e56 : mi sg1 56 = zb false := by rw [n1]; exact h56
    have e48 : mi sg1 48 = nI (dp + 1) := by rw [n1]; exact h48
    have hA1 : stA sg1 H st := hA.fr (fun k hk => ⟨by rw [g1], m1 33 k (by omega)⟩)
    have hkn1 : knG sg1 KS := hkn.fr (fun x => ⟨m1 _ _ (by omega), by rw [g1], m1 _ _ (by omega)⟩)
    have hI1 := hB1.I hI0
    have hS1 := hB1.S h24 hS0
    have hV1 := hV0.b hB1
    have hst3 : H + st.length + 1 < 3000 := by omega
    have fin : ∀ (sg2 : ZM) (y4 y5 y6 : Option Value), s.1 < 9 → stO sg1 sg2 H (stepS (wantP p) (emU T V e p) (whU T V e p) s st) → RW E MX10_work 46 [some (.ref mo), some x1, some (.int (nI e)), some (.int (nI p)), y4, y5, y6] [] w sg2 d 0 0 P := fun sg2 y4 y5 y6 h9 hO => by
      rw [hs1] at hO
      refine wk_st (mo := mo) hem hwh h0 hos h9 h15 hO (fun q1 q2 q3 q4 => Kb q1 sg2 _ _ _ dp q2 q3 q4 (by omega)) (fun st' hw' hl' hlo => ?_)
      exact ih KS (pre ++ [s]) st' f0 sg2 _ _ _ hw' hokr hl' hkO hdu hun hH Kb (fun sg' KS' v f z4 z5 z6 a1 a2 a3 a4 a5 => K sg' KS' v f z4 z5 z6 a1 a2 a3 a4 (hlo.tr a5))
    rw [← hs1]
    by_cases h3 : s.1 ≤ 3
    · rw [cvC_lo h3]
      refine wk_num E mo hm w sg1 d e p (aR R i + pre.length) H (by omega) T hI1.1 he hp V hV1 hVf s.1 s.2 h3 (hos.2 h3) (by omega) (by rw [g1]; exact t7) st e56 e45 hA1 (by omega) x1 _ P (fun sg2 hO => ?_)
      refine fin sg2 _ _ _ (by omega) ?_
      unfold stepS
      rw [if_pos h3]
      exact hO
    by_cases h8 : s.1 < 9
    · rw [cvC_mid (by omega) h8]
      unfold hgt at hh
      rw [if_neg (by omega)] at hh
      by_cases h4 : s.1 = 4
      · rw [if_pos h4] at hh
        have h1s : 1 ≤ st.length := by
          split at hh
          · assumption
          · cases hh
        rw [h4]
        refine wk_neg E mo hm w sg1 d H st h1s e56 e45 hA1 (by omega) x1 _ _ _ _ P (fun sg2 hO => ?_)
        refine fin sg2 _ _ _ (by omega) ?_
        unfold stepS
        rw [if_neg h3, if_pos h4]
        exact hO
      · rw [if_neg h4] at hh
        have h2s : 2 ≤ st.length := by
          split at hh
          · assumption
          · cases hh
        refine wk_two E mo hm w sg1 d H s.1 (by omega) (by omega) st h2s hls.k e56 e45 hA1 (by omega) x1 _ _ _ _ P (fun sg2 hO => ?_)
        refine fin sg2 _ _ _ (by omega) ?_
        unfold stepS
        rw [if_neg h3, if_neg h4]
        exact hO
    have h9 : 9 ≤ s.1 := by omega
    have hs13 := hos.1
    rw [cvC_hi h9]
    have hl15 : st.length < 15 ∧ hgt rest (st.length + 1) = some 1 := by
      unfold hgt at hh
      rw [if_pos (Or.inr h9)] at hh
      split at hh
      · rename_i q; exact ⟨q, hh⟩
      · cases hh
    obtain ⟨m, hmm⟩ : ∃ m, m = s.1 - 9 := ⟨_, rfl⟩
    rw [← hmm]
    have hm4 : m < 4 := by omega
    have h36 : ma sg1 36 dp = nI pl := (m1 36 dp (by omega)).trans f3
    have hlu := q_lookUp E mo hm w sg1 (d - 1) m dp pl H (by omega) hm4 T Rs B hI1 hS1 e48 (by omega) h36 hpl e56 st e45 hA1 (by omega) KS hkn1 hkO.2
    refine wk_lk E mo hm w sg1 d m (by omega) hm4 _ hlu (fun v w' sg' q => ⟨q.1, q.2.1⟩) x1 _ _ _ _ P (fun sg2 hQ => ?_)
    obtain ⟨-, -, hb2, hQ⟩ := hQ
    have hB2 := hB1.tr hb2
    -- one step by name
    have onev : ∀ g, one2 (wantP p) (emU T V e p) (whU T V e p) (nmE T (ldD T Rs) (wantP p) (emU T V e p) (whU T V e p) pl g) s st = (match nmE T (ldD T Rs) (wantP p) (emU T V e p) (whU T V e p) pl g m with
      | none => none
      | some v => pushS v.1 v.2 st) := fun g => by
      unfold one2
      rw [if_pos h9, ← hmm]
      rfl
    cases hf : fnd T (ldD T Rs) (6 + m) (pl + 1) pl with
    | none =>
      rw [hf] at hQ
      refine Kb (run_fail hDD hrun (fun g _ => ?_)) sg2 _ _ _ dp hB2 hQ.1 hQ.2 (by omega)
      rw [onev]
      unfold nmE
      rw [hf]
    | some x =>
      obtain ⟨p2, D2⟩ := x
      rw [hf] at hQ
      obtain ⟨hp2, hD2s, hQ⟩ := hQ
      have hs0 : 4 * p2 + m < 96 := by omega
      have nmv : ∀ g, nmE T (ldD T Rs) (wantP p) (emU T V e p) (whU T V e p) pl g m = ev T (ldD T Rs) (wantP p) (emU T V e p) (whU T V e p) g D2 p2 := fun g => by
        unfold nmE
        rw [hf]
      have hslot := fnd_slot hf
      have hslot2 : slotD (ldD T Rs) p2 m = some D2 := hslot
      have asks : ∀ f, ev T (ldD T Rs) (wantP p) (emU T V e p) (whU T V e p) (f + 1) D pl ≠ none → ev T (ldD T Rs) (wantP p) (emU T V e p) (whU T V e p) f D2 p2 ≠ none := fun f q => ev_asks q hsm h9 (by rw [← hmm]; exact hf)
      obtain ⟨kk1, kk2⟩ := hkO.1 p2 m D2 hp2 hm4 hslot2
      rcases hQ with ⟨hk, hq1, hq2⟩ | ⟨hk, hO⟩ | ⟨hk, r2, i2, R2, g2, g3, g4, z48, ⟨z45, z56⟩, fr2, tb2, lo2, kn2⟩
      · exact Kb (ev_circ (kk2 hk) asks) sg2 _ _ _ dp hB2 hq1 hq2 (by omega)
      · obtain ⟨fv, hfv⟩ := kk1 hk
        obtain ⟨v, hv⟩ : ∃ v, v = (KS (4 * p2 + m)).2 := ⟨_, rfl⟩
        rw [← hv] at hO hfv
        obtain ⟨v1, v2⟩ := hkO.2 _ hs0 hk
        rw [← hv] at v1 v2
        obtain ⟨hkk, hmt⟩ := hO
        have e48b : mi sg2 48 = nI (dp + 1) := (hkk.1 48 (by decide) (by decide)).trans e48
        cases hps : pushS v.1 v.2 st with
        | none =>
          rw [hps] at hmt
          refine Kb (run_fail hDD hrun (fun g _ => ?_)) sg2 _ _ _ dp hB2 hmt e48b (by omega)
          rw [onev, nmv]
          cases hg : ev T (ldD T Rs) (wantP p) (emU T V e p) (whU T V e p) g D2 p2 with
          | none => rfl
          | some u =>
            rw [ev_det hg hfv]
            exact hps
        | some st' =>
          rw [hps] at hmt
          obtain ⟨a1, a2, a3⟩ := hmt
          obtain ⟨b1, b2⟩ := pushS_ls hps v2.n hls
          have hst' : st'.length = st.length + 1 := by rw [b2]; rfl
          have ma9 : ∀ j k, j ≠ 33 → ma sg2 j k = ma sg1 j k := fun j k q => hkk.2.1 j k (by omega)
          have mg9 : ∀ j k, j ≠ 32 → mg sg2 j k = mg sg1 j k := fun j k q => hkk.2.2 j k (by omega)
          refine ih KS (pre ++ [s]) st' (max f0 fv) sg2 _ _ _ ⟨hB2, e48b, ⟨?_, ?_, ?_, ?_⟩, ⟨hR, hD, hi⟩, ⟨t1, t2, ?_, ?_, fun q z hz => ⟨?_, ?_⟩⟩, ⟨a1, a2, a3⟩, b1, hkk.kn hkn1, by rw [List.append_assoc]; exact hDD, run_step hrun (Nat.le_max_left _ _) ?_, by rw [hst']; exact hl15.2, hpl⟩ hokr (by omega) hkO hdu hun hH Kb (fun sg' KS' v f z4 z5 z6 u1 u2 u3 u4 u5 => K sg' KS' v f z4 z5 z6 u1 u2 u3 u4 ((hlo1.tr (hkk.lo)).tr u5))
          · exact (ma9 _ _ (by decide)).trans ((m1 _ _ (by omega)).trans f1)
          · rw [ma9 _ _ (by decide), i35, List.length_append]
            rfl
          · exact (ma9 _ _ (by decide)).trans ((m1 _ _ (by omega)).trans f3)
          · exact (ma9 _ _ (by decide)).trans ((m1 _ _ (by omega)).trans f4)
          · exact (ma9 _ _ (by decide)).trans ((m1 _ _ (by omega)).trans t3)
          · exact (ma9 _ _ (by decide)).trans ((m1 _ _ (by omega)).trans t4)
          · exact (ma9 _ _ (by decide)).trans ((m1 _ _ (by omega)).trans (t5 q z hz).1)
          · rw [mg9 _ _ (by decide), g1]
            exact (t5 q z hz).2
          · rw [onev, nmv, ev_mono (Nat.le_max_right f0 fv) hfv]
            exact hps
      · have hr2 := (List.getElem?_eq_some_iff.mp g2).1
        have hoD := (hI0.okd g2 g3).2.2 hD2s
        have hun1 : unk (ksPut KS (4 * p2 + m) (1, (0, 0))) + 1 = unk KS := unk_put hs0 hk (by decide)
        have hW2 : wkI T Rs (wantP p) (emU T V e p) (whU T V e p) sg0 sg2 (dp + 1) (H + st.length) r2 i2 p2 (nI (4 * p2 + m)) (ksPut KS (4 * p2 + m) (1, (0, 0))) D2 R2 [] D2.2.2.2 [] 0 := ⟨hB2, z48, fr2, ⟨g2, g3, g4⟩, tb2, ⟨z56.trans e56, z45.trans e45, trivial⟩, fun x hx => (by cases hx), kn2, rfl, rfl, hoD.1, hp2⟩
        have hK2 : kOk T Rs (wantP p) (emU T V e p) (whU T V e p) (ksPut KS (4 * p2 + m) (1, (0, 0))) D2 p2 := by
          refine ⟨fun x n9 D' hx hn9 hsd => ?_, fun x hx h2 => ?_⟩
          · unfold ksPut
            by_cases c : 4 * x + n9 = 4 * p2 + m
            · rw [if_pos c]
              have hxe : x = p2 ∧ n9 = m := by omega
              obtain ⟨rfl, rfl⟩ := hxe
              rw [hslot2] at hsd
              cases hsd
              exact ⟨fun q => absurd q (by decide : ¬ 1 = 2), fun _ => lead2.rf⟩
            · rw [if_neg c]
              obtain ⟨l1, l2⟩ := hkO.1 x n9 D' hx hn9 hsd
              exact ⟨l1, fun q => (l2 q).dn asks⟩
          · unfold ksPut at h2 ⊢
            by_cases c : x = 4 * p2 + m
            · rw [if_pos c] at h2
              exact absurd h2 (by decide : ¬ 1 = 2)
            · rw [if_neg c] at h2 ⊢
              exact hkO.2 x hx h2
        refine hN (n - 1) (by omega) (dp + 1) (H + st.length) r2 i2 p2 (nI (4 * p2 + m)) _ D2 R2 [] D2.2.2.2 [] 0 sg2 _ _ _ hW2 hoD.2.2 (Nat.zero_le _) hK2 (by omega) (by omega) (by omega) (fun q sg' z4 z5 z6 dp' u1 u2 u3 u4 => ?_) (fun sg3 KS3 v f z4 z5 z6 hW3 hK3 hu3 ho3 hl3 => ?_)
        · refine Kb (run_fail hDD hrun (fun g _ => ?_)) sg' z4 z5 z6 dp' u1 u2 u3 u4
          rw [onev, nmv, q g]
        · obtain ⟨c1, c2, ⟨c3, c4, c5, c6⟩, -, ⟨d1, d2, d3, d4, d5⟩, ⟨c7, c8, c9⟩, c10, c11, c12, c13, c14, c15⟩ := hW3
          obtain ⟨v1, v2, -⟩ := c9
          have hvls := c10 v List.mem_cons_self
          have hev : ev T (ldD T Rs) (wantP p) (emU T V e p) (whU T V e p) (f + 1) D2 p2 = some v := by
            rw [ev_run, c13]
            rfl
          refine wk_ov E mo hm w sg3 d (dp + 1) r2 i2 (aR R2 i2 + D2.2.2.2.length) x1 _ _ z4 z5 z6 P D2 R2 c2 (by omega) g4 (by omega) c7 c3 c4 d4 (by omega) (fun y4 y5 y6 => ?_)
          obtain ⟨sg4, hs4⟩ : ∃ y, y = msa sg3 35 (dp + 1) (nI (aR R2 i2 + D2.2.2.2.length + 1)) := ⟨_, rfl⟩
          rw [← hs4]
          have m4 : ∀ j k, ¬ (j = 35 ∧ k = dp + 1) → ma sg4 j k = ma sg3 j k := fun j k q => by rw [hs4, ma_msa, if_neg q]
          have g5 : mg sg4 = mg sg3 := by rw [hs4]; rfl
          have n5 : mi sg4 = mi sg3 := by rw [hs4]; rfl
          have hb4 : wB sg3 sg4 := ⟨fun j _ _ _ _ => by rw [n5], fun j k _ q => m4 j k (by omega), fun j k _ _ _ => by rw [g5]⟩
          have hB4 := c1.tr hb4
          have lo24 : ∀ j k, 34 ≤ j → j ≤ 37 → k < dp + 1 → ma sg4 j k = ma sg1 j k := fun j k a b c => by
            rw [m4 j k (by omega), hl3.1 j k a b c, (lo2 0).1 j k a b c]
          have stk4 : ∀ k, k < H + st.length → mg sg4 32 k = mg sg1 32 k ∧ ma sg4 33 k = ma sg1 33 k := fun k hk => by
            rw [g5, m4 33 k (by omega), (hl3.2 k hk).1, (hl3.2 k hk).2]
            exact (lo2 (H + st.length)).2 k hk
          have he5 := q_endSum E mo hm w sg4 (d - 1) (4 * p2 + m) dp (H + st.length) r i (by omega) T Rs B R D hR hD hi (hB4.I hI0) (by rw [n5]; exact c2) (by omega) ((m4 37 (dp + 1) (by omega)).trans c6) hs0 ((lo24 34 dp (by decide) (by decide) (by omega)).trans ((m1 34 dp (by omega)).trans f1)) (by rw [n5]; exact c8) (by omega) v (by rw [g5]; exact v1) ((m4 33 _ (by omega)).trans v2)
          refine wk_end E mo hm w sg4 d (by omega) _ he5 (fun v w' sg' q => ⟨q.1, q.2.1⟩) [] _ rfl x1 _ _ y4 y5 y6 P (fun sg5 hQ5 => ?_)
          obtain ⟨-, -, k1, k2, ⟨k3, k4⟩, k5, k6, k7⟩ := hQ5
          have hB5 := hB4.tr k1
          have kn5 := k7 KS3 (c11.fr (fun x => ⟨m4 _ _ (by omega), by rw [g5], m4 _ _ (by omega)⟩))
          have hu5 : unk (ksPut KS3 (4 * p2 + m) (2, v)) ≤ unk KS3 := unk_le (show (2 : Nat) ≠ 0 by decide)
          have fr5 : ∀ j, 34 ≤ j → j ≤ 37 → ma sg5 j dp = ma sg1 j dp := fun j a b => ((k6 (dp + 1) 0).1 j dp a b (by omega)).trans (lo24 j dp a b (by omega))
          have lsv : okLs (v :: st) := fun x hx => by
            rcases List.mem_cons.mp hx with rfl | q
            · exact hvls
            · exact hls x q
          have hK5 : kOk T Rs (wantP p) (emU T V e p) (whU T V e p) (ksPut KS3 (4 * p2 + m) (2, v)) D pl := by
            refine ⟨fun x n9 D' hx hn9 hsd => ?_, fun x hx h2 => ?_⟩
            · unfold ksPut
              by_cases c : 4 * x + n9 = 4 * p2 + m
              · rw [if_pos c]
                have hxe : x = p2 ∧ n9 = m := by omega
                obtain ⟨rfl, rfl⟩ := hxe
                rw [hslot2] at hsd
                cases hsd
                exact ⟨fun _ => ⟨f + 1, hev⟩, fun q => absurd q (by decide : ¬ 2 = 1)⟩
              · rw [if_neg c]
                refine ⟨(hK3.1 x n9 D' hx hn9 hsd).1, fun q => ?_⟩
                have q2 := ho3 _ (by omega) q
                unfold ksPut at q2
                rw [if_neg c] at q2
                exact (hkO.1 x n9 D' hx hn9 hsd).2 q2
            · unfold ksPut at h2 ⊢
              by_cases c : x = 4 * p2 + m
              · rw [if_pos c]
                exact ⟨hvls.1, hvls.2.1⟩
              · rw [if_neg c] at h2 ⊢
                exact hK3.2 x hx h2
          have hpv : pushS v.1 v.2 st = some (v :: st) := by
            unfold pushS
            rw [decide_eq_true hvls.1, hvls.2.2]
            rfl
          have lo5 : loS sg sg5 dp H := ⟨fun j k a b c => ((k6 (dp + 1) 0).1 j k a b (by omega)).trans ((lo24 j k a b (by omega)).trans (m1 j k (by omega))), fun k c => ⟨((k6 0 (H + st.length)).2 k (by omega)).1.trans ((stk4 k (by omega)).1.trans (by rw [g1])), ((k6 0 (H + st.length)).2 k (by omega)).2.trans ((stk4 k (by omega)).2.trans (m1 33 k (by omega)))⟩⟩
          refine ih (ksPut KS3 (4 * p2 + m) (2, v)) (pre ++ [s]) (v :: st) (max f0 (f + 1)) sg5 _ _ _ ⟨hB5, k2, ⟨?_, ?_, ?_, ?_⟩, ⟨hR, hD, hi⟩, k5, ⟨k4.trans (by rw [n5]; exact c7), k3.trans (by rw [n5]; exact c8), ?_, ?_, ?_⟩, lsv, kn5, by rw [List.append_assoc]; exact hDD, run_step hrun (Nat.le_max_left _ _) ?_, hl15.2, hpl⟩ hokr (by rw [List.length_cons]; omega) hK5 (by omega) (by omega) hH Kb (fun sg' KS' v' f' z4 z5 z6 u1 u2 u3 u4 u5 => K sg' KS' v' f' z4 z5 z6 u1 u2 (by omega) (fun x hx hx1 => ?_) (lo5.tr u5))
          · exact (fr5 34 (by decide) (by decide)).trans ((m1 _ _ (by omega)).trans f1)
          · rw [fr5 35 (by decide) (by decide), i35, List.length_append]
            rfl
          · exact (fr5 36 (by decide) (by decide)).trans ((m1 _ _ (by omega)).trans f3)
          · exact (fr5 37 (by decide) (by decide)).trans ((m1 _ _ (by omega)).trans f4)
          · rw [((k6 0 (H + st.length + 1)).2 (H + st.length) (by omega)).1, g5]
            exact v1
          · rw [((k6 0 (H + st.length + 1)).2 (H + st.length) (by omega)).2, m4 33 _ (by omega)]
            exact v2
          · exact hA1.fr (fun k hk => ⟨((k6 0 (H + st.length)).2 k hk).1.trans (stk4 k hk).1, ((k6 0 (H + st.length)).2 k hk).2.trans (stk4 k hk).2⟩)
          · rw [onev, nmv, ev_mono (Nat.le_max_right f0 (f + 1)) hev]
            exact hpv
          · have q1 := u4 x hx hx1
            unfold ksPut at q1
            by_cases c : x = 4 * p2 + m
            · rw [if_pos c] at q1
              exact absurd q1 (by decide : ¬ 2 = 1)
            · rw [if_neg c] at q1
              have q2 := ho3 x hx q1
              unfold ksPut at q2
              rw [if_neg c] at q2
              exact q2
theorem wk_all (E : ZE) (mo : Nat) (hm : E.2.2.2.2 = some mo) (w : ZW) (d e p : Nat) (hd : 18 ≤ d) (T : List PEl) (Rs : List PRule) (B : List Nat) (V : Nat → Nat → UInt32) (hVf : ∀ a b, fFin (V a b)) (sg0 : ZM) (hI0 : mdI sg0 T Rs B) (hS0 : svT sg0 T Rs) (hV0 : vlE sg0 T V e p) (he : e < T.length) (hp : p < 6) (x1 : Value) (P : ZPhi) (n : Nat) : FRp E mo w d e p T Rs V sg0 x1 P n := by
  induction n using Nat.strongRecOn with
  | ind n ih => exact wk_main E mo hm w d e p hd T Rs B V hVf sg0 hI0 hS0 hV0 he hp x1 P n ih
