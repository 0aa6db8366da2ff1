/-! ===== the model: work as a whole ===== -/
theorem q_endSum0 (E : ZE) (mo : Nat) (hm : E.2.2.2.2 = some mo) (w : ZW) (sg : ZM) (d : Nat) (h48 : mi sg 48 = nI 1) (hsl : ma sg 37 0 = -1) : CallQ E MX10_endSum [.ref mo] w sg d 0 0 (fun r w' sg' => r = none ∧ w = w' ∧ sg' = msi sg 48 (nI 0)) := by
  refine CallQ.of rfl (by simp [Value.category]) (Nat.le_of_ble_eq_true rfl) ?_
  refine r_aload_n dX10_endSum_0 rfl (zRv_ref _) rfl ?_
  refine r_dup dX10_endSum_1 (by first | rfl | exact zcat_rf _) rfl ?_
  refine m_getiv hm 48 lfX10_328 rfl (by first | (simp only [zGS, zMS, Nat.reduceEqDiff, OfNat.ofNat_ne_ofNat, false_and, and_false, true_and, and_true, and_self, if_true, if_false, ite_true, ite_false, reduceIte, reduceCtorEq]; first | done | assumption | rfl) | assumption | exact z2_eq | exact z1_eq | (simp [zGS, zMS]; first | done | assumption) | rfl) dX10_endSum_2 rfl ?_
  refine r_iconst dX10_endSum_5 kc_1 rfl ?_
  refine r_isubN (by omega) dX10_endSum_6 rfl ?_
  rw [show 1 - 1 = 0 from rfl]
  refine m_puti hm 48 lfX10_328 rfl rfl rfl dX10_endSum_7 rfl ?_
  refine r_aload_n dX10_endSum_10 rfl (zRv_ref _) rfl ?_
  refine m_geta hm 52 37 lfX10_121 rfl (by decide) dX10_endSum_11 rfl ?_
  refine r_aload_n dX10_endSum_14 rfl (zRv_ref _) rfl ?_
  refine m_getiv hm 48 lfX10_328 rfl (by first | (simp only [zGS, zMS, Nat.reduceEqDiff, OfNat.ofNat_ne_ofNat, false_and, and_false, true_and, and_true, and_self, if_true, if_false, ite_true, ite_false, reduceIte, reduceCtorEq]; first | done | assumption | rfl) | assumption | exact z2_eq | exact z1_eq | (simp [zGS, zMS]; first | done | assumption) | rfl) dX10_endSum_15 rfl ?_
  refine m_ialdv hm 37 _ (by decide) (by decide) rfl rfl (by show _ < 100; omega) (by first | (simp only [zGS, zMS, Nat.reduceEqDiff, OfNat.ofNat_ne_ofNat, false_and, and_false, true_and, and_true, and_self, if_true, if_false, ite_true, ite_false, reduceIte, reduceCtorEq]; first | done | assumption | rfl) | assumption | exact z2_eq | exact z1_eq | (simp [zGS, zMS]; first | done | assumption) | rfl) dX10_endSum_18 rfl ?_
  refine r_istore_n (ls' := [_, _]) dX10_endSum_19 (Nat.le_of_ble_eq_true rfl) rfl rfl ?_
  refine r_iload_n dX10_endSum_20 rfl rfl ?_
  refine r_iconst dX10_endSum_21 kc_m1 rfl ?_
  refine r_icmp_eq (r := 66) dX10_endSum_22 (by decide) rfl (fun c_22 => ?_) (fun c_22 => ?_)
  · refine r_aload_n dX10_endSum_66 rfl (zRv_ref _) rfl ?_
    refine m_getiv hm 48 lfX10_328 rfl (by first | (simp only [zGS, zMS, Nat.reduceEqDiff, OfNat.ofNat_ne_ofNat, false_and, and_false, true_and, and_true, and_self, if_true, if_false, ite_true, ite_false, reduceIte, reduceCtorEq]; first | done | assumption | rfl) | assumption | exact z2_eq | exact z1_eq | (simp [zGS, zMS]; first | done | assumption) | rfl) dX10_endSum_67 rfl ?_
    refine r_if_leN (by omega) (r := 91) dX10_endSum_70 (by decide) rfl (fun c_70 => ?_) (fun c_70 => ?_)
    · refine r_vret rfl dX10_endSum_91 ?_
      exact ⟨rfl, rfl, rfl⟩
    · exact absurd c_70 (by decide)
  · exact absurd rfl c_22
theorem wk_18 (E : ZE) (mo : Nat) (hm : E.2.2.2.2 = some mo) (w : ZW) (d : Nat) (x1 x2 x3 : Value) (sg : ZM) (P : ZPhi) (K : ∀ sg', mi sg' = mi sg → mg sg' = mg sg → (∀ j i, j ≠ 38 → ma sg' j i = ma sg j i) → (∀ i, i < 96 → ma sg' 38 i = nI 0) → RW E MX10_work 39 [some (.ref mo), some x1, some x2, some x3, some (.int (nI 96)), none, none] [] w sg' d 0 0 P) : ∀ (m i : Nat) (c : ZM), i + m = 96 → mi c = mi sg → mg c = mg sg → (∀ j k, j ≠ 38 → ma c j k = ma sg j k) → (∀ k, k < i → ma c 38 k = nI 0) → RW E MX10_work 18 [some (.ref mo), some x1, some x2, some x3, some (.int (nI i)), none, none] [] w c d 0 0 P := by
  intro m
  induction m with
  | zero =>
    intro i c hi h1 h2 h3 h4
    have hi2 : i = 96 := by omega
    subst hi2
    refine r_iload dX10_work_18 rfl rfl ?_
    refine r_bipush dX10_work_20 kb_96 rfl ?_
    refine r_icmp_geN (by omega) (by omega) (r := 39) dX10_work_22 (by decide) rfl (fun c_22 => ?_) (fun c_22 => ?_)
    · exact K c h1 h2 h3 h4
    · exact absurd c_22 (by decide)
  | succ m ih =>
    intro i c hi h1 h2 h3 h4
    refine r_iload dX10_work_18 rfl rfl ?_
    refine r_bipush dX10_work_20 kb_96 rfl ?_
    refine r_icmp_geN (by omega) (by omega) (r := 39) dX10_work_22 (by decide) rfl (fun c_22 => ?_) (fun c_22 => ?_)
    · exact absurd c_22 (by omega)
    · refine r_aload_n dX10_work_25 rfl (zRv_ref _) rfl ?_
      refine m_geta hm 53 38 lfX10_124 rfl (by decide) dX10_work_26 rfl ?_
      refine r_iload dX10_work_29 rfl rfl ?_
      refine r_iconst dX10_work_31 kc_0 rfl ?_
      refine m_iast hm 38 _ (by decide) (by decide) rfl rfl (by show _ < 96; omega) dX10_work_32 rfl ?_
      refine r_iinc (ls' := [_, _, _, _, _, _, _]) dX10_work_33 (Nat.le_of_ble_eq_true rfl) rfl (zinc1 _) rfl rfl ?_
      refine r_goto (r := 18) dX10_work_36 (by decide) ?_
      refine ih (i + 1) _ (by omega) h1 h2 (fun j k q => ?_) (fun k hk => ?_)
      · rw [ma_msa, if_neg (fun z => q z.1)]
        exact h3 j k q
      · rw [ma_msa]
        by_cases c9 : k = i
        · rw [if_pos ⟨rfl, c9⟩]
        · rw [if_neg (fun z => c9 z.2)]
          exact h4 k (by omega)
def wkR (T : List PEl) (Rs : List PRule) (V : Nat → Nat → UInt32) (e p : Nat) (D : PDecl) (sg : ZM) (w : ZW) : ZQ := fun v w' sg' => w = w' ∧ wB sg sg' ∧ match evR T (ldD T Rs) (wantP p) (emU T V e p) (whU T V e p) D e with
  | none => v = some (.int (zb false))
  | some u => v = some (.int (zb (decide (u.1 = wantP p)))) ∧ mg sg' 32 0 = u.2
theorem wk_330b (E : ZE) (mo : Nat) (hm : E.2.2.2.2 = some mo) (w : ZW) (sg : ZM) (d dp : Nat) (x1 x2 x3 : Value) (x4 x5 x6 : Option Value) (h56 : mi sg 56 = zb true) (h48 : mi sg 48 = nI (dp + 1)) (hdp : dp < 100) (Q : ZQ) (hQ : Q (some (.int (zb false))) w sg) : RW E MX10_work 46 [some (.ref mo), some x1, some x2, some x3, x4, x5, x6] [] w sg d 0 0 (PN E Q) := by
  refine r_aload_n dX10_work_46 rfl (zRv_ref _) rfl ?_
  refine m_getiv hm 48 lfX10_328 rfl (by first | (simp only [zGS, zMS, Nat.reduceEqDiff, OfNat.ofNat_ne_ofNat, false_and, and_false, true_and, and_true, and_self, if_true, if_false, ite_true, ite_false, reduceIte, reduceCtorEq]; first | done | assumption | rfl) | assumption | exact z2_eq | exact z1_eq | (simp [zGS, zMS]; first | done | assumption) | rfl) dX10_work_47 rfl ?_
  refine r_if_leN (by omega) (r := 330) dX10_work_50 (by decide) rfl (fun c_50 => ?_) (fun c_50 => ?_)
  · exact absurd c_50 (by omega)
  · refine r_aload_n dX10_work_53 rfl (zRv_ref _) rfl ?_
    refine m_getiv hm 56 lfX10_319 rfl (by first | (simp only [zGS, zMS, Nat.reduceEqDiff, OfNat.ofNat_ne_ofNat, false_and, and_false, true_and, and_true, and_self, if_true, if_false, ite_true, ite_false, reduceIte, reduceCtorEq]; first | done | assumption | rfl) | assumption | exact z2_eq | exact z1_eq | (simp [zGS, zMS]; first | done | assumption) | rfl) dX10_work_54 rfl ?_
    refine r_if_neB (r := 330) dX10_work_57 (by decide) rfl (fun c_57 => ?_) (fun c_57 => ?_)
    · refine r_aload_n dX10_work_330 rfl (zRv_ref _) rfl ?_
      refine m_getiv hm 56 lfX10_319 rfl (by first | (simp only [zGS, zMS, Nat.reduceEqDiff, OfNat.ofNat_ne_ofNat, false_and, and_false, true_and, and_true, and_self, if_true, if_false, ite_true, ite_false, reduceIte, reduceCtorEq]; first | done | assumption | rfl) | assumption | exact z2_eq | exact z1_eq | (simp [zGS, zMS]; first | done | assumption) | rfl) dX10_work_331 rfl ?_
      refine r_if_neB (r := 354) dX10_work_334 (by decide) rfl (fun c_334 => ?_) (fun c_334 => ?_)
      · refine r_iconst dX10_work_354 kc_0 rfl ?_
        refine r_zret .boolean rfl rfl dX10_work_355 ?_
        exact hQ
      · cases c_334
    · cases c_57
theorem q_work (E : ZE) (mo : Nat) (hm : E.2.2.2.2 = some mo) (w : ZW) (d e p r i : Nat) (hd : 18 ≤ d) (T : List PEl) (Rs : List PRule) (B : List Nat) (V : Nat → Nat → UInt32) (hVf : ∀ a b, fFin (V a b)) (sg : ZM) (hI : mdI sg T Rs B) (hS : svT sg T Rs) (hV : vlE sg T V e p) (he : e < T.length) (hp : p < 6) (R : PRule) (D : PDecl) (hR : Rs[r]? = some R) (hD : R.2[i]? = some D) (hi : i < 4) (h2 : D.2.1 = 2) : CallQ E MX10_work [.ref mo, .int (nI (4 * r + i)), .int (nI e), .int (nI p)] w sg d 0 0 (wkR T Rs V e p D sg w) := by
  have h24 := hI.1.1.1
  have hoD := (hI.okd hR hD).2.2 h2
  have hr := (List.getElem?_eq_some_iff.mp hR).1
  have hl16 : Rs.length ≤ 16 := hI.2.1
  have hwt := fun s => q_wantsPlain E w s (d - 1) p hp
  have hwp : decide (wantP p = 0) = decide (p = 0 ∨ p = 5) := by
    unfold wantP
    split
    · rename_i c; rw [decide_eq_true c]; rfl
    · rename_i c; rw [decide_eq_false c]; rfl
  have hwp1 : wantP p ≤ 1 := by unfold wantP; split <;> decide
  obtain ⟨s0, hs0⟩ : ∃ y, y = msi (msi (msi sg 45 (nI 0)) 48 (nI 0)) 56 (nI 0) := ⟨_, rfl⟩
  have b0 : wB sg s0 := by
    rw [hs0]
    exact ⟨fun j _ a b c => by rw [mi_msi, if_neg c, mi_msi, if_neg b, mi_msi, if_neg a], fun _ _ _ _ => rfl, fun _ _ _ _ _ => rfl⟩
  have i45 : mi s0 45 = nI 0 := by rw [hs0, mi_msi, if_neg (by decide), mi_msi, if_neg (by decide), mi_msi, if_pos rfl]
  have i48 : mi s0 48 = nI 0 := by rw [hs0, mi_msi, if_neg (by decide), mi_msi, if_pos rfl]
  have i56 : mi s0 56 = zb false := by rw [hs0, mi_msi, if_pos rfl]; rfl
  have key : ∀ s1, mi s1 = mi s0 → mg s1 = mg s0 → (∀ j i, j ≠ 38 → ma s1 j i = ma s0 j i) → (∀ i, i < 96 → ma s1 38 i = nI 0) → RW E MX10_work 39 [some (.ref mo), some (.int (nI (4 * r + i))), some (.int (nI e)), some (.int (nI p)), some (.int (nI 96)), none, none] [] w s1 d 0 0 (PN E (wkR T Rs V e p D sg w)) := fun s1 q1 q2 q3 q4 => by
    have b1 : wB sg s1 := b0.tr ⟨fun j _ _ _ _ => by rw [q1], fun j k _ q => q3 j k (by omega), fun j k _ _ _ => by rw [q2]⟩
    have hI1 := b1.I hI
    have hbg := q_beginSum E mo hm w s1 (d - 1) r i 0 e (by omega) (-1) T Rs B R D hR hD hi hI1 (by rw [q1]; exact i48) (by decide)
    have hkn : knG s1 (fun _ => (0, (0, 0))) := fun s hs => ⟨q4 s hs, (by decide : 0 < 3), fun q => absurd q (by decide : ¬ 0 = 2)⟩
    refine r_aload_n dX10_work_39 rfl (zRv_ref _) rfl ?_
    refine r_iload_n dX10_work_40 rfl rfl ?_
    refine r_iload_n dX10_work_41 rfl rfl ?_
    refine r_iconst dX10_work_42 kc_m1 rfl ?_
    refine r_callV MX10_beginSum 3 [_, _, _] lvX10_335 (Or.inr (Or.inl ⟨hm, rfl⟩)) (hbg) rfl rfl (by first | exact Nat.le_of_ble_eq_true rfl | (simp [zcat_rf, Value.category]; done)) (by omega) (Nat.le_of_eq (Nat.zero_add _)) (Nat.le_of_eq (Nat.zero_add _)) dX10_work_43 rfl (fun v_ w_ sg_ hq_ => ?_)
    obtain ⟨rfl, rfl, e1, e2, ⟨e3, e4⟩, e5, e6, e7, e8⟩ := hq_
    obtain ⟨s2, hs2⟩ : ∃ y, y = sg_ := ⟨_, rfl⟩
    subst hs2
    have b2 := b1.tr e1
    have hun : unk (fun _ => ((0 : Nat), ((0 : Nat), (0 : UInt32)))) ≤ 96 := bcnt_le _ _
    refine wk_all E mo hm w d e p hd T Rs B V hVf sg hI hS hV he hp _ _ 96 0 0 r i e (-1) (fun _ => (0, (0, 0))) D R [] D.2.2.2 [] 0 s2 _ _ _ ⟨b2, e2, e5, ⟨hR, hD, hi⟩, e6, ⟨e4.trans (by rw [q1]; exact i56), e3.trans (by rw [q1]; exact i45), trivial⟩, fun x hx => (by cases hx), e8 _ hkn, rfl, rfl, hoD.1, he⟩ hoD.2.2 (by decide) ⟨fun x n D' _ _ _ => ⟨fun q => absurd q (by decide : ¬ 0 = 2), fun q => absurd q (by decide : ¬ 0 = 1)⟩, fun s _ q => absurd q (by decide : ¬ 0 = 2)⟩ (by omega) hun (by decide) (fun hb sg' y4 y5 y6 dp' u1 u2 u3 u4 => ?_) (fun sg3 KS3 v f y4 y5 y6 hW3 _ _ _ _ => ?_)
    · refine wk_330b E mo hm w sg' d dp' _ _ _ y4 y5 y6 u2 u3 u4 _ ⟨rfl, u1, ?_⟩
      rw [evR_none hb]
    · obtain ⟨c1, c2, ⟨c3, c4, c5, c6⟩, -, ⟨d1, d2, d3, d4, d5⟩, ⟨c7, c8, c9⟩, c10, c11, c12, c13, c14, c15⟩ := hW3
      obtain ⟨v1, v2, -⟩ := c9
      have hvls := c10 v List.mem_cons_self
      have hev : ev T (ldD T Rs) (wantP p) (emU T V e p) (whU T V e p) (f + 1) D e = some v := by
        rw [ev_run, c13]
        rfl
      refine wk_ov E mo hm w sg3 d 0 r i (aR R i + D.2.2.2.length) _ _ _ y4 y5 y6 _ D R c2 (by decide) hi (by omega) c7 c3 c4 d4 (by omega) (fun z4 z5 z6 => ?_)
      obtain ⟨sg4, hs4⟩ : ∃ y, y = msa sg3 35 0 (nI (aR R i + D.2.2.2.length + 1)) := ⟨_, rfl⟩
      rw [← hs4]
      have hb4 : wB sg3 sg4 := by rw [hs4]; exact ⟨fun _ _ _ _ _ => rfl, fun j k _ q => by rw [ma_msa, if_neg (by omega)], fun _ _ _ _ _ => rfl⟩
      have he0 := q_endSum0 E mo hm w sg4 (d - 1) (by rw [hs4]; exact c2) (by rw [hs4, ma_msa, if_neg (by omega)]; exact c6)
      refine wk_end E mo hm w sg4 d (by omega) _ he0 (fun v w' sg' q => ⟨q.1, q.2.1⟩) [] _ rfl _ _ _ z4 z5 z6 _ (fun sg5 hQ5 => ?_)
      have hs5 := hQ5.2.2
      have b5 : wB sg4 sg5 := by rw [hs5]; exact ⟨fun j _ _ q _ => by rw [mi_msi, if_neg q], fun _ _ _ _ => rfl, fun _ _ _ _ _ => rfl⟩
      have j48 : mi sg5 48 = nI 0 := by rw [hs5, mi_msi, if_pos rfl]
      have j56 : mi sg5 56 = zb false := by rw [hs5, mi_msi, if_neg (by decide), hs4]; exact c7
      have j33 : ma sg5 33 0 = zb (decide (v.1 = 0)) := by
        rw [hs5, hs4]
        show ma (msa sg3 35 0 (nI (aR R i + D.2.2.2.length + 1))) 33 0 = _
        rw [ma_msa, if_neg (by omega)]
        exact v2
      have j32 : mg sg5 32 0 = v.2 := by rw [hs5, hs4]; exact v1
      have hbf := (c1.tr hb4).tr b5
      have hvk : decide (v.1 = wantP p) = decide (decide (v.1 = 0) = decide (p = 0 ∨ p = 5)) := by
        rw [← hwp]
        have h01 := hvls.1
        rcases zk01 h01 with q | q <;> rcases zk01 hwp1 with q' | q' <;> rw [q, q'] <;> decide
      have fin : ∀ b, b = decide (v.1 = wantP p) → wkR T Rs V e p D sg w (some (.int (zb b))) w sg5 := fun b hb => by
        refine ⟨rfl, hbf, ?_⟩
        rw [evR_some hev]
        exact ⟨by rw [hb], j32⟩
      have hzz : ∀ x y : Bool, zb x = zb y ↔ x = y := fun x y => by cases x <;> cases y <;> decide
      refine r_aload_n dX10_work_46 rfl (zRv_ref _) rfl ?_
      refine m_getiv hm 48 lfX10_328 rfl (by first | (simp only [zGS, zMS, Nat.reduceEqDiff, OfNat.ofNat_ne_ofNat, false_and, and_false, true_and, and_true, and_self, if_true, if_false, ite_true, ite_false, reduceIte, reduceCtorEq]; first | done | assumption | rfl) | assumption | exact z2_eq | exact z1_eq | (simp [zGS, zMS]; first | done | assumption) | rfl) dX10_work_47 rfl ?_
      refine r_if_leN (by omega) (r := 330) dX10_work_50 (by decide) rfl (fun c_50 => ?_) (fun c_50 => ?_)
      · refine r_aload_n dX10_work_330 rfl (zRv_ref _) rfl ?_
        refine m_getiv hm 56 lfX10_319 rfl (by first | (simp only [zGS, zMS, Nat.reduceEqDiff, OfNat.ofNat_ne_ofNat, false_and, and_false, true_and, and_true, and_self, if_true, if_false, ite_true, ite_false, reduceIte, reduceCtorEq]; first | done | assumption | rfl) | assumption | exact z2_eq | exact z1_eq | (simp [zGS, zMS]; first | done | assumption) | rfl) dX10_work_331 rfl ?_
        refine r_if_neB (r := 354) dX10_work_334 (by decide) rfl (fun c_334 => ?_) (fun c_334 => ?_)
        · cases c_334
        · refine r_aload_n dX10_work_337 rfl (zRv_ref _) rfl ?_
          refine m_geta hm 47 33 lfX10_109 rfl (by decide) dX10_work_338 rfl ?_
          refine r_iconst dX10_work_341 kc_0 rfl ?_
          refine m_zaldv hm 33 _ (by decide) (by decide) rfl rfl (by show _ < 3000; omega) (by first | (simp only [zGS, zMS, Nat.reduceEqDiff, OfNat.ofNat_ne_ofNat, false_and, and_false, true_and, and_true, and_self, if_true, if_false, ite_true, ite_false, reduceIte, reduceCtorEq]; first | done | assumption | rfl) | assumption | exact z2_eq | exact z1_eq | (simp [zGS, zMS]; first | done | assumption) | rfl) dX10_work_342 rfl ?_
          refine r_iload_n dX10_work_343 rfl rfl ?_
          refine r_callS MX10_wantsPlain 1 [_] lsX10_347 (hwt _) rfl rfl (by first | exact Nat.le_of_ble_eq_true rfl | (simp [zcat_rf, Value.category]; done)) (by omega) (Nat.le_of_eq (Nat.zero_add _)) (Nat.le_of_eq (Nat.zero_add _)) dX10_work_344 rfl (fun v_ w_ sg_ hq_ => ?_)
          obtain ⟨rfl, rfl, rfl⟩ := hq_
          refine r_icmp_ne (r := 354) dX10_work_347 (by decide) rfl (fun c_347 => ?_) (fun c_347 => ?_)
          · refine r_iconst dX10_work_354 kc_0 rfl ?_
            refine r_zret .boolean rfl rfl dX10_work_355 ?_
            refine fin false ?_
            rw [hvk, decide_eq_false (fun q => c_347 ((hzz _ _).mpr q))]
          · refine r_iconst dX10_work_350 kc_1 rfl ?_
            refine r_goto (r := 355) dX10_work_351 (by decide) ?_
            refine r_zret .boolean rfl rfl dX10_work_355 ?_
            refine fin true ?_
            rw [hvk, decide_eq_true ((hzz _ _).mp c_347)]
      · exact absurd c_50 (by decide)
  refine CallQ.of rfl (by simp [Value.category]) (Nat.le_of_ble_eq_true rfl) ?_
  refine r_aload_n dX10_work_0 rfl (zRv_ref _) rfl ?_
  refine r_iconst dX10_work_1 kc_0 rfl ?_
  refine m_puti hm 45 lfX10_324 rfl rfl rfl dX10_work_2 rfl ?_
  refine r_aload_n dX10_work_5 rfl (zRv_ref _) rfl ?_
  refine r_iconst dX10_work_6 kc_0 rfl ?_
  refine m_puti hm 48 lfX10_328 rfl rfl rfl dX10_work_7 rfl ?_
  refine r_aload_n dX10_work_10 rfl (zRv_ref _) rfl ?_
  refine r_iconst dX10_work_11 kc_0 rfl ?_
  refine m_putz hm 56 (by first | exact Or.inl rfl | exact Or.inr rfl | exact zb01 _ | assumption) lfX10_319 rfl rfl rfl dX10_work_12 rfl ?_
  rw [← hs0]
  refine r_iconst dX10_work_15 kc_0 rfl ?_
  refine r_istore (ls' := [_, _, _, _, _, _, _]) dX10_work_16 (Nat.le_of_ble_eq_true rfl) rfl rfl ?_
  exact wk_18 E mo hm w d _ _ _ s0 _ key 96 0 s0 (Nat.zero_add _) rfl rfl (fun _ _ _ => rfl) (fun k hk => absurd hk (Nat.not_lt_zero k))
