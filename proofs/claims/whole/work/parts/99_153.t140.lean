/-! ===== the model: fontOf, handed, beginSum, endSum ===== -/
/-- the values that stand for e and p's needs -/
def vlE (sg : ZM) (T : List PEl) (V : Nat → Nat → UInt32) (e p : Nat) : Prop := (∀ q, tP T e = some q → mg sg 31 (6 * q + p) = V q p ∧ mg sg 31 (6 * q + 1) = V q 1) ∧ (p ≠ 1 → mg sg 31 (6 * e + 1) = V e 1)
theorem vlE.b {a b : ZM} {T : List PEl} {V : Nat → Nat → UInt32} {e p : Nat} (h : vlE a T V e p) (k : wB a b) : vlE b T V e p := by
  obtain ⟨h1, h2⟩ := h
  refine ⟨fun q hq => ?_, fun hp => ?_⟩
  · rw [k.2.2 31 _ (by decide) (by decide) (by decide), k.2.2 31 _ (by decide) (by decide) (by decide)]
    exact h1 q hq
  · rw [k.2.2 31 _ (by decide) (by decide) (by decide)]
    exact h2 hp
theorem q_fontOf (E : ZE) (mo : Nat) (hm : E.2.2.2.2 = some mo) (w : ZW) (sg : ZM) (d e p : Nat) (T : List PEl) (hT : mTree sg T) (he : e < T.length) (hp : p < 6) (V : Nat → Nat → UInt32) (hV : vlE sg T V e p) : CallQ E MX10_fontOf [.ref mo, .int (nI e), .int (nI p)] w sg d 0 0 (fun v w' sg' => v = some (.float (emU T V e p)) ∧ w = w' ∧ sg = sg') := by
  obtain ⟨hw, h1, h2⟩ := hT
  have h24 := hw.1
  obtain ⟨a1, -⟩ := h2 e he
  obtain ⟨v1, v2⟩ := hV
  refine CallQ.of rfl (by simp [Value.category]) (Nat.le_of_ble_eq_true rfl) ?_
  unfold emU
  by_cases hp1 : p = 1
  · rw [if_pos hp1]
    cases hq : tP T e with
    | none =>
      rw [parI_n hq] at a1
      refine r_iload_n dX10_fontOf_0 rfl rfl ?_
      refine r_iconst dX10_fontOf_1 kc_1 rfl ?_
      refine r_icmp_eqN (by omega) (by omega) (r := 17) dX10_fontOf_2 (by decide) rfl (fun c_2 => ?_) (fun c_2 => ?_)
      · refine r_aload_n dX10_fontOf_17 rfl (zRv_ref _) rfl ?_
        refine m_geta hm 2 1 lfX10_7 rfl (by decide) dX10_fontOf_18 rfl ?_
        refine r_iload_n dX10_fontOf_21 rfl rfl ?_
        refine m_ialdv hm 1 _ (by decide) (by decide) rfl rfl (by show _ < 24; omega) (by first | (simp only [zGS, zMS, Nat.reduceEqDiff, OfNat.ofNat_ne_ofNat, false_and, and_false, true_and, and_true, and_self, if_true, if_false, ite_true, ite_false, reduceIte, reduceCtorEq]; first | done | assumption | rfl) | assumption | exact z2_eq | exact z1_eq | (simp [zGS, zMS]; first | done | assumption) | rfl) dX10_fontOf_22 rfl ?_
        refine r_iconst dX10_fontOf_23 kc_m1 rfl ?_
        refine r_icmp_ne (r := 33) dX10_fontOf_24 (by decide) rfl (fun c_24 => ?_) (fun c_24 => ?_)
        · exact absurd rfl c_24
        · refine r_ldcwf dX10_fontOf_27 tw_1327 rfl ?_
          refine r_goto (r := 49) dX10_fontOf_30 (by decide) ?_
          refine r_fret rfl dX10_fontOf_49 ?_
          exact ⟨rfl, rfl, rfl⟩
      · exact absurd hp1 c_2
    | some q =>
      rw [parI_s hq] at a1
      have hqe := hw.2.1 e q hq
      have v3 := (v1 q hq).2
      refine r_iload_n dX10_fontOf_0 rfl rfl ?_
      refine r_iconst dX10_fontOf_1 kc_1 rfl ?_
      refine r_icmp_eqN (by omega) (by omega) (r := 17) dX10_fontOf_2 (by decide) rfl (fun c_2 => ?_) (fun c_2 => ?_)
      · refine r_aload_n dX10_fontOf_17 rfl (zRv_ref _) rfl ?_
        refine m_geta hm 2 1 lfX10_7 rfl (by decide) dX10_fontOf_18 rfl ?_
        refine r_iload_n dX10_fontOf_21 rfl rfl ?_
        refine m_ialdv hm 1 _ (by decide) (by decide) rfl rfl (by show _ < 24; omega) (by first | (simp only [zGS, zMS, Nat.reduceEqDiff, OfNat.ofNat_ne_ofNat, false_and, and_false, true_and, and_true, and_self, if_true, if_false, ite_true, ite_false, reduceIte, reduceCtorEq]; first | done | assumption | rfl) | assumption | exact z2_eq | exact z1_eq | (simp [zGS, zMS]; first | done | assumption) | rfl) dX10_fontOf_22 rfl ?_
        refine r_iconst dX10_fontOf_23 kc_m1 rfl ?_
        refine r_icmp_ne (r := 33) dX10_fontOf_24 (by decide) rfl (fun c_24 => ?_) (fun c_24 => ?_)
        · refine r_aload_n dX10_fontOf_33 rfl (zRv_ref _) rfl ?_
          refine m_geta hm 43 31 lfX10_103 rfl (by decide) dX10_fontOf_34 rfl ?_
          refine r_bipush dX10_fontOf_37 kb_6 rfl ?_
          refine r_aload_n dX10_fontOf_39 rfl (zRv_ref _) rfl ?_
          refine m_geta hm 2 1 lfX10_7 rfl (by decide) dX10_fontOf_40 rfl ?_
          refine r_iload_n dX10_fontOf_43 rfl rfl ?_
          refine m_ialdv hm 1 _ (by decide) (by decide) rfl rfl (by show _ < 24; omega) (by first | (simp only [zGS, zMS, Nat.reduceEqDiff, OfNat.ofNat_ne_ofNat, false_and, and_false, true_and, and_true, and_self, if_true, if_false, ite_true, ite_false, reduceIte, reduceCtorEq]; first | done | assumption | rfl) | assumption | exact z2_eq | exact z1_eq | (simp [zGS, zMS]; first | done | assumption) | rfl) dX10_fontOf_44 rfl ?_
          refine r_imulN dX10_fontOf_45 rfl ?_
          refine r_iconst dX10_fontOf_46 kc_1 rfl ?_
          refine r_iaddN dX10_fontOf_47 rfl ?_
          refine m_faldv hm 31 _ (by decide) (by decide) rfl rfl (by show _ < 144; omega) (by first | (simp only [zGS, zMS, Nat.reduceEqDiff, OfNat.ofNat_ne_ofNat, false_and, and_false, true_and, and_true, and_self, if_true, if_false, ite_true, ite_false, reduceIte, reduceCtorEq]; first | done | assumption | rfl) | assumption | exact z2_eq | exact z1_eq | (simp [zGS, zMS]; first | done | assumption) | rfl) dX10_fontOf_48 rfl ?_
          refine r_fret rfl dX10_fontOf_49 ?_
          exact ⟨rfl, rfl, rfl⟩
        · exact absurd c_24 (nI_neg (by omega))
      · exact absurd hp1 c_2
  · rw [if_neg hp1]
    have v3 := v2 hp1
    refine r_iload_n dX10_fontOf_0 rfl rfl ?_
    refine r_iconst dX10_fontOf_1 kc_1 rfl ?_
    refine r_icmp_eqN (by omega) (by omega) (r := 17) dX10_fontOf_2 (by decide) rfl (fun c_2 => ?_) (fun c_2 => ?_)
    · exact absurd c_2 hp1
    · refine r_aload_n dX10_fontOf_5 rfl (zRv_ref _) rfl ?_
      refine m_geta hm 43 31 lfX10_103 rfl (by decide) dX10_fontOf_6 rfl ?_
      refine r_bipush dX10_fontOf_9 kb_6 rfl ?_
      refine r_iload_n dX10_fontOf_11 rfl rfl ?_
      refine r_imulN dX10_fontOf_12 rfl ?_
      refine r_iconst dX10_fontOf_13 kc_1 rfl ?_
      refine r_iaddN dX10_fontOf_14 rfl ?_
      refine m_faldv hm 31 _ (by decide) (by decide) rfl rfl (by show _ < 144; omega) (by first | (simp only [zGS, zMS, Nat.reduceEqDiff, OfNat.ofNat_ne_ofNat, false_and, and_false, true_and, and_true, and_self, if_true, if_false, ite_true, ite_false, reduceIte, reduceCtorEq]; first | done | assumption | rfl) | assumption | exact z2_eq | exact z1_eq | (simp [zGS, zMS]; first | done | assumption) | rfl) dX10_fontOf_15 rfl ?_
      refine r_fret rfl dX10_fontOf_16 ?_
      exact ⟨rfl, rfl, rfl⟩
theorem q_handed (E : ZE) (mo : Nat) (hm : E.2.2.2.2 = some mo) (w : ZW) (sg : ZM) (d e p : Nat) (hd : 1 ≤ d) (T : List PEl) (hT : mTree sg T) (he : e < T.length) (hp : p < 6) (V : Nat → Nat → UInt32) (hV : vlE sg T V e p) : CallQ E MX10_handed [.ref mo, .int (nI e), .int (nI p)] w sg d 0 0 (fun v w' sg' => v = some (.float (inhV T V e p)) ∧ w = w' ∧ sg = sg') := by
  obtain ⟨hw, h1, h2⟩ := hT
  have h24 := hw.1
  obtain ⟨a1, -⟩ := h2 e he
  obtain ⟨v1, v2⟩ := hV
  refine CallQ.of rfl (by simp [Value.category]) (Nat.le_of_ble_eq_true rfl) ?_
  unfold inhV
  cases hq : tP T e with
  | none =>
    rw [parI_n hq] at a1
    refine r_aload_n dX10_handed_0 rfl (zRv_ref _) rfl ?_
    refine m_geta hm 2 1 lfX10_7 rfl (by decide) dX10_handed_1 rfl ?_
    refine r_iload_n dX10_handed_4 rfl rfl ?_
    refine m_ialdv hm 1 _ (by decide) (by decide) rfl rfl (by show _ < 24; omega) (by first | (simp only [zGS, zMS, Nat.reduceEqDiff, OfNat.ofNat_ne_ofNat, false_and, and_false, true_and, and_true, and_self, if_true, if_false, ite_true, ite_false, reduceIte, reduceCtorEq]; first | done | assumption | rfl) | assumption | exact z2_eq | exact z1_eq | (simp [zGS, zMS]; first | done | assumption) | rfl) dX10_handed_5 rfl ?_
    refine r_iconst dX10_handed_6 kc_m1 rfl ?_
    refine r_icmp_ne (r := 17) dX10_handed_7 (by decide) rfl (fun c_7 => ?_) (fun c_7 => ?_)
    · exact absurd rfl c_7
    · refine r_iload_n dX10_handed_10 rfl rfl ?_
      refine r_callS MX10_initial 1 [_] lsX10_356 (q_initial E w sg (d - 1) p hp) rfl rfl (by first | exact Nat.le_of_ble_eq_true rfl | (simp [zcat_rf, Value.category]; done)) (by omega) (Nat.le_of_eq (Nat.zero_add _)) (Nat.le_of_eq (Nat.zero_add _)) dX10_handed_11 rfl (fun v_ w_ sg_ hq_ => ?_)
      obtain ⟨rfl, rfl, rfl⟩ := hq_
      refine r_goto (r := 33) dX10_handed_14 (by decide) ?_
      refine r_fret rfl dX10_handed_33 ?_
      exact ⟨rfl, rfl, rfl⟩
  | some q =>
    rw [parI_s hq] at a1
    have hqe := hw.2.1 e q hq
    have v3 := (v1 q hq).1
    refine r_aload_n dX10_handed_0 rfl (zRv_ref _) rfl ?_
    refine m_geta hm 2 1 lfX10_7 rfl (by decide) dX10_handed_1 rfl ?_
    refine r_iload_n dX10_handed_4 rfl rfl ?_
    refine m_ialdv hm 1 _ (by decide) (by decide) rfl rfl (by show _ < 24; omega) (by first | (simp only [zGS, zMS, Nat.reduceEqDiff, OfNat.ofNat_ne_ofNat, false_and, and_false, true_and, and_true, and_self, if_true, if_false, ite_true, ite_false, reduceIte, reduceCtorEq]; first | done | assumption | rfl) | assumption | exact z2_eq | exact z1_eq | (simp [zGS, zMS]; first | done | assumption) | rfl) dX10_handed_5 rfl ?_
    refine r_iconst dX10_handed_6 kc_m1 rfl ?_
    refine r_icmp_ne (r := 17) dX10_handed_7 (by decide) rfl (fun c_7 => ?_) (fun c_7 => ?_)
    · refine r_aload_n dX10_handed_17 rfl (zRv_ref _) rfl ?_
      refine m_geta hm 43 31 lfX10_103 rfl (by decide) dX10_handed_18 rfl ?_
      refine r_bipush dX10_handed_21 kb_6 rfl ?_
      refine r_aload_n dX10_handed_23 rfl (zRv_ref _) rfl ?_
      refine m_geta hm 2 1 lfX10_7 rfl (by decide) dX10_handed_24 rfl ?_
      refine r_iload_n dX10_handed_27 rfl rfl ?_
      refine m_ialdv hm 1 _ (by decide) (by decide) rfl rfl (by show _ < 24; omega) (by first | (simp only [zGS, zMS, Nat.reduceEqDiff, OfNat.ofNat_ne_ofNat, false_and, and_false, true_and, and_true, and_self, if_true, if_false, ite_true, ite_false, reduceIte, reduceCtorEq]; first | done | assumption | rfl) | assumption | exact z2_eq | exact z1_eq | (simp [zGS, zMS]; first | done | assumption) | rfl) dX10_handed_28 rfl ?_
      refine r_imulN dX10_handed_29 rfl ?_
      refine r_iload_n dX10_handed_30 rfl rfl ?_
      refine r_iaddN dX10_handed_31 rfl ?_
      refine m_faldv hm 31 _ (by decide) (by decide) rfl rfl (by show _ < 144; omega) (by first | (simp only [zGS, zMS, Nat.reduceEqDiff, OfNat.ofNat_ne_ofNat, false_and, and_false, true_and, and_true, and_self, if_true, if_false, ite_true, ite_false, reduceIte, reduceCtorEq]; first | done | assumption | rfl) | assumption | exact z2_eq | exact z1_eq | (simp [zGS, zMS]; first | done | assumption) | rfl) dX10_handed_32 rfl ?_
      refine r_fret rfl dX10_handed_33 ?_
      exact ⟨rfl, rfl, rfl⟩
    · exact absurd c_7 (nI_neg (by omega))
/-- a frame of the sums in work -/
def frR (sg : ZM) (dp r i k pl : Nat) (slot : Int32) : Prop := ma sg 34 dp = nI (4 * r + i) ∧ ma sg 35 dp = nI k ∧ ma sg 36 dp = nI pl ∧ ma sg 37 dp = slot
/-- the rows of frames below dp, the stack below H, what is known: the same -/
def loS (a b : ZM) (dp H : Nat) : Prop := (∀ j i, 34 ≤ j → j ≤ 37 → i < dp → ma b j i = ma a j i) ∧ ∀ i, i < H → mg b 32 i = mg a 32 i ∧ ma b 33 i = ma a 33 i
theorem loS.rf {a : ZM} {dp H : Nat} : loS a a dp H := ⟨fun _ _ _ _ _ => rfl, fun _ _ => ⟨rfl, rfl⟩⟩
theorem loS.tr {a b c : ZM} {dp H : Nat} (h : loS a b dp H) (g : loS b c dp H) : loS a c dp H := ⟨fun j i p q r => (g.1 j i p q r).trans (h.1 j i p q r), fun i q => ⟨(g.2 i q).1.trans (h.2 i q).1, (g.2 i q).2.trans (h.2 i q).2⟩⟩
theorem loS.mono {a b : ZM} {dp H dp' H' : Nat} (h : loS a b dp H) (h1 : dp' ≤ dp) (h2 : H' ≤ H) : loS a b dp' H' := ⟨fun j i p q r => h.1 j i p q (by omega), fun i q => h.2 i (by omega)⟩
theorem rKp.lo {a b : ZM} (h : rKp a b) {dp H : Nat} : loS a b dp H := ⟨fun j i _ _ _ => h.2.1 j i (by omega), fun i _ => ⟨h.2.2 32 i (by decide), h.2.1 33 i (by decide)⟩⟩
theorem wkK.lo {a b : ZM} {H dp : Nat} (h : wkK a b H) : loS a b dp H := ⟨fun j i _ _ _ => h.2.1 j i (by omega), fun i _ => ⟨h.2.2 32 i (by omega), h.2.1 33 i (by omega)⟩⟩
/-- what is known of the named sums: 0 nothing, 1 in work, 2 known -/
def knG (sg : ZM) (KS : Nat → Nat × PVal) : Prop := ∀ s, s < 96 → ma sg 38 s = nI (KS s).1 ∧ (KS s).1 < 3 ∧ ((KS s).1 = 2 → mg sg 39 s = (KS s).2.2 ∧ ma sg 40 s = zb (decide ((KS s).2.1 = 0)))
theorem knG.fr {a b : ZM} {KS : Nat → Nat × PVal} (h : knG a KS) (e : ∀ s, ma b 38 s = ma a 38 s ∧ mg b 39 s = mg a 39 s ∧ ma b 40 s = ma a 40 s) : knG b KS := fun s hs => by
  obtain ⟨h1, h2, h3⟩ := h s hs
  obtain ⟨e1, e2, e3⟩ := e s
  exact ⟨e1.trans h1, h2, fun q => ⟨e2.trans (h3 q).1, e3.trans (h3 q).2⟩⟩
theorem rKp.kn {a b : ZM} {KS : Nat → Nat × PVal} (h : rKp a b) (k : knG a KS) : knG b KS := k.fr (fun s => ⟨h.2.1 38 s (by decide), h.2.2 39 s (by decide), h.2.1 40 s (by decide)⟩)
theorem wkK.kn {a b : ZM} {H : Nat} {KS : Nat → Nat × PVal} (h : wkK a b H) (k : knG a KS) : knG b KS := k.fr (fun s => ⟨h.2.1 38 s (by omega), h.2.2 39 s (by omega), h.2.1 40 s (by omega)⟩)
theorem q_beginSum (E : ZE) (mo : Nat) (hm : E.2.2.2.2 = some mo) (w : ZW) (sg : ZM) (d r i dp pl : Nat) (hd : 16 ≤ d) (slot : Int32) (T : List PEl) (Rs : List PRule) (B : List Nat) (R : PRule) (D : PDecl) (hR : Rs[r]? = some R) (hD : R.2[i]? = some D) (hi : i < 4) (h : mdI sg T Rs B) (h48 : mi sg 48 = nI dp) (hdp : dp < 100) : CallQ E MX10_beginSum [.ref mo, .int (nI (4 * r + i)), .int (nI pl), .int slot] w sg d 0 0 (fun v w' sg' => v = none ∧ w = w' ∧ wB sg sg' ∧ mi sg' 48 = nI (dp + 1) ∧ (mi sg' 45 = mi sg 45 ∧ mi sg' 56 = mi sg 56) ∧ frR sg' dp r i (aR R i) pl slot ∧ tblR sg' R i D ∧ (∀ H, loS sg sg' dp H) ∧ ∀ KS, knG sg KS → knG sg' KS) := by
  have hr := (List.getElem?_eq_some_iff.mp hR).1
  have hl : Rs.length ≤ 16 := h.2.1
  obtain ⟨s1, hs1⟩ : ∃ y, y = msa (msa (msa sg 34 dp (nI (4 * r + i))) 36 dp (nI pl)) 37 dp slot := ⟨_, rfl⟩
  have b1 : wB sg s1 := by
    rw [hs1]
    exact ⟨fun j _ _ _ _ => rfl, fun j k _ q => by rw [ma_msa, if_neg (by omega), ma_msa, if_neg (by omega), ma_msa, if_neg (by omega)], fun j k _ _ _ => rfl⟩
  have i48 : mi s1 48 = nI dp := by rw [hs1]; exact h48
  have hrd := q_readK E mo hm w s1 (d - 1) r (by omega) T Rs B R hR (b1.I h)
  refine CallQ.of rfl (by simp [Value.category]) (Nat.le_of_ble_eq_true rfl) ?_
  refine r_aload_n dX10_beginSum_0 rfl (zRv_ref _) rfl ?_
  refine m_geta hm 49 34 lfX10_112 rfl (by decide) dX10_beginSum_1 rfl ?_
  refine r_aload_n dX10_beginSum_4 rfl (zRv_ref _) rfl ?_
  refine m_getiv hm 48 lfX10_328 rfl (by first | (simp only [zGS, zMS, Nat.reduceEqDiff, OfNat.ofNat_ne_ofNat, false_and, and_false, true_and, and_true, and_self, if_true, if_false, ite_true, ite_false, reduceIte, reduceCtorEq]; first | done | assumption | rfl) | assumption | exact z2_eq | exact z1_eq | (simp [zGS, zMS]; first | done | assumption) | rfl) dX10_beginSum_5 rfl ?_
  refine r_iload_n dX10_beginSum_8 rfl rfl ?_
  refine m_iast hm 34 _ (by decide) (by decide) rfl rfl (by show _ < 100; omega) dX10_beginSum_9 rfl ?_
  refine r_aload_n dX10_beginSum_10 rfl (zRv_ref _) rfl ?_
  refine m_geta hm 51 36 lfX10_118 rfl (by decide) dX10_beginSum_11 rfl ?_
  refine r_aload_n dX10_beginSum_14 rfl (zRv_ref _) rfl ?_
  refine m_getiv hm 48 lfX10_328 rfl (by first | (simp only [zGS, zMS, Nat.reduceEqDiff, OfNat.ofNat_ne_ofNat, false_and, and_false, true_and, and_true, and_self, if_true, if_false, ite_true, ite_false, reduceIte, reduceCtorEq]; first | done | assumption | rfl) | assumption | exact z2_eq | exact z1_eq | (simp [zGS, zMS]; first | done | assumption) | rfl) dX10_beginSum_15 rfl ?_
  refine r_iload_n dX10_beginSum_18 rfl rfl ?_
  refine m_iast hm 36 _ (by decide) (by decide) rfl rfl (by show _ < 100; omega) dX10_beginSum_19 rfl ?_
  refine r_aload_n dX10_beginSum_20 rfl (zRv_ref _) rfl ?_
  refine m_geta hm 52 37 lfX10_121 rfl (by decide) dX10_beginSum_21 rfl ?_
  refine r_aload_n dX10_beginSum_24 rfl (zRv_ref _) rfl ?_
  refine m_getiv hm 48 lfX10_328 rfl (by first | (simp only [zGS, zMS, Nat.reduceEqDiff, OfNat.ofNat_ne_ofNat, false_and, and_false, true_and, and_true, and_self, if_true, if_false, ite_true, ite_false, reduceIte, reduceCtorEq]; first | done | assumption | rfl) | assumption | exact z2_eq | exact z1_eq | (simp [zGS, zMS]; first | done | assumption) | rfl) dX10_beginSum_25 rfl ?_
  refine r_iload_n dX10_beginSum_28 rfl rfl ?_
  refine m_iast hm 37 _ (by decide) (by decide) rfl rfl (by show _ < 100; omega) dX10_beginSum_29 rfl ?_
  refine r_aload_n dX10_beginSum_30 rfl (zRv_ref _) rfl ?_
  refine r_iload_n dX10_beginSum_31 rfl rfl ?_
  refine r_iconst dX10_beginSum_32 kc_4 rfl ?_
  rw [← hs1]
  refine r_idivN (by omega) (by omega) (by omega) dX10_beginSum_33 rfl ?_
  rw [show (4 * r + i) / 4 = r by omega]
  refine r_callV MX10_readRule 1 [_] lvX10_277 (Or.inr (Or.inl ⟨hm, rfl⟩)) (hrd) rfl rfl (by first | exact Nat.le_of_ble_eq_true rfl | (simp [zcat_rf, Value.category]; done)) (by omega) (Nat.le_of_eq (Nat.zero_add _)) (Nat.le_of_eq (Nat.zero_add _)) dX10_beginSum_34 rfl (fun v_ w_ sg_ hq_ => ?_)
  obtain ⟨rfl, rfl, kr, og, hog, h9, hK⟩ := hq_
  obtain ⟨s2, hs2⟩ : ∃ y, y = sg_ := ⟨_, rfl⟩
  subst hs2
  have tb := hK.tb hD
  have j48 : mi s2 48 = nI dp := (kr.1 48 (by decide)).trans i48
  have j20 : ma s2 20 ((4 * r + i) % 4) = nI (aR R i) := by rw [show (4 * r + i) % 4 = i by omega]; exact tb.2.2.1
  have e1 : ∀ j k, 34 ≤ j → j ≤ 40 → ma s2 j k = ma s1 j k := fun j k _ _ => kr.2.1 j k (by omega)
  refine r_pop dX10_beginSum_37 (by first | rfl | exact zcat_rf _) rfl ?_
  refine r_aload_n dX10_beginSum_38 rfl (zRv_ref _) rfl ?_
  refine m_geta hm 50 35 lfX10_115 rfl (by decide) dX10_beginSum_39 rfl ?_
  refine r_aload_n dX10_beginSum_42 rfl (zRv_ref _) rfl ?_
  refine m_getiv hm 48 lfX10_328 rfl (by first | (simp only [zGS, zMS, Nat.reduceEqDiff, OfNat.ofNat_ne_ofNat, false_and, and_false, true_and, and_true, and_self, if_true, if_false, ite_true, ite_false, reduceIte, reduceCtorEq]; first | done | assumption | rfl) | assumption | exact z2_eq | exact z1_eq | (simp [zGS, zMS]; first | done | assumption) | rfl) dX10_beginSum_43 rfl ?_
  refine r_aload_n dX10_beginSum_46 rfl (zRv_ref _) rfl ?_
  refine m_geta hm 31 20 lfX10_69 rfl (by decide) dX10_beginSum_47 rfl ?_
  refine r_iload_n dX10_beginSum_50 rfl rfl ?_
  refine r_iconst dX10_beginSum_51 kc_4 rfl ?_
  refine r_iremN (by omega) (by omega) (by omega) dX10_beginSum_52 rfl ?_
  refine m_ialdv hm 20 _ (by decide) (by decide) rfl rfl (by show _ < 5; omega) (by first | (simp only [zGS, zMS, Nat.reduceEqDiff, OfNat.ofNat_ne_ofNat, false_and, and_false, true_and, and_true, and_self, if_true, if_false, ite_true, ite_false, reduceIte, reduceCtorEq]; first | done | assumption | rfl) | assumption | exact z2_eq | exact z1_eq | (simp [zGS, zMS]; first | done | assumption) | rfl) dX10_beginSum_53 rfl ?_
  refine m_iast hm 35 _ (by decide) (by decide) rfl rfl (by show _ < 100; omega) dX10_beginSum_54 rfl ?_
  refine r_aload_n dX10_beginSum_55 rfl (zRv_ref _) rfl ?_
  refine r_dup dX10_beginSum_56 (by first | rfl | exact zcat_rf _) rfl ?_
  refine m_getiv hm 48 lfX10_328 rfl (by first | (simp only [zGS, zMS, Nat.reduceEqDiff, OfNat.ofNat_ne_ofNat, false_and, and_false, true_and, and_true, and_self, if_true, if_false, ite_true, ite_false, reduceIte, reduceCtorEq]; first | done | assumption | rfl) | assumption | exact z2_eq | exact z1_eq | (simp [zGS, zMS]; first | done | assumption) | rfl) dX10_beginSum_57 rfl ?_
  refine r_iconst dX10_beginSum_60 kc_1 rfl ?_
  refine r_iaddN dX10_beginSum_61 rfl ?_
  refine m_puti hm 48 lfX10_328 rfl rfl rfl dX10_beginSum_62 rfl ?_
  refine r_vret rfl dX10_beginSum_65 ?_
  refine ⟨rfl, rfl, b1.tr (kr.b.tr ⟨fun j _ _ q _ => by rw [mi_msi, if_neg q]; rfl, fun j k _ q => by show ma (msa s2 35 dp (nI (aR R i))) j k = _; rw [ma_msa, if_neg (by omega)], fun j k _ _ _ => rfl⟩), by rw [mi_msi, if_pos rfl], ⟨?_, ?_⟩, ⟨?_, ?_, ?_, ?_⟩, ?_, fun H => ⟨fun j k p q hk => ?_, fun k hk => ⟨?_, ?_⟩⟩, fun KS hKS => (kr.kn (hKS.fr (fun s => ⟨?_, ?_, ?_⟩))).fr (fun s => ⟨?_, rfl, ?_⟩)⟩
  · rw [mi_msi, if_neg (by decide)]
    show mi s2 45 = _
    rw [kr.1 45 (by decide), hs1]
    rfl
  · rw [mi_msi, if_neg (by decide)]
    show mi s2 56 = _
    rw [kr.1 56 (by decide), hs1]
    rfl
  · show ma (msa s2 35 dp (nI (aR R i))) 34 dp = _
    rw [ma_msa, if_neg (by omega), e1 34 dp (by decide) (by decide), hs1, ma_msa, if_neg (by omega), ma_msa, if_neg (by omega), ma_msa, if_pos ⟨rfl, rfl⟩]
  · show ma (msa s2 35 dp (nI (aR R i))) 35 dp = _
    rw [ma_msa, if_pos ⟨rfl, rfl⟩]
  · show ma (msa s2 35 dp (nI (aR R i))) 36 dp = _
    rw [ma_msa, if_neg (by omega), e1 36 dp (by decide) (by decide), hs1, ma_msa, if_neg (by omega), ma_msa, if_pos ⟨rfl, rfl⟩]
  · show ma (msa s2 35 dp (nI (aR R i))) 37 dp = _
    rw [ma_msa, if_neg (by omega), e1 37 dp (by decide) (by decide), hs1, ma_msa, if_pos ⟨rfl, rfl⟩]
  · obtain ⟨t1, t2, t3, t4, t5⟩ := tb
    have e2 : ∀ j k, j ≠ 35 → ma (msi (msa s2 35 dp (nI (aR R i))) 48 (nI (dp + 1))) j k = ma s2 j k := fun j k q => by
      show ma (msa s2 35 dp (nI (aR R i))) j k = _
      rw [ma_msa, if_neg (fun z => q z.1)]
    exact ⟨t1, t2, (e2 _ _ (by decide)).trans t3, (e2 _ _ (by decide)).trans t4, fun q s hq => ⟨(e2 _ _ (by decide)).trans (t5 q s hq).1, (t5 q s hq).2⟩⟩
  · show ma (msa s2 35 dp (nI (aR R i))) j k = _
    rw [ma_msa, if_neg (by omega), e1 j k p (by omega), hs1, ma_msa, if_neg (by omega), ma_msa, if_neg (by omega), ma_msa, if_neg (by omega)]
  · show mg s2 32 k = _
    rw [kr.2.2 32 k (by decide), hs1]
    rfl
  · show ma (msa s2 35 dp (nI (aR R i))) 33 k = _
    rw [ma_msa, if_neg (by omega), kr.2.1 33 k (by decide), hs1, ma_msa, if_neg (by omega), ma_msa, if_neg (by omega), ma_msa, if_neg (by omega)]
  · rw [hs1, ma_msa, if_neg (by omega), ma_msa, if_neg (by omega), ma_msa, if_neg (by omega)]
  · rw [hs1]
    rfl
  · rw [hs1, ma_msa, if_neg (by omega), ma_msa, if_neg (by omega), ma_msa, if_neg (by omega)]
  · show ma (msa s2 35 dp (nI (aR R i))) 38 s = _
    rw [ma_msa, if_neg (by omega)]
  · show ma (msa s2 35 dp (nI (aR R i))) 40 s = _
    rw [ma_msa, if_neg (by omega)]
/-- a sum that is named ends; the one below goes on -/
def ksPut (KS : Nat → Nat × PVal) (s : Nat) (v : Nat × PVal) : Nat → Nat × PVal := fun x => if x = s then v else KS x
theorem q_endSum (E : ZE) (mo : Nat) (hm : E.2.2.2.2 = some mo) (w : ZW) (sg : ZM) (d s dp h r i : Nat) (hd : 16 ≤ d) (T : List PEl) (Rs : List PRule) (B : List Nat) (R : PRule) (D : PDecl) (hR : Rs[r]? = some R) (hD : R.2[i]? = some D) (hi : i < 4) (hI : mdI sg T Rs B) (h48 : mi sg 48 = nI (dp + 2)) (hdp : dp + 1 < 100) (hsl : ma sg 37 (dp + 1) = nI s) (hs : s < 96) (h34 : ma sg 34 dp = nI (4 * r + i)) (h45 : mi sg 45 = nI (h + 1)) (hh : h < 2999) (v : PVal) (hv1 : mg sg 32 h = v.2) (hv2 : ma sg 33 h = zb (decide (v.1 = 0))) : CallQ E MX10_endSum [.ref mo] w sg d 0 0 (fun r w' sg' => r = none ∧ w = w' ∧ wB sg sg' ∧ mi sg' 48 = nI (dp + 1) ∧ (mi sg' 45 = mi sg 45 ∧ mi sg' 56 = mi sg 56) ∧ tblR sg' R i D ∧ (∀ dp H, loS sg sg' dp H) ∧ ∀ KS, knG sg KS → knG sg' (ksPut KS s (2, v))) := by
  have hr := (List.getElem?_eq_some_iff.mp hR).1
  have hl : Rs.length ≤ 16 := hI.2.1
  obtain ⟨s1, hs1⟩ : ∃ y, y = msa (msg (msa (msi sg 48 (nI (dp + 1))) 38 s (nI 2)) 39 s v.2) 40 s (zb (decide (v.1 = 0))) := ⟨_, rfl⟩
  have b1 : wB sg s1 := by
    rw [hs1]
    refine ⟨fun j _ _ q _ => ?_, fun j k _ q => ?_, fun j k _ _ q => ?_⟩
    · show mi (msi sg 48 (nI (dp + 1))) j = _
      rw [mi_msi, if_neg q]
    · rw [ma_msa, if_neg (by omega)]
      show ma (msa (msi sg 48 (nI (dp + 1))) 38 s (nI 2)) j k = _
      rw [ma_msa, if_neg (by omega)]
      rfl
    · show mg (msg (msa (msi sg 48 (nI (dp + 1))) 38 s (nI 2)) 39 s v.2) j k = _
      rw [mg_msg, if_neg (by omega)]
      rfl
  have i48 : mi s1 48 = nI (dp + 1) := by
    rw [hs1]
    show mi (msi sg 48 (nI (dp + 1))) 48 = _
    rw [mi_msi, if_pos rfl]
  have e1 : ∀ j k, j ≠ 38 → j ≠ 40 → ma s1 j k = ma sg j k := fun j k p q => by
    rw [hs1, ma_msa, if_neg (by omega)]
    show ma (msa (msi sg 48 (nI (dp + 1))) 38 s (nI 2)) j k = _
    rw [ma_msa, if_neg (by omega)]
    rfl
  have i34 : ma s1 34 dp = nI (4 * r + i) := (e1 34 dp (by decide) (by decide)).trans h34
  have hrd := q_readK E mo hm w s1 (d - 1) r (by omega) T Rs B R hR (b1.I hI)
  refine CallQ.of rfl (by simp [Value.category]) (Nat.le_of_ble_eq_true rfl) ?_
  refine r_aload_n dX10_endSum_0 rfl (zRv_ref _) rfl ?_
  refine r_dup dX10_endSum_1 (by first | rfl | exact zcat_rf _) rfl ?_
  refine m_getiv hm 48 lfX10_328 rfl (by first | (simp only [zGS, zMS, Nat.reduceEqDiff, OfNat.ofNat_ne_ofNat, false_and, and_false, true_and, and_true, and_self, if_true, if_false, ite_true, ite_false, reduceIte, reduceCtorEq]; first | done | assumption | rfl) | assumption | exact z2_eq | exact z1_eq | (simp [zGS, zMS]; first | done | assumption) | rfl) dX10_endSum_2 rfl ?_
  refine r_iconst dX10_endSum_5 kc_1 rfl ?_
  refine r_isubN (by omega) dX10_endSum_6 rfl ?_
  rw [show dp + 2 - 1 = dp + 1 by omega]
  refine m_puti hm 48 lfX10_328 rfl rfl rfl dX10_endSum_7 rfl ?_
  refine r_aload_n dX10_endSum_10 rfl (zRv_ref _) rfl ?_
  refine m_geta hm 52 37 lfX10_121 rfl (by decide) dX10_endSum_11 rfl ?_
  refine r_aload_n dX10_endSum_14 rfl (zRv_ref _) rfl ?_
  refine m_getiv hm 48 lfX10_328 rfl (by first | (simp only [zGS, zMS, Nat.reduceEqDiff, OfNat.ofNat_ne_ofNat, false_and, and_false, true_and, and_true, and_self, if_true, if_false, ite_true, ite_false, reduceIte, reduceCtorEq]; first | done | assumption | rfl) | assumption | exact z2_eq | exact z1_eq | (simp [zGS, zMS]; first | done | assumption) | rfl) dX10_endSum_15 rfl ?_
  refine m_ialdv hm 37 _ (by decide) (by decide) rfl rfl (by show _ < 100; omega) (by first | (simp only [zGS, zMS, Nat.reduceEqDiff, OfNat.ofNat_ne_ofNat, false_and, and_false, true_and, and_true, and_self, if_true, if_false, ite_true, ite_false, reduceIte, reduceCtorEq]; first | done | assumption | rfl) | assumption | exact z2_eq | exact z1_eq | (simp [zGS, zMS]; first | done | assumption) | rfl) dX10_endSum_18 rfl ?_
  refine r_istore_n (ls' := [_, _]) dX10_endSum_19 (Nat.le_of_ble_eq_true rfl) rfl rfl ?_
  refine r_iload_n dX10_endSum_20 rfl rfl ?_
  refine r_iconst dX10_endSum_21 kc_m1 rfl ?_
  refine r_icmp_eq (r := 66) dX10_endSum_22 (by decide) rfl (fun c_22 => ?_) (fun c_22 => ?_)
  · exact absurd c_22 (nI_neg (by omega))
  · refine r_aload_n dX10_endSum_25 rfl (zRv_ref _) rfl ?_
    refine m_geta hm 53 38 lfX10_124 rfl (by decide) dX10_endSum_26 rfl ?_
    refine r_iload_n dX10_endSum_29 rfl rfl ?_
    refine r_iconst dX10_endSum_30 kc_2 rfl ?_
    refine m_iast hm 38 _ (by decide) (by decide) rfl rfl (by show _ < 96; omega) dX10_endSum_31 rfl ?_
    refine r_aload_n dX10_endSum_32 rfl (zRv_ref _) rfl ?_
    refine m_geta hm 54 39 lfX10_127 rfl (by decide) dX10_endSum_33 rfl ?_
    refine r_iload_n dX10_endSum_36 rfl rfl ?_
    refine r_aload_n dX10_endSum_37 rfl (zRv_ref _) rfl ?_
    refine m_geta hm 46 32 lfX10_106 rfl (by decide) dX10_endSum_38 rfl ?_
    refine r_aload_n dX10_endSum_41 rfl (zRv_ref _) rfl ?_
    refine m_getiv hm 45 lfX10_324 rfl (by first | (simp only [zGS, zMS, Nat.reduceEqDiff, OfNat.ofNat_ne_ofNat, false_and, and_false, true_and, and_true, and_self, if_true, if_false, ite_true, ite_false, reduceIte, reduceCtorEq]; first | done | assumption | rfl) | assumption | exact z2_eq | exact z1_eq | (simp [zGS, zMS]; first | done | assumption) | rfl) dX10_endSum_42 rfl ?_
    refine r_iconst dX10_endSum_45 kc_1 rfl ?_
    refine r_isubN (by omega) dX10_endSum_46 rfl ?_
    rw [Nat.add_sub_cancel]
    refine m_faldv hm 32 _ (by decide) (by decide) rfl rfl (by show _ < 3000; omega) (by first | (simp only [zGS, zMS, Nat.reduceEqDiff, OfNat.ofNat_ne_ofNat, false_and, and_false, true_and, and_true, and_self, if_true, if_false, ite_true, ite_false, reduceIte, reduceCtorEq]; first | done | assumption | rfl) | assumption | exact z2_eq | exact z1_eq | (simp [zGS, zMS]; first | done | assumption) | rfl) dX10_endSum_47 rfl ?_
    refine m_fast hm 39 _ (by decide) (by decide) rfl rfl (by show _ < 96; omega) dX10_endSum_48 rfl ?_
    refine r_aload_n dX10_endSum_49 rfl (zRv_ref _) rfl ?_
    refine m_geta hm 55 40 lfX10_130 rfl (by decide) dX10_endSum_50 rfl ?_
    refine r_iload_n dX10_endSum_53 rfl rfl ?_
    refine r_aload_n dX10_endSum_54 rfl (zRv_ref _) rfl ?_
    refine m_geta hm 47 33 lfX10_109 rfl (by decide) dX10_endSum_55 rfl ?_
    refine r_aload_n dX10_endSum_58 rfl (zRv_ref _) rfl ?_
    refine m_getiv hm 45 lfX10_324 rfl (by first | (simp only [zGS, zMS, Nat.reduceEqDiff, OfNat.ofNat_ne_ofNat, false_and, and_false, true_and, and_true, and_self, if_true, if_false, ite_true, ite_false, reduceIte, reduceCtorEq]; first | done | assumption | rfl) | assumption | exact z2_eq | exact z1_eq | (simp [zGS, zMS]; first | done | assumption) | rfl) dX10_endSum_59 rfl ?_
    refine r_iconst dX10_endSum_62 kc_1 rfl ?_
    refine r_isubN (by omega) dX10_endSum_63 rfl ?_
    rw [Nat.add_sub_cancel]
    refine m_zaldv hm 33 _ (by decide) (by decide) rfl rfl (by show _ < 3000; omega) (by first | (simp only [zGS, zMS, Nat.reduceEqDiff, OfNat.ofNat_ne_ofNat, false_and, and_false, true_and, and_true, and_self, if_true, if_false, ite_true, ite_false, reduceIte, reduceCtorEq]; first | done | assumption | rfl) | assumption | exact z2_eq | exact z1_eq | (simp [zGS, zMS]; first | done | assumption) | rfl) dX10_endSum_64 rfl ?_
    refine m_zast hm 40 _ (by first | exact zb_nar _ | rfl | decide | (simp only [*]; first | exact zb_nar _ | rfl)) (by decide) (by decide) rfl rfl (by show _ < 96; omega) dX10_endSum_65 rfl ?_
    rw [← hs1]
    refine r_aload_n dX10_endSum_66 rfl (zRv_ref _) rfl ?_
    refine m_getiv hm 48 lfX10_328 rfl (by first | (simp only [zGS, zMS, Nat.reduceEqDiff, OfNat.ofNat_ne_ofNat, false_and, and_false, true_and, and_true, and_self, if_true, if_false, ite_true, ite_false, reduceIte, reduceCtorEq]; first | done | assumption | rfl) | assumption | exact z2_eq | exact z1_eq | (simp [zGS, zMS]; first | done | assumption) | rfl) dX10_endSum_67 rfl ?_
    refine r_if_leN (by omega) (r := 91) dX10_endSum_70 (by decide) rfl (fun c_70 => ?_) (fun c_70 => ?_)
    · exact absurd c_70 (by omega)
    · refine r_aload_n dX10_endSum_73 rfl (zRv_ref _) rfl ?_
      refine r_aload_n dX10_endSum_74 rfl (zRv_ref _) rfl ?_
      refine m_geta hm 49 34 lfX10_112 rfl (by decide) dX10_endSum_75 rfl ?_
      refine r_aload_n dX10_endSum_78 rfl (zRv_ref _) rfl ?_
      refine m_getiv hm 48 lfX10_328 rfl (by first | (simp only [zGS, zMS, Nat.reduceEqDiff, OfNat.ofNat_ne_ofNat, false_and, and_false, true_and, and_true, and_self, if_true, if_false, ite_true, ite_false, reduceIte, reduceCtorEq]; first | done | assumption | rfl) | assumption | exact z2_eq | exact z1_eq | (simp [zGS, zMS]; first | done | assumption) | rfl) dX10_endSum_79 rfl ?_
      refine r_iconst dX10_endSum_82 kc_1 rfl ?_
      refine r_isubN (by omega) dX10_endSum_83 rfl ?_
      rw [Nat.add_sub_cancel]
      refine m_ialdv hm 34 _ (by decide) (by decide) rfl rfl (by show _ < 100; omega) (by first | (simp only [zGS, zMS, Nat.reduceEqDiff, OfNat.ofNat_ne_ofNat, false_and, and_false, true_and, and_true, and_self, if_true, if_false, ite_true, ite_false, reduceIte, reduceCtorEq]; first | done | assumption | rfl) | assumption | exact z2_eq | exact z1_eq | (simp [zGS, zMS]; first | done | assumption) | rfl) dX10_endSum_84 rfl ?_
      refine r_iconst dX10_endSum_85 kc_4 rfl ?_
      refine r_idivN (by omega) (by omega) (by omega) dX10_endSum_86 rfl ?_
      rw [show (4 * r + i) / 4 = r by omega]
      refine r_callV MX10_readRule 1 [_] lvX10_277 (Or.inr (Or.inl ⟨hm, rfl⟩)) (hrd) rfl rfl (by first | exact Nat.le_of_ble_eq_true rfl | (simp [zcat_rf, Value.category]; done)) (by omega) (Nat.le_of_eq (Nat.zero_add _)) (Nat.le_of_eq (Nat.zero_add _)) dX10_endSum_87 rfl (fun v_ w_ sg_ hq_ => ?_)
      obtain ⟨rfl, rfl, kr, og, hog, h9, hK⟩ := hq_
      obtain ⟨s2, hs2⟩ : ∃ y, y = sg_ := ⟨_, rfl⟩
      subst hs2
      refine r_pop dX10_endSum_90 (by first | rfl | exact zcat_rf _) rfl ?_
      refine r_vret rfl dX10_endSum_91 ?_
      refine ⟨rfl, rfl, b1.tr kr.b, (kr.1 48 (by decide)).trans i48, ⟨?_, ?_⟩, hK.tb hD, fun dp H => ⟨fun j k p q _ => (kr.2.1 j k (by omega)).trans (e1 j k (by omega) (by omega)), fun k _ => ⟨(kr.2.2 32 k (by decide)).trans ?_, (kr.2.1 33 k (by decide)).trans (e1 33 k (by decide) (by decide))⟩⟩, fun KS hKS => kr.kn (fun x hx => ?_)⟩
      · rw [kr.1 45 (by decide), hs1]
        show mi (msi sg 48 (nI (dp + 1))) 45 = _
        rw [mi_msi, if_neg (by decide)]
      · rw [kr.1 56 (by decide), hs1]
        show mi (msi sg 48 (nI (dp + 1))) 56 = _
        rw [mi_msi, if_neg (by decide)]
      · rw [hs1]
        show mg (msg (msa (msi sg 48 (nI (dp + 1))) 38 s (nI 2)) 39 s v.2) 32 k = _
        rw [mg_msg, if_neg (by omega)]
        rfl
      · obtain ⟨k1, k2, k3⟩ := hKS x hx
        unfold ksPut
        have m38 : ∀ y, ma s1 38 y = if y = s then nI 2 else ma sg 38 y := fun y => by
          rw [hs1, ma_msa, if_neg (by omega)]
          show ma (msa (msi sg 48 (nI (dp + 1))) 38 s (nI 2)) 38 y = _
          rw [ma_msa]
          by_cases c : y = s
          · rw [if_pos ⟨rfl, c⟩, if_pos c]
          · rw [if_neg (fun z => c z.2), if_neg c]
            rfl
        have m39 : ∀ y, mg s1 39 y = if y = s then v.2 else mg sg 39 y := fun y => by
          rw [hs1]
          show mg (msg (msa (msi sg 48 (nI (dp + 1))) 38 s (nI 2)) 39 s v.2) 39 y = _
          rw [mg_msg]
          by_cases c : y = s
          · rw [if_pos ⟨rfl, c⟩, if_pos c]
          · rw [if_neg (fun z => c z.2), if_neg c]
            rfl
        have m40 : ∀ y, ma s1 40 y = if y = s then zb (decide (v.1 = 0)) else ma sg 40 y := fun y => by
          rw [hs1, ma_msa]
          by_cases c : y = s
          · rw [if_pos ⟨rfl, c⟩, if_pos c]
          · rw [if_neg (fun z => c z.2), if_neg c]
            show ma (msa (msi sg 48 (nI (dp + 1))) 38 s (nI 2)) 40 y = _
            rw [ma_msa, if_neg (by omega)]
            rfl
        rw [m38, m39, m40]
        by_cases c : x = s
        · rw [if_pos c, if_pos c, if_pos c, if_pos c]
          exact ⟨rfl, (by decide : 2 < 3), fun _ => ⟨rfl, rfl⟩⟩
        · rw [if_neg c, if_neg c, if_neg c, if_neg c]
          exact ⟨k1, k2, k3⟩
