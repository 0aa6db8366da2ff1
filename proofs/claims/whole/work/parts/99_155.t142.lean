/-! ===== the model: work, its states ===== -/
def wkI (T : List PEl) (Rs : List PRule) (wanted : Nat) (em whole : UInt32) (sg0 sg : ZM) (dp H r i pl : Nat) (slot : Int32) (KS : Nat → Nat × PVal) (D : PDecl) (R : PRule) (pre rest : List PStep) (st : List PVal) (f0 : Nat) : Prop := wB sg0 sg ∧ mi sg 48 = nI (dp + 1) ∧ frR sg dp r i (aR R i + pre.length) pl slot ∧ (Rs[r]? = some R ∧ R.2[i]? = some D ∧ i < 4) ∧ tblR sg R i D ∧ (mi sg 56 = zb false ∧ mi sg 45 = nI (H + st.length) ∧ stA sg H st) ∧ okLs st ∧ knG sg KS ∧ D.2.2.2 = pre ++ rest ∧ runS wanted em whole (nmE T (ldD T Rs) wanted em whole pl f0) pre [] = some st ∧ hgt rest st.length = some 1 ∧ pl < T.length
def kOk (T : List PEl) (Rs : List PRule) (wanted : Nat) (em whole : UInt32) (KS : Nat → Nat × PVal) (D : PDecl) (pl : Nat) : Prop := (∀ x n D', x < T.length → n < 4 → slotD (ldD T Rs) x n = some D' → ((KS (4 * x + n)).1 = 2 → ∃ f, ev T (ldD T Rs) wanted em whole f D' x = some (KS (4 * x + n)).2) ∧ ((KS (4 * x + n)).1 = 1 → lead2 T (ldD T Rs) wanted em whole D' x D pl)) ∧ ∀ s, s < 96 → (KS s).1 = 2 → (KS s).2.1 ≤ 1 ∧ fFin (KS s).2.2
def unk (KS : Nat → Nat × PVal) : Nat := bcnt (fun s => decide ((KS s).1 = 0)) 96
theorem bcnt_put {f g : Nat → Bool} {s : Nat} (h1 : f s = true) (h2 : g s = false) (h : ∀ x, x ≠ s → g x = f x) : ∀ n, s < n → bcnt g n + 1 = bcnt f n
  | 0, hn => absurd hn (Nat.not_lt_zero s)
  | n + 1, hn => by
    show bcnt g n + (if g n = true then 1 else 0) + 1 = bcnt f n + (if f n = true then 1 else 0)
    by_cases c : s = n
    · subst c
      rw [h1, h2, if_neg (by decide), if_pos rfl]
      have : ∀ m, m ≤ s → bcnt g m = bcnt f m := by
        intro m
        induction m with
        | zero => intro _; rfl
        | succ m ih =>
          intro hm
          show bcnt g m + (if g m = true then 1 else 0) = bcnt f m + (if f m = true then 1 else 0)
          rw [ih (by omega), h m (by omega)]
      rw [this s (Nat.le_refl _)]
    · have := bcnt_put h1 h2 h n (by omega)
      rw [h n (fun e => c e.symm)]
      omega
theorem bcnt_mono {f g : Nat → Bool} (h : ∀ x, g x = true → f x = true) : ∀ n, bcnt g n ≤ bcnt f n
  | 0 => Nat.le_refl _
  | n + 1 => by
    show bcnt g n + (if g n = true then 1 else 0) ≤ bcnt f n + (if f n = true then 1 else 0)
    have := bcnt_mono h n
    cases hg : g n with
    | true =>
      rw [h n hg]
      omega
    | false =>
      rw [if_neg (by decide)]
      omega
theorem unk_put {KS : Nat → Nat × PVal} {s : Nat} {v : Nat × PVal} (hs : s < 96) (h0 : (KS s).1 = 0) (hv : v.1 ≠ 0) : unk (ksPut KS s v) + 1 = unk KS := by
  refine bcnt_put (s := s) (decide_eq_true h0) ?_ (fun x hx => ?_) 96 hs
  · unfold ksPut
    rw [if_pos rfl]
    exact decide_eq_false hv
  · unfold ksPut
    rw [if_neg hx]
theorem unk_le {KS : Nat → Nat × PVal} {s : Nat} {v : Nat × PVal} (hv : v.1 ≠ 0) : unk (ksPut KS s v) ≤ unk KS := by
  refine bcnt_mono (fun x hx => ?_) 96
  unfold ksPut at hx
  by_cases c : x = s
  · rw [if_pos c] at hx
    exact absurd (of_decide_eq_true hx) hv
  · rw [if_neg c] at hx
    exact hx
/-- from the head to the step's kind -/
theorem wk_hd (E : ZE) (mo : Nat) (hm : E.2.2.2.2 = some mo) (w : ZW) (T : List PEl) (Rs : List PRule) (wanted : Nat) (em whole : UInt32) (sg0 sg : ZM) (d dp H r i pl : Nat) (slot : Int32) (KS : Nat → Nat × PVal) (D : PDecl) (R : PRule) (pre rest : List PStep) (s : PStep) (st : List PVal) (f0 : Nat) (h : wkI T Rs wanted em whole sg0 sg dp H r i pl slot KS D R pre (s :: rest) st f0) (hs : s.1 < 13) (hdp : dp < 100) (hr : r < 16) (x1 x2 x3 : Value) (x4 x5 x6 : Option Value) (P : ZPhi) (K : RW E MX10_work 150 [some (.ref mo), some x1, some x2, some x3, some (.int (nI (aR R i + pre.length))), some (.int (nI 0)), some (.int (nI (cvC s.1)))] [] w (msa sg 35 dp (nI (aR R i + pre.length + 1))) d 0 0 P) : RW E MX10_work 46 [some (.ref mo), some x1, some x2, some x3, x4, x5, x6] [] w sg d 0 0 P := by
  obtain ⟨-, h48, ⟨f1, f2, f3, f4⟩, ⟨g1, g2, g3⟩, ⟨t1, t2, t3, t4, t5⟩, ⟨h56, h45, hA⟩, -, -, hD, -, -, -⟩ := h
  have hln : D.2.2.2.length = pre.length + (rest.length + 1) := by rw [hD, List.length_append, List.length_cons]
  have hq : D.2.2.2[pre.length]? = some s := by rw [hD, List.getElem?_append_right (Nat.le_refl _), Nat.sub_self]; rfl
  obtain ⟨t6, t7⟩ := t5 _ s hq
  have i20 : ma (msa sg 35 dp (nI (aR R i + pre.length + 1))) 20 (i + 1) = nI (aR R i + D.2.2.2.length) := by rw [ma_msa, if_neg (by omega)]; exact t4
  have i34 : ma (msa sg 35 dp (nI (aR R i + pre.length + 1))) 34 dp = nI (4 * r + i) := by rw [ma_msa, if_neg (by omega)]; exact f1
  have i21 : ma (msa sg 35 dp (nI (aR R i + pre.length + 1))) 21 (aR R i + pre.length) = nI (cvC s.1) := by rw [ma_msa, if_neg (by omega)]; exact t6
  obtain ⟨sg1, hs1⟩ : ∃ y, y = msa sg 35 dp (nI (aR R i + pre.length + 1)) := ⟨_, rfl⟩
  have i48 : mi sg1 48 = nI (dp + 1) := by rw [hs1]; exact h48
  rw [← hs1] at i20 i34 i21 K
  refine r_aload_n dX10_work_46 rfl (zRv_ref _) rfl ?_
  refine m_getiv hm 48 lfX10_328 rfl (by first | (simp only [zGS, zMS, Nat.reduceEqDiff, OfNat.ofNat_ne_ofNat, false_and, and_false, true_and, and_true, and_self, if_true, if_false, ite_true, ite_false, reduceIte, reduceCtorEq]; first | done | assumption | rfl) | assumption | exact z2_eq | exact z1_eq | (simp [zGS, zMS]; first | done | assumption) | rfl) dX10_work_47 rfl ?_
  refine r_if_leN (by omega) (r := 330) dX10_work_50 (by decide) rfl (fun c_50 => ?_) (fun c_50 => ?_)
  · exact absurd c_50 (by omega)
  · refine r_aload_n dX10_work_53 rfl (zRv_ref _) rfl ?_
    refine m_getiv hm 56 lfX10_319 rfl (by first | (simp only [zGS, zMS, Nat.reduceEqDiff, OfNat.ofNat_ne_ofNat, false_and, and_false, true_and, and_true, and_self, if_true, if_false, ite_true, ite_false, reduceIte, reduceCtorEq]; first | done | assumption | rfl) | assumption | exact z2_eq | exact z1_eq | (simp [zGS, zMS]; first | done | assumption) | rfl) dX10_work_54 rfl ?_
    refine r_if_neB (r := 330) dX10_work_57 (by decide) rfl (fun c_57 => ?_) (fun c_57 => ?_)
    · cases c_57
    · refine r_aload_n dX10_work_60 rfl (zRv_ref _) rfl ?_
      refine m_geta hm 50 35 lfX10_115 rfl (by decide) dX10_work_61 rfl ?_
      refine r_aload_n dX10_work_64 rfl (zRv_ref _) rfl ?_
      refine m_getiv hm 48 lfX10_328 rfl (by first | (simp only [zGS, zMS, Nat.reduceEqDiff, OfNat.ofNat_ne_ofNat, false_and, and_false, true_and, and_true, and_self, if_true, if_false, ite_true, ite_false, reduceIte, reduceCtorEq]; first | done | assumption | rfl) | assumption | exact z2_eq | exact z1_eq | (simp [zGS, zMS]; first | done | assumption) | rfl) dX10_work_65 rfl ?_
      refine r_iconst dX10_work_68 kc_1 rfl ?_
      refine r_isubN (by omega) dX10_work_69 rfl ?_
      rw [Nat.add_sub_cancel]
      refine m_ialdv hm 35 _ (by decide) (by decide) rfl rfl (by show _ < 100; omega) (by first | (simp only [zGS, zMS, Nat.reduceEqDiff, OfNat.ofNat_ne_ofNat, false_and, and_false, true_and, and_true, and_self, if_true, if_false, ite_true, ite_false, reduceIte, reduceCtorEq]; first | done | assumption | rfl) | assumption | exact z2_eq | exact z1_eq | (simp [zGS, zMS]; first | done | assumption) | rfl) dX10_work_70 rfl ?_
      refine r_istore (ls' := [_, _, _, _, _, _, _]) dX10_work_71 (Nat.le_of_ble_eq_true rfl) rfl rfl ?_
      refine r_aload_n dX10_work_73 rfl (zRv_ref _) rfl ?_
      refine m_geta hm 50 35 lfX10_115 rfl (by decide) dX10_work_74 rfl ?_
      refine r_aload_n dX10_work_77 rfl (zRv_ref _) rfl ?_
      refine m_getiv hm 48 lfX10_328 rfl (by first | (simp only [zGS, zMS, Nat.reduceEqDiff, OfNat.ofNat_ne_ofNat, false_and, and_false, true_and, and_true, and_self, if_true, if_false, ite_true, ite_false, reduceIte, reduceCtorEq]; first | done | assumption | rfl) | assumption | exact z2_eq | exact z1_eq | (simp [zGS, zMS]; first | done | assumption) | rfl) dX10_work_78 rfl ?_
      refine r_iconst dX10_work_81 kc_1 rfl ?_
      refine r_isubN (by omega) dX10_work_82 rfl ?_
      rw [Nat.add_sub_cancel]
      refine r_iload dX10_work_83 rfl rfl ?_
      refine r_iconst dX10_work_85 kc_1 rfl ?_
      refine r_iaddN dX10_work_86 rfl ?_
      refine m_iast hm 35 _ (by decide) (by decide) rfl rfl (by show _ < 100; omega) dX10_work_87 rfl ?_
      rw [← hs1]
      refine r_iload dX10_work_88 rfl rfl ?_
      refine r_aload_n dX10_work_90 rfl (zRv_ref _) rfl ?_
      refine m_geta hm 31 20 lfX10_69 rfl (by decide) dX10_work_91 rfl ?_
      refine r_aload_n dX10_work_94 rfl (zRv_ref _) rfl ?_
      refine m_geta hm 49 34 lfX10_112 rfl (by decide) dX10_work_95 rfl ?_
      refine r_aload_n dX10_work_98 rfl (zRv_ref _) rfl ?_
      refine m_getiv hm 48 lfX10_328 rfl (by first | (simp only [zGS, zMS, Nat.reduceEqDiff, OfNat.ofNat_ne_ofNat, false_and, and_false, true_and, and_true, and_self, if_true, if_false, ite_true, ite_false, reduceIte, reduceCtorEq]; first | done | assumption | rfl) | assumption | exact z2_eq | exact z1_eq | (simp [zGS, zMS]; first | done | assumption) | rfl) dX10_work_99 rfl ?_
      refine r_iconst dX10_work_102 kc_1 rfl ?_
      refine r_isubN (by omega) dX10_work_103 rfl ?_
      rw [Nat.add_sub_cancel]
      refine m_ialdv hm 34 _ (by decide) (by decide) rfl rfl (by show _ < 100; omega) (by first | (simp only [zGS, zMS, Nat.reduceEqDiff, OfNat.ofNat_ne_ofNat, false_and, and_false, true_and, and_true, and_self, if_true, if_false, ite_true, ite_false, reduceIte, reduceCtorEq]; first | done | assumption | rfl) | assumption | exact z2_eq | exact z1_eq | (simp [zGS, zMS]; first | done | assumption) | rfl) dX10_work_104 rfl ?_
      refine r_iconst dX10_work_105 kc_4 rfl ?_
      refine r_iremN (by omega) (by omega) (by omega) dX10_work_106 rfl ?_
      rw [show (4 * r + i) % 4 = i by omega]
      refine r_iconst dX10_work_107 kc_1 rfl ?_
      refine r_iaddN dX10_work_108 rfl ?_
      refine m_ialdv hm 20 _ (by decide) (by decide) rfl rfl (by show _ < 5; omega) (by first | (simp only [zGS, zMS, Nat.reduceEqDiff, OfNat.ofNat_ne_ofNat, false_and, and_false, true_and, and_true, and_self, if_true, if_false, ite_true, ite_false, reduceIte, reduceCtorEq]; first | done | assumption | rfl) | assumption | exact z2_eq | exact z1_eq | (simp [zGS, zMS]; first | done | assumption) | rfl) dX10_work_109 rfl ?_
      refine r_icmp_neN (by omega) (by omega) (r := 117) dX10_work_110 (by decide) rfl (fun c_110 => ?_) (fun c_110 => ?_)
      · refine r_iconst dX10_work_117 kc_0 rfl ?_
        refine r_istore (ls' := [_, _, _, _, _, _, _]) dX10_work_118 (Nat.le_of_ble_eq_true rfl) rfl rfl ?_
        refine r_iload dX10_work_120 rfl rfl ?_
        refine r_if_eqN (by omega) (r := 129) dX10_work_122 (by decide) rfl (fun c_122 => ?_) (fun c_122 => ?_)
        · refine r_aload_n dX10_work_129 rfl (zRv_ref _) rfl ?_
          refine m_geta hm 33 21 lfX10_72 rfl (by decide) dX10_work_130 rfl ?_
          refine r_iload dX10_work_133 rfl rfl ?_
          refine m_ialdv hm 21 _ (by decide) (by decide) rfl rfl (by show _ < 130; omega) (by first | (simp only [zGS, zMS, Nat.reduceEqDiff, OfNat.ofNat_ne_ofNat, false_and, and_false, true_and, and_true, and_self, if_true, if_false, ite_true, ite_false, reduceIte, reduceCtorEq]; first | done | assumption | rfl) | assumption | exact z2_eq | exact z1_eq | (simp [zGS, zMS]; first | done | assumption) | rfl) dX10_work_135 rfl ?_
          refine r_istore (ls' := [_, _, _, _, _, _, _]) dX10_work_136 (Nat.le_of_ble_eq_true rfl) rfl rfl ?_
          refine r_iload dX10_work_138 rfl rfl ?_
          refine r_if_eqN (by omega) (r := 150) dX10_work_140 (by decide) rfl (fun c_140 => ?_) (fun c_140 => ?_)
          · exact K
          · exact absurd rfl c_140
        · exact absurd rfl c_122
      · exact absurd c_110 (by omega)
/-- on the stack alone -/
theorem wk_st {E : ZE} {mo : Nat} {w : ZW} {T : List PEl} {Rs : List PRule} {wanted : Nat} {em whole : UInt32} (hem : fFin em) (hwh : fFin whole) {sg0 sg sg2 : ZM} {d dp H r i pl : Nat} {slot : Int32} {KS : Nat → Nat × PVal} {D : PDecl} {R : PRule} {pre rest : List PStep} {s : PStep} {st : List PVal} {f0 : Nat} (h : wkI T Rs wanted em whole sg0 sg dp H r i pl slot KS D R pre (s :: rest) st f0) (hs : okSt s) (h9 : s.1 < 9) (h15 : st.length ≤ 15) (hO : stO (msa sg 35 dp (nI (aR R i + pre.length + 1))) sg2 H (stepS wanted em whole s st)) {P : ZPhi} {ls : List (Option Value)} (Kb : (∀ f, ev T (ldD T Rs) wanted em whole f D pl = none) → wB sg0 sg2 → mi sg2 56 = zb true → mi sg2 48 = nI (dp + 1) → RW E MX10_work 46 ls [] w sg2 d 0 0 P) (K : ∀ st', wkI T Rs wanted em whole sg0 sg2 dp H r i pl slot KS D R (pre ++ [s]) rest st' f0 → st'.length ≤ 15 → loS sg sg2 dp H → RW E MX10_work 46 ls [] w sg2 d 0 0 P) : RW E MX10_work 46 ls [] w sg2 d 0 0 P := by
  obtain ⟨hB, h48, ⟨f1, f2, f3, f4⟩, hRD, ⟨t1, t2, t3, t4, t5⟩, ⟨h56, h45, hA⟩, hls, hkn, hD, hrun, hh, hpl⟩ := h
  obtain ⟨hk, hm⟩ := hO
  have hb1 : wB sg (msa sg 35 dp (nI (aR R i + pre.length + 1))) := ⟨fun _ _ _ _ _ => rfl, fun j k _ q => by rw [ma_msa, if_neg (by omega)], fun _ _ _ _ _ => rfl⟩
  have hB2 := (hB.tr hb1).tr hk.b
  have e48 : mi sg2 48 = nI (dp + 1) := (hk.1 48 (by decide) (by decide)).trans h48
  have one : ∀ g, one2 wanted em whole (nmE T (ldD T Rs) wanted em whole pl g) s st = stepS wanted em whole s st := fun g => by
    unfold one2
    rw [if_neg (by omega)]
  cases hst : stepS wanted em whole s st with
  | none =>
    rw [hst] at hm
    exact Kb (run_fail hD hrun (fun g _ => by rw [one g, hst])) hB2 hm e48
  | some st' =>
    rw [hst] at hm
    obtain ⟨m1, m2, m3⟩ := hm
    have ma9 : ∀ j k, j ≠ 33 → j ≠ 35 → ma sg2 j k = ma sg j k := fun j k p q => by
      rw [hk.2.1 j k (by omega), ma_msa, if_neg (by omega)]
    have mg9 : ∀ j k, j ≠ 32 → mg sg2 j k = mg sg j k := fun j k p => hk.2.2 j k (by omega)
    have hl2 : okLs st' ∧ hgt rest st'.length = some 1 ∧ st'.length ≤ 15 := by
      unfold stepS at hst
      by_cases h3 : s.1 ≤ 3
      · rw [if_pos h3] at hst
        obtain ⟨a, b⟩ := numS_ls (hs.2 h3) hem hwh hst hls
        refine ⟨a, ?_⟩
        rw [b]
        unfold hgt at hh
        rw [if_pos (Or.inl h3)] at hh
        split at hh
        · exact ⟨hh, by omega⟩
        · cases hh
      · rw [if_neg h3] at hst
        by_cases h4 : s.1 = 4
        · rw [if_pos h4] at hst
          obtain ⟨a, b⟩ := negS_ls hst hls
          refine ⟨a, ?_⟩
          rw [b]
          unfold hgt at hh
          rw [if_neg (by omega), if_pos h4] at hh
          split at hh
          · exact ⟨hh, h15⟩
          · cases hh
        · rw [if_neg h4] at hst
          obtain ⟨a, b⟩ := comS_ls hst hls
          refine ⟨a, ?_⟩
          unfold hgt at hh
          rw [if_neg (by omega), if_neg h4] at hh
          split at hh
          · rw [show st'.length = st.length - 1 by omega]
            exact ⟨hh, by omega⟩
          · cases hh
    refine K st' ⟨hB2, e48, ⟨?_, ?_, ?_, ?_⟩, hRD, ⟨t1, t2, (ma9 _ _ (by decide) (by decide)).trans t3, (ma9 _ _ (by decide) (by decide)).trans t4, fun q s hq => ⟨(ma9 _ _ (by decide) (by decide)).trans (t5 q s hq).1, (mg9 _ _ (by decide)).trans (t5 q s hq).2⟩⟩, ⟨m1, m2, m3⟩, hl2.1, hkn.fr (fun s => ⟨ma9 _ _ (by decide) (by decide), mg9 _ _ (by decide), ma9 _ _ (by decide) (by decide)⟩), by rw [List.append_assoc]; exact hD, run_step hrun (Nat.le_refl _) (by rw [one, hst]), hl2.2.1, hpl⟩ hl2.2.2 ⟨fun j k p q c => ?_, fun k c => ⟨hk.2.2 32 k (by omega), (hk.2.1 33 k (by omega)).trans (by rw [ma_msa, if_neg (by omega)])⟩⟩
    · exact (ma9 _ _ (by decide) (by decide)).trans f1
    · rw [hk.2.1 35 dp (by omega), ma_msa, if_pos ⟨rfl, rfl⟩, List.length_append]
      rfl
    · exact (ma9 _ _ (by decide) (by decide)).trans f3
    · exact (ma9 _ _ (by decide) (by decide)).trans f4
    · rw [hk.2.1 j k (by omega), ma_msa, if_neg (by omega)]
