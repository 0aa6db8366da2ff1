/-! ===== the model: work ===== -/
/-- the declarations of the rules are sound -/
theorem mdI.okd {sg : ZM} {T : List PEl} {Rs : List PRule} {B : List Nat} (h : mdI sg T Rs B) {r i : Nat} {R : PRule} {D : PDecl} (hR : Rs[r]? = some R) (hD : R.2[i]? = some D) : D.1 < 10 ∧ D.2.1 < 3 ∧ (D.2.1 = 2 → okD D) := by
  obtain ⟨q, q1, q2, q3, q4⟩ := h.2.2.2.1 r R hR
  have hl := q1.2.1
  unfold readR at q4
  cases h1 : pSels q.1 with
  | none => rw [h1] at q4; cases q4
  | some x =>
    obtain ⟨ls, r2⟩ := x
    rw [h1] at q4
    simp only [] at q4
    cases h2 : pDecs (pDecl q.2) r2 with
    | none => rw [h2] at q4; cases q4
    | some ds =>
      rw [h2] at q4
      cases q4
      have hl2 : r2.length ≤ 120 := Nat.le_trans (pSels_len h1) hl
      have := pDecs_ok q3 hl2 h2 D (List.mem_of_getElem? hD)
      exact ⟨this.1, this.2.1, this.2.2.2⟩
/-- a named sum is over: back to the one below -/
theorem wk_ov (E : ZE) (mo : Nat) (hm : E.2.2.2.2 = some mo) (w : ZW) (sg : ZM) (d dp r i k : Nat) (x1 x2 x3 : Value) (x4 x5 x6 : Option Value) (P : ZPhi) (D : PDecl) (R : PRule) (h48 : mi sg 48 = nI (dp + 1)) (hdp : dp < 100) (hi : i < 4) (hr : r < 16) (h56 : mi sg 56 = zb false) (h34 : ma sg 34 dp = nI (4 * r + i)) (h35 : ma sg 35 dp = nI k) (h20 : ma sg 20 (i + 1) = nI k) (hk : k < 130) (K : ∀ x4 x5 x6, RW E MX10_work 143 [some (.ref mo), some x1, some x2, some x3, some x4, some x5, some x6] [] w (msa sg 35 dp (nI (k + 1))) d 0 0 P) : RW E MX10_work 46 [some (.ref mo), some x1, some x2, some x3, x4, x5, x6] [] w sg d 0 0 P := by
  have i20 : ma (msa sg 35 dp (nI (k + 1))) 20 (i + 1) = nI k := by rw [ma_msa, if_neg (by omega)]; exact h20
  have i34 : ma (msa sg 35 dp (nI (k + 1))) 34 dp = nI (4 * r + i) := by rw [ma_msa, if_neg (by omega)]; exact h34
  obtain ⟨sg1, hs1⟩ : ∃ y, y = msa sg 35 dp (nI (k + 1)) := ⟨_, rfl⟩
  have i48 : mi sg1 48 = nI (dp + 1) := by rw [hs1]; exact h48
  rw [← hs1] at i20 i34 K
  refine r_aload_n dX10_work_46 rfl (zRv_ref _) rfl ?_
  refine m_getiv hm 48 lfX10_328 rfl (by first | (simp only [zGS, zMS, Nat.reduceEqDiff, OfNat.ofNat_ne_ofNat, false_and, and_false, true_and, and_true, and_self, if_true, if_false, ite_true, ite_false, reduceIte, reduceCtorEq]; first | done | assumption | rfl) | assumption | exact z2_eq | exact z1_eq | (simp [zGS, zMS]; first | done | assumption) | rfl) dX10_work_47 rfl ?_
  refine r_if_leN (by omega) (r := 330) dX10_work_50 (by decide) rfl (fun c_50 => ?_) (fun c_50 => ?_)
  · exact absurd c_50 (by omega)
  · refine r_aload_n dX10_work_53 rfl (zRv_ref _) rfl ?_
    refine m_getiv hm 56 lfX10_319 rfl (by first | (simp only [zGS, zMS, Nat.reduceEqDiff, OfNat.ofNat_ne_ofNat, false_and, and_false, true_and, and_true, and_self, if_true, if_false, ite_true, ite_false, reduceIte, reduceCtorEq]; first | done | assumption | rfl) | assumption | exact z2_eq | exact z1_eq | (simp [zGS, zMS]; first | done | assumption) | rfl) dX10_work_54 rfl ?_
    refine r_if_neB (r := 330) dX10_work_57 (by decide) rfl (fun c_57 => ?_) (fun c_57 => ?_)
    · cases c_57
    · refine r_aload_n dX10_work_60 rfl (zRv_ref _) rfl ?_
      refine m_geta hm 50 35 lfX10_115 rfl (by decide) dX10_work_61 rfl ?_
      refine r_aload_n dX10_work_64 rfl (zRv_ref _) rfl ?_
      refine m_getiv hm 48 lfX10_328 rfl (by first | (simp only [zGS, zMS, Nat.reduceEqDiff, OfNat.ofNat_ne_ofNat, false_and, and_false, true_and, and_true, and_self, if_true, if_false, ite_true, ite_false, reduceIte, reduceCtorEq]; first | done | assumption | rfl) | assumption | exact z2_eq | exact z1_eq | (simp [zGS, zMS]; first | done | assumption) | rfl) dX10_work_65 rfl ?_
      refine r_iconst dX10_work_68 kc_1 rfl ?_
      refine r_isubN (by omega) dX10_work_69 rfl ?_
      rw [Nat.add_sub_cancel]
      refine m_ialdv hm 35 _ (by decide) (by decide) rfl rfl (by show _ < 100; omega) (by first | (simp only [zGS, zMS, Nat.reduceEqDiff, OfNat.ofNat_ne_ofNat, false_and, and_false, true_and, and_true, and_self, if_true, if_false, ite_true, ite_false, reduceIte, reduceCtorEq]; first | done | assumption | rfl) | assumption | exact z2_eq | exact z1_eq | (simp [zGS, zMS]; first | done | assumption) | rfl) dX10_work_70 rfl ?_
      refine r_istore (ls' := [_, _, _, _, _, _, _]) dX10_work_71 (Nat.le_of_ble_eq_true rfl) rfl rfl ?_
      refine r_aload_n dX10_work_73 rfl (zRv_ref _) rfl ?_
      refine m_geta hm 50 35 lfX10_115 rfl (by decide) dX10_work_74 rfl ?_
      refine r_aload_n dX10_work_77 rfl (zRv_ref _) rfl ?_
      refine m_getiv hm 48 lfX10_328 rfl (by first | (simp only [zGS, zMS, Nat.reduceEqDiff, OfNat.ofNat_ne_ofNat, false_and, and_false, true_and, and_true, and_self, if_true, if_false, ite_true, ite_false, reduceIte, reduceCtorEq]; first | done | assumption | rfl) | assumption | exact z2_eq | exact z1_eq | (simp [zGS, zMS]; first | done | assumption) | rfl) dX10_work_78 rfl ?_
      refine r_iconst dX10_work_81 kc_1 rfl ?_
      refine r_isubN (by omega) dX10_work_82 rfl ?_
      rw [Nat.add_sub_cancel]
      refine r_iload dX10_work_83 rfl rfl ?_
      refine r_iconst dX10_work_85 kc_1 rfl ?_
      refine r_iaddN dX10_work_86 rfl ?_
      refine m_iast hm 35 _ (by decide) (by decide) rfl rfl (by show _ < 100; omega) dX10_work_87 rfl ?_
      rw [← hs1]
      refine r_iload dX10_work_88 rfl rfl ?_
      refine r_aload_n dX10_work_90 rfl (zRv_ref _) rfl ?_
      refine m_geta hm 31 20 lfX10_69 rfl (by decide) dX10_work_91 rfl ?_
      refine r_aload_n dX10_work_94 rfl (zRv_ref _) rfl ?_
      refine m_geta hm 49 34 lfX10_112 rfl (by decide) dX10_work_95 rfl ?_
      refine r_aload_n dX10_work_98 rfl (zRv_ref _) rfl ?_
      refine m_getiv hm 48 lfX10_328 rfl (by first | (simp only [zGS, zMS, Nat.reduceEqDiff, OfNat.ofNat_ne_ofNat, false_and, and_false, true_and, and_true, and_self, if_true, if_false, ite_true, ite_false, reduceIte, reduceCtorEq]; first | done | assumption | rfl) | assumption | exact z2_eq | exact z1_eq | (simp [zGS, zMS]; first | done | assumption) | rfl) dX10_work_99 rfl ?_
      refine r_iconst dX10_work_102 kc_1 rfl ?_
      refine r_isubN (by omega) dX10_work_103 rfl ?_
      rw [Nat.add_sub_cancel]
      refine m_ialdv hm 34 _ (by decide) (by decide) rfl rfl (by show _ < 100; omega) (by first | (simp only [zGS, zMS, Nat.reduceEqDiff, OfNat.ofNat_ne_ofNat, false_and, and_false, true_and, and_true, and_self, if_true, if_false, ite_true, ite_false, reduceIte, reduceCtorEq]; first | done | assumption | rfl) | assumption | exact z2_eq | exact z1_eq | (simp [zGS, zMS]; first | done | assumption) | rfl) dX10_work_104 rfl ?_
      refine r_iconst dX10_work_105 kc_4 rfl ?_
      refine r_iremN (by omega) (by omega) (by omega) dX10_work_106 rfl ?_
      rw [show (4 * r + i) % 4 = i by omega]
      refine r_iconst dX10_work_107 kc_1 rfl ?_
      refine r_iaddN dX10_work_108 rfl ?_
      refine m_ialdv hm 20 _ (by decide) (by decide) rfl rfl (by show _ < 5; omega) (by first | (simp only [zGS, zMS, Nat.reduceEqDiff, OfNat.ofNat_ne_ofNat, false_and, and_false, true_and, and_true, and_self, if_true, if_false, ite_true, ite_false, reduceIte, reduceCtorEq]; first | done | assumption | rfl) | assumption | exact z2_eq | exact z1_eq | (simp [zGS, zMS]; first | done | assumption) | rfl) dX10_work_109 rfl ?_
      refine r_icmp_neN (by omega) (by omega) (r := 117) dX10_work_110 (by decide) rfl (fun c_110 => ?_) (fun c_110 => ?_)
      · exact absurd rfl c_110
      · refine r_iconst dX10_work_113 kc_1 rfl ?_
        refine r_goto (r := 118) dX10_work_114 (by decide) ?_
        refine r_istore (ls' := [_, _, _, _, _, _, _]) dX10_work_118 (Nat.le_of_ble_eq_true rfl) rfl rfl ?_
        refine r_iload dX10_work_120 rfl rfl ?_
        refine r_if_eqN (by omega) (r := 129) dX10_work_122 (by decide) rfl (fun c_122 => ?_) (fun c_122 => ?_)
        · exact absurd c_122 (by decide)
        · refine r_iconst dX10_work_125 kc_m1 rfl ?_
          refine r_goto (r := 136) dX10_work_126 (by decide) ?_
          refine r_istore (ls' := [_, _, _, _, _, _, _]) dX10_work_136 (Nat.le_of_ble_eq_true rfl) rfl rfl ?_
          refine r_iload dX10_work_138 rfl rfl ?_
          refine r_if_eqN (by omega) (r := 150) dX10_work_140 (by decide) rfl (fun c_140 => ?_) (fun c_140 => ?_)
          · exact absurd c_140 (by decide)
          · exact K _ _ _
section ZFR
variable (E : ZE) (mo : Nat) (w : ZW) (d e p : Nat) (T : List PEl) (Rs : List PRule) (B : List Nat) (V : Nat → Nat → UInt32) (sg0 : ZM) (x1 : Value) (P : ZPhi)
def FRp (n : Nat) : Prop := ∀ (dp H r i pl : Nat) (slot : Int32) (KS : Nat → Nat × PVal) (D : PDecl) (R : PRule) (pre rest : List PStep) (st : List PVal) (f0 : Nat) (sg : ZM) (x4 x5 x6 : Option Value), wkI T Rs (wantP p) (emU T V e p) (whU T V e p) sg0 sg dp H r i pl slot KS D R pre rest st f0 → (∀ s ∈ rest, okSt s) → st.length ≤ 15 → kOk T Rs (wantP p) (emU T V e p) (whU T V e p) KS D pl → dp + unk KS ≤ 96 → unk KS ≤ n → H ≤ 15 * dp →
  ((∀ f, ev T (ldD T Rs) (wantP p) (emU T V e p) (whU T V e p) f D pl = none) → ∀ sg' x4 x5 x6 dp', wB sg0 sg' → mi sg' 56 = zb true → mi sg' 48 = nI (dp' + 1) → dp' < 100 → RW E MX10_work 46 [some (.ref mo), some x1, some (.int (nI e)), some (.int (nI p)), x4, x5, x6] [] w sg' d 0 0 P) →
  (∀ sg' KS' v f x4 x5 x6, wkI T Rs (wantP p) (emU T V e p) (whU T V e p) sg0 sg' dp H r i pl slot KS' D R D.2.2.2 [] [v] f → kOk T Rs (wantP p) (emU T V e p) (whU T V e p) KS' D pl → unk KS' ≤ unk KS → (∀ x, x < 96 → (KS' x).1 = 1 → (KS x).1 = 1) → loS sg sg' dp H → RW E MX10_work 46 [some (.ref mo), some x1, some (.int (nI e)), some (.int (nI p)), x4, x5, x6] [] w sg' d 0 0 P) →
  RW E MX10_work 46 [some (.ref mo), some x1, some (.int (nI e)), some (.int (nI p)), x4, x5, x6] [] w sg d 0 0 P
end ZFR
