/-! ===== the model: its tree ===== -/
def parI (T : List PEl) (e : Nat) : Int32 := match tP T e with
  | none => -1
  | some p => nI p
def mTree (sg : ZM) (T : List PEl) : Prop := wfT T ∧ mi sg 1 = nI T.length ∧ ∀ e, e < T.length → ma sg 1 e = parI T e ∧ ma sg 2 e = nI (tG T e) ∧ ma sg 3 e = nI (tI T e) ∧ ma sg 4 e = nI (tC T e) ∧ ma sg 5 e = nI (idxT T e) ∧ ma sg 6 e = nI (bcnt (isKid T e) T.length)
theorem bcnt_last {f : Nat → Bool} {e : Nat} (he : f e = true) : ∀ {n : Nat}, e < n → (decide (bcnt f e + 1 = bcnt f n) = decide (blast f n = 2 ^ e)) ∧ bcnt f e + 1 ≤ bcnt f n
  | 0, h => absurd h (Nat.not_lt_zero e)
  | n + 1, h => by
    by_cases c : e = n
    · subst c
      have e1 : bcnt f (e + 1) = bcnt f e + 1 := by show bcnt f e + (if f e = true then 1 else 0) = _; rw [if_pos he]
      have e2 : blast f (e + 1) = 2 ^ e := by show (if f e = true then 2 ^ e else blast f e) = _; rw [if_pos he]
      rw [e1, e2, decide_eq_true rfl, decide_eq_true rfl]
      exact ⟨rfl, Nat.le_refl _⟩
    · obtain ⟨i1, i2⟩ := bcnt_last he (show e < n by omega)
      by_cases q : f n = true
      · have e1 : bcnt f (n + 1) = bcnt f n + 1 := by show bcnt f n + (if f n = true then 1 else 0) = _; rw [if_pos q]
        have e2 : blast f (n + 1) = 2 ^ n := by show (if f n = true then 2 ^ n else blast f n) = _; rw [if_pos q]
        rw [e1, e2, decide_eq_false (by omega), decide_eq_false (fun z => by
          have h3 : 2 ^ e < 2 ^ n := Nat.pow_lt_pow_right (by decide) (by omega)
          omega)]
        exact ⟨rfl, by omega⟩
      · have e1 : bcnt f (n + 1) = bcnt f n := by show bcnt f n + (if f n = true then 1 else 0) = _; rw [if_neg q]; rfl
        have e2 : blast f (n + 1) = blast f n := by show (if f n = true then 2 ^ n else blast f n) = _; rw [if_neg q]
        rw [e1, e2]
        exact ⟨i1, i2⟩
theorem last_eq {T : List PEl} {e p : Nat} (he : e < T.length) (h : tP T e = some p) : lastB T e = decide (idxT T e = bcnt (isKid T p) T.length) := by
  have hk : isKid T p e = true := decide_eq_true h
  unfold lastB idxT lastS
  rw [h]
  exact (bcnt_last hk he).1.symm
theorem nI_neg {n : Nat} (h : n < 2147483648) : nI n ≠ -1 := fun z => by
  have h2 := congrArg (fun y : Int32 => y.toBitVec.toNat) z
  rw [nI_bv h] at h2
  have h3 : ((-1 : Int32)).toBitVec.toNat = 4294967295 := by decide
  omega
theorem q_isLast (E : ZE) (mo : Nat) (hm : E.2.2.2.2 = some mo) (w : ZW) (sg : ZM) (d e : Nat) (T : List PEl) (he : e < T.length) (h : mTree sg T) : CallQ E MX10_isLast [.ref mo, .int (nI e)] w sg d 0 0 (fun v w' sg' => v = some (.int (zb (lastB T e))) ∧ w = w' ∧ sg = sg') := by
  obtain ⟨hw, h1, h2⟩ := h
  have h24 := hw.1
  obtain ⟨a1, a2, a3, a4, a5, a6⟩ := h2 e he
  unfold parI at a1
  refine CallQ.of rfl (by simp [Value.category]) (Nat.le_of_ble_eq_true rfl) ?_
  cases hq : tP T e with
  | none =>
    rw [hq] at a1
    have e1 : lastB T e = true := by unfold lastB; rw [hq]
    rw [e1]
    refine r_aload_n dX10_isLast_0 rfl (zRv_ref _) rfl ?_
    refine m_geta hm 2 1 lfX10_7 rfl (by decide) dX10_isLast_1 rfl ?_
    refine r_iload_n dX10_isLast_4 rfl rfl ?_
    refine m_ialdv hm 1 _ (by decide) (by decide) rfl rfl (by show _ < 24; omega) (by first | (simp only [zGS, zMS, Nat.reduceEqDiff, OfNat.ofNat_ne_ofNat, false_and, and_false, true_and, and_true, and_self, if_true, if_false, ite_true, ite_false, reduceIte, reduceCtorEq]; first | done | assumption | rfl) | assumption | exact z2_eq | exact z1_eq | (simp [zGS, zMS]; first | done | assumption) | rfl) dX10_isLast_5 rfl ?_
    refine r_iconst dX10_isLast_6 kc_m1 rfl ?_
    refine r_icmp_eq (r := 30) dX10_isLast_7 (by decide) rfl (fun c_7 => ?_) (fun c_7 => ?_)
    · refine r_iconst dX10_isLast_30 kc_1 rfl ?_
      refine r_goto (r := 35) dX10_isLast_31 (by decide) ?_
      refine r_zret .boolean rfl rfl dX10_isLast_35 ?_
      exact ⟨rfl, rfl, rfl⟩
    · exact absurd rfl c_7
  | some p =>
    rw [hq] at a1
    have hpe := hw.2.1 e p hq
    obtain ⟨b1, b2, b3, b4, b5, b6⟩ := h2 p (by omega)
    have hb := bcnt_le (isKid T p) T.length
    have hi : idxT T e < 100 := by
      unfold idxT
      rw [hq]
      have := bcnt_le (isKid T p) e
      show bcnt (isKid T p) e + 1 < 100
      omega
    rw [last_eq he hq]
    refine r_aload_n dX10_isLast_0 rfl (zRv_ref _) rfl ?_
    refine m_geta hm 2 1 lfX10_7 rfl (by decide) dX10_isLast_1 rfl ?_
    refine r_iload_n dX10_isLast_4 rfl rfl ?_
    refine m_ialdv hm 1 _ (by decide) (by decide) rfl rfl (by show _ < 24; omega) (by first | (simp only [zGS, zMS, Nat.reduceEqDiff, OfNat.ofNat_ne_ofNat, false_and, and_false, true_and, and_true, and_self, if_true, if_false, ite_true, ite_false, reduceIte, reduceCtorEq]; first | done | assumption | rfl) | assumption | exact z2_eq | exact z1_eq | (simp [zGS, zMS]; first | done | assumption) | rfl) dX10_isLast_5 rfl ?_
    refine r_iconst dX10_isLast_6 kc_m1 rfl ?_
    refine r_icmp_eq (r := 30) dX10_isLast_7 (by decide) rfl (fun c_7 => ?_) (fun c_7 => ?_)
    · exact absurd c_7 (nI_neg (by omega))
    · refine r_aload_n dX10_isLast_10 rfl (zRv_ref _) rfl ?_
      refine m_geta hm 6 5 lfX10_22 rfl (by decide) dX10_isLast_11 rfl ?_
      refine r_iload_n dX10_isLast_14 rfl rfl ?_
      refine m_ialdv hm 5 _ (by decide) (by decide) rfl rfl (by show _ < 24; omega) (by first | (simp only [zGS, zMS, Nat.reduceEqDiff, OfNat.ofNat_ne_ofNat, false_and, and_false, true_and, and_true, and_self, if_true, if_false, ite_true, ite_false, reduceIte, reduceCtorEq]; first | done | assumption | rfl) | assumption | exact z2_eq | exact z1_eq | (simp [zGS, zMS]; first | done | assumption) | rfl) dX10_isLast_15 rfl ?_
      refine r_aload_n dX10_isLast_16 rfl (zRv_ref _) rfl ?_
      refine m_geta hm 7 6 lfX10_25 rfl (by decide) dX10_isLast_17 rfl ?_
      refine r_aload_n dX10_isLast_20 rfl (zRv_ref _) rfl ?_
      refine m_geta hm 2 1 lfX10_7 rfl (by decide) dX10_isLast_21 rfl ?_
      refine r_iload_n dX10_isLast_24 rfl rfl ?_
      refine m_ialdv hm 1 _ (by decide) (by decide) rfl rfl (by show _ < 24; omega) (by first | (simp only [zGS, zMS, Nat.reduceEqDiff, OfNat.ofNat_ne_ofNat, false_and, and_false, true_and, and_true, and_self, if_true, if_false, ite_true, ite_false, reduceIte, reduceCtorEq]; first | done | assumption | rfl) | assumption | exact z2_eq | exact z1_eq | (simp [zGS, zMS]; first | done | assumption) | rfl) dX10_isLast_25 rfl ?_
      refine m_ialdv hm 6 _ (by decide) (by decide) rfl rfl (by show _ < 24; omega) (by first | (simp only [zGS, zMS, Nat.reduceEqDiff, OfNat.ofNat_ne_ofNat, false_and, and_false, true_and, and_true, and_self, if_true, if_false, ite_true, ite_false, reduceIte, reduceCtorEq]; first | done | assumption | rfl) | assumption | exact z2_eq | exact z1_eq | (simp [zGS, zMS]; first | done | assumption) | rfl) dX10_isLast_26 rfl ?_
      refine r_icmp_neN (by omega) (by omega) (r := 34) dX10_isLast_27 (by decide) rfl (fun c_27 => ?_) (fun c_27 => ?_)
      · refine r_iconst dX10_isLast_34 kc_0 rfl ?_
        refine r_zret .boolean rfl rfl dX10_isLast_35 ?_
        rw [decide_eq_false c_27]
        exact ⟨rfl, rfl, rfl⟩
      · refine r_iconst dX10_isLast_30 kc_1 rfl ?_
        refine r_goto (r := 35) dX10_isLast_31 (by decide) ?_
        refine r_zret .boolean rfl rfl dX10_isLast_35 ?_
        rw [decide_eq_true c_27]
        exact ⟨rfl, rfl, rfl⟩
