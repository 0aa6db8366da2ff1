/-! ===== reading numbers and sums ===== -/
/-- only what a reader of sums writes -/
def TBu (tb sp nm : Nat) (w w' : ZW) : Prop := zsz w' = zsz w ∧ zk w' = zk w ∧ zln w' = zln w ∧ (∀ f a, ¬ (a = tb ∧ (f = 903 ∨ f = 906)) → zi w' f a = zi w f a) ∧ zr w' = zr w ∧ zf w' = zf w ∧ (∀ a, a ≠ sp → za w' a = za w a) ∧ zq w' = zq w ∧ (∀ a, a ≠ nm → zg w' a = zg w a) ∧ zl w' = zl w ∧ zd w' = zd w
theorem TBu.rf {tb sp nm : Nat} {w : ZW} : TBu tb sp nm w w := ⟨rfl, rfl, rfl, fun _ _ _ => rfl, rfl, rfl, fun _ _ => rfl, rfl, fun _ _ => rfl, rfl, rfl⟩
theorem TBu.tr {tb sp nm : Nat} {w w1 w2 : ZW} (h : TBu tb sp nm w w1) (g : TBu tb sp nm w1 w2) : TBu tb sp nm w w2 := by
  obtain ⟨a1, a2, a3, a4, a5, a6, a7, a8, a9, a10, a11⟩ := h
  obtain ⟨b1, b2, b3, b4, b5, b6, b7, b8, b9, b10, b11⟩ := g
  exact ⟨b1.trans a1, b2.trans a2, b3.trans a3, fun f a e => (b4 f a e).trans (a4 f a e), b5.trans a5, b6.trans a6, fun a e => (b7 a e).trans (a7 a e), b8.trans a8, fun a e => (b9 a e).trans (a9 a e), b10.trans a10, b11.trans a11⟩
theorem TBu.at_ {tb sp nm : Nat} {w : ZW} {v : Int32} : TBu tb sp nm w (zsi w 903 tb v) := ⟨rfl, rfl, rfl, fun f a e => by rw [zi_zsi, if_neg (fun q => e ⟨q.2, Or.inl q.1⟩)], rfl, rfl, fun _ _ => rfl, rfl, fun _ _ => rfl, rfl, rfl⟩
theorem TBu.s {tb tx sp nm : Nat} {w w' : ZW} (h : TBu tb sp nm w w') (g : TBs w tb tx sp nm) : TBs w' tb tx sp nm := by
  obtain ⟨a1, a2, a3, a4, a5, a6, a7, a8, a9, a10, a11⟩ := h
  unfold TBs
  rw [a2, a3, a5]
  exact g
theorem TBs.ne {tb tx sp nm : Nat} {w : ZW} (g : TBs w tb tx sp nm) : tx ≠ sp := by
  intro e
  have h1 := g.2.2.2.2.1
  have h2 := g.2.2.2.2.2.2.1
  rw [e, h2] at h1
  cases h1
/-- the steps kept so far -/
def TBk (w : ZW) (tb sp nm : Nat) (ss : List PStep) : Prop := zi w 906 tb = nI ss.length ∧ ∀ i s, ss[i]? = some s → za w sp i = nI s.1 ∧ zg w nm i = s.2
theorem TBk.at_ {w : ZW} {tb sp nm : Nat} {ss : List PStep} {v : Int32} (h : TBk w tb sp nm ss) : TBk (zsi w 903 tb v) tb sp nm ss := ⟨by rw [zi_zsi, if_neg (fun e => absurd e.1 (by decide))]; exact h.1, h.2⟩
/-- what is read and kept -/
def TBm (w : ZW) (tb tx sp nm : Nat) (r : List Nat) (ss : List PStep) : Prop := TBs w tb tx sp nm ∧ (∃ a, TBr w tb tx a r) ∧ TBk w tb sp nm ss
/-- somewhere in the text -/
def TBx (w : ZW) (tb tx sp nm : Nat) : Prop := TBs w tb tx sp nm ∧ ∃ a r, TBr w tb tx a r
theorem TBm.k {w : ZW} {tb tx sp nm : Nat} {r : List Nat} {ss : List PStep} (h : TBm w tb tx sp nm r ss) : zk w tb = 9 := h.1.1
theorem TBm.x {w : ZW} {tb tx sp nm : Nat} {r : List Nat} {ss : List PStep} (h : TBm w tb tx sp nm r ss) : TBx w tb tx sp nm := ⟨h.1, h.2.1.choose, r, h.2.1.choose_spec⟩
theorem TBm.len {w : ZW} {tb tx sp nm : Nat} {r : List Nat} {ss : List PStep} (h : TBm w tb tx sp nm r ss) : r.length ≤ 120 := by
  obtain ⟨-, ⟨a, h⟩, -⟩ := h
  have := h.2.2.1
  omega
/-- what a reader of sums answers -/
def zqS (tb tx sp nm : Nat) (w : ZW) (sg : ZM) (ss : List PStep) (o : Option (List PStep × List Nat)) : ZQ := fun v w' sg' => sg = sg' ∧ TBu tb sp nm w w' ∧ v = some (.int (zb o.isSome)) ∧ match o with
  | some (s, r') => TBm w' tb tx sp nm r' (ss ++ s)
  | none => TBx w' tb tx sp nm
/-- 'take' in these words -/
theorem sp_take (E : ZE) (w : ZW) (sg : ZM) (d tb tx sp nm c : Nat) (hc : c < 65536) (r : List Nat) (ss : List PStep) (h : TBm w tb tx sp nm r ss) : CallQ E MX8_take [.ref tb, .int (nI c)] w sg d 0 0 (fun v w' sg' => sg = sg' ∧ TBu tb sp nm w w' ∧ v = some (.int (zb (pCh c r).isSome)) ∧ TBm w' tb tx sp nm ((pCh c r).getD r) ss) := by
  obtain ⟨h1, ⟨a, h2⟩, h3⟩ := h
  refine (sp_X8_take E w sg d tb tx sp nm a c hc r h1 h2).mono ?_
  rintro v w' sg' ⟨rfl, rfl, rfl⟩
  cases r with
  | nil => exact ⟨rfl, TBu.rf, rfl, h1, ⟨a, h2⟩, h3⟩
  | cons x r =>
    by_cases e : x = c
    · simp only [hdis, pCh, e, decide_true, if_true]
      exact ⟨by trivial, TBu.at_, rfl, TBu.at_.s h1, ⟨a + 1, h2.nx⟩, h3.at_⟩
    · simp only [hdis, pCh, e, decide_false, if_false]
      exact ⟨by trivial, TBu.rf, rfl, h1, ⟨a, h2⟩, h3⟩
theorem sp_X8_keep (E : ZE) (w : ZW) (sg : ZM) (d tb tx sp nm k : Nat) (f : UInt32) (r : List Nat) (ss : List PStep) (hl : ss.length < 120) (h : TBm w tb tx sp nm r ss) : CallQ E MX8_keep [.ref tb, .int (nI k), .float f] w sg d 0 0 (fun v w' sg' => sg = sg' ∧ TBu tb sp nm w w' ∧ v = none ∧ TBm w' tb tx sp nm r (ss ++ [(k, f)])) := by
  obtain ⟨hs, ⟨a, h2⟩, h3⟩ := h
  have hne := hs.ne
  have hs0 := hs
  obtain ⟨g1, g2, g3, g4, g5, g6, g7, g8, g9, g10⟩ := hs
  have k1 := h3.1
  refine CallQ.of rfl (by simp [Value.category]) (Nat.le_of_ble_eq_true rfl) ?_
  refine r_aload_n dX8_keep_0 rfl (zRv_ref _) rfl ?_
  refine r_getiv 8 6 906 lfX8_33 (by first | (simp only [zKS]; first | assumption) | assumption | exact zk_nself _ _ _ | (simp [zKS, zNS, *]; done)) rfl rfl (by first | (simp only [zGS, zMS, Nat.reduceEqDiff, OfNat.ofNat_ne_ofNat, false_and, and_false, true_and, and_true, and_self, if_true, if_false, ite_true, ite_false, reduceIte, reduceCtorEq]; first | done | assumption | rfl) | assumption | exact z2_eq | exact z1_eq | (simp [zGS, zMS]; first | done | assumption) | rfl) dX8_keep_1 rfl ?_
  refine r_aload_n dX8_keep_4 rfl (zRv_ref _) rfl ?_
  refine r_gets 8 4 904 lfX8_25 (by first | (simp only [zKS]; first | assumption) | assumption | exact zk_nself _ _ _ | (simp [zKS, zNS, *]; done)) rfl rfl (by first | (simp only [zGS, Nat.reduceEqDiff, OfNat.ofNat_ne_ofNat, false_and, and_false, true_and, and_true, and_self, if_true, if_false, ite_true, ite_false, reduceIte, reduceCtorEq]; first | done | assumption) | assumption | exact z2_eq | (simp [zGS]; first | done | assumption)) dX8_keep_5 rfl ?_
  refine r_alenv 2 (by decide) (by first | (simp only [zKS]; first | assumption) | assumption | exact zk_nself _ _ _ | (simp [zKS, zNS, *]; done)) (by first | (simp only [zGS, zMS, Nat.reduceEqDiff, OfNat.ofNat_ne_ofNat, false_and, and_false, true_and, and_true, and_self, if_true, if_false, ite_true, ite_false, reduceIte, reduceCtorEq]; first | done | assumption | rfl) | assumption | exact z2_eq | exact z1_eq | (simp [zGS, zMS]; first | done | assumption) | rfl) dX8_keep_8 rfl ?_
  refine r_icmp_geN (by omega) (by omega) (r := 42) dX8_keep_9 (by decide) rfl (fun c_9 => ?_) (fun c_9 => ?_)
  · exact absurd c_9 (by omega)
  · refine r_aload_n dX8_keep_12 rfl (zRv_ref _) rfl ?_
    refine r_gets 8 4 904 lfX8_25 (by first | (simp only [zKS]; first | assumption) | assumption | exact zk_nself _ _ _ | (simp [zKS, zNS, *]; done)) rfl rfl (by first | (simp only [zGS, Nat.reduceEqDiff, OfNat.ofNat_ne_ofNat, false_and, and_false, true_and, and_true, and_self, if_true, if_false, ite_true, ite_false, reduceIte, reduceCtorEq]; first | done | assumption) | assumption | exact z2_eq | (simp [zGS]; first | done | assumption)) dX8_keep_13 rfl ?_
    refine r_aload_n dX8_keep_16 rfl (zRv_ref _) rfl ?_
    refine r_getiv 8 6 906 lfX8_33 (by first | (simp only [zKS]; first | assumption) | assumption | exact zk_nself _ _ _ | (simp [zKS, zNS, *]; done)) rfl rfl (by first | (simp only [zGS, zMS, Nat.reduceEqDiff, OfNat.ofNat_ne_ofNat, false_and, and_false, true_and, and_true, and_self, if_true, if_false, ite_true, ite_false, reduceIte, reduceCtorEq]; first | done | assumption | rfl) | assumption | exact z2_eq | exact z1_eq | (simp [zGS, zMS]; first | done | assumption) | rfl) dX8_keep_17 rfl ?_
    refine r_iload_n dX8_keep_20 rfl rfl ?_
    refine r_iast _ (by first | (simp only [zKS]; first | assumption) | assumption | exact zk_nself _ _ _ | (simp [zKS, zNS, *]; done)) rfl (by first | (rw [show zln _ _ = _ by assumption]; omega) | (simp only [zKS, *]; omega) | (simp [zKS, *]; omega)) (by omega) dX8_keep_21 rfl ?_
    refine r_aload_n dX8_keep_22 rfl (zRv_ref _) rfl ?_
    refine r_gets 8 5 905 lfX8_29 (by first | (simp only [zKS]; first | assumption) | assumption | exact zk_nself _ _ _ | (simp [zKS, zNS, *]; done)) rfl rfl (by first | (simp only [zGS, Nat.reduceEqDiff, OfNat.ofNat_ne_ofNat, false_and, and_false, true_and, and_true, and_self, if_true, if_false, ite_true, ite_false, reduceIte, reduceCtorEq]; first | done | assumption) | assumption | exact z2_eq | (simp [zGS]; first | done | assumption)) dX8_keep_23 rfl ?_
    refine r_aload_n dX8_keep_26 rfl (zRv_ref _) rfl ?_
    refine r_getiv 8 6 906 lfX8_33 (by first | (simp only [zKS]; first | assumption) | assumption | exact zk_nself _ _ _ | (simp [zKS, zNS, *]; done)) rfl rfl (by first | (simp only [zGS, zMS, Nat.reduceEqDiff, OfNat.ofNat_ne_ofNat, false_and, and_false, true_and, and_true, and_self, if_true, if_false, ite_true, ite_false, reduceIte, reduceCtorEq]; first | done | assumption | rfl) | assumption | exact z2_eq | exact z1_eq | (simp [zGS, zMS]; first | done | assumption) | rfl) dX8_keep_27 rfl ?_
    refine r_fload_n dX8_keep_30 rfl rfl ?_
    refine r_fast _ (by first | (simp only [zKS]; first | assumption) | assumption | exact zk_nself _ _ _ | (simp [zKS, zNS, *]; done)) rfl (by first | (rw [show zln _ _ = _ by assumption]; omega) | (simp only [zKS, *]; omega) | (simp [zKS, *]; omega)) (by omega) dX8_keep_31 rfl ?_
    refine r_aload_n dX8_keep_32 rfl (zRv_ref _) rfl ?_
    refine r_dup dX8_keep_33 (by first | rfl | exact zcat_rf _) rfl ?_
    refine r_getiv 8 6 906 lfX8_33 (by first | (simp only [zKS]; first | assumption) | assumption | exact zk_nself _ _ _ | (simp [zKS, zNS, *]; done)) rfl rfl (by first | (simp only [zGS, zMS, Nat.reduceEqDiff, OfNat.ofNat_ne_ofNat, false_and, and_false, true_and, and_true, and_self, if_true, if_false, ite_true, ite_false, reduceIte, reduceCtorEq]; first | done | assumption | rfl) | assumption | exact z2_eq | exact z1_eq | (simp [zGS, zMS]; first | done | assumption) | rfl) dX8_keep_34 rfl ?_
    refine r_iconst dX8_keep_37 kc_1 rfl ?_
    refine r_iaddN dX8_keep_38 rfl ?_
    refine r_puti 8 6 906 lfX8_33 (by first | (simp only [zKS]; first | assumption) | assumption | exact zk_nself _ _ _ | (simp [zKS, zNS, *]; done)) rfl rfl rfl (Or.inl rfl) dX8_keep_39 rfl ?_
    refine r_vret rfl dX8_keep_42 ?_
    refine ⟨rfl, ⟨rfl, rfl, rfl, fun f a e => ?_, rfl, rfl, fun a e => ?_, rfl, fun a e => ?_, rfl, rfl⟩, rfl, hs0, ⟨a, ?_, ?_, h2.2.2.1, ?_, h2.2.2.2.2⟩, ?_, ?_⟩
    · rw [zi_zsi, if_neg (fun q => e ⟨q.2, Or.inr q.1⟩)]; rfl
    · exact z2_row e
    · exact z2_row e
    · rw [zi_zsi, if_neg (fun q => absurd q.1 (by decide))]; exact h2.1
    · rw [zi_zsi, if_neg (fun q => absurd q.1 (by decide))]; exact h2.2.1
    · intro i c hi
      rw [za_zsi, za_zsg, za_zsa, if_neg (fun q => hne q.1)]
      exact h2.2.2.2.1 i c hi
    · rw [List.length_append]; exact z2_eq
    · intro i s hi
      rw [za_zsi, za_zsg, za_zsa, zg_zsi, zg_zsg, zg_zsa]
      by_cases e : i = ss.length
      · subst e
        rw [List.getElem?_append_right (Nat.le_refl _), Nat.sub_self] at hi
        cases hi
        exact ⟨if_pos ⟨rfl, rfl⟩, if_pos ⟨rfl, rfl⟩⟩
      · rw [if_neg (fun q => e q.2), if_neg (fun q => e q.2)]
        have hl2 : i < (ss ++ [(k, f)]).length := (List.getElem?_eq_some_iff.mp hi).1
        rw [List.length_append, List.length_singleton] at hl2
        rw [List.getElem?_append_left (by omega)] at hi
        exact h3.2 i s hi
/-- 'readDigit' -/
def dig0 (r : List Nat) : Int32 := match pDig r with
  | none => -1
  | some (x, _) => nI x
theorem sp_X8_readDigit (E : ZE) (w : ZW) (sg : ZM) (d tb tx sp nm : Nat) (r : List Nat) (ss : List PStep) (h : TBm w tb tx sp nm r ss) : CallQ E MX8_readDigit [.ref tb] w sg d 0 0 (fun v w' sg' => sg = sg' ∧ TBu tb sp nm w w' ∧ v = some (.int (dig0 r)) ∧ TBm w' tb tx sp nm (match pDig r with | none => r | some (_, r') => r') ss) := by
  obtain ⟨hs, ⟨a, h2⟩, h3⟩ := h
  have hs0 := hs
  obtain ⟨g1, g2, g3, g4, g5, g6, g7, g8, g9, g10⟩ := hs
  have hr0 := h2
  obtain ⟨r1, r2, r3, -, -⟩ := h2
  refine CallQ.of rfl (by simp [Value.category]) (Nat.le_of_ble_eq_true rfl) ?_
  cases r with
  | nil =>
    refine r_aload_n dX8_readDigit_0 rfl (zRv_ref _) rfl ?_
    refine r_getiv 8 3 903 lfX8_22 (by first | (simp only [zKS]; first | assumption) | assumption | exact zk_nself _ _ _ | (simp [zKS, zNS, *]; done)) rfl rfl (by first | (simp only [zGS, zMS, Nat.reduceEqDiff, OfNat.ofNat_ne_ofNat, false_and, and_false, true_and, and_true, and_self, if_true, if_false, ite_true, ite_false, reduceIte, reduceCtorEq]; first | done | assumption | rfl) | assumption | exact z2_eq | exact z1_eq | (simp [zGS, zMS]; first | done | assumption) | rfl) dX8_readDigit_1 rfl ?_
    refine r_aload_n dX8_readDigit_4 rfl (zRv_ref _) rfl ?_
    refine r_getiv 8 2 902 lfX8_19 (by first | (simp only [zKS]; first | assumption) | assumption | exact zk_nself _ _ _ | (simp [zKS, zNS, *]; done)) rfl rfl (by first | (simp only [zGS, zMS, Nat.reduceEqDiff, OfNat.ofNat_ne_ofNat, false_and, and_false, true_and, and_true, and_self, if_true, if_false, ite_true, ite_false, reduceIte, reduceCtorEq]; first | done | assumption | rfl) | assumption | exact z2_eq | exact z1_eq | (simp [zGS, zMS]; first | done | assumption) | rfl) dX8_readDigit_5 rfl ?_
    refine r_icmp_geN (by omega) (by omega) (r := 64) dX8_readDigit_8 (by decide) rfl (fun c_8 => ?_) (fun c_8 => ?_)
    · refine r_iconst dX8_readDigit_64 kc_m1 rfl ?_
      refine r_iret rfl dX8_readDigit_65 ?_
      exact ⟨rfl, TBu.rf, rfl, hs0, ⟨a, hr0⟩, h3⟩
    · exact absurd c_8 (by simp)
  | cons c r =>
    have e1 := hr0.hd.1
    have e2 := hr0.hd.2
    rw [List.length_cons] at r2 r3
    have q1 : pDig (c :: r) = if 48 ≤ c ∧ c ≤ 57 then some (c - 48, r) else none := rfl
    refine r_aload_n dX8_readDigit_0 rfl (zRv_ref _) rfl ?_
    refine r_getiv 8 3 903 lfX8_22 (by first | (simp only [zKS]; first | assumption) | assumption | exact zk_nself _ _ _ | (simp [zKS, zNS, *]; done)) rfl rfl (by first | (simp only [zGS, zMS, Nat.reduceEqDiff, OfNat.ofNat_ne_ofNat, false_and, and_false, true_and, and_true, and_self, if_true, if_false, ite_true, ite_false, reduceIte, reduceCtorEq]; first | done | assumption | rfl) | assumption | exact z2_eq | exact z1_eq | (simp [zGS, zMS]; first | done | assumption) | rfl) dX8_readDigit_1 rfl ?_
    refine r_aload_n dX8_readDigit_4 rfl (zRv_ref _) rfl ?_
    refine r_getiv 8 2 902 lfX8_19 (by first | (simp only [zKS]; first | assumption) | assumption | exact zk_nself _ _ _ | (simp [zKS, zNS, *]; done)) rfl rfl (by first | (simp only [zGS, zMS, Nat.reduceEqDiff, OfNat.ofNat_ne_ofNat, false_and, and_false, true_and, and_true, and_self, if_true, if_false, ite_true, ite_false, reduceIte, reduceCtorEq]; first | done | assumption | rfl) | assumption | exact z2_eq | exact z1_eq | (simp [zGS, zMS]; first | done | assumption) | rfl) dX8_readDigit_5 rfl ?_
    refine r_icmp_geN (by omega) (by omega) (r := 64) dX8_readDigit_8 (by decide) rfl (fun c_8 => ?_) (fun c_8 => ?_)
    · exact absurd c_8 (by omega)
    · refine r_aload_n dX8_readDigit_11 rfl (zRv_ref _) rfl ?_
      refine r_gets 8 0 900 lfX8_9 (by first | (simp only [zKS]; first | assumption) | assumption | exact zk_nself _ _ _ | (simp [zKS, zNS, *]; done)) rfl rfl (by first | (simp only [zGS, Nat.reduceEqDiff, OfNat.ofNat_ne_ofNat, false_and, and_false, true_and, and_true, and_self, if_true, if_false, ite_true, ite_false, reduceIte, reduceCtorEq]; first | done | assumption) | assumption | exact z2_eq | (simp [zGS]; first | done | assumption)) dX8_readDigit_12 rfl ?_
      refine r_aload_n dX8_readDigit_15 rfl (zRv_ref _) rfl ?_
      refine r_getiv 8 3 903 lfX8_22 (by first | (simp only [zKS]; first | assumption) | assumption | exact zk_nself _ _ _ | (simp [zKS, zNS, *]; done)) rfl rfl (by first | (simp only [zGS, zMS, Nat.reduceEqDiff, OfNat.ofNat_ne_ofNat, false_and, and_false, true_and, and_true, and_self, if_true, if_false, ite_true, ite_false, reduceIte, reduceCtorEq]; first | done | assumption | rfl) | assumption | exact z2_eq | exact z1_eq | (simp [zGS, zMS]; first | done | assumption) | rfl) dX8_readDigit_16 rfl ?_
      refine r_caldv _ (by first | (simp only [zKS]; first | assumption) | assumption | exact zk_nself _ _ _ | (simp [zKS, zNS, *]; done)) rfl (by first | (rw [show zln _ _ = _ by assumption]; omega) | (simp only [zKS, *]; omega) | (simp [zKS, *]; omega)) (by omega) (by first | (simp only [zGS, zMS, Nat.reduceEqDiff, OfNat.ofNat_ne_ofNat, false_and, and_false, true_and, and_true, and_self, if_true, if_false, ite_true, ite_false, reduceIte, reduceCtorEq]; first | done | assumption | rfl) | assumption | exact z2_eq | exact z1_eq | (simp [zGS, zMS]; first | done | assumption) | rfl) dX8_readDigit_19 rfl ?_
      refine r_bipush dX8_readDigit_20 kb_48 rfl ?_
      refine r_icmp_ltN (by omega) (by omega) (r := 64) dX8_readDigit_22 (by decide) rfl (fun c_22 => ?_) (fun c_22 => ?_)
      · refine r_iconst dX8_readDigit_64 kc_m1 rfl ?_
        refine r_iret rfl dX8_readDigit_65 ?_
        simp only [dig0, q1, if_neg (show ¬ (48 ≤ c ∧ c ≤ 57) by omega)]; exact ⟨by trivial, TBu.rf, by trivial, hs0, ⟨a, hr0⟩, h3⟩
      · refine r_aload_n dX8_readDigit_25 rfl (zRv_ref _) rfl ?_
        refine r_gets 8 0 900 lfX8_9 (by first | (simp only [zKS]; first | assumption) | assumption | exact zk_nself _ _ _ | (simp [zKS, zNS, *]; done)) rfl rfl (by first | (simp only [zGS, Nat.reduceEqDiff, OfNat.ofNat_ne_ofNat, false_and, and_false, true_and, and_true, and_self, if_true, if_false, ite_true, ite_false, reduceIte, reduceCtorEq]; first | done | assumption) | assumption | exact z2_eq | (simp [zGS]; first | done | assumption)) dX8_readDigit_26 rfl ?_
        refine r_aload_n dX8_readDigit_29 rfl (zRv_ref _) rfl ?_
        refine r_getiv 8 3 903 lfX8_22 (by first | (simp only [zKS]; first | assumption) | assumption | exact zk_nself _ _ _ | (simp [zKS, zNS, *]; done)) rfl rfl (by first | (simp only [zGS, zMS, Nat.reduceEqDiff, OfNat.ofNat_ne_ofNat, false_and, and_false, true_and, and_true, and_self, if_true, if_false, ite_true, ite_false, reduceIte, reduceCtorEq]; first | done | assumption | rfl) | assumption | exact z2_eq | exact z1_eq | (simp [zGS, zMS]; first | done | assumption) | rfl) dX8_readDigit_30 rfl ?_
        refine r_caldv _ (by first | (simp only [zKS]; first | assumption) | assumption | exact zk_nself _ _ _ | (simp [zKS, zNS, *]; done)) rfl (by first | (rw [show zln _ _ = _ by assumption]; omega) | (simp only [zKS, *]; omega) | (simp [zKS, *]; omega)) (by omega) (by first | (simp only [zGS, zMS, Nat.reduceEqDiff, OfNat.ofNat_ne_ofNat, false_and, and_false, true_and, and_true, and_self, if_true, if_false, ite_true, ite_false, reduceIte, reduceCtorEq]; first | done | assumption | rfl) | assumption | exact z2_eq | exact z1_eq | (simp [zGS, zMS]; first | done | assumption) | rfl) dX8_readDigit_33 rfl ?_
        refine r_bipush dX8_readDigit_34 kb_57 rfl ?_
        refine r_icmp_gtN (by omega) (by omega) (r := 64) dX8_readDigit_36 (by decide) rfl (fun c_36 => ?_) (fun c_36 => ?_)
        · refine r_iconst dX8_readDigit_64 kc_m1 rfl ?_
          refine r_iret rfl dX8_readDigit_65 ?_
          simp only [dig0, q1, if_neg (show ¬ (48 ≤ c ∧ c ≤ 57) by omega)]; exact ⟨by trivial, TBu.rf, by trivial, hs0, ⟨a, hr0⟩, h3⟩
        · refine r_aload_n dX8_readDigit_39 rfl (zRv_ref _) rfl ?_
          refine r_dup dX8_readDigit_40 (by first | rfl | exact zcat_rf _) rfl ?_
          refine r_getiv 8 3 903 lfX8_22 (by first | (simp only [zKS]; first | assumption) | assumption | exact zk_nself _ _ _ | (simp [zKS, zNS, *]; done)) rfl rfl (by first | (simp only [zGS, zMS, Nat.reduceEqDiff, OfNat.ofNat_ne_ofNat, false_and, and_false, true_and, and_true, and_self, if_true, if_false, ite_true, ite_false, reduceIte, reduceCtorEq]; first | done | assumption | rfl) | assumption | exact z2_eq | exact z1_eq | (simp [zGS, zMS]; first | done | assumption) | rfl) dX8_readDigit_41 rfl ?_
          refine r_iconst dX8_readDigit_44 kc_1 rfl ?_
          refine r_iaddN dX8_readDigit_45 rfl ?_
          refine r_puti 8 3 903 lfX8_22 (by first | (simp only [zKS]; first | assumption) | assumption | exact zk_nself _ _ _ | (simp [zKS, zNS, *]; done)) rfl rfl rfl (Or.inl rfl) dX8_readDigit_46 rfl ?_
          refine r_aload_n dX8_readDigit_49 rfl (zRv_ref _) rfl ?_
          refine r_gets 8 0 900 lfX8_9 (by first | (simp only [zKS]; first | assumption) | assumption | exact zk_nself _ _ _ | (simp [zKS, zNS, *]; done)) rfl rfl (by first | (simp only [zGS, Nat.reduceEqDiff, OfNat.ofNat_ne_ofNat, false_and, and_false, true_and, and_true, and_self, if_true, if_false, ite_true, ite_false, reduceIte, reduceCtorEq]; first | done | assumption) | assumption | exact z2_eq | (simp [zGS]; first | done | assumption)) dX8_readDigit_50 rfl ?_
          refine r_aload_n dX8_readDigit_53 rfl (zRv_ref _) rfl ?_
          refine r_getiv 8 3 903 lfX8_22 (by first | (simp only [zKS]; first | assumption) | assumption | exact zk_nself _ _ _ | (simp [zKS, zNS, *]; done)) rfl rfl (by first | (simp only [zGS, zMS, Nat.reduceEqDiff, OfNat.ofNat_ne_ofNat, false_and, and_false, true_and, and_true, and_self, if_true, if_false, ite_true, ite_false, reduceIte, reduceCtorEq]; first | done | assumption | rfl) | assumption | exact z2_eq | exact z1_eq | (simp [zGS, zMS]; first | done | assumption) | rfl) dX8_readDigit_54 rfl ?_
          refine r_iconst dX8_readDigit_57 kc_1 rfl ?_
          refine r_isubN (by omega) dX8_readDigit_58 rfl ?_
          simp only [Nat.add_sub_cancel]
          refine r_caldv _ (by first | (simp only [zKS]; first | assumption) | assumption | exact zk_nself _ _ _ | (simp [zKS, zNS, *]; done)) rfl (by first | (rw [show zln _ _ = _ by assumption]; omega) | (simp only [zKS, *]; omega) | (simp [zKS, *]; omega)) (by omega) (by first | (simp only [zGS, zMS, Nat.reduceEqDiff, OfNat.ofNat_ne_ofNat, false_and, and_false, true_and, and_true, and_self, if_true, if_false, ite_true, ite_false, reduceIte, reduceCtorEq]; first | done | assumption | rfl) | assumption | exact z2_eq | exact z1_eq | (simp [zGS, zMS]; first | done | assumption) | rfl) dX8_readDigit_59 rfl ?_
          refine r_bipush dX8_readDigit_60 kb_48 rfl ?_
          refine r_isubN (by omega) dX8_readDigit_62 rfl ?_
          refine r_iret rfl dX8_readDigit_63 ?_
          simp only [dig0, q1, if_pos (show 48 ≤ c ∧ c ≤ 57 by omega)]; exact ⟨by trivial, TBu.at_, by trivial, TBu.at_.s hs0, ⟨a + 1, hr0.nx⟩, h3.at_⟩
/-- 'next', and so on, in these words -/
theorem sp_next (E : ZE) (w : ZW) (sg : ZM) (d tb tx sp nm : Nat) (r : List Nat) (ss : List PStep) (h : TBm w tb tx sp nm r ss) : CallQ E MX8_next [.ref tb] w sg d 0 0 (fun v w' sg' => sg = sg' ∧ TBu tb sp nm w w' ∧ v = some (.int (hd0 r)) ∧ TBm w' tb tx sp nm r.tail ss) := by
  obtain ⟨h1, ⟨a, h2⟩, h3⟩ := h
  refine (sp_X8_next E w sg d tb tx sp nm a r h1 h2).mono ?_
  rintro v w' sg' ⟨rfl, rfl, rfl⟩
  cases r with
  | nil => exact ⟨rfl, TBu.rf, rfl, h1, ⟨a, h2⟩, h3⟩
  | cons x r => exact ⟨rfl, TBu.at_, rfl, TBu.at_.s h1, ⟨a + 1, h2.nx⟩, h3.at_⟩
theorem sp_peek (E : ZE) (w : ZW) (sg : ZM) (d tb tx sp nm : Nat) (r : List Nat) (ss : List PStep) (h : TBm w tb tx sp nm r ss) : CallQ E MX8_peek [.ref tb] w sg d 0 0 (fun v w' sg' => v = some (.int (hd0 r)) ∧ w = w' ∧ sg = sg') := by
  obtain ⟨h1, ⟨a, h2⟩, h3⟩ := h
  exact sp_X8_peek E w sg d tb tx sp nm a r h1 h2
theorem TBm.c {w : ZW} {tb tx sp nm c : Nat} {r : List Nat} {ss : List PStep} (h : TBm w tb tx sp nm (c :: r) ss) : c < 128 := by
  obtain ⟨h1, ⟨a, h2⟩, h3⟩ := h
  exact h2.hd.2
/-- whether a digit (a letter) stands next -/
def isD (r : List Nat) : Bool := match r with
  | [] => false
  | c :: _ => decide (48 ≤ c ∧ c ≤ 57)
def isL (r : List Nat) : Bool := match r with
  | [] => false
  | c :: _ => decide (97 ≤ c ∧ c ≤ 122)
theorem sp_isDigit (E : ZE) (w : ZW) (sg : ZM) (d : Nat) (r : List Nat) (hr : ∀ c ∈ r, c < 128) : CallQ E MX9_isDigit [.int (hd0 r)] w sg d 0 0 (fun v w' sg' => v = some (.int (zb (isD r))) ∧ w = w' ∧ sg = sg') := by
  cases r with
  | nil =>
    refine CallQ.of rfl (by simp [Value.category]) (Nat.le_of_ble_eq_true rfl) ?_
    refine r_iload_n dX9_isDigit_0 rfl rfl ?_
    refine r_bipush dX9_isDigit_1 kb_48 rfl ?_
    refine r_icmp_lt (r := 16) dX9_isDigit_3 (by decide) rfl (fun c_3 => ?_) (fun c_3 => ?_)
    · refine r_iconst dX9_isDigit_16 kc_0 rfl ?_
      refine r_zret .boolean rfl rfl dX9_isDigit_17 ?_
      exact ⟨rfl, rfl, rfl⟩
    · exact absurd (show (-1 : Int32) < nI 48 by decide) c_3
  | cons c r => exact sp_X9_isDigit E w sg d c (by have := hr c List.mem_cons_self; omega)
theorem sp_isLetter (E : ZE) (w : ZW) (sg : ZM) (d : Nat) (r : List Nat) (hr : ∀ c ∈ r, c < 128) : CallQ E MX9_isLetter [.int (hd0 r)] w sg d 0 0 (fun v w' sg' => v = some (.int (zb (isL r))) ∧ w = w' ∧ sg = sg') := by
  cases r with
  | nil =>
    refine CallQ.of rfl (by simp [Value.category]) (Nat.le_of_ble_eq_true rfl) ?_
    refine r_iload_n dX9_isLetter_0 rfl rfl ?_
    refine r_bipush dX9_isLetter_1 kb_97 rfl ?_
    refine r_icmp_lt (r := 16) dX9_isLetter_3 (by decide) rfl (fun c_3 => ?_) (fun c_3 => ?_)
    · refine r_iconst dX9_isLetter_16 kc_0 rfl ?_
      refine r_zret .boolean rfl rfl dX9_isLetter_17 ?_
      exact ⟨rfl, rfl, rfl⟩
    · exact absurd (show (-1 : Int32) < nI 97 by decide) c_3
  | cons c r => exact sp_X9_isLetter E w sg d c (by have := hr c List.mem_cons_self; omega)
theorem TBm.cs {w : ZW} {tb tx sp nm : Nat} {r : List Nat} {ss : List PStep} (h : TBm w tb tx sp nm r ss) : ∀ c ∈ r, c < 128 := by
  obtain ⟨h1, ⟨a, h2⟩, h3⟩ := h
  exact h2.2.2.2.2
def nam0 (r : List Nat) : Int32 := match pNamed r with
  | none => -1
  | some (x, _) => nI x
theorem sp_X8_readNamed (E : ZE) (w : ZW) (sg : ZM) (d : Nat) (hd : 1 ≤ d) (tb tx sp nm : Nat) (r : List Nat) (ss : List PStep) (h : TBm w tb tx sp nm r ss) : CallQ E MX8_readNamed [.ref tb] w sg d 0 0 (fun v w' sg' => sg = sg' ∧ TBu tb sp nm w w' ∧ v = some (.int (nam0 r)) ∧ TBm w' tb tx sp nm r.tail ss) := by
  have g1 := h.1.1
  refine CallQ.of rfl (by simp [Value.category]) (Nat.le_of_ble_eq_true rfl) ?_
  cases r with
  | nil =>
    refine r_aload_n dX8_readNamed_0 rfl (zRv_ref _) rfl ?_
    refine r_callV MX8_next 0 [] lvX8_71 (Or.inl ⟨8, by decide, (by first | (simp only [zKS]; first | assumption) | assumption | exact zk_nself _ _ _ | (simp [zKS, zNS, *]; done)), rfl⟩) (sp_next E w sg (d - 1) tb tx sp nm [] ss h) rfl rfl (by first | exact Nat.le_of_ble_eq_true rfl | (simp [zcat_rf, Value.category]; done)) (by omega) (Nat.le_of_eq (Nat.zero_add _)) (Nat.le_of_eq (Nat.zero_add _)) dX8_readNamed_1 rfl (fun v_ w_ sg_ hq_ => ?_)
    obtain ⟨rfl, hu, rfl, hm⟩ := hq_
    refine r_istore_n (ls' := [_, _]) dX8_readNamed_4 (Nat.le_of_ble_eq_true rfl) rfl rfl ?_
    refine r_iload_n dX8_readNamed_5 rfl rfl ?_
    refine r_bipush dX8_readNamed_6 kb_97 rfl ?_
    refine r_icmp_lt (r := 24) dX8_readNamed_8 (by decide) rfl (fun c_8 => ?_) (fun c_8 => ?_)
    · refine r_iconst dX8_readNamed_24 kc_m1 rfl ?_
      refine r_iret rfl dX8_readNamed_25 ?_
      exact ⟨rfl, hu, rfl, hm⟩
    · exact absurd (show (-1 : Int32) < nI 97 by decide) c_8
  | cons c r =>
    have e2 := h.c
    have q1 : pNamed (c :: r) = if 97 ≤ c ∧ c ≤ 100 then some (c - 97, r) else none := rfl
    refine r_aload_n dX8_readNamed_0 rfl (zRv_ref _) rfl ?_
    refine r_callV MX8_next 0 [] lvX8_71 (Or.inl ⟨8, by decide, (by first | (simp only [zKS]; first | assumption) | assumption | exact zk_nself _ _ _ | (simp [zKS, zNS, *]; done)), rfl⟩) (sp_next E w sg (d - 1) tb tx sp nm (c :: r) ss h) rfl rfl (by first | exact Nat.le_of_ble_eq_true rfl | (simp [zcat_rf, Value.category]; done)) (by omega) (Nat.le_of_eq (Nat.zero_add _)) (Nat.le_of_eq (Nat.zero_add _)) dX8_readNamed_1 rfl (fun v_ w_ sg_ hq_ => ?_)
    obtain ⟨rfl, hu, rfl, hm⟩ := hq_
    refine r_istore_n (ls' := [_, _]) dX8_readNamed_4 (Nat.le_of_ble_eq_true rfl) rfl rfl ?_
    refine r_iload_n dX8_readNamed_5 rfl rfl ?_
    refine r_bipush dX8_readNamed_6 kb_97 rfl ?_
    refine r_icmp_ltN (by omega) (by omega) (r := 24) dX8_readNamed_8 (by decide) rfl (fun c_8 => ?_) (fun c_8 => ?_)
    · refine r_iconst dX8_readNamed_24 kc_m1 rfl ?_
      refine r_iret rfl dX8_readNamed_25 ?_
      simp only [nam0, q1, if_neg (show ¬ (97 ≤ c ∧ c ≤ 100) by omega)]; exact ⟨by trivial, hu, by trivial, hm⟩
    · refine r_iload_n dX8_readNamed_11 rfl rfl ?_
      refine r_bipush dX8_readNamed_12 kb_100 rfl ?_
      refine r_icmp_gtN (by omega) (by omega) (r := 24) dX8_readNamed_14 (by decide) rfl (fun c_14 => ?_) (fun c_14 => ?_)
      · refine r_iconst dX8_readNamed_24 kc_m1 rfl ?_
        refine r_iret rfl dX8_readNamed_25 ?_
        simp only [nam0, q1, if_neg (show ¬ (97 ≤ c ∧ c ≤ 100) by omega)]; exact ⟨by trivial, hu, by trivial, hm⟩
      · refine r_iload_n dX8_readNamed_17 rfl rfl ?_
        refine r_bipush dX8_readNamed_18 kb_97 rfl ?_
        refine r_isubN (by omega) dX8_readNamed_20 rfl ?_
        refine r_goto (r := 25) dX8_readNamed_21 (by decide) ?_
        refine r_iret rfl dX8_readNamed_25 ?_
        simp only [nam0, q1, if_pos (show 97 ≤ c ∧ c ≤ 100 by omega)]; exact ⟨by trivial, hu, by trivial, hm⟩
