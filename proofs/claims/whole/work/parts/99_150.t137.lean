/-! ===== the model: push, both ===== -/
theorem dec_neg {x : UInt32} {s : Bool} {c : Nat} {q : Int} (h : FP.Core.decode FP.Core.b32 x.toNat = .fin s c q) : FP.Core.decode FP.Core.b32 (FP.fneg x).toNat = .fin (!s) c q := by
  have t1 : FP.Core.b32.tails = 8388608 := by decide
  have t2 : FP.Core.b32.exps = 256 := by decide
  have hx : (FP.fneg x).toNat = x.toNat ^^^ 2 ^ 31 := by
    show (x ^^^ 2147483648).toNat = _
    rw [UInt32.toNat_xor]
    rfl
  have h2 : (FP.fneg x).toNat % 2147483648 = x.toNat % 2147483648 := by
    rw [hx]
    apply Nat.eq_of_testBit_eq
    intro i
    rw [show 2147483648 = 2 ^ 31 from rfl, Nat.testBit_mod_two_pow, Nat.testBit_mod_two_pow, Nat.testBit_xor]
    by_cases g : i < 31
    · rw [Nat.testBit_two_pow, decide_eq_false (by omega : ¬ 31 = i), Bool.xor_false]
    · simp [g]
  have h3 : (FP.fneg x).toNat.testBit 31 = !x.toNat.testBit 31 := by
    rw [hx, Nat.testBit_xor, Nat.testBit_two_pow, decide_eq_true rfl, Bool.xor_true]
  rw [Nat.testBit_eq_decide_div_mod_eq, Nat.testBit_eq_decide_div_mod_eq] at h3
  generalize (FP.fneg x).toNat = y at *
  generalize x.toNat = m at *
  have eE : FP.Core.fieldE FP.Core.b32 y = FP.Core.fieldE FP.Core.b32 m := by
    unfold FP.Core.fieldE
    rw [t1, t2]
    omega
  have eT : FP.Core.fieldT FP.Core.b32 y = FP.Core.fieldT FP.Core.b32 m := by
    unfold FP.Core.fieldT
    rw [t1]
    omega
  have eS : FP.Core.fieldS FP.Core.b32 y = !FP.Core.fieldS FP.Core.b32 m := by
    unfold FP.Core.fieldS
    rw [t1, t2]
    have a1 : y / 8388608 / 256 = y / 2 ^ 31 := by rw [Nat.div_div_eq_div_mul]
    have a2 : m / 8388608 / 256 = m / 2 ^ 31 := by rw [Nat.div_div_eq_div_mul]
    rw [a1, a2]
    rcases Nat.mod_two_eq_zero_or_one (y / 2 ^ 31) with u | u <;> rcases Nat.mod_two_eq_zero_or_one (m / 2 ^ 31) with v | v <;> rw [u, v] at h3 ⊢ <;> first | rfl | cases h3
  unfold FP.Core.decode at h ⊢
  rw [eE, eT, eS]
  split at h
  · split at h <;> cases h
  · rename_i g
    rw [if_neg g]
    split at h
    · rename_i g2
      rw [if_pos g2]
      cases h
      rfl
    · rename_i g2
      rw [if_neg g2]
      cases h
      rfl
theorem lim_dec : FP.Core.decode FP.Core.b32 (1232348160 : UInt32).toNat = .fin false 16000000 (-4) ∧ FP.Core.decode FP.Core.b32 (3379831808 : UInt32).toNat = .fin true 16000000 (-4) := by decide +kernel
theorem fc_1 {x : UInt32} {s : Bool} {c : Nat} {q : Int} (h : FP.Core.decode FP.Core.b32 x.toNat = .fin s c q) : FP.fcmp x 1232348160 = FP.Core.order (.fin s c q) (.fin false 16000000 (-4)) := by
  show FP.Core.order (FP.Core.decode FP.Core.b32 x.toNat) (FP.Core.decode FP.Core.b32 (1232348160 : UInt32).toNat) = _
  rw [h, lim_dec.1]
theorem fc_2 {x : UInt32} {s : Bool} {c : Nat} {q : Int} (h : FP.Core.decode FP.Core.b32 x.toNat = .fin s c q) : FP.fcmp x 3379831808 = FP.Core.order (.fin s c q) (.fin true 16000000 (-4)) := by
  show FP.Core.order (FP.Core.decode FP.Core.b32 x.toNat) (FP.Core.decode FP.Core.b32 (3379831808 : UInt32).toNat) = _
  rw [h, lim_dec.2]
theorem sgd_neg (s : Bool) (a : Nat) : FP.Core.signed (!s) a = -FP.Core.signed s a := by
  unfold FP.Core.signed
  cases s <;> simp
theorem cmp_neg (A B : Int) : (some (compare (-A) B) = some Ordering.gt ↔ some (compare A (-B)) = some Ordering.lt) ∧ (some (compare (-A) B) = some Ordering.lt ↔ some (compare A (-B)) = some Ordering.gt) := by
  rw [Option.some.injEq, Option.some.injEq, Option.some.injEq, Option.some.injEq, Int.compare_eq_gt, Int.compare_eq_lt, Int.compare_eq_lt, Int.compare_eq_gt]
  omega
theorem okLim_neg {v : UInt32} (h : fFin v) (hl : okLim v = true) : okLim (FP.fneg v) = true := by
  obtain ⟨s, c, q, hd⟩ := h
  have hn := dec_neg hd
  unfold okLim at hl ⊢
  rw [fc_1 hd, fc_2 hd] at hl
  rw [fc_1 hn, fc_2 hn]
  rw [Bool.and_eq_true, Bool.not_eq_true', Bool.not_eq_true', decide_eq_false_iff_not, decide_eq_false_iff_not] at hl ⊢
  obtain ⟨h1, h2⟩ := hl
  refine ⟨fun z => h2 ?_, fun z => h1 ?_⟩
  · show some (compare (FP.Core.signed s _) (FP.Core.signed true _)) = some .lt
    rw [show FP.Core.signed true (FP.Core.inUnits 16000000 (-4) (min q (-4))) = -FP.Core.signed false (FP.Core.inUnits 16000000 (-4) (min q (-4))) from sgd_neg false _]
    refine (cmp_neg _ _).1.mp ?_
    rw [← sgd_neg]
    exact z
  · show some (compare (FP.Core.signed s _) (FP.Core.signed false _)) = some .gt
    have e9 : FP.Core.signed false (FP.Core.inUnits 16000000 (-4) (min q (-4))) = -FP.Core.signed true (FP.Core.inUnits 16000000 (-4) (min q (-4))) := sgd_neg true _
    rw [e9]
    refine (cmp_neg _ _).2.mp ?_
    rw [← sgd_neg]
    exact z
theorem fc_ne {v : UInt32} (h : vf_n32 v) : FP.fcmp v 1232348160 ≠ none ∧ FP.fcmp v 3379831808 ≠ none := by
  have e1 : FP.fcmp v 1232348160 = FP.Core.order (FP.Core.decode FP.Core.b32 v.toNat) (.fin false 16000000 (-4)) := by
    show FP.Core.order (FP.Core.decode FP.Core.b32 v.toNat) (FP.Core.decode FP.Core.b32 (1232348160 : UInt32).toNat) = _
    rw [lim_dec.1]
  have e2 : FP.fcmp v 3379831808 = FP.Core.order (FP.Core.decode FP.Core.b32 v.toNat) (.fin true 16000000 (-4)) := by
    show FP.Core.order (FP.Core.decode FP.Core.b32 v.toNat) (FP.Core.decode FP.Core.b32 (3379831808 : UInt32).toNat) = _
    rw [lim_dec.2]
  rw [e1, e2]
  rcases fDat_of h with ⟨s, hs⟩ | ⟨s, c, q, hs⟩
  · rw [hs]
    exact ⟨fun z => (by cases z), fun z => (by cases z)⟩
  · rw [hs]
    exact ⟨fun z => (by cases z), fun z => (by cases z)⟩
theorem cmpG1 {o : Option Ordering} (h : o ≠ none) : (0 < Op.cmpValue o .g) ↔ o = some .gt := by
  cases o with
  | none => exact absurd rfl h
  | some x => cases x <;> first | exact ⟨fun h => absurd h (by decide), fun h => by cases h⟩ | exact ⟨fun _ => rfl, fun _ => by decide⟩
theorem cmpL1 {o : Option Ordering} (h : o ≠ none) : (0 ≤ Op.cmpValue o .l) ↔ ¬ o = some .lt := by
  cases o with
  | none => exact absurd rfl h
  | some x => cases x <;> first | exact ⟨fun h => absurd h (by decide), fun h => absurd rfl h⟩ | exact ⟨fun _ q => (by cases q), fun _ => by decide⟩
/-- the stack behind H -/
def stA (sg : ZM) (H : Nat) : List PVal → Prop
  | [] => True
  | (kd, v) :: st => mg sg 32 (H + st.length) = v ∧ ma sg 33 (H + st.length) = zb (decide (kd = 0)) ∧ stA sg H st
theorem stA.fr {a b : ZM} {H : Nat} : ∀ {st : List PVal}, stA a H st → (∀ i, i < H + st.length → mg b 32 i = mg a 32 i ∧ ma b 33 i = ma a 33 i) → stA b H st
  | [], _, _ => trivial
  | (kd, v) :: st, ⟨h1, h2, h3⟩, e => ⟨(e _ (by rw [List.length_cons]; omega)).1.trans h1, (e _ (by rw [List.length_cons]; omega)).2.trans h2, h3.fr (fun i hi => e i (by rw [List.length_cons]; omega))⟩
/-- what the stack's work behind H may change -/
def wkK (a b : ZM) (H : Nat) : Prop := (∀ j, j ≠ 45 → j ≠ 56 → mi b j = mi a j) ∧ (∀ j i, ¬ (j = 33 ∧ H ≤ i) → ma b j i = ma a j i) ∧ ∀ j i, ¬ (j = 32 ∧ H ≤ i) → mg b j i = mg a j i
theorem wkK.rf {a : ZM} {H : Nat} : wkK a a H := ⟨fun _ _ _ => rfl, fun _ _ _ => rfl, fun _ _ _ => rfl⟩
theorem wkK.tr {a b c : ZM} {H : Nat} (h : wkK a b H) (g : wkK b c H) : wkK a c H := ⟨fun j p q => (g.1 j p q).trans (h.1 j p q), fun j i p => (g.2.1 j i p).trans (h.2.1 j i p), fun j i p => (g.2.2 j i p).trans (h.2.2 j i p)⟩
/-- a stack: good, or broken -/
def stO (a b : ZM) (H : Nat) (o : Option (List PVal)) : Prop := wkK a b H ∧ match o with
  | none => mi b 56 = zb true
  | some st => mi b 56 = zb false ∧ mi b 45 = nI (H + st.length) ∧ stA b H st
theorem p_push (E : ZE) (mo : Nat) (hm : E.2.2.2.2 = some mo) (w : ZW) (sg : ZM) (d H kd : Nat) (hkd : kd ≤ 1) (v : UInt32) (hv : vf_n32 v) (b : Bool) (hb : b = decide (kd = 0)) (st : List PVal) (h56 : mi sg 56 = zb false) (h45 : mi sg 45 = nI (H + st.length)) (hA : stA sg H st) (hl : H + st.length < 3000) : CallQ E MX10_push [.ref mo, .float v, .int (zb b)] w sg d 0 0 (fun r w' sg' => r = none ∧ w = w' ∧ stO sg sg' H (pushS kd v st)) := by
  obtain ⟨n1, n2⟩ := fc_ne hv
  have hp : pushS kd v st = if okLim v = true then some ((kd, v) :: st) else none := by
    unfold pushS
    rw [decide_eq_true hkd, Bool.true_and]
  have e1 : okLim v = (!decide (FP.fcmp v 1232348160 = some .gt) && !decide (FP.fcmp v 3379831808 = some .lt)) := rfl
  have hk : ∀ x : Bool, wkK sg (msi (msa (msg (msi sg 56 (zb x)) 32 (H + st.length) v) 33 (H + st.length) (zb b)) 45 (nI (H + st.length + 1))) H := fun x => by
    refine ⟨fun j p q => ?_, fun j i p => ?_, fun j i p => ?_⟩
    · rw [mi_msi, if_neg p]
      show mi (msi sg 56 (zb x)) j = _
      rw [mi_msi, if_neg q]
    · show ma (msa (msg (msi sg 56 (zb x)) 32 (H + st.length) v) 33 (H + st.length) (zb b)) j i = _
      rw [ma_msa, if_neg (by omega)]
      rfl
    · show mg (msg (msi sg 56 (zb x)) 32 (H + st.length) v) j i = _
      rw [mg_msg, if_neg (by omega)]
      rfl
  have h56' : ∀ x : Bool, mi (msi (msa (msg (msi sg 56 (zb x)) 32 (H + st.length) v) 33 (H + st.length) (zb b)) 45 (nI (H + st.length + 1))) 56 = zb x := fun x => by
    rw [mi_msi, if_neg (by decide)]
    show mi (msi sg 56 (zb x)) 56 = _
    rw [mi_msi, if_pos rfl]
  have bad : okLim v = false → stO sg (msi (msa (msg (msi sg 56 (zb true)) 32 (H + st.length) v) 33 (H + st.length) (zb b)) 45 (nI (H + st.length + 1))) H (pushS kd v st) := fun q => by
    rw [hp, q, if_neg (by decide)]
    exact ⟨hk true, h56' true⟩
  have good : okLim v = true → stO sg (msi (msa (msg (msi sg 56 (zb false)) 32 (H + st.length) v) 33 (H + st.length) (zb b)) 45 (nI (H + st.length + 1))) H (pushS kd v st) := fun q => by
    rw [hp, q, if_pos rfl]
    refine ⟨hk false, h56' false, ?_, ?_, ?_, hA.fr (fun i hi => ⟨?_, ?_⟩)⟩
    · rw [mi_msi, if_pos rfl]
      rfl
    · show mg (msg (msi sg 56 (zb false)) 32 (H + st.length) v) 32 (H + st.length) = _
      rw [mg_msg, if_pos ⟨rfl, rfl⟩]
    · show ma (msa (msg (msi sg 56 (zb false)) 32 (H + st.length) v) 33 (H + st.length) (zb b)) 33 (H + st.length) = _
      rw [ma_msa, if_pos ⟨rfl, rfl⟩, hb]
    · show mg (msg (msi sg 56 (zb false)) 32 (H + st.length) v) 32 i = _
      rw [mg_msg, if_neg (by omega)]
      rfl
    · show ma (msa (msg (msi sg 56 (zb false)) 32 (H + st.length) v) 33 (H + st.length) (zb b)) 33 i = _
      rw [ma_msa, if_neg (by omega)]
      rfl
  refine CallQ.of rfl (by simp [Value.category]) (Nat.le_of_ble_eq_true rfl) ?_
  refine r_aload_n dX10_push_0 rfl (zRv_ref _) rfl ?_
  refine r_aload_n dX10_push_1 rfl (zRv_ref _) rfl ?_
  refine m_getiv hm 56 lfX10_319 rfl (by first | (simp only [zGS, zMS, Nat.reduceEqDiff, OfNat.ofNat_ne_ofNat, false_and, and_false, true_and, and_true, and_self, if_true, if_false, ite_true, ite_false, reduceIte, reduceCtorEq]; first | done | assumption | rfl) | assumption | exact z2_eq | exact z1_eq | (simp [zGS, zMS]; first | done | assumption) | rfl) dX10_push_2 rfl ?_
  refine r_if_neB (r := 24) dX10_push_5 (by decide) rfl (fun c_5 => ?_) (fun c_5 => ?_)
  · cases c_5
  · refine r_fload_n dX10_push_8 rfl rfl ?_
    refine r_ldcwf dX10_push_9 tw_1336 rfl ?_
    refine r_fcmp dX10_push_12 rfl ?_
    refine r_if_gt (r := 24) dX10_push_13 (by decide) rfl (fun c_13 => ?_) (fun c_13 => ?_)
    · refine r_iconst dX10_push_24 kc_1 rfl ?_
      refine r_goto (r := 29) dX10_push_25 (by decide) ?_
      refine m_putz hm 56 (by first | exact Or.inl rfl | exact Or.inr rfl | exact zb01 _ | assumption) lfX10_319 rfl rfl rfl dX10_push_29 rfl ?_
      refine r_aload_n dX10_push_32 rfl (zRv_ref _) rfl ?_
      refine m_geta hm 46 32 lfX10_106 rfl (by decide) dX10_push_33 rfl ?_
      refine r_aload_n dX10_push_36 rfl (zRv_ref _) rfl ?_
      refine m_getiv hm 45 lfX10_324 rfl (by first | (simp only [zGS, zMS, Nat.reduceEqDiff, OfNat.ofNat_ne_ofNat, false_and, and_false, true_and, and_true, and_self, if_true, if_false, ite_true, ite_false, reduceIte, reduceCtorEq]; first | done | assumption | rfl) | assumption | exact z2_eq | exact z1_eq | (simp [zGS, zMS]; first | done | assumption) | rfl) dX10_push_37 rfl ?_
      refine r_fload_n dX10_push_40 rfl rfl ?_
      refine m_fast hm 32 _ (by decide) (by decide) rfl rfl (by show _ < 3000; omega) dX10_push_41 rfl ?_
      refine r_aload_n dX10_push_42 rfl (zRv_ref _) rfl ?_
      refine m_geta hm 47 33 lfX10_109 rfl (by decide) dX10_push_43 rfl ?_
      refine r_aload_n dX10_push_46 rfl (zRv_ref _) rfl ?_
      refine m_getiv hm 45 lfX10_324 rfl (by first | (simp only [zGS, zMS, Nat.reduceEqDiff, OfNat.ofNat_ne_ofNat, false_and, and_false, true_and, and_true, and_self, if_true, if_false, ite_true, ite_false, reduceIte, reduceCtorEq]; first | done | assumption | rfl) | assumption | exact z2_eq | exact z1_eq | (simp [zGS, zMS]; first | done | assumption) | rfl) dX10_push_47 rfl ?_
      refine r_iload_n dX10_push_50 rfl rfl ?_
      refine m_zast hm 33 _ (by first | exact zb_nar _ | rfl | decide | (simp only [*]; first | exact zb_nar _ | rfl)) (by decide) (by decide) rfl rfl (by show _ < 3000; omega) dX10_push_51 rfl ?_
      refine r_aload_n dX10_push_52 rfl (zRv_ref _) rfl ?_
      refine r_dup dX10_push_53 (by first | rfl | exact zcat_rf _) rfl ?_
      refine m_getiv hm 45 lfX10_324 rfl (by first | (simp only [zGS, zMS, Nat.reduceEqDiff, OfNat.ofNat_ne_ofNat, false_and, and_false, true_and, and_true, and_self, if_true, if_false, ite_true, ite_false, reduceIte, reduceCtorEq]; first | done | assumption | rfl) | assumption | exact z2_eq | exact z1_eq | (simp [zGS, zMS]; first | done | assumption) | rfl) dX10_push_54 rfl ?_
      refine r_iconst dX10_push_57 kc_1 rfl ?_
      refine r_iaddN dX10_push_58 rfl ?_
      refine m_puti hm 45 lfX10_324 rfl rfl rfl dX10_push_59 rfl ?_
      refine r_vret rfl dX10_push_62 ?_
      exact ⟨rfl, rfl, bad (by rw [e1, decide_eq_true ((cmpG1 n1).mp c_13)]; rfl)⟩
    · refine r_fload_n dX10_push_16 rfl rfl ?_
      refine r_ldcwf dX10_push_17 tw_1337 rfl ?_
      refine r_fcmp dX10_push_20 rfl ?_
      refine r_if_ge (r := 28) dX10_push_21 (by decide) rfl (fun c_21 => ?_) (fun c_21 => ?_)
      · refine r_iconst dX10_push_28 kc_0 rfl ?_
        refine m_putz hm 56 (by first | exact Or.inl rfl | exact Or.inr rfl | exact zb01 _ | assumption) lfX10_319 rfl rfl rfl dX10_push_29 rfl ?_
        refine r_aload_n dX10_push_32 rfl (zRv_ref _) rfl ?_
        refine m_geta hm 46 32 lfX10_106 rfl (by decide) dX10_push_33 rfl ?_
        refine r_aload_n dX10_push_36 rfl (zRv_ref _) rfl ?_
        refine m_getiv hm 45 lfX10_324 rfl (by first | (simp only [zGS, zMS, Nat.reduceEqDiff, OfNat.ofNat_ne_ofNat, false_and, and_false, true_and, and_true, and_self, if_true, if_false, ite_true, ite_false, reduceIte, reduceCtorEq]; first | done | assumption | rfl) | assumption | exact z2_eq | exact z1_eq | (simp [zGS, zMS]; first | done | assumption) | rfl) dX10_push_37 rfl ?_
        refine r_fload_n dX10_push_40 rfl rfl ?_
        refine m_fast hm 32 _ (by decide) (by decide) rfl rfl (by show _ < 3000; omega) dX10_push_41 rfl ?_
        refine r_aload_n dX10_push_42 rfl (zRv_ref _) rfl ?_
        refine m_geta hm 47 33 lfX10_109 rfl (by decide) dX10_push_43 rfl ?_
        refine r_aload_n dX10_push_46 rfl (zRv_ref _) rfl ?_
        refine m_getiv hm 45 lfX10_324 rfl (by first | (simp only [zGS, zMS, Nat.reduceEqDiff, OfNat.ofNat_ne_ofNat, false_and, and_false, true_and, and_true, and_self, if_true, if_false, ite_true, ite_false, reduceIte, reduceCtorEq]; first | done | assumption | rfl) | assumption | exact z2_eq | exact z1_eq | (simp [zGS, zMS]; first | done | assumption) | rfl) dX10_push_47 rfl ?_
        refine r_iload_n dX10_push_50 rfl rfl ?_
        refine m_zast hm 33 _ (by first | exact zb_nar _ | rfl | decide | (simp only [*]; first | exact zb_nar _ | rfl)) (by decide) (by decide) rfl rfl (by show _ < 3000; omega) dX10_push_51 rfl ?_
        refine r_aload_n dX10_push_52 rfl (zRv_ref _) rfl ?_
        refine r_dup dX10_push_53 (by first | rfl | exact zcat_rf _) rfl ?_
        refine m_getiv hm 45 lfX10_324 rfl (by first | (simp only [zGS, zMS, Nat.reduceEqDiff, OfNat.ofNat_ne_ofNat, false_and, and_false, true_and, and_true, and_self, if_true, if_false, ite_true, ite_false, reduceIte, reduceCtorEq]; first | done | assumption | rfl) | assumption | exact z2_eq | exact z1_eq | (simp [zGS, zMS]; first | done | assumption) | rfl) dX10_push_54 rfl ?_
        refine r_iconst dX10_push_57 kc_1 rfl ?_
        refine r_iaddN dX10_push_58 rfl ?_
        refine m_puti hm 45 lfX10_324 rfl rfl rfl dX10_push_59 rfl ?_
        refine r_vret rfl dX10_push_62 ?_
        exact ⟨rfl, rfl, good (by rw [e1, decide_eq_false (fun q => c_13 ((cmpG1 n1).mpr q)), decide_eq_false ((cmpL1 n2).mp c_21)]; rfl)⟩
      · refine r_iconst dX10_push_24 kc_1 rfl ?_
        refine r_goto (r := 29) dX10_push_25 (by decide) ?_
        refine m_putz hm 56 (by first | exact Or.inl rfl | exact Or.inr rfl | exact zb01 _ | assumption) lfX10_319 rfl rfl rfl dX10_push_29 rfl ?_
        refine r_aload_n dX10_push_32 rfl (zRv_ref _) rfl ?_
        refine m_geta hm 46 32 lfX10_106 rfl (by decide) dX10_push_33 rfl ?_
        refine r_aload_n dX10_push_36 rfl (zRv_ref _) rfl ?_
        refine m_getiv hm 45 lfX10_324 rfl (by first | (simp only [zGS, zMS, Nat.reduceEqDiff, OfNat.ofNat_ne_ofNat, false_and, and_false, true_and, and_true, and_self, if_true, if_false, ite_true, ite_false, reduceIte, reduceCtorEq]; first | done | assumption | rfl) | assumption | exact z2_eq | exact z1_eq | (simp [zGS, zMS]; first | done | assumption) | rfl) dX10_push_37 rfl ?_
        refine r_fload_n dX10_push_40 rfl rfl ?_
        refine m_fast hm 32 _ (by decide) (by decide) rfl rfl (by show _ < 3000; omega) dX10_push_41 rfl ?_
        refine r_aload_n dX10_push_42 rfl (zRv_ref _) rfl ?_
        refine m_geta hm 47 33 lfX10_109 rfl (by decide) dX10_push_43 rfl ?_
        refine r_aload_n dX10_push_46 rfl (zRv_ref _) rfl ?_
        refine m_getiv hm 45 lfX10_324 rfl (by first | (simp only [zGS, zMS, Nat.reduceEqDiff, OfNat.ofNat_ne_ofNat, false_and, and_false, true_and, and_true, and_self, if_true, if_false, ite_true, ite_false, reduceIte, reduceCtorEq]; first | done | assumption | rfl) | assumption | exact z2_eq | exact z1_eq | (simp [zGS, zMS]; first | done | assumption) | rfl) dX10_push_47 rfl ?_
        refine r_iload_n dX10_push_50 rfl rfl ?_
        refine m_zast hm 33 _ (by first | exact zb_nar _ | rfl | decide | (simp only [*]; first | exact zb_nar _ | rfl)) (by decide) (by decide) rfl rfl (by show _ < 3000; omega) dX10_push_51 rfl ?_
        refine r_aload_n dX10_push_52 rfl (zRv_ref _) rfl ?_
        refine r_dup dX10_push_53 (by first | rfl | exact zcat_rf _) rfl ?_
        refine m_getiv hm 45 lfX10_324 rfl (by first | (simp only [zGS, zMS, Nat.reduceEqDiff, OfNat.ofNat_ne_ofNat, false_and, and_false, true_and, and_true, and_self, if_true, if_false, ite_true, ite_false, reduceIte, reduceCtorEq]; first | done | assumption | rfl) | assumption | exact z2_eq | exact z1_eq | (simp [zGS, zMS]; first | done | assumption) | rfl) dX10_push_54 rfl ?_
        refine r_iconst dX10_push_57 kc_1 rfl ?_
        refine r_iaddN dX10_push_58 rfl ?_
        refine m_puti hm 45 lfX10_324 rfl rfl rfl dX10_push_59 rfl ?_
        refine r_vret rfl dX10_push_62 ?_
        refine ⟨rfl, rfl, bad ?_⟩
        have e9 : FP.fcmp v 3379831808 = some .lt := Classical.byContradiction (fun q => c_21 ((cmpL1 n2).mpr q))
        rw [e1, decide_eq_true e9, Bool.not_true, Bool.and_false]
