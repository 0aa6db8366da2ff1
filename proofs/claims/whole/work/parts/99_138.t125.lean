/-! ===== the model: open, readRule ===== -/
/-- text k is X -/
def txA (sg : ZM) (k : Nat) (X : List Nat) : Prop := ma sg 8 k = nI X.length ∧ X.length ≤ 120 ∧ (∀ i c, X[i]? = some c → chN sg (120 * k + i) = c) ∧ ∀ c ∈ X, 1 ≤ c ∧ c < 128
/-- what reading a text may change -/
def rKp (a b : ZM) : Prop := (∀ j, ¬ (12 ≤ j ∧ j ≤ 32) → mi b j = mi a j) ∧ (∀ j i, ¬ (10 ≤ j ∧ j ≤ 23) → ma b j i = ma a j i) ∧ ∀ j i, j ≠ 22 → mg b j i = mg a j i
theorem rKp.rf {a : ZM} : rKp a a := ⟨fun _ _ => rfl, fun _ _ _ => rfl, fun _ _ _ => rfl⟩
theorem rKp.tr {a b c : ZM} (h : rKp a b) (g : rKp b c) : rKp a c := ⟨fun j q => (g.1 j q).trans (h.1 j q), fun j i q => (g.2.1 j i q).trans (h.2.1 j i q), fun j i q => (g.2.2 j i q).trans (h.2.2 j i q)⟩
theorem mKp.r {a b : ZM} (h : mKp a b) : rKp a b := ⟨fun j q => h.1 j (by omega), fun j i q => h.2.1 j i (by omega), h.2.2⟩
theorem mvC.r {a b : ZM} (h : mvC a b) : rKp a b := h.kp.r
theorem dKw.r {a b : ZM} {D N : Nat} (h : dKw a b D N) : rKp a b := ⟨fun j q => h.1 j (by omega) (by omega) (by omega) (by omega), fun j i q => h.2.1 j i (by omega) (by omega) (by omega) (by omega), fun j i q => h.2.2 j i (by omega)⟩
theorem rKp.wd {a b : ZM} (h : rKp a b) (w : mWd a) : mWd b := w.kp (fun j i _ _ => h.2.1 j i (by omega))
theorem ssG.dk {a b : ZM} {ss : List (List PCr)} {D N : Nat} (h : ssG a 0 0 0 ss) (v : dKw a b D N) : ssG b 0 0 0 ss := by
  obtain ⟨⟨h1, h2, h3⟩, h4, h5, h6, h7⟩ := h
  have e : ∀ j i, j ≤ 16 → ma b j i = ma a j i := fun j i q => v.2.1 j i (by omega) (by omega) (by omega) (by omega)
  refine ⟨⟨(v.1 16 (by decide) (by decide) (by decide) (by decide)).trans h1, (v.1 18 (by decide) (by decide) (by decide) (by decide)).trans h2, (v.1 21 (by decide) (by decide) (by decide) (by decide)).trans h3⟩, fun i cs q => (e _ _ (by decide)).trans (h4 i cs q), fun i x q => (e _ _ (by decide)).trans (h5 i x q), fun q i hi => (e _ _ (by decide)).trans (h6 q i hi), fun i q hq => ?_⟩
  obtain ⟨z1, z2, z3, z4⟩ := h7 i q hq
  exact ⟨(e _ _ (by decide)).trans z1, (e _ _ (by decide)).trans z2, (e _ _ (by decide)).trans z3, (e _ _ (by decide)).trans z4⟩
theorem dtG.mk0 {a b : ZM} (h : mKp a b) (g : dtG a []) : dtG b [] := ⟨⟨(h.1 27 (by decide)).trans g.1.1, (h.1 32 (by decide)).trans g.1.2⟩, fun i x q => (by cases q), fun q => absurd rfl q, fun i x q => (by cases q)⟩
theorem dtG.mv {a b : ZM} {ds : List PDm} (h : dtG a ds) (v : mvC a b) : dtG b ds := by
  obtain ⟨⟨h1, h2⟩, h3, h4, h5⟩ := h
  refine ⟨⟨(v.1 27 (by decide) (by decide)).trans h1, (v.1 32 (by decide) (by decide)).trans h2⟩, ?_, ?_, ?_⟩
  · rw [v.2.1]; exact h3
  · rw [v.2.1]; exact h4
  · rw [v.2.1, v.2.2]; exact h5
theorem opn9 {sg : ZM} {v12 v14 v13 v15 v16 v18 v21 v27 v32 : Int32} {Q : ZM → Prop} (K : ∀ s, mi s 12 = v12 → mi s 14 = v14 → mi s 13 = v13 → mi s 15 = v15 → mi s 16 = v16 → mi s 18 = v18 → mi s 21 = v21 → mi s 27 = v27 → mi s 32 = v32 → (∀ j, ¬ (12 ≤ j ∧ j ≤ 32) → mi s j = mi sg j) → ma s = ma sg → mg s = mg sg → Q s) : Q (msi (msi (msi (msi (msi (msi (msi (msi (msi sg 12 v12) 14 v14) 13 v13) 15 v15) 16 v16) 18 v18) 21 v21) 27 v27) 32 v32) := by
  refine K _ ?_ ?_ ?_ ?_ ?_ ?_ ?_ ?_ ?_ (fun j hj => ?_) rfl rfl
  · rw [mi_msi, if_neg (by decide), mi_msi, if_neg (by decide), mi_msi, if_neg (by decide), mi_msi, if_neg (by decide), mi_msi, if_neg (by decide), mi_msi, if_neg (by decide), mi_msi, if_neg (by decide), mi_msi, if_neg (by decide), mi_msi, if_pos rfl]
  · rw [mi_msi, if_neg (by decide), mi_msi, if_neg (by decide), mi_msi, if_neg (by decide), mi_msi, if_neg (by decide), mi_msi, if_neg (by decide), mi_msi, if_neg (by decide), mi_msi, if_neg (by decide), mi_msi, if_pos rfl]
  · rw [mi_msi, if_neg (by decide), mi_msi, if_neg (by decide), mi_msi, if_neg (by decide), mi_msi, if_neg (by decide), mi_msi, if_neg (by decide), mi_msi, if_neg (by decide), mi_msi, if_pos rfl]
  · rw [mi_msi, if_neg (by decide), mi_msi, if_neg (by decide), mi_msi, if_neg (by decide), mi_msi, if_neg (by decide), mi_msi, if_neg (by decide), mi_msi, if_pos rfl]
  · rw [mi_msi, if_neg (by decide), mi_msi, if_neg (by decide), mi_msi, if_neg (by decide), mi_msi, if_neg (by decide), mi_msi, if_pos rfl]
  · rw [mi_msi, if_neg (by decide), mi_msi, if_neg (by decide), mi_msi, if_neg (by decide), mi_msi, if_pos rfl]
  · rw [mi_msi, if_neg (by decide), mi_msi, if_neg (by decide), mi_msi, if_pos rfl]
  · rw [mi_msi, if_neg (by decide), mi_msi, if_pos rfl]
  · rw [mi_msi, if_pos rfl]
  · rw [mi_msi, if_neg (by omega), mi_msi, if_neg (by omega), mi_msi, if_neg (by omega), mi_msi, if_neg (by omega), mi_msi, if_neg (by omega), mi_msi, if_neg (by omega), mi_msi, if_neg (by omega), mi_msi, if_neg (by omega), mi_msi, if_neg (by omega)]
theorem q_open (E : ZE) (mo : Nat) (hm : E.2.2.2.2 = some mo) (w : ZW) (sg : ZM) (d k : Nat) (X : List Nat) (hk : k ≤ 16) (ht : mTx sg) (h : txA sg k X) : CallQ E MX10_open [.ref mo, .int (nI k)] w sg d 0 0 (fun v w' sg' => v = none ∧ w = w' ∧ rKp sg sg' ∧ cuG sg' (120 * k) X ∧ ssG sg' 0 0 0 [] ∧ dtG sg' []) := by
  obtain ⟨h1, h2, h3, h4⟩ := h
  refine CallQ.of rfl (by simp [Value.category]) (Nat.le_of_ble_eq_true rfl) ?_
  refine r_aload_n dX10_open_0 rfl (zRv_ref _) rfl ?_
  refine r_bipush dX10_open_1 kb_120 rfl ?_
  refine r_iload_n dX10_open_3 rfl rfl ?_
  refine r_imulN dX10_open_4 rfl ?_
  refine m_puti hm 12 lfX10_144 rfl rfl rfl dX10_open_5 rfl ?_
  refine r_aload_n dX10_open_8 rfl (zRv_ref _) rfl ?_
  refine r_aload_n dX10_open_9 rfl (zRv_ref _) rfl ?_
  refine m_getiv hm 12 lfX10_144 rfl (by first | (simp only [zGS, zMS, Nat.reduceEqDiff, OfNat.ofNat_ne_ofNat, false_and, and_false, true_and, and_true, and_self, if_true, if_false, ite_true, ite_false, reduceIte, reduceCtorEq]; first | done | assumption | rfl) | assumption | exact z2_eq | exact z1_eq | (simp [zGS, zMS]; first | done | assumption) | rfl) dX10_open_10 rfl ?_
  refine m_puti hm 14 lfX10_147 rfl rfl rfl dX10_open_13 rfl ?_
  refine r_aload_n dX10_open_16 rfl (zRv_ref _) rfl ?_
  refine r_aload_n dX10_open_17 rfl (zRv_ref _) rfl ?_
  refine m_getiv hm 12 lfX10_144 rfl (by first | (simp only [zGS, zMS, Nat.reduceEqDiff, OfNat.ofNat_ne_ofNat, false_and, and_false, true_and, and_true, and_self, if_true, if_false, ite_true, ite_false, reduceIte, reduceCtorEq]; first | done | assumption | rfl) | assumption | exact z2_eq | exact z1_eq | (simp [zGS, zMS]; first | done | assumption) | rfl) dX10_open_18 rfl ?_
  refine r_aload_n dX10_open_21 rfl (zRv_ref _) rfl ?_
  refine m_geta hm 10 8 lfX10_32 rfl (by decide) dX10_open_22 rfl ?_
  refine r_iload_n dX10_open_25 rfl rfl ?_
  refine m_ialdv hm 8 _ (by decide) (by decide) rfl rfl (by show _ < 17; omega) (by first | (simp only [zGS, zMS, Nat.reduceEqDiff, OfNat.ofNat_ne_ofNat, false_and, and_false, true_and, and_true, and_self, if_true, if_false, ite_true, ite_false, reduceIte, reduceCtorEq]; first | done | assumption | rfl) | assumption | exact z2_eq | exact z1_eq | (simp [zGS, zMS]; first | done | assumption) | rfl) dX10_open_26 rfl ?_
  refine r_iaddN dX10_open_27 rfl ?_
  refine m_puti hm 13 lfX10_150 rfl rfl rfl dX10_open_28 rfl ?_
  refine r_aload_n dX10_open_31 rfl (zRv_ref _) rfl ?_
  refine r_iconst dX10_open_32 kc_1 rfl ?_
  refine m_putz hm 15 (by first | exact Or.inl rfl | exact Or.inr rfl | exact zb01 _ | assumption) lfX10_153 rfl rfl rfl dX10_open_33 rfl ?_
  refine r_aload_n dX10_open_36 rfl (zRv_ref _) rfl ?_
  refine r_iconst dX10_open_37 kc_0 rfl ?_
  refine m_puti hm 16 lfX10_157 rfl rfl rfl dX10_open_38 rfl ?_
  refine r_aload_n dX10_open_41 rfl (zRv_ref _) rfl ?_
  refine r_iconst dX10_open_42 kc_0 rfl ?_
  refine m_puti hm 18 lfX10_160 rfl rfl rfl dX10_open_43 rfl ?_
  refine r_aload_n dX10_open_46 rfl (zRv_ref _) rfl ?_
  refine r_iconst dX10_open_47 kc_0 rfl ?_
  refine m_puti hm 21 lfX10_163 rfl rfl rfl dX10_open_48 rfl ?_
  refine r_aload_n dX10_open_51 rfl (zRv_ref _) rfl ?_
  refine r_iconst dX10_open_52 kc_0 rfl ?_
  refine m_puti hm 27 lfX10_166 rfl rfl rfl dX10_open_53 rfl ?_
  refine r_aload_n dX10_open_56 rfl (zRv_ref _) rfl ?_
  refine r_iconst dX10_open_57 kc_0 rfl ?_
  refine m_puti hm 32 lfX10_169 rfl rfl rfl dX10_open_58 rfl ?_
  refine r_vret rfl dX10_open_61 ?_
  refine ⟨rfl, rfl, ?_⟩
  refine opn9 (Q := fun s => rKp sg s ∧ cuG s (120 * k) X ∧ ssG s 0 0 0 [] ∧ dtG s []) (fun s a12 a14 a13 a15 a16 a18 a21 a27 a32 aj am ag => ⟨⟨aj, fun j i _ => by rw [am], fun j i _ => by rw [ag]⟩, ?_, ?_, ?_⟩)
  · refine ⟨120 * k, ⟨?_, a14, a13, a15, by omega, by omega⟩, a12, Nat.le_refl _, by omega, by omega, ?_, h4⟩
    · intro i hi
      rw [am]
      exact ht i hi
    · intro i c hc
      rw [chN_eq am]
      exact h3 i c hc
  · exact ⟨⟨a16, a18, a21⟩, fun i cs q => (by cases q), fun i x q => (by cases q), fun q => absurd rfl q, fun i q hq => (by cases hq)⟩
  · exact ⟨⟨a27, a32⟩, fun i x q => (by cases q), fun q => absurd rfl q, fun i x q => (by cases q)⟩

/-! what a rule is -/
def dlB (o : Option (List PDecl × List Nat)) : Prop := o = none ∨ ∃ l r', o = some (l, r') ∧ hdN r' ≠ 125
theorem dlB_E {l0 : List PDecl} {o : Option (List PDecl × List Nat)} (h : dlB o) : pDecsE (pDecsR l0 o) = none := by
  rcases h with h | ⟨l, r', h, h2⟩
  · rw [h]
    rfl
  · rw [h]
    show (match pCh 125 r' with
      | none => none
      | some r4 => if r4.isEmpty = true then some (l0 ++ l) else none) = none
    rw [ch_ne h2]
theorem dl_stop {rD : List Nat → Option (PDecl × List Nat)} {j : Nat} {r : List Nat} (h : hdN r ≠ 59) : pDecsL rD j r = some ([], r) := by
  cases j with
  | zero => rfl
  | succ j =>
    unfold pDecsL
    rw [ch_ne h]
theorem dl_go {rD : List Nat → Option (PDecl × List Nat)} {j : Nat} {r1 : List Nat} : pDecsL rD (j + 1) (59 :: r1) = (match rD r1 with
    | none => none
    | some (x, r2) => match pDecsL rD j r2 with
      | none => none
      | some (l, r3) => some (x :: l, r3)) := by
  conv => lhs; unfold pDecsL
  rw [ch_eq]
  rfl
theorem dlB_go {rD : List Nat → Option (PDecl × List Nat)} {j : Nat} {r1 : List Nat} (h : stD (rD r1)) : dlB (pDecsL rD (j + 1) (59 :: r1)) := by
  rw [dl_go]
  rcases h with h | ⟨D, r', h, h2⟩
  · rw [h]
    exact Or.inl rfl
  · rw [h]
    have := dg_hd h2
    simp only []
    rw [dl_stop (by omega)]
    exact Or.inr ⟨_, r', rfl, by omega⟩
theorem dlB_go2 {rD : List Nat → Option (PDecl × List Nat)} {j : Nat} {r1 r2 : List Nat} {x : PDecl} (h0 : rD r1 = some (x, r2)) (h : dlB (pDecsL rD j r2)) : dlB (pDecsL rD (j + 1) (59 :: r1)) := by
  rw [dl_go, h0]
  simp only []
  rcases h with h | ⟨l, r', h, h2⟩
  · rw [h]
    exact Or.inl rfl
  · rw [h]
    exact Or.inr ⟨_, r', rfl, h2⟩
/-- the declarations' loop -/
def dlO (j : Nat) (r : List Nat) (ds : List PDm) (sg' : ZM) (o : Option (List Nat)) : Prop := (o = none ∧ ∀ og, dlB (pDecsL (pDecl og) j r)) ∨ ∃ d2 r', o = some r' ∧ (∀ og, pDecsL (pDecl og) j r = some (d2.map (mkD og), r')) ∧ dtG sg' (ds ++ d2) ∧ (flD (ds ++ d2)).length ≤ 120 ∧ (∀ x ∈ d2, x.1 < 10 ∧ x.2.1 < 3) ∧ (ds ++ d2).length ≤ 4
theorem rr_26b (E : ZE) (mo : Nat) (hm : E.2.2.2.2 = some mo) (w : ZW) (sg : ZM) (d : Nat) (x1 : Value) (P : ZPhi) (h : mi sg 15 = zb false) (K : RW E MX10_readRule 73 [some (.ref mo), some x1] [] w sg d 0 0 P) : RW E MX10_readRule 26 [some (.ref mo), some x1] [] w sg d 0 0 P := by
  refine r_aload_n dX10_readRule_26 rfl (zRv_ref _) rfl ?_
  refine m_getiv hm 15 lfX10_153 rfl (by first | (simp only [zGS, zMS, Nat.reduceEqDiff, OfNat.ofNat_ne_ofNat, false_and, and_false, true_and, and_true, and_self, if_true, if_false, ite_true, ite_false, reduceIte, reduceCtorEq]; first | done | assumption | rfl) | assumption | exact z2_eq | exact z1_eq | (simp [zGS, zMS]; first | done | assumption) | rfl) dX10_readRule_27 rfl ?_
  refine r_if_eqB (r := 73) dX10_readRule_30 (by decide) rfl (fun c_30 => ?_) (fun c_30 => ?_)
  · exact K
  · cases c_30
theorem rr_26 (E : ZE) (mo : Nat) (hm : E.2.2.2.2 = some mo) (w : ZW) (d f : Nat) (hd : 6 ≤ d) (x1 : Value) (P : ZPhi) : ∀ (j : Nat) (sg : ZM) (ss : List (List PCr)) (ds : List PDm) (r : List Nat), ds.length + j = 4 → cuG sg f r → dtG sg ds → ssG sg 0 0 0 ss → mWd sg → (flD ds).length + r.length ≤ 120 → (∀ sg' o', rKp sg sg' → ssG sg' 0 0 0 ss → cuO sg' f 590 o' → dlO j r ds sg' o' → RW E MX10_readRule 73 [some (.ref mo), some x1] [] w sg' d 0 0 P) → RW E MX10_readRule 26 [some (.ref mo), some x1] [] w sg d 0 0 P := by
  intro j
  induction j with
  | zero =>
    intro sg ss ds r hj h hT hS hW hn K
    have g0 : mi sg 15 = zb true := (cuO.z (m := 0) h).g
    have hp := p_pass E mo hm w sg (d - 1) f 59 (by omega) (by decide) r h
    cases hc : pCh 59 r with
    | none =>
      rw [hc] at hp
      refine r_aload_n dX10_readRule_26 rfl (zRv_ref _) rfl ?_
      refine m_getiv hm 15 lfX10_153 rfl (by first | (simp only [zGS, zMS, Nat.reduceEqDiff, OfNat.ofNat_ne_ofNat, false_and, and_false, true_and, and_true, and_self, if_true, if_false, ite_true, ite_false, reduceIte, reduceCtorEq]; first | done | assumption | rfl) | assumption | exact z2_eq | exact z1_eq | (simp [zGS, zMS]; first | done | assumption) | rfl) dX10_readRule_27 rfl ?_
      refine r_if_eqB (r := 73) dX10_readRule_30 (by decide) rfl (fun c_30 => ?_) (fun c_30 => ?_)
      · cases c_30
      · refine r_aload_n dX10_readRule_33 rfl (zRv_ref _) rfl ?_
        refine r_bipush dX10_readRule_34 kb_59 rfl ?_
        refine r_callV MX10_pass 1 [_] lvX10_176 (Or.inr (Or.inl ⟨hm, rfl⟩)) (hp) rfl rfl (by first | exact Nat.le_of_ble_eq_true rfl | (simp [zcat_rf, Value.category]; done)) (by omega) (Nat.le_of_eq (Nat.zero_add _)) (Nat.le_of_eq (Nat.zero_add _)) dX10_readRule_36 rfl (fun v_ w_ sg_ hq_ => ?_)
        obtain ⟨rfl, rfl, v1, c1⟩ := hq_
        refine r_if_eqB (r := 73) dX10_readRule_39 (by decide) rfl (fun c_39 => ?_) (fun c_39 => ?_)
        · exact K _ (some r) v1.r (hS.mv v1) (cuO.z c1) (Or.inr ⟨[], r, rfl, fun og => rfl, by rw [List.append_nil]; exact hT.mv v1, by rw [List.append_nil]; omega, fun x hx => (by cases hx), by rw [List.append_nil]; omega⟩)
        · cases c_39
    | some r1 =>
      have e59 := pCh_eq hc
      subst e59
      rw [hc] at hp
      refine r_aload_n dX10_readRule_26 rfl (zRv_ref _) rfl ?_
      refine m_getiv hm 15 lfX10_153 rfl (by first | (simp only [zGS, zMS, Nat.reduceEqDiff, OfNat.ofNat_ne_ofNat, false_and, and_false, true_and, and_true, and_self, if_true, if_false, ite_true, ite_false, reduceIte, reduceCtorEq]; first | done | assumption | rfl) | assumption | exact z2_eq | exact z1_eq | (simp [zGS, zMS]; first | done | assumption) | rfl) dX10_readRule_27 rfl ?_
      refine r_if_eqB (r := 73) dX10_readRule_30 (by decide) rfl (fun c_30 => ?_) (fun c_30 => ?_)
      · cases c_30
      · refine r_aload_n dX10_readRule_33 rfl (zRv_ref _) rfl ?_
        refine r_bipush dX10_readRule_34 kb_59 rfl ?_
        refine r_callV MX10_pass 1 [_] lvX10_176 (Or.inr (Or.inl ⟨hm, rfl⟩)) (hp) rfl rfl (by first | exact Nat.le_of_ble_eq_true rfl | (simp [zcat_rf, Value.category]; done)) (by omega) (Nat.le_of_eq (Nat.zero_add _)) (Nat.le_of_eq (Nat.zero_add _)) dX10_readRule_36 rfl (fun v_ w_ sg_ hq_ => ?_)
        obtain ⟨rfl, rfl, v1, c1⟩ := hq_
        obtain ⟨sg1, hsg1⟩ : ∃ y, y = sg_ := ⟨_, rfl⟩
        subst hsg1
        have c1' : cuG sg1 f r1 := c1
        have i27 : mi sg1 27 = nI ds.length := (hT.mv v1).1.1
        refine r_if_eqB (r := 73) dX10_readRule_39 (by decide) rfl (fun c_39 => ?_) (fun c_39 => ?_)
        · cases c_39
        · refine r_aload_n dX10_readRule_42 rfl (zRv_ref _) rfl ?_
          refine r_aload_n dX10_readRule_43 rfl (zRv_ref _) rfl ?_
          refine m_getiv hm 27 lfX10_166 rfl (by first | (simp only [zGS, zMS, Nat.reduceEqDiff, OfNat.ofNat_ne_ofNat, false_and, and_false, true_and, and_true, and_self, if_true, if_false, ite_true, ite_false, reduceIte, reduceCtorEq]; first | done | assumption | rfl) | assumption | exact z2_eq | exact z1_eq | (simp [zGS, zMS]; first | done | assumption) | rfl) dX10_readRule_44 rfl ?_
          refine r_iconst dX10_readRule_47 kc_4 rfl ?_
          refine r_icmp_geN (by omega) (by omega) (r := 55) dX10_readRule_48 (by decide) rfl (fun c_48 => ?_) (fun c_48 => ?_)
          · refine r_iconst dX10_readRule_55 kc_0 rfl ?_
            refine r_callV MX10_must 1 [_] lvX10_180 (Or.inr (Or.inl ⟨hm, rfl⟩)) (o_must E mo hm w sg1 (d - 1) f 790 (by decide) false (some r1) (cuO.z c1')) rfl rfl (by first | exact Nat.le_of_ble_eq_true rfl | (simp [zcat_rf, Value.category]; done)) (by omega) (Nat.le_of_eq (Nat.zero_add _)) (Nat.le_of_eq (Nat.zero_add _)) dX10_readRule_56 rfl (fun v_ w_ sg_ hq_ => ?_)
            obtain ⟨rfl, rfl, v2, c2⟩ := hq_
            obtain ⟨sg2, hsg2⟩ : ∃ y, y = sg_ := ⟨_, rfl⟩
            subst hsg2
            have g2 : mi sg2 15 = zb false := c2.g
            refine r_aload_n dX10_readRule_59 rfl (zRv_ref _) rfl ?_
            refine m_getiv hm 15 lfX10_153 rfl (by first | (simp only [zGS, zMS, Nat.reduceEqDiff, OfNat.ofNat_ne_ofNat, false_and, and_false, true_and, and_true, and_self, if_true, if_false, ite_true, ite_false, reduceIte, reduceCtorEq]; first | done | assumption | rfl) | assumption | exact z2_eq | exact z1_eq | (simp [zGS, zMS]; first | done | assumption) | rfl) dX10_readRule_60 rfl ?_
            refine r_if_eqB (r := 26) dX10_readRule_63 (by decide) rfl (fun c_63 => ?_) (fun c_63 => ?_)
            · exact rr_26b E mo hm w sg2 d x1 P g2 (K sg2 none (v1.tr v2).r (hS.mv (v1.tr v2)) (c2.mono (by decide)) (Or.inl ⟨rfl, fun og => Or.inr ⟨[], 59 :: r1, rfl, by show (59 : Nat) ≠ 125; decide⟩⟩))
            · cases c_63
          · exact absurd c_48 (by omega)
  | succ j ih =>
    intro sg ss ds r hj h hT hS hW hn K
    have g0 : mi sg 15 = zb true := (cuO.z (m := 0) h).g
    have hp := p_pass E mo hm w sg (d - 1) f 59 (by omega) (by decide) r h
    cases hc : pCh 59 r with
    | none =>
      rw [hc] at hp
      have hstop : ∀ og, pDecsL (pDecl og) (j + 1) r = some ([], r) := fun og => by unfold pDecsL; rw [hc]
      refine r_aload_n dX10_readRule_26 rfl (zRv_ref _) rfl ?_
      refine m_getiv hm 15 lfX10_153 rfl (by first | (simp only [zGS, zMS, Nat.reduceEqDiff, OfNat.ofNat_ne_ofNat, false_and, and_false, true_and, and_true, and_self, if_true, if_false, ite_true, ite_false, reduceIte, reduceCtorEq]; first | done | assumption | rfl) | assumption | exact z2_eq | exact z1_eq | (simp [zGS, zMS]; first | done | assumption) | rfl) dX10_readRule_27 rfl ?_
      refine r_if_eqB (r := 73) dX10_readRule_30 (by decide) rfl (fun c_30 => ?_) (fun c_30 => ?_)
      · cases c_30
      · refine r_aload_n dX10_readRule_33 rfl (zRv_ref _) rfl ?_
        refine r_bipush dX10_readRule_34 kb_59 rfl ?_
        refine r_callV MX10_pass 1 [_] lvX10_176 (Or.inr (Or.inl ⟨hm, rfl⟩)) (hp) rfl rfl (by first | exact Nat.le_of_ble_eq_true rfl | (simp [zcat_rf, Value.category]; done)) (by omega) (Nat.le_of_eq (Nat.zero_add _)) (Nat.le_of_eq (Nat.zero_add _)) dX10_readRule_36 rfl (fun v_ w_ sg_ hq_ => ?_)
        obtain ⟨rfl, rfl, v1, c1⟩ := hq_
        refine r_if_eqB (r := 73) dX10_readRule_39 (by decide) rfl (fun c_39 => ?_) (fun c_39 => ?_)
        · exact K _ (some r) v1.r (hS.mv v1) (cuO.z c1) (Or.inr ⟨[], r, rfl, hstop, by rw [List.append_nil]; exact hT.mv v1, by rw [List.append_nil]; omega, fun x hx => (by cases hx), by rw [List.append_nil]; omega⟩)
        · cases c_39
    | some r1 =>
      have e59 := pCh_eq hc
      subst e59
      have hlen : (59 :: r1).length = r1.length + 1 := List.length_cons
      rw [hc] at hp
      refine r_aload_n dX10_readRule_26 rfl (zRv_ref _) rfl ?_
      refine m_getiv hm 15 lfX10_153 rfl (by first | (simp only [zGS, zMS, Nat.reduceEqDiff, OfNat.ofNat_ne_ofNat, false_and, and_false, true_and, and_true, and_self, if_true, if_false, ite_true, ite_false, reduceIte, reduceCtorEq]; first | done | assumption | rfl) | assumption | exact z2_eq | exact z1_eq | (simp [zGS, zMS]; first | done | assumption) | rfl) dX10_readRule_27 rfl ?_
      refine r_if_eqB (r := 73) dX10_readRule_30 (by decide) rfl (fun c_30 => ?_) (fun c_30 => ?_)
      · cases c_30
      · refine r_aload_n dX10_readRule_33 rfl (zRv_ref _) rfl ?_
        refine r_bipush dX10_readRule_34 kb_59 rfl ?_
        refine r_callV MX10_pass 1 [_] lvX10_176 (Or.inr (Or.inl ⟨hm, rfl⟩)) (hp) rfl rfl (by first | exact Nat.le_of_ble_eq_true rfl | (simp [zcat_rf, Value.category]; done)) (by omega) (Nat.le_of_eq (Nat.zero_add _)) (Nat.le_of_eq (Nat.zero_add _)) dX10_readRule_36 rfl (fun v_ w_ sg_ hq_ => ?_)
        obtain ⟨rfl, rfl, v1, c1⟩ := hq_
        obtain ⟨sg1, hsg1⟩ : ∃ y, y = sg_ := ⟨_, rfl⟩
        subst hsg1
        have c1' : cuG sg1 f r1 := c1
        have i27 : mi sg1 27 = nI ds.length := (hT.mv v1).1.1
        refine r_if_eqB (r := 73) dX10_readRule_39 (by decide) rfl (fun c_39 => ?_) (fun c_39 => ?_)
        · cases c_39
        · refine r_aload_n dX10_readRule_42 rfl (zRv_ref _) rfl ?_
          refine r_aload_n dX10_readRule_43 rfl (zRv_ref _) rfl ?_
          refine m_getiv hm 27 lfX10_166 rfl (by first | (simp only [zGS, zMS, Nat.reduceEqDiff, OfNat.ofNat_ne_ofNat, false_and, and_false, true_and, and_true, and_self, if_true, if_false, ite_true, ite_false, reduceIte, reduceCtorEq]; first | done | assumption | rfl) | assumption | exact z2_eq | exact z1_eq | (simp [zGS, zMS]; first | done | assumption) | rfl) dX10_readRule_44 rfl ?_
          refine r_iconst dX10_readRule_47 kc_4 rfl ?_
          refine r_icmp_geN (by omega) (by omega) (r := 55) dX10_readRule_48 (by decide) rfl (fun c_48 => ?_) (fun c_48 => ?_)
          · exact absurd c_48 (by omega)
          · refine r_iconst dX10_readRule_51 kc_1 rfl ?_
            refine r_goto (r := 56) dX10_readRule_52 (by decide) ?_
            refine r_callV MX10_must 1 [_] lvX10_180 (Or.inr (Or.inl ⟨hm, rfl⟩)) (o_must E mo hm w sg1 (d - 1) f 790 (by decide) true (some r1) (cuO.z c1')) rfl rfl (by first | exact Nat.le_of_ble_eq_true rfl | (simp [zcat_rf, Value.category]; done)) (by omega) (Nat.le_of_eq (Nat.zero_add _)) (Nat.le_of_eq (Nat.zero_add _)) dX10_readRule_56 rfl (fun v_ w_ sg_ hq_ => ?_)
            obtain ⟨rfl, rfl, v2, c2⟩ := hq_
            obtain ⟨sg2, hsg2⟩ : ∃ y, y = sg_ := ⟨_, rfl⟩
            subst hsg2
            have g2 : mi sg2 15 = zb true := c2.g
            refine r_aload_n dX10_readRule_59 rfl (zRv_ref _) rfl ?_
            refine m_getiv hm 15 lfX10_153 rfl (by first | (simp only [zGS, zMS, Nat.reduceEqDiff, OfNat.ofNat_ne_ofNat, false_and, and_false, true_and, and_true, and_self, if_true, if_false, ite_true, ite_false, reduceIte, reduceCtorEq]; first | done | assumption | rfl) | assumption | exact z2_eq | exact z1_eq | (simp [zGS, zMS]; first | done | assumption) | rfl) dX10_readRule_60 rfl ?_
            refine r_if_eqB (r := 26) dX10_readRule_63 (by decide) rfl (fun c_63 => ?_) (fun c_63 => ?_)
            · cases c_63
            · refine r_aload_n dX10_readRule_66 rfl (zRv_ref _) rfl ?_
              refine r_callV MX10_readDeclaration 0 [] lvX10_271 (Or.inr (Or.inl ⟨hm, rfl⟩)) (p_readDeclaration E mo hm w sg2 (d - 1) f (by omega) ds (by omega) r1 (by omega) (hT.mv (v1.tr v2)) ((v1.tr v2).r.wd hW) (by omega) c2) rfl rfl (by first | exact Nat.le_of_ble_eq_true rfl | (simp [zcat_rf, Value.category]; done)) (by omega) (Nat.le_of_eq (Nat.zero_add _)) (Nat.le_of_eq (Nat.zero_add _)) dX10_readRule_67 rfl (fun v_ w_ sg_ hq_ => ?_)
              obtain ⟨rfl, rfl, o, k3, c3, hk⟩ := hq_
              obtain ⟨sg3, hsg3⟩ : ∃ y, y = sg_ := ⟨_, rfl⟩
              subst hsg3
              have hS3 := (hS.mv (v1.tr v2)).dk k3
              have kr := (v1.tr v2).r.tr k3.r
              refine r_goto (r := 26) dX10_readRule_70 (by decide) ?_
              rcases hk with ⟨rfl, hk⟩ | ⟨x, r2, rfl, hpx, hT3, hll, hx1, hx2⟩
              · exact rr_26b E mo hm w sg3 d x1 P c3.g (K sg3 none kr hS3 (c3.mono (by decide)) (Or.inl ⟨rfl, fun og => dlB_go (hk og)⟩))
              · have hl4 : (ds ++ [x]).length = ds.length + 1 := by rw [List.length_append]; rfl
                have ef : (flD (ds ++ [x])).length = (flD ds).length + x.2.2.2.length := by rw [flD_app, List.length_append]; show _ + (x.2.2.2 ++ []).length = _; rw [List.append_nil]
                refine ih sg3 ss (ds ++ [x]) r2 (by omega) c3 hT3 hS3 (kr.wd hW) (by omega) (fun sg' o' a1 a2 a3 a4 => K sg' o' (kr.tr a1) a2 a3 ?_)
                rcases a4 with ⟨z1, z2⟩ | ⟨d2, r3, z1, z2, z3, z4, z5, z6⟩
                · exact Or.inl ⟨z1, fun og => dlB_go2 (hpx og) (z2 og)⟩
                · rw [List.append_assoc] at z3 z4 z6
                  refine Or.inr ⟨x :: d2, r3, z1, fun og => ?_, z3, z4, fun y hy => ?_, z6⟩
                  · rw [dl_go, hpx og]
                    simp only []
                    rw [z2 og]
                    rfl
                  · rcases List.mem_cons.mp hy with rfl | q
                    · exact ⟨hx1, hx2⟩
                    · exact z5 y q
/-! the end of a rule -/
def rrB (o : Option (List Nat)) : Bool := match o with
  | none => false
  | some r => match pCh 125 r with
    | none => false
    | some r4 => r4.isEmpty
def rrE (sg : ZM) (f : Nat) (o : Option (List Nat)) (w : ZW) : ZQ := fun v w' sg' => w = w' ∧ mvC sg sg' ∧ ∃ b : Bool, v = some (.int (zb b)) ∧ b = rrB o
theorem rr_73 (E : ZE) (mo : Nat) (hm : E.2.2.2.2 = some mo) (w : ZW) (sg : ZM) (d f : Nat) (hd : 3 ≤ d) (x1 : Value) (o : Option (List Nat)) (h : cuO sg f 590 o) : RW E MX10_readRule 73 [some (.ref mo), some x1] [] w sg d 0 0 (PN E (rrE sg f o w)) := by
  have fin : ∀ (sg1 : ZM) (o1 : Option (List Nat)), mvC sg sg1 → cuO sg1 f 589 o1 → o1 = bndO o (pCh 125) → ∃ a e, mi sg1 14 = nI a ∧ mi sg1 13 = nI e ∧ a < 10000 ∧ e ≤ 2040 ∧ (a = e → CallQ E MX10_must [.ref mo, .int (zb true)] w sg1 (d - 1) 0 0 (fun v w' sg' => v = none ∧ w = w' ∧ mvC sg1 sg' ∧ mi sg' 15 = zb (rrB o))) ∧ (a ≠ e → CallQ E MX10_must [.ref mo, .int (zb false)] w sg1 (d - 1) 0 0 (fun v w' sg' => v = none ∧ w = w' ∧ mvC sg1 sg' ∧ mi sg' 15 = zb (rrB o))) := by
    intro sg1 o1 v1 c1 ho
    cases o1 with
    | none =>
      have hr : rrB o = false := by
        cases o with
        | none => rfl
        | some r =>
          have h9 : pCh 125 r = none := ho.symm
          unfold rrB
          simp only []
          rw [h9]
      have c2 : cuB sg1 f 589 := c1
      obtain ⟨a, e, h1, h2, h3⟩ := id c2
      refine ⟨a, e, h1.2.1, h1.2.2.1, h1.2.2.2.2.2, h1.2.2.2.2.1, fun _ => ?_, fun _ => ?_⟩
      · refine (b_must E mo hm w sg1 (d - 1) f 589 true c2).mono ?_
        rintro v w' sg' ⟨q1, q2, q3, q4⟩
        rw [hr]
        exact ⟨q1, q2, q3, (show cuO sg' f 589 none from q4).g⟩
      · refine (b_must E mo hm w sg1 (d - 1) f 589 false c2).mono ?_
        rintro v w' sg' ⟨q1, q2, q3, q4⟩
        rw [hr]
        exact ⟨q1, q2, q3, (show cuO sg' f 589 none from q4).g⟩
    | some r4 =>
      have hr : rrB o = r4.isEmpty := by
        cases o with
        | none => cases ho
        | some r =>
          have h9 : pCh 125 r = some r4 := ho.symm
          unfold rrB
          simp only []
          rw [h9]
      have c2 : cuG sg1 f r4 := c1
      obtain ⟨a, h1, h2, h3, h4, h5, h6, h7⟩ := id c2
      refine ⟨a, a + r4.length, h1.2.1, h1.2.2.1, h1.2.2.2.2.2, h1.2.2.2.2.1, fun q => ?_, fun q => ?_⟩
      · refine (o_must E mo hm w sg1 (d - 1) f 589 (by decide) true (some r4) c2).mono ?_
        rintro v w' sg' ⟨q1, q2, q3, q4⟩
        have hn : r4 = [] := List.length_eq_zero_iff.mp (by omega)
        subst hn
        rw [hr]
        exact ⟨q1, q2, q3, q4.g⟩
      · refine (o_must E mo hm w sg1 (d - 1) f 589 (by decide) false (some r4) c2).mono ?_
        rintro v w' sg' ⟨q1, q2, q3, q4⟩
        have hn : r4.isEmpty = false := by
          cases r4 with
          | nil => exact absurd rfl q
          | cons c r5 => rfl
        rw [hr, hn]
        exact ⟨q1, q2, q3, q4.g⟩
  refine r_aload_n dX10_readRule_73 rfl (zRv_ref _) rfl ?_
  refine r_bipush dX10_readRule_74 kb_125 rfl ?_
  refine r_callV MX10_expect 1 [_] lvX10_188 (Or.inr (Or.inl ⟨hm, rfl⟩)) (o_expect E mo hm w sg (d - 1) f 125 589 (by decide) (by omega) (by decide) o h) rfl rfl (by first | exact Nat.le_of_ble_eq_true rfl | (simp [zcat_rf, Value.category]; done)) (by omega) (Nat.le_of_eq (Nat.zero_add _)) (Nat.le_of_eq (Nat.zero_add _)) dX10_readRule_76 rfl (fun v_ w_ sg_ hq_ => ?_)
  obtain ⟨rfl, rfl, v1, c1⟩ := hq_
  obtain ⟨sg1, hsg1⟩ : ∃ y, y = sg_ := ⟨_, rfl⟩
  subst hsg1
  obtain ⟨a, e, a1, a2, a3, a4, a5, a6⟩ := fin sg1 _ v1 c1 rfl
  refine r_aload_n dX10_readRule_79 rfl (zRv_ref _) rfl ?_
  refine r_aload_n dX10_readRule_80 rfl (zRv_ref _) rfl ?_
  refine m_getiv hm 14 lfX10_147 rfl (by first | (simp only [zGS, zMS, Nat.reduceEqDiff, OfNat.ofNat_ne_ofNat, false_and, and_false, true_and, and_true, and_self, if_true, if_false, ite_true, ite_false, reduceIte, reduceCtorEq]; first | done | assumption | rfl) | assumption | exact z2_eq | exact z1_eq | (simp [zGS, zMS]; first | done | assumption) | rfl) dX10_readRule_81 rfl ?_
  refine r_aload_n dX10_readRule_84 rfl (zRv_ref _) rfl ?_
  refine m_getiv hm 13 lfX10_150 rfl (by first | (simp only [zGS, zMS, Nat.reduceEqDiff, OfNat.ofNat_ne_ofNat, false_and, and_false, true_and, and_true, and_self, if_true, if_false, ite_true, ite_false, reduceIte, reduceCtorEq]; first | done | assumption | rfl) | assumption | exact z2_eq | exact z1_eq | (simp [zGS, zMS]; first | done | assumption) | rfl) dX10_readRule_85 rfl ?_
  refine r_icmp_neN (by omega) (by omega) (r := 95) dX10_readRule_88 (by decide) rfl (fun c_88 => ?_) (fun c_88 => ?_)
  · refine r_iconst dX10_readRule_95 kc_0 rfl ?_
    refine r_callV MX10_must 1 [_] lvX10_180 (Or.inr (Or.inl ⟨hm, rfl⟩)) (a6 c_88) rfl rfl (by first | exact Nat.le_of_ble_eq_true rfl | (simp [zcat_rf, Value.category]; done)) (by omega) (Nat.le_of_eq (Nat.zero_add _)) (Nat.le_of_eq (Nat.zero_add _)) dX10_readRule_96 rfl (fun v_ w_ sg_ hq_ => ?_)
    obtain ⟨rfl, rfl, v2, g2⟩ := hq_
    refine r_aload_n dX10_readRule_99 rfl (zRv_ref _) rfl ?_
    refine m_getiv hm 15 lfX10_153 rfl (by first | (simp only [zGS, zMS, Nat.reduceEqDiff, OfNat.ofNat_ne_ofNat, false_and, and_false, true_and, and_true, and_self, if_true, if_false, ite_true, ite_false, reduceIte, reduceCtorEq]; first | done | assumption | rfl) | assumption | exact z2_eq | exact z1_eq | (simp [zGS, zMS]; first | done | assumption) | rfl) dX10_readRule_100 rfl ?_
    refine r_zret .boolean rfl (zb_nar _) dX10_readRule_103 ?_
    exact ⟨rfl, v1.tr v2, _, rfl, rfl⟩
  · refine r_iconst dX10_readRule_91 kc_1 rfl ?_
    refine r_goto (r := 96) dX10_readRule_92 (by decide) ?_
    refine r_callV MX10_must 1 [_] lvX10_180 (Or.inr (Or.inl ⟨hm, rfl⟩)) (a5 c_88) rfl rfl (by first | exact Nat.le_of_ble_eq_true rfl | (simp [zcat_rf, Value.category]; done)) (by omega) (Nat.le_of_eq (Nat.zero_add _)) (Nat.le_of_eq (Nat.zero_add _)) dX10_readRule_96 rfl (fun v_ w_ sg_ hq_ => ?_)
    obtain ⟨rfl, rfl, v2, g2⟩ := hq_
    refine r_aload_n dX10_readRule_99 rfl (zRv_ref _) rfl ?_
    refine m_getiv hm 15 lfX10_153 rfl (by first | (simp only [zGS, zMS, Nat.reduceEqDiff, OfNat.ofNat_ne_ofNat, false_and, and_false, true_and, and_true, and_self, if_true, if_false, ite_true, ite_false, reduceIte, reduceCtorEq]; first | done | assumption | rfl) | assumption | exact z2_eq | exact z1_eq | (simp [zGS, zMS]; first | done | assumption) | rfl) dX10_readRule_100 rfl ?_
    refine r_zret .boolean rfl (zb_nar _) dX10_readRule_103 ?_
    exact ⟨rfl, v1.tr v2, _, rfl, rfl⟩
def rrQ (sg : ZM) (X : List Nat) (w : ZW) : ZQ := fun v w' sg' => w = w' ∧ rKp sg sg' ∧ ((v = some (.int (zb false)) ∧ ∀ og, readR X og = none) ∨ ∃ ls ts ds, v = some (.int (zb true)) ∧ (∀ og, readR X og = some (ls, ds.map (mkD og))) ∧ ssR ts ls ∧ ssG sg' 0 0 0 ts ∧ (ts.length ≤ 3 ∧ (rwsO (flS ts)).length ≤ 125 ∧ (flS ts).length ≤ 126) ∧ dtG sg' ds ∧ (flD ds).length ≤ 120 ∧ (∀ x ∈ ds, x.1 < 10 ∧ x.2.1 < 3) ∧ ds.length ≤ 4)
theorem rrN {X : List Nat} {ls : List (List (Nat × PComp))} {r' : List Nat} (h : pSels X = some (ls, r')) (h2 : ∀ og, pDecs (pDecl og) r' = none) : ∀ og, readR X og = none := fun og => by
  unfold readR
  rw [h]
  simp only []
  rw [h2 og]
theorem rr_15b (E : ZE) (mo : Nat) (hm : E.2.2.2.2 = some mo) (w : ZW) (sg sg3 : ZM) (d f : Nat) (hd : 15 ≤ d) (X : List Nat) (x1 : Value) (k : rKp sg sg3) (h : cuO sg3 f 590 none) (hn : ∀ og, readR X og = none) : RW E MX10_readRule 73 [some (.ref mo), some x1] [] w sg3 d 0 0 (PN E (rrQ sg X w)) := by
  refine RW.qmono (rr_73 E mo hm w sg3 d f (by omega) x1 none h) ?_
  rintro v w' sg' ⟨q1, q2, b, q3, q4⟩
  have q5 : b = false := q4
  rw [q5] at q3
  exact ⟨q1, k.tr q2.r, Or.inl ⟨q3, hn⟩⟩
theorem pDecs_1 {rD : List Nat → Option (PDecl × List Nat)} {r1 : List Nat} : pDecs rD (123 :: r1) = (match rD r1 with
    | none => none
    | some (x, r2) => pDecsE (pDecsR [x] (pDecsL rD 3 r2))) := by
  unfold pDecs
  rw [ch_eq]
  rfl
theorem pDecs_0 {rD : List Nat → Option (PDecl × List Nat)} {r : List Nat} (h : pCh 123 r = none) : pDecs rD r = none := by
  unfold pDecs
  rw [h]
theorem p_readRule (E : ZE) (mo : Nat) (hm : E.2.2.2.2 = some mo) (w : ZW) (sg : ZM) (d k : Nat) (hd : 15 ≤ d) (X : List Nat) (hk : k ≤ 16) (ht : mTx sg) (hW : mWd sg) (h : txA sg k X) : CallQ E MX10_readRule [.ref mo, .int (nI k)] w sg d 0 0 (rrQ sg X w) := by
  have hX := h.2.1
  refine CallQ.of rfl (by simp [Value.category]) (Nat.le_of_ble_eq_true rfl) ?_
  refine r_aload_n dX10_readRule_0 rfl (zRv_ref _) rfl ?_
  refine r_iload_n dX10_readRule_1 rfl rfl ?_
  refine r_callV MX10_open 1 [_] lvX10_265 (Or.inr (Or.inl ⟨hm, rfl⟩)) (q_open E mo hm w sg (d - 1) k X hk ht h) rfl rfl (by first | exact Nat.le_of_ble_eq_true rfl | (simp [zcat_rf, Value.category]; done)) (by omega) (Nat.le_of_eq (Nat.zero_add _)) (Nat.le_of_eq (Nat.zero_add _)) dX10_readRule_2 rfl (fun v_ w_ sg_ hq_ => ?_)
  obtain ⟨rfl, rfl, k1, c1, hS1, hT1⟩ := hq_
  obtain ⟨sg1, hsg1⟩ : ∃ y, y = sg_ := ⟨_, rfl⟩
  subst hsg1
  refine r_aload_n dX10_readRule_5 rfl (zRv_ref _) rfl ?_
  refine r_callV MX10_readSelectors 0 [] lvX10_268 (Or.inr (Or.inl ⟨hm, rfl⟩)) (p_readSelectors E mo hm w sg1 (d - 1) (120 * k) (by omega) X hS1 hX c1) rfl rfl (by first | exact Nat.le_of_ble_eq_true rfl | (simp [zcat_rf, Value.category]; done)) (by omega) (Nat.le_of_eq (Nat.zero_add _)) (Nat.le_of_eq (Nat.zero_add _)) dX10_readRule_6 rfl (fun v_ w_ sg_ hq_ => ?_)
  obtain ⟨rfl, rfl, o, k2, c2, hk2⟩ := hq_
  obtain ⟨sg2, hsg2⟩ : ∃ y, y = sg_ := ⟨_, rfl⟩
  subst hsg2
  have hT2 := hT1.mk0 k2
  refine r_aload_n dX10_readRule_9 rfl (zRv_ref _) rfl ?_
  refine r_bipush dX10_readRule_10 kb_123 rfl ?_
  refine r_callV MX10_expect 1 [_] lvX10_188 (Or.inr (Or.inl ⟨hm, rfl⟩)) (o_expect E mo hm w sg2 (d - 1) (120 * k) 123 659 (by decide) (by omega) (by decide) o c2) rfl rfl (by first | exact Nat.le_of_ble_eq_true rfl | (simp [zcat_rf, Value.category]; done)) (by omega) (Nat.le_of_eq (Nat.zero_add _)) (Nat.le_of_eq (Nat.zero_add _)) dX10_readRule_12 rfl (fun v_ w_ sg_ hq_ => ?_)
  obtain ⟨rfl, rfl, v3, c3⟩ := hq_
  obtain ⟨sg3, hsg3⟩ : ∃ y, y = sg_ := ⟨_, rfl⟩
  subst hsg3
  have k3 : rKp sg sg3 := (k1.tr k2.r).tr v3.r
  have g3 := c3.g
  cases ho : bndO o (pCh 123) with
  | none =>
    rw [ho] at c3 g3
    have hn : ∀ og, readR X og = none := by
      rcases hk2 with ⟨-, hb | ⟨ls, r', hb, hb2⟩⟩ | ⟨ls, r', ts, z1, z2, -⟩
      · intro og
        unfold readR
        rw [hb]
      · refine rrN hb (fun og => pDecs_0 (ch_ne (fun e => ?_)))
        rw [e] at hb2
        exact absurd hb2 (by decide)
      · rw [z1] at ho
        exact rrN z2 (fun og => pDecs_0 ho)
    refine r_aload_n dX10_readRule_15 rfl (zRv_ref _) rfl ?_
    refine m_getiv hm 15 lfX10_153 rfl (by first | (simp only [zGS, zMS, Nat.reduceEqDiff, OfNat.ofNat_ne_ofNat, false_and, and_false, true_and, and_true, and_self, if_true, if_false, ite_true, ite_false, reduceIte, reduceCtorEq]; first | done | assumption | rfl) | assumption | exact z2_eq | exact z1_eq | (simp [zGS, zMS]; first | done | assumption) | rfl) dX10_readRule_16 rfl ?_
    refine r_if_eqB (r := 26) dX10_readRule_19 (by decide) rfl (fun c_19 => ?_) (fun c_19 => ?_)
    · exact rr_26b E mo hm w sg3 d _ _ g3 (rr_15b E mo hm w sg sg3 d (120 * k) hd X _ k3 (c3.mono (by decide)) hn)
    · cases c_19
  | some r3 =>
    rw [ho] at c3 g3
    rcases hk2 with ⟨z1, -⟩ | ⟨ls, r', ts, z1, z2, z3, z4, z5, z6, z7⟩
    · rw [z1] at ho
      cases ho
    rw [z1] at ho
    have e123 : r' = 123 :: r3 := pCh_eq ho
    subst e123
    have hlen : (123 :: r3).length = r3.length + 1 := List.length_cons
    have hT3 := hT2.mv v3
    have hS3 := z5.mv v3
    have hrd := p_readDeclaration E mo hm w sg3 (d - 1) (120 * k) (by omega) [] (by decide) r3 (by omega) hT3 (k3.wd hW) (by show 0 + r3.length ≤ 125; omega) c3
    refine r_aload_n dX10_readRule_15 rfl (zRv_ref _) rfl ?_
    refine m_getiv hm 15 lfX10_153 rfl (by first | (simp only [zGS, zMS, Nat.reduceEqDiff, OfNat.ofNat_ne_ofNat, false_and, and_false, true_and, and_true, and_self, if_true, if_false, ite_true, ite_false, reduceIte, reduceCtorEq]; first | done | assumption | rfl) | assumption | exact z2_eq | exact z1_eq | (simp [zGS, zMS]; first | done | assumption) | rfl) dX10_readRule_16 rfl ?_
    refine r_if_eqB (r := 26) dX10_readRule_19 (by decide) rfl (fun c_19 => ?_) (fun c_19 => ?_)
    · cases c_19
    · refine r_aload_n dX10_readRule_22 rfl (zRv_ref _) rfl ?_
      refine r_callV MX10_readDeclaration 0 [] lvX10_271 (Or.inr (Or.inl ⟨hm, rfl⟩)) (hrd) rfl rfl (by first | exact Nat.le_of_ble_eq_true rfl | (simp [zcat_rf, Value.category]; done)) (by omega) (Nat.le_of_eq (Nat.zero_add _)) (Nat.le_of_eq (Nat.zero_add _)) dX10_readRule_23 rfl (fun v_ w_ sg_ hq_ => ?_)
      obtain ⟨rfl, rfl, o4, k4, c4, hk4⟩ := hq_
      obtain ⟨sg4, hsg4⟩ : ∃ y, y = sg_ := ⟨_, rfl⟩
      subst hsg4
      have k5 : rKp sg sg4 := k3.tr k4.r
      have hS4 := hS3.dk k4
      rcases hk4 with ⟨rfl, hk4⟩ | ⟨x, r2, rfl, hpx, hT4, hll, hx1, hx2⟩
      · refine rr_26b E mo hm w sg4 d _ _ c4.g (rr_15b E mo hm w sg sg4 d (120 * k) hd X _ k5 (c4.mono (by decide)) (rrN z2 (fun og => ?_)))
        rw [pDecs_1]
        rcases hk4 og with q | ⟨D, r2, q, q2⟩
        · rw [q]
        · rw [q]
          have := dg_hd q2
          simp only []
          rw [dl_stop (by omega)]
          exact dlB_E (Or.inr ⟨[], r2, rfl, by omega⟩)
      · have ef : (flD ([] ++ [x])).length = x.2.2.2.length := by show (x.2.2.2 ++ []).length = _; rw [List.append_nil]
        refine rr_26 E mo hm w d (120 * k) (by omega) _ _ 3 sg4 ts ([] ++ [x]) r2 rfl c4 hT4 hS4 (k5.wd hW) (by omega) (fun sg' o' a1 a2 a3 a4 => ?_)
        rcases a4 with ⟨rfl, y2⟩ | ⟨d2, r4, rfl, y2, y3, y4, y5, y6⟩
        · refine rr_15b E mo hm w sg sg' d (120 * k) hd X _ (k5.tr a1) a3 (rrN z2 (fun og => ?_))
          rw [pDecs_1, hpx og]
          exact dlB_E (y2 og)
        · refine RW.qmono (rr_73 E mo hm w sg' d (120 * k) (by omega) _ (some r4) a3) ?_
          rintro v w' sg9 ⟨q1, q2, b, q3, q4⟩
          have hread : ∀ og, readR X og = (match pCh 125 r4 with
            | none => none
            | some r5 => if r5.isEmpty = true then some (ls, (x :: d2).map (mkD og)) else none) := fun og => by
            unfold readR
            rw [z2]
            simp only []
            rw [pDecs_1, hpx og]
            simp only []
            rw [y2 og]
            show (match (match pCh 125 r4 with
              | none => none
              | some r5 => if r5.isEmpty = true then some ((x :: d2).map (mkD og)) else none) with
              | none => none
              | some ds => some (ls, ds)) = _
            cases pCh 125 r4 with
            | none => rfl
            | some r5 =>
              simp only []
              cases r5.isEmpty <;> rfl
          have kf : rKp sg sg9 := (k5.tr a1).tr q2.r
          have q5 : b = (match pCh 125 r4 with
            | none => false
            | some r5 => r5.isEmpty) := q4
          refine ⟨q1, kf, ?_⟩
          cases b with
          | false =>
            refine Or.inl ⟨q3, fun og => ?_⟩
            rw [hread og]
            cases h9 : pCh 125 r4 with
            | none => rfl
            | some r5 =>
              rw [h9] at q5
              have q6 : false = r5.isEmpty := q5
              simp only []
              rw [← q6]
              rfl
          | true =>
            refine Or.inr ⟨ls, ts, x :: d2, q3, fun og => ?_, z4, a2.mv q2, ⟨z7.2.2, z7.1, z7.2.1⟩, y3.mv q2, y4, fun y hy => ?_, y6⟩
            · rw [hread og]
              cases h9 : pCh 125 r4 with
              | none => rw [h9] at q5; cases q5
              | some r5 =>
                rw [h9] at q5
                have q6 : true = r5.isEmpty := q5
                simp only []
                rw [← q6]
                rfl
            · rcases List.mem_cons.mp hy with rfl | q
              · exact ⟨hx1, hx2⟩
              · exact y5 y q
