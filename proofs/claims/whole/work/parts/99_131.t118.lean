/-! ===== the model: readNumber ===== -/
theorem cuO.inc {sg : ZM} {f m : Nat} {o : Option (List Nat)} (h : cuO sg f (m + 1) o) (hne : ∀ r, o = some r → r ≠ []) : ∃ a, mi sg 14 = nI a ∧ a < 9999 ∧ cuO (msi sg 14 (nI (a + 1))) f m (bndO o fun r => some r.tail) := by
  cases o with
  | none =>
    have h0 : cuB sg f (m + 1) := h
    obtain ⟨a, e, h1, h2, h3⟩ := h0
    exact ⟨a, h1.2.1, by omega, a + 1, e, h1.m14 (by omega), (mvC.m14.1 12 (by decide) (by decide)).trans h2, by omega⟩
  | some r =>
    have h0 : cuG sg f r := h
    obtain ⟨a, h1, h2, h3, h4, h5, h6, h7⟩ := h0
    cases r with
    | nil => exact absurd rfl (hne _ rfl)
    | cons c r =>
      have hlen : (c :: r).length = r.length + 1 := List.length_cons
      exact ⟨a, h1.2.1, by omega, cu_step h1 h2 h3 h4 h5 h6 h7 (h1.m14 (by omega)) mvC.m14⟩
theorem cuO.here {sg : ZM} {f m : Nat} {o : Option (List Nat)} (h : cuO sg f m o) : ∃ a, mi sg 14 = nI a ∧ a < 10000 ∧ cuO (msi sg 14 (nI a)) f m o := by
  cases o with
  | none =>
    have h0 : cuB sg f m := h
    obtain ⟨a, e, h1, h2, h3⟩ := h0
    exact ⟨a, h1.2.1, h1.2.2.2.2.2, a, e, h1.m14 h1.2.2.2.2.2, (mvC.m14.1 12 (by decide) (by decide)).trans h2, h3⟩
  | some r =>
    have h0 : cuG sg f r := h
    obtain ⟨a, h1, h2, h3, h4, h5, h6, h7⟩ := h0
    exact ⟨a, h1.2.1, h1.2.2.2.2.2, cu_stay h1 h2 h3 h4 h5 h6 h7 (h1.m14 h1.2.2.2.2.2) mvC.m14⟩
/-- the unit by its sign -/
theorem pu_c {r : List Nat} {c u : Nat} (h : hdN r = c) (hc : (c = 112 ∧ u = 1) ∨ (c = 101 ∧ u = 2) ∨ (c = 37 ∧ u = 3)) : pUnit r = (u, r.tail) ∧ r ≠ [] := by
  cases r with
  | nil => have h9 : 0 = c := h; omega
  | cons x r =>
    have h9 : x = c := h
    subst h9
    refine ⟨?_, by simp⟩
    rcases hc with ⟨rfl, rfl⟩ | ⟨rfl, rfl⟩ | ⟨rfl, rfl⟩ <;> rfl
theorem pu_0 {r : List Nat} (h1 : hdN r ≠ 112) (h2 : hdN r ≠ 101) (h3 : hdN r ≠ 37) : pUnit r = (0, r) := by
  cases r with
  | nil => rfl
  | cons x r =>
    have e1 : pCh 112 (x :: r) = none := if_neg h1
    have e2 : pCh 101 (x :: r) = none := if_neg h2
    have e3 : pCh 37 (x :: r) = none := if_neg h3
    unfold pUnit
    rw [e1, e2, e3]
def rnT (sg : ZM) (f m N : Nat) (o : Option (List Nat)) (fv : UInt32) (w : ZW) : ZQ := fun v w' sg' => v = none ∧ w = w' ∧ ∃ u sg1, u < 4 ∧ mvC sg sg1 ∧ sg' = msi (msg (msa sg1 21 N (nI u)) 22 N fv) 32 (nI (N + 1)) ∧ cuO sg1 f m (bndO o fun r => some (pUnit r).2) ∧ ∀ r, o = some r → u = (pUnit r).1
theorem rnum_121 (E : ZE) (mo : Nat) (hm : E.2.2.2.2 = some mo) (w : ZW) (sg : ZM) (d f m N u : Nat) (hd : 1 ≤ d) (hN : N < 130) (o : Option (List Nat)) (fv : UInt32) (x1 x2 : Value) (h32 : mi sg 32 = nI N) (h : cuO sg f (m + 1) o) (hu : u < 4) (h0 : u = 0 → ∀ r, o = some r → pUnit r = (0, r)) (h1 : u ≠ 0 → ∀ r, o = some r → pUnit r = (u, r.tail) ∧ r ≠ []) : RW E MX10_readNumber 121 [some (.ref mo), some x1, some x2, some (.float fv), none] [.int (nI u)] w sg d 0 0 (PN E (rnT sg f m N o fv w)) := by
  by_cases q : u = 0
  · subst q
    obtain ⟨a, a1, a2, a3⟩ := h.here
    refine r_istore (ls' := [_, _, _, _, _]) dX10_readNumber_121 (Nat.le_of_ble_eq_true rfl) rfl rfl ?_
    refine r_aload_n dX10_readNumber_123 rfl (zRv_ref _) rfl ?_
    refine r_iload dX10_readNumber_124 rfl rfl ?_
    refine r_if_neN (by omega) (r := 136) dX10_readNumber_126 (by decide) rfl (fun c_126 => ?_) (fun c_126 => ?_)
    · exact absurd rfl c_126
    · refine r_aload_n dX10_readNumber_129 rfl (zRv_ref _) rfl ?_
      refine m_getiv hm 14 lfX10_147 rfl (by first | (simp only [zGS, zMS, Nat.reduceEqDiff, OfNat.ofNat_ne_ofNat, false_and, and_false, true_and, and_true, and_self, if_true, if_false, ite_true, ite_false, reduceIte, reduceCtorEq]; first | done | assumption | rfl) | assumption | exact z2_eq | exact z1_eq | (simp [zGS, zMS]; first | done | assumption) | rfl) dX10_readNumber_130 rfl ?_
      refine r_goto (r := 142) dX10_readNumber_133 (by decide) ?_
      refine m_puti hm 14 lfX10_147 rfl rfl rfl dX10_readNumber_142 rfl ?_
      refine r_aload_n dX10_readNumber_145 rfl (zRv_ref _) rfl ?_
      refine r_iload dX10_readNumber_146 rfl rfl ?_
      refine r_fload_n dX10_readNumber_148 rfl rfl ?_
      refine r_callV MX10_add 2 [_, _] lvX10_231 (Or.inr (Or.inl ⟨hm, rfl⟩)) (q_add E mo hm w _ (d - 1) N (nI 0) fv hN (by rw [mi_msi, if_neg (by decide)]; exact h32)) rfl rfl (by first | exact Nat.le_of_ble_eq_true rfl | (simp [zcat_rf, Value.category]; done)) (by omega) (Nat.le_of_eq (Nat.zero_add _)) (Nat.le_of_eq (Nat.zero_add _)) dX10_readNumber_149 rfl (fun v_ w_ sg_ hq_ => ?_)
      obtain ⟨rfl, rfl, rfl⟩ := hq_
      refine r_vret rfl dX10_readNumber_152 ?_
      refine ⟨rfl, rfl, 0, _, by decide, mvC.m14 (v := nI a), rfl, ?_, fun r hr => by rw [h0 rfl r hr]⟩
      cases o with
      | none => exact cuO.mono a3 (by omega)
      | some r =>
        show cuO _ f m (some (pUnit r).2)
        rw [h0 rfl r rfl]
        exact cuO.mono a3 (by omega)
  · obtain ⟨a, a1, a2, a3⟩ := h.inc (fun r hr => (h1 q r hr).2)
    refine r_istore (ls' := [_, _, _, _, _]) dX10_readNumber_121 (Nat.le_of_ble_eq_true rfl) rfl rfl ?_
    refine r_aload_n dX10_readNumber_123 rfl (zRv_ref _) rfl ?_
    refine r_iload dX10_readNumber_124 rfl rfl ?_
    refine r_if_neN (by omega) (r := 136) dX10_readNumber_126 (by decide) rfl (fun c_126 => ?_) (fun c_126 => ?_)
    · refine r_aload_n dX10_readNumber_136 rfl (zRv_ref _) rfl ?_
      refine m_getiv hm 14 lfX10_147 rfl (by first | (simp only [zGS, zMS, Nat.reduceEqDiff, OfNat.ofNat_ne_ofNat, false_and, and_false, true_and, and_true, and_self, if_true, if_false, ite_true, ite_false, reduceIte, reduceCtorEq]; first | done | assumption | rfl) | assumption | exact z2_eq | exact z1_eq | (simp [zGS, zMS]; first | done | assumption) | rfl) dX10_readNumber_137 rfl ?_
      refine r_iconst dX10_readNumber_140 kc_1 rfl ?_
      refine r_iaddN dX10_readNumber_141 rfl ?_
      refine m_puti hm 14 lfX10_147 rfl rfl rfl dX10_readNumber_142 rfl ?_
      refine r_aload_n dX10_readNumber_145 rfl (zRv_ref _) rfl ?_
      refine r_iload dX10_readNumber_146 rfl rfl ?_
      refine r_fload_n dX10_readNumber_148 rfl rfl ?_
      refine r_callV MX10_add 2 [_, _] lvX10_231 (Or.inr (Or.inl ⟨hm, rfl⟩)) (q_add E mo hm w _ (d - 1) N (nI u) fv hN (by rw [mi_msi, if_neg (by decide)]; exact h32)) rfl rfl (by first | exact Nat.le_of_ble_eq_true rfl | (simp [zcat_rf, Value.category]; done)) (by omega) (Nat.le_of_eq (Nat.zero_add _)) (Nat.le_of_eq (Nat.zero_add _)) dX10_readNumber_149 rfl (fun v_ w_ sg_ hq_ => ?_)
      obtain ⟨rfl, rfl, rfl⟩ := hq_
      refine r_vret rfl dX10_readNumber_152 ?_
      refine ⟨rfl, rfl, u, _, hu, mvC.m14 (v := nI (a + 1)), rfl, ?_, fun r hr => by rw [(h1 q r hr).1]⟩
      cases o with
      | none => exact a3
      | some r =>
        show cuO _ f m (some (pUnit r).2)
        rw [(h1 q r rfl).1]
        exact a3
    · exact absurd c_126 q
theorem rnum_81 (E : ZE) (mo : Nat) (hm : E.2.2.2.2 = some mo) (w : ZW) (sg : ZM) (d f m N : Nat) (hd : 1 ≤ d) (hN : N < 130) (o : Option (List Nat)) (fv : UInt32) (x1 x2 : Value) (h32 : mi sg 32 = nI N) (h : cuO sg f (m + 1) o) : RW E MX10_readNumber 81 [some (.ref mo), some x1, some x2, some (.float fv), none] [] w sg d 0 0 (PN E (rnT sg f m N o fv w)) := by
  refine r_aload_n dX10_readNumber_81 rfl (zRv_ref _) rfl ?_
  refine r_callV MX10_look 0 [] lvX10_172 (Or.inr (Or.inl ⟨hm, rfl⟩)) (o_look E mo hm w sg (d - 1) f _ o h) rfl rfl (by first | exact Nat.le_of_ble_eq_true rfl | (simp [zcat_rf, Value.category]; done)) (by omega) (Nat.le_of_eq (Nat.zero_add _)) (Nat.le_of_eq (Nat.zero_add _)) dX10_readNumber_82 rfl (fun v_ w_ sg_ hq_ => ?_)
  obtain ⟨c1, rfl, l1, g1, rfl, rfl⟩ := hq_
  refine r_bipush dX10_readNumber_85 kb_112 rfl ?_
  refine r_icmp_neN (by omega) (by omega) (r := 94) dX10_readNumber_87 (by decide) rfl (fun c_87 => ?_) (fun c_87 => ?_)
  · refine r_aload_n dX10_readNumber_94 rfl (zRv_ref _) rfl ?_
    refine r_callV MX10_look 0 [] lvX10_172 (Or.inr (Or.inl ⟨hm, rfl⟩)) (o_look E mo hm w sg (d - 1) f _ o h) rfl rfl (by first | exact Nat.le_of_ble_eq_true rfl | (simp [zcat_rf, Value.category]; done)) (by omega) (Nat.le_of_eq (Nat.zero_add _)) (Nat.le_of_eq (Nat.zero_add _)) dX10_readNumber_95 rfl (fun v_ w_ sg_ hq_ => ?_)
    obtain ⟨c2, rfl, l2, g2, rfl, rfl⟩ := hq_
    refine r_bipush dX10_readNumber_98 kb_101 rfl ?_
    refine r_icmp_neN (by omega) (by omega) (r := 107) dX10_readNumber_100 (by decide) rfl (fun c_100 => ?_) (fun c_100 => ?_)
    · refine r_aload_n dX10_readNumber_107 rfl (zRv_ref _) rfl ?_
      refine r_callV MX10_look 0 [] lvX10_172 (Or.inr (Or.inl ⟨hm, rfl⟩)) (o_look E mo hm w sg (d - 1) f _ o h) rfl rfl (by first | exact Nat.le_of_ble_eq_true rfl | (simp [zcat_rf, Value.category]; done)) (by omega) (Nat.le_of_eq (Nat.zero_add _)) (Nat.le_of_eq (Nat.zero_add _)) dX10_readNumber_108 rfl (fun v_ w_ sg_ hq_ => ?_)
      obtain ⟨c3, rfl, l3, g3, rfl, rfl⟩ := hq_
      refine r_bipush dX10_readNumber_111 kb_37 rfl ?_
      refine r_icmp_neN (by omega) (by omega) (r := 120) dX10_readNumber_113 (by decide) rfl (fun c_113 => ?_) (fun c_113 => ?_)
      · refine r_iconst dX10_readNumber_120 kc_0 rfl ?_
        exact rnum_121 E mo hm w sg d f m N 0 hd hN o fv x1 x2 h32 h (by decide) (fun _ r hr => pu_0 (by rw [← g1 r hr]; exact c_87) (by rw [← g2 r hr]; exact c_100) (by rw [← g3 r hr]; exact c_113)) (fun q => absurd rfl q)
      · refine r_iconst dX10_readNumber_116 kc_3 rfl ?_
        refine r_goto (r := 121) dX10_readNumber_117 (by decide) ?_
        exact rnum_121 E mo hm w sg d f m N 3 hd hN o fv x1 x2 h32 h (by decide) (fun q => absurd q (by decide)) (fun _ r hr => pu_c (g3 r hr).symm (Or.inr (Or.inr ⟨c_113, rfl⟩)))
    · refine r_iconst dX10_readNumber_103 kc_2 rfl ?_
      refine r_goto (r := 121) dX10_readNumber_104 (by decide) ?_
      exact rnum_121 E mo hm w sg d f m N 2 hd hN o fv x1 x2 h32 h (by decide) (fun q => absurd q (by decide)) (fun _ r hr => pu_c (g2 r hr).symm (Or.inr (Or.inl ⟨c_100, rfl⟩)))
  · refine r_iconst dX10_readNumber_90 kc_1 rfl ?_
    refine r_goto (r := 121) dX10_readNumber_91 (by decide) ?_
    exact rnum_121 E mo hm w sg d f m N 1 hd hN o fv x1 x2 h32 h (by decide) (fun q => absurd q (by decide)) (fun _ r hr => pu_c (g1 r hr).symm (Or.inl ⟨c_87, rfl⟩))
theorem dg_hd {r : List Nat} (h : (pDig r).isSome = true) : 48 ≤ hdN r ∧ hdN r ≤ 57 := by
  cases r with
  | nil => cases h
  | cons c r =>
    have h2 : (if 48 ≤ c ∧ c ≤ 57 then some (c - 48, r) else none).isSome = true := h
    split at h2
    · rename_i q; exact q
    · cases h2
/-! the digits -/
theorem rnum_4b (E : ZE) (mo : Nat) (hm : E.2.2.2.2 = some mo) (w : ZW) (sg : ZM) (d : Nat) (x1 x2 : Value) (P : ZPhi) (h : mi sg 15 = zb false) (K : RW E MX10_readNumber 48 [some (.ref mo), some x1, some x2, none, none] [] w sg d 0 0 P) : RW E MX10_readNumber 4 [some (.ref mo), some x1, some x2, none, none] [] w sg d 0 0 P := by
  refine r_aload_n dX10_readNumber_4 rfl (zRv_ref _) rfl ?_
  refine m_getiv hm 15 lfX10_153 rfl (by first | (simp only [zGS, zMS, Nat.reduceEqDiff, OfNat.ofNat_ne_ofNat, false_and, and_false, true_and, and_true, and_self, if_true, if_false, ite_true, ite_false, reduceIte, reduceCtorEq]; first | done | assumption | rfl) | assumption | exact z2_eq | exact z1_eq | (simp [zGS, zMS]; first | done | assumption) | rfl) dX10_readNumber_5 rfl ?_
  refine r_if_eqB (r := 48) dX10_readNumber_8 (by decide) rfl (fun c_8 => ?_) (fun c_8 => ?_)
  · exact K
  · cases c_8
theorem pDigs_s {j v x : Nat} {r r1 : List Nat} (h : pDig r = some (x, r1)) : pDigs (j + 1) v r = pDigs j (10 * v + x) r1 := by
  show (match pDig r with
    | none => (v, r)
    | some (x, r') => pDigs j (10 * v + x) r') = _
  rw [h]
theorem pDigs_n {j v : Nat} {r : List Nat} (h : pDig r = none) : pDigs j v r = (v, r) := by
  cases j with
  | zero => rfl
  | succ j =>
    show (match pDig r with
      | none => (v, r)
      | some (x, r') => pDigs j (10 * v + x) r') = _
    rw [h]
theorem digV_s {r r1 : List Nat} {x : Nat} (h : pDig r = some (x, r1)) : digV r = nI x := by
  unfold digV
  rw [h]
theorem rnum_4 (E : ZE) (mo : Nat) (hm : E.2.2.2.2 = some mo) (w : ZW) (d f : Nat) (hd : 3 ≤ d) (P : ZPhi) : ∀ (j n v : Nat) (r : List Nat) (sg : ZM), n + j = 3 → (n = 0 → v < 1) ∧ (n = 1 → v < 10) ∧ (n = 2 → v < 100) ∧ (n = 3 → v < 1000) → cuG sg f r → (∀ sg' v' n' o', mvC sg sg' → cuO sg' f 880 o' → ((o' = none ∧ (pDig (pDigs j v r).2).isSome = true) ∨ (o' = some (pDigs j v r).2 ∧ v' = (pDigs j v r).1 ∧ v' < 1000)) → RW E MX10_readNumber 48 [some (.ref mo), some (.int (nI v')), some (.int (nI n')), none, none] [] w sg' d 0 0 P) → RW E MX10_readNumber 4 [some (.ref mo), some (.int (nI v)), some (.int (nI n)), none, none] [] w sg d 0 0 P := by
  intro j
  induction j with
  | zero =>
    intro n v r sg hn hv h K
    have g0 : mi sg 15 = zb true := (cuO.z (m := 0) h).g
    have hp := p_isDigit E mo hm w sg (d - 1) f (by omega) r h
    have hdg := p_digit E mo hm w sg (d - 1) f (by omega) r h
    have hn3 : n = 3 := by omega
    subst hn3
    cases hx : pDig r with
    | none =>
      rw [hx] at hp
      refine r_aload_n dX10_readNumber_4 rfl (zRv_ref _) rfl ?_
      refine m_getiv hm 15 lfX10_153 rfl (by first | (simp only [zGS, zMS, Nat.reduceEqDiff, OfNat.ofNat_ne_ofNat, false_and, and_false, true_and, and_true, and_self, if_true, if_false, ite_true, ite_false, reduceIte, reduceCtorEq]; first | done | assumption | rfl) | assumption | exact z2_eq | exact z1_eq | (simp [zGS, zMS]; first | done | assumption) | rfl) dX10_readNumber_5 rfl ?_
      refine r_if_eqB (r := 48) dX10_readNumber_8 (by decide) rfl (fun c_8 => ?_) (fun c_8 => ?_)
      · cases c_8
      · refine r_aload_n dX10_readNumber_11 rfl (zRv_ref _) rfl ?_
        refine r_callV MX10_isDigit 0 [] lvX10_184 (Or.inr (Or.inl ⟨hm, rfl⟩)) (hp) rfl rfl (by first | exact Nat.le_of_ble_eq_true rfl | (simp [zcat_rf, Value.category]; done)) (by omega) (Nat.le_of_eq (Nat.zero_add _)) (Nat.le_of_eq (Nat.zero_add _)) dX10_readNumber_12 rfl (fun v_ w_ sg_ hq_ => ?_)
        obtain ⟨rfl, rfl, rfl⟩ := hq_
        refine r_if_eqB (r := 48) dX10_readNumber_15 (by decide) rfl (fun c_15 => ?_) (fun c_15 => ?_)
        · exact K sg v 3 (some r) mvC.rf (cuO.z h) (Or.inr ⟨rfl, rfl, by omega⟩)
        · cases c_15
    | some q =>
      obtain ⟨x, r1⟩ := q
      have hx9 := (pDig_len hx).2
      rw [hx] at hp hdg
      rw [digV_s hx] at hdg
      refine r_aload_n dX10_readNumber_4 rfl (zRv_ref _) rfl ?_
      refine m_getiv hm 15 lfX10_153 rfl (by first | (simp only [zGS, zMS, Nat.reduceEqDiff, OfNat.ofNat_ne_ofNat, false_and, and_false, true_and, and_true, and_self, if_true, if_false, ite_true, ite_false, reduceIte, reduceCtorEq]; first | done | assumption | rfl) | assumption | exact z2_eq | exact z1_eq | (simp [zGS, zMS]; first | done | assumption) | rfl) dX10_readNumber_5 rfl ?_
      refine r_if_eqB (r := 48) dX10_readNumber_8 (by decide) rfl (fun c_8 => ?_) (fun c_8 => ?_)
      · cases c_8
      · refine r_aload_n dX10_readNumber_11 rfl (zRv_ref _) rfl ?_
        refine r_callV MX10_isDigit 0 [] lvX10_184 (Or.inr (Or.inl ⟨hm, rfl⟩)) (hp) rfl rfl (by first | exact Nat.le_of_ble_eq_true rfl | (simp [zcat_rf, Value.category]; done)) (by omega) (Nat.le_of_eq (Nat.zero_add _)) (Nat.le_of_eq (Nat.zero_add _)) dX10_readNumber_12 rfl (fun v_ w_ sg_ hq_ => ?_)
        obtain ⟨rfl, rfl, rfl⟩ := hq_
        refine r_if_eqB (r := 48) dX10_readNumber_15 (by decide) rfl (fun c_15 => ?_) (fun c_15 => ?_)
        · cases c_15
        · refine r_bipush dX10_readNumber_18 kb_10 rfl ?_
          refine r_iload_n dX10_readNumber_20 rfl rfl ?_
          refine r_imulN dX10_readNumber_21 rfl ?_
          refine r_aload_n dX10_readNumber_22 rfl (zRv_ref _) rfl ?_
          refine r_callV MX10_digit 0 [] lvX10_192 (Or.inr (Or.inl ⟨hm, rfl⟩)) (hdg) rfl rfl (by first | exact Nat.le_of_ble_eq_true rfl | (simp [zcat_rf, Value.category]; done)) (by omega) (Nat.le_of_eq (Nat.zero_add _)) (Nat.le_of_eq (Nat.zero_add _)) dX10_readNumber_23 rfl (fun v_ w_ sg_ hq_ => ?_)
          obtain ⟨rfl, rfl, v1, c1⟩ := hq_
          obtain ⟨sg1, hsg1⟩ : ∃ y, y = sg_ := ⟨_, rfl⟩
          subst hsg1
          refine r_iaddN dX10_readNumber_26 rfl ?_
          refine r_istore_n (ls' := [_, _, _, _, _]) dX10_readNumber_27 (Nat.le_of_ble_eq_true rfl) rfl rfl ?_
          refine r_iinc (ls' := [_, _, _, _, _]) dX10_readNumber_28 (Nat.le_of_ble_eq_true rfl) rfl (zinc1 _) rfl rfl ?_
          refine r_aload_n dX10_readNumber_31 rfl (zRv_ref _) rfl ?_
          refine r_iload_n dX10_readNumber_32 rfl rfl ?_
          refine r_iconst dX10_readNumber_33 kc_4 rfl ?_
          refine r_icmp_geN (by omega) (by omega) (r := 41) dX10_readNumber_34 (by decide) rfl (fun c_34 => ?_) (fun c_34 => ?_)
          · refine r_iconst dX10_readNumber_41 kc_0 rfl ?_
            refine r_callV MX10_must 1 [_] lvX10_180 (Or.inr (Or.inl ⟨hm, rfl⟩)) (o_must E mo hm w sg1 (d - 1) f 900 (by decide) false (some r1) c1) rfl rfl (by first | exact Nat.le_of_ble_eq_true rfl | (simp [zcat_rf, Value.category]; done)) (by omega) (Nat.le_of_eq (Nat.zero_add _)) (Nat.le_of_eq (Nat.zero_add _)) dX10_readNumber_42 rfl (fun v_ w_ sg_ hq_ => ?_)
            obtain ⟨rfl, rfl, v2, c2⟩ := hq_
            obtain ⟨sg2, hsg2⟩ : ∃ y, y = sg_ := ⟨_, rfl⟩
            subst hsg2
            refine r_goto (r := 4) dX10_readNumber_45 (by decide) ?_
            exact rnum_4b E mo hm w sg2 d _ _ P c2.g (K sg2 _ _ none (v1.tr v2) (c2.mono (by decide)) (Or.inl ⟨rfl, by show (pDig r).isSome = true; rw [hx]; rfl⟩))
          · exact absurd c_34 (by omega)
  | succ j ih =>
    intro n v r sg hn hv h K
    have g0 : mi sg 15 = zb true := (cuO.z (m := 0) h).g
    have hp := p_isDigit E mo hm w sg (d - 1) f (by omega) r h
    have hdg := p_digit E mo hm w sg (d - 1) f (by omega) r h
    cases hx : pDig r with
    | none =>
      rw [hx] at hp
      refine r_aload_n dX10_readNumber_4 rfl (zRv_ref _) rfl ?_
      refine m_getiv hm 15 lfX10_153 rfl (by first | (simp only [zGS, zMS, Nat.reduceEqDiff, OfNat.ofNat_ne_ofNat, false_and, and_false, true_and, and_true, and_self, if_true, if_false, ite_true, ite_false, reduceIte, reduceCtorEq]; first | done | assumption | rfl) | assumption | exact z2_eq | exact z1_eq | (simp [zGS, zMS]; first | done | assumption) | rfl) dX10_readNumber_5 rfl ?_
      refine r_if_eqB (r := 48) dX10_readNumber_8 (by decide) rfl (fun c_8 => ?_) (fun c_8 => ?_)
      · cases c_8
      · refine r_aload_n dX10_readNumber_11 rfl (zRv_ref _) rfl ?_
        refine r_callV MX10_isDigit 0 [] lvX10_184 (Or.inr (Or.inl ⟨hm, rfl⟩)) (hp) rfl rfl (by first | exact Nat.le_of_ble_eq_true rfl | (simp [zcat_rf, Value.category]; done)) (by omega) (Nat.le_of_eq (Nat.zero_add _)) (Nat.le_of_eq (Nat.zero_add _)) dX10_readNumber_12 rfl (fun v_ w_ sg_ hq_ => ?_)
        obtain ⟨rfl, rfl, rfl⟩ := hq_
        refine r_if_eqB (r := 48) dX10_readNumber_15 (by decide) rfl (fun c_15 => ?_) (fun c_15 => ?_)
        · exact K sg v n (some r) mvC.rf (cuO.z h) (Or.inr ⟨by rw [pDigs_n hx], by rw [pDigs_n hx], by omega⟩)
        · cases c_15
    | some q =>
      obtain ⟨x, r1⟩ := q
      have hx9 := (pDig_len hx).2
      rw [hx] at hp hdg
      rw [digV_s hx] at hdg
      refine r_aload_n dX10_readNumber_4 rfl (zRv_ref _) rfl ?_
      refine m_getiv hm 15 lfX10_153 rfl (by first | (simp only [zGS, zMS, Nat.reduceEqDiff, OfNat.ofNat_ne_ofNat, false_and, and_false, true_and, and_true, and_self, if_true, if_false, ite_true, ite_false, reduceIte, reduceCtorEq]; first | done | assumption | rfl) | assumption | exact z2_eq | exact z1_eq | (simp [zGS, zMS]; first | done | assumption) | rfl) dX10_readNumber_5 rfl ?_
      refine r_if_eqB (r := 48) dX10_readNumber_8 (by decide) rfl (fun c_8 => ?_) (fun c_8 => ?_)
      · cases c_8
      · refine r_aload_n dX10_readNumber_11 rfl (zRv_ref _) rfl ?_
        refine r_callV MX10_isDigit 0 [] lvX10_184 (Or.inr (Or.inl ⟨hm, rfl⟩)) (hp) rfl rfl (by first | exact Nat.le_of_ble_eq_true rfl | (simp [zcat_rf, Value.category]; done)) (by omega) (Nat.le_of_eq (Nat.zero_add _)) (Nat.le_of_eq (Nat.zero_add _)) dX10_readNumber_12 rfl (fun v_ w_ sg_ hq_ => ?_)
        obtain ⟨rfl, rfl, rfl⟩ := hq_
        refine r_if_eqB (r := 48) dX10_readNumber_15 (by decide) rfl (fun c_15 => ?_) (fun c_15 => ?_)
        · cases c_15
        · refine r_bipush dX10_readNumber_18 kb_10 rfl ?_
          refine r_iload_n dX10_readNumber_20 rfl rfl ?_
          refine r_imulN dX10_readNumber_21 rfl ?_
          refine r_aload_n dX10_readNumber_22 rfl (zRv_ref _) rfl ?_
          refine r_callV MX10_digit 0 [] lvX10_192 (Or.inr (Or.inl ⟨hm, rfl⟩)) (hdg) rfl rfl (by first | exact Nat.le_of_ble_eq_true rfl | (simp [zcat_rf, Value.category]; done)) (by omega) (Nat.le_of_eq (Nat.zero_add _)) (Nat.le_of_eq (Nat.zero_add _)) dX10_readNumber_23 rfl (fun v_ w_ sg_ hq_ => ?_)
          obtain ⟨rfl, rfl, v1, c1⟩ := hq_
          obtain ⟨sg1, hsg1⟩ : ∃ y, y = sg_ := ⟨_, rfl⟩
          subst hsg1
          refine r_iaddN dX10_readNumber_26 rfl ?_
          refine r_istore_n (ls' := [_, _, _, _, _]) dX10_readNumber_27 (Nat.le_of_ble_eq_true rfl) rfl rfl ?_
          refine r_iinc (ls' := [_, _, _, _, _]) dX10_readNumber_28 (Nat.le_of_ble_eq_true rfl) rfl (zinc1 _) rfl rfl ?_
          refine r_aload_n dX10_readNumber_31 rfl (zRv_ref _) rfl ?_
          refine r_iload_n dX10_readNumber_32 rfl rfl ?_
          refine r_iconst dX10_readNumber_33 kc_4 rfl ?_
          refine r_icmp_geN (by omega) (by omega) (r := 41) dX10_readNumber_34 (by decide) rfl (fun c_34 => ?_) (fun c_34 => ?_)
          · exact absurd c_34 (by omega)
          · refine r_iconst dX10_readNumber_37 kc_1 rfl ?_
            refine r_goto (r := 42) dX10_readNumber_38 (by decide) ?_
            refine r_callV MX10_must 1 [_] lvX10_180 (Or.inr (Or.inl ⟨hm, rfl⟩)) (o_must E mo hm w sg1 (d - 1) f 900 (by decide) true (some r1) c1) rfl rfl (by first | exact Nat.le_of_ble_eq_true rfl | (simp [zcat_rf, Value.category]; done)) (by omega) (Nat.le_of_eq (Nat.zero_add _)) (Nat.le_of_eq (Nat.zero_add _)) dX10_readNumber_42 rfl (fun v_ w_ sg_ hq_ => ?_)
            obtain ⟨rfl, rfl, v2, c2⟩ := hq_
            obtain ⟨sg2, hsg2⟩ : ∃ y, y = sg_ := ⟨_, rfl⟩
            subst hsg2
            refine r_goto (r := 4) dX10_readNumber_45 (by decide) ?_
            refine ih (n + 1) (10 * v + x) r1 sg2 (by omega) (by omega) c2 (fun sg' v' n' o' a1 a2 a3 => K sg' v' n' o' ((v1.tr v2).tr a1) a2 ?_)
            rw [pDigs_s hx]
            exact a3
/-- what comes of a number -/
def numB (r : List Nat) : Prop := pNum r = none ∨ ∃ l r', pNum r = some (l, r') ∧ (pDig r').isSome = true
def numO (r : List Nat) (u : Nat) (fv : UInt32) (o : Option (List Nat)) : Prop := (o = none ∧ numB r) ∨ ∃ r', o = some r' ∧ pNum r = some ([(u, fv)], r')
def rqN (sg : ZM) (f N : Nat) (r : List Nat) (w : ZW) : ZQ := fun v w' sg' => v = none ∧ w = w' ∧ ∃ u fv sg1 o, u < 4 ∧ mvC sg sg1 ∧ sg' = msi (msg (msa sg1 21 N (nI u)) 22 N fv) 32 (nI (N + 1)) ∧ cuO sg1 f 800 o ∧ numO r u fv o
theorem pNum_eq {r r1 : List Nat} {x : Nat} (h : pDig r = some (x, r1)) : pNum r = (match pCh 46 (pDigs 3 0 r).2 with
      | none => some ([((pUnit (pDigs 3 0 r).2).1, FP.i2f (nI (pDigs 3 0 r).1))], (pUnit (pDigs 3 0 r).2).2)
      | some r3 => match pDig r3 with
        | none => none
        | some (y, r4) => some ([((pUnit r4).1, FP.fdiv (FP.i2f (nI (10 * (pDigs 3 0 r).1 + y))) pTen)], (pUnit r4).2)) := by
  rw [pDigs_s h, show 10 * 0 + x = x by omega]
  unfold pNum
  rw [h]
  rfl
theorem rnum_48 (E : ZE) (mo : Nat) (hm : E.2.2.2.2 = some mo) (w : ZW) (sg sg1 : ZM) (d f N v n x : Nat) (hd : 3 ≤ d) (hN : N < 130) (r r1 : List Nat) (hx : pDig r = some (x, r1)) (o : Option (List Nat)) (h32 : mi sg 32 = nI N) (hv : mvC sg sg1) (h : cuO sg1 f 880 o) (hk : (o = none ∧ (pDig (pDigs 3 0 r).2).isSome = true) ∨ (o = some (pDigs 3 0 r).2 ∧ v = (pDigs 3 0 r).1 ∧ v < 1000)) : RW E MX10_readNumber 48 [some (.ref mo), some (.int (nI v)), some (.int (nI n)), none, none] [] w sg1 d 0 0 (PN E (rqN sg f N r w)) := by
  have i32 : ∀ sg2, mvC sg sg2 → mi sg2 32 = nI N := fun sg2 q => (q.1 32 (by decide) (by decide)).trans h32
  rcases hk with ⟨rfl, hk⟩ | ⟨rfl, hk, hv9⟩
  · have g0 : mi sg1 15 = zb false := h.g
    refine r_iload_n dX10_readNumber_48 rfl rfl ?_
    refine r_i2f dX10_readNumber_49 rfl ?_
    refine r_fstore_n (ls' := [_, _, _, _, _]) dX10_readNumber_50 (Nat.le_of_ble_eq_true rfl) rfl rfl ?_
    refine r_aload_n dX10_readNumber_51 rfl (zRv_ref _) rfl ?_
    refine m_getiv hm 15 lfX10_153 rfl (by first | (simp only [zGS, zMS, Nat.reduceEqDiff, OfNat.ofNat_ne_ofNat, false_and, and_false, true_and, and_true, and_self, if_true, if_false, ite_true, ite_false, reduceIte, reduceCtorEq]; first | done | assumption | rfl) | assumption | exact z2_eq | exact z1_eq | (simp [zGS, zMS]; first | done | assumption) | rfl) dX10_readNumber_52 rfl ?_
    refine r_if_eqB (r := 81) dX10_readNumber_55 (by decide) rfl (fun c_55 => ?_) (fun c_55 => ?_)
    · refine RW.qmono (rnum_81 E mo hm w sg1 d f 800 N (by omega) hN none _ _ _ (i32 sg1 hv) (h.mono (by decide))) ?_
      rintro v9 w' sg' ⟨q1, q2, u, sg2, q3, q4, q5, q6, q7⟩
      refine ⟨q1, q2, u, _, sg2, none, q3, hv.tr q4, q5, q6, Or.inl ⟨rfl, ?_⟩⟩
      obtain ⟨⟨y, r3⟩, h3⟩ := Option.isSome_iff_exists.mp hk
      have h46 : pCh 46 (pDigs 3 0 r).2 = none := by
        cases hr : (pDigs 3 0 r).2 with
        | nil => rfl
        | cons c r4 =>
          rw [hr] at h3
          refine if_neg (fun e => ?_)
          subst e
          cases h3
      have hu0 : pUnit (pDigs 3 0 r).2 = (0, (pDigs 3 0 r).2) := by
        have hb := dg_hd hk
        exact pu_0 (by omega) (by omega) (by omega)
      have he := pNum_eq hx
      rw [h46] at he
      simp only [] at he
      rw [hu0] at he
      exact Or.inr ⟨_, _, he, hk⟩
    · cases c_55
  · have g0 : mi sg1 15 = zb true := h.g
    have hp := p_pass E mo hm w sg1 (d - 1) f 46 (by omega) (by decide) _ h
    have he := pNum_eq hx
    rw [← hk] at he
    cases h46 : pCh 46 (pDigs 3 0 r).2 with
    | none =>
      rw [h46] at hp he
      refine r_iload_n dX10_readNumber_48 rfl rfl ?_
      refine r_i2f dX10_readNumber_49 rfl ?_
      refine r_fstore_n (ls' := [_, _, _, _, _]) dX10_readNumber_50 (Nat.le_of_ble_eq_true rfl) rfl rfl ?_
      refine r_aload_n dX10_readNumber_51 rfl (zRv_ref _) rfl ?_
      refine m_getiv hm 15 lfX10_153 rfl (by first | (simp only [zGS, zMS, Nat.reduceEqDiff, OfNat.ofNat_ne_ofNat, false_and, and_false, true_and, and_true, and_self, if_true, if_false, ite_true, ite_false, reduceIte, reduceCtorEq]; first | done | assumption | rfl) | assumption | exact z2_eq | exact z1_eq | (simp [zGS, zMS]; first | done | assumption) | rfl) dX10_readNumber_52 rfl ?_
      refine r_if_eqB (r := 81) dX10_readNumber_55 (by decide) rfl (fun c_55 => ?_) (fun c_55 => ?_)
      · cases c_55
      · refine r_aload_n dX10_readNumber_58 rfl (zRv_ref _) rfl ?_
        refine r_bipush dX10_readNumber_59 kb_46 rfl ?_
        refine r_callV MX10_pass 1 [_] lvX10_176 (Or.inr (Or.inl ⟨hm, rfl⟩)) (hp) rfl rfl (by first | exact Nat.le_of_ble_eq_true rfl | (simp [zcat_rf, Value.category]; done)) (by omega) (Nat.le_of_eq (Nat.zero_add _)) (Nat.le_of_eq (Nat.zero_add _)) dX10_readNumber_61 rfl (fun v_ w_ sg_ hq_ => ?_)
        obtain ⟨rfl, rfl, v1, c1⟩ := hq_
        obtain ⟨sg2, hsg2⟩ : ∃ y, y = sg_ := ⟨_, rfl⟩
        subst hsg2
        refine r_if_eqB (r := 81) dX10_readNumber_64 (by decide) rfl (fun c_64 => ?_) (fun c_64 => ?_)
        · refine RW.qmono (rnum_81 E mo hm w sg2 d f 800 N (by omega) hN _ _ _ _ (i32 sg2 (hv.tr v1)) (cuO.z c1)) ?_
          rintro v9 w' sg' ⟨q1, q2, u, sg3, q3, q4, q5, q6, q7⟩
          refine ⟨q1, q2, u, _, sg3, _, q3, (hv.tr v1).tr q4, q5, q6, Or.inr ⟨_, rfl, ?_⟩⟩
          rw [he, q7 _ rfl]
          rfl
        · cases c_64
    | some r3 =>
      rw [h46] at hp he
      simp only [] at he
      refine r_iload_n dX10_readNumber_48 rfl rfl ?_
      refine r_i2f dX10_readNumber_49 rfl ?_
      refine r_fstore_n (ls' := [_, _, _, _, _]) dX10_readNumber_50 (Nat.le_of_ble_eq_true rfl) rfl rfl ?_
      refine r_aload_n dX10_readNumber_51 rfl (zRv_ref _) rfl ?_
      refine m_getiv hm 15 lfX10_153 rfl (by first | (simp only [zGS, zMS, Nat.reduceEqDiff, OfNat.ofNat_ne_ofNat, false_and, and_false, true_and, and_true, and_self, if_true, if_false, ite_true, ite_false, reduceIte, reduceCtorEq]; first | done | assumption | rfl) | assumption | exact z2_eq | exact z1_eq | (simp [zGS, zMS]; first | done | assumption) | rfl) dX10_readNumber_52 rfl ?_
      refine r_if_eqB (r := 81) dX10_readNumber_55 (by decide) rfl (fun c_55 => ?_) (fun c_55 => ?_)
      · cases c_55
      · refine r_aload_n dX10_readNumber_58 rfl (zRv_ref _) rfl ?_
        refine r_bipush dX10_readNumber_59 kb_46 rfl ?_
        refine r_callV MX10_pass 1 [_] lvX10_176 (Or.inr (Or.inl ⟨hm, rfl⟩)) (hp) rfl rfl (by first | exact Nat.le_of_ble_eq_true rfl | (simp [zcat_rf, Value.category]; done)) (by omega) (Nat.le_of_eq (Nat.zero_add _)) (Nat.le_of_eq (Nat.zero_add _)) dX10_readNumber_61 rfl (fun v_ w_ sg_ hq_ => ?_)
        obtain ⟨rfl, rfl, v1, c1⟩ := hq_
        obtain ⟨sg2, hsg2⟩ : ∃ y, y = sg_ := ⟨_, rfl⟩
        subst hsg2
        refine r_if_eqB (r := 81) dX10_readNumber_64 (by decide) rfl (fun c_64 => ?_) (fun c_64 => ?_)
        · cases c_64
        · refine r_bipush dX10_readNumber_67 kb_10 rfl ?_
          refine r_iload_n dX10_readNumber_69 rfl rfl ?_
          refine r_imulN dX10_readNumber_70 rfl ?_
          refine r_aload_n dX10_readNumber_71 rfl (zRv_ref _) rfl ?_
          refine r_callV MX10_digit 0 [] lvX10_192 (Or.inr (Or.inl ⟨hm, rfl⟩)) (o_digit E mo hm w sg2 (d - 1) f 880 (by decide) (by omega) (some r3) (cuO.z c1)) rfl rfl (by first | exact Nat.le_of_ble_eq_true rfl | (simp [zcat_rf, Value.category]; done)) (by omega) (Nat.le_of_eq (Nat.zero_add _)) (Nat.le_of_eq (Nat.zero_add _)) dX10_readNumber_72 rfl (fun v_ w_ sg_ hq_ => ?_)
          obtain ⟨⟨y, rfl, hy9, hy⟩, rfl, v2, c2⟩ := hq_
          obtain ⟨sg3, hsg3⟩ : ∃ y, y = sg_ := ⟨_, rfl⟩
          subst hsg3
          refine r_iaddN dX10_readNumber_75 rfl ?_
          refine r_i2f dX10_readNumber_76 rfl ?_
          refine r_ldcf dX10_readNumber_77 tw_1216 rfl ?_
          refine r_fdiv dX10_readNumber_79 (znn_num _ (by omega)) rfl ?_
          refine r_fstore_n (ls' := [_, _, _, _, _]) dX10_readNumber_80 (Nat.le_of_ble_eq_true rfl) rfl rfl ?_
          refine RW.qmono (rnum_81 E mo hm w sg3 d f 800 N (by omega) hN _ _ _ _ (i32 sg3 ((hv.tr v1).tr v2)) (c2.mono (by decide))) ?_
          rintro v9 w' sg' ⟨q1, q2, u, sg4, q3, q4, q5, q6, q7⟩
          refine ⟨q1, q2, u, _, sg4, _, q3, ((hv.tr v1).tr v2).tr q4, q5, q6, ?_⟩
          have hy2 := hy r3 rfl
          cases hd3 : pDig r3 with
          | none =>
            rw [hd3] at he
            refine Or.inl ⟨?_, Or.inl he⟩
            show bndO (rstO (pDig r3)) _ = none
            rw [hd3]
            rfl
          | some q =>
            obtain ⟨y', r4⟩ := q
            rw [hd3] at he
            have h9 : bndO (some r3) (fun r => rstO (pDig r)) = some r4 := by show rstO (pDig r3) = _; rw [hd3]; rfl
            rw [h9] at q7 ⊢
            refine Or.inr ⟨_, rfl, ?_⟩
            rw [he, q7 _ rfl]
            rw [digV_s hd3] at hy2
            have hyy : y = y' := by
              have h8 := congrArg (fun z : Int32 => z.toBitVec.toNat) hy2
              have := (pDig_len hd3).2
              rw [nI_bv (by omega), nI_bv (by omega)] at h8
              exact h8
            rw [hyy]
            rfl
theorem p_readNumber (E : ZE) (mo : Nat) (hm : E.2.2.2.2 = some mo) (w : ZW) (sg : ZM) (d f N x : Nat) (hd : 3 ≤ d) (hN : N < 130) (r r1 : List Nat) (hx : pDig r = some (x, r1)) (h32 : mi sg 32 = nI N) (h : cuG sg f r) : CallQ E MX10_readNumber [.ref mo] w sg d 0 0 (rqN sg f N r w) := by
  refine CallQ.of rfl (by simp [Value.category]) (Nat.le_of_ble_eq_true rfl) ?_
  refine r_iconst dX10_readNumber_0 kc_0 rfl ?_
  refine r_istore_n (ls' := [_, _, _, _, _]) dX10_readNumber_1 (Nat.le_of_ble_eq_true rfl) rfl rfl ?_
  refine r_iconst dX10_readNumber_2 kc_0 rfl ?_
  refine r_istore_n (ls' := [_, _, _, _, _]) dX10_readNumber_3 (Nat.le_of_ble_eq_true rfl) rfl rfl ?_
  refine rnum_4 E mo hm w d f hd _ 3 0 0 r sg rfl (by omega) h (fun sg' v' n' o' a1 a2 a3 => ?_)
  exact rnum_48 E mo hm w sg sg' d f N v' n' x hd hN r r1 hx o' h32 a1 a2 a3
