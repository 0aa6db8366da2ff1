/-! ===== the model: heaviest ===== -/
/-- behind the first compound signs stand that join -/
def jnL (l : List (Nat × PComp)) : Prop := ∀ x ∈ l, isJn x.1 = true
def jnS (ls : List (List (Nat × PComp))) : Prop := ∀ l ∈ ls, jnL l.tail
theorem pSelL_jn : ∀ (n : Nat) (r : List Nat) (l : List (Nat × PComp)) (r' : List Nat), pSelL n r = some (l, r') → jnL l
  | 0, r, l, r', h => by cases h; exact fun x hx => (by cases hx)
  | n + 1, r, l, r', h => by
    cases hj : isJn (hdN r) with
    | false => rw [pSelL_stop hj] at h; cases h; exact fun x hx => (by cases hx)
    | true =>
      cases r with
      | nil => cases hj
      | cons c r1 =>
        have hc : isJn c = true := hj
        rw [pSelL_go hc] at h
        cases h2 : pComp r1 with
        | none => rw [h2] at h; cases h
        | some q =>
          obtain ⟨x, r2⟩ := q
          rw [h2] at h
          simp only [] at h
          cases h3 : pSelL n r2 with
          | none => rw [h3] at h; cases h
          | some q3 =>
            obtain ⟨l3, r3⟩ := q3
            rw [h3] at h
            cases h
            intro y hy
            rcases List.mem_cons.mp hy with rfl | g
            · exact hc
            · exact pSelL_jn n r2 l3 _ h3 y g
theorem pSel_jn {r r' : List Nat} {l : List (Nat × PComp)} (h : pSel r = some (l, r')) : jnL l.tail := by
  unfold pSel at h
  cases h2 : pComp r with
  | none => rw [h2] at h; cases h
  | some q =>
    obtain ⟨x, r1⟩ := q
    rw [h2] at h
    simp only [] at h
    cases h3 : pSelL 3 r1 with
    | none => rw [h3] at h; cases h
    | some q3 =>
      obtain ⟨l3, r3⟩ := q3
      rw [h3] at h
      cases h
      exact pSelL_jn 3 r1 l3 _ h3
theorem pSelsL_jn : ∀ (n : Nat) (r : List Nat) (ls : List (List (Nat × PComp))) (r' : List Nat), pSelsL n r = some (ls, r') → jnS ls
  | 0, r, ls, r', h => by cases h; exact fun x hx => by cases hx
  | n + 1, r, ls, r', h => by
    unfold pSelsL at h
    split at h
    · cases h; exact fun x hx => by cases hx
    · rename_i r1 h1
      cases h2 : pSel r1 with
      | none => rw [h2] at h; cases h
      | some q =>
        obtain ⟨x, r2⟩ := q
        rw [h2] at h
        simp only [] at h
        cases h3 : pSelsL n r2 with
        | none => rw [h3] at h; cases h
        | some q3 =>
          obtain ⟨l3, r3⟩ := q3
          rw [h3] at h
          cases h
          intro y hy
          rcases List.mem_cons.mp hy with rfl | g
          · exact pSel_jn h2
          · exact pSelsL_jn n r2 l3 _ h3 y g
theorem pSels_jn {r r' : List Nat} {ls : List (List (Nat × PComp))} (h : pSels r = some (ls, r')) : jnS ls := by
  unfold pSels at h
  cases h2 : pSel r with
  | none => rw [h2] at h; cases h
  | some q =>
    obtain ⟨x, r1⟩ := q
    rw [h2] at h
    simp only [] at h
    cases h3 : pSelsL 2 r1 with
    | none => rw [h3] at h; cases h
    | some q3 =>
      obtain ⟨l3, r3⟩ := q3
      rw [h3] at h
      cases h
      intro y hy
      rcases List.mem_cons.mp hy with rfl | g
      · exact pSel_jn h2
      · exact pSelsL_jn 2 r1 l3 _ h3 y g
/-- a compound by its place -/
theorem cmp_at {sg : ZM} {ts : List (List PCr)} (h : ssG sg 0 0 0 ts) (hb : (rwsO (flS ts)).length ≤ 125) (hC : (flS ts).length ≤ 126) {i : Nat} {x : PCr} (hx : (flS ts)[i]? = some x) : ma sg 11 i = nI x.1 ∧ cmpA sg i (rwsO ((flS ts).take i)).length x.2 := by
  obtain ⟨-, h4, h5, h6, h7⟩ := h
  have hi := (List.getElem?_eq_some_iff.mp hx).1
  have hne : flS ts ≠ [] := fun q => by rw [q] at hi; exact absurd hi (Nat.not_lt_zero i)
  have e1 : (flS ts).take (i + 1) = (flS ts).take i ++ [x] := by rw [List.take_add_one, hx]; rfl
  have e2 : (rwsO ((flS ts).take (i + 1))).length = (rwsO ((flS ts).take i)).length + x.2.length := by
    rw [e1, rwsO_app, List.length_append]
    show _ + (x.2 ++ []).length = _
    rw [List.append_nil]
  have e3 : flS ts = (flS ts).take i ++ x :: (flS ts).drop (i + 1) := by
    have h9 := List.take_append_drop (i + 1) (flS ts)
    rw [e1, List.append_assoc] at h9
    exact h9.symm
  have e4 : rwsO (flS ts) = rwsO ((flS ts).take i) ++ (x.2 ++ rwsO ((flS ts).drop (i + 1))) := by
    conv => lhs; rw [e3]
    rw [rwsO_app]
    rfl
  have hlen : (rwsO (flS ts)).length = (rwsO ((flS ts).take i)).length + (x.2.length + (rwsO ((flS ts).drop (i + 1))).length) := by
    conv => lhs; rw [e4]
    rw [List.length_append, List.length_append]
  refine ⟨by have := h5 i x hx; rw [Nat.zero_add] at this; exact this, by omega, by omega, ?_, ?_, fun k q hq => ?_⟩
  · have := h6 hne i (by omega)
    rw [Nat.zero_add, Nat.zero_add] at this
    exact this
  · have := h6 hne (i + 1) (by omega)
    rw [Nat.zero_add, Nat.zero_add, e2] at this
    exact this
  · have hk := (List.getElem?_eq_some_iff.mp hq).1
    have h9 : (rwsO (flS ts))[(rwsO ((flS ts).take i)).length + k]? = some q := by
      conv => lhs; rw [e4]
      rw [List.getElem?_append_right (by omega), Nat.add_sub_cancel_left, List.getElem?_append_left hk]
      exact hq
    have := h7 _ q h9
    rw [Nat.zero_add] at this
    exact this
theorem bset_and (f g : Nat → Bool) (n : Nat) : bset f n &&& bset g n = bset (fun i => f i && g i) n := by
  apply Nat.eq_of_testBit_eq
  intro i
  rw [Nat.testBit_and, bset_bit, bset_bit, bset_bit]
  cases decide (i < n) <;> cases f i <;> cases g i <;> rfl
theorem bset_sm (f : Nat → Bool) {n : Nat} (h : n ≤ 24) : bset f n < 2147483648 := Nat.lt_of_lt_of_le (bset_lt f n) (Nat.le_trans (Nat.pow_le_pow_right (by decide) h) (by decide))
/-- what stands of the selectors -/
def hvE (sg : ZM) (T : List PEl) (ts : List (List PCr)) : Prop := mTree sg T ∧ rootT T ∧ ssG sg 0 0 0 ts ∧ (ts.length ≤ 3 ∧ (rwsO (flS ts)).length ≤ 125 ∧ (flS ts).length ≤ 126)
theorem hv_31 (E : ZE) (mo : Nat) (hm : E.2.2.2.2 = some mo) (w : ZW) (sg : ZM) (d e c s rs : Nat) (hd : 4 ≤ d) (T : List PEl) (ts : List (List PCr)) (h : hvE sg T ts) (hs : s < 3) (h10 : ma sg 10 s = nI rs) (hcr : c + rs < 130) (x2 x6 : Value) (P : ZPhi) : ∀ (cs : List PCr) (l : List (Nat × PComp)) (k F : Nat), k + cs.length = c + rs → selR cs l → okSel l → jnL l → (∀ i, i < cs.length → (flS ts)[k + i]? = cs[i]?) → F < 2147483648 → (∀ x7, RW E MX10_heaviest 73 [some (.ref mo), some (.int (nI e)), some x2, some (.int (nI c)), some (.int (nI s)), some (.int (nI (selGo T F l))), some x6, some x7] [] w sg d 0 0 P) → RW E MX10_heaviest 31 [some (.ref mo), some (.int (nI e)), some x2, some (.int (nI c)), some (.int (nI s)), some (.int (nI F)), some x6, some (.int (nI k))] [] w sg d 0 0 P
  | [], l, k, F, hk, hR, ho, hj, hfl, hF, K => by
    have hl : l = [] := by
      cases l with
      | nil => rfl
      | cons x l => exact absurd hR id
    subst hl
    have hk2 : k = c + rs := hk
    obtain ⟨hT, hr, hG, hb1, hb2, hb3⟩ := h
    refine r_iload dX10_heaviest_31 rfl rfl ?_
    refine r_iload_n dX10_heaviest_33 rfl rfl ?_
    refine r_aload_n dX10_heaviest_34 rfl (zRv_ref _) rfl ?_
    refine m_geta hm 17 10 lfX10_38 rfl (by decide) dX10_heaviest_35 rfl ?_
    refine r_iload dX10_heaviest_38 rfl rfl ?_
    refine m_ialdv hm 10 _ (by decide) (by decide) rfl rfl (by show _ < 3; omega) (by first | (simp only [zGS, zMS, Nat.reduceEqDiff, OfNat.ofNat_ne_ofNat, false_and, and_false, true_and, and_true, and_self, if_true, if_false, ite_true, ite_false, reduceIte, reduceCtorEq]; first | done | assumption | rfl) | assumption | exact z2_eq | exact z1_eq | (simp [zGS, zMS]; first | done | assumption) | rfl) dX10_heaviest_40 rfl ?_
    refine r_iaddN dX10_heaviest_41 rfl ?_
    refine r_icmp_geN (by omega) (by omega) (r := 73) dX10_heaviest_42 (by decide) rfl (fun c_42 => ?_) (fun c_42 => ?_)
    · exact K _
    · exact absurd c_42 (by omega)
  | x :: cs, [], k, F, hk, hR, ho, hj, hfl, hF, K => absurd hR id
  | x :: cs, y :: l, k, F, hk, ⟨r1, r2, r3⟩, ho, hj, hfl, hF, K => by
    have h0 := h
    obtain ⟨hT, hr, hG, hb1, hb2, hb3⟩ := h
    have h24 := hT.1.1
    have hlen : (x :: cs).length = cs.length + 1 := List.length_cons
    have hx : (flS ts)[k]? = some x := hfl 0 (by omega)
    have hki := (List.getElem?_eq_some_iff.mp hx).1
    obtain ⟨m11, hcm⟩ := cmp_at hG hb2 hb3 hx
    obtain ⟨o1, o2⟩ := ho y List.mem_cons_self
    have hjy := hj y List.mem_cons_self
    have j11 : ma sg 11 k = nI y.1 := by rw [m11, r1]
    have hli := q_linked E mo hm w sg (d - 1) F y.1 T hT hr hF hjy
    have hfi := q_fitting E mo hm w sg (d - 1) k _ (by omega) T hT x.2 y.2 hcm r2 o2
    have hF2 := bset_sm (fun e => bmeet (relS T y.1 e) F && fitC T e y.2) h24
    have ih := hv_31 E mo hm w sg d e c s rs hd T ts h0 hs h10 hcr x2 x6 P cs l (k + 1) (bset (fun e => bmeet (relS T y.1 e) F && fitC T e y.2) T.length) (by omega) r3 (fun z hz => ho z (List.mem_cons_of_mem _ hz)) (fun z hz => hj z (List.mem_cons_of_mem _ hz)) (fun i hi => by have := hfl (i + 1) (by omega); rw [show k + (i + 1) = k + 1 + i by omega] at this; exact this) hF2 K
    refine r_iload dX10_heaviest_31 rfl rfl ?_
    refine r_iload_n dX10_heaviest_33 rfl rfl ?_
    refine r_aload_n dX10_heaviest_34 rfl (zRv_ref _) rfl ?_
    refine m_geta hm 17 10 lfX10_38 rfl (by decide) dX10_heaviest_35 rfl ?_
    refine r_iload dX10_heaviest_38 rfl rfl ?_
    refine m_ialdv hm 10 _ (by decide) (by decide) rfl rfl (by show _ < 3; omega) (by first | (simp only [zGS, zMS, Nat.reduceEqDiff, OfNat.ofNat_ne_ofNat, false_and, and_false, true_and, and_true, and_self, if_true, if_false, ite_true, ite_false, reduceIte, reduceCtorEq]; first | done | assumption | rfl) | assumption | exact z2_eq | exact z1_eq | (simp [zGS, zMS]; first | done | assumption) | rfl) dX10_heaviest_40 rfl ?_
    refine r_iaddN dX10_heaviest_41 rfl ?_
    refine r_icmp_geN (by omega) (by omega) (r := 73) dX10_heaviest_42 (by decide) rfl (fun c_42 => ?_) (fun c_42 => ?_)
    · exact absurd c_42 (by omega)
    · refine r_aload_n dX10_heaviest_45 rfl (zRv_ref _) rfl ?_
      refine r_iload dX10_heaviest_46 rfl rfl ?_
      refine r_aload_n dX10_heaviest_48 rfl (zRv_ref _) rfl ?_
      refine m_geta hm 19 11 lfX10_41 rfl (by decide) dX10_heaviest_49 rfl ?_
      refine r_iload dX10_heaviest_52 rfl rfl ?_
      refine m_caldv hm 11 _ (by decide) (by decide) rfl rfl (by show _ < 130; omega) (by first | (simp only [zGS, zMS, Nat.reduceEqDiff, OfNat.ofNat_ne_ofNat, false_and, and_false, true_and, and_true, and_self, if_true, if_false, ite_true, ite_false, reduceIte, reduceCtorEq]; first | done | assumption | rfl) | assumption | exact z2_eq | exact z1_eq | (simp [zGS, zMS]; first | done | assumption) | rfl) dX10_heaviest_54 rfl ?_
      refine r_callV MX10_linked 2 [_, _] lvX10_297 (Or.inr (Or.inl ⟨hm, rfl⟩)) (hli) rfl rfl (by first | exact Nat.le_of_ble_eq_true rfl | (simp [zcat_rf, Value.category]; done)) (by omega) (Nat.le_of_eq (Nat.zero_add _)) (Nat.le_of_eq (Nat.zero_add _)) dX10_heaviest_55 rfl (fun v_ w_ sg_ hq_ => ?_)
      obtain ⟨rfl, rfl, rfl⟩ := hq_
      refine r_aload_n dX10_heaviest_58 rfl (zRv_ref _) rfl ?_
      refine r_iload dX10_heaviest_59 rfl rfl ?_
      refine r_callV MX10_fitting 1 [_] lvX10_294 (Or.inr (Or.inl ⟨hm, rfl⟩)) (hfi) rfl rfl (by first | exact Nat.le_of_ble_eq_true rfl | (simp [zcat_rf, Value.category]; done)) (by omega) (Nat.le_of_eq (Nat.zero_add _)) (Nat.le_of_eq (Nat.zero_add _)) dX10_heaviest_61 rfl (fun v_ w_ sg_ hq_ => ?_)
      obtain ⟨rfl, rfl, rfl⟩ := hq_
      refine r_iand dX10_heaviest_64 rfl ?_
      rw [nI_and (bset_sm _ h24) (bset_sm _ h24), bset_and]
      refine r_istore (ls' := [_, _, _, _, _, _, _, _]) dX10_heaviest_65 (Nat.le_of_ble_eq_true rfl) rfl rfl ?_
      refine r_iinc (ls' := [_, _, _, _, _, _, _, _]) dX10_heaviest_67 (Nat.le_of_ble_eq_true rfl) rfl (zinc1 _) rfl rfl ?_
      refine r_goto (r := 31) dX10_heaviest_70 (by decide) ?_
      exact ih
theorem hv_81 (E : ZE) (mo : Nat) (hm : E.2.2.2.2 = some mo) (w : ZW) (sg : ZM) (d e c s rs n : Nat) (hd : 4 ≤ d) (l : List PRow) (h10 : ma sg 10 s = nI rs) (hs : s < 3) (hc : c + rs < 130) (h12 : ma sg 12 (c + rs) = nI (n + l.length)) (hn : n + l.length ≤ 125) (hR : ∀ i q, l[i]? = some q → ma sg 14 (n + i) = nI q.2.1 ∧ q.2.1 < 128) (x2 x5 : Value) (P : ZPhi) (K : ∀ x7, RW E MX10_heaviest 121 [some (.ref mo), some (.int (nI e)), some x2, some (.int (nI c)), some (.int (nI s)), some x5, some (.int (nI (hvS l))), some x7] [] w sg d 0 0 P) : ∀ (m i : Nat), i + m = l.length → RW E MX10_heaviest 81 [some (.ref mo), some (.int (nI e)), some x2, some (.int (nI c)), some (.int (nI s)), some x5, some (.int (nI (hvS (l.take i)))), some (.int (nI (n + i)))] [] w sg d 0 0 P := by
  intro m
  induction m with
  | zero =>
    intro i hi
    have hi2 : i = l.length := by omega
    subst hi2
    rw [List.take_length]
    refine r_iload dX10_heaviest_81 rfl rfl ?_
    refine r_aload_n dX10_heaviest_83 rfl (zRv_ref _) rfl ?_
    refine m_geta hm 20 12 lfX10_44 rfl (by decide) dX10_heaviest_84 rfl ?_
    refine r_iload_n dX10_heaviest_87 rfl rfl ?_
    refine r_aload_n dX10_heaviest_88 rfl (zRv_ref _) rfl ?_
    refine m_geta hm 17 10 lfX10_38 rfl (by decide) dX10_heaviest_89 rfl ?_
    refine r_iload dX10_heaviest_92 rfl rfl ?_
    refine m_ialdv hm 10 _ (by decide) (by decide) rfl rfl (by show _ < 3; omega) (by first | (simp only [zGS, zMS, Nat.reduceEqDiff, OfNat.ofNat_ne_ofNat, false_and, and_false, true_and, and_true, and_self, if_true, if_false, ite_true, ite_false, reduceIte, reduceCtorEq]; first | done | assumption | rfl) | assumption | exact z2_eq | exact z1_eq | (simp [zGS, zMS]; first | done | assumption) | rfl) dX10_heaviest_94 rfl ?_
    refine r_iaddN dX10_heaviest_95 rfl ?_
    refine m_ialdv hm 12 _ (by decide) (by decide) rfl rfl (by show _ < 130; omega) (by first | (simp only [zGS, zMS, Nat.reduceEqDiff, OfNat.ofNat_ne_ofNat, false_and, and_false, true_and, and_true, and_self, if_true, if_false, ite_true, ite_false, reduceIte, reduceCtorEq]; first | done | assumption | rfl) | assumption | exact z2_eq | exact z1_eq | (simp [zGS, zMS]; first | done | assumption) | rfl) dX10_heaviest_96 rfl ?_
    refine r_icmp_geN (by omega) (by omega) (r := 121) dX10_heaviest_97 (by decide) rfl (fun c_97 => ?_) (fun c_97 => ?_)
    · exact K _
    · exact absurd c_97 (by omega)
  | succ m ih =>
    intro i hi
    obtain ⟨q, hq⟩ : ∃ q, l[i]? = some q := ⟨l[i], List.getElem?_eq_getElem (by omega)⟩
    obtain ⟨q1, q2⟩ := hR i q hq
    have ht : hvS (l.take (i + 1)) = hvS (l.take i) + hvyN q.2.1 := by
      rw [List.take_add_one, hq, hvS_app]
      rfl
    have ih2 := ih (i + 1) (by omega)
    rw [ht] at ih2
    refine r_iload dX10_heaviest_81 rfl rfl ?_
    refine r_aload_n dX10_heaviest_83 rfl (zRv_ref _) rfl ?_
    refine m_geta hm 20 12 lfX10_44 rfl (by decide) dX10_heaviest_84 rfl ?_
    refine r_iload_n dX10_heaviest_87 rfl rfl ?_
    refine r_aload_n dX10_heaviest_88 rfl (zRv_ref _) rfl ?_
    refine m_geta hm 17 10 lfX10_38 rfl (by decide) dX10_heaviest_89 rfl ?_
    refine r_iload dX10_heaviest_92 rfl rfl ?_
    refine m_ialdv hm 10 _ (by decide) (by decide) rfl rfl (by show _ < 3; omega) (by first | (simp only [zGS, zMS, Nat.reduceEqDiff, OfNat.ofNat_ne_ofNat, false_and, and_false, true_and, and_true, and_self, if_true, if_false, ite_true, ite_false, reduceIte, reduceCtorEq]; first | done | assumption | rfl) | assumption | exact z2_eq | exact z1_eq | (simp [zGS, zMS]; first | done | assumption) | rfl) dX10_heaviest_94 rfl ?_
    refine r_iaddN dX10_heaviest_95 rfl ?_
    refine m_ialdv hm 12 _ (by decide) (by decide) rfl rfl (by show _ < 130; omega) (by first | (simp only [zGS, zMS, Nat.reduceEqDiff, OfNat.ofNat_ne_ofNat, false_and, and_false, true_and, and_true, and_self, if_true, if_false, ite_true, ite_false, reduceIte, reduceCtorEq]; first | done | assumption | rfl) | assumption | exact z2_eq | exact z1_eq | (simp [zGS, zMS]; first | done | assumption) | rfl) dX10_heaviest_96 rfl ?_
    refine r_icmp_geN (by omega) (by omega) (r := 121) dX10_heaviest_97 (by decide) rfl (fun c_97 => ?_) (fun c_97 => ?_)
    · exact absurd c_97 (by omega)
    · refine r_iload dX10_heaviest_100 rfl rfl ?_
      refine r_aload_n dX10_heaviest_102 rfl (zRv_ref _) rfl ?_
      refine m_geta hm 23 14 lfX10_50 rfl (by decide) dX10_heaviest_103 rfl ?_
      refine r_iload dX10_heaviest_106 rfl rfl ?_
      refine m_ialdv hm 14 _ (by decide) (by decide) rfl rfl (by show _ < 130; omega) (by first | (simp only [zGS, zMS, Nat.reduceEqDiff, OfNat.ofNat_ne_ofNat, false_and, and_false, true_and, and_true, and_self, if_true, if_false, ite_true, ite_false, reduceIte, reduceCtorEq]; first | done | assumption | rfl) | assumption | exact z2_eq | exact z1_eq | (simp [zGS, zMS]; first | done | assumption) | rfl) dX10_heaviest_108 rfl ?_
      refine r_callS MX10_heavy 1 [_] lsX10_301 (q_heavy E w sg (d - 1) q.2.1 q2) rfl rfl (by first | exact Nat.le_of_ble_eq_true rfl | (simp [zcat_rf, Value.category]; done)) (by omega) (Nat.le_of_eq (Nat.zero_add _)) (Nat.le_of_eq (Nat.zero_add _)) dX10_heaviest_109 rfl (fun v_ w_ sg_ hq_ => ?_)
      obtain ⟨rfl, rfl, rfl⟩ := hq_
      refine r_iaddN dX10_heaviest_112 rfl ?_
      refine r_istore (ls' := [_, _, _, _, _, _, _, _]) dX10_heaviest_113 (Nat.le_of_ble_eq_true rfl) rfl rfl ?_
      refine r_iinc (ls' := [_, _, _, _, _, _, _, _]) dX10_heaviest_115 (Nat.le_of_ble_eq_true rfl) rfl (zinc1 _) rfl rfl ?_
      refine r_goto (r := 81) dX10_heaviest_118 (by decide) ?_
      exact ih2
theorem selR_len : ∀ {cs : List PCr} {l : List (Nat × PComp)}, selR cs l → cs.length = l.length
  | [], [], _ => rfl
  | x :: cs, y :: l, h => by
    rw [List.length_cons, List.length_cons, selR_len h.2.2]
  | [], _ :: _, h => absurd h id
  | _ :: _, [], h => absurd h id
/-- the rows of a selector: their weight, their codes -/
theorem selR_w {T : List PEl} (hw : wfT T) {e : Nat} (he : e < T.length) : ∀ {cs : List PCr} {l : List (Nat × PComp)}, selR cs l → okSel l → hvS (rwsO cs) = wSel l ∧ ∀ q ∈ rwsO cs, q.2.1 < 128
  | [], [], _, _ => ⟨rfl, fun q hq => (by cases hq)⟩
  | x :: cs, y :: l, ⟨h1, h2, h3⟩, ho => by
    obtain ⟨i1, i2⟩ := selR_w hw he h3 (fun z hz => ho z (List.mem_cons_of_mem _ hz))
    obtain ⟨j1, j2, j3⟩ := compR_ok hw he h2 (ho y List.mem_cons_self).2
    refine ⟨?_, fun q hq => ?_⟩
    · show hvS (x.2 ++ rwsO cs) = wComp y.2 + wSel l
      rw [hvS_app, i1, j3]
    · rcases List.mem_append.mp hq with u | u
      · have := (j1 q u).2
        omega
      · exact i2 q u
  | [], _ :: _, h, _ => absurd h id
  | _ :: _, [], h, _ => absurd h id
theorem hv_121 (E : ZE) (mo : Nat) (hm : E.2.2.2.2 = some mo) (w : ZW) (sg : ZM) (d e c s rs S A : Nat) (he : e < 24) (hS : S < 2147483648) (h10 : ma sg 10 s = nI rs) (hs : s < 3) (b : Int32) (x7 : Value) (P : ZPhi) (K : ∀ x5 x6 x7, RW E MX10_heaviest 7 [some (.ref mo), some (.int (nI e)), some (.int (if S.testBit e = true then (if b < nI A then nI A else b) else b)), some (.int (nI (c + rs))), some (.int (nI (s + 1))), some x5, some x6, some x7] [] w sg d 0 0 P) : RW E MX10_heaviest 121 [some (.ref mo), some (.int (nI e)), some (.int b), some (.int (nI c)), some (.int (nI s)), some (.int (nI S)), some (.int (nI A)), some x7] [] w sg d 0 0 P := by
  have hsb := shr_b hS he
  cases hh : S.testBit e with
  | false =>
    rw [hh] at hsb K
    rw [if_neg (by decide)] at K
    refine r_iload dX10_heaviest_121 rfl rfl ?_
    refine r_iload_n dX10_heaviest_123 rfl rfl ?_
    refine r_ishr dX10_heaviest_124 rfl ?_
    refine r_iconst dX10_heaviest_125 kc_1 rfl ?_
    refine r_iand dX10_heaviest_126 rfl ?_
    rw [hsb]
    refine r_iconst dX10_heaviest_127 kc_1 rfl ?_
    refine r_icmp_ne (r := 142) dX10_heaviest_128 (by decide) rfl (fun c_128 => ?_) (fun c_128 => ?_)
    · refine r_iload_n dX10_heaviest_142 rfl rfl ?_
      refine r_istore_n (ls' := [_, _, _, _, _, _, _, _]) dX10_heaviest_143 (Nat.le_of_ble_eq_true rfl) rfl rfl ?_
      refine r_iload_n dX10_heaviest_144 rfl rfl ?_
      refine r_aload_n dX10_heaviest_145 rfl (zRv_ref _) rfl ?_
      refine m_geta hm 17 10 lfX10_38 rfl (by decide) dX10_heaviest_146 rfl ?_
      refine r_iload dX10_heaviest_149 rfl rfl ?_
      refine m_ialdv hm 10 _ (by decide) (by decide) rfl rfl (by show _ < 3; omega) (by first | (simp only [zGS, zMS, Nat.reduceEqDiff, OfNat.ofNat_ne_ofNat, false_and, and_false, true_and, and_true, and_self, if_true, if_false, ite_true, ite_false, reduceIte, reduceCtorEq]; first | done | assumption | rfl) | assumption | exact z2_eq | exact z1_eq | (simp [zGS, zMS]; first | done | assumption) | rfl) dX10_heaviest_151 rfl ?_
      refine r_iaddN dX10_heaviest_152 rfl ?_
      refine r_istore_n (ls' := [_, _, _, _, _, _, _, _]) dX10_heaviest_153 (Nat.le_of_ble_eq_true rfl) rfl rfl ?_
      refine r_iinc (ls' := [_, _, _, _, _, _, _, _]) dX10_heaviest_154 (Nat.le_of_ble_eq_true rfl) rfl (zinc1 _) rfl rfl ?_
      refine r_goto (r := 7) dX10_heaviest_157 (by decide) ?_
      exact K _ _ _
    · exact absurd c_128 (by decide)
  | true =>
    rw [hh] at hsb K
    rw [if_pos rfl] at K
    refine r_iload dX10_heaviest_121 rfl rfl ?_
    refine r_iload_n dX10_heaviest_123 rfl rfl ?_
    refine r_ishr dX10_heaviest_124 rfl ?_
    refine r_iconst dX10_heaviest_125 kc_1 rfl ?_
    refine r_iand dX10_heaviest_126 rfl ?_
    rw [hsb]
    refine r_iconst dX10_heaviest_127 kc_1 rfl ?_
    refine r_icmp_ne (r := 142) dX10_heaviest_128 (by decide) rfl (fun c_128 => ?_) (fun c_128 => ?_)
    · exact absurd rfl c_128
    · refine r_iload dX10_heaviest_131 rfl rfl ?_
      refine r_iload_n dX10_heaviest_133 rfl rfl ?_
      refine r_icmp_le (r := 142) dX10_heaviest_134 (by decide) rfl (fun c_134 => ?_) (fun c_134 => ?_)
      · refine r_iload_n dX10_heaviest_142 rfl rfl ?_
        refine r_istore_n (ls' := [_, _, _, _, _, _, _, _]) dX10_heaviest_143 (Nat.le_of_ble_eq_true rfl) rfl rfl ?_
        refine r_iload_n dX10_heaviest_144 rfl rfl ?_
        refine r_aload_n dX10_heaviest_145 rfl (zRv_ref _) rfl ?_
        refine m_geta hm 17 10 lfX10_38 rfl (by decide) dX10_heaviest_146 rfl ?_
        refine r_iload dX10_heaviest_149 rfl rfl ?_
        refine m_ialdv hm 10 _ (by decide) (by decide) rfl rfl (by show _ < 3; omega) (by first | (simp only [zGS, zMS, Nat.reduceEqDiff, OfNat.ofNat_ne_ofNat, false_and, and_false, true_and, and_true, and_self, if_true, if_false, ite_true, ite_false, reduceIte, reduceCtorEq]; first | done | assumption | rfl) | assumption | exact z2_eq | exact z1_eq | (simp [zGS, zMS]; first | done | assumption) | rfl) dX10_heaviest_151 rfl ?_
        refine r_iaddN dX10_heaviest_152 rfl ?_
        refine r_istore_n (ls' := [_, _, _, _, _, _, _, _]) dX10_heaviest_153 (Nat.le_of_ble_eq_true rfl) rfl rfl ?_
        refine r_iinc (ls' := [_, _, _, _, _, _, _, _]) dX10_heaviest_154 (Nat.le_of_ble_eq_true rfl) rfl (zinc1 _) rfl rfl ?_
        refine r_goto (r := 7) dX10_heaviest_157 (by decide) ?_
        rw [if_neg (Int32.not_lt.mpr c_134)] at K
        exact K _ _ _
      · refine r_iload dX10_heaviest_137 rfl rfl ?_
        refine r_goto (r := 143) dX10_heaviest_139 (by decide) ?_
        refine r_istore_n (ls' := [_, _, _, _, _, _, _, _]) dX10_heaviest_143 (Nat.le_of_ble_eq_true rfl) rfl rfl ?_
        refine r_iload_n dX10_heaviest_144 rfl rfl ?_
        refine r_aload_n dX10_heaviest_145 rfl (zRv_ref _) rfl ?_
        refine m_geta hm 17 10 lfX10_38 rfl (by decide) dX10_heaviest_146 rfl ?_
        refine r_iload dX10_heaviest_149 rfl rfl ?_
        refine m_ialdv hm 10 _ (by decide) (by decide) rfl rfl (by show _ < 3; omega) (by first | (simp only [zGS, zMS, Nat.reduceEqDiff, OfNat.ofNat_ne_ofNat, false_and, and_false, true_and, and_true, and_self, if_true, if_false, ite_true, ite_false, reduceIte, reduceCtorEq]; first | done | assumption | rfl) | assumption | exact z2_eq | exact z1_eq | (simp [zGS, zMS]; first | done | assumption) | rfl) dX10_heaviest_151 rfl ?_
        refine r_iaddN dX10_heaviest_152 rfl ?_
        refine r_istore_n (ls' := [_, _, _, _, _, _, _, _]) dX10_heaviest_153 (Nat.le_of_ble_eq_true rfl) rfl rfl ?_
        refine r_iinc (ls' := [_, _, _, _, _, _, _, _]) dX10_heaviest_154 (Nat.le_of_ble_eq_true rfl) rfl (zinc1 _) rfl rfl ?_
        refine r_goto (r := 7) dX10_heaviest_157 (by decide) ?_
        rw [if_pos (Int32.not_le.mp c_134)] at K
        exact K _ _ _
theorem hv_7 (E : ZE) (mo : Nat) (hm : E.2.2.2.2 = some mo) (w : ZW) (sg : ZM) (d e : Nat) (hd : 4 ≤ d) (T : List PEl) (ts : List (List PCr)) (h : hvE sg T ts) (he : e < T.length) : ∀ (ts2 ts1 : List (List PCr)) (ls : List (List (Nat × PComp))) (b : Int32) (x5 x6 x7 : Option Value), ts = ts1 ++ ts2 → ssR ts2 ls → okSels ls → jnS ls → RW E MX10_heaviest 7 [some (.ref mo), some (.int (nI e)), some (.int b), some (.int (nI (flS ts1).length)), some (.int (nI ts1.length)), x5, x6, x7] [] w sg d 0 0 (PN E (fun v w' sg' => v = some (.int (hvI T e ls b)) ∧ w = w' ∧ sg = sg'))
  | [], ts1, ls, b, x5, x6, x7, hts, hR, ho, hj => by
    have hl : ls = [] := by
      cases ls with
      | nil => rfl
      | cons x l => exact absurd hR id
    subst hl
    obtain ⟨hT, hr, hG, hb1, hb2, hb3⟩ := h
    have h16 : mi sg 16 = nI ts.length := by have := hG.1.1; rw [Nat.zero_add] at this; exact this
    rw [List.append_nil] at hts
    subst hts
    refine r_iload dX10_heaviest_7 rfl rfl ?_
    refine r_aload_n dX10_heaviest_9 rfl (zRv_ref _) rfl ?_
    refine m_getiv hm 16 lfX10_157 rfl (by first | (simp only [zGS, zMS, Nat.reduceEqDiff, OfNat.ofNat_ne_ofNat, false_and, and_false, true_and, and_true, and_self, if_true, if_false, ite_true, ite_false, reduceIte, reduceCtorEq]; first | done | assumption | rfl) | assumption | exact z2_eq | exact z1_eq | (simp [zGS, zMS]; first | done | assumption) | rfl) dX10_heaviest_10 rfl ?_
    refine r_icmp_geN (by omega) (by omega) (r := 160) dX10_heaviest_13 (by decide) rfl (fun c_13 => ?_) (fun c_13 => ?_)
    · refine r_iload_n dX10_heaviest_160 rfl rfl ?_
      refine r_iret rfl dX10_heaviest_161 ?_
      exact ⟨rfl, rfl, rfl⟩
    · exact absurd c_13 (by omega)
  | cs :: ts2, ts1, [], b, x5, x6, x7, hts, hR, ho, hj => absurd hR id
  | cs :: ts2, ts1, l :: ls, b, x5, x6, x7, hts, ⟨⟨hsel, hne⟩, hR⟩, ho, hj => by
    have h0 := h
    obtain ⟨hT, hr, hG, hb1, hb2, hb3⟩ := h
    have h24 := hT.1.1
    have h16 : mi sg 16 = nI ts.length := by have := hG.1.1; rw [Nat.zero_add] at this; exact this
    have hlts : ts.length = ts1.length + (ts2.length + 1) := by rw [hts, List.length_append, List.length_cons]
    have hs3 : ts1.length < 3 := by omega
    have h10 : ma sg 10 ts1.length = nI cs.length := by
      have := hG.2.1 ts1.length cs (by rw [hts, List.getElem?_append_right (Nat.le_refl _), Nat.sub_self]; rfl)
      rw [Nat.zero_add] at this
      exact this
    have efl : flS ts = flS ts1 ++ (cs ++ flS ts2) := by rw [hts, flS_app]; rfl
    have elen : (flS ts).length = (flS ts1).length + (cs.length + (flS ts2).length) := by rw [efl, List.length_append, List.length_append]
    have hfl : ∀ i, i < cs.length → (flS ts)[(flS ts1).length + i]? = cs[i]? := fun i hi => by
      rw [efl, List.getElem?_append_right (by omega), Nat.add_sub_cancel_left, List.getElem?_append_left hi]
    have ert : (flS ts).take (flS ts1).length = flS ts1 := by rw [efl, List.take_left]
    have erw : rwsO (flS ts) = rwsO (flS ts1) ++ (rwsO cs ++ rwsO (flS ts2)) := by rw [efl, rwsO_app, rwsO_app]
    have erl : (rwsO (flS ts)).length = (rwsO (flS ts1)).length + ((rwsO cs).length + (rwsO (flS ts2)).length) := by rw [erw, List.length_append, List.length_append]
    have hsl := ho l List.mem_cons_self
    obtain ⟨hw1, hw2⟩ := selR_w hT.1 he hsel hsl
    have hclen : 1 ≤ cs.length := List.length_pos_iff.mpr hne
    have hfn : flS ts ≠ [] := fun q => by rw [q] at elen; have : ([] : List PCr).length = 0 := rfl; omega
    have h12b : ma sg 12 ((flS ts1).length + cs.length) = nI ((rwsO (flS ts1)).length + (rwsO cs).length) := by
      have := hG.2.2.2.1 hfn ((flS ts1).length + cs.length) (by omega)
      rw [Nat.zero_add, Nat.zero_add, efl, ← List.append_assoc, List.take_append_of_le_length (by rw [List.length_append]; exact Nat.le_refl _), List.take_of_length_le (by rw [List.length_append]; exact Nat.le_refl _), rwsO_app, List.length_append] at this
      exact this
    have h12a : ma sg 12 (flS ts1).length = nI (rwsO (flS ts1)).length := by
      have := hG.2.2.2.1 hfn (flS ts1).length (by omega)
      rw [Nat.zero_add, Nat.zero_add, ert] at this
      exact this
    have hrows : ∀ i q, (rwsO cs)[i]? = some q → ma sg 14 ((rwsO (flS ts1)).length + i) = nI q.2.1 ∧ q.2.1 < 128 := fun i q hq => by
      have hi := (List.getElem?_eq_some_iff.mp hq).1
      have h9 : (rwsO (flS ts))[(rwsO (flS ts1)).length + i]? = some q := by
        rw [erw, List.getElem?_append_right (by omega), Nat.add_sub_cancel_left, List.getElem?_append_left hi]
        exact hq
      have := hG.2.2.2.2 _ q h9
      rw [Nat.zero_add] at this
      exact ⟨this.2.1, hw2 q (List.mem_of_getElem? hq)⟩
    cases cs with
    | nil => exact absurd rfl hne
    | cons x0 cs =>
      cases l with
      | nil => exact absurd hsel id
      | cons y0 l =>
        obtain ⟨r1, r2, r3⟩ := hsel
        have hx0 : (flS ts)[(flS ts1).length]? = some x0 := hfl 0 (by omega)
        obtain ⟨-, hcm⟩ := cmp_at hG hb2 hb3 hx0
        have hfi := q_fitting E mo hm w sg (d - 1) (flS ts1).length _ (by omega) T hT x0.2 y0.2 hcm r2 (hsl y0 List.mem_cons_self).2
        have hlen0 : (x0 :: cs).length = cs.length + 1 := List.length_cons
        have hS : selSet T (y0 :: l) < 2147483648 := selSet_lt h24 _
        have hset : selSet T (y0 :: l) = selGo T (bset (fun e => fitC T e y0.2) T.length) l := rfl
        have e7 : ts = (ts1 ++ [x0 :: cs]) ++ ts2 := by rw [List.append_assoc]; exact hts
        have ih := fun b x5 x6 x7 => hv_7 E mo hm w sg d e hd T ts h0 he ts2 (ts1 ++ [x0 :: cs]) ls b x5 x6 x7 e7 hR (fun z hz => ho z (List.mem_cons_of_mem _ hz)) (fun z hz => hj z (List.mem_cons_of_mem _ hz))
        have e8 : (flS (ts1 ++ [x0 :: cs])).length = (flS ts1).length + (x0 :: cs).length := by
          rw [flS_app, List.length_append]
          show _ + ((x0 :: cs) ++ []).length = _
          rw [List.append_nil]
        have e9 : (ts1 ++ [x0 :: cs]).length = ts1.length + 1 := by rw [List.length_append]; rfl
        rw [e8, e9] at ih
        have s1 := fun (x5 x7 : Value) => hv_121 E mo hm w sg d e (flS ts1).length ts1.length (x0 :: cs).length (selSet T (y0 :: l)) (wSel (y0 :: l)) (by omega) hS h10 hs3 b x7 _ (fun x5 x6 x7 => ih _ (some x5) (some x6) (some x7))
        rw [hset] at s1
        have s2 := hv_81 E mo hm w sg d e (flS ts1).length ts1.length (x0 :: cs).length (rwsO (flS ts1)).length hd (rwsO (x0 :: cs)) h10 hs3 (by omega) h12b (by omega) hrows (.int b) (.int (nI (selGo T (bset (fun e => fitC T e y0.2) T.length) l))) _ (fun x7 => by rw [hw1]; exact s1 x7 x7) (rwsO (x0 :: cs)).length 0 (Nat.zero_add _)
        have s3 : ∀ x7, RW E MX10_heaviest 73 [some (.ref mo), some (.int (nI e)), some (.int b), some (.int (nI (flS ts1).length)), some (.int (nI ts1.length)), some (.int (nI (selGo T (bset (fun e => fitC T e y0.2) T.length) l))), some (.int (nI 0)), some x7] [] w sg d 0 0 (PN E (fun v w' sg' => v = some (.int (hvI T e ((y0 :: l) :: ls) b)) ∧ w = w' ∧ sg = sg')) := fun x7 => by
          refine r_aload_n dX10_heaviest_73 rfl (zRv_ref _) rfl ?_
          refine m_geta hm 20 12 lfX10_44 rfl (by decide) dX10_heaviest_74 rfl ?_
          refine r_iload_n dX10_heaviest_77 rfl rfl ?_
          refine m_ialdv hm 12 _ (by decide) (by decide) rfl rfl (by show _ < 130; omega) (by first | (simp only [zGS, zMS, Nat.reduceEqDiff, OfNat.ofNat_ne_ofNat, false_and, and_false, true_and, and_true, and_self, if_true, if_false, ite_true, ite_false, reduceIte, reduceCtorEq]; first | done | assumption | rfl) | assumption | exact z2_eq | exact z1_eq | (simp [zGS, zMS]; first | done | assumption) | rfl) dX10_heaviest_78 rfl ?_
          refine r_istore (ls' := [_, _, _, _, _, _, _, _]) dX10_heaviest_79 (Nat.le_of_ble_eq_true rfl) rfl rfl ?_
          exact s2
        have s4 := hv_31 E mo hm w sg d e (flS ts1).length ts1.length (x0 :: cs).length hd T ts h0 hs3 h10 (by omega) (.int b) (.int (nI 0)) _ cs l ((flS ts1).length + 1) (bset (fun e => fitC T e y0.2) T.length) (by omega) r3 (fun z hz => hsl z (List.mem_cons_of_mem _ hz)) (hj (y0 :: l) List.mem_cons_self) (fun i hi => by have := hfl (i + 1) (by omega); rw [show (flS ts1).length + (i + 1) = (flS ts1).length + 1 + i by omega] at this; exact this) (bset_sm _ h24) s3
        refine r_iload dX10_heaviest_7 rfl rfl ?_
        refine r_aload_n dX10_heaviest_9 rfl (zRv_ref _) rfl ?_
        refine m_getiv hm 16 lfX10_157 rfl (by first | (simp only [zGS, zMS, Nat.reduceEqDiff, OfNat.ofNat_ne_ofNat, false_and, and_false, true_and, and_true, and_self, if_true, if_false, ite_true, ite_false, reduceIte, reduceCtorEq]; first | done | assumption | rfl) | assumption | exact z2_eq | exact z1_eq | (simp [zGS, zMS]; first | done | assumption) | rfl) dX10_heaviest_10 rfl ?_
        refine r_icmp_geN (by omega) (by omega) (r := 160) dX10_heaviest_13 (by decide) rfl (fun c_13 => ?_) (fun c_13 => ?_)
        · exact absurd c_13 (by omega)
        · refine r_aload_n dX10_heaviest_16 rfl (zRv_ref _) rfl ?_
          refine r_iload_n dX10_heaviest_17 rfl rfl ?_
          refine r_callV MX10_fitting 1 [_] lvX10_294 (Or.inr (Or.inl ⟨hm, rfl⟩)) (hfi) rfl rfl (by first | exact Nat.le_of_ble_eq_true rfl | (simp [zcat_rf, Value.category]; done)) (by omega) (Nat.le_of_eq (Nat.zero_add _)) (Nat.le_of_eq (Nat.zero_add _)) dX10_heaviest_18 rfl (fun v_ w_ sg_ hq_ => ?_)
          obtain ⟨rfl, rfl, rfl⟩ := hq_
          refine r_istore (ls' := [_, _, _, _, _, _, _, _]) dX10_heaviest_21 (Nat.le_of_ble_eq_true rfl) rfl rfl ?_
          refine r_iconst dX10_heaviest_23 kc_0 rfl ?_
          refine r_istore (ls' := [_, _, _, _, _, _, _, _]) dX10_heaviest_24 (Nat.le_of_ble_eq_true rfl) rfl rfl ?_
          refine r_iload_n dX10_heaviest_26 rfl rfl ?_
          refine r_iconst dX10_heaviest_27 kc_1 rfl ?_
          refine r_iaddN dX10_heaviest_28 rfl ?_
          refine r_istore (ls' := [_, _, _, _, _, _, _, _]) dX10_heaviest_29 (Nat.le_of_ble_eq_true rfl) rfl rfl ?_
          exact s4
theorem q_heaviest (E : ZE) (mo : Nat) (hm : E.2.2.2.2 = some mo) (w : ZW) (sg : ZM) (d e : Nat) (hd : 4 ≤ d) (T : List PEl) (ts : List (List PCr)) (ls : List (List (Nat × PComp))) (h : hvE sg T ts) (he : e < T.length) (hR : ssR ts ls) (ho : okSels ls) (hj : jnS ls) : CallQ E MX10_heaviest [.ref mo, .int (nI e)] w sg d 0 0 (fun v w' sg' => v = some (.int (hvI T e ls (-1))) ∧ w = w' ∧ sg = sg') := by
  have h0 := hv_7 E mo hm w sg d e hd T ts h he ts [] ls (-1) none none none rfl hR ho hj
  refine CallQ.of rfl (by simp [Value.category]) (Nat.le_of_ble_eq_true rfl) ?_
  refine r_iconst dX10_heaviest_0 kc_m1 rfl ?_
  refine r_istore_n (ls' := [_, _, _, _, _, _, _, _]) dX10_heaviest_1 (Nat.le_of_ble_eq_true rfl) rfl rfl ?_
  refine r_iconst dX10_heaviest_2 kc_0 rfl ?_
  refine r_istore_n (ls' := [_, _, _, _, _, _, _, _]) dX10_heaviest_3 (Nat.le_of_ble_eq_true rfl) rfl rfl ?_
  refine r_iconst dX10_heaviest_4 kc_0 rfl ?_
  refine r_istore (ls' := [_, _, _, _, _, _, _, _]) dX10_heaviest_5 (Nat.le_of_ble_eq_true rfl) rfl rfl ?_
  exact h0
