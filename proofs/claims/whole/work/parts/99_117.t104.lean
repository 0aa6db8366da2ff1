/-! ===== the model: readInner ===== -/
theorem pHead_len (r : List Nat) : (pHead r).2.2.length ≤ r.length := by
  cases r with
  | nil => exact Nat.le_refl _
  | cons c r =>
    show (if c = 42 then (0, true, r) else if 97 ≤ c ∧ c ≤ 122 then (c, true, r) else (0, false, c :: r) : Nat × Bool × List Nat).2.2.length ≤ _
    split
    · simp
    · split
      · simp
      · exact Nat.le_refl _
/-- rows for what stands in an :x -/
def bareR (g : Nat) (b : PBare) (l : List PRow) : Prop := ∃ oh lp, l = hdRow g b.1 oh ++ lp ∧ (b.1 ≠ 0 → oh = true) ∧ rwL g b.2 lp ∧ (oh = true ∨ b.2 ≠ [])
theorem cuG.m26 {sg : ZM} {f : Nat} {r : List Nat} {v : Int32} (h : cuG sg f r) : cuG (msi sg 26 v) f r := by
  obtain ⟨a, ⟨q1, q2, q3, q4, q5, q6⟩, h2, h3, h4, h5, h6, h7⟩ := h
  exact ⟨a, ⟨q1, by rw [mi_msi, if_neg (by decide)]; exact q2, by rw [mi_msi, if_neg (by decide)]; exact q3, by rw [mi_msi, if_neg (by decide)]; exact q4, q5, q6⟩, by rw [mi_msi, if_neg (by decide)]; exact h2, h3, h4, h5, h6, h7⟩
theorem hdRow_len (g : Nat) (r : List Nat) : (hdRow g (pHead r).1 (pHead r).2.1).length + (pHead r).2.2.length ≤ r.length := by
  have key : ∀ t b, (hdRow g t b).length ≤ 1 := fun t b => by
    unfold hdRow
    split
    · split <;> exact Nat.le_refl 1
    · exact Nat.zero_le 1
  cases r with
  | nil => exact Nat.le_refl _
  | cons c r =>
    have e : pHead (c :: r) = (if c = 42 then (0, true, r) else if 97 ≤ c ∧ c ≤ 122 then (c, true, r) else (0, false, c :: r)) := rfl
    rw [e]
    split
    · have := key 0 true
      simp only [List.length_cons]
      omega
    · split
      · have := key c true
        simp only [List.length_cons]
        omega
      · show 0 + (c :: r).length ≤ _
        omega
theorem pHead_t0 (r : List Nat) : (pHead r).2.1 = false → (pHead r).1 = 0 := by
  cases r with
  | nil => exact fun _ => rfl
  | cons c r =>
    show (if c = 42 then (0, true, r) else if 97 ≤ c ∧ c ≤ 122 then (c, true, r) else (0, false, c :: r) : Nat × Bool × List Nat).2.1 = false → (if c = 42 then (0, true, r) else if 97 ≤ c ∧ c ≤ 122 then (c, true, r) else (0, false, c :: r) : Nat × Bool × List Nat).1 = 0
    split
    · intro h; cases h
    · split
      · intro h; cases h
      · exact fun _ => rfl
theorem pCh_ps {r : List Nat} (h : isPS (hdN r) = true) : pCh 41 r = none := by
  cases r with
  | nil => rfl
  | cons c r =>
    have h2 : isPS c = true := h
    unfold isPS at h2
    rw [decide_eq_true_eq] at h2
    exact if_neg (by omega)
theorem pOutN_ps : ∀ (j : Nat) (ps : List PPart) (o : Bool) (r : List Nat) (ps' : List PPart) (es' : List PBare) (o2 : Bool) (r2 : List Nat), pOutL none j ps [] o r = some (ps', es', o2, r2) → ps ≠ [] → ps' ≠ []
  | 0, ps, o, r, ps', es', o2, r2, h, hp => by cases h; exact hp
  | j + 1, ps, o, r, ps', es', o2, r2, h, hp => by
    cases hs : isPS (hdN r) with
    | false => rw [pOutL_stop hs] at h; cases h; exact hp
    | true =>
      cases r with
      | nil => cases hs
      | cons c r1 =>
        have hc : isPS c = true := hs
        rw [pOutL_go hc] at h
        cases hq : pSimple c r1 with
        | none => rw [hq] at h; cases h
        | some q =>
          obtain ⟨p, r3⟩ := q
          rw [hq] at h
          exact pOutN_ps j (p :: ps) true r3 ps' es' o2 r2 h (by simp)
theorem pOutN_ne {j : Nat} {o : Bool} {r : List Nat} {ps' : List PPart} {es' : List PBare} {o2 : Bool} {r2 : List Nat} (h : pOutL none j [] [] o r = some (ps', es', o2, r2)) (ho : o2 = true) : o = true ∨ ps' ≠ [] := by
  cases j with
  | zero => cases h; exact Or.inl ho
  | succ j =>
    cases hs : isPS (hdN r) with
    | false => rw [pOutL_stop hs] at h; cases h; exact Or.inl ho
    | true =>
      cases r with
      | nil => cases hs
      | cons c r1 =>
        have hc : isPS c = true := hs
        rw [pOutL_go hc] at h
        cases hq : pSimple c r1 with
        | none => rw [hq] at h; cases h
        | some q =>
          obtain ⟨p, r3⟩ := q
          rw [hq] at h
          exact Or.inr (pOutN_ps j [p] true r3 ps' es' o2 r2 h (by simp))
theorem excl_eq {r r1 : List Nat} (h : pCh 40 r = some r1) : pExcl r = (match pOutL none 4 [] [] (pHead r1).2.1 (pHead r1).2.2 with
  | none => none
  | some (ps, _, o2, r2) => if o2 = true then (match pCh 41 r2 with
    | none => none
    | some r3 => some (((pHead r1).1, ps), r3)) else none) := by
  unfold pExcl pCompG
  rw [h]
  simp only []
  cases pOutL none 4 [] [] (pHead r1).2.1 (pHead r1).2.2 with
  | none => rfl
  | some q =>
    obtain ⟨ps, es, o2, r2⟩ := q
    simp only []
    by_cases ho : o2 = true
    · rw [if_pos ho, if_pos ho]
      rfl
    · rw [if_neg ho, if_neg ho]
def rnQ (sg : ZM) (f n G : Nat) (r : List Nat) (w : ZW) : ZQ := fun v w' sg' => v = none ∧ w = w' ∧ ∃ l o, grG sg sg' n l ∧ mi sg' 26 = nI (G + 1) ∧ l.length ≤ 6 ∧ cuO sg' f 700 o ∧ o = rsP (pExcl r) ∧ ∀ b r', pExcl r = some (b, r') → bareR (G + 1) b l ∧ l.length + r'.length + 2 ≤ r.length
/-- behind the head -/
theorem rn_35 (E : ZE) (mo : Nat) (hm : E.2.2.2.2 = some mo) (w : ZW) (sg sg2 : ZM) (d f n G : Nat) (hd : 9 ≤ d) (hG : G + 1 < 128) (r r1 : List Nat) (h40 : pCh 40 r = some r1) (p2 : grG sg sg2 n (hdRow (G + 1) (pHead r1).1 (pHead r1).2.1)) (h26 : mi sg2 26 = nI (G + 1)) (hn : n + r.length ≤ 125) (h : cuG sg2 f (pHead r1).2.2) : RW E MX10_readInner 35 [some (.ref mo), some (.int (nI (if (pHead r1).2.1 = true then 1 else 0))), some (.int (nI 0))] [] w sg2 d 0 0 (PN E (rnQ sg f n G r w)) := by
  have hl1 : (hdRow (G + 1) (pHead r1).1 (pHead r1).2.1).length ≤ 1 := by
    unfold hdRow
    split
    · split <;> exact Nat.le_refl 1
    · exact Nat.zero_le 1
  have hlr := pCh_len h40
  have hlh := pHead_len r1
  refine ri_35 E mo hm w d f (G + 1) (by omega) ⟨by omega, hG⟩ _ 4 0 sg2 (n + (hdRow (G + 1) (pHead r1).1 (pHead r1).2.1).length) (if (pHead r1).2.1 = true then 1 else 0) [] [] (pHead r1).2.1 (pHead r1).2.2 rfl h p2.2.1 h26 (by omega) ?_ rfl (fun sg' l cnt' o' x2 y1 y2 y3 y4 y5 y6 => ?_)
  · cases (pHead r1).2.1
    · exact ⟨fun q => (by cases q), fun q => absurd q (by decide)⟩
    · exact ⟨fun _ => by decide, fun _ => rfl⟩
  · have hc9 : cnt' < 100 := by
      have : (if (pHead r1).2.1 = true then 1 else 0) ≤ 1 := by split <;> decide
      omega
    refine RW.qmono (ri_88 E mo hm w sg' d f cnt' 700 (by omega) (by decide) hc9 o' _ (y5.mono (by decide))) ?_
    rintro v w' sg9 ⟨q1, q2, q3, q4⟩
    refine ⟨q1, q2, _, _, (p2.tr y1).mv q3, (q3.1 26 (by decide) (by decide)).trans y2, by rw [List.length_append]; omega, q4, ?_, ?_⟩
    · rw [excl_eq h40]
      rcases y6 with ⟨rfl, z | ⟨ps, es, o2, r2, z1, z2⟩⟩ | ⟨ps, o2, r2, rfl, z1, z2, z3, z4, z5⟩
      · rw [z]; rfl
      · rw [z1]
        simp only []
        rw [pCh_ps z2]
        by_cases ho : o2 = true
        · rw [if_pos ho]
          rfl
        · rw [if_neg ho]
          rfl
      · rw [z1]
        show (if 0 < cnt' then pCh 41 r2 else none) = rsP (if o2 = true then _ else none)
        by_cases ho : o2 = true
        · rw [if_pos ho, if_pos (z3.mp ho)]
          cases pCh 41 r2 <;> rfl
        · rw [if_neg ho, if_neg (fun q => ho (z3.mpr q))]
          rfl
    · intro b r' hb
      rw [excl_eq h40] at hb
      rcases y6 with ⟨rfl, z | ⟨ps, es, o2, r2, z1, z2⟩⟩ | ⟨ps, o2, r2, rfl, z1, z2, z3, z4, z5⟩
      · rw [z] at hb; cases hb
      · rw [z1] at hb
        simp only [] at hb
        rw [pCh_ps z2] at hb
        split at hb <;> cases hb
      · rw [z1] at hb
        simp only [] at hb
        split at hb
        · rename_i ho9
          cases h41 : pCh 41 r2 with
          | none => rw [h41] at hb; cases hb
          | some r3 =>
            rw [h41] at hb
            cases hb
            have l41 := pCh_len h41
            have lh := hdRow_len (G + 1) r1
            refine ⟨⟨(pHead r1).2.1, l, rfl, fun q => ?_, by rw [List.nil_append] at z4; exact z4, pOutN_ne z1 ho9⟩, by rw [List.length_append]; omega⟩
            cases hq : (pHead r1).2.1 with
            | true => rfl
            | false => exact absurd (pHead_t0 r1 hq) q
        · cases hb
theorem rn_35x (E : ZE) (mo : Nat) (hm : E.2.2.2.2 = some mo) (w : ZW) (sg sg3 : ZM) (d f n G cnt : Nat) (hd : 9 ≤ d) (hG : G + 1 < 128) (r : List Nat) (l : List PRow) (b : Bool) (o3 : Option (List Nat)) (hl : l.length ≤ 1) (hc : cnt = if b = true then 1 else 0) (p13 : grG sg sg3 n l) (h26 : mi sg3 26 = nI (G + 1)) (hn : n + r.length ≤ 125) (c3 : cuO sg3 f 788 o3) (hnone : pCh 40 r = none → o3 = none) (hsome : ∀ r1, pCh 40 r = some r1 → o3 = some (pHead r1).2.2 ∧ b = (pHead r1).2.1 ∧ l = hdRow (G + 1) (pHead r1).1 (pHead r1).2.1) : RW E MX10_readInner 35 [some (.ref mo), some (.int (nI cnt)), some (.int (nI 0))] [] w sg3 d 0 0 (PN E (rnQ sg f n G r w)) := by
  cases h40 : pCh 40 r with
  | none =>
    have h1 := hnone h40
    subst h1
    have hc9 : cnt < 100 := by rw [hc]; split <;> decide
    refine ri_35b E mo hm w sg3 d cnt 0 _ c3.g ?_
    refine RW.qmono (ri_88 E mo hm w sg3 d f cnt 700 (by omega) (by decide) hc9 none _ (c3.mono (by decide))) ?_
    rintro v w' sg9 ⟨q1, q2, q3, q4⟩
    have hx : pExcl r = none := by unfold pExcl; rw [h40]
    exact ⟨q1, q2, l, _, p13.mv q3, (q3.1 26 (by decide) (by decide)).trans h26, by omega, q4, by rw [hx]; rfl, fun b r' q => by rw [hx] at q; cases q⟩
  | some r1 =>
    obtain ⟨e1, e2, e3⟩ := hsome r1 h40
    subst e1
    subst e3
    rw [e2] at hc
    subst hc
    exact rn_35 E mo hm w sg sg3 d f n G hd hG r r1 h40 p13 h26 hn c3
theorem p_readInner (E : ZE) (mo : Nat) (hm : E.2.2.2.2 = some mo) (w : ZW) (sg : ZM) (d f n G : Nat) (hd : 9 ≤ d) (hG : G + 1 < 128) (r : List Nat) (h21 : mi sg 21 = nI n) (h26 : mi sg 26 = nI G) (hn : n + r.length ≤ 125) (h : cuG sg f r) : CallQ E MX10_readInner [.ref mo] w sg d 0 0 (rnQ sg f n G r w) := by
  have h1 : cuG (msi sg 26 (nI (G + 1))) f r := h.m26
  have p1 : grG sg (msi sg 26 (nI (G + 1))) n [] := ⟨fun j _ _ _ q => by rw [mi_msi, if_neg q], by rw [mi_msi, if_neg (by decide)]; exact h21, fun j i _ => rfl, fun i q hq => (by cases hq), rfl⟩
  have i26 : mi (msi sg 26 (nI (G + 1))) 26 = nI (G + 1) := by rw [mi_msi, if_pos rfl]
  obtain ⟨sg1, hsg1⟩ : ∃ y, y = msi sg 26 (nI (G + 1)) := ⟨_, rfl⟩
  rw [← hsg1] at h1 p1 i26
  refine CallQ.of rfl (by simp [Value.category]) (Nat.le_of_ble_eq_true rfl) ?_
  refine r_aload_n dX10_readInner_0 rfl (zRv_ref _) rfl ?_
  refine r_dup dX10_readInner_1 (by first | rfl | exact zcat_rf _) rfl ?_
  refine m_getiv hm 26 lfX10_208 rfl (by first | (simp only [zGS, zMS, Nat.reduceEqDiff, OfNat.ofNat_ne_ofNat, false_and, and_false, true_and, and_true, and_self, if_true, if_false, ite_true, ite_false, reduceIte, reduceCtorEq]; first | done | assumption | rfl) | assumption | exact z2_eq | exact z1_eq | (simp [zGS, zMS]; first | done | assumption) | rfl) dX10_readInner_2 rfl ?_
  refine r_iconst dX10_readInner_5 kc_1 rfl ?_
  refine r_iaddN dX10_readInner_6 rfl ?_
  refine m_puti hm 26 lfX10_208 rfl rfl rfl dX10_readInner_7 rfl ?_
  rw [← hsg1]
  refine r_aload_n dX10_readInner_10 rfl (zRv_ref _) rfl ?_
  refine r_bipush dX10_readInner_11 kb_40 rfl ?_
  refine r_callV MX10_expect 1 [_] lvX10_188 (Or.inr (Or.inl ⟨hm, rfl⟩)) (o_expect E mo hm w sg1 (d - 1) f 40 790 (by decide) (by omega) (by decide) (some r) (cuO.z h1)) rfl rfl (by first | exact Nat.le_of_ble_eq_true rfl | (simp [zcat_rf, Value.category]; done)) (by omega) (Nat.le_of_eq (Nat.zero_add _)) (Nat.le_of_eq (Nat.zero_add _)) dX10_readInner_13 rfl (fun v_ w_ sg_ hq_ => ?_)
  obtain ⟨rfl, rfl, v2, c2⟩ := hq_
  obtain ⟨sg2, hsg2⟩ : ∃ y, y = sg_ := ⟨_, rfl⟩
  subst hsg2
  have c2' : cuO sg2 f 790 (pCh 40 r) := c2
  have j26 : mi sg2 26 = nI (G + 1) := (v2.1 26 (by decide) (by decide)).trans i26
  have j21 : mi sg2 21 = nI n := (v2.1 21 (by decide) (by decide)).trans p1.2.1
  refine r_aload_n dX10_readInner_16 rfl (zRv_ref _) rfl ?_
  refine r_aload_n dX10_readInner_17 rfl (zRv_ref _) rfl ?_
  refine m_getiv hm 26 lfX10_208 rfl (by first | (simp only [zGS, zMS, Nat.reduceEqDiff, OfNat.ofNat_ne_ofNat, false_and, and_false, true_and, and_true, and_self, if_true, if_false, ite_true, ite_false, reduceIte, reduceCtorEq]; first | done | assumption | rfl) | assumption | exact z2_eq | exact z1_eq | (simp [zGS, zMS]; first | done | assumption) | rfl) dX10_readInner_18 rfl ?_
  refine r_callV MX10_readHead 1 [_] lvX10_211 (Or.inr (Or.inl ⟨hm, rfl⟩)) (o_readHead E mo hm w sg2 (d - 1) f 788 n (G + 1) (by omega) (by decide) (by omega) (pCh 40 r) j21 c2') rfl rfl (by first | exact Nat.le_of_ble_eq_true rfl | (simp [zcat_rf, Value.category]; done)) (by omega) (Nat.le_of_eq (Nat.zero_add _)) (Nat.le_of_eq (Nat.zero_add _)) dX10_readInner_21 rfl (fun v_ w_ sg_ hq_ => ?_)
  obtain ⟨rfl, l, b, o3, hl, rfl, p3, c3, hnone, hsome⟩ := hq_
  obtain ⟨sg3, hsg3⟩ : ∃ y, y = sg_ := ⟨_, rfl⟩
  subst hsg3
  have k26 : mi sg3 26 = nI (G + 1) := (p3.1 26 (by decide) (by decide) (by decide)).trans j26
  have p13 : grG sg sg3 n l := (p1.mv v2).nil p3.g
  refine r_if_eqB (r := 31) dX10_readInner_24 (by decide) rfl (fun c_24 => ?_) (fun c_24 => ?_)
  · refine r_iconst dX10_readInner_31 kc_0 rfl ?_
    refine r_istore_n (ls' := [_, _, _]) dX10_readInner_32 (Nat.le_of_ble_eq_true rfl) rfl rfl ?_
    refine r_iconst dX10_readInner_33 kc_0 rfl ?_
    refine r_istore_n (ls' := [_, _, _]) dX10_readInner_34 (Nat.le_of_ble_eq_true rfl) rfl rfl ?_
    exact rn_35x E mo hm w sg sg3 d f n G 0 hd hG r l b o3 hl (by rw [c_24]; rfl) p13 k26 hn c3 hnone hsome
  · refine r_iconst dX10_readInner_27 kc_1 rfl ?_
    refine r_goto (r := 32) dX10_readInner_28 (by decide) ?_
    refine r_istore_n (ls' := [_, _, _]) dX10_readInner_32 (Nat.le_of_ble_eq_true rfl) rfl rfl ?_
    refine r_iconst dX10_readInner_33 kc_0 rfl ?_
    refine r_istore_n (ls' := [_, _, _]) dX10_readInner_34 (Nat.le_of_ble_eq_true rfl) rfl rfl ?_
    exact rn_35x E mo hm w sg sg3 d f n G 1 hd hG r l b o3 hl (by rw [c_24]; rfl) p13 k26 hn c3 hnone hsome
