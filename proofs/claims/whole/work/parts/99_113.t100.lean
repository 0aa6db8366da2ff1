/-! ===== the model: beginsPart, readPart ===== -/
theorem p_beginsPart (E : ZE) (mo : Nat) (hm : E.2.2.2.2 = some mo) (w : ZW) (sg : ZM) (d f : Nat) (hd : 1 ≤ d) (r : List Nat) (h : cuG sg f r) : CallQ E MX10_beginsPart [.ref mo] w sg d 0 0 (fun v w' sg' => v = some (.int (zb (isPS (hdN r)))) ∧ w = w' ∧ sg = sg') := by
  have hl := p_look E mo hm w sg (d - 1) f r h
  have h7 : hdN r < 128 := by
    obtain ⟨a, -, -, -, -, -, -, h7⟩ := h
    cases r with
    | nil => exact (by decide : 0 < 128)
    | cons c r => exact (h7 c List.mem_cons_self).2
  refine CallQ.of rfl (by simp [Value.category]) (Nat.le_of_ble_eq_true rfl) ?_
  unfold isPS
  refine r_aload_n dX10_beginsPart_0 rfl (zRv_ref _) rfl ?_
  refine r_callV MX10_look 0 [] lvX10_172 (Or.inr (Or.inl ⟨hm, rfl⟩)) (hl) rfl rfl (by first | exact Nat.le_of_ble_eq_true rfl | (simp [zcat_rf, Value.category]; done)) (by omega) (Nat.le_of_eq (Nat.zero_add _)) (Nat.le_of_eq (Nat.zero_add _)) dX10_beginsPart_1 rfl (fun v_ w_ sg_ hq_ => ?_)
  obtain ⟨rfl, rfl, rfl⟩ := hq_
  refine r_bipush dX10_beginsPart_4 kb_35 rfl ?_
  refine r_icmp_eqN (by omega) (by omega) (r := 27) dX10_beginsPart_6 (by decide) rfl (fun c_6 => ?_) (fun c_6 => ?_)
  · refine r_iconst dX10_beginsPart_27 kc_1 rfl ?_
    refine r_goto (r := 32) dX10_beginsPart_28 (by decide) ?_
    refine r_zret .boolean rfl rfl dX10_beginsPart_32 ?_
    rw [decide_eq_true (p := hdN r = 35 ∨ hdN r = 46 ∨ hdN r = 58) (by omega)]
    exact ⟨rfl, rfl, rfl⟩
  · refine r_aload_n dX10_beginsPart_9 rfl (zRv_ref _) rfl ?_
    refine r_callV MX10_look 0 [] lvX10_172 (Or.inr (Or.inl ⟨hm, rfl⟩)) (hl) rfl rfl (by first | exact Nat.le_of_ble_eq_true rfl | (simp [zcat_rf, Value.category]; done)) (by omega) (Nat.le_of_eq (Nat.zero_add _)) (Nat.le_of_eq (Nat.zero_add _)) dX10_beginsPart_10 rfl (fun v_ w_ sg_ hq_ => ?_)
    obtain ⟨rfl, rfl, rfl⟩ := hq_
    refine r_bipush dX10_beginsPart_13 kb_46 rfl ?_
    refine r_icmp_eqN (by omega) (by omega) (r := 27) dX10_beginsPart_15 (by decide) rfl (fun c_15 => ?_) (fun c_15 => ?_)
    · refine r_iconst dX10_beginsPart_27 kc_1 rfl ?_
      refine r_goto (r := 32) dX10_beginsPart_28 (by decide) ?_
      refine r_zret .boolean rfl rfl dX10_beginsPart_32 ?_
      rw [decide_eq_true (p := hdN r = 35 ∨ hdN r = 46 ∨ hdN r = 58) (by omega)]
      exact ⟨rfl, rfl, rfl⟩
    · refine r_aload_n dX10_beginsPart_18 rfl (zRv_ref _) rfl ?_
      refine r_callV MX10_look 0 [] lvX10_172 (Or.inr (Or.inl ⟨hm, rfl⟩)) (hl) rfl rfl (by first | exact Nat.le_of_ble_eq_true rfl | (simp [zcat_rf, Value.category]; done)) (by omega) (Nat.le_of_eq (Nat.zero_add _)) (Nat.le_of_eq (Nat.zero_add _)) dX10_beginsPart_19 rfl (fun v_ w_ sg_ hq_ => ?_)
      obtain ⟨rfl, rfl, rfl⟩ := hq_
      refine r_bipush dX10_beginsPart_22 kb_58 rfl ?_
      refine r_icmp_neN (by omega) (by omega) (r := 31) dX10_beginsPart_24 (by decide) rfl (fun c_24 => ?_) (fun c_24 => ?_)
      · refine r_iconst dX10_beginsPart_31 kc_0 rfl ?_
        refine r_zret .boolean rfl rfl dX10_beginsPart_32 ?_
        rw [decide_eq_false (p := hdN r = 35 ∨ hdN r = 46 ∨ hdN r = 58) (by omega)]
        exact ⟨rfl, rfl, rfl⟩
      · refine r_iconst dX10_beginsPart_27 kc_1 rfl ?_
        refine r_goto (r := 32) dX10_beginsPart_28 (by decide) ?_
        refine r_zret .boolean rfl rfl dX10_beginsPart_32 ?_
        rw [decide_eq_true (p := hdN r = 35 ∨ hdN r = 46 ∨ hdN r = 58) (by omega)]
        exact ⟨rfl, rfl, rfl⟩
theorem pSim35 (l : Nat) (r : List Nat) : pSimple 35 (l :: r) = if 97 ≤ l ∧ l ≤ 122 then some ((0, nI l, nI 0), r) else none := rfl
theorem pSim46 (l : Nat) (r : List Nat) : pSimple 46 (l :: r) = if 97 ≤ l ∧ l ≤ 104 then some ((1, nI (2 ^ (l - 97)), nI 0), r) else none := rfl
theorem pSim58 (l : Nat) (r : List Nat) : pSimple 58 (l :: r) = if l = 102 then some ((3, nI 1, nI 0), r) else if l = 108 then some ((2, nI 0, nI 0), r) else if l = 110 then pCount r else none := rfl
/-- a row of the model for a part -/
def rwR (g : Nat) (p : PPart) (q : PRow) : Prop := (p.1 = 0 ∧ q = (g, 2, p.2.1, 0)) ∨ (p.1 = 1 ∧ q = (g, 3, p.2.1, 0)) ∨ (p.1 = 2 ∧ q = (g, 5, 0, 0)) ∨ (p.1 = 3 ∧ (q = (g, 6, p.2.2, p.2.1) ∨ (p.2 = (nI 1, nI 0) ∧ q = (g, 4, 0, 0))))
def simOk (g c : Nat) (r1 : List Nat) (l : List PRow) (o : Option (List Nat)) : Prop := o = rsP (pSimple c r1) ∧ ∀ p r2, pSimple c r1 = some (p, r2) → ∃ q, l = [q] ∧ rwR g p q
def rpQ (sg : ZM) (f n g c : Nat) (r1 : List Nat) (w : ZW) : ZQ := fun v w' sg' => w = w' ∧ ∃ l b o, l.length ≤ 1 ∧ v = some (.int (zb b)) ∧ grP sg sg' n l ∧ cuO sg' f 780 o ∧ ((b = true ∧ c = 58 ∧ g = 0 ∧ r1.head? = some 120 ∧ l = [] ∧ o = some r1.tail) ∨ (b = false ∧ ¬ (c = 58 ∧ g = 0 ∧ r1.head? = some 120) ∧ simOk g c r1 l o))
theorem rp_35 (E : ZE) (mo : Nat) (hm : E.2.2.2.2 = some mo) (w : ZW) (sg sg1 : ZM) (d f n g : Nat) (hd : 4 ≤ d) (hn : n < 130) (r1 : List Nat) (h21 : mi sg 21 = nI n) (v1 : mvC sg sg1) (h : cuG sg1 f r1) (x3 : Option Value) : RW E MX10_readPart 21 [some (.ref mo), some (.int (nI g)), some (.int (nI 35)), x3] [] w sg1 d 0 0 (PN E (rpQ sg f n g 35 r1 w)) := by
  refine r_aload_n dX10_readPart_21 rfl (zRv_ref _) rfl ?_
  refine r_iload_n dX10_readPart_22 rfl rfl ?_
  refine r_iconst dX10_readPart_23 kc_2 rfl ?_
  refine r_aload_n dX10_readPart_24 rfl (zRv_ref _) rfl ?_
  refine r_bipush dX10_readPart_25 kb_122 rfl ?_
  refine r_callV MX10_letter 1 [_] lvX10_200 (Or.inr (Or.inl ⟨hm, rfl⟩)) (o_letter E mo hm w sg1 (d - 1) f 122 780 (by decide) (by decide) (by omega) (some r1) (cuO.z h)) rfl rfl (by first | exact Nat.le_of_ble_eq_true rfl | (simp [zcat_rf, Value.category]; done)) (by omega) (Nat.le_of_eq (Nat.zero_add _)) (Nat.le_of_eq (Nat.zero_add _)) dX10_readPart_27 rfl (fun v_ w_ sg_ hq_ => ?_)
  obtain ⟨⟨x, rfl, hx1, hx2, hx3, hx⟩, rfl, v2, c2⟩ := hq_
  obtain ⟨sg2, hsg2⟩ : ∃ y, y = sg_ := ⟨_, rfl⟩
  subst hsg2
  have j21 : mi sg2 21 = nI n := ((v1.tr v2).1 21 (by decide) (by decide)).trans h21
  refine r_iconst dX10_readPart_30 kc_0 rfl ?_
  refine r_callV MX10_addPart 4 [_, _, _, _] lvX10_196 (Or.inr (Or.inl ⟨hm, rfl⟩)) (o_addPart E mo hm w sg2 (d - 1) f 780 n (nI g) (nI 2) (nI x) 0 hn j21 _ c2) rfl rfl (by first | exact Nat.le_of_ble_eq_true rfl | (simp [zcat_rf, Value.category]; done)) (by omega) (Nat.le_of_eq (Nat.zero_add _)) (Nat.le_of_eq (Nat.zero_add _)) dX10_readPart_31 rfl (fun v_ w_ sg_ hq_ => ?_)
  obtain ⟨rfl, rfl, p3, c3⟩ := hq_
  refine r_goto (r := 156) dX10_readPart_34 (by decide) ?_
  refine r_iconst dX10_readPart_156 kc_0 rfl ?_
  refine r_zret .boolean rfl rfl dX10_readPart_157 ?_
  refine ⟨rfl, [(g, 2, nI x, 0)], false, _, Nat.le_refl 1, rfl, (p3.mv (v1.tr v2)).gr, c3, Or.inr ⟨rfl, fun q => absurd q.1 (by decide), ?_⟩⟩
  have hxr := hx r1 rfl
  cases r1 with
  | nil => exact ⟨rfl, fun p r2 q => (by cases q)⟩
  | cons l r2 =>
    by_cases h9 : 97 ≤ l ∧ l ≤ 122
    · have e1 : pLet 122 (l :: r2) = some (l, r2) := if_pos h9
      have e2 : pSimple 35 (l :: r2) = some ((0, nI l, nI 0), r2) := by rw [pSim35, if_pos h9]
      unfold letV at hxr
      rw [e1] at hxr
      have hxl : x = l := hxr
      unfold simOk
      rw [e2]
      refine ⟨?_, fun p r9 q => ?_⟩
      · show rstO (pLet 122 (l :: r2)) = _
        rw [e1]
        rfl
      · cases q
        exact ⟨_, rfl, Or.inl ⟨rfl, by rw [hxl]⟩⟩
    · have e1 : pLet 122 (l :: r2) = none := if_neg h9
      have e2 : pSimple 35 (l :: r2) = none := by rw [pSim35, if_neg h9]
      unfold simOk
      rw [e2]
      refine ⟨?_, fun p r9 q => (by cases q)⟩
      show rstO (pLet 122 (l :: r2)) = _
      rw [e1]
      rfl
theorem rp_46 (E : ZE) (mo : Nat) (hm : E.2.2.2.2 = some mo) (w : ZW) (sg sg1 : ZM) (d f n g : Nat) (hd : 4 ≤ d) (hn : n < 130) (r1 : List Nat) (h21 : mi sg 21 = nI n) (v1 : mvC sg sg1) (h : cuG sg1 f r1) (x3 : Option Value) : RW E MX10_readPart 43 [some (.ref mo), some (.int (nI g)), some (.int (nI 46)), x3] [] w sg1 d 0 0 (PN E (rpQ sg f n g 46 r1 w)) := by
  refine r_aload_n dX10_readPart_43 rfl (zRv_ref _) rfl ?_
  refine r_iload_n dX10_readPart_44 rfl rfl ?_
  refine r_iconst dX10_readPart_45 kc_3 rfl ?_
  refine r_iconst dX10_readPart_46 kc_1 rfl ?_
  refine r_aload_n dX10_readPart_47 rfl (zRv_ref _) rfl ?_
  refine r_bipush dX10_readPart_48 kb_104 rfl ?_
  refine r_callV MX10_letter 1 [_] lvX10_200 (Or.inr (Or.inl ⟨hm, rfl⟩)) (o_letter E mo hm w sg1 (d - 1) f 104 780 (by decide) (by decide) (by omega) (some r1) (cuO.z h)) rfl rfl (by first | exact Nat.le_of_ble_eq_true rfl | (simp [zcat_rf, Value.category]; done)) (by omega) (Nat.le_of_eq (Nat.zero_add _)) (Nat.le_of_eq (Nat.zero_add _)) dX10_readPart_50 rfl (fun v_ w_ sg_ hq_ => ?_)
  obtain ⟨⟨x, rfl, hx1, hx2, hx3, hx⟩, rfl, v2, c2⟩ := hq_
  obtain ⟨sg2, hsg2⟩ : ∃ y, y = sg_ := ⟨_, rfl⟩
  subst hsg2
  have j21 : mi sg2 21 = nI n := ((v1.tr v2).1 21 (by decide) (by decide)).trans h21
  refine r_bipush dX10_readPart_53 kb_97 rfl ?_
  refine r_isubN (by omega) dX10_readPart_55 rfl ?_
  refine r_ishl dX10_readPart_56 rfl ?_
  rw [shl1 (x - 97) (by omega)]
  refine r_iconst dX10_readPart_57 kc_0 rfl ?_
  refine r_callV MX10_addPart 4 [_, _, _, _] lvX10_196 (Or.inr (Or.inl ⟨hm, rfl⟩)) (o_addPart E mo hm w sg2 (d - 1) f 780 n (nI g) (nI 3) (nI (2 ^ (x - 97))) 0 hn j21 _ c2) rfl rfl (by first | exact Nat.le_of_ble_eq_true rfl | (simp [zcat_rf, Value.category]; done)) (by omega) (Nat.le_of_eq (Nat.zero_add _)) (Nat.le_of_eq (Nat.zero_add _)) dX10_readPart_58 rfl (fun v_ w_ sg_ hq_ => ?_)
  obtain ⟨rfl, rfl, p3, c3⟩ := hq_
  refine r_goto (r := 156) dX10_readPart_61 (by decide) ?_
  refine r_iconst dX10_readPart_156 kc_0 rfl ?_
  refine r_zret .boolean rfl rfl dX10_readPart_157 ?_
  refine ⟨rfl, [(g, 3, nI (2 ^ (x - 97)), 0)], false, _, Nat.le_refl 1, rfl, (p3.mv (v1.tr v2)).gr, c3, Or.inr ⟨rfl, fun q => absurd q.1 (by decide), ?_⟩⟩
  have hxr := hx r1 rfl
  cases r1 with
  | nil => exact ⟨rfl, fun p r2 q => (by cases q)⟩
  | cons l r2 =>
    by_cases h9 : 97 ≤ l ∧ l ≤ 104
    · have e1 : pLet 104 (l :: r2) = some (l, r2) := if_pos h9
      have e2 : pSimple 46 (l :: r2) = some ((1, nI (2 ^ (l - 97)), nI 0), r2) := by rw [pSim46, if_pos h9]
      unfold letV at hxr
      rw [e1] at hxr
      have hxl : x = l := hxr
      unfold simOk
      rw [e2]
      refine ⟨?_, fun p r9 q => ?_⟩
      · show rstO (pLet 104 (l :: r2)) = _
        rw [e1]
        rfl
      · cases q
        exact ⟨_, rfl, Or.inr (Or.inl ⟨rfl, by rw [hxl]⟩)⟩
    · have e1 : pLet 104 (l :: r2) = none := if_neg h9
      have e2 : pSimple 46 (l :: r2) = none := by rw [pSim46, if_neg h9]
      unfold simOk
      rw [e2]
      refine ⟨?_, fun p r9 q => (by cases q)⟩
      show rstO (pLet 104 (l :: r2)) = _
      rw [e1]
      rfl
