/-! ===== the model: what stands inside :x(..) ===== -/
theorem pc73_len {x y : Option Nat} {s : Bool} {g : Int32} {r r' : List Nat} {p : PPart} (h : pc73 x y s g r = some (p, r')) : r'.length + 1 ≤ r.length := by
  unfold pc73 at h
  split at h
  · rename_i h1
    cases h
    have := pCh_len h1
    omega
  · cases h
theorem pc18_len {x : Option Nat} {r r' : List Nat} {p : PPart} (h : pc18 x r = some (p, r')) : r'.length + 1 ≤ r.length := by
  unfold pc18 at h
  split at h
  · exact pc73_len h
  · rename_i r1 h1
    have l1 := pCh_len h1
    split at h
    · rename_i r2 h2
      have l2 := pCh_len h2
      split at h
      · have := pc73_len h; omega
      · rename_i y r3 h3
        have := pc73_len h
        have := (pDig_len h3).1
        omega
    · split at h
      · rename_i r2 h2
        have l2 := pCh_len h2
        split at h
        · have := pc73_len h; omega
        · rename_i y r3 h3
          have := pc73_len h
          have := (pDig_len h3).1
          omega
      · have := pc73_len h; omega
theorem pCount_len {r r' : List Nat} {p : PPart} (h : pCount r = some (p, r')) : r'.length + 1 ≤ r.length := by
  unfold pCount at h
  split at h
  · cases h
  · rename_i r1 h1
    have l1 := pCh_len h1
    split at h
    · cases h
    · rename_i x r2 h2
      have l2 := (pDig_len h2).1
      have := pc18_len h
      omega
theorem pSimple_len {c : Nat} {r r' : List Nat} {p : PPart} (h : pSimple c r = some (p, r')) : r'.length + 1 ≤ r.length := by
  unfold pSimple at h
  split at h
  · cases h
  · rename_i l r1
    have key : ∀ q : PPart, some (q, r1) = some (p, r') → r'.length + 1 ≤ (l :: r1).length := fun q h => by
      have h' := Option.some.inj h
      have e2 : r1 = r' := congrArg Prod.snd h'
      subst e2
      simp
    split at h
    · split at h
      · exact key _ h
      · cases h
    · split at h
      · split at h
        · exact key _ h
        · cases h
      · split at h
        · exact key _ h
        · split at h
          · exact key _ h
          · split at h
            · have := pCount_len h
              simp
              omega
            · cases h
/-- rows for parts, the last part first -/
def rwL (g : Nat) : List PPart → List PRow → Prop
  | [], l => l = []
  | p :: ps, l => ∃ l0 q, l = l0 ++ [q] ∧ rwL g ps l0 ∧ rwR g p q
/-- as grP; the count of groups may have changed too -/
def grG (sg sg' : ZM) (n : Nat) (l : List PRow) : Prop := (∀ j, j ≠ 14 → j ≠ 15 → j ≠ 21 → j ≠ 26 → mi sg' j = mi sg j) ∧ mi sg' 21 = nI (n + l.length) ∧ (∀ j i, ¬ (13 ≤ j ∧ j ≤ 16 ∧ n ≤ i) → ma sg' j i = ma sg j i) ∧ (∀ i q, l[i]? = some q → ma sg' 13 (n + i) = nI q.1 ∧ ma sg' 14 (n + i) = nI q.2.1 ∧ ma sg' 15 (n + i) = q.2.2.1 ∧ ma sg' 16 (n + i) = q.2.2.2) ∧ mg sg' = mg sg
theorem grP.g {sg sg' : ZM} {n : Nat} {l : List PRow} (h : grP sg sg' n l) : grG sg sg' n l := ⟨fun j a b c _ => h.1 j a b c, h.2⟩
theorem grG.tr {a b c : ZM} {n : Nat} {l1 l2 : List PRow} (h : grG a b n l1) (g : grG b c (n + l1.length) l2) : grG a c n (l1 ++ l2) := by
  obtain ⟨h1, h2, h3, h4, h5⟩ := h
  obtain ⟨g1, g2, g3, g4, g5⟩ := g
  refine ⟨fun j x y z u => (g1 j x y z u).trans (h1 j x y z u), by rw [List.length_append, ← Nat.add_assoc]; exact g2, fun j i q => (g3 j i (fun z => q ⟨z.1, z.2.1, by omega⟩)).trans (h3 j i q), fun i q hq => ?_, g5.trans h5⟩
  rcases Nat.lt_or_ge i l1.length with c9 | c9
  · rw [List.getElem?_append_left c9] at hq
    obtain ⟨e1, e2, e3, e4⟩ := h4 i q hq
    have k : ∀ j, ma c j (n + i) = ma b j (n + i) := fun j => g3 j (n + i) (fun z => by omega)
    exact ⟨(k _).trans e1, (k _).trans e2, (k _).trans e3, (k _).trans e4⟩
  · rw [List.getElem?_append_right c9] at hq
    have := g4 (i - l1.length) q hq
    rw [show n + l1.length + (i - l1.length) = n + i by omega] at this
    exact this
theorem mvC.g {sg sg' : ZM} {n : Nat} (h : mvC sg sg') (h21 : mi sg 21 = nI n) : grG sg sg' n [] := (h.gr h21).g
theorem grG.nil {a b c : ZM} {n : Nat} {l : List PRow} (h : grG a b n []) (g : grG b c n l) : grG a c n l := by
  have := h.tr (l2 := l) (c := c) (by rw [List.length_nil, Nat.add_zero]; exact g)
  rw [List.nil_append] at this
  exact this
theorem grG.mv {a b c : ZM} {n : Nat} {l : List PRow} (h : grG a b n l) (g : mvC b c) : grG a c n l := by
  have := h.tr (l2 := []) (c := c) (g.g h.2.1)
  rw [List.append_nil] at this
  exact this
/-- how the loop of parts ends -/
def ipQ (sg : ZM) (f n g : Nat) (l0 : List PRow) (ps0 : List PPart) (o0 : Bool) (j : Nat) (r : List Nat) (l : List PRow) (cnt : Nat) (o : Option (List Nat)) : Prop := (o = none ∧ (pOutL none j ps0 [] o0 r = none ∨ ∃ ps es o2 r2, pOutL none j ps0 [] o0 r = some (ps, es, o2, r2) ∧ isPS (hdN r2) = true)) ∨ ∃ ps o2 r2, o = some r2 ∧ pOutL none j ps0 [] o0 r = some (ps, [], o2, r2) ∧ isPS (hdN r2) = false ∧ (o2 = true ↔ 0 < cnt) ∧ rwL g ps (l0 ++ l) ∧ l.length + r2.length ≤ r.length
theorem ri_88 (E : ZE) (mo : Nat) (hm : E.2.2.2.2 = some mo) (w : ZW) (sg : ZM) (d f cnt m : Nat) (hd : 3 ≤ d) (hm9 : m ≤ 800) (hcn : cnt < 100) (o : Option (List Nat)) (x2 : Value) (h : cuO sg f (m + 1) o) : RW E MX10_readInner 88 [some (.ref mo), some (.int (nI cnt)), some x2] [] w sg d 0 0 (PN E (fun v w' sg' => v = none ∧ w = w' ∧ mvC sg sg' ∧ cuO sg' f m (bndO o fun r => if 0 < cnt then pCh 41 r else none))) := by
  have hmust := fun b => o_must E mo hm w sg (d - 1) f (m + 1) (by omega) b o h
  have h1 := hmust true
  have h0 := hmust false
  refine r_aload_n dX10_readInner_88 rfl (zRv_ref _) rfl ?_
  refine r_iload_n dX10_readInner_89 rfl rfl ?_
  refine r_if_leN (by omega) (r := 97) dX10_readInner_90 (by decide) rfl (fun c_90 => ?_) (fun c_90 => ?_)
  · refine r_iconst dX10_readInner_97 kc_0 rfl ?_
    refine r_callV MX10_must 1 [_] lvX10_180 (Or.inr (Or.inl ⟨hm, rfl⟩)) (h0) rfl rfl (by first | exact Nat.le_of_ble_eq_true rfl | (simp [zcat_rf, Value.category]; done)) (by omega) (Nat.le_of_eq (Nat.zero_add _)) (Nat.le_of_eq (Nat.zero_add _)) dX10_readInner_98 rfl (fun v_ w_ sg_ hq_ => ?_)
    obtain ⟨rfl, rfl, v1, c1⟩ := hq_
    obtain ⟨sg1, hsg1⟩ : ∃ y, y = sg_ := ⟨_, rfl⟩
    subst hsg1
    refine r_aload_n dX10_readInner_101 rfl (zRv_ref _) rfl ?_
    refine r_bipush dX10_readInner_102 kb_41 rfl ?_
    refine r_callV MX10_expect 1 [_] lvX10_188 (Or.inr (Or.inl ⟨hm, rfl⟩)) (o_expect E mo hm w sg1 (d - 1) f 41 m (by omega) (by omega) (by decide) _ c1) rfl rfl (by first | exact Nat.le_of_ble_eq_true rfl | (simp [zcat_rf, Value.category]; done)) (by omega) (Nat.le_of_eq (Nat.zero_add _)) (Nat.le_of_eq (Nat.zero_add _)) dX10_readInner_104 rfl (fun v_ w_ sg_ hq_ => ?_)
    obtain ⟨rfl, rfl, v2, c2⟩ := hq_
    refine r_vret rfl dX10_readInner_107 ?_
    refine ⟨rfl, rfl, v1.tr v2, ?_⟩
    have e : (bndO (bndO o fun r => if false = true then some r else none) (pCh 41)) = (bndO o fun r => if 0 < cnt then pCh 41 r else none) := by
      cases o with
      | none => rfl
      | some r => show none = (if 0 < cnt then pCh 41 r else none); rw [if_neg (by omega)]
    rw [← e]
    exact c2
  · refine r_iconst dX10_readInner_93 kc_1 rfl ?_
    refine r_goto (r := 98) dX10_readInner_94 (by decide) ?_
    refine r_callV MX10_must 1 [_] lvX10_180 (Or.inr (Or.inl ⟨hm, rfl⟩)) (h1) rfl rfl (by first | exact Nat.le_of_ble_eq_true rfl | (simp [zcat_rf, Value.category]; done)) (by omega) (Nat.le_of_eq (Nat.zero_add _)) (Nat.le_of_eq (Nat.zero_add _)) dX10_readInner_98 rfl (fun v_ w_ sg_ hq_ => ?_)
    obtain ⟨rfl, rfl, v1, c1⟩ := hq_
    obtain ⟨sg1, hsg1⟩ : ∃ y, y = sg_ := ⟨_, rfl⟩
    subst hsg1
    refine r_aload_n dX10_readInner_101 rfl (zRv_ref _) rfl ?_
    refine r_bipush dX10_readInner_102 kb_41 rfl ?_
    refine r_callV MX10_expect 1 [_] lvX10_188 (Or.inr (Or.inl ⟨hm, rfl⟩)) (o_expect E mo hm w sg1 (d - 1) f 41 m (by omega) (by omega) (by decide) _ c1) rfl rfl (by first | exact Nat.le_of_ble_eq_true rfl | (simp [zcat_rf, Value.category]; done)) (by omega) (Nat.le_of_eq (Nat.zero_add _)) (Nat.le_of_eq (Nat.zero_add _)) dX10_readInner_104 rfl (fun v_ w_ sg_ hq_ => ?_)
    obtain ⟨rfl, rfl, v2, c2⟩ := hq_
    refine r_vret rfl dX10_readInner_107 ?_
    refine ⟨rfl, rfl, v1.tr v2, ?_⟩
    have e : (bndO (bndO o fun r => if true = true then some r else none) (pCh 41)) = (bndO o fun r => if 0 < cnt then pCh 41 r else none) := by
      cases o with
      | none => rfl
      | some r => show pCh 41 r = (if 0 < cnt then pCh 41 r else none); rw [if_pos (by omega)]
    rw [← e]
    exact c2
