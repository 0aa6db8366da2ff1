/-! ===== the model: readHead, beginsPart ===== -/
abbrev PRow : Type := Nat × Nat × Int32 × Int32
/-- the rows l stand behind the first n parts -/
def grP (sg sg' : ZM) (n : Nat) (l : List PRow) : Prop := (∀ j, j ≠ 14 → j ≠ 15 → j ≠ 21 → mi sg' j = mi sg j) ∧ mi sg' 21 = nI (n + l.length) ∧ (∀ j i, ¬ (13 ≤ j ∧ j ≤ 16 ∧ n ≤ i) → ma sg' j i = ma sg j i) ∧ (∀ i q, l[i]? = some q → ma sg' 13 (n + i) = nI q.1 ∧ ma sg' 14 (n + i) = nI q.2.1 ∧ ma sg' 15 (n + i) = q.2.2.1 ∧ ma sg' 16 (n + i) = q.2.2.2) ∧ mg sg' = mg sg
theorem mvC.gr {sg sg' : ZM} {n : Nat} (h : mvC sg sg') (h21 : mi sg 21 = nI n) : grP sg sg' n [] := ⟨fun j a b _ => h.1 j a b, (h.1 21 (by decide) (by decide)).trans h21, fun j i _ => by rw [h.2.1], fun i q hq => (by cases hq), h.2.2⟩
theorem adP.gr {sg sg' : ZM} {n g k : Nat} {x y : Int32} (h : adP sg sg' n (nI g) (nI k) x y) : grP sg sg' n [(g, k, x, y)] := by
  obtain ⟨h1, h2, h3, h4, h5⟩ := h
  refine ⟨h1, h2, fun j i q => h3 j i (fun z => q ⟨z.1, z.2.1, by omega⟩), fun i q hq => ?_, h5⟩
  cases i with
  | zero => cases hq; exact h4
  | succ i => simp at hq
theorem grP.tr {a b c : ZM} {n : Nat} {l1 l2 : List PRow} (h : grP a b n l1) (g : grP b c (n + l1.length) l2) : grP a c n (l1 ++ l2) := by
  obtain ⟨h1, h2, h3, h4, h5⟩ := h
  obtain ⟨g1, g2, g3, g4, g5⟩ := g
  refine ⟨fun j x y z => (g1 j x y z).trans (h1 j x y z), by rw [List.length_append, ← Nat.add_assoc]; exact g2, fun j i q => (g3 j i (fun z => q ⟨z.1, z.2.1, by omega⟩)).trans (h3 j i q), fun i q hq => ?_, g5.trans h5⟩
  rcases Nat.lt_or_ge i l1.length with c9 | c9
  · rw [List.getElem?_append_left c9] at hq
    obtain ⟨e1, e2, e3, e4⟩ := h4 i q hq
    have k : ∀ j, ma c j (n + i) = ma b j (n + i) := fun j => g3 j (n + i) (fun z => by omega)
    exact ⟨(k _).trans e1, (k _).trans e2, (k _).trans e3, (k _).trans e4⟩
  · rw [List.getElem?_append_right c9] at hq
    have := g4 (i - l1.length) q hq
    rw [show n + l1.length + (i - l1.length) = n + i by omega] at this
    exact this
def hdRow (g t : Nat) (b : Bool) : List PRow := if b = true then (if t = 0 then [(g, 0, 0, 0)] else [(g, 1, nI t, 0)]) else []
def hdQ (sg : ZM) (f m n g : Nat) (o : Option (List Nat)) (w : ZW) : ZQ := fun v w' sg' => w = w' ∧ ∃ l b o', l.length ≤ 1 ∧ v = some (.int (zb b)) ∧ grP sg sg' n l ∧ cuO sg' f m o' ∧ (o = none → o' = none) ∧ ∀ r, o = some r → o' = some (pHead r).2.2 ∧ b = (pHead r).2.1 ∧ l = hdRow g (pHead r).1 (pHead r).2.1
theorem pHead_star {r r1 : List Nat} (h : pCh 42 r = some r1) : pHead r = (0, true, r1) := by
  have := pCh_eq h
  subst this
  rfl
theorem pHead_let {r r1 : List Nat} {c : Nat} (h0 : pCh 42 r = none) (h : pLet 122 r = some (c, r1)) : pHead r = (c, true, r1) ∧ c ≠ 0 := by
  cases r with
  | nil => cases h
  | cons x r =>
    have h2 : ¬ x = 42 := fun q => by have : pCh 42 (x :: r) = some r := if_pos q; rw [this] at h0; cases h0
    by_cases hx : 97 ≤ x ∧ x ≤ 122
    · have e : pLet 122 (x :: r) = some (x, r) := if_pos hx
      rw [e] at h
      have h' := Option.some.inj h
      have e1 : x = c := congrArg Prod.fst h'
      have e2 : r = r1 := congrArg Prod.snd h'
      subst e1
      subst e2
      refine ⟨?_, by omega⟩
      show (if x = 42 then (0, true, r) else if 97 ≤ x ∧ x ≤ 122 then (x, true, r) else (0, false, x :: r)) = _
      rw [if_neg h2, if_pos hx]
    · have e : pLet 122 (x :: r) = none := if_neg hx
      rw [e] at h
      cases h
theorem pHead_none {r : List Nat} (h0 : pCh 42 r = none) (h : inN (hdN r) 97 122 = false) : pHead r = (0, false, r) := by
  cases r with
  | nil => rfl
  | cons x r =>
    have h2 : ¬ x = 42 := fun q => by have : pCh 42 (x :: r) = some r := if_pos q; rw [this] at h0; cases h0
    have h3 : ¬ (97 ≤ x ∧ x ≤ 122) := of_decide_eq_false h
    show (if x = 42 then (0, true, r) else if 97 ≤ x ∧ x ≤ 122 then (x, true, r) else (0, false, x :: r)) = _
    rw [if_neg h2, if_neg h3]
theorem rh_6t (E : ZE) (mo : Nat) (hm : E.2.2.2.2 = some mo) (w : ZW) (sg sg1 : ZM) (d f m n g : Nat) (hd : 4 ≤ d) (hm9 : m ≤ 800) (hn : n < 130) (o : Option (List Nat)) (h21 : mi sg 21 = nI n) (v1 : mvC sg sg1) (hb : ∀ r, o = some r → true = (pCh 42 r).isSome) (c1 : cuO sg1 f (m + 1) (bndO o fun r => some ((pCh 42 r).getD r))) : RW E MX10_readHead 6 [some (.ref mo), some (.int (nI g)), none, none] [.int (zb true)] w sg1 d 0 0 (PN E (hdQ sg f m n g o w)) := by
  have i21 : mi sg1 21 = nI n := (v1.1 21 (by decide) (by decide)).trans h21
  refine r_istore_n (ls' := [_, _, _, _]) dX10_readHead_6 (Nat.le_of_ble_eq_true rfl) rfl rfl ?_
  refine r_iload_n dX10_readHead_7 rfl rfl ?_
  refine r_if_eqB (r := 19) dX10_readHead_8 (by decide) rfl (fun c_8 => ?_) (fun c_8 => ?_)
  · cases c_8
  · refine r_aload_n dX10_readHead_11 rfl (zRv_ref _) rfl ?_
    refine r_iload_n dX10_readHead_12 rfl rfl ?_
    refine r_iconst dX10_readHead_13 kc_0 rfl ?_
    refine r_iconst dX10_readHead_14 kc_0 rfl ?_
    refine r_iconst dX10_readHead_15 kc_0 rfl ?_
    refine r_callV MX10_addPart 4 [_, _, _, _] lvX10_196 (Or.inr (Or.inl ⟨hm, rfl⟩)) (o_addPart E mo hm w sg1 (d - 1) f (m + 1) n (nI g) (nI 0) 0 0 hn i21 _ c1) rfl rfl (by first | exact Nat.le_of_ble_eq_true rfl | (simp [zcat_rf, Value.category]; done)) (by omega) (Nat.le_of_eq (Nat.zero_add _)) (Nat.le_of_eq (Nat.zero_add _)) dX10_readHead_16 rfl (fun v_ w_ sg_ hq_ => ?_)
    obtain ⟨rfl, rfl, p2, c2⟩ := hq_
    obtain ⟨sg2, hsg2⟩ : ∃ y, y = sg_ := ⟨_, rfl⟩
    subst hsg2
    refine r_iload_n dX10_readHead_19 rfl rfl ?_
    refine r_if_neB (r := 41) dX10_readHead_20 (by decide) rfl (fun c_20 => ?_) (fun c_20 => ?_)
    · refine r_iconst dX10_readHead_41 kc_0 rfl ?_
      refine r_istore_n (ls' := [_, _, _, _]) dX10_readHead_42 (Nat.le_of_ble_eq_true rfl) rfl rfl ?_
      refine r_iload_n dX10_readHead_43 rfl rfl ?_
      refine r_if_eqN (by omega) (r := 60) dX10_readHead_44 (by decide) rfl (fun c_44 => ?_) (fun c_44 => ?_)
      · refine r_iload_n dX10_readHead_60 rfl rfl ?_
        refine r_if_neB (r := 68) dX10_readHead_61 (by decide) rfl (fun c_61 => ?_) (fun c_61 => ?_)
        · refine r_iconst dX10_readHead_68 kc_1 rfl ?_
          refine r_goto (r := 73) dX10_readHead_69 (by decide) ?_
          refine r_zret .boolean rfl rfl dX10_readHead_73 ?_
          refine ⟨rfl, [(g, 0, 0, 0)], true, _, Nat.le_refl 1, rfl, (p2.mv v1).gr, c2.mono (by omega), fun q => by rw [q]; rfl, fun r hr => ?_⟩
          obtain ⟨r1, h1⟩ := isS_get (hb r hr)
          rw [hr, pHead_star h1]
          refine ⟨?_, rfl, rfl⟩
          show some ((pCh 42 r).getD r) = _
          rw [h1]
          rfl
        · cases c_61
      · exact absurd rfl c_44
    · cases c_20
theorem rh_6f (E : ZE) (mo : Nat) (hm : E.2.2.2.2 = some mo) (w : ZW) (sg sg1 : ZM) (d f m n g : Nat) (hd : 4 ≤ d) (hm9 : m ≤ 800) (hn : n < 130) (o : Option (List Nat)) (h21 : mi sg 21 = nI n) (v1 : mvC sg sg1) (hb : ∀ r, o = some r → false = (pCh 42 r).isSome) (c1 : cuO sg1 f (m + 1) (bndO o fun r => some ((pCh 42 r).getD r))) : RW E MX10_readHead 6 [some (.ref mo), some (.int (nI g)), none, none] [.int (zb false)] w sg1 d 0 0 (PN E (hdQ sg f m n g o w)) := by
  have i21 : mi sg1 21 = nI n := (v1.1 21 (by decide) (by decide)).trans h21
  have ho : (bndO o fun r => some ((pCh 42 r).getD r)) = o := by
    cases o with
    | none => rfl
    | some r =>
      show some ((pCh 42 r).getD r) = _
      rw [isN_get (hb r rfl)]
      rfl
  rw [ho] at c1
  refine r_istore_n (ls' := [_, _, _, _]) dX10_readHead_6 (Nat.le_of_ble_eq_true rfl) rfl rfl ?_
  refine r_iload_n dX10_readHead_7 rfl rfl ?_
  refine r_if_eqB (r := 19) dX10_readHead_8 (by decide) rfl (fun c_8 => ?_) (fun c_8 => ?_)
  · refine r_iload_n dX10_readHead_19 rfl rfl ?_
    refine r_if_neB (r := 41) dX10_readHead_20 (by decide) rfl (fun c_20 => ?_) (fun c_20 => ?_)
    · cases c_20
    · refine r_aload_n dX10_readHead_23 rfl (zRv_ref _) rfl ?_
      refine r_callV MX10_look 0 [] lvX10_172 (Or.inr (Or.inl ⟨hm, rfl⟩)) (o_look E mo hm w sg1 (d - 1) f (m + 1) o c1) rfl rfl (by first | exact Nat.le_of_ble_eq_true rfl | (simp [zcat_rf, Value.category]; done)) (by omega) (Nat.le_of_eq (Nat.zero_add _)) (Nat.le_of_eq (Nat.zero_add _)) dX10_readHead_24 rfl (fun v_ w_ sg_ hq_ => ?_)
      obtain ⟨c, rfl, hc9, hc, rfl, rfl⟩ := hq_
      refine r_bipush dX10_readHead_27 kb_97 rfl ?_
      refine r_bipush dX10_readHead_29 kb_122 rfl ?_
      refine r_callS MX10_outside 3 [_, _, _] lsX10_140 (q_outside E w sg1 (d - 1) c 97 122 (by omega) (by decide) (by decide)) rfl rfl (by first | exact Nat.le_of_ble_eq_true rfl | (simp [zcat_rf, Value.category]; done)) (by omega) (Nat.le_of_eq (Nat.zero_add _)) (Nat.le_of_eq (Nat.zero_add _)) dX10_readHead_31 rfl (fun v_ w_ sg_ hq_ => ?_)
      obtain ⟨rfl, rfl, rfl⟩ := hq_
      refine r_if_neB (r := 41) dX10_readHead_34 (by decide) rfl (fun c_34 => ?_) (fun c_34 => ?_)
      · refine r_iconst dX10_readHead_41 kc_0 rfl ?_
        refine r_istore_n (ls' := [_, _, _, _]) dX10_readHead_42 (Nat.le_of_ble_eq_true rfl) rfl rfl ?_
        refine r_iload_n dX10_readHead_43 rfl rfl ?_
        refine r_if_eqN (by omega) (r := 60) dX10_readHead_44 (by decide) rfl (fun c_44 => ?_) (fun c_44 => ?_)
        · refine r_iload_n dX10_readHead_60 rfl rfl ?_
          refine r_if_neB (r := 68) dX10_readHead_61 (by decide) rfl (fun c_61 => ?_) (fun c_61 => ?_)
          · cases c_61
          · refine r_iload_n dX10_readHead_64 rfl rfl ?_
            refine r_if_eqN (by omega) (r := 72) dX10_readHead_65 (by decide) rfl (fun c_65 => ?_) (fun c_65 => ?_)
            · refine r_iconst dX10_readHead_72 kc_0 rfl ?_
              refine r_zret .boolean rfl rfl dX10_readHead_73 ?_
              refine ⟨rfl, [], false, o, by decide, rfl, v1.gr h21, c1.mono (by omega), fun q => q, fun r hr => ?_⟩
              have h9 : inN (hdN r) 97 122 = false := by
                rw [← hc r hr]
                cases hz : inN c 97 122 with
                | false => rfl
                | true => rw [hz] at c_34; cases c_34
              rw [pHead_none (isN_get (hb r hr)) h9]
              exact ⟨hr, rfl, rfl⟩
            · exact absurd rfl c_65
        · exact absurd rfl c_44
      · refine r_iconst dX10_readHead_37 kc_1 rfl ?_
        refine r_goto (r := 42) dX10_readHead_38 (by decide) ?_
        refine r_istore_n (ls' := [_, _, _, _]) dX10_readHead_42 (Nat.le_of_ble_eq_true rfl) rfl rfl ?_
        refine r_iload_n dX10_readHead_43 rfl rfl ?_
        refine r_if_eqN (by omega) (r := 60) dX10_readHead_44 (by decide) rfl (fun c_44 => ?_) (fun c_44 => ?_)
        · exact absurd c_44 (by decide)
        · refine r_aload_n dX10_readHead_47 rfl (zRv_ref _) rfl ?_
          refine r_iload_n dX10_readHead_48 rfl rfl ?_
          refine r_iconst dX10_readHead_49 kc_1 rfl ?_
          refine r_aload_n dX10_readHead_50 rfl (zRv_ref _) rfl ?_
          refine r_bipush dX10_readHead_51 kb_122 rfl ?_
          refine r_callV MX10_letter 1 [_] lvX10_200 (Or.inr (Or.inl ⟨hm, rfl⟩)) (o_letter E mo hm w sg1 (d - 1) f 122 m (by omega) (by decide) (by omega) o c1) rfl rfl (by first | exact Nat.le_of_ble_eq_true rfl | (simp [zcat_rf, Value.category]; done)) (by omega) (Nat.le_of_eq (Nat.zero_add _)) (Nat.le_of_eq (Nat.zero_add _)) dX10_readHead_53 rfl (fun v_ w_ sg_ hq_ => ?_)
          obtain ⟨⟨x, rfl, hx1, hx2, hx3, hx⟩, rfl, v2, c2⟩ := hq_
          obtain ⟨sg2, hsg2⟩ : ∃ y, y = sg_ := ⟨_, rfl⟩
          subst hsg2
          have j21 : mi sg2 21 = nI n := (v2.1 21 (by decide) (by decide)).trans i21
          refine r_iconst dX10_readHead_56 kc_0 rfl ?_
          refine r_callV MX10_addPart 4 [_, _, _, _] lvX10_196 (Or.inr (Or.inl ⟨hm, rfl⟩)) (o_addPart E mo hm w sg2 (d - 1) f m n (nI g) (nI 1) (nI x) 0 hn j21 _ c2) rfl rfl (by first | exact Nat.le_of_ble_eq_true rfl | (simp [zcat_rf, Value.category]; done)) (by omega) (Nat.le_of_eq (Nat.zero_add _)) (Nat.le_of_eq (Nat.zero_add _)) dX10_readHead_57 rfl (fun v_ w_ sg_ hq_ => ?_)
          obtain ⟨rfl, rfl, p3, c3⟩ := hq_
          obtain ⟨sg3, hsg3⟩ : ∃ y, y = sg_ := ⟨_, rfl⟩
          subst hsg3
          refine r_iload_n dX10_readHead_60 rfl rfl ?_
          refine r_if_neB (r := 68) dX10_readHead_61 (by decide) rfl (fun c_61 => ?_) (fun c_61 => ?_)
          · cases c_61
          · refine r_iload_n dX10_readHead_64 rfl rfl ?_
            refine r_if_eqN (by omega) (r := 72) dX10_readHead_65 (by decide) rfl (fun c_65 => ?_) (fun c_65 => ?_)
            · exact absurd c_65 (by decide)
            · refine r_iconst dX10_readHead_68 kc_1 rfl ?_
              refine r_goto (r := 73) dX10_readHead_69 (by decide) ?_
              refine r_zret .boolean rfl rfl dX10_readHead_73 ?_
              refine ⟨rfl, [(g, 1, nI x, 0)], true, _, Nat.le_refl 1, rfl, ((p3.mv v2).mv v1).gr, c3, fun q => by rw [q]; rfl, fun r hr => ?_⟩
              have h9 : inN (hdN r) 97 122 = true := by
                rw [← hc r hr]
                cases hz : inN c 97 122 with
                | true => rfl
                | false => rw [hz] at c_34; cases c_34
              have hxr := hx r hr
              subst hr
              cases r with
              | nil => cases h9
              | cons z r1 =>
                have h10 : 97 ≤ z ∧ z ≤ 122 := of_decide_eq_true h9
                have h11 : pLet 122 (z :: r1) = some (z, r1) := if_pos h10
                obtain ⟨h12, h13⟩ := pHead_let (isN_get (hb _ rfl)) h11
                unfold letV at hxr
                rw [h11] at hxr
                have hxz : x = z := hxr
                rw [h12]
                refine ⟨?_, rfl, ?_⟩
                · show rstO (pLet 122 (z :: r1)) = _
                  rw [h11]
                  rfl
                · unfold hdRow
                  rw [if_pos rfl, if_neg h13, hxz]
  · cases c_8
theorem o_readHead (E : ZE) (mo : Nat) (hm : E.2.2.2.2 = some mo) (w : ZW) (sg : ZM) (d f m n g : Nat) (hd : 4 ≤ d) (hm9 : m ≤ 800) (hn : n < 130) (o : Option (List Nat)) (h21 : mi sg 21 = nI n) (h : cuO sg f (m + 2) o) : CallQ E MX10_readHead [.ref mo, .int (nI g)] w sg d 0 0 (hdQ sg f m n g o w) := by
  refine CallQ.of rfl (by simp [Value.category]) (Nat.le_of_ble_eq_true rfl) ?_
  refine r_aload_n dX10_readHead_0 rfl (zRv_ref _) rfl ?_
  refine r_bipush dX10_readHead_1 kb_42 rfl ?_
  refine r_callV MX10_pass 1 [_] lvX10_176 (Or.inr (Or.inl ⟨hm, rfl⟩)) (o_pass E mo hm w sg (d - 1) f 42 (m + 1) (by omega) (by decide) o h) rfl rfl (by first | exact Nat.le_of_ble_eq_true rfl | (simp [zcat_rf, Value.category]; done)) (by omega) (Nat.le_of_eq (Nat.zero_add _)) (Nat.le_of_eq (Nat.zero_add _)) dX10_readHead_3 rfl (fun v_ w_ sg_ hq_ => ?_)
  obtain ⟨b, rfl, hb, rfl, v1, c1⟩ := hq_
  cases b with
  | true => exact rh_6t E mo hm w sg _ d f m n g hd hm9 hn o h21 v1 hb c1
  | false => exact rh_6f E mo hm w sg _ d f m n g hd hm9 hn o h21 v1 hb c1
