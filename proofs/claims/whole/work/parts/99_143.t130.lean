/-! ===== the model: what rows say of a compound ===== -/
def hvS : List PRow → Nat
  | [] => 0
  | q :: l => hvyN q.2.1 + hvS l
theorem hvS_app : ∀ (a b : List PRow), hvS (a ++ b) = hvS a + hvS b
  | [], b => (Nat.zero_add _).symm
  | q :: a, b => by
    show hvyN q.2.1 + hvS (a ++ b) = hvyN q.2.1 + hvS a + hvS b
    rw [hvS_app a b, Nat.add_assoc]
def gA (T : List PEl) (e : Nat) (l : List PRow) : Prop := ∀ q ∈ l, q.1 = 0 → hldR T e q = true
def gB (T : List PEl) (e : Nat) (l : List PRow) : Prop := ∀ g, 1 ≤ g → g ≤ 4 → (∃ q ∈ l, q.1 = g) → ∃ q ∈ l, q.1 = g ∧ hldR T e q = false
theorem fitN_iff (T : List PEl) (e : Nat) (l : List PRow) : fitN (gsN (fun _ => true) l) (gsN (fun q => !hldR T e q) l) = true ↔ gA T e l ∧ gB T e l := by
  unfold fitN
  rw [Bool.and_eq_true, List.all_eq_true]
  refine and_congr ?_ ?_
  · rw [gsN_bit, Bool.not_eq_true', List.any_eq_false]
    refine forall_congr' (fun q => forall_congr' (fun _ => ?_))
    cases hldR T e q <;> simp
  · constructor
    · intro h g g1 g2 g3
      have h1 := h (g - 1) (List.mem_range.mpr (by omega))
      rw [show g - 1 + 1 = g by omega, gsN_bit, gsN_bit, Bool.or_eq_true, Bool.not_eq_true'] at h1
      obtain ⟨q, q1, q2⟩ := g3
      rcases h1 with h1 | h1
      · rw [List.any_eq_false] at h1
        have := h1 q q1
        rw [q2] at this
        simp at this
      · rw [List.any_eq_true] at h1
        obtain ⟨x, x1, x2⟩ := h1
        rw [Bool.and_eq_true, Bool.not_eq_true', decide_eq_true_eq] at x2
        exact ⟨x, x1, x2.2, x2.1⟩
    · intro h i hi
      rw [gsN_bit, gsN_bit, Bool.or_eq_true, Bool.not_eq_true']
      have hi4 := List.mem_range.mp hi
      by_cases hx : ∃ q ∈ l, q.1 = i + 1
      · obtain ⟨x, x1, x2, x3⟩ := h (i + 1) (by omega) (by omega) hx
        refine Or.inr (List.any_eq_true.mpr ⟨x, x1, ?_⟩)
        rw [x2, x3]
        simp
      · refine Or.inl (List.any_eq_false.mpr (fun x x1 x2 => hx ⟨x, x1, ?_⟩))
        rw [Bool.true_and, decide_eq_true_eq] at x2
        exact x2
theorem idxT_pos (T : List PEl) (e : Nat) : 1 ≤ idxT T e := by
  unfold idxT
  split
  · exact Nat.le_refl 1
  · exact Nat.le_add_left 1 _
theorem rwR_ok {T : List PEl} (hw : wfT T) {e g : Nat} (he : e < T.length) {p : PPart} {q : PRow} (h : rwR g p q) : q.1 = g ∧ q.2.1 < 7 ∧ hldR T e q = holdP T e p ∧ hvyN q.2.1 = wPart p := by
  obtain ⟨k, s, t⟩ := p
  have hx := idxT_sm hw he
  have hx1 := idxT_pos T e
  rcases h with ⟨h1, rfl⟩ | ⟨h1, rfl⟩ | ⟨h1, rfl⟩ | ⟨h1, rfl | ⟨h2, rfl⟩⟩
  · have h1' : k = 0 := h1
    subst h1'
    exact ⟨rfl, (by decide : 2 < 7), rfl, rfl⟩
  · have h1' : k = 1 := h1
    subst h1'
    exact ⟨rfl, (by decide : 3 < 7), rfl, rfl⟩
  · have h1' : k = 2 := h1
    subst h1'
    exact ⟨rfl, (by decide : 5 < 7), rfl, rfl⟩
  · have h1' : k = 3 := h1
    subst h1'
    exact ⟨rfl, (by decide : 6 < 7), rfl, rfl⟩
  · have h1' : k = 3 := h1
    subst h1'
    have h3 : s = nI 1 ∧ t = nI 0 := ⟨congrArg Prod.fst h2, congrArg Prod.snd h2⟩
    obtain ⟨rfl, rfl⟩ := h3
    refine ⟨rfl, (by decide : 4 < 7), ?_, rfl⟩
    show decide (idxT T e = 1) = reachI (nI (idxT T e)) (nI 1) (nI 0)
    unfold reachI
    rw [if_pos (by decide), pk_sub hx1]
    refine decide_eq_decide.mpr ?_
    rw [nI_eq0 (by omega)]
    omega
theorem rwL_ok {T : List PEl} (hw : wfT T) {e g : Nat} (he : e < T.length) : ∀ {ps : List PPart} {l : List PRow}, rwL g ps l → (∀ q ∈ l, q.1 = g ∧ q.2.1 < 7) ∧ (l.all (hldR T e)) = ps.all (holdP T e) ∧ hvS l = wParts ps ∧ l.length = ps.length
  | [], l, h => by
    have h2 : l = [] := h
    subst h2
    exact ⟨fun q hq => (by cases hq), rfl, rfl, rfl⟩
  | p :: ps, l, ⟨l0, q, h1, h2, h3⟩ => by
    subst h1
    obtain ⟨i1, i2, i3, i4⟩ := rwL_ok hw he h2
    obtain ⟨j1, j2, j3, j4⟩ := rwR_ok hw he h3
    refine ⟨fun x hx => ?_, ?_, ?_, ?_⟩
    · rcases List.mem_append.mp hx with y | y
      · exact i1 x y
      · rw [List.mem_singleton] at y
        subst y
        exact ⟨j1, j2⟩
    · rw [List.all_append, i2]
      show (ps.all (holdP T e) && (hldR T e q && true)) = (holdP T e p && ps.all (holdP T e))
      rw [j3, Bool.and_true, Bool.and_comm]
    · rw [hvS_app, i3]
      show wParts ps + (hvyN q.2.1 + 0) = wPart p + wParts ps
      rw [j4]
      omega
    · rw [List.length_append, i4]
      rfl
theorem hdRow_ok {T : List PEl} (hw : wfT T) {e g t : Nat} (he : e < T.length) {oh : Bool} (ht : t < 128) (ho : t ≠ 0 → oh = true) : (∀ q ∈ hdRow g t oh, q.1 = g ∧ q.2.1 < 7) ∧ (hdRow g t oh).all (hldR T e) = (decide (t = 0) || decide (t = tG T e)) ∧ hvS (hdRow g t oh) = wTag t ∧ (oh = true → hdRow g t oh ≠ []) := by
  have htg := (hw.2.2 e).1
  unfold hdRow
  by_cases h0 : t = 0
  · subst h0
    cases oh with
    | false => exact ⟨fun q hq => (by cases hq), rfl, rfl, fun q => (by cases q)⟩
    | true => exact ⟨fun q hq => (by rw [List.mem_singleton.mp hq]; exact ⟨rfl, (by decide : 0 < 7)⟩), rfl, rfl, fun _ => by simp⟩
  · have h1 := ho h0
    subst h1
    rw [if_pos rfl, if_neg h0]
    refine ⟨fun q hq => ?_, ?_, ?_, fun _ => by simp⟩
    · rw [List.mem_singleton.mp hq]
      exact ⟨rfl, (by decide : 1 < 7)⟩
    · rw [decide_eq_false h0, Bool.false_or]
      show (decide (nI (tG T e) = nI t) && true) = _
      rw [Bool.and_true]
      refine decide_eq_decide.mpr ?_
      rw [nI_eq (by omega) (by omega)]
      exact eq_comm
    · show hvyN 1 + 0 = wTag t
      unfold wTag
      rw [if_neg h0]
      rfl
theorem bareR_ok {T : List PEl} (hw : wfT T) {e g : Nat} (he : e < T.length) {b : PBare} {l : List PRow} (h : bareR g b l) (hb : b.1 < 128) : (∀ q ∈ l, q.1 = g ∧ q.2.1 < 7) ∧ l.all (hldR T e) = fitB T e b.1 b.2 ∧ hvS l = wBare b ∧ l ≠ [] := by
  obtain ⟨oh, lp, rfl, h1, h2, h3⟩ := h
  obtain ⟨a1, a2, a3, a4⟩ := hdRow_ok (g := g) hw he hb h1
  obtain ⟨b1, b2, b3, b4⟩ := rwL_ok hw he h2
  refine ⟨fun q hq => ?_, ?_, ?_, ?_⟩
  · rcases List.mem_append.mp hq with y | y
    · exact a1 q y
    · exact b1 q y
  · rw [List.all_append, a2, b2]
    rfl
  · rw [hvS_app, a3, b3]
    rfl
  · intro q
    obtain ⟨q1, q2⟩ := List.append_eq_nil_iff.mp q
    rcases h3 with h3 | h3
    · exact a4 h3 q1
    · rw [q2] at b4
      exact h3 (List.length_eq_zero_iff.mp b4.symm)
theorem kvR_ok {T : List PEl} (hw : wfT T) {e : Nat} (he : e < T.length) : ∀ {ev : List PEv} {g : Nat} {l : List PRow}, kvR ev g l → (∀ b ∈ evE ev, b.1 < 128) → (g ≤ 4 ∧ ∀ q ∈ l, q.1 ≤ g ∧ q.2.1 < 7) ∧ (gA T e l ↔ (evP ev).all (holdP T e) = true) ∧ (gB T e l ↔ ((evE ev).all fun b => !fitB T e b.1 b.2) = true) ∧ hvS l = wParts (evP ev) + wBares (evE ev)
  | [], g, l, h, hb => by
    obtain ⟨rfl, rfl⟩ := h
    exact ⟨⟨by decide, fun q hq => (by cases hq)⟩, ⟨fun _ => rfl, fun _ q hq => (by cases hq)⟩, ⟨fun _ => rfl, fun _ g _ _ ⟨q, hq, _⟩ => (by cases hq)⟩, rfl⟩
  | .inl p :: ev, g, l, h, hb => by
    obtain ⟨l0, q, rfl, h1, h2⟩ := h
    obtain ⟨⟨i0, i1⟩, i2, i3, i4⟩ := kvR_ok hw he h1 hb
    obtain ⟨j1, j2, j3, j4⟩ := rwR_ok hw he h2
    refine ⟨⟨i0, fun x hx => ?_⟩, ?_, ?_, ?_⟩
    · rcases List.mem_append.mp hx with y | y
      · exact i1 x y
      · rw [List.mem_singleton.mp y]
        exact ⟨by omega, j2⟩
    · show _ ↔ (holdP T e p && (evP ev).all (holdP T e)) = true
      rw [Bool.and_eq_true, ← i2, ← j3]
      constructor
      · intro z
        exact ⟨z q (List.mem_append_right _ (List.mem_singleton.mpr rfl)) j1, fun x hx => z x (List.mem_append_left _ hx)⟩
      · intro z x hx hx0
        rcases List.mem_append.mp hx with y | y
        · exact z.2 x y hx0
        · rw [List.mem_singleton.mp y]
          exact z.1
    · show _ ↔ ((evE ev).all fun b => !fitB T e b.1 b.2) = true
      rw [← i3]
      constructor
      · intro z g9 g1 g2 ⟨x, x1, x2⟩
        obtain ⟨y, y1, y2, y3⟩ := z g9 g1 g2 ⟨x, List.mem_append_left _ x1, x2⟩
        rcases List.mem_append.mp y1 with u | u
        · exact ⟨y, u, y2, y3⟩
        · rw [List.mem_singleton.mp u] at y2
          omega
      · intro z g9 g1 g2 ⟨x, x1, x2⟩
        rcases List.mem_append.mp x1 with u | u
        · obtain ⟨y, y1, y2, y3⟩ := z g9 g1 g2 ⟨x, u, x2⟩
          exact ⟨y, List.mem_append_left _ y1, y2, y3⟩
        · rw [List.mem_singleton.mp u] at x2
          omega
    · rw [hvS_app, i4]
      show wParts (evP ev) + wBares (evE ev) + (hvyN q.2.1 + 0) = wPart p + wParts (evP ev) + wBares (evE ev)
      rw [j4]
      omega
  | .inr b :: ev, g, l, h, hb => by
    obtain ⟨g0, l0, lb, ⟨rfl, h0⟩, rfl, h1, h2⟩ := h
    obtain ⟨⟨i0, i1⟩, i2, i3, i4⟩ := kvR_ok hw he h1 (fun x hx => hb x (List.mem_cons_of_mem _ hx))
    obtain ⟨j1, j2, j3, j4⟩ := bareR_ok hw he h2 (hb b List.mem_cons_self)
    refine ⟨⟨h0, fun x hx => ?_⟩, ?_, ?_, ?_⟩
    · rcases List.mem_append.mp hx with y | y
      · have := i1 x y
        exact ⟨by omega, this.2⟩
      · have := j1 x y
        exact ⟨by omega, this.2⟩
    · show _ ↔ (evP ev).all (holdP T e) = true
      rw [← i2]
      constructor
      · intro z x hx
        exact z x (List.mem_append_left _ hx)
      · intro z x hx hx0
        rcases List.mem_append.mp hx with y | y
        · exact z x y hx0
        · have := (j1 x y).1
          omega
    · show _ ↔ (!fitB T e b.1 b.2 && (evE ev).all fun b => !fitB T e b.1 b.2) = true
      rw [Bool.and_eq_true, ← i3, ← j2, Bool.not_eq_true', List.all_eq_false]
      constructor
      · intro z
        refine ⟨?_, fun g9 g1 g2 ⟨x, x1, x2⟩ => ?_⟩
        · obtain ⟨x, hx⟩ := List.exists_mem_of_ne_nil lb j4
          obtain ⟨y, y1, y2, y3⟩ := z (g0 + 1) (by omega) h0 ⟨x, List.mem_append_right _ hx, (j1 x hx).1⟩
          rcases List.mem_append.mp y1 with u | u
          · have := (i1 y u).1
            omega
          · exact ⟨y, u, by rw [y3]; decide⟩
        · obtain ⟨y, y1, y2, y3⟩ := z g9 g1 g2 ⟨x, List.mem_append_left _ x1, x2⟩
          have hx9 := (i1 x x1).1
          rcases List.mem_append.mp y1 with u | u
          · exact ⟨y, u, y2, y3⟩
          · have := (j1 y u).1
            omega
      · intro ⟨⟨y, y1, y2⟩, z⟩ g9 g1 g2 ⟨x, x1, x2⟩
        rcases List.mem_append.mp x1 with u | u
        · obtain ⟨v, v1, v2, v3⟩ := z g9 g1 g2 ⟨x, u, x2⟩
          exact ⟨v, List.mem_append_left _ v1, v2, v3⟩
        · have := (j1 x u).1
          have h9 := (j1 y y1).1
          refine ⟨y, List.mem_append_right _ y1, by omega, ?_⟩
          cases hh : hldR T e y with
          | false => rfl
          | true => exact absurd hh y2
    · rw [hvS_app, i4, j3]
      show _ = wParts (evP ev) + (wBare b + wBares (evE ev))
      omega
/-- a compound's rows say what it is -/
theorem compR_ok {T : List PEl} (hw : wfT T) {e : Nat} (he : e < T.length) {l : List PRow} {x : PComp} (h : compR l x) (hx : okC x) : (∀ q ∈ l, q.1 < 5 ∧ q.2.1 < 7) ∧ fitN (gsN (fun _ => true) l) (gsN (fun q => !hldR T e q) l) = fitC T e x ∧ hvS l = wComp x := by
  obtain ⟨oh, ev, g, lp, rfl, h1, h2, h3, h4⟩ := h
  obtain ⟨o1, o2, o3⟩ := hx
  obtain ⟨a1, a2, a3, a4⟩ := hdRow_ok (g := 0) hw he o1 h1
  obtain ⟨⟨b0, b1⟩, b2, b3, b4⟩ := kvR_ok hw he h2 (fun b hb => (o3 b (by rw [h4]; exact hb)).1)
  refine ⟨fun q hq => ?_, ?_, ?_⟩
  · rcases List.mem_append.mp hq with y | y
    · have := a1 q y
      exact ⟨by omega, this.2⟩
    · have := b1 q y
      exact ⟨by omega, this.2⟩
  · rw [Bool.eq_iff_iff, fitN_iff]
    unfold fitC fitB
    rw [Bool.and_eq_true, Bool.and_eq_true, ← a2, h3, h4, ← b2]
    have b3' : gB T e lp ↔ ((evE ev).all fun b => !fitB T e b.1 b.2) = true := b3
    unfold fitB at b3'
    rw [← b3', List.all_eq_true]
    constructor
    · intro ⟨z1, z2⟩
      refine ⟨fun g9 g1 g2 ⟨q, q1, q2⟩ => ?_, fun q hq => z1 q (List.mem_append_left _ hq) (a1 q hq).1, fun q hq => z1 q (List.mem_append_right _ hq)⟩
      obtain ⟨y, y1, y2, y3⟩ := z2 g9 g1 g2 ⟨q, List.mem_append_right _ q1, q2⟩
      rcases List.mem_append.mp y1 with u | u
      · have := (a1 y u).1
        omega
      · exact ⟨y, u, y2, y3⟩
    · intro ⟨z1, z2, z3⟩
      refine ⟨fun q hq hq0 => ?_, fun g9 g1 g2 ⟨q, q1, q2⟩ => ?_⟩
      · rcases List.mem_append.mp hq with u | u
        · exact z2 q u
        · exact z3 q u hq0
      · rcases List.mem_append.mp q1 with u | u
        · have := (a1 q u).1
          omega
        · obtain ⟨y, y1, y2, y3⟩ := z1 g9 g1 g2 ⟨q, u, q2⟩
          exact ⟨y, List.mem_append_right _ y1, y2, y3⟩
  · rw [hvS_app, a3, b4]
    unfold wComp
    rw [h3, h4]
    omega
