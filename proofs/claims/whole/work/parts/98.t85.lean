/-! ===== what the reader of selectors gives ===== -/
theorem pDecl_rng {og : Nat} (ho : og < 3) {r r' : List Nat} {D : PDecl} (h : pDecl og r = some (D, r')) : D.1 < 10 ∧ D.2.1 < 3 ∧ D.2.2.1 < 6 := by
  unfold pDecl at h
  cases h1 : pName r with
  | none => rw [h1] at h; cases h
  | some q =>
    obtain ⟨n, r1⟩ := q
    rw [h1] at h
    simp only [] at h
    have l1 : n < 10 := by
      unfold pName at h1
      split at h1
      · cases h1
      · rename_i c r2
        repeat' (split at h1)
        all_goals first | (cases h1; decide) | (cases h1; done) | skip
        rename_i _ x r3 h9
        cases h1
        have := (pNamed_len h9).2
        omega
    cases h2 : pCh 58 r1 with
    | none => rw [h2] at h; cases h
    | some r2 =>
      rw [h2] at h
      simp only [] at h
      cases h3 : pValue r2 with
      | none => rw [h3] at h; cases h
      | some q3 =>
        obtain ⟨v, ss, r3⟩ := q3
        rw [h3] at h
        simp only [] at h
        have l3 : v < 3 := by
          unfold pValue at h3
          split at h3
          · cases h3; decide
          · split at h3
            · cases h3; decide
            · split at h3
              · cases h3; decide
              · cases h3
        unfold pBang at h
        split at h
        · cases h
          exact ⟨l1, l3, by show og < 6; omega⟩
        · cases h
          exact ⟨l1, l3, by show 5 - og < 6; omega⟩
theorem pc73_ok {x y : Option Nat} {s : Bool} {g : Int32} {r r' : List Nat} {p : PPart} (h : pc73 x y s g r = some (p, r')) : p.1 < 4 := by
  unfold pc73 at h
  split at h
  · cases h
    split
    · exact (by decide : 3 < 4)
    · exact (by decide : 3 < 4)
  · cases h
theorem pc18_ok {x : Option Nat} {r r' : List Nat} {p : PPart} (h : pc18 x r = some (p, r')) : p.1 < 4 := by
  unfold pc18 at h
  repeat' (split at h)
  all_goals exact pc73_ok h
theorem pCount_ok {r r' : List Nat} {p : PPart} (h : pCount r = some (p, r')) : p.1 < 4 := by
  unfold pCount at h
  repeat' (split at h)
  all_goals first | (cases h; done) | exact pc18_ok h
theorem pSimple_ok {sgn : Nat} {r r' : List Nat} {p : PPart} (h : pSimple sgn r = some (p, r')) : p.1 < 4 := by
  unfold pSimple at h
  split at h
  · cases h
  · repeat' (split at h)
    all_goals first | (cases h; done) | exact pCount_ok h | skip
    · cases h; exact (by decide : 0 < 4)
    · cases h; exact (by decide : 1 < 4)
    · cases h; exact (by decide : 3 < 4)
    · cases h; exact (by decide : 2 < 4)
def okX (f : List Nat → Option (PBare × List Nat)) : Prop := ∀ r b r', f r = some (b, r') → okB1 b
def okEx (ex : Option (List Nat → Option (PBare × List Nat))) : Prop := ∀ f, ex = some f → okX f
theorem okPs_cons {p : PPart} {ps : List PPart} (h : p.1 < 4) (h2 : okPs ps) : okPs (p :: ps) := fun x hx => by
  rcases List.mem_cons.mp hx with rfl | g
  · exact h
  · exact h2 x g
theorem pPart_ok {ex : Option (List Nat → Option (PBare × List Nat))} (hx : okEx ex) {c : Nat} {r r2 : List Nat} {ps ps2 : List PPart} {es es2 : List PBare} (h : pPart ex c r ps es = some (ps2, es2, r2)) (h1 : okPs ps) (h2 : ∀ b ∈ es, okB1 b) : okPs ps2 ∧ ∀ b ∈ es2, okB1 b := by
  unfold pPart at h
  split at h
  · rename_i f
    split at h
    · cases h3 : f r.tail with
      | none => rw [h3] at h; cases h
      | some q =>
        rw [h3] at h
        cases h
        refine ⟨h1, fun b hb => ?_⟩
        rcases List.mem_cons.mp hb with rfl | g
        · exact hx f rfl _ _ _ h3
        · exact h2 b g
    · cases h3 : pSimple c r with
      | none => rw [h3] at h; cases h
      | some q =>
        rw [h3] at h
        cases h
        exact ⟨okPs_cons (pSimple_ok h3) h1, h2⟩
  · cases h3 : pSimple c r with
    | none => rw [h3] at h; cases h
    | some q =>
      rw [h3] at h
      cases h
      exact ⟨okPs_cons (pSimple_ok h3) h1, h2⟩
theorem pOutL_ok {ex : Option (List Nat → Option (PBare × List Nat))} (hx : okEx ex) : ∀ (n : Nat) (ps : List PPart) (es : List PBare) (o : Bool) (r : List Nat) (q : List PPart × List PBare × Bool × List Nat), pOutL ex n ps es o r = some q → okPs ps → (∀ b ∈ es, okB1 b) → okPs q.1 ∧ ∀ b ∈ q.2.1, okB1 b
  | 0, ps, es, o, r, q, h, h1, h2 => by cases h; exact ⟨h1, h2⟩
  | n + 1, ps, es, o, r, q, h, h1, h2 => by
    unfold pOutL at h
    split at h
    · cases h; exact ⟨h1, h2⟩
    · rename_i c r1
      split at h
      · cases h3 : pPart ex c r1 ps es with
        | none => rw [h3] at h; cases h
        | some q3 =>
          obtain ⟨ps2, es2, r2⟩ := q3
          rw [h3] at h
          obtain ⟨g1, g2⟩ := pPart_ok hx h3 h1 h2
          exact pOutL_ok hx n ps2 es2 true r2 q h g1 g2
      · cases h; exact ⟨h1, h2⟩
theorem pHead_lt (r : List Nat) : (pHead r).1 < 128 := by
  unfold pHead
  split
  · exact (by decide : 0 < 128)
  · split
    · exact (by decide : 0 < 128)
    · split
      · rename_i h; show _ < 128; omega
      · exact (by decide : 0 < 128)
theorem pCompG_ok {ex : Option (List Nat → Option (PBare × List Nat))} (hx : okEx ex) {r r' : List Nat} {c : PComp} (h : pCompG ex r = some (c, r')) : okC c := by
  unfold pCompG at h
  have ht := pHead_lt r
  cases h1 : pHead r with
  | mk t q1 =>
    obtain ⟨o, r1⟩ := q1
    rw [h1] at h ht
    simp only [] at h ht
    cases h2 : pOutL ex 4 [] [] o r1 with
    | none => rw [h2] at h; cases h
    | some q =>
      obtain ⟨ps, es, o2, r2⟩ := q
      rw [h2] at h
      simp only [] at h
      obtain ⟨g1, g2⟩ := pOutL_ok hx 4 _ _ _ _ _ h2 (fun x hx => by cases hx) (fun x hx => by cases hx)
      split at h
      · cases h
        exact ⟨ht, g1, g2⟩
      · cases h
theorem pExcl_ok : okX pExcl := fun r b r' h => by
  unfold pExcl at h
  split at h
  · cases h
  · rename_i r1 h1
    cases h2 : pCompG none r1 with
    | none => rw [h2] at h; cases h
    | some q =>
      obtain ⟨⟨t, ps, es⟩, r2⟩ := q
      rw [h2] at h
      simp only [] at h
      obtain ⟨g1, g2, -⟩ := pCompG_ok (fun f hf => by cases hf) h2
      split at h
      · cases h
      · cases h
        exact ⟨g1, g2⟩
theorem pComp_ok {r r' : List Nat} {c : PComp} (h : pComp r = some (c, r')) : okC c := pCompG_ok (fun f hf => by cases hf; exact pExcl_ok) h
theorem isJn_lt {c : Nat} (h : isJn c = true) : c < 128 := by
  unfold isJn at h
  rw [decide_eq_true_eq] at h
  omega
theorem pSelL_ok : ∀ (n : Nat) (r : List Nat) (l : List (Nat × PComp)) (r' : List Nat), pSelL n r = some (l, r') → okSel l
  | 0, r, l, r', h => by cases h; exact fun x hx => by cases hx
  | n + 1, r, l, r', h => by
    unfold pSelL at h
    split at h
    · cases h; exact fun x hx => by cases hx
    · rename_i c r1
      split at h
      · rename_i hj
        cases h2 : pComp r1 with
        | none => rw [h2] at h; cases h
        | some q =>
          obtain ⟨x, r2⟩ := q
          rw [h2] at h
          simp only [] at h
          cases h3 : pSelL n r2 with
          | none => rw [h3] at h; cases h
          | some q3 =>
            obtain ⟨l3, r3⟩ := q3
            rw [h3] at h
            cases h
            intro y hy
            rcases List.mem_cons.mp hy with rfl | g
            · exact ⟨isJn_lt hj, pComp_ok h2⟩
            · exact pSelL_ok n r2 l3 _ h3 y g
      · cases h; exact fun x hx => by cases hx
theorem pSel_ok {r r' : List Nat} {l : List (Nat × PComp)} (h : pSel r = some (l, r')) : okSel l := by
  unfold pSel at h
  cases h2 : pComp r with
  | none => rw [h2] at h; cases h
  | some q =>
    obtain ⟨x, r1⟩ := q
    rw [h2] at h
    simp only [] at h
    cases h3 : pSelL 3 r1 with
    | none => rw [h3] at h; cases h
    | some q3 =>
      obtain ⟨l3, r3⟩ := q3
      rw [h3] at h
      cases h
      intro y hy
      rcases List.mem_cons.mp hy with rfl | g
      · exact ⟨(by decide : 0 < 128), pComp_ok h2⟩
      · exact pSelL_ok 3 r1 l3 _ h3 y g
theorem pSelsL_ok : ∀ (n : Nat) (r : List Nat) (ls : List (List (Nat × PComp))) (r' : List Nat), pSelsL n r = some (ls, r') → okSels ls
  | 0, r, ls, r', h => by cases h; exact fun x hx => by cases hx
  | n + 1, r, ls, r', h => by
    unfold pSelsL at h
    split at h
    · cases h; exact fun x hx => by cases hx
    · rename_i r1 h1
      cases h2 : pSel r1 with
      | none => rw [h2] at h; cases h
      | some q =>
        obtain ⟨x, r2⟩ := q
        rw [h2] at h
        simp only [] at h
        cases h3 : pSelsL n r2 with
        | none => rw [h3] at h; cases h
        | some q3 =>
          obtain ⟨l3, r3⟩ := q3
          rw [h3] at h
          cases h
          intro y hy
          rcases List.mem_cons.mp hy with rfl | g
          · exact pSel_ok h2
          · exact pSelsL_ok n r2 l3 _ h3 y g
theorem pSels_ok {r r' : List Nat} {ls : List (List (Nat × PComp))} (h : pSels r = some (ls, r')) : okSels ls := by
  unfold pSels at h
  cases h2 : pSel r with
  | none => rw [h2] at h; cases h
  | some q =>
    obtain ⟨x, r1⟩ := q
    rw [h2] at h
    simp only [] at h
    cases h3 : pSelsL 2 r1 with
    | none => rw [h3] at h; cases h
    | some q3 =>
      obtain ⟨l3, r3⟩ := q3
      rw [h3] at h
      cases h
      intro y hy
      rcases List.mem_cons.mp hy with rfl | g
      · exact pSel_ok h2
      · exact pSelsL_ok 2 r1 l3 _ h3 y g
