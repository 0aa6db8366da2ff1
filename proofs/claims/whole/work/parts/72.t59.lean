/-! ===== Reckoner.settleAt ===== -/
def iniV (p : Nat) : UInt32 := if p = 1 then 1098907648 else FP.fconst0
def inhV (T : List PEl) (V : Nat → Nat → UInt32) (e p : Nat) : UInt32 := match tP T e with
  | none => iniV p
  | some q => V q p
def stdV (T : List PEl) (V : Nat → Nat → UInt32) (e p : Nat) : UInt32 := if p = 0 ∨ p = 1 then inhV T V e p else iniV p
/-- what a sum gives at its element -/
noncomputable def evR (T : List PEl) (L : Nat → Nat → PLd) (wanted : Nat) (em whole : UInt32) (D : PDecl) (e : Nat) : Option PVal := @dite _ (∃ u f, ev T L wanted em whole f D e = some u) (Classical.propDecidable _) (fun h => some h.choose) (fun _ => none)
theorem evR_some {T : List PEl} {L : Nat → Nat → PLd} {wanted : Nat} {em whole : UInt32} {D : PDecl} {e f : Nat} {u : PVal} (h : ev T L wanted em whole f D e = some u) : evR T L wanted em whole D e = some u := by
  have h2 : ∃ u f, ev T L wanted em whole f D e = some u := ⟨u, f, h⟩
  unfold evR
  rw [dif_pos h2]
  obtain ⟨g, hg⟩ := h2.choose_spec
  rw [ev_det hg h]
theorem evR_none {T : List PEl} {L : Nat → Nat → PLd} {wanted : Nat} {em whole : UInt32} {D : PDecl} {e : Nat} (h : ∀ f, ev T L wanted em whole f D e = none) : evR T L wanted em whole D e = none := by
  unfold evR
  rw [dif_neg (fun ⟨u, f, q⟩ => by rw [h f] at q; cases q)]
/-- how and what a value is, if V are the values that it asks for -/
noncomputable def calV (T : List PEl) (L : Nat → Nat → PLd) (V : Nat → Nat → UInt32) (e p : Nat) : Nat × UInt32 := match L e p with
  | none => (0, stdV T V e p)
  | some (_, D, _) => if D.2.1 = 2 then (match evR T L (wantP p) (emU T V e p) (whU T V e p) D e with
    | none => (3, stdV T V e p)
    | some u => if u.1 = wantP p then (2, u.2) else (3, stdV T V e p)) else (1, if D.2.1 = 0 then inhV T V e p else iniV p)
def isV (T : List PEl) (L : Nat → Nat → PLd) (V : Nat → Nat → UInt32) : Prop := (∀ e, e < T.length → ∀ p, p < 6 → V e p = (calV T L V e p).2) ∧ ∀ e p, fFin (V e p)
def stdE (w : ZW) (A : Nat → Nat) (T : List PEl) (L : Nat → Nat → PLd) (V : Nat → Nat → UInt32) (e p : Nat) : Prop := za w (A e + 6) p = nI (calV T L V e p).1 ∧ zg w (A e + 5) p = V e p
def cchE (w : ZW) (x nr : Nat) (T : List PEl) (A : Nat → Nat) (DC : Nat → PDecl → Prop) (RG : Nat → Nat → Prop) (L : Nat → Nat → PLd) (V : Nat → Nat → UInt32) : Prop := (envA w x nr T A DC RG ∧ leadsW w T A DC L ∧ ∃ K, nkW w T.length A K ∧ okK K) ∧ isRk w (x + 7) ∧ ∀ e, e < T.length → ∀ p, p < 6 → za w (A e + 6) p = nI 4 ∨ stdE w A T L V e p
/-- cells that the working out of values may change -/
def X1 (x : Nat) (A : Nat → Nat) (n : Nat) : Nat → Prop := fun a => (x + 7 ≤ a ∧ a < x + 13) ∨ ∃ e, e < n ∧ A e + 5 ≤ a ∧ a < A e + 9
theorem layA.nX1 {x n : Nat} {A : Nat → Nat} {RG : Nat → Nat → Prop} (h : layA x n A RG) {i j : Nat} (hi : i < n) (hj : j < 5) : ¬ X1 x A n (A i + j) := fun q => by
  have h0 := h.1 i hi
  rcases q with ⟨q1, q2⟩ | ⟨e, h4, h5⟩
  · omega
  · rcases Nat.lt_trichotomy e i with q | q | q
    · have := h.2.1 e i q hi; omega
    · subst q; omega
    · have := h.2.1 i e q h4; omega
theorem layA.dX1 {x n : Nat} {A : Nat → Nat} {RG : Nat → Nat → Prop} (h : layA x n A RG) {j : Nat} (hj : j < 3) : ¬ X1 x A n (x + j) := fun q => by
  rcases q with ⟨q1, q2⟩ | ⟨e, h4, h5⟩
  · omega
  · have := h.1 e h4; omega
theorem layA.rX1 {x n : Nat} {A : Nat → Nat} {RG : Nat → Nat → Prop} (h : layA x n A RG) : apRG RG (X1 x A n) := fun lo hi b g1 g2 g3 g4 => by
  obtain ⟨l1, l2⟩ := h.2.2 lo hi g1
  rcases g4 with ⟨q1, q2⟩ | ⟨e, h4, h5⟩
  · omega
  · rcases l2 e h4 with q | q <;> omega
theorem envA.w1 {w w' : ZW} {x nr : Nat} {T : List PEl} {A : Nat → Nat} {DC : Nat → PDecl → Prop} {RG : Nat → Nat → Prop} (h : envA w x nr T A DC RG) (e : ech (X1 x A T.length) w w') : envA w' x nr T A DC RG := by
  obtain ⟨h1, h2, h3, h4, h5, h6⟩ := h
  exact ⟨h1, h2.e e (h1.dX1 (j := 0) (by decide)), h3.e e (fun i hi => h1.nX1 (j := 0) hi (by decide)), h4.e e (h1.dX1 (j := 1) (by decide)), fun i hi => (h5 i hi).e e (h1.nX1 (j := 1) hi (by decide)), h6.e e h1.rX1⟩
theorem leadsW.w1 {w w' : ZW} {x nr : Nat} {T : List PEl} {A : Nat → Nat} {DC : Nat → PDecl → Prop} {RG : Nat → Nat → Prop} {L : Nat → Nat → PLd} (h : leadsW w T A DC L) (hE : envA w x nr T A DC RG) (e : ech (X1 x A T.length) w w') : leadsW w' T A DC L := fun i hi n hn => (h i hi n hn).e e (hE.1.nX1 (j := 2) hi (by decide)) (hE.1.nX1 (j := 3) hi (by decide)) (hE.1.nX1 (j := 4) hi (by decide))
def seQ (w w' : ZW) (x nr : Nat) (T : List PEl) (A : Nat → Nat) (DC : Nat → PDecl → Prop) (RG : Nat → Nat → Prop) (L : Nat → Nat → PLd) (V : Nat → Nat → UInt32) : Prop := ech (X1 x A T.length) w w' ∧ cchE w' x nr T A DC RG L V ∧ (∀ i, zq w' (x + 8) i = zq w (x + 8) i) ∧ ∀ e, e < T.length → ∀ p, p < 6 → stdE w A T L V e p → stdE w' A T L V e p
def setW (w : ZW) (A : Nat → Nat) (e p how : Nat) (v : UInt32) : ZW := zsg (zsa w (A e + 6) p (nI how)) (A e + 5) p v
theorem setW_q {w0 w : ZW} {x nr : Nat} {T : List PEl} {A : Nat → Nat} {DC : Nat → PDecl → Prop} {RG : Nat → Nat → Prop} {L : Nat → Nat → PLd} {V : Nat → Nat → UInt32} {e p how : Nat} {v : UInt32} (h : seQ w0 w x nr T A DC RG L V) (he : e < T.length) (hp : p < 6) (h1 : how = (calV T L V e p).1) (h2 : v = V e p) : seQ w0 (setW w A e p how v) x nr T A DC RG L V ∧ stdE (setW w A e p how v) A T L V e p := by
  obtain ⟨g1, ⟨⟨g2, g3, K, g4, g5⟩, g6, g7⟩, g9, g8⟩ := h
  have hA : ∀ e' p', za (setW w A e p how v) (A e' + 6) p' = if A e' + 6 = A e + 6 ∧ p' = p then nI how else za w (A e' + 6) p' := fun e' p' => by
    show za (zsa w (A e + 6) p (nI how)) (A e' + 6) p' = _
    rw [za_zsa]
  have hG : ∀ e' p', zg (setW w A e p how v) (A e' + 5) p' = if A e' + 5 = A e + 5 ∧ p' = p then v else zg w (A e' + 5) p' := fun e' p' => by
    show zg (zsg (zsa w (A e + 6) p (nI how)) (A e + 5) p v) (A e' + 5) p' = _
    rw [zg_zsg]
    rfl
  have hs : stdE (setW w A e p how v) A T L V e p := ⟨by rw [hA, if_pos ⟨rfl, rfl⟩, h1], by rw [hG, if_pos ⟨rfl, rfl⟩, h2]⟩
  have hec : ech (X1 x A T.length) w (setW w A e p how v) := ech.tr (X := X1 x A T.length) (Y := X1 x A T.length) (w1 := zsa w (A e + 6) p (nI how)) (ech.sa (Or.inr ⟨e, he, by omega, by omega⟩)) (ech.sg (Or.inr ⟨e, he, by omega, by omega⟩)) (fun _ q => q)
  have hmo : ∀ e', e' < T.length → ∀ p', p' < 6 → stdE w A T L V e' p' → stdE (setW w A e p how v) A T L V e' p' := fun e' he' p' hp' q => by
    by_cases c : e' = e ∧ p' = p
    · obtain ⟨rfl, rfl⟩ := c
      exact hs
    · have c2 : ¬ (A e' + 6 = A e + 6 ∧ p' = p) := fun ⟨y1, y2⟩ => c ⟨(g2.1.inj (a := 6) (b := 6) he' he (by decide) (by decide) y1).1, y2⟩
      have c3 : ¬ (A e' + 5 = A e + 5 ∧ p' = p) := fun ⟨y1, y2⟩ => c2 ⟨by omega, y2⟩
      exact ⟨by rw [hA, if_neg c2]; exact q.1, by rw [hG, if_neg c3]; exact q.2⟩
  refine ⟨⟨g1.tr hec (fun _ q => q), ⟨⟨g2.w1 hec, g3.w1 g2 hec, K, fun e' he' i hi => ?_, g5⟩, ?_, fun e' he' p' hp' => ?_⟩, g9, fun e' he' p' hp' q => hmo e' he' p' hp' (g8 e' he' p' hp' q)⟩, hs⟩
  · have n1 : A e' + 7 ≠ A e + 6 := fun y => absurd (g2.1.inj (a := 7) (b := 6) he' he (by decide) (by decide) y).2 (by decide)
    have n2 : A e' + 8 ≠ A e + 5 := fun y => absurd (g2.1.inj (a := 8) (b := 5) he' he (by decide) (by decide) y).2 (by decide)
    obtain ⟨y1, y2⟩ := g4 e' he' i hi
    refine ⟨?_, ?_⟩
    · show za (zsa w (A e + 6) p (nI how)) (A e' + 7) i = _
      rw [za_zsa, if_neg (fun q => n1 q.1)]
      exact y1
    · show zg (zsg (zsa w (A e + 6) p (nI how)) (A e + 5) p v) (A e' + 8) i = _
      rw [zg_zsg, if_neg (fun q => n2 q.1)]
      exact y2
  · exact g6
  · by_cases c : e' = e ∧ p' = p
    · obtain ⟨rfl, rfl⟩ := c
      exact Or.inr hs
    · rcases g7 e' he' p' hp' with q | q
      · have c2 : ¬ (A e' + 6 = A e + 6 ∧ p' = p) := fun ⟨y1, y2⟩ => c ⟨(g2.1.inj (a := 6) (b := 6) he' he (by decide) (by decide) y1).1, y2⟩
        exact Or.inl (by rw [hA, if_neg c2]; exact q)
      · exact Or.inr (hmo e' he' p' hp' q)
