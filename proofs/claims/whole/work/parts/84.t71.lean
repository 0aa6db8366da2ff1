/-! ===== what stays of a desk ===== -/
theorem isDesk.z {w w' : ZW} {x n nr : Nat} (h : isDesk w x n nr) (e : zeq w w' x) : isDesk w' x n nr := by
  obtain ⟨h1, h2, h3, h4, h5, h6, h7⟩ := h
  exact ⟨e.k.trans h1, (e.r _).trans h2, (e.i _).trans h3, (e.r _).trans h4, (e.i _).trans h5, (e.r _).trans h6, (e.r _).trans h7⟩
theorem isEl.z {w w' : ZW} {T : List PEl} {A : Nat → Nat} {i : Nat} (h : isEl w T A i) (e : zeq w w' (A i)) : isEl w' T A i := by
  obtain ⟨h1, h2, h3, h4, h5, h6, h7, h8, h9, h10, h11, h12, h13, h14⟩ := h
  exact ⟨e.k.trans h1, h2, (e.r _).trans h3, (e.i _).trans h4, (e.i _).trans h5, (e.i _).trans h6, (e.i _).trans h7, (e.i _).trans h8, (e.i _).trans h9, (e.i _).trans h10, (e.i _).trans h11, (e.r _).trans h12, (e.i _).trans h13, (e.i _).trans h14⟩
theorem isEA.z {w w' : ZW} {ea n : Nat} {A : Nat → Nat} (h : isEA w ea n A) (e : zeq w w' ea) : isEA w' ea n A := ⟨e.k.trans h.1, e.ln.trans h.2.1, fun i hi => by rw [e.q]; exact h.2.2 i hi⟩
theorem isRA.z {w w' : ZW} {x nr : Nat} {B : Nat → Nat} (h : isRA w x B nr) (e : zeq w w' (x + 2)) : isRA w' x B nr := ⟨e.k.trans h.1, e.ln.trans h.2.1, h.2.2.1, fun k hk => by rw [e.q]; exact h.2.2.2 k hk⟩
theorem isSty.z {w w' : ZW} {s : Nat} (h : isSty w s) (e : ∀ i, i < 8 → zeq w w' (s + i)) : isSty w' s := by
  obtain ⟨⟨s1, s2, s3, s4, s5, s6, s7, s8⟩, ⟨t1, t2, t3, t4, t5, t6, t7⟩, m1, m2, m3, m4, m5, m6, m7⟩ := h
  have e0 := e 0 (by decide)
  have e1 := e 1 (by decide)
  have e2 := e 2 (by decide)
  have e3 := e 3 (by decide)
  have e4 := e 4 (by decide)
  have e5 := e 5 (by decide)
  have e6 := e 6 (by decide)
  have e7 := e 7 (by decide)
  exact ⟨⟨e0.k.trans s1, (e0.r _).trans s2, (e0.r _).trans s3, (e0.r _).trans s4, (e0.r _).trans s5, (e0.r _).trans s6, (e0.r _).trans s7, (e0.r _).trans s8⟩, ⟨e1.k.trans t1, e2.k.trans t2, e3.k.trans t3, e4.k.trans t4, e5.k.trans t5, e6.k.trans t6, e7.k.trans t7⟩, e1.ln.trans m1, e2.ln.trans m2, e3.ln.trans m3, e4.ln.trans m4, e5.ln.trans m5, e6.ln.trans m6, e7.ln.trans m7⟩
theorem isLd.z {w w' : ZW} {s n : Nat} {DC : Nat → PDecl → Prop} {o : PLd} (h : isLd w s DC n o) (h1 : zeq w w' (s + 1)) (h2 : zeq w w' (s + 2)) (h3 : zeq w w' (s + 3)) : isLd w' s DC n o := by
  unfold isLd at h ⊢
  rw [h1.q, h2.a, h3.a]
  exact h
/-- the cells that the elements, the rules and their rows stand in -/
def dY (x n : Nat) (A : Nat → Nat) (RG : Nat → Nat → Prop) (b : Nat) : Prop := (x ≤ b ∧ b < x + 3) ∨ (∃ e, e < n ∧ A e ≤ b ∧ b < A e + 9) ∨ ∃ lo hi, RG lo hi ∧ lo ≤ b ∧ b < hi
theorem okDF.z {w w' : ZW} {DC : Nat → PDecl → Prop} {RG : Nat → Nat → Prop} (h : okDF w DC RG) (e : ∀ lo hi b, RG lo hi → lo ≤ b → b < hi → zeq w w' b) : okDF w' DC RG := fun a D q => by
  obtain ⟨h1, h2, h3, lo, hi, h4, h5⟩ := h a D q
  exact ⟨h1, h2, h3, lo, hi, h4, h5.fr (Nat.le_refl _) (Nat.le_refl _) (fun b g1 g2 => e lo hi b h4 (by have := h5.1; omega) g2)⟩
theorem isRu.z {w w' : ZW} {lo b : Nat} {DC : Nat → PDecl → Prop} {RG : Nat → Nat → Prop} {R : PRule} (h : isRu w lo b DC R) (hF : okDF w DC RG) (hr : RG lo (b + 1)) (hlb : lo ≤ b) (e : ∀ lo hi b, RG lo hi → lo ≤ b → b < hi → zeq w w' b) : isRu w' lo b DC R := by
  obtain ⟨h1, s0, d0, h2, h3, h4, h5⟩ := h
  have eb := e lo (b + 1) b hr hlb (Nat.lt_succ_self b)
  refine ⟨eb.k.trans h1, s0, d0, (eb.r _).trans h2, (eb.r _).trans h3, segS h4 (fun q g1 g2 => e lo (b + 1) q hr g1 (by omega)), h5.imp (fun a D g => ⟨g, ?_⟩)⟩
  obtain ⟨-, -, -, lo9, hi9, g4, g5⟩ := hF a D g
  exact (e lo9 hi9 a g4 g5.1 g5.2.1).r 205
theorem isRuM.z {w w' : ZW} {lo b : Nat} {T : List PEl} {DC : Nat → PDecl → Prop} {RG : Nat → Nat → Prop} {R : PRule} (h : isRuM w lo b T DC R) (hF : okDF w DC RG) (hr : RG lo (b + 1)) (hlb : lo ≤ b) (e : ∀ lo hi b, RG lo hi → lo ≤ b → b < hi → zeq w w' b) : isRuM w' lo b T DC R := by
  obtain ⟨h1, s0, d0, h2, h3, h4, h5⟩ := h
  have eb := e lo (b + 1) b hr hlb (Nat.lt_succ_self b)
  refine ⟨eb.k.trans h1, s0, d0, (eb.r _).trans h2, (eb.r _).trans h3, h4.imp (fun a l g => ⟨g.e (fun q g1 g2 => e lo (b + 1) q hr g1 (by omega)), (e lo (b + 1) a hr g.1.1 (by have := g.1.2.1; omega)).r 703⟩), h5.imp (fun a D g => ⟨g, ?_⟩)⟩
  obtain ⟨-, -, -, lo9, hi9, g4, g5⟩ := hF a D g
  exact (e lo9 hi9 a g4 g5.1 g5.2.1).r 205
theorem envA.z {w w' : ZW} {x nr : Nat} {T : List PEl} {A : Nat → Nat} {DC : Nat → PDecl → Prop} {RG : Nat → Nat → Prop} (h : envA w x nr T A DC RG) (e : ∀ b, dY x T.length A RG b → zeq w w' b) : envA w' x nr T A DC RG := by
  obtain ⟨h1, h2, h3, h4, h5, h6⟩ := h
  exact ⟨h1, h2.z (e x (Or.inl ⟨by omega, by omega⟩)), ⟨h3.1, fun i hi => (h3.2 i hi).z (e _ (Or.inr (Or.inl ⟨i, hi, by omega, by omega⟩)))⟩, h4.z (e _ (Or.inl ⟨by omega, by omega⟩)), fun i hi => (h5 i hi).z (fun j hj => e _ (Or.inr (Or.inl ⟨i, hi, by omega, by omega⟩))), h6.z (fun lo hi b g1 g2 g3 => e b (Or.inr (Or.inr ⟨lo, hi, g1, g2, g3⟩)))⟩
