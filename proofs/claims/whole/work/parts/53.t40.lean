/-! ===== StyleDesk.catchUp ===== -/
def leadN (T : List PEl) (Rs : List PRule) : Nat → Nat → Nat → PLd
  | 0, _ => fun _ => none
  | k + 1, e => match Rs[k]? with
    | some R => entR T R k e (leadN T Rs k e)
    | none => leadN T Rs k e
/-- a rule, whatever its selectors matched last -/
def isRu (w : ZW) (lo b : Nat) (DC : Nat → PDecl → Prop) (R : PRule) : Prop := zk w b = 6 ∧ ∃ s0 d0, zr w 600 b = some s0 ∧ zr w 601 b = some d0 ∧ Seg (isSl w lo b) w 703 (some s0) R.1 none ∧ Seg DC w 205 (some d0) R.2 none
theorem segS {w w' : ZW} {lo hi : Nat} {ls : List (List (Nat × PComp))} {o : Option Nat} (h : Seg (isSl w lo hi) w 703 o ls none) (he : ∀ b, lo ≤ b → b < hi → zeq w w' b) : Seg (isSl w' lo hi) w' 703 o ls none := h.imp (fun a l g => ⟨g.fr he, (he a g.1 g.2.1).r 703⟩)
theorem isRu.e {w w' : ZW} {lo b : Nat} {DC : Nat → PDecl → Prop} {RG : Nat → Nat → Prop} {R : PRule} {X : Nat → Prop} (h : isRu w lo b DC R) (e : ech X w w') (hX : apRG RG X) (hr : RG lo (b + 1)) (hlb : lo ≤ b) (hF : okDF w DC RG) : isRu w' lo b DC R := by
  obtain ⟨h1, s0, d0, h2, h3, h4, h5⟩ := h
  have eb := e.2.2.2 b (hX lo (b + 1) b hr hlb (Nat.lt_succ_self b))
  exact ⟨eb.k.trans h1, s0, d0, (eb.r _).trans h2, (eb.r _).trans h3, segS h4 (fun q g1 g2 => e.2.2.2 q (hX lo (b + 1) q hr g1 (by omega))), segDC hF e hX h5⟩
theorem isRu.x {w w' : ZW} {lo b : Nat} {DC : Nat → PDecl → Prop} {R : PRule} (h : isRu w lo b DC R) (e : eqx w w') : isRu w' lo b DC R := by
  obtain ⟨h1, s0, d0, h2, h3, h4, h5⟩ := h
  exact ⟨by rw [e.k]; exact h1, s0, d0, by rw [e.r]; exact h2, by rw [e.r]; exact h3, h4.x e (fun _ _ g => g.x e), h5.x e (fun _ _ g => g)⟩
theorem isRuM.x {w w' : ZW} {lo b : Nat} {T : List PEl} {DC : Nat → PDecl → Prop} {R : PRule} (h : isRuM w lo b T DC R) (e : eqx w w') (he : ∀ a, lo ≤ a → a < b → zi w' 702 a = zi w 702 a) : isRuM w' lo b T DC R := by
  obtain ⟨h1, s0, d0, h2, h3, h4, h5⟩ := h
  exact ⟨by rw [e.k]; exact h1, s0, d0, by rw [e.r]; exact h2, by rw [e.r]; exact h3, h4.x e (fun a _ g => ⟨g.1.x e, (he a g.1.1 g.1.2.1).trans g.2⟩), h5.x e (fun _ _ g => g)⟩
theorem isRuM.u {w : ZW} {lo b : Nat} {T : List PEl} {DC : Nat → PDecl → Prop} {R : PRule} (h : isRuM w lo b T DC R) : isRu w lo b DC R := by
  obtain ⟨h1, s0, d0, h2, h3, h4, h5⟩ := h
  exact ⟨h1, s0, d0, h2, h3, h4.imp (fun a l g => ⟨g.1, rfl⟩), h5⟩
/-- the rules' row; how the ranges lie -/
def isRA (w : ZW) (x : Nat) (B : Nat → Nat) (nr : Nat) : Prop := zk w (x + 2) = 28 ∧ zln w (x + 2) = 16 ∧ nr ≤ 16 ∧ ∀ k, k < nr → zq w (x + 2) k = some (B k)
def layR (nr : Nat) (Lo B : Nat → Nat) (RG : Nat → Nat → Prop) : Prop := ∀ k, k < nr → RG (Lo k) (B k + 1) ∧ Lo k ≤ B k ∧ ∀ j, j < k → B j < Lo k
theorem isRA.e {w w' : ZW} {x nr : Nat} {B : Nat → Nat} {X : Nat → Prop} (h : isRA w x B nr) (e : ech X w w') (hx : ¬ X (x + 2)) : isRA w' x B nr := by
  have e1 := e.2.2.2 _ hx
  unfold isRA at h ⊢
  rw [e1.k, e1.ln, e1.q]
  exact h
theorem isRA.x {w w' : ZW} {x nr : Nat} {B : Nat → Nat} (h : isRA w x B nr) (e : eqx w w') : isRA w' x B nr := by
  unfold isRA at h ⊢
  rw [e.k, e.2.2.1, e.2.2.2.2.2.2.2.1]
  exact h
theorem isSty.x {w w' : ZW} {s : Nat} (h : isSty w s) (e : eqx w w') : isSty w' s := by
  unfold isSty at h ⊢
  rw [e.k, e.2.2.1, e.r]
  exact h
theorem isLd.x {w w' : ZW} {s n : Nat} {DC : Nat → PDecl → Prop} {o : PLd} (h : isLd w s DC n o) (e : eqx w w') : isLd w' s DC n o := by
  unfold isLd at h ⊢
  rw [e.2.2.2.2.2.2.1, e.2.2.2.2.2.2.2.1]
  exact h
theorem envA.x {w w' : ZW} {x nr : Nat} {T : List PEl} {A : Nat → Nat} {DC : Nat → PDecl → Prop} {RG : Nat → Nat → Prop} (h : envA w x nr T A DC RG) (e : eqx w w') : envA w' x nr T A DC RG := by
  obtain ⟨h1, h2, h3, h4, h5, h6⟩ := h
  exact ⟨h1, h2.x e, h3.x e, h4.x e, fun i hi => (h5 i hi).x e, h6.x e⟩
/-- what catchUp leaves -/
def caught (w : ZW) (x : Nat) (T : List PEl) (A : Nat → Nat) (Rs : List PRule) (Lo B : Nat → Nat) (DC : Nat → PDecl → Prop) : Prop := (∀ k R, Rs[k]? = some R → isRuM w (Lo k) (B k) T DC R) ∧ (∀ e, e < T.length → ∀ n, n < 10 → isLd w (A e + 1) DC n (leadN T Rs Rs.length e n))
/-- what catchUp may change: the style rows; 'matched' in the rules' ranges; 'stale' -/
def ecu (x : Nat) (A : Nat → Nat) (n : Nat) (w w' : ZW) : Prop := zsz w' = zsz w ∧ zk w' = zk w ∧ zln w' = zln w ∧ ∀ a, ¬ XSt A n a → (∀ f, f ≠ 702 → ¬ (a = x ∧ f = 1006) → zi w' f a = zi w f a) ∧ (∀ f, zr w' f a = zr w f a) ∧ (∀ f, zf w' f a = zf w f a) ∧ za w' a = za w a ∧ zq w' a = zq w a ∧ zg w' a = zg w a ∧ zl w' a = zl w a ∧ zd w' a = zd w a
theorem ecu.rf {x : Nat} {A : Nat → Nat} {n : Nat} {w : ZW} : ecu x A n w w := ⟨rfl, rfl, rfl, fun _ _ => ⟨fun _ _ _ => rfl, fun _ => rfl, fun _ => rfl, rfl, rfl, rfl, rfl, rfl⟩⟩
theorem ecu.tr {x : Nat} {A : Nat → Nat} {n : Nat} {w w1 w2 : ZW} (h : ecu x A n w w1) (g : ecu x A n w1 w2) : ecu x A n w w2 := by
  obtain ⟨h1, h2, h3, h4⟩ := h
  obtain ⟨g1, g2, g3, g4⟩ := g
  refine ⟨g1.trans h1, g2.trans h2, g3.trans h3, fun a ha => ?_⟩
  obtain ⟨p1, p2, p3, p4, p5, p6, p7, p8⟩ := h4 a ha
  obtain ⟨q1, q2, q3, q4, q5, q6, q7, q8⟩ := g4 a ha
  exact ⟨fun f e1 e2 => (q1 f e1 e2).trans (p1 f e1 e2), fun f => (q2 f).trans (p2 f), fun f => (q3 f).trans (p3 f), q4.trans p4, q5.trans p5, q6.trans p6, q7.trans p7, q8.trans p8⟩
theorem ech.cu {x : Nat} {A : Nat → Nat} {n : Nat} {w w1 : ZW} (h : ech (XSt A n) w w1) : ecu x A n w w1 := ⟨h.1, h.2.1, h.2.2.1, fun a ha => by
  have e := h.2.2.2 a ha
  exact ⟨fun f _ _ => e.i f, e.r, e.f, e.a, e.q, e.g, e.2.2.2.2.2.2.2.2.1, e.2.2.2.2.2.2.2.2.2⟩⟩
theorem eqx.cu {x : Nat} {A : Nat → Nat} {n : Nat} {w w1 : ZW} (h : eqx w w1) : ecu x A n w w1 := by
  obtain ⟨e1, e2, e3, e4, e5, e6, e7, e8, e9, e10, e11⟩ := h
  exact ⟨e1, e2, e3, fun a _ => ⟨fun f g _ => e4 f a g, fun f => by rw [e5], fun f => by rw [e6], by rw [e7], by rw [e8], by rw [e9], by rw [e10], by rw [e11]⟩⟩
