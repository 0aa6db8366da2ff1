/-! ===== a desk gets an element ===== -/
def newF (w' : ZW) (e n : Nat) (po : Option Nat) (tg id cl va vc vl ix : Nat) : Prop := zk w' e = 3 ∧ (True ∧ zr w' 300 e = po ∧ zi w' 301 e = nI tg ∧ zi w' 302 e = nI id ∧ zi w' 303 e = nI cl ∧ zi w' 304 e = nI (2 ^ n) ∧ zi w' 305 e = nI va ∧ zi w' 306 e = nI vc ∧ zi w' 307 e = nI vl) ∧ (zi w' 308 e = nI ix ∧ zr w' 309 e = some (e + 1) ∧ zi w' 310 e = nI 0 ∧ zi w' 311 e = nI 0) ∧ isSty w' (e + 1) ∧ (∀ i, za w' (e + 7) i = 0) ∧ (∀ i, zg w' (e + 8) i = 0)
theorem newF.z {w w' : ZW} {e n : Nat} {po : Option Nat} {tg id cl va vc vl ix : Nat} (h : newF w e n po tg id cl va vc vl ix) (f : ∀ j, j < 9 → zeq w w' (e + j)) : newF w' e n po tg id cl va vc vl ix := by
  obtain ⟨h1, ⟨a1, a2, a3, a4, a5, a6, a7, a8, a9⟩, ⟨b1, b2, b3, b4⟩, h4, h5, h6⟩ := h
  have f0 := f 0 (by decide)
  exact ⟨f0.k.trans h1, ⟨a1, (f0.r _).trans a2, (f0.i _).trans a3, (f0.i _).trans a4, (f0.i _).trans a5, (f0.i _).trans a6, (f0.i _).trans a7, (f0.i _).trans a8, (f0.i _).trans a9⟩, ⟨(f0.i _).trans b1, (f0.r _).trans b2, (f0.i _).trans b3, (f0.i _).trans b4⟩, h4.z (fun i hi => by rw [Nat.add_assoc]; exact f (1 + i) (by omega)), fun i => by rw [(f 7 (by decide)).a]; exact h5 i, fun i => by rw [(f 8 (by decide)).g]; exact h6 i⟩
theorem el_I {w w' : ZW} {x : Nat} {T : List PEl} {Rs : List PRule} {B : List Nat} {A Lo Bk : Nat → Nat} {DC : Nat → PDecl → Prop} {RG : Nat → Nat → Prop} {K : PKn} (hB : dskB w x B) (hR : isRk w (x + 7)) (hok : okRs Rs) (h : dskE w x T Rs A Lo Bk DC RG K) (v : PEl) (hn : T.length < 24) (hp : ∀ p, v.1 = some p → p < T.length) (v1 : v.2.1 < 128) (v2 : v.2.2.1 < 128) (v3 : v.2.2.2 < 256) (hsz : zsz w' = zsz w + 9)
    (f2 : ∀ b, b < zsz w → b ≠ x → b ≠ x + 1 → (∀ q, v.1 = some q → b ≠ A q) → zeq w w' b)
    (f3 : zk w' x = zk w x ∧ (∀ f, zr w' f x = zr w f x) ∧ zi w' 1001 x = nI (T.length + 1) ∧ zi w' 1003 x = zi w 1003 x ∧ zi w' 1006 x = nI 1)
    (f4 : zk w' (x + 1) = 27 ∧ zln w' (x + 1) = 24 ∧ (∀ i, i < T.length → zq w' (x + 1) i = zq w (x + 1) i) ∧ zq w' (x + 1) T.length = some (zsz w))
    (f5 : ∀ q, v.1 = some q → zk w' (A q) = 3 ∧ (∀ f, zr w' f (A q) = zr w f (A q)) ∧ (∀ f, f ≠ 310 → f ≠ 311 → zi w' f (A q) = zi w f (A q)) ∧ zi w' 310 (A q) = nI (kidS T q ||| 2 ^ T.length) ∧ zi w' 311 (A q) = nI (2 ^ T.length))
    (f6 : newF w' (zsz w) T.length (v.1.map A) v.2.1 v.2.2.1 v.2.2.2 (abvS (T ++ [v]) T.length) (befS (T ++ [v]) T.length) (jusS (T ++ [v]) T.length) (idxT (T ++ [v]) T.length)) : dskI w' x (T ++ [v]) Rs B := by
  obtain ⟨⟨hl, hD, hT, hA, hSt, hF⟩, hlR, hRA, hU, ⟨hK, hK2⟩, ⟨hz1, hz2⟩, hDC⟩ := h
  obtain ⟨b1, b2, b3⟩ := hB
  have hwf := hT.1
  have hpa : ∀ q, v.1 = some q → x + 56 ≤ A q ∧ A q + 9 ≤ zsz w := fun q hq => ⟨hl.1 q (hp q hq), hz1 q (hp q hq)⟩
  have fx : ∀ j, 2 ≤ j → j < 13 → zeq w w' (x + j) := fun j h1 h2 => f2 _ (by omega) (by omega) (by omega) (fun q hq => by have := hpa q hq; omega)
  have fo : ∀ j, 24 ≤ zk w (x + j) → 2 ≤ j → x + j < zsz w → zeq w w' (x + j) := fun j h0 h1 h2 => f2 _ h2 (by omega) (by omega) (fun q hq c => by have h3 := (hT.2 q (hp q hq)).1; rw [c, h3] at h0; omega)
  have fs : ∀ i j, i < T.length → 1 ≤ j → j < 9 → zeq w w' (A i + j) := fun i j hi h1 h2 => by
    have g1 := hz1 i hi
    have g2 := hl.1 i hi
    refine f2 _ (by omega) (by omega) (by omega) (fun q hq => ?_)
    rcases Nat.lt_trichotomy q i with c | c | c
    · have := hl.2.1 q i c hi; omega
    · subst c; omega
    · have := hl.2.1 i q c (hp q hq); omega
  have fr : ∀ lo hi b, RG lo hi → lo ≤ b → b < hi → zeq w w' b := fun lo hi b g1 g2 g3 => by
    have q1 := hz2 lo hi g1
    obtain ⟨q2, q3⟩ := hl.2.2 lo hi g1
    refine f2 _ (by omega) (by omega) (by omega) (fun q hq => ?_)
    rcases q3 q (hp q hq) with c | c <;> omega
  have hlen : (T ++ [v]).length = T.length + 1 := by rw [List.length_append]; rfl
  have hwf' := wfT_app hwf hn hp v1 v2 v3
  let A' : Nat → Nat := fun k => if k < T.length then A k else zsz w
  have A1 : ∀ k, k < T.length → A' k = A k := fun k hk => if_pos hk
  have A2 : A' T.length = zsz w := if_neg (Nat.lt_irrefl _)
  have hmap : ∀ o : Option Nat, (∀ p, o = some p → p < T.length) → o.map A' = o.map A := fun o ho => by
    cases o with
    | none => rfl
    | some p => exact congrArg some (A1 p (ho p rfl))
  refine ⟨⟨by omega, b2.fr (fx 3 (by decide) (by decide)) (fx 4 (by decide) (by decide)) (fx 5 (by decide) (by decide)) (fx 6 (by decide) (by decide)), b3.1.z (fx 3 (by decide) (by decide)) (fx 4 (by decide) (by decide)), b3.2.z (by omega) (fo 54 (Nat.le_of_eq b3.2.2.1.symm) (by decide) (by have := b3.2.1; omega)) (fo 55 (by rw [b3.2.2.2.2.1]; decide) (by decide) (by have := b3.2.1; omega))⟩, hR.z (fun i hi => by rw [Nat.add_assoc]; exact fx (7 + i) (by omega) (by omega)), hok, A', Lo, Bk, DC, RG, fun e i => if e = T.length then (0, 0) else K e i, ⟨⟨⟨?_, ?_, ?_⟩, ?_, ⟨hwf', ?_⟩, ?_, ?_, hF.z fr⟩, hlR, hRA.z (fx 2 (by decide) (by decide)), fun k R hRk => ?_, ⟨?_, ?_⟩, ⟨?_, fun lo hi q => by have := hz2 lo hi q; omega⟩, hDC⟩, Or.inl f3.2.2.2.2⟩
  · intro k hk
    rw [hlen] at hk
    by_cases c : k < T.length
    · rw [A1 k c]; exact hl.1 k c
    · show x + 56 ≤ if k < T.length then A k else zsz w
      rw [if_neg c]; exact b1
  · intro i k hik hk
    rw [hlen] at hk
    rw [A1 i (by omega)]
    by_cases c : k < T.length
    · rw [A1 k c]; exact hl.2.1 i k hik c
    · show A i + 9 ≤ if k < T.length then A k else zsz w
      rw [if_neg c]; exact hz1 i (by omega)
  · intro lo hi hr
    refine ⟨(hl.2.2 lo hi hr).1, fun k hk => ?_⟩
    rw [hlen] at hk
    by_cases c : k < T.length
    · rw [A1 k c]; exact (hl.2.2 lo hi hr).2 k c
    · show (if k < T.length then A k else zsz w) + 9 ≤ lo ∨ hi ≤ if k < T.length then A k else zsz w
      rw [if_neg c]; exact Or.inr (hz2 lo hi hr)
  · obtain ⟨d1, d2, d3, d4, d5, d6, d7⟩ := hD
    rw [hlen]
    exact ⟨f3.1.trans d1, (f3.2.1 _).trans d2, f3.2.2.1, (f3.2.1 _).trans d4, f3.2.2.2.1.trans d5, (f3.2.1 _).trans d6, (f3.2.1 _).trans d7⟩
  · intro k hk
    rw [hlen] at hk
    by_cases c : k < T.length
    · obtain ⟨e1, e2, e3, e4, e5, e6, e7, e8, e9, e10, e11, e12, e13, e14⟩ := hT.2 k c
      obtain ⟨o1, o2, o3, o4, o5, o6⟩ := old_sets hwf (v := v) c
      unfold isEl
      rw [A1 k c, tP_app c, hmap _ (fun p hp9 => by have := hwf.2.1 k p hp9; omega), show tG (T ++ [v]) k = tG T k by unfold tG; rw [tE_app c], show tI (T ++ [v]) k = tI T k by unfold tI; rw [tE_app c], show tC (T ++ [v]) k = tC T k by unfold tC; rw [tE_app c], o1, o2, o3, o4, o5, o6]
      by_cases cq : v.1 = some k
      · obtain ⟨g1, g2, g3, g4, g5⟩ := f5 k cq
        rw [if_pos cq, if_pos cq]
        exact ⟨g1, e2, (g2 _).trans e3, (g3 _ (by decide) (by decide)).trans e4, (g3 _ (by decide) (by decide)).trans e5, (g3 _ (by decide) (by decide)).trans e6, (g3 _ (by decide) (by decide)).trans e7, (g3 _ (by decide) (by decide)).trans e8, (g3 _ (by decide) (by decide)).trans e9, (g3 _ (by decide) (by decide)).trans e10, (g3 _ (by decide) (by decide)).trans e11, (g2 _).trans e12, g4, g5⟩
      · have z : zeq w w' (A k) := by
          have g1 := hz1 k c
          have g2 := hl.1 k c
          refine f2 _ (by omega) (by omega) (by omega) (fun q hq => ?_)
          rcases Nat.lt_trichotomy q k with cc | cc | cc
          · have := hl.2.1 q k cc c; omega
          · subst cc; exact absurd hq cq
          · have := hl.2.1 k q cc (hp q hq); omega
        rw [if_neg cq, if_neg cq]
        exact ⟨z.k.trans e1, e2, (z.r _).trans e3, (z.i _).trans e4, (z.i _).trans e5, (z.i _).trans e6, (z.i _).trans e7, (z.i _).trans e8, (z.i _).trans e9, (z.i _).trans e10, (z.i _).trans e11, (z.r _).trans e12, (z.i _).trans e13, (z.i _).trans e14⟩
    · have hk2 : k = T.length := by omega
      subst hk2
      obtain ⟨n1, ⟨a1, a2, a3, a4, a5, a6, a7, a8, a9⟩, ⟨c1, c2, c3, c4⟩, -, -, -⟩ := f6
      obtain ⟨s1, s2, -⟩ := new_sets hwf (v := v) (by omega) hp
      unfold isEl
      rw [A2, tP_new, hmap _ hp, show tG (T ++ [v]) T.length = v.2.1 by unfold tG; rw [tE_new], show tI (T ++ [v]) T.length = v.2.2.1 by unfold tI; rw [tE_new], show tC (T ++ [v]) T.length = v.2.2.2 by unfold tC; rw [tE_new], s1, s2]
      exact ⟨n1, a1, a2, a3, a4, a5, a6, a7, a8, a9, c1, c2, c3, c4⟩
  · refine ⟨f4.1, f4.2.1, fun i hi => ?_⟩
    rw [hlen] at hi
    by_cases c : i < T.length
    · rw [A1 i c, f4.2.2.1 i c]
      exact hA.2.2 i c
    · have hk2 : i = T.length := by omega
      subst hk2
      rw [A2]
      exact f4.2.2.2
  · intro i hi
    rw [hlen] at hi
    by_cases c : i < T.length
    · rw [A1 i c]
      exact (hSt i c).z (fun j hj => by rw [Nat.add_assoc]; exact fs i (1 + j) c (by omega) (by omega))
    · have hk2 : i = T.length := by omega
      subst hk2
      rw [A2]
      exact f6.2.2.2.1
  · have := hlR k (List.getElem?_eq_some_iff.mp hRk).1
    exact (hU k R hRk).z hF this.1 this.2.1 fr
  · intro i hi j hj
    rw [hlen] at hi
    by_cases c : i < T.length
    · rw [A1 i c, (fs i 7 c (by decide) (by decide)).a, (fs i 8 c (by decide) (by decide)).g]
      simp only []
      rw [if_neg (by omega)]
      exact hK i c j hj
    · have hk2 : i = T.length := by omega
      subst hk2
      rw [A2]
      simp only [if_true]
      exact ⟨f6.2.2.2.2.1 j, f6.2.2.2.2.2 j⟩
  · intro e i
    show (if e = T.length then (0, 0) else K e i).1 ≤ 4 ∧ ((if e = T.length then (0, 0) else K e i).1 ≤ 1 → fFin (if e = T.length then (0, 0) else K e i).2)
    by_cases c : e = T.length
    · rw [if_pos c]
      exact ⟨by decide, fun _ => fFin_ini 0⟩
    · rw [if_neg c]
      exact hK2 e i
  · intro i hi
    rw [hlen] at hi
    by_cases c : i < T.length
    · rw [A1 i c, hsz]
      have := hz1 i c
      omega
    · have hk2 : i = T.length := by omega
      subst hk2
      rw [A2, hsz]
      exact Nat.le_refl _
