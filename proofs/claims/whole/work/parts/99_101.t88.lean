/-! ===== a desk gets a rule ===== -/
theorem Seg.mem {α : Type} {P : Nat → α → Prop} {w : ZW} {fd : Nat} : ∀ {l : List α} {o z : Option Nat}, Seg P w fd o l z → Seg (fun a x => P a x ∧ x ∈ l) w fd o l z
  | [], o, z, h => h
  | x :: l, o, z, ⟨a, h1, h2, h3⟩ => ⟨a, h1, ⟨h2, List.mem_cons_self⟩, (Seg.mem h3).imp (fun b y g => ⟨⟨g.1, List.mem_cons_of_mem _ g.2⟩, rfl⟩)⟩
theorem rl_I {w1 w3 w' : ZW} {x z2 f g : Nat} {T : List PEl} {Rs : List PRule} {B : List Nat} {ls : List (List (Nat × PComp))} {ds : List PDecl} (h : dskI w1 x T Rs B) (hr : rdI w1 w3 x) (h12 : zsz w1 ≤ z2) (h23 : z2 ≤ zsz w3) (hn : Rs.length < 16) (hls : okSels ls) (hds : ∀ D ∈ ds, D.1 < 10 ∧ D.2.1 < 3 ∧ D.2.2.1 < 6 ∧ (D.2.1 = 2 → okD D)) (hs : Seg (isSl w3 (zsz w1) z2) w3 703 (some f) ls none) (hd : Seg (isDecl w3 z2 (zsz w3)) w3 205 (some g) ds none)
    (f1 : zsz w' = zsz w3 + 1) (f2 : ∀ c, c < zsz w3 → c ≠ x → c ≠ x + 2 → zeq w3 w' c)
    (f3 : zk w' x = zk w3 x ∧ (∀ f, zr w' f x = zr w3 f x) ∧ zi w' 1001 x = zi w3 1001 x ∧ zi w' 1003 x = nI (Rs.length + 1) ∧ zi w' 1006 x = nI 1)
    (f4 : zk w' (x + 2) = zk w3 (x + 2) ∧ zln w' (x + 2) = zln w3 (x + 2) ∧ (∀ i, i < Rs.length → zq w' (x + 2) i = zq w3 (x + 2) i) ∧ zq w' (x + 2) Rs.length = some (zsz w3))
    (f5 : zk w' (zsz w3) = 6 ∧ zr w' 600 (zsz w3) = some f ∧ zr w' 601 (zsz w3) = some g) : dskI w' x T (Rs ++ [(ls, ds)]) [] := by
  obtain ⟨r1, r2, r3, r4, r5⟩ := hr
  obtain ⟨⟨-, -, -, ho⟩, hR, hok, A, Lo, Bk, DC, RG, K, ⟨⟨hl, hD, hT, hA, hSt, hF⟩, hlR, hRA, hU, ⟨hK, hK2⟩, ⟨hz1, hz2⟩, hDC⟩, -⟩ := h
  have z : ∀ c, c < zsz w1 → c ≠ x → c ≠ x + 2 → c ≠ x + 3 → c ≠ x + 5 → c ≠ x + 6 → zeq w1 w' c := fun c q1 q2 q3 q4 q5 q6 => (r3 c q1 q4 q5 q6).tr (f2 c (by omega) q2 q3)
  have zx := r3 x (by omega) (by omega) (by omega) (by omega)
  have zx2 := r3 (x + 2) (by omega) (by omega) (by omega) (by omega)
  have ze : ∀ i j, i < T.length → j < 9 → zeq w1 w' (A i + j) := fun i j hi hj => by
    have g1 := hl.1 i hi
    have g2 := hz1 i hi
    exact z _ (by omega) (by omega) (by omega) (by omega) (by omega) (by omega)
  have zr9 : ∀ lo hi b, RG lo hi → lo ≤ b → b < hi → zeq w1 w' b := fun lo hi b g1 g2 g3 => by
    have q1 := hz2 lo hi g1
    have q2 := (hl.2.2 lo hi g1).1
    exact z _ (by omega) (by omega) (by omega) (by omega) (by omega) (by omega)
  have zn : ∀ c, zsz w1 ≤ c → c < zsz w3 → zeq w3 w' c := fun c q1 q2 => f2 c q2 (by omega) (by omega)
  have hlen : (Rs ++ [(ls, ds)]).length = Rs.length + 1 := by rw [List.length_append]; rfl
  let Lo' : Nat → Nat := fun k => if k < Rs.length then Lo k else zsz w1
  let Bk' : Nat → Nat := fun k => if k < Rs.length then Bk k else zsz w3
  have L1 : ∀ k, k < Rs.length → Lo' k = Lo k := fun k hk => if_pos hk
  have L2 : Lo' Rs.length = zsz w1 := if_neg (Nat.lt_irrefl _)
  have B1 : ∀ k, k < Rs.length → Bk' k = Bk k := fun k hk => if_pos hk
  have B2 : Bk' Rs.length = zsz w3 := if_neg (Nat.lt_irrefl _)
  have hS4 : TBs w' (x + 3) (x + 4) (x + 5) (x + 6) := r4.fr (f2 _ (by omega) (by omega) (by omega)) (f2 _ (by omega) (by omega) (by omega)) (f2 _ (by omega) (by omega) (by omega)) (f2 _ (by omega) (by omega) (by omega))
  have hF' : okDF w' (fun a D => DC a D ∨ (isDecl w3 z2 (zsz w3) a D ∧ D ∈ ds)) (fun lo hi => RG lo hi ∨ (lo = zsz w1 ∧ hi = zsz w3 + 1)) := fun a D q => by
    rcases q with q | ⟨q1, q2⟩
    · obtain ⟨g1, g2, g3, lo, hi, g4, g5⟩ := hF.z zr9 a D q
      exact ⟨g1, g2, g3, lo, hi, Or.inl g4, g5⟩
    · obtain ⟨g1, g2, g3, -⟩ := hds D q2
      exact ⟨g1, g2, g3, _, _, Or.inr ⟨rfl, rfl⟩, q1.fr (by omega) (by omega) (fun b g4 g5 => zn b (by have := q1.1; omega) g5)⟩
  refine ⟨⟨by omega, hS4, ⟨hS4.1, hS4.2.1, hS4.2.2.2.2.1, hS4.2.2.2.2.2.1, ((f2 (x + 3) (by omega) (by omega) (by omega)).i _).trans r5, Nat.zero_le _, fun i c q => (by cases q), fun c hc => (by cases hc)⟩, ho.z (by omega) (z _ (by have := ho.1; omega) (by omega) (by omega) (by omega) (by omega) (by omega)) (z _ (by have := ho.1; omega) (by omega) (by omega) (by omega) (by omega) (by omega))⟩, hR.z (fun i hi => z _ (by omega) (by omega) (by omega) (by omega) (by omega) (by omega)), fun R hRm => ?_, A, Lo', Bk', fun a D => DC a D ∨ (isDecl w3 z2 (zsz w3) a D ∧ D ∈ ds), fun lo hi => RG lo hi ∨ (lo = zsz w1 ∧ hi = zsz w3 + 1), K, ⟨⟨⟨hl.1, hl.2.1, fun lo hi q => ?_⟩, ?_, ⟨hT.1, fun i hi => (hT.2 i hi).z (ze i 0 hi (by decide))⟩, hA.z (z _ (by omega) (by omega) (by omega) (by omega) (by omega) (by omega)), fun i hi => (hSt i hi).z (fun j hj => by rw [Nat.add_assoc]; exact ze i (1 + j) hi (by omega)), hF'⟩, ?_, ⟨f4.1.trans (zx2.k.trans hRA.1), f4.2.1.trans (zx2.ln.trans hRA.2.1), by rw [hlen]; omega, ?_⟩, ?_, ⟨fun i hi j hj => ?_, hK2⟩, ⟨fun i hi => by have := hz1 i hi; omega, fun lo hi q => ?_⟩, fun a D q => ?_⟩, Or.inl f3.2.2.2.2⟩
  · rcases List.mem_append.mp hRm with q | q
    · exact hok R q
    · rw [List.mem_singleton] at q
      subst q
      exact ⟨hls, fun D hD h2 => (hds D hD).2.2.2 h2⟩
  · rcases q with q | ⟨rfl, rfl⟩
    · exact hl.2.2 lo hi q
    · exact ⟨r1, fun e he => Or.inl (hz1 e he)⟩
  · obtain ⟨d1, d2, d3, d4, d5, d6, d7⟩ := hD
    rw [hlen]
    exact ⟨f3.1.trans (zx.k.trans d1), (f3.2.1 _).trans ((zx.r _).trans d2), f3.2.2.1.trans ((zx.i _).trans d3), (f3.2.1 _).trans ((zx.r _).trans d4), f3.2.2.2.1, (f3.2.1 _).trans ((zx.r _).trans d6), (f3.2.1 _).trans ((zx.r _).trans d7)⟩
  · rw [hlen]
    intro k hk
    by_cases c : k < Rs.length
    · rw [L1 k c, B1 k c]
      obtain ⟨q1, q2, q3⟩ := hlR k c
      exact ⟨Or.inl q1, q2, fun j hj => by rw [B1 j (by omega)]; exact q3 j hj⟩
    · have hk2 : k = Rs.length := by omega
      subst hk2
      rw [L2, B2]
      refine ⟨Or.inr ⟨rfl, rfl⟩, by omega, fun j hj => ?_⟩
      rw [B1 j hj]
      have := hz2 _ _ (hlR j hj).1
      omega
  · rw [hlen]
    intro k hk
    by_cases c : k < Rs.length
    · rw [B1 k c, f4.2.2.1 k c, zx2.q]
      exact hRA.2.2.2 k c
    · have hk2 : k = Rs.length := by omega
      subst hk2
      rw [B2]
      exact f4.2.2.2
  · intro k R hRk
    by_cases c : k < Rs.length
    · rw [List.getElem?_append_left c] at hRk
      rw [L1 k c, B1 k c]
      obtain ⟨q1, q2, q3⟩ := hlR k c
      obtain ⟨g1, s0, d0, g2, g3, g4, g5⟩ := (hU k R hRk).z hF q1 q2 zr9
      exact ⟨g1, s0, d0, g2, g3, g4, g5.imp (fun a D q => ⟨Or.inl q, rfl⟩)⟩
    · have hk3 := (List.getElem?_eq_some_iff.mp hRk).1
      rw [hlen] at hk3
      have hk2 : k = Rs.length := by omega
      subst hk2
      rw [List.getElem?_append_right (Nat.le_refl _), Nat.sub_self] at hRk
      cases hRk
      rw [L2, B2]
      refine ⟨f5.1, f, g, f5.2.1, f5.2.2, hs.imp (fun a l q => ?_), hd.mem.imp (fun a D q => ⟨Or.inr q, (zn a (by have := q.1.1; omega) q.1.2.1).r 205⟩)⟩
      have g1 := q.1
      have g2 := q.2.1
      have g3 := q.fr (w' := w') (fun b y1 y2 => zn b y1 (by omega))
      refine ⟨⟨g3.1, by omega, g3.2.2⟩, (zn a g1 (by omega)).r 703⟩
  · rw [(ze i 7 hi (by decide)).a, (ze i 8 hi (by decide)).g]
    exact hK i hi j hj
  · rcases q with q | ⟨rfl, rfl⟩
    · have := hz2 lo hi q; omega
    · omega
  · intro h2
    rcases q with q | ⟨q1, q2⟩
    · exact hDC a D q h2
    · exact (hds D q2).2.2.2 h2
