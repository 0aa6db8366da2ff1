/-! ===== the model: sums, what is needed ===== -/
/-- the model's sign for a step -/
def cvC (s : Nat) : Nat := if s ≤ 3 then s else if s ≤ 8 then s + 4 else s - 5
def cvS (p : PStep) : PStep := (cvC p.1, p.2)
def z0S (x : Nat) : PStep := (x, 0)
/-- the top is weaker than s -/
def lowB (s : Nat) : List Nat → Prop
  | [] => True
  | x :: _ => strN x < s
theorem lowB.mono {s t : Nat} : ∀ {B : List Nat}, lowB s B → s ≤ t → lowB t B
  | [], _, _ => trivial
  | x :: _, h, hs => Nat.lt_of_lt_of_le h hs
theorem pr_low {s : Nat} : ∀ {B : List Nat}, lowB s B → prO s B = [] ∧ prW s B = B
  | [], _ => ⟨rfl, rfl⟩
  | x :: _, h => ⟨if_neg (Nat.not_le_of_lt h), if_neg (Nat.not_le_of_lt h)⟩
theorem pr_app {s : Nat} {B : List Nat} (hB : lowB s B) : ∀ {Pd : List Nat}, (∀ x ∈ Pd, s ≤ strN x) → prO s (Pd ++ B) = Pd.map z0S ∧ prW s (Pd ++ B) = B
  | [], _ => pr_low hB
  | x :: Pd, h => by
    obtain ⟨i1, i2⟩ := pr_app (s := s) hB (Pd := Pd) (fun y hy => h y (List.mem_cons_of_mem _ hy))
    have hx := h x List.mem_cons_self
    refine ⟨?_, ?_⟩
    · show (if s ≤ strN x then (x, 0) :: prO s (Pd ++ B) else []) = _
      rw [if_pos hx, i1]
      rfl
    · show (if s ≤ strN x then prW s (Pd ++ B) else x :: (Pd ++ B)) = _
      rw [if_pos hx, i2]
theorem ng_n {B : List Nat} (hB : lowB 3 B) : ∀ (j : Nat), negsN (List.replicate j 8 ++ B) = j
  | 0 => by
    cases B with
    | nil => rfl
    | cons x B =>
      refine if_neg (fun e => ?_)
      subst e
      exact absurd (show strN 8 < 3 from hB) (by decide)
  | j + 1 => by
    show (if (8 : Nat) = 8 then negsN (List.replicate j 8 ++ B) + 1 else 0) = _
    rw [if_pos rfl, ng_n hB j]
theorem ng_p {B : List Nat} (hB : lowB 3 B) (j : Nat) : prO 3 (List.replicate j 8 ++ B) = (List.replicate j 8).map z0S ∧ prW 3 (List.replicate j 8 ++ B) = B := pr_app hB (fun x hx => by
  rw [List.eq_of_mem_replicate hx]
  decide)
/-- the signs out, behind the first N -/
def smG (sg0 sg : ZM) (N : Nat) (out : List PStep) : Prop := (∀ j, j ≠ 14 → j ≠ 15 → j ≠ 32 → mi sg j = mi sg0 j) ∧ mi sg 32 = nI (N + out.length) ∧ (∀ j i, ¬ (j = 21 ∧ N ≤ i) → j ≠ 23 → ma sg j i = ma sg0 j i) ∧ (∀ j i, ¬ (j = 22 ∧ N ≤ i) → mg sg j i = mg sg0 j i) ∧ ∀ i q, out[i]? = some q → ma sg 21 (N + i) = nI q.1 ∧ mg sg 22 (N + i) = q.2
theorem smG.rf {sg : ZM} {N : Nat} (h : mi sg 32 = nI N) : smG sg sg N [] := ⟨fun _ _ _ _ => rfl, h, fun _ _ _ _ => rfl, fun _ _ _ => rfl, fun i q hq => (by cases hq)⟩
theorem smG.mv {sg0 a b : ZM} {N : Nat} {out : List PStep} (h : smG sg0 a N out) (v : mvC a b) : smG sg0 b N out := by
  obtain ⟨h1, h2, h3, h4, h5⟩ := h
  obtain ⟨v1, v2, v3⟩ := v
  refine ⟨fun j p q r => (v1 j p q).trans (h1 j p q r), (v1 32 (by decide) (by decide)).trans h2, ?_, ?_, ?_⟩
  · rw [v2]; exact h3
  · rw [v3]; exact h4
  · rw [v2, v3]; exact h5
theorem smG.ad {sg0 a b : ZM} {N : Nat} {out l : List PStep} (h : smG sg0 a N out) (g : adS a b (N + out.length) l) : smG sg0 b N (out ++ l) := by
  obtain ⟨h1, h2, h3, h4, h5⟩ := h
  obtain ⟨g1, g2, g3, g4, g5⟩ := g
  refine ⟨fun j p q r => (g1 j r).trans (h1 j p q r), by rw [List.length_append, ← Nat.add_assoc]; exact g2, fun j i p q => (g3 j i (fun z => p ⟨z.1, by omega⟩)).trans (h3 j i p q), fun j i p => (g4 j i (fun z => p ⟨z.1, by omega⟩)).trans (h4 j i p), fun i q hq => ?_⟩
  rcases Nat.lt_or_ge i out.length with c9 | c9
  · rw [List.getElem?_append_left c9] at hq
    obtain ⟨e1, e2⟩ := h5 i q hq
    exact ⟨(g3 21 (N + i) (fun z => by omega)).trans e1, (g4 22 (N + i) (fun z => by omega)).trans e2⟩
  · rw [List.getElem?_append_right c9] at hq
    have := g5 (i - out.length) q hq
    rw [show N + out.length + (i - out.length) = N + i by omega] at this
    exact this
theorem smG.wt {sg0 a : ZM} {N i : Nat} {v : Int32} {out : List PStep} (h : smG sg0 a N out) : smG sg0 (msa a 23 i v) N out := by
  obtain ⟨h1, h2, h3, h4, h5⟩ := h
  refine ⟨h1, h2, fun j k p q => ?_, h4, fun k q hq => ?_⟩
  · rw [ma_msa, if_neg (fun z => q z.1)]
    exact h3 j k p q
  · rw [ma_msa, if_neg (fun z => absurd z.1 (by decide))]
    exact h5 k q hq
theorem wtG.mv {a b : ZM} {W : List Nat} (h : wtG a W) (v : mvC a b) : wtG b W := h.fr (fun i _ => by rw [v.2.1])
theorem wtG.ad {a b : ZM} {W : List Nat} {n : Nat} {l : List PStep} (h : wtG a W) (g : adS a b n l) : wtG b W := h.fr (fun i _ => g.2.2.1 23 i (fun z => absurd z.1 (by decide)))
theorem wtG.push {a : ZM} {W : List Nat} {x : Nat} (h : wtG a W) (hx : x < 128) : wtG (msa a 23 W.length (nI x)) (x :: W) := by
  refine ⟨?_, hx, h.fr (fun i hi => ?_)⟩
  · rw [ma_msa, if_pos ⟨rfl, rfl⟩]
  · rw [ma_msa, if_neg (fun z => by omega)]
theorem wtG.tl {a : ZM} {s : Nat} : ∀ {W : List Nat}, wtG a W → wtG a (prW s W)
  | [], h => h
  | x :: W, h => by
    show wtG a (if s ≤ strN x then prW s W else x :: W)
    split
    · exact wtG.tl h.2.2
    · exact h
theorem pr_len (s : Nat) : ∀ (W : List Nat), (prO s W).length + (prW s W).length = W.length
  | [] => rfl
  | x :: W => by
    show (if s ≤ strN x then (x, (0 : UInt32)) :: prO s W else []).length + (if s ≤ strN x then prW s W else x :: W).length = _
    split
    · rw [List.length_cons, List.length_cons]
      have := pr_len s W
      omega
    · exact Nat.zero_add _
theorem cuO.ds {a b : ZM} {f m n : Nat} {l : List PStep} {o : Option (List Nat)} (h : cuO a f m o) (g : adS a b n l) : cuO b f m o := h.tab (fun i => g.2.2.1 7 i (fun z => absurd z.1 (by decide))) (g.1 12 (by decide)) (g.1 13 (by decide)) (g.1 14 (by decide)) (g.1 15 (by decide))
theorem cuO.wt {a : ZM} {f m i : Nat} {v : Int32} {o : Option (List Nat)} (h : cuO a f m o) : cuO (msa a 23 i v) f m o := h.tab (fun k => by rw [ma_msa, if_neg (fun z => absurd z.1 (by decide))]) rfl rfl rfl rfl
/-- the state of readSum, all good -/
def ssI (sg0 sg : ZM) (N f : Nat) (out : List PStep) (W r : List Nat) : Prop := smG sg0 sg N out ∧ wtG sg W ∧ cuG sg f r ∧ N + out.length + W.length + r.length ≤ 125
/-- nothing, or stuck before a digit -/
def stB (o : Option (List PStep × List Nat)) : Prop := o = none ∨ ∃ l r', o = some (l, r') ∧ (pDig r').isSome = true
theorem ch_ne {c : Nat} {r : List Nat} (h : hdN r ≠ c) : pCh c r = none := by
  cases r with
  | nil => rfl
  | cons x r => exact if_neg h
theorem ch_eq {c : Nat} {r : List Nat} : pCh c (c :: r) = some r := if_pos rfl
theorem pl_stop {f : List Nat → Option (List PStep × List Nat)} {n : Nat} {acc : List PStep} {r : List Nat} (h1 : hdN r ≠ 42) (h2 : hdN r ≠ 47) : pProdL f n acc r = some (acc, r) := by
  cases n with
  | zero => rfl
  | succ n =>
    unfold pProdL
    rw [ch_ne h1, ch_ne h2]
theorem sl_stop {f : List Nat → Option (List PStep × List Nat)} {n : Nat} {acc : List PStep} {r : List Nat} (h1 : hdN r ≠ 43) (h2 : hdN r ≠ 45) : pSumL f n acc r = some (acc, r) := by
  cases n with
  | zero => rfl
  | succ n =>
    unfold pSumL
    rw [ch_ne h1, ch_ne h2]
theorem pl_go {f : List Nat → Option (List PStep × List Nat)} {n c x : Nat} {acc : List PStep} {r : List Nat} (hc : (c = 42 ∧ x = 7) ∨ (c = 47 ∧ x = 8)) : pProdL f (n + 1) acc (c :: r) = (match f r with
    | none => none
    | some (s, r2) => pProdL f n (acc ++ s ++ [(x, 0)]) r2) := by
  rcases hc with ⟨rfl, rfl⟩ | ⟨rfl, rfl⟩
  · conv => lhs; unfold pProdL
    rw [ch_eq]
    rfl
  · conv => lhs; unfold pProdL
    rw [ch_ne (c := 42) (r := 47 :: r) (by decide : (47 : Nat) ≠ 42), ch_eq]
    rfl
theorem sl_go {f : List Nat → Option (List PStep × List Nat)} {n c x : Nat} {acc : List PStep} {r : List Nat} (hc : (c = 43 ∧ x = 5) ∨ (c = 45 ∧ x = 6)) : pSumL f (n + 1) acc (c :: r) = (match pProd f r with
    | none => none
    | some (s, r2) => pSumL f n (acc ++ s ++ [(x, 0)]) r2) := by
  rcases hc with ⟨rfl, rfl⟩ | ⟨rfl, rfl⟩
  · conv => lhs; unfold pSumL
    rw [ch_eq]
    rfl
  · conv => lhs; unfold pSumL
    rw [ch_ne (c := 43) (r := 45 :: r) (by decide : (45 : Nat) ≠ 43), ch_eq]
    rfl
theorem st_pl {f : List Nat → Option (List PStep × List Nat)} {n c x : Nat} {acc : List PStep} {r : List Nat} (hc : (c = 42 ∧ x = 7) ∨ (c = 47 ∧ x = 8)) (h : stB (f r)) : stB (pProdL f (n + 1) acc (c :: r)) := by
  rw [pl_go hc]
  rcases h with h | ⟨l, r', h, h2⟩
  · rw [h]
    exact Or.inl rfl
  · rw [h]
    have := dg_hd h2
    exact Or.inr ⟨_, r', pl_stop (by omega) (by omega), h2⟩
theorem st_pr {f : List Nat → Option (List PStep × List Nat)} {r : List Nat} (h : stB (f r)) : stB (pProd f r) := by
  unfold pProd
  rcases h with h | ⟨l, r', h, h2⟩
  · rw [h]
    exact Or.inl rfl
  · rw [h]
    have := dg_hd h2
    exact Or.inr ⟨_, r', pl_stop (by omega) (by omega), h2⟩
theorem st_sl {f : List Nat → Option (List PStep × List Nat)} {n c x : Nat} {acc : List PStep} {r : List Nat} (hc : (c = 43 ∧ x = 5) ∨ (c = 45 ∧ x = 6)) (h : stB (pProd f r)) : stB (pSumL f (n + 1) acc (c :: r)) := by
  rw [sl_go hc]
  rcases h with h | ⟨l, r', h, h2⟩
  · rw [h]
    exact Or.inl rfl
  · rw [h]
    have := dg_hd h2
    exact Or.inr ⟨_, r', sl_stop (by omega) (by omega), h2⟩
theorem st_sm {f : List Nat → Option (List PStep × List Nat)} {r : List Nat} (h : stB (pProd f r)) : stB (pSum f r) := by
  unfold pSum
  rcases h with h | ⟨l, r', h, h2⟩
  · rw [h]
    exact Or.inl rfl
  · rw [h]
    have := dg_hd h2
    exact Or.inr ⟨_, r', sl_stop (by omega) (by omega), h2⟩
/-! what a factor is -/
theorem pf_neg {k : Nat} {r : List Nat} : pFac (k + 1) (45 :: r) = (match pFac k r with
    | none => none
    | some (s, r2) => some (s ++ [(4, 0)], r2)) := by
  conv => lhs; unfold pFac
  rw [ch_eq]
  rfl
theorem pf_par {k : Nat} {r : List Nat} : pFac (k + 1) (40 :: r) = (match pSum (pFac k) r with
    | none => none
    | some (s, r2) => match pCh 41 r2 with
      | none => none
      | some r3 => some (s, r3)) := by
  conv => lhs; unfold pFac
  rw [ch_ne (c := 45) (r := 40 :: r) (by decide : (40 : Nat) ≠ 45), ch_eq]
  rfl
def pAtm (r : List Nat) : Option (List PStep × List Nat) := match pCh 36 r with
  | some r1 => match pNamed r1 with
    | none => none
    | some (n, r2) => some ([(9 + n, 0)], r2)
  | none => pNum r
theorem pf_atm {k : Nat} {r : List Nat} (h1 : hdN r ≠ 45) (h2 : hdN r ≠ 40) : pFac (k + 1) r = pAtm r := by
  conv => lhs; unfold pFac
  rw [ch_ne h1, ch_ne h2]
  rfl
theorem st_neg {k : Nat} {r : List Nat} (h : stB (pFac k r)) : stB (pFac (k + 1) (45 :: r)) := by
  rw [pf_neg]
  rcases h with h | ⟨l, r', h, h2⟩
  · rw [h]
    exact Or.inl rfl
  · rw [h]
    exact Or.inr ⟨_, r', rfl, h2⟩
theorem st_par {k : Nat} {r : List Nat} (h : stB (pSum (pFac k) r)) : stB (pFac (k + 1) (40 :: r)) := by
  rw [pf_par]
  rcases h with h | ⟨l, r', h, h2⟩
  · rw [h]
    exact Or.inl rfl
  · rw [h]
    have := dg_hd h2
    simp only []
    rw [ch_ne (show hdN r' ≠ 41 by omega)]
    exact Or.inl rfl
theorem pNamed_eq (r : List Nat) : pNamed r = (match pLet 100 r with
    | none => none
    | some (x, r2) => some (x - 97, r2)) := by
  cases r with
  | nil => rfl
  | cons c r =>
    by_cases q : 97 ≤ c ∧ c ≤ 100
    · have e1 : pLet 100 (c :: r) = some (c, r) := if_pos q
      have e2 : pNamed (c :: r) = some (c - 97, r) := if_pos q
      rw [e1, e2]
    · have e1 : pLet 100 (c :: r) = none := if_neg q
      have e2 : pNamed (c :: r) = none := if_neg q
      rw [e1, e2]
