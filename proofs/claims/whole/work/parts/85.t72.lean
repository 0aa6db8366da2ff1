/-! ===== the desk as a whole ===== -/
abbrev ldD (T : List PEl) (Rs : List PRule) : Nat → Nat → PLd := leadN T Rs Rs.length
noncomputable abbrev vD (T : List PEl) (Rs : List PRule) : Nat → Nat → UInt32 := vV T (ldD T Rs)
def okRs (Rs : List PRule) : Prop := ∀ R ∈ Rs, okSels R.1 ∧ ∀ D ∈ R.2, D.2.1 = 2 → okD D
theorem offD_mem {wt : Int32} {k : Nat} : ∀ {ds : List PDecl} {L : Nat → PLd} {P : PDecl → Prop}, (∀ D ∈ ds, P D) → (∀ n j D w, L n = some (j, D, w) → P D) → ∀ n j D w, offD wt k ds L n = some (j, D, w) → P D
  | [], L, P, _, h2, n, j, D, w, h => h2 n j D w h
  | D0 :: ds, L, P, h1, h2, n, j, D, w, h => by
    unfold offD at h
    refine offD_mem (fun x hx => h1 x (List.mem_cons_of_mem _ hx)) (fun n' j' D' w' h' => ?_) n j D w h
    by_cases c : n' = D0.1
    · subst c
      simp only [if_true] at h'
      unfold offO at h'
      split at h'
      · cases h'
        exact h1 _ List.mem_cons_self
      · rename_i k0 D1 w1 he
        split at h'
        · cases h'
          exact h1 _ List.mem_cons_self
        · cases h'
          exact h2 _ _ _ _ he
    · simp only [if_neg c] at h'
      exact h2 _ _ _ _ h'
theorem leadN_mem {T : List PEl} {Rs : List PRule} {P : PDecl → Prop} (hP : ∀ R ∈ Rs, ∀ D ∈ R.2, P D) : ∀ (k e n j : Nat) (D : PDecl) (w : Int32), leadN T Rs k e n = some (j, D, w) → P D
  | 0, e, n, j, D, w, h => by cases h
  | k + 1, e, n, j, D, w, h => by
    unfold leadN at h
    cases hR : Rs[k]? with
    | none => rw [hR] at h; exact leadN_mem hP k e n j D w h
    | some R =>
      rw [hR] at h
      simp only [] at h
      unfold entR at h
      split at h
      · exact leadN_mem hP k e n j D w h
      · exact offD_mem (hP R (List.mem_of_getElem? hR)) (fun n' j' D' w' h' => leadN_mem hP k e n' j' D' w' h') n j D w h
theorem okL_ld {T : List PEl} {Rs : List PRule} (h : okRs Rs) : okL (ldD T Rs) := fun e n k D wt hL h2 s hs => by
  have := leadN_mem (P := fun D => D.2.1 = 2 → okD D) (fun R hR D hD => (h R hR).2 D hD) Rs.length e n k D wt hL h2
  exact this.2.2 s hs
def cchD (w : ZW) (x : Nat) (T : List PEl) (Rs : List PRule) (A Lo Bk : Nat → Nat) (DC : Nat → PDecl → Prop) : Prop := zi w 1006 x = nI 1 ∨ (zi w 1006 x = nI 0 ∧ caught w x T A Rs Lo Bk DC ∧ ∀ e, e < T.length → ∀ p, p < 6 → za w (A e + 6) p = nI 4 ∨ stdE w A T (ldD T Rs) (vD T Rs) e p)
/-- elements, rules, what the rows of named values hold -/
def dskE (w : ZW) (x : Nat) (T : List PEl) (Rs : List PRule) (A Lo Bk : Nat → Nat) (DC : Nat → PDecl → Prop) (RG : Nat → Nat → Prop) (K : PKn) : Prop := envA w x Rs.length T A DC RG ∧ layR Rs.length Lo Bk RG ∧ isRA w x Bk Rs.length ∧ rulesU w Rs Lo Bk DC ∧ (nkW w T.length A K ∧ okK K) ∧ ((∀ e, e < T.length → A e + 9 ≤ zsz w) ∧ (∀ lo hi, RG lo hi → hi ≤ zsz w)) ∧ ∀ a D, DC a D → D.2.1 = 2 → okD D
/-- the law's two rows for answers, of longs and of doubles -/
def zOut (w : ZW) (o : Nat) : Prop := o + 2 ≤ zsz w ∧ zk w o = 24 ∧ zln w o = 1 ∧ zk w (o + 1) = 25 ∧ zln w (o + 1) = 1
theorem zOut.z {w w' : ZW} {o : Nat} (h : zOut w o) (hz : zsz w ≤ zsz w') (e1 : zeq w w' o) (e2 : zeq w w' (o + 1)) : zOut w' o := ⟨Nat.le_trans h.1 hz, e1.k.trans h.2.1, e1.ln.trans h.2.2.1, e2.k.trans h.2.2.2.1, e2.ln.trans h.2.2.2.2⟩
theorem zOut.e {w w' : ZW} {o : Nat} (h : zOut w o) (h1 : zsz w' = zsz w) (h2 : zk w' = zk w) (h3 : zln w' = zln w) : zOut w' o := by
  unfold zOut at h ⊢
  rw [h1, h2, h3]
  exact h
def dskB (w : ZW) (x : Nat) (B : List Nat) : Prop := x + 56 ≤ zsz w ∧ TBs w (x + 3) (x + 4) (x + 5) (x + 6) ∧ TBf w (x + 3) (x + 4) B ∧ zOut w (x + 54)
/-- the desk x holds these elements, rules, characters -/
def dskI (w : ZW) (x : Nat) (T : List PEl) (Rs : List PRule) (B : List Nat) : Prop := dskB w x B ∧ isRk w (x + 7) ∧ okRs Rs ∧ ∃ A Lo Bk DC RG K, dskE w x T Rs A Lo Bk DC RG K ∧ cchD w x T Rs A Lo Bk DC
theorem dskE.ne {w : ZW} {x : Nat} {T : List PEl} {Rs : List PRule} {A Lo Bk : Nat → Nat} {DC : Nat → PDecl → Prop} {RG : Nat → Nat → Prop} {K : PKn} (h : dskE w x T Rs A Lo Bk DC RG K) (hx : x + 56 ≤ zsz w) : ∀ b, dY x T.length A RG b → b < zsz w ∧ (b < x + 3 ∨ x + 56 ≤ b) := fun b hb => by
  obtain ⟨⟨hl, -⟩, -, -, -, -, ⟨h1, h2⟩, -⟩ := h
  rcases hb with ⟨q1, q2⟩ | ⟨e, q1, q2, q3⟩ | ⟨lo, hi, q1, q2, q3⟩
  · exact ⟨by omega, Or.inl q2⟩
  · have := h1 e q1
    have := hl.1 e q1
    exact ⟨by omega, Or.inr (by omega)⟩
  · have := h2 lo hi q1
    have := (hl.2.2 lo hi q1).1
    exact ⟨by omega, Or.inr (by omega)⟩
theorem dskE.z {w w' : ZW} {x : Nat} {T : List PEl} {Rs : List PRule} {A Lo Bk : Nat → Nat} {DC : Nat → PDecl → Prop} {RG : Nat → Nat → Prop} {K : PKn} (h : dskE w x T Rs A Lo Bk DC RG K) (hz : zsz w ≤ zsz w') (e : ∀ b, dY x T.length A RG b → zeq w w' b) : dskE w' x T Rs A Lo Bk DC RG K := by
  obtain ⟨h1, h2, h3, h4, ⟨h5, h6⟩, ⟨h7, h8⟩, h9⟩ := h
  have er : ∀ lo hi b, RG lo hi → lo ≤ b → b < hi → zeq w w' b := fun lo hi b g1 g2 g3 => e b (Or.inr (Or.inr ⟨lo, hi, g1, g2, g3⟩))
  have ee : ∀ i j, i < T.length → j < 9 → zeq w w' (A i + j) := fun i j hi hj => e _ (Or.inr (Or.inl ⟨i, hi, by omega, by omega⟩))
  refine ⟨h1.z e, h2, h3.z (e _ (Or.inl ⟨by omega, by omega⟩)), fun k R hR => ?_, ⟨fun i hi j hj => ?_, h6⟩, ⟨fun i hi => Nat.le_trans (h7 i hi) hz, fun lo hi q => Nat.le_trans (h8 lo hi q) hz⟩, h9⟩
  · have := h2 k (List.getElem?_eq_some_iff.mp hR).1
    exact (h4 k R hR).z h1.2.2.2.2.2 this.1 this.2.1 er
  · rw [(ee i 7 hi (by decide)).a, (ee i 8 hi (by decide)).g]
    exact h5 i hi j hj
theorem cchD.z {w w' : ZW} {x : Nat} {T : List PEl} {Rs : List PRule} {A Lo Bk : Nat → Nat} {DC : Nat → PDecl → Prop} {RG : Nat → Nat → Prop} {K : PKn} (h : cchD w x T Rs A Lo Bk DC) (hE : dskE w x T Rs A Lo Bk DC RG K) (e : ∀ b, dY x T.length A RG b → zeq w w' b) : cchD w' x T Rs A Lo Bk DC := by
  obtain ⟨h1, h2, h3, h4, ⟨h5, h6⟩, ⟨h7, h8⟩, h9⟩ := hE
  have er : ∀ lo hi b, RG lo hi → lo ≤ b → b < hi → zeq w w' b := fun lo hi b g1 g2 g3 => e b (Or.inr (Or.inr ⟨lo, hi, g1, g2, g3⟩))
  have ee : ∀ i j, i < T.length → j < 9 → zeq w w' (A i + j) := fun i j hi hj => e _ (Or.inr (Or.inl ⟨i, hi, by omega, by omega⟩))
  have ex := e x (Or.inl ⟨by omega, by omega⟩)
  rcases h with h | ⟨g1, ⟨g2, g3⟩, g4⟩
  · exact Or.inl ((ex.i _).trans h)
  · refine Or.inr ⟨(ex.i _).trans g1, ⟨fun k R hR => ?_, fun i hi n hn => (g3 i hi n hn).z (ee i 2 hi (by decide)) (ee i 3 hi (by decide)) (ee i 4 hi (by decide))⟩, fun i hi p hp => ?_⟩
    · have := h2 k (List.getElem?_eq_some_iff.mp hR).1
      exact (g2 k R hR).z h1.2.2.2.2.2 this.1 this.2.1 er
    · unfold stdE
      rw [(ee i 6 hi (by decide)).a, (ee i 5 hi (by decide)).g]
      exact g4 i hi p hp
theorem dskI.fr {w w' : ZW} {x : Nat} {T : List PEl} {Rs : List PRule} {B B' : List Nat} (h : dskI w x T Rs B) (hz : zsz w ≤ zsz w') (e : ∀ b, b < zsz w → b ≠ x + 3 → b ≠ x + 4 → b ≠ x + 5 → b ≠ x + 6 → zeq w w' b) (hT : TBs w' (x + 3) (x + 4) (x + 5) (x + 6)) (hB : TBf w' (x + 3) (x + 4) B') : dskI w' x T Rs B' := by
  obtain ⟨⟨h1, h2, h3⟩, h4, h5, A, Lo, Bk, DC, RG, K, h6, h7⟩ := h
  have e2 : ∀ b, dY x T.length A RG b → zeq w w' b := fun b hb => by
    obtain ⟨q1, q2⟩ := h6.ne h1 b hb
    exact e b q1 (by omega) (by omega) (by omega) (by omega)
  exact ⟨⟨by omega, hT, hB, h3.2.z hz (e _ (by have := h3.2.1; omega) (by omega) (by omega) (by omega) (by omega)) (e _ (by have := h3.2.1; omega) (by omega) (by omega) (by omega) (by omega))⟩, h4.z (fun i hi => e _ (by omega) (by omega) (by omega) (by omega) (by omega)), h5, A, Lo, Bk, DC, RG, K, h6.z hz e2, h7.z h6 e2⟩
/-- all but the law's rows and the model's cells is as it was -/
theorem dskI.out0 {w w' : ZW} {x : Nat} {T : List PEl} {Rs : List PRule} {B : List Nat} (h : dskI w x T Rs B) (hz : zsz w ≤ zsz w') (e : ∀ b, b < zsz w → b < x + 13 ∨ x + 56 ≤ b → zeq w w' b) (ho : zOut w' (x + 54)) (hT : TBs w' (x + 3) (x + 4) (x + 5) (x + 6)) (hB : TBf w' (x + 3) (x + 4) B) : dskI w' x T Rs B := by
  obtain ⟨⟨h1, h2, h3, h3o⟩, h4, h5, A, Lo, Bk, DC, RG, K, h6, h7⟩ := h
  have e2 : ∀ b, dY x T.length A RG b → zeq w w' b := fun b hb => by
    obtain ⟨q1, q2⟩ := h6.ne h1 b hb
    exact e b q1 (by omega)
  exact ⟨⟨by omega, hT, hB, ho⟩, h4.z (fun i hi => e _ (by omega) (by omega)), h5, A, Lo, Bk, DC, RG, K, h6.z hz e2, h7.z h6 e2⟩
theorem TBf.z {w w' : ZW} {tb tx : Nat} {B : List Nat} (h : TBf w tb tx B) (e1 : zeq w w' tb) (e2 : zeq w w' tx) : TBf w' tb tx B := by
  obtain ⟨h1, h2, h3, h4, h5, h6, h7, h8⟩ := h
  exact ⟨e1.k.trans h1, (e1.r _).trans h2, e2.k.trans h3, e2.ln.trans h4, (e1.i _).trans h5, h6, fun i c q => by rw [e2.a]; exact h7 i c q, h8⟩
theorem dskI.skip {w : ZW} {x : Nat} {T : List PEl} {Rs : List PRule} {B : List Nat} (h : dskI w x T Rs B) (n : Nat) : dskI (zskip w n) x T Rs B := by
  have h0 := h
  obtain ⟨⟨h1, h2, h3⟩, -⟩ := h0
  exact h.fr (by show zsz w ≤ zsz w + n; omega) (fun b _ _ _ _ _ => zeq.sk) (h2.fr zeq.sk zeq.sk zeq.sk zeq.sk) (h3.1.z zeq.sk zeq.sk)
theorem dskI.desk {w : ZW} {x : Nat} {T : List PEl} {Rs : List PRule} {B : List Nat} (h : dskI w x T Rs B) : isDesk w x T.length Rs.length := by
  obtain ⟨-, -, -, A, Lo, Bk, DC, RG, K, h6, -⟩ := h
  exact h6.1.2.1
theorem dskI.out {w w' : ZW} {x : Nat} {T : List PEl} {Rs : List PRule} {B : List Nat} (h : dskI w x T Rs B) (hz : zsz w ≤ zsz w') (e : ∀ b, b < zsz w → b < x + 13 ∨ x + 56 ≤ b → zeq w w' b) (ho : zOut w' (x + 54)) : dskI w' x T Rs B := by
  have h0 := h
  obtain ⟨⟨h1, h2, h3⟩, -⟩ := h0
  exact h.out0 hz e ho (h2.fr (e _ (by omega) (by omega)) (e _ (by omega) (by omega)) (e _ (by omega) (by omega)) (e _ (by omega) (by omega))) (h3.1.z (e _ (by omega) (by omega)) (e _ (by omega) (by omega)))
