/-! ===== rules: asking their selectors ===== -/
/-- all but the selectors' field 'matched' stays -/
def eqx (w w' : ZW) : Prop := zsz w' = zsz w ∧ zk w' = zk w ∧ zln w' = zln w ∧ (∀ f a, f ≠ 702 → zi w' f a = zi w f a) ∧ zr w' = zr w ∧ zf w' = zf w ∧ za w' = za w ∧ zq w' = zq w ∧ zg w' = zg w ∧ zl w' = zl w ∧ zd w' = zd w
theorem eqx.rf {w : ZW} : eqx w w := ⟨rfl, rfl, rfl, fun _ _ _ => rfl, rfl, rfl, rfl, rfl, rfl, rfl, rfl⟩
theorem eqx.tr {w w1 w2 : ZW} (h : eqx w w1) (g : eqx w1 w2) : eqx w w2 := by
  obtain ⟨h1, h2, h3, h4, h5, h6, h7, h8, h9, h10, h11⟩ := h
  obtain ⟨g1, g2, g3, g4, g5, g6, g7, g8, g9, g10, g11⟩ := g
  exact ⟨g1.trans h1, g2.trans h2, g3.trans h3, fun f a e => (g4 f a e).trans (h4 f a e), g5.trans h5, g6.trans h6, g7.trans h7, g8.trans h8, g9.trans h9, g10.trans h10, g11.trans h11⟩
theorem eqx.s {w : ZW} {a : Nat} {v : Int32} : eqx w (zsi w 702 a v) := ⟨rfl, rfl, rfl, fun f b e => by rw [zi_zsi, if_neg (fun q => e q.1)], rfl, rfl, rfl, rfl, rfl, rfl, rfl⟩
theorem eqx.k {w w' : ZW} (h : eqx w w') : zk w' = zk w := h.2.1
theorem eqx.i {w w' : ZW} (h : eqx w w') {f : Nat} (a : Nat) (hf : f ≠ 702) : zi w' f a = zi w f a := h.2.2.2.1 f a hf
theorem eqx.r {w w' : ZW} (h : eqx w w') : zr w' = zr w := h.2.2.2.2.1
theorem Seg.x {α : Type} {P P' : Nat → α → Prop} {w w' : ZW} {fd : Nat} {l : List α} {o z : Option Nat} (h : Seg P w fd o l z) (e : eqx w w') (hp : ∀ a x, P a x → P' a x) : Seg P' w' fd o l z := h.imp (fun a x g => ⟨hp a x g, by rw [e.r]⟩)
theorem isPart.x {w w' : ZW} {lo hi a : Nat} {p : PPart} (h : isPart w lo hi a p) (e : eqx w w') : isPart w' lo hi a p := by
  obtain ⟨h1, h2, h3, h4, h5, h6⟩ := h
  exact ⟨h1, h2, by rw [e.k]; exact h3, (e.i a (by decide)).trans h4, (e.i a (by decide)).trans h5, (e.i a (by decide)).trans h6⟩
theorem isParts.x {w w' : ZW} {lo hi : Nat} {o : Option Nat} {ps : List PPart} (h : isParts w lo hi o ps) (e : eqx w w') : isParts w' lo hi o ps := Seg.x h e (fun _ _ g => g.x e)
theorem isBare.x {w w' : ZW} {lo hi a : Nat} {b : PBare} (h : isBare w lo hi a b) (e : eqx w w') : isBare w' lo hi a b := by
  obtain ⟨h1, h2, h3, h4, h5, h6, h7⟩ := h
  exact ⟨h1, h2, by rw [e.k]; exact h3, (e.i a (by decide)).trans h4, by rw [e.r]; exact h5.x e, by rw [e.r]; exact h6, (e.i a (by decide)).trans h7⟩
theorem isBares.x {w w' : ZW} {lo hi : Nat} {o : Option Nat} {ps : List PBare} (h : isBares w lo hi o ps) (e : eqx w w') : isBares w' lo hi o ps := Seg.x h e (fun _ _ g => g.x e)
theorem isCJ.x {w w' : ZW} {lo hi a : Nat} {x : Nat × PComp} (h : isCJ w lo hi a x) (e : eqx w w') : isCJ w' lo hi a x := by
  obtain ⟨h1, h2, h3, h4, h5, h6, h7, h8⟩ := h
  exact ⟨h1, h2, by rw [e.k]; exact h3, (e.i a (by decide)).trans h4, by rw [e.r]; exact h5.x e, by rw [e.r]; exact h6.x e, (e.i a (by decide)).trans h7, (e.i a (by decide)).trans h8⟩
theorem isEl.x {w w' : ZW} {T : List PEl} {A : Nat → Nat} {i : Nat} (h : isEl w T A i) (e : eqx w w') : isEl w' T A i := by
  unfold isEl at h ⊢
  rw [e.k, e.r, e.i _ (by decide), e.i _ (by decide), e.i _ (by decide), e.i _ (by decide), e.i _ (by decide), e.i _ (by decide), e.i _ (by decide), e.i _ (by decide), e.i _ (by decide), e.i _ (by decide)]
  exact h
theorem isEls.x {w w' : ZW} {T : List PEl} {A : Nat → Nat} (h : isEls w T A) (e : eqx w w') : isEls w' T A := ⟨h.1, fun i hi => (h.2 i hi).x e⟩
theorem isEA.x {w w' : ZW} {ea n : Nat} {A : Nat → Nat} (h : isEA w ea n A) (e : eqx w w') : isEA w' ea n A := by
  unfold isEA at h ⊢
  rw [e.k, e.2.2.1, e.2.2.2.2.2.2.2.1]
  exact h
/-- a selector, whatever it matched last -/
def isSl (w : ZW) (lo hi s : Nat) (l : List (Nat × PComp)) : Prop := lo ≤ s ∧ s < hi ∧ zk w s = 7 ∧ (∃ a0 m, zr w 700 s = some a0 ∧ lo ≤ m ∧ m ≤ s ∧ Seg (isCJ w m s) w 105 (some a0) l none) ∧ zi w 701 s = nI (wSel l)
theorem isSl.x {w w' : ZW} {lo hi s : Nat} {l : List (Nat × PComp)} (h : isSl w lo hi s l) (e : eqx w w') : isSl w' lo hi s l := by
  obtain ⟨h1, h2, h3, ⟨a0, m, h4, h5, h6, h7⟩, h8⟩ := h
  exact ⟨h1, h2, by rw [e.k]; exact h3, ⟨a0, m, by rw [e.r]; exact h4, h5, h6, h7.x e (fun _ _ g => g.x e)⟩, (e.i s (by decide)).trans h8⟩
def isSlM (w : ZW) (lo hi : Nat) (T : List PEl) (s : Nat) (l : List (Nat × PComp)) : Prop := isSl w lo hi s l ∧ zi w 702 s = nI (selSet T l)
/-- the addresses of a linked list -/
def chn (w : ZW) (fd : Nat) : Option Nat → List Nat → Prop
  | o, [] => o = none
  | o, a :: as => o = some a ∧ chn w fd (zr w fd a) as
theorem chn.one {w : ZW} {fd : Nat} : ∀ {as bs : List Nat} {o : Option Nat}, chn w fd o as → chn w fd o bs → as = bs
  | [], [], o, _, _ => rfl
  | [], y :: l', o, h, ⟨h1, _⟩ => by
    have h9 : o = none := h
    rw [h9] at h1
    cases h1
  | x :: l, [], o, ⟨h1, _⟩, h => by
    have h9 : o = none := h
    rw [h9] at h1
    cases h1
  | x :: l, y :: l', o, ⟨h1, h3⟩, ⟨g1, g3⟩ => by
    rw [h1] at g1
    cases g1
    rw [h3.one g3]
theorem chn.mem {w : ZW} {fd : Nat} : ∀ {as : List Nat} {o : Option Nat} {a : Nat}, chn w fd o as → a ∈ as → ∃ n, chn w fd (some a) (as.drop n) ∧ as.drop n ≠ []
  | x :: l, o, a, ⟨h1, h2⟩, hm => by
    by_cases e : a = x
    · subst e
      exact ⟨0, ⟨rfl, h2⟩, by simp⟩
    · obtain ⟨n, g1, g2⟩ := h2.mem ((List.mem_cons.mp hm).resolve_left e)
      exact ⟨n + 1, g1, g2⟩
theorem chn.nin {w : ZW} {fd a : Nat} {as : List Nat} {o : Option Nat} (h : chn w fd o (a :: as)) : a ∉ as := by
  intro hm
  obtain ⟨h1, h2⟩ := h
  obtain ⟨n, g1, g2⟩ := h2.mem hm
  have g3 : chn w fd (some a) (a :: as) := ⟨rfl, h2⟩
  have := congrArg List.length (g1.one g3)
  rw [List.length_drop, List.length_cons] at this
  omega
theorem Seg.ch {α : Type} {P : Nat → α → Prop} {w : ZW} {fd : Nat} : ∀ {l : List α} {o : Option Nat}, Seg P w fd o l none → ∃ as, chn w fd o as ∧ ∀ a ∈ as, ∃ x, P a x
  | [], o, h => ⟨[], h, fun _ h => by cases h⟩
  | x :: l, o, ⟨a, h1, h2, h3⟩ => by
    obtain ⟨as, g1, g2⟩ := h3.ch
    exact ⟨a :: as, ⟨h1, g1⟩, fun b hb => (List.mem_cons.mp hb).elim (fun e => by rw [e]; exact ⟨x, h2⟩) (g2 b)⟩
theorem chn.x {w w' : ZW} {fd : Nat} (e : eqx w w') : ∀ {as : List Nat} {o : Option Nat}, chn w fd o as → chn w' fd o as
  | [], o, h => h
  | a :: as, o, ⟨h1, h2⟩ => ⟨h1, by rw [e.r]; exact h2.x e⟩
def okSels (ls : List (List (Nat × PComp))) : Prop := ∀ l ∈ ls, okSel l
theorem RW.qmono {E : ZE} {M : ZMeth} {pc : Nat} {ls : List (Option Value)} {st : List Value} {w : ZW} {sg : ZM} {d nc ns : Nat} {Q Q2 : ZQ} (h : RW E M pc ls st w sg d nc ns (PN E Q)) (hq : ∀ v w2 sg2, Q v w2 sg2 → Q2 v w2 sg2) : RW E M pc ls st w sg d nc ns (PN E Q2) := by
  intro p e R s m args below meth c H locs cells slots mc ms A hZ T hT X
  obtain ⟨t, a1, o, b1, b2, ⟨⟨v, w2, sg2, c1, c2, c3⟩, c4⟩, b4⟩ := h p e R s m args below meth c H locs cells slots mc ms A hZ T hT X
  exact ⟨t, a1, o, b1, b2, ⟨⟨v, w2, sg2, c1, hq v w2 sg2 c2, c3⟩, c4⟩, b4⟩
theorem rrmeet_loop (E : ZE) (sg : ZM) (d : Nat) (hd : 5 ≤ d) (T : List PEl) (A : Nat → Nat) (ea r lo hi : Nat) : ∀ (ls : List (List (Nat × PComp))) (o : Option Nat) (as : List Nat) (w : ZW), isEls w T A → isEA w ea T.length A → Seg (isSl w lo hi) w 703 o ls none → chn w 703 o as → okSels ls → RW E MX5_meet 5 [some (.ref r), some (.ref ea), some (.int (nI T.length)), some (va_rf o)] [] w sg d 0 0 (PN E (fun v w' sg' => v = none ∧ sg = sg' ∧ eqx w w' ∧ (∀ a, a ∉ as → zi w' 702 a = zi w 702 a) ∧ Seg (isSlM w' lo hi T) w' 703 o ls none))
  | [], o, as, w, hT, hA, h, hc, hk => by
    have h9 : o = none := h
    subst h9
    refine r_aload_n dX5_meet_5 rfl (by first | exact zRv_ref _ | exact zRv_null | exact zRv_rf _ | assumption) rfl ?_
    refine r_ifnullZ (r := 23) dX5_meet_6 (by decide) rfl (fun c_6 => ?_) (fun a_6 c_6 => ?_)
    · refine r_vret rfl dX5_meet_23 ?_
      exact ⟨rfl, rfl, eqx.rf, fun _ _ => rfl, rfl⟩
    · cases c_6
  | l :: ls, o, as, w, hT, hA, h, hc, hk => by
    obtain ⟨s, rfl, g, h3⟩ := h
    obtain ⟨as, rfl⟩ : ∃ bs, as = s :: bs := by
      cases as with
      | nil => cases hc
      | cons b bs => obtain ⟨e, -⟩ := hc; cases e; exact ⟨bs, rfl⟩
    have hn := hc.nin
    have hc2 := hc.2
    obtain ⟨q1, q2, k1, ⟨a0, m, q4, q5, q6, q7⟩, q8⟩ := id g
    refine r_aload_n dX5_meet_5 rfl (by first | exact zRv_ref _ | exact zRv_null | exact zRv_rf _ | assumption) rfl ?_
    refine r_ifnullR (r := 23) dX5_meet_6 (by decide) rfl (fun c_6 => ?_) (fun a_6 c_6 => ?_)
    · cases c_6
    · refine r_aload_n dX5_meet_9 rfl (by first | exact zRv_ref _ | exact zRv_null | exact zRv_rf _ | assumption) rfl ?_
      refine r_aload_n dX5_meet_10 rfl (by first | exact zRv_ref _ | exact zRv_null | exact zRv_rf _ | assumption) rfl ?_
      refine r_iload_n dX5_meet_11 rfl rfl ?_
      refine r_callV MX6_meet 2 [_, _] lvX5_19 (Or.inl ⟨6, by decide, (by first | (simp only [zKS]; first | assumption) | assumption | exact zk_nself _ _ _ | (simp [zKS, zNS, *]; done)), rfl⟩) (sp_meet E sg (d - 1) (by omega) w T A hT ea hA s a0 m s k1 q4 l q7 (hk l List.mem_cons_self)) rfl rfl (by first | exact Nat.le_of_ble_eq_true rfl | (simp [zcat_rf, Value.category]; done)) (by omega) (Nat.le_of_eq (Nat.zero_add _)) (Nat.le_of_eq (Nat.zero_add _)) dX5_meet_12 rfl (fun v_ w_ sg_ hq_ => ?_)
      obtain ⟨rfl, rfl, rfl⟩ := hq_
      have ex : eqx w (zsi w 702 s (nI (selSet T l))) := eqx.s
      refine r_aload_n dX5_meet_15 rfl (by first | exact zRv_ref _ | exact zRv_null | exact zRv_rf _ | assumption) rfl ?_
      refine r_getr 6 3 703 lfX5_25 (by first | (simp only [zKS]; first | assumption) | assumption | exact zk_nself _ _ _ | (simp [zKS, zNS, *]; done)) rfl rfl dX5_meet_16 rfl ?_
      refine r_astore_n (ls' := [_, _, _, _]) dX5_meet_19 (Nat.le_of_ble_eq_true rfl) (by first | exact zRv_ref _ | exact zRv_null | exact zRv_rf _ | assumption) rfl rfl ?_
      refine r_goto (r := 5) dX5_meet_20 (by decide) ?_
      refine RW.qmono (rrmeet_loop E sg d hd T A ea r lo hi ls (zr w 703 s) as _ (hT.x ex) (hA.x ex) (h3.x ex (fun _ _ g => g.x ex)) (hc2.x ex) (fun x hx => hk x (List.mem_cons_of_mem _ hx))) ?_
      rintro v w' sg' ⟨rfl, rfl, p1, p2, p3⟩
      refine ⟨rfl, rfl, ex.tr p1, fun a ha => ?_, s, rfl, ⟨g.x (ex.tr p1), ?_⟩, ?_⟩
      · rw [p2 a (fun q => ha (List.mem_cons_of_mem _ q)), zi_zsi, if_neg (fun q => ha (by rw [q.2]; exact List.mem_cons_self))]
      · rw [p2 s hn]; exact z2_eq
      · rw [(ex.tr p1).r]; exact p3
theorem sp_rmeet (E : ZE) (sg : ZM) (d : Nat) (hd : 5 ≤ d) (T : List PEl) (A : Nat → Nat) (ea r lo hi s0 : Nat) (ls : List (List (Nat × PComp))) (as : List Nat) (w : ZW) (hr : zk w r = 6) (hr0 : zr w 600 r = some s0) (hT : isEls w T A) (hA : isEA w ea T.length A) (h : Seg (isSl w lo hi) w 703 (some s0) ls none) (hc : chn w 703 (some s0) as) (hk : okSels ls) : CallQ E MX5_meet [.ref r, .ref ea, .int (nI T.length)] w sg d 0 0 (fun v w' sg' => v = none ∧ sg = sg' ∧ eqx w w' ∧ (∀ a, a ∉ as → zi w' 702 a = zi w 702 a) ∧ Seg (isSlM w' lo hi T) w' 703 (some s0) ls none) := by
  refine CallQ.of rfl (by simp [Value.category]) (Nat.le_of_ble_eq_true rfl) ?_
  refine r_aload_n dX5_meet_0 rfl (zRv_ref _) rfl ?_
  refine r_gets 5 0 600 lfX5_9 (by first | (simp only [zKS]; first | assumption) | assumption | exact zk_nself _ _ _ | (simp [zKS, zNS, *]; done)) rfl rfl (by first | (simp only [zGS, Nat.reduceEqDiff, OfNat.ofNat_ne_ofNat, false_and, and_false, true_and, and_true, and_self, if_true, if_false, ite_true, ite_false, reduceIte, reduceCtorEq]; first | done | assumption) | assumption | exact z2_eq | (simp [zGS]; first | done | assumption)) dX5_meet_1 rfl ?_
  refine r_astore_n (ls' := [_, _, _, _]) dX5_meet_4 (Nat.le_of_ble_eq_true rfl) (zRv_ref _) rfl rfl ?_
  exact rrmeet_loop E sg d hd T A ea r lo hi ls (some s0) as w hT hA h hc hk
/-- the greatest weight of the selectors that match an element -/
def hvI (T : List PEl) (e : Nat) : List (List (Nat × PComp)) → Int32 → Int32
  | [], b => b
  | l :: ls, b => hvI T e ls (if (selSet T l).testBit e = true then (if b < nI (wSel l) then nI (wSel l) else b) else b)
theorem selSet_lt {T : List PEl} (h : T.length ≤ 24) (l : List (Nat × PComp)) : selSet T l < 2147483648 := by
  unfold selSet
  split
  · decide
  · exact selGo_lt h _ _ (p31 (bset_lt _ _) h)
theorem rheavy_loop (E : ZE) (sg : ZM) (d : Nat) (hd : 1 ≤ d) (T : List PEl) (hl : T.length ≤ 24) (e : Nat) (he : e < 24) (r lo hi : Nat) (w : ZW) : ∀ (ls : List (List (Nat × PComp))) (o : Option Nat) (b : Int32), Seg (isSlM w lo hi T) w 703 o ls none → RW E MX5_heaviest 7 [some (.ref r), some (.int (nI (2 ^ e))), some (.int b), some (va_rf o)] [] w sg d 0 0 (PN E (fun v w' sg' => v = some (.int (hvI T e ls b)) ∧ w = w' ∧ sg = sg'))
  | [], o, b, h => by
    have h9 : o = none := h
    subst h9
    refine r_aload_n dX5_heaviest_7 rfl (by first | exact zRv_ref _ | exact zRv_null | exact zRv_rf _ | assumption) rfl ?_
    refine r_ifnullZ (r := 37) dX5_heaviest_8 (by decide) rfl (fun c_8 => ?_) (fun a_8 c_8 => ?_)
    · refine r_iload_n dX5_heaviest_37 rfl rfl ?_
      refine r_iret rfl dX5_heaviest_38 ?_
      exact ⟨rfl, rfl, rfl⟩
    · cases c_8
  | l :: ls, o, b, h => by
    obtain ⟨s, rfl, ⟨⟨q1, q2, k1, q3, q8⟩, q9⟩, h3⟩ := h
    have hs := selSet_lt hl l
    have h2 := p2e (e := e) (by omega)
    have hb : decide (selSet T l &&& 2 ^ e = 0) = !(selSet T l).testBit e := by
      have := bmeet_pow (a := selSet T l) (i := e)
      unfold bmeet at this
      rw [← this, Bool.not_not]
    refine r_aload_n dX5_heaviest_7 rfl (by first | exact zRv_ref _ | exact zRv_null | exact zRv_rf _ | assumption) rfl ?_
    refine r_ifnullR (r := 37) dX5_heaviest_8 (by decide) rfl (fun c_8 => ?_) (fun a_8 c_8 => ?_)
    · cases c_8
    · refine r_aload_n dX5_heaviest_11 rfl (by first | exact zRv_ref _ | exact zRv_null | exact zRv_rf _ | assumption) rfl ?_
      refine r_getiv 6 2 702 lfX5_28 (by first | (simp only [zKS]; first | assumption) | assumption | exact zk_nself _ _ _ | (simp [zKS, zNS, *]; done)) rfl rfl (by first | (simp only [zGS, zMS, Nat.reduceEqDiff, OfNat.ofNat_ne_ofNat, false_and, and_false, true_and, and_true, and_self, if_true, if_false, ite_true, ite_false, reduceIte, reduceCtorEq]; first | done | assumption | rfl) | assumption | exact z2_eq | exact z1_eq | (simp [zGS, zMS]; first | done | assumption) | rfl) dX5_heaviest_12 rfl ?_
      refine r_iload_n dX5_heaviest_15 rfl rfl ?_
      refine r_iand dX5_heaviest_16 rfl ?_
      refine r_if_eq (r := 29) dX5_heaviest_17 (by decide) rfl (fun c_17 => ?_) (fun c_17 => ?_)
      · refine r_aload_n dX5_heaviest_29 rfl (by first | exact zRv_ref _ | exact zRv_null | exact zRv_rf _ | assumption) rfl ?_
        refine r_getr 6 3 703 lfX5_25 (by first | (simp only [zKS]; first | assumption) | assumption | exact zk_nself _ _ _ | (simp [zKS, zNS, *]; done)) rfl rfl dX5_heaviest_30 rfl ?_
        refine r_astore_n (ls' := [_, _, _, _]) dX5_heaviest_33 (Nat.le_of_ble_eq_true rfl) (by first | exact zRv_ref _ | exact zRv_null | exact zRv_rf _ | assumption) rfl rfl ?_
        refine r_goto (r := 7) dX5_heaviest_34 (by decide) ?_
        rw [nI_and hs h2, nI_eq0 (Nat.lt_of_le_of_lt Nat.and_le_left hs)] at c_17
        rw [decide_eq_true c_17] at hb
        have h5 := rheavy_loop E sg d hd T hl e he r lo hi w ls (zr w 703 s) b h3
        unfold hvI
        rw [if_neg (by rw [Bool.not_eq_true]; exact (Bool.not_eq_true' _).mp hb.symm)]
        exact h5
      · refine r_iload_n dX5_heaviest_20 rfl rfl ?_
        refine r_aload_n dX5_heaviest_21 rfl (by first | exact zRv_ref _ | exact zRv_null | exact zRv_rf _ | assumption) rfl ?_
        refine r_getiv 6 1 701 lfX5_32 (by first | (simp only [zKS]; first | assumption) | assumption | exact zk_nself _ _ _ | (simp [zKS, zNS, *]; done)) rfl rfl (by first | (simp only [zGS, zMS, Nat.reduceEqDiff, OfNat.ofNat_ne_ofNat, false_and, and_false, true_and, and_true, and_self, if_true, if_false, ite_true, ite_false, reduceIte, reduceCtorEq]; first | done | assumption | rfl) | assumption | exact z2_eq | exact z1_eq | (simp [zGS, zMS]; first | done | assumption) | rfl) dX5_heaviest_22 rfl ?_
        refine r_mmax lsX5_35 hd (Nat.le_of_ble_eq_true rfl) dX5_heaviest_25 rfl ?_
        refine r_istore_n (ls' := [_, _, _, _]) dX5_heaviest_28 (Nat.le_of_ble_eq_true rfl) rfl rfl ?_
        refine r_aload_n dX5_heaviest_29 rfl (by first | exact zRv_ref _ | exact zRv_null | exact zRv_rf _ | assumption) rfl ?_
        refine r_getr 6 3 703 lfX5_25 (by first | (simp only [zKS]; first | assumption) | assumption | exact zk_nself _ _ _ | (simp [zKS, zNS, *]; done)) rfl rfl dX5_heaviest_30 rfl ?_
        refine r_astore_n (ls' := [_, _, _, _]) dX5_heaviest_33 (Nat.le_of_ble_eq_true rfl) (by first | exact zRv_ref _ | exact zRv_null | exact zRv_rf _ | assumption) rfl rfl ?_
        refine r_goto (r := 7) dX5_heaviest_34 (by decide) ?_
        rw [nI_and hs h2, nI_eq0 (Nat.lt_of_le_of_lt Nat.and_le_left hs)] at c_17
        rw [decide_eq_false c_17] at hb
        have h5 := rheavy_loop E sg d hd T hl e he r lo hi w ls (zr w 703 s) (if b < nI (wSel l) then nI (wSel l) else b) h3
        unfold hvI
        rw [if_pos ((Bool.not_eq_false' _).mp hb.symm)]
        exact h5
theorem sp_heaviest (E : ZE) (sg : ZM) (d : Nat) (hd : 1 ≤ d) (T : List PEl) (hl : T.length ≤ 24) (e : Nat) (he : e < 24) (r lo hi s0 : Nat) (w : ZW) (ls : List (List (Nat × PComp))) (hr : zk w r = 6) (hr0 : zr w 600 r = some s0) (h : Seg (isSlM w lo hi T) w 703 (some s0) ls none) : CallQ E MX5_heaviest [.ref r, .int (nI (2 ^ e))] w sg d 0 0 (fun v w' sg' => v = some (.int (hvI T e ls (-1))) ∧ w = w' ∧ sg = sg') := by
  refine CallQ.of rfl (by simp [Value.category]) (Nat.le_of_ble_eq_true rfl) ?_
  refine r_iconst dX5_heaviest_0 kc_m1 rfl ?_
  refine r_istore_n (ls' := [_, _, _, _]) dX5_heaviest_1 (Nat.le_of_ble_eq_true rfl) rfl rfl ?_
  refine r_aload_n dX5_heaviest_2 rfl (zRv_ref _) rfl ?_
  refine r_gets 5 0 600 lfX5_9 (by first | (simp only [zKS]; first | assumption) | assumption | exact zk_nself _ _ _ | (simp [zKS, zNS, *]; done)) rfl rfl (by first | (simp only [zGS, Nat.reduceEqDiff, OfNat.ofNat_ne_ofNat, false_and, and_false, true_and, and_true, and_self, if_true, if_false, ite_true, ite_false, reduceIte, reduceCtorEq]; first | done | assumption) | assumption | exact z2_eq | (simp [zGS]; first | done | assumption)) dX5_heaviest_3 rfl ?_
  refine r_astore_n (ls' := [_, _, _, _]) dX5_heaviest_6 (Nat.le_of_ble_eq_true rfl) (zRv_ref _) rfl rfl ?_
  exact rheavy_loop E sg d hd T hl e he r lo hi w ls (some s0) (-1) h
