/-! ===== rule ===== -/
def okDs (ds : List PDecl) : Prop := ∀ D ∈ ds, D.1 < 10 ∧ D.2.1 < 3 ∧ D.2.2.1 < 6 ∧ (D.2.1 = 2 → okD D)
theorem pDecsL_ok {og : Nat} (ho : og < 3) : ∀ (n : Nat) (r : List Nat) (ds : List PDecl) (r' : List Nat), r.length ≤ 120 → pDecsL (pDecl og) n r = some (ds, r') → okDs ds
  | 0, r, ds, r', hl, h => by cases h; exact fun x hx => (by cases hx)
  | n + 1, r, ds, r', hl, h => by
    unfold pDecsL at h
    split at h
    · cases h; exact fun x hx => (by cases hx)
    · rename_i r1 h1
      have := pCh_len h1
      cases h2 : pDecl og r1 with
      | none => rw [h2] at h; cases h
      | some q =>
        obtain ⟨D, r2⟩ := q
        rw [h2] at h
        simp only [] at h
        obtain ⟨g1, g2⟩ := pDecl_ok h2 (by omega)
        obtain ⟨g3, g4, g5⟩ := pDecl_rng ho h2
        cases h3 : pDecsL (pDecl og) n r2 with
        | none => rw [h3] at h; cases h
        | some q3 =>
          obtain ⟨l3, r3⟩ := q3
          rw [h3] at h
          cases h
          intro y hy
          rcases List.mem_cons.mp hy with rfl | g
          · exact ⟨g3, g4, g5, g1⟩
          · exact pDecsL_ok ho n r2 l3 _ (by omega) h3 y g
theorem pDecs_ok {og : Nat} (ho : og < 3) {r : List Nat} {ds : List PDecl} (hl : r.length ≤ 120) (h : pDecs (pDecl og) r = some ds) : okDs ds := by
  unfold pDecs at h
  split at h
  · cases h
  · rename_i r1 h1
    have := pCh_len h1
    cases h2 : pDecl og r1 with
    | none => rw [h2] at h; cases h
    | some q =>
      obtain ⟨D, r2⟩ := q
      rw [h2] at h
      simp only [] at h
      obtain ⟨g1, g2⟩ := pDecl_ok h2 (by omega)
      obtain ⟨g3, g4, g5⟩ := pDecl_rng ho h2
      cases h3 : pDecsL (pDecl og) 3 r2 with
      | none => rw [h3] at h; cases h
      | some q3 =>
        obtain ⟨l3, r3⟩ := q3
        rw [h3] at h
        unfold pDecsR pDecsE at h
        simp only [] at h
        split at h
        · cases h
        · split at h
          · cases h
            intro y hy
            rcases List.mem_cons.mp hy with rfl | g
            · exact ⟨g3, g4, g5, g1⟩
            · exact pDecsL_ok ho 3 r2 l3 _ (by omega) h3 y g
          · cases h
def readR (B : List Nat) (og : Nat) : Option PRule := match pSels B with
  | none => none
  | some (ls, r) => match pDecs (pDecl og) r with
    | none => none
    | some ds => some (ls, ds)
def ruO (Rs : List PRule) (B : List Nat) (o : Int32) : Nat × Option PRule := if Rs.length = 16 then (1, none) else if inI o 3 = false then (2, none) else match readR B (ixD o) with
  | none => (2, none)
  | some R => (0, some R)
def ruQ (sg : ZM) (x : Nat) (T : List PEl) (Rs : List PRule) (B : List Nat) (o : Int32) : ZQ := fun v w' sg' => (∃ R, ruO Rs B o = (0, some R) ∧ dskI w' x T (Rs ++ [R]) []) ∧ v = some (.int (nI Rs.length)) ∧ sg = sg'
def ruX (sg : ZM) (x : Nat) (T : List PEl) (Rs : List PRule) (B : List Nat) (o : Int32) : ZX := fun C w' sg' => (C = zISE ∧ ruO Rs B o = (1, none) ∨ C = zIAE ∧ ruO Rs B o = (2, none)) ∧ dskI w' x T Rs [] ∧ sg = sg'
theorem ru_70 (E : ZE) (sg : ZM) (d : Nat) (hd : 6 ≤ d) (x : Nat) (o : Int32) (T : List PEl) (Rs : List PRule) (B : List Nat) (hf : ruO Rs B o = (2, none)) (w : ZW) (hD : dskI w x T Rs []) (x2 x3 : Option Value) (nc ns : Nat) (h1 : 1 ≤ nc) (h2 : 6 ≤ ns) : RW E MX9_rule 70 [some (.ref x), some (.int o), x2, x3] [] w sg d nc ns (PX E (ruQ sg x T Rs B o) (ruX sg x T Rs B o)) := x_throw zIAE (ik := 53) (ic := 55) rfl lxA hd h1 h2 dX9_rule_70 dX9_rule_73 dX9_rule_74 dX9_rule_77 (fun m => ⟨Or.inr ⟨rfl, hf⟩, hD.skip m, rfl⟩)
theorem ru_78 (E : ZE) (sg : ZM) (d : Nat) (hd : 6 ≤ d) (x f g z2 : Nat) (o : Int32) (T : List PEl) (Rs : List PRule) (B : List Nat) (w1 w : ZW) (hD1 : dskI w1 x T Rs []) (hr : rdI w1 w x) (ls : List (List (Nat × PComp))) (ds : List PDecl) (hf : ruO Rs B o = (0, some (ls, ds))) (h12 : zsz w1 ≤ z2) (h23 : z2 ≤ zsz w) (hn : Rs.length < 16) (hls : okSels ls) (hds : okDs ds) (hs : Seg (isSl w (zsz w1) z2) w 703 (some f) ls none) (hdd : Seg (isDecl w z2 (zsz w)) w 205 (some g) ds none) : RW E MX9_rule 78 [some (.ref x), some (.int o), some (.ref f), some (.ref g)] [] w sg d 1 6 (PX E (ruQ sg x T Rs B o) (ruX sg x T Rs B o)) := by
  have hD := hr.d hD1
  obtain ⟨k1, k2, k3, k4, k5, k6, k7⟩ := hD.desk
  obtain ⟨hB, -, -, A, Lo, Bk, DC, RG, K9, hE, -⟩ := id hD
  have hRA := hE.2.2.1
  have hxz := hB.1
  have zn : ∀ b, b < zsz w → zeq w (znew w (5 + 1) 0) b := fun b hb => zeq.nw (by omega)
  have i3 : zi (znew w (5 + 1) 0) 1003 x = nI Rs.length := ((zn x (by omega)).i _).trans k5
  refine r_aload_n dX9_rule_78 rfl (zRv_ref _) rfl ?_
  refine r_gets 9 2 1002 lfX9_21 (by first | (simp only [zKS]; first | assumption | exact zk_nw (by assumption) (by omega)) | assumption | exact zk_nw (by assumption) (by omega) | exact zk_nself _ _ _ | (simp [zKS, zNS, *]; done)) rfl rfl (by first | (simp only [zGS, Nat.reduceEqDiff, OfNat.ofNat_ne_ofNat, false_and, and_false, true_and, and_true, and_self, if_true, if_false, ite_true, ite_false, reduceIte, reduceCtorEq]; first | done | assumption) | assumption | exact z2_eq | (simp [zGS]; first | done | assumption)) dX9_rule_79 rfl ?_
  refine r_aload_n dX9_rule_82 rfl (zRv_ref _) rfl ?_
  refine r_getiv 9 3 1003 lfX9_25 (by first | (simp only [zKS]; first | assumption | exact zk_nw (by assumption) (by omega)) | assumption | exact zk_nw (by assumption) (by omega) | exact zk_nself _ _ _ | (simp [zKS, zNS, *]; done)) rfl rfl (by first | (simp only [zGS, zMS, Nat.reduceEqDiff, OfNat.ofNat_ne_ofNat, false_and, and_false, true_and, and_true, and_self, if_true, if_false, ite_true, ite_false, reduceIte, reduceCtorEq]; first | done | assumption | rfl) | assumption | exact z2_eq | exact z1_eq | (simp [zGS, zMS]; first | done | assumption) | rfl) dX9_rule_83 rfl ?_
  refine r_new (nc' := 0) (ns' := 4) 5 lnX9_19 (by decide) (by decide) dX9_rule_86 rfl ?_
  refine r_dup dX9_rule_89 (by first | rfl | exact zcat_rf _) rfl ?_
  refine r_aload_n dX9_rule_90 rfl (by first | exact zRv_ref _ | exact zRv_null | exact zRv_rf _ | assumption) rfl ?_
  refine r_aload_n dX9_rule_91 rfl (by first | exact zRv_ref _ | exact zRv_null | exact zRv_rf _ | assumption) rfl ?_
  refine r_callI MX5_init 2 (a := 0) (a' := 0) [_, _] liX9_84 (sp_X5_init E _ sg (d - 1) (by omega) (zsz w) f g (zk_nself _ _ _)) rfl rfl (by first | exact Nat.le_of_ble_eq_true rfl | (simp [zcat_rf, Value.category]; done)) (by omega) (by decide) (by decide) dX9_rule_92 rfl (fun v_ w_ sg_ hq_ => ?_)
  obtain ⟨rfl, hw3, rfl⟩ := hq_
  obtain ⟨w3, hw3'⟩ : ∃ y, y = w_ := ⟨_, rfl⟩
  subst hw3'
  have e3 : ∀ b, b < zsz w → zeq w w3 b := by rw [hw3]; exact fun b hb => (zn b hb).tr ((zeq.sr (by omega)).tr (zeq.sr (by omega)))
  have y0 : zsz w3 = zsz w + 1 := by rw [hw3]; rfl
  have y1 : zk w3 (zsz w) = 6 := by rw [hw3]; exact zk_nself w (5 + 1) 0
  have y2 : zr w3 600 (zsz w) = some f := by rw [hw3, zr_zsr, if_neg (by omega)]; exact z2_eq
  have y3 : zr w3 601 (zsz w) = some g := by rw [hw3]; exact z2_eq
  clear hw3
  have kx : zk w3 x = 10 := (e3 x (by omega)).k.trans k1
  have ix : zi w3 1003 x = nI Rs.length := ((e3 x (by omega)).i _).trans k5
  have z2' := e3 (x + 2) (by omega)
  refine r_aast8 Rs.length y1 (z2'.k.trans hRA.1) rfl (by rw [z2'.ln, hRA.2.1]; omega) (by omega) dX9_rule_95 rfl ?_
  refine r_aload_n dX9_rule_96 rfl (zRv_ref _) rfl ?_
  refine r_dup dX9_rule_97 (by first | rfl | exact zcat_rf _) rfl ?_
  refine r_getiv 9 3 1003 lfX9_25 (by first | (simp only [zKS]; first | assumption | exact zk_nw (by assumption) (by omega)) | assumption | exact zk_nw (by assumption) (by omega) | exact zk_nself _ _ _ | (simp [zKS, zNS, *]; done)) rfl rfl (by first | (simp only [zGS, zMS, Nat.reduceEqDiff, OfNat.ofNat_ne_ofNat, false_and, and_false, true_and, and_true, and_self, if_true, if_false, ite_true, ite_false, reduceIte, reduceCtorEq]; first | done | assumption | rfl) | assumption | exact z2_eq | exact z1_eq | (simp [zGS, zMS]; first | done | assumption) | rfl) dX9_rule_98 rfl ?_
  refine r_iconst dX9_rule_101 kc_1 rfl ?_
  refine r_iaddN dX9_rule_102 rfl ?_
  refine r_puti 9 3 1003 lfX9_25 (by first | (simp only [zKS]; first | assumption | exact zk_nw (by assumption) (by omega)) | assumption | exact zk_nw (by assumption) (by omega) | exact zk_nself _ _ _ | (simp [zKS, zNS, *]; done)) rfl rfl rfl (Or.inl rfl) dX9_rule_103 rfl ?_
  refine r_aload_n dX9_rule_106 rfl (zRv_ref _) rfl ?_
  refine r_iconst dX9_rule_107 kc_1 rfl ?_
  refine r_putz 9 6 1006 (by first | exact Or.inl rfl | exact Or.inr rfl | exact zb01 _ | assumption) lfX9_42 (by first | (simp only [zKS]; first | assumption | exact zk_nw (by assumption) (by omega)) | assumption | exact zk_nw (by assumption) (by omega) | exact zk_nself _ _ _ | (simp [zKS, zNS, *]; done)) rfl rfl rfl (Or.inl rfl) dX9_rule_108 rfl ?_
  refine r_aload_n dX9_rule_111 rfl (zRv_ref _) rfl ?_
  refine r_getiv 9 3 1003 lfX9_25 (by first | (simp only [zKS]; first | assumption | exact zk_nw (by assumption) (by omega)) | assumption | exact zk_nw (by assumption) (by omega) | exact zk_nself _ _ _ | (simp [zKS, zNS, *]; done)) rfl rfl (by first | (simp only [zGS, zMS, Nat.reduceEqDiff, OfNat.ofNat_ne_ofNat, false_and, and_false, true_and, and_true, and_self, if_true, if_false, ite_true, ite_false, reduceIte, reduceCtorEq]; first | done | assumption | rfl) | assumption | exact z2_eq | exact z1_eq | (simp [zGS, zMS]; first | done | assumption) | rfl) dX9_rule_112 rfl ?_
  refine r_iconst dX9_rule_115 kc_1 rfl ?_
  refine r_isubN (by omega) dX9_rule_116 rfl ?_
  refine x_iret rfl dX9_rule_117 ?_
  refine ⟨⟨(ls, ds), hf, ?_⟩, rfl, rfl⟩
  have e4 : ∀ b, b ≠ x → b ≠ x + 2 → zeq w3 (zsi (zsi (zsq w3 (x + 2) Rs.length (some (zsz w))) 1003 x (nI (Rs.length + 1))) 1006 x (nI 1)) b := fun b h1 h2 => (zeq.sq h2).tr ((zeq.si h1).tr (zeq.si h1))
  have exx := e3 x (by omega)
  refine rl_I hD1 hr h12 h23 hn hls hds hs hdd y0 (fun c q1 q2 q3 => (e3 c q1).tr (e4 c q2 q3)) ⟨exx.k, fun f => exx.r f, ?_, ?_, z2_eq⟩ ⟨z2'.k, z2'.ln, fun i hi => ?_, ?_⟩ ⟨(e4 _ (by omega) (by omega)).k.trans y1, ((e4 _ (by omega) (by omega)).r _).trans y2, ((e4 _ (by omega) (by omega)).r _).trans y3⟩
  · rw [zi_zsi, if_neg (by omega), zi_zsi, if_neg (by omega)]
    exact exx.i 1001
  · rw [zi_zsi, if_neg (by omega)]
    exact z2_eq
  · show zq (zsq w3 (x + 2) Rs.length (some (zsz w))) (x + 2) i = _
    rw [zq_zsq, if_neg (fun q => by omega), z2'.q]
  · show zq (zsq w3 (x + 2) Rs.length (some (zsz w))) (x + 2) Rs.length = _
    rw [zq_zsq, if_pos ⟨rfl, rfl⟩]
