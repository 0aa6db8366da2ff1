def pSelL : Nat → List Nat → Option (List (Nat × PComp) × List Nat)
  | 0, r => some ([], r)
  | n + 1, r => match r with
    | [] => some ([], [])
    | c :: r1 => if isJn c = true then (match pComp r1 with
        | none => none
        | some (x, r2) => match pSelL n r2 with
          | none => none
          | some (l, r3) => some ((c, x) :: l, r3)) else some ([], c :: r1)
def pSel (r : List Nat) : Option (List (Nat × PComp) × List Nat) := match pComp r with
  | none => none
  | some (x, r1) => match pSelL 3 r1 with
    | none => none
    | some (l, r2) => some ((0, x) :: l, r2)
/-- a selector's cell s, its compounds in lo .. s -/
def isSel (w : ZW) (lo s : Nat) (l : List (Nat × PComp)) : Prop := zk w s = 7 ∧ (∃ a0, zr w 700 s = some a0 ∧ Seg (isCJ w lo s) w 105 (some a0) l none) ∧ zi w 701 s = nI (wSel l) ∧ zi w 702 s = nI 0
def zqS1 (tb tx sp nm : Nat) (w : ZW) (sg : ZM) (o : Option (List (Nat × PComp) × List Nat)) : ZQ := fun v w' sg' => sg = sg' ∧ TBv zno tb sp nm w w' ∧ match o with
  | none => v = some .null ∧ TBb w' tb tx sp nm ∧ TBx w' tb tx sp nm
  | some (l, r1) => ∃ s, v = some (.ref s) ∧ zsz w ≤ s ∧ s + 1 = zsz w' ∧ isSel w' (zsz w) s l ∧ zr w' 703 s = none ∧ TBn w' tb tx sp nm r1
def mkSel (w : ZW) (f : Nat) (x : Int32) : ZW := zsr (zsi (zsi (zsr (znew w 7 0) 700 (zsz w) (some f)) 701 (zsz w) x) 702 (zsz w) (nI 0)) 703 (zsz w) none
theorem mkSel_eq {w : ZW} {f b : Nat} {x : Int32} (h : b ≠ zsz w) : zeq w (mkSel w f x) b := ((((zeq.nw h).tr (zeq.sr h)).tr (zeq.si h)).tr (zeq.si h)).tr (zeq.sr h)
theorem mkSel_ok {sg : ZM} {tb tx sp nm a0 last : Nat} {w0 w : ZW} {r : List Nat} {l : List (Nat × PComp)} {x : Nat × PComp} (hv : TBv zno tb sp nm w0 w) (h : isSelP w (zsz w0) a0 last (zsz w) l x) (hn : TBn w tb tx sp nm r) : zqS1 tb tx sp nm w0 sg (some (l ++ [x], r)) (some (.ref (zsz w))) (mkSel w a0 (nI (wSel (l ++ [x])))) sg := by
  have e : ∀ b, b ≠ zsz w → zeq w (mkSel w a0 (nI (wSel (l ++ [x])))) b := fun b hb => mkSel_eq hb
  obtain ⟨h1, h2, h3, h4⟩ := h
  have hlt := h3.2.1
  refine ⟨rfl, hv.tr (Y := zno) (TBv.new hn.1.1 (Nat.le_succ _) e) (fun _ _ h => h), zsz w, rfl, by omega, rfl, ⟨by unfold mkSel; simp [zKS, zNS], ⟨a0, by unfold mkSel; simp [zGS, zNS], ?_⟩, by unfold mkSel; simp [zGS, zNS], by unfold mkSel; simp [zGS, zNS]⟩, by unfold mkSel; simp [zGS, zNS], hn.new (Nat.le_succ _) e⟩
  refine Seg.snoc (a := last) ?_ (h3.fr h1 (Nat.le_refl _) (fun b g1 g2 => e b (by omega))) (((e last (by omega)).r 105).trans h4)
  refine Seg.imp h2 (fun a y hy => ?_)
  have hl2 := hy.2.1
  exact ⟨hy.fr (Nat.le_refl _) (by omega) (fun b g1 g2 => e b (by omega)), (e a (by omega)).r 105⟩
theorem rsel_null (E : ZE) (sg : ZM) (d : Nat) (tb tx sp nm : Nat) (w0 w : ZW) (v1 x5 x6 : Option Value) (g : Int32) (m a a' : Nat) (hm : m ≤ 4) (hv : TBv zno tb sp nm w0 w) (hb : TBb w tb tx sp nm) (hx : TBx w tb tx sp nm) : RW E MX8_readSelector 24 [some (.ref tb), v1, some .null, some (.int g), some (.int (nI m)), x5, x6] [] w sg d a a' (PN E (zqS1 tb tx sp nm w0 sg none)) := by
  refine r_iload dX8_readSelector_24 rfl rfl ?_
  refine r_iconst dX8_readSelector_26 kc_4 rfl ?_
  refine r_icmp_geN (by omega) (by omega) (r := 92) dX8_readSelector_27 (by decide) rfl (fun c_27 => ?_) (fun c_27 => ?_)
  · refine r_aload_n dX8_readSelector_92 rfl (by first | exact zRv_ref _ | exact zRv_null | exact zRv_rf _ | assumption) rfl ?_
    refine r_ifnonnullZ (r := 100) dX8_readSelector_93 (by decide) rfl (fun c_93 => ?_) (fun a_93 c_93 => ?_)
    · refine r_aconst_null dX8_readSelector_96 rfl ?_
      refine r_goto (r := 109) dX8_readSelector_97 (by decide) ?_
      refine r_aret rfl (by first | exact Or.inl ⟨_, rfl⟩ | exact Or.inr ⟨_, rfl⟩) (by first | exact zRv_ref _ | exact zRv_null | exact zRv_rf _ | assumption) dX8_readSelector_109 ?_
      exact ⟨rfl, hv, rfl, hb, hx⟩
    · exact absurd c_93 (by simp)
  · refine r_aload_n dX8_readSelector_30 rfl (by first | exact zRv_ref _ | exact zRv_null | exact zRv_rf _ | assumption) rfl ?_
    refine r_ifnullZ (r := 92) dX8_readSelector_31 (by decide) rfl (fun c_31 => ?_) (fun a_31 c_31 => ?_)
    · refine r_aload_n dX8_readSelector_92 rfl (by first | exact zRv_ref _ | exact zRv_null | exact zRv_rf _ | assumption) rfl ?_
      refine r_ifnonnullZ (r := 100) dX8_readSelector_93 (by decide) rfl (fun c_93 => ?_) (fun a_93 c_93 => ?_)
      · refine r_aconst_null dX8_readSelector_96 rfl ?_
        refine r_goto (r := 109) dX8_readSelector_97 (by decide) ?_
        refine r_aret rfl (by first | exact Or.inl ⟨_, rfl⟩ | exact Or.inr ⟨_, rfl⟩) (by first | exact zRv_ref _ | exact zRv_null | exact zRv_rf _ | assumption) dX8_readSelector_109 ?_
        exact ⟨rfl, hv, rfl, hb, hx⟩
      · exact absurd c_93 (by simp)
    · exact absurd c_31 (by simp)
theorem rsel_end (E : ZE) (sg : ZM) (d : Nat) (hd : 2 ≤ d) (tb tx sp nm : Nat) (w0 w : ZW) (a0 last : Nat) (l : List (Nat × PComp)) (x : Nat × PComp) (x4 x5 x6 : Option Value) (r : List Nat) (hv : TBv zno tb sp nm w0 w) (h : isSelP w (zsz w0) a0 last (zsz w) l x) (hn : TBn w tb tx sp nm r) (a a' : Nat) : RW E MX8_readSelector 92 [some (.ref tb), some (.ref a0), some (.ref last), some (.int (nI (wSel (l ++ [x])))), x4, x5, x6] [] w sg d (1 + a) (4 + a') (PN E (zqS1 tb tx sp nm w0 sg (some (l ++ [x], r)))) := by
  refine r_aload_n dX8_readSelector_92 rfl (by first | exact zRv_ref _ | exact zRv_null | exact zRv_rf _ | assumption) rfl ?_
  refine r_ifnonnullR (r := 100) dX8_readSelector_93 (by decide) rfl (fun c_93 => ?_) (fun a_93 c_93 => ?_)
  · exact absurd c_93 (by simp)
  · refine r_new (nc' := a) (ns' := a') 6 lnX8_49 (Nat.le_refl _) (Nat.le_refl _) dX8_readSelector_100 rfl ?_
    refine r_dup dX8_readSelector_103 (by first | rfl | exact zcat_rf _) rfl ?_
    refine r_aload_n dX8_readSelector_104 rfl (by first | exact zRv_ref _ | exact zRv_null | exact zRv_rf _ | assumption) rfl ?_
    refine r_iload_n dX8_readSelector_105 rfl rfl ?_
    refine r_callI MX6_init 2 [_, _] liX8_79 (sp_X6_init E _ sg (d - 1) (by omega) _ _ _ (zk_nself _ _ _)) rfl rfl (by first | exact Nat.le_of_ble_eq_true rfl | (simp [zcat_rf, Value.category]; done)) (by omega) (Nat.le_of_eq (Nat.zero_add _)) (Nat.le_of_eq (Nat.zero_add _)) dX8_readSelector_106 rfl (fun v_ w_ sg_ hq_ => ?_)
    obtain ⟨rfl, rfl, rfl⟩ := hq_
    refine r_aret rfl (by first | exact Or.inl ⟨_, rfl⟩ | exact Or.inr ⟨_, rfl⟩) (by first | exact zRv_ref _ | exact zRv_null | exact zRv_rf _ | assumption) dX8_readSelector_109 ?_
    exact mkSel_ok hv h hn
