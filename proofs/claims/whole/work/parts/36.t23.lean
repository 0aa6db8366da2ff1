/-! ===== the declarations of a rule ===== -/
abbrev PDecl : Type := Nat × Nat × Nat × List PStep
def isDecl (w : ZW) (lo hi a : Nat) (D : PDecl) : Prop := lo ≤ a ∧ a < hi ∧ zk w a = 2 ∧ zi w 200 a = nI D.1 ∧ zi w 201 a = nI D.2.1 ∧ zi w 202 a = nI D.2.2.1 ∧ ∃ p q, zr w 203 a = some p ∧ zr w 204 a = some q ∧ (a < p ∧ p < hi ∧ a < q ∧ q < hi) ∧ zk w p = 22 ∧ zln w p = D.2.2.2.length ∧ zk w q = 21 ∧ zln w q = D.2.2.2.length ∧ ∀ i s, D.2.2.2[i]? = some s → za w p i = nI s.1 ∧ zg w q i = s.2
theorem isDecl.fr {w w' : ZW} {lo hi lo' hi' a : Nat} {D : PDecl} (h : isDecl w lo hi a D) (hl : lo' ≤ lo) (hh : hi ≤ hi') (he : ∀ b, a ≤ b → b < hi → zeq w w' b) : isDecl w' lo' hi' a D := by
  obtain ⟨h1, h2, h3, h4, h5, h6, p, q, h7, h8, ⟨g1, g2, g3, g4⟩, h9, h10, h11, h12, h13⟩ := h
  have e := he a (Nat.le_refl _) h2
  have ep := he p (Nat.le_of_lt g1) g2
  have eq := he q (Nat.le_of_lt g3) g4
  exact ⟨by omega, by omega, e.k.trans h3, (e.i _).trans h4, (e.i _).trans h5, (e.i _).trans h6, p, q, (e.r _).trans h7, (e.r _).trans h8, ⟨g1, by omega, g3, by omega⟩, ep.k.trans h9, ep.ln.trans h10, eq.k.trans h11, eq.ln.trans h12, fun i s hs => by rw [ep.a, eq.g]; exact h13 i s hs⟩
def isDecsP (w : ZW) (lo f0 last hi : Nat) (ds : List PDecl) (x : PDecl) : Prop := lo ≤ last ∧ Seg (isDecl w lo last) w 205 (some f0) ds (some last) ∧ isDecl w last hi last x ∧ zr w 205 last = none
theorem decsStep {tb tx sp nm f0 last : Nat} {w0 w w1 w2 : ZW} {ds : List PDecl} {x y : PDecl} {r2 : List Nat} (hbb : TBb w0 tb tx sp nm) (hv : TBv zno tb sp nm w0 w) (h : isDecsP w (zsz w0) f0 last (zsz w) ds x) (hu : TBu tb sp nm w w1) (hv2 : TBv zno tb sp nm w1 w2) (hc : isDecl w2 (zsz w1) (zsz w2) (zsz w1) y) (hc2 : zr w2 205 (zsz w1) = none) (hn : TBn w2 tb tx sp nm r2) :
    TBv zno tb sp nm w0 (zsr w2 205 last (some (zsz w1))) ∧ isDecsP (zsr w2 205 last (some (zsz w1))) (zsz w0) f0 (zsz w1) (zsz (zsr w2 205 last (some (zsz w1)))) (ds ++ [x]) y ∧ TBn (zsr w2 205 last (some (zsz w1))) tb tx sp nm r2 := by
  obtain ⟨b1, b2, b3, b4⟩ := hbb
  obtain ⟨h1, h4, h5, h6⟩ := h
  have hlt := h5.2.1
  have ez : zsz w1 = zsz w := hu.1
  have hv12 : TBv zno tb sp nm w w2 := (hu.v (X := zno)).tr hv2 (fun _ _ h => h)
  have hle := hv.1
  have e12 : ∀ b, zsz w0 ≤ b → b < zsz w → zeq w w2 b := fun b g1 g2 => hv12.2.1 b g2 (fun e => e) (by omega) (by omega) (by omega)
  have e23 : ∀ b, b ≠ last → zeq w2 (zsr w2 205 last (some (zsz w1))) b := fun b g1 => zeq.sr g1
  have hne : zsz w1 ≠ last := by omega
  have v1 : TBv zno tb sp nm w0 w2 := hv.tr hv12 (fun _ _ h => h)
  refine ⟨⟨v1.1, fun a g1 g2 g3 g4 g5 => (v1.2.1 a g1 g2 g3 g4 g5).tr (e23 a (by omega)), ((e23 tb (by omega)).i 901).trans v1.2.2⟩, ⟨by omega, ?_, hc.fr (Nat.le_refl _) (Nat.le_refl _) (fun b g1 g2 => e23 b (by omega)), ((e23 _ hne).r 205).trans hc2⟩, hn.fr (Nat.le_refl _) (e23 _ (by omega)) (e23 _ (by omega)) (e23 _ (by omega)) (e23 _ (by omega))⟩
  refine Seg.snoc (a := last) ?_ ?_ (by simp [zGS])
  · refine Seg.imp h4 (fun a z hz => ?_)
    have g1 := hz.1
    have g2 := hz.2.1
    exact ⟨hz.fr (Nat.le_refl _) (by omega) (fun b k1 k2 => (e12 b (by omega) (by omega)).tr (e23 b (by omega))), ((e12 a g1 (by omega)).tr (e23 a (by omega))).r 205⟩
  · obtain ⟨k1, k2, k3, k4, k5, k6, p, q, k7, k8, ⟨g1, g2, g3, g4⟩, k9, k10, k11, k12, k13⟩ := h5.fr (w' := w2) (Nat.le_refl _) (Nat.le_refl _) (fun b q1 q2 => e12 b (by omega) q2)
    have ep := e23 p (by omega)
    have eq := e23 q (by omega)
    exact ⟨by omega, by omega, k3, by simpa [zGS] using k4, by simpa [zGS] using k5, by simpa [zGS] using k6, p, q, by simpa [zGS] using k7, by simpa [zGS] using k8, ⟨g1, by omega, g3, by omega⟩, ep.k.trans k9, ep.ln.trans k10, eq.k.trans k11, eq.ln.trans k12, fun i s hs => by rw [ep.a, eq.g]; exact k13 i s hs⟩
def pDecsL (pD : List Nat → Option (PDecl × List Nat)) : Nat → List Nat → Option (List PDecl × List Nat)
  | 0, r => some ([], r)
  | n + 1, r => match pCh 59 r with
    | none => some ([], r)
    | some r1 => match pD r1 with
      | none => none
      | some (x, r2) => match pDecsL pD n r2 with
        | none => none
        | some (l, r3) => some (x :: l, r3)
def pDecsE (o : Option (List PDecl × List Nat)) : Option (List PDecl) := match o with
  | none => none
  | some (l, r3) => match pCh 125 r3 with
    | none => none
    | some r4 => if r4.isEmpty = true then some l else none
def pDecsR (l : List PDecl) (o : Option (List PDecl × List Nat)) : Option (List PDecl × List Nat) := match o with
  | none => none
  | some (l2, r2) => some (l ++ l2, r2)
/-- from the brace to the end of the text -/
def pDecs (pD : List Nat → Option (PDecl × List Nat)) (r : List Nat) : Option (List PDecl) := match pCh 123 r with
  | none => none
  | some r1 => match pD r1 with
    | none => none
    | some (x, r2) => pDecsE (pDecsR [x] (pDecsL pD 3 r2))
def zqD (tb tx sp nm : Nat) (w : ZW) (sg : ZM) (o : Option (PDecl × List Nat)) : ZQ := fun v w' sg' => sg = sg' ∧ TBv zno tb sp nm w w' ∧ match o with
  | none => v = some .null ∧ TBb w' tb tx sp nm ∧ TBx w' tb tx sp nm
  | some (D, r1) => v = some (.ref (zsz w)) ∧ isDecl w' (zsz w) (zsz w') (zsz w) D ∧ zr w' 205 (zsz w) = none ∧ TBn w' tb tx sp nm r1
def zqDD (tb tx sp nm : Nat) (w : ZW) (sg : ZM) (o : Option (List PDecl)) : ZQ := fun v w' sg' => sg = sg' ∧ TBv zno tb sp nm w w' ∧ (TBb w' tb tx sp nm ∧ TBx w' tb tx sp nm) ∧ match o with
  | none => v = some .null
  | some ds => ∃ f, v = some (.ref f) ∧ Seg (isDecl w' (zsz w) (zsz w')) w' 205 (some f) ds none
theorem rdecs_end (E : ZE) (sg : ZM) (d : Nat) (hd : 2 ≤ d) (tb tx sp nm : Nat) (w0 w : ZW) (f0 last : Nat) (ds : List PDecl) (x : PDecl) (x1 x4 : Option Value) (r : List Nat) (hle : zsz w0 ≤ zsz w) (hv : TBv zno tb sp nm w0 w) (hbb : TBb w0 tb tx sp nm) (h : isDecsP w (zsz w0) f0 last (zsz w) ds x) (hn : TBn w tb tx sp nm r) (a a' : Nat) : RW E MX8_readDeclarations 63 [some (.ref tb), x1, some (.ref f0), some (.ref last), x4] [] w sg d a a' (PN E (zqDD tb tx sp nm w0 sg (pDecsE (some (ds ++ [x], r))))) := by
  obtain ⟨hb0, ss, hm⟩ := hn
  obtain ⟨h1, h4, h5, h6⟩ := h
  have hlt := h5.2.1
  obtain ⟨b1, b2, b3, b4⟩ := hbb
  have hS : Seg (isDecl w (zsz w0) (zsz w)) w 205 (some f0) (ds ++ [x]) none := Seg.snoc (a := last) (Seg.imp h4 (fun a z hz => ⟨hz.fr (Nat.le_refl _) (by omega) (fun b _ _ => zeq.rf), rfl⟩)) (h5.fr h1 (Nat.le_refl _) (fun b _ _ => zeq.rf)) h6
  cases e1 : pCh 125 r with
  | none =>
    have g1 := pCh_none e1
    have e9 : pDecsE (some (ds ++ [x], r)) = none := by simp [pDecsE, e1]
    rw [e9]
    refine r_aload_n dX8_readDeclarations_63 rfl (by first | exact zRv_ref _ | exact zRv_null | exact zRv_rf _ | assumption) rfl ?_
    refine r_ifnullR (r := 87) dX8_readDeclarations_64 (by decide) rfl (fun c_64 => ?_) (fun a_64 c_64 => ?_)
    · exact absurd c_64 (by simp)
    · refine r_aload_n dX8_readDeclarations_67 rfl (zRv_ref _) rfl ?_
      refine r_bipush dX8_readDeclarations_68 kb_125 rfl ?_
      refine r_callV MX8_take 1 [_] lvX8_44 (Or.inl ⟨8, by decide, (by first | (simp only [zKS]; first | assumption | exact TBm.k (by assumption)) | assumption | exact TBm.k (by assumption) | exact zk_nself _ _ _ | (simp [zKS, zNS, *]; done)), rfl⟩) (sp_take E w sg (d - 1) tb tx sp nm 125 (by decide) r ss hm) rfl rfl (by first | exact Nat.le_of_ble_eq_true rfl | (simp [zcat_rf, Value.category]; done)) (by omega) (Nat.le_of_eq (Nat.zero_add _)) (Nat.le_of_eq (Nat.zero_add _)) dX8_readDeclarations_70 rfl (fun v_ w_ sg_ hq_ => ?_)
      obtain ⟨rfl, hu1, rfl, hm1⟩ := hq_
      simp only [g1.1, g1.2] at hm1 ⊢
      refine r_if_eqB (r := 87) dX8_readDeclarations_73 (by decide) rfl (fun c_73 => ?_) (fun c_73 => ?_)
      · refine r_aconst_null dX8_readDeclarations_87 rfl ?_
        refine r_aret rfl (by first | exact Or.inl ⟨_, rfl⟩ | exact Or.inr ⟨_, rfl⟩) (by first | exact zRv_ref _ | exact zRv_null | exact zRv_rf _ | assumption) dX8_readDeclarations_88 ?_
        exact ⟨rfl, hv.tr (hu1.v (X := zno)) (fun _ _ h => h), ⟨hu1.b hb0, hm1.x⟩, rfl⟩
      · exact absurd c_73 (by decide)
  | some r4 =>
    have g1 := pCh_some e1
    cases e2 : r4.isEmpty with
    | false =>
      have e9 : pDecsE (some (ds ++ [x], r)) = none := by simp only [pDecsE, e1, e2, Bool.false_eq_true, if_false]
      rw [e9]
      refine r_aload_n dX8_readDeclarations_63 rfl (by first | exact zRv_ref _ | exact zRv_null | exact zRv_rf _ | assumption) rfl ?_
      refine r_ifnullR (r := 87) dX8_readDeclarations_64 (by decide) rfl (fun c_64 => ?_) (fun a_64 c_64 => ?_)
      · exact absurd c_64 (by simp)
      · refine r_aload_n dX8_readDeclarations_67 rfl (zRv_ref _) rfl ?_
        refine r_bipush dX8_readDeclarations_68 kb_125 rfl ?_
        refine r_callV MX8_take 1 [_] lvX8_44 (Or.inl ⟨8, by decide, (by first | (simp only [zKS]; first | assumption | exact TBm.k (by assumption)) | assumption | exact TBm.k (by assumption) | exact zk_nself _ _ _ | (simp [zKS, zNS, *]; done)), rfl⟩) (sp_take E w sg (d - 1) tb tx sp nm 125 (by decide) r ss hm) rfl rfl (by first | exact Nat.le_of_ble_eq_true rfl | (simp [zcat_rf, Value.category]; done)) (by omega) (Nat.le_of_eq (Nat.zero_add _)) (Nat.le_of_eq (Nat.zero_add _)) dX8_readDeclarations_70 rfl (fun v_ w_ sg_ hq_ => ?_)
        obtain ⟨rfl, hu1, rfl, hm1⟩ := hq_
        simp only [g1.1, g1.2] at hm1 ⊢
        refine r_if_eqB (r := 87) dX8_readDeclarations_73 (by decide) rfl (fun c_73 => ?_) (fun c_73 => ?_)
        · exact absurd c_73 (by decide)
        · refine r_aload_n dX8_readDeclarations_76 rfl (zRv_ref _) rfl ?_
          refine r_callV MX8_isAtEnd 0 [] lvX8_128 (Or.inl ⟨8, by decide, (by first | (simp only [zKS]; first | assumption | exact TBm.k (by assumption)) | assumption | exact TBm.k (by assumption) | exact zk_nself _ _ _ | (simp [zKS, zNS, *]; done)), rfl⟩) (sp_atEnd E _ sg (d - 1) tb tx sp nm r4 ss hm1) rfl rfl (by first | exact Nat.le_of_ble_eq_true rfl | (simp [zcat_rf, Value.category]; done)) (by omega) (Nat.le_of_eq (Nat.zero_add _)) (Nat.le_of_eq (Nat.zero_add _)) dX8_readDeclarations_77 rfl (fun v_ w_ sg_ hq_ => ?_)
          obtain ⟨rfl, rfl, rfl⟩ := hq_
          refine r_if_eqB (r := 87) dX8_readDeclarations_80 (by decide) rfl (fun c_80 => ?_) (fun c_80 => ?_)
          · refine r_aconst_null dX8_readDeclarations_87 rfl ?_
            refine r_aret rfl (by first | exact Or.inl ⟨_, rfl⟩ | exact Or.inr ⟨_, rfl⟩) (by first | exact zRv_ref _ | exact zRv_null | exact zRv_rf _ | assumption) dX8_readDeclarations_88 ?_
            exact ⟨rfl, hv.tr (hu1.v (X := zno)) (fun _ _ h => h), ⟨hu1.b hb0, hm1.x⟩, rfl⟩
          · exact absurd c_80 (by simp [e2])
    | true =>
      have e9 : pDecsE (some (ds ++ [x], r)) = some (ds ++ [x]) := by simp only [pDecsE, e1, e2, if_true]
      rw [e9]
      refine r_aload_n dX8_readDeclarations_63 rfl (by first | exact zRv_ref _ | exact zRv_null | exact zRv_rf _ | assumption) rfl ?_
      refine r_ifnullR (r := 87) dX8_readDeclarations_64 (by decide) rfl (fun c_64 => ?_) (fun a_64 c_64 => ?_)
      · exact absurd c_64 (by simp)
      · refine r_aload_n dX8_readDeclarations_67 rfl (zRv_ref _) rfl ?_
        refine r_bipush dX8_readDeclarations_68 kb_125 rfl ?_
        refine r_callV MX8_take 1 [_] lvX8_44 (Or.inl ⟨8, by decide, (by first | (simp only [zKS]; first | assumption | exact TBm.k (by assumption)) | assumption | exact TBm.k (by assumption) | exact zk_nself _ _ _ | (simp [zKS, zNS, *]; done)), rfl⟩) (sp_take E w sg (d - 1) tb tx sp nm 125 (by decide) r ss hm) rfl rfl (by first | exact Nat.le_of_ble_eq_true rfl | (simp [zcat_rf, Value.category]; done)) (by omega) (Nat.le_of_eq (Nat.zero_add _)) (Nat.le_of_eq (Nat.zero_add _)) dX8_readDeclarations_70 rfl (fun v_ w_ sg_ hq_ => ?_)
        obtain ⟨rfl, hu1, rfl, hm1⟩ := hq_
        simp only [g1.1, g1.2] at hm1 ⊢
        refine r_if_eqB (r := 87) dX8_readDeclarations_73 (by decide) rfl (fun c_73 => ?_) (fun c_73 => ?_)
        · exact absurd c_73 (by decide)
        · refine r_aload_n dX8_readDeclarations_76 rfl (zRv_ref _) rfl ?_
          refine r_callV MX8_isAtEnd 0 [] lvX8_128 (Or.inl ⟨8, by decide, (by first | (simp only [zKS]; first | assumption | exact TBm.k (by assumption)) | assumption | exact TBm.k (by assumption) | exact zk_nself _ _ _ | (simp [zKS, zNS, *]; done)), rfl⟩) (sp_atEnd E _ sg (d - 1) tb tx sp nm r4 ss hm1) rfl rfl (by first | exact Nat.le_of_ble_eq_true rfl | (simp [zcat_rf, Value.category]; done)) (by omega) (Nat.le_of_eq (Nat.zero_add _)) (Nat.le_of_eq (Nat.zero_add _)) dX8_readDeclarations_77 rfl (fun v_ w_ sg_ hq_ => ?_)
          obtain ⟨rfl, rfl, rfl⟩ := hq_
          refine r_if_eqB (r := 87) dX8_readDeclarations_80 (by decide) rfl (fun c_80 => ?_) (fun c_80 => ?_)
          · exact absurd c_80 (by simp [e2])
          · refine r_aload_n dX8_readDeclarations_83 rfl (by first | exact zRv_ref _ | exact zRv_null | exact zRv_rf _ | assumption) rfl ?_
            refine r_goto (r := 88) dX8_readDeclarations_84 (by decide) ?_
            refine r_aret rfl (by first | exact Or.inl ⟨_, rfl⟩ | exact Or.inr ⟨_, rfl⟩) (by first | exact zRv_ref _ | exact zRv_null | exact zRv_rf _ | assumption) dX8_readDeclarations_88 ?_
            refine ⟨rfl, hv.tr (hu1.v (X := zno)) (fun _ _ h => h), ⟨hu1.b hb0, hm1.x⟩, f0, rfl, ?_⟩
            have e12 : ∀ b, zsz w0 ≤ b → b < zsz w → zeq w _ b := fun b q1 q2 => (hu1.v (X := zno)).2.1 b q2 (fun e => e) (by omega) (by omega) (by omega)
            rw [hu1.1]
            exact Seg.imp hS (fun a z hz => ⟨hz.fr (Nat.le_refl _) (Nat.le_refl _) (fun b q1 q2 => e12 b (by have := hz.1; omega) q2), (e12 a hz.1 hz.2.1).r 205⟩)
