/-! ===== StyleDesk.enter ===== -/
def offD (wt : Int32) (k : Nat) : List PDecl → (Nat → PLd) → Nat → PLd
  | [], L => L
  | D :: ds, L => offD wt k ds (fun n => if n = D.1 then offO (L n) k D wt else L n)
abbrev PRule : Type := List (List (Nat × PComp)) × List PDecl
def entR (T : List PEl) (R : PRule) (k e : Nat) (L : Nat → PLd) : Nat → PLd := if hvI T e R.1 (-1) = -1 then L else offD (hvI T e R.1 (-1)) k R.2 L
/-- the known declarations stand, each in a range of its rule -/
def okDF (w : ZW) (DC : Nat → PDecl → Prop) (RG : Nat → Nat → Prop) : Prop := ∀ a D, DC a D → D.1 < 10 ∧ D.2.1 < 3 ∧ D.2.2.1 < 6 ∧ ∃ lo hi, RG lo hi ∧ isDecl w lo hi a D
/-- no range meets X -/
def apRG (RG : Nat → Nat → Prop) (X : Nat → Prop) : Prop := ∀ lo hi b, RG lo hi → lo ≤ b → b < hi → ¬ X b
theorem okDF.c {w : ZW} {DC : Nat → PDecl → Prop} {RG : Nat → Nat → Prop} (h : okDF w DC RG) : okDC w DC := fun a D q => by
  obtain ⟨h1, -, h2, lo, hi, -, h4⟩ := h a D q
  exact ⟨h4.2.2.1, h4.2.2.2.1, h4.2.2.2.2.2.1, h1, h2⟩
theorem okDF.e {w w' : ZW} {DC : Nat → PDecl → Prop} {RG : Nat → Nat → Prop} {X : Nat → Prop} (h : okDF w DC RG) (e : ech X w w') (hX : apRG RG X) : okDF w' DC RG := fun a D q => by
  obtain ⟨h1, h2, h3, lo, hi, h4, h5⟩ := h a D q
  exact ⟨h1, h2, h3, lo, hi, h4, h5.fr (Nat.le_refl _) (Nat.le_refl _) (fun b g1 g2 => e.2.2.2 b (hX lo hi b h4 (Nat.le_trans h5.1 g1) g2))⟩
theorem isDecl.x {w w' : ZW} {lo hi a : Nat} {D : PDecl} (h : isDecl w lo hi a D) (e : eqx w w') : isDecl w' lo hi a D := by
  obtain ⟨e1, e2, e3, e4, e5, e6, e7, e8, e9, e10, e11⟩ := e
  unfold isDecl at h ⊢
  rw [e2, e3, e5, e7, e9, e4 _ _ (by decide), e4 _ _ (by decide), e4 _ _ (by decide)]
  exact h
theorem okDF.x {w w' : ZW} {DC : Nat → PDecl → Prop} {RG : Nat → Nat → Prop} (h : okDF w DC RG) (e : eqx w w') : okDF w' DC RG := fun a D q => by
  obtain ⟨h1, h2, h3, lo, hi, h4, h5⟩ := h a D q
  exact ⟨h1, h2, h3, lo, hi, h4, h5.x e⟩
theorem segDC {w w' : ZW} {DC : Nat → PDecl → Prop} {RG : Nat → Nat → Prop} {X : Nat → Prop} (h : okDF w DC RG) (e : ech X w w') (hX : apRG RG X) {ds : List PDecl} {o : Option Nat} (hs : Seg DC w 205 o ds none) : Seg DC w' 205 o ds none := hs.imp (fun a D q => by
  obtain ⟨h1, h2, h3, lo, hi, h4, h5⟩ := h a D q
  exact ⟨q, (e.2.2.2 a (hX lo hi a h4 h5.1 h5.2.1)).r 205⟩)
abbrev XS3 (s : Nat) : Nat → Prop := fun a => a = s + 1 ∨ a = s + 2 ∨ a = s + 3
theorem rent_in (E : ZE) (sg : ZM) (d : Nat) (hd : 1 ≤ d) (x r k i e s : Nat) (wt : Int32) (hes : e < s) (DC : Nat → PDecl → Prop) (RG : Nat → Nat → Prop) (hXr : apRG RG (XS3 s)) (P : ZPhi) : ∀ (ds : List PDecl) (o : Option Nat) (w : ZW) (L : Nat → PLd), isSty w s → okDF w DC RG → Seg DC w 205 o ds none → (∀ n, n < 10 → isLd w s DC n (L n)) → zk w e = 3 → zr w 309 e = some s → (∀ (w' : ZW) (x6 : Option Value), ech (XS3 s) w w' → (∀ n, n < 10 → isLd w' s DC n (offD wt k ds L n)) → RW E MX9_enter 69 [some (.ref x), some (.ref r), some (.int (nI k)), some (.int (nI i)), some (.ref e), some (.int wt), x6] [] w' sg d 0 0 P) → RW E MX9_enter 41 [some (.ref x), some (.ref r), some (.int (nI k)), some (.int (nI i)), some (.ref e), some (.int wt), some (va_rf o)] [] w sg d 0 0 P
  | [], o, w, L, hs, hF, hc, hL, k1, k2, K => by
    have h9 : o = none := hc
    subst h9
    refine r_aload dX9_enter_41 rfl (by first | exact zRv_ref _ | exact zRv_null | exact zRv_rf _ | assumption) rfl ?_
    refine r_ifnullZ (r := 69) dX9_enter_43 (by decide) rfl (fun c_43 => ?_) (fun a_43 c_43 => ?_)
    · exact K w _ ech.rf hL
    · cases c_43
  | D :: ds, o, w, L, hs, hF, hc, hL, k1, k2, K => by
    obtain ⟨a, rfl, h1, h2⟩ := hc
    have ks := hs.1.1
    have kd := (hF.c a D h1).1
    refine r_aload dX9_enter_41 rfl (by first | exact zRv_ref _ | exact zRv_null | exact zRv_rf _ | assumption) rfl ?_
    refine r_ifnullR (r := 69) dX9_enter_43 (by decide) rfl (fun c_43 => ?_) (fun a_43 c_43 => ?_)
    · cases c_43
    · refine r_aload dX9_enter_46 rfl (by first | exact zRv_ref _ | exact zRv_null | exact zRv_rf _ | assumption) rfl ?_
      refine r_gets 2 9 309 lfX9_121 (by first | (simp only [zKS]; first | assumption) | assumption | exact zk_nself _ _ _ | (simp [zKS, zNS, *]; done)) rfl rfl (by first | (simp only [zGS, Nat.reduceEqDiff, OfNat.ofNat_ne_ofNat, false_and, and_false, true_and, and_true, and_self, if_true, if_false, ite_true, ite_false, reduceIte, reduceCtorEq]; first | done | assumption) | assumption | exact z2_eq | (simp [zGS]; first | done | assumption)) dX9_enter_48 rfl ?_
      refine r_aload dX9_enter_51 rfl (by first | exact zRv_ref _ | exact zRv_null | exact zRv_rf _ | assumption) rfl ?_
      refine r_iload_n dX9_enter_53 rfl rfl ?_
      refine r_iload dX9_enter_54 rfl rfl ?_
      refine r_callV MX7_offer 3 [_, _, _] lvX9_161 (Or.inl ⟨7, by decide, (by first | (simp only [zKS]; first | assumption) | assumption | exact zk_nself _ _ _ | (simp [zKS, zNS, *]; done)), rfl⟩) (sp_offer E sg (d - 1) s a k wt w hs DC hF.c D h1 L hL) rfl rfl (by first | exact Nat.le_of_ble_eq_true rfl | (simp [zcat_rf, Value.category]; done)) (by omega) (Nat.le_of_eq (Nat.zero_add _)) (Nat.le_of_eq (Nat.zero_add _)) dX9_enter_56 rfl (fun v_ w_ sg_ hq_ => ?_)
      obtain ⟨rfl, rfl, he, hL2⟩ := hq_
      obtain ⟨w2, hw2⟩ : ∃ x, x = w_ := ⟨_, rfl⟩
      subst hw2
      have hns : ¬ XS3 s s := by show ¬ (_ ∨ _ ∨ _); omega
      have hne : ¬ XS3 s e := by show ¬ (_ ∨ _ ∨ _); omega
      have ee := he.2.2.2 e hne
      have hF2 := hF.e he hXr
      have kd2 := (hF2.c a D h1).1
      have ez : zr w2 205 a = zr w 205 a := by
        obtain ⟨q1, q2, q3, lo, hi, q4, q5⟩ := hF a D h1
        exact (he.2.2.2 a (hXr lo hi a q4 q5.1 q5.2.1)).r 205
      refine r_aload dX9_enter_59 rfl (by first | exact zRv_ref _ | exact zRv_null | exact zRv_rf _ | assumption) rfl ?_
      refine r_getr 1 5 205 lfX9_165 (by first | (simp only [zKS]; first | assumption) | assumption | exact zk_nself _ _ _ | (simp [zKS, zNS, *]; done)) rfl rfl dX9_enter_61 rfl ?_
      refine r_astore (ls' := [_, _, _, _, _, _, _]) dX9_enter_64 (Nat.le_of_ble_eq_true rfl) (by first | exact zRv_ref _ | exact zRv_null | exact zRv_rf _ | assumption) rfl rfl ?_
      refine r_goto (r := 41) dX9_enter_66 (by decide) ?_
      rw [ez]
      exact rent_in E sg d hd x r k i e s wt hes DC RG hXr P ds (zr w 205 a) w2 _ (hs.e he hns) hF2 (segDC hF he hXr h2) hL2 (ee.k.trans k1) ((ee.r 309).trans k2) (fun w' x6 e' hL' => K w' x6 (he.tr e' (fun _ q => q)) hL')
def isDesk (w : ZW) (x n nr : Nat) : Prop := zk w x = 10 ∧ zr w 1000 x = some (x + 1) ∧ zi w 1001 x = nI n ∧ zr w 1002 x = some (x + 2) ∧ zi w 1003 x = nI nr ∧ zr w 1004 x = some (x + 3) ∧ zr w 1005 x = some (x + 7)
theorem isDesk.e {X : Nat → Prop} {w w' : ZW} {x n nr : Nat} (h : isDesk w x n nr) (e : ech X w w') (hx : ¬ X x) : isDesk w' x n nr := by
  have e1 := e.2.2.2 x hx
  unfold isDesk at h ⊢
  rw [e1.k, e1.r, e1.r, e1.r, e1.r, e1.i, e1.i]
  exact h
theorem isDesk.x {w w' : ZW} {x n nr : Nat} (h : isDesk w x n nr) (e : eqx w w') : isDesk w' x n nr := by
  unfold isDesk at h ⊢
  rw [e.k, e.r, e.i _ (by decide), e.i _ (by decide)]
  exact h
theorem isEl.e {X : Nat → Prop} {w w' : ZW} {T : List PEl} {A : Nat → Nat} {i : Nat} (h : isEl w T A i) (e : ech X w w') (hx : ¬ X (A i)) : isEl w' T A i := by
  have e1 := e.2.2.2 _ hx
  unfold isEl at h ⊢
  rw [e1.k, e1.r, e1.r, e1.i, e1.i, e1.i, e1.i, e1.i, e1.i, e1.i, e1.i, e1.i, e1.i]
  exact h
theorem isEls.e {X : Nat → Prop} {w w' : ZW} {T : List PEl} {A : Nat → Nat} (h : isEls w T A) (e : ech X w w') (hx : ∀ i, i < T.length → ¬ X (A i)) : isEls w' T A := ⟨h.1, fun i hi => (h.2 i hi).e e (hx i hi)⟩
theorem isEA.e {X : Nat → Prop} {w w' : ZW} {ea n : Nat} {A : Nat → Nat} (h : isEA w ea n A) (e : ech X w w') (hx : ¬ X ea) : isEA w' ea n A := by
  have e1 := e.2.2.2 _ hx
  unfold isEA at h ⊢
  rw [e1.k, e1.ln, e1.q]
  exact h
