/-! ===== a part is read and added ===== -/
def addW (w : ZW) (a b : Nat) (x : Nat) : ZW := zsi (zsr (zsr w 403 b (zr w 101 a)) 101 a (some b)) 103 a (nI x)
theorem addW_eq {w : ZW} {a b x c : Nat} (h1 : c ≠ a) (h2 : c ≠ b) : zeq w (addW w a b x) c := ((zeq.sr h2).tr (zeq.sr h1)).tr (zeq.si h1)
theorem addPart_ok {w : ZW} {lo cp b hi t : Nat} {ps : List PPart} {es : List PBare} {p : PPart} (hc : isComp w lo hi cp (t, ps, es)) (hb : hi ≤ b) (hp : isPart w b (b + 1) b p) : isComp (addW w cp b (wComp (t, ps, es) + wPart p)) lo (b + 1) cp (t, p :: ps, es) := by
  obtain ⟨h1, h2, h3, h4, h5, h6, h7, h8, h9⟩ := hc
  have hne : cp ≠ b := by omega
  have he : ∀ x, cp + 1 ≤ x → x < hi → zeq w (addW w cp b (wComp (t, ps, es) + wPart p)) x := fun x g1 g2 => addW_eq (by omega) (by omega)
  have e403 : zr (addW w cp b (wComp (t, ps, es) + wPart p)) 403 b = zr w 101 cp := by unfold addW; simp [zGS]
  have e101 : zr (addW w cp b (wComp (t, ps, es) + wPart p)) 101 cp = some b := by unfold addW; simp [zGS]
  have e102 : zr (addW w cp b (wComp (t, ps, es) + wPart p)) 102 cp = zr w 102 cp := by unfold addW; simp [zGS]
  refine ⟨h1, by omega, h3, ?_, ?_, ?_, ?_, by unfold addW; simpa [zGS] using h8, by unfold addW; simpa [zGS] using h9⟩
  · unfold addW; simpa [zGS] using h4
  · rw [e101]
    refine ⟨b, rfl, ?_, ?_⟩
    · obtain ⟨g1, g2, g3, g4, g5, g6⟩ := hp
      exact ⟨by omega, g2, g3, by unfold addW; simpa [zGS] using g4, by unfold addW; simpa [zGS] using g5, by unfold addW; simpa [zGS] using g6⟩
    · rw [e403]
      exact h5.fr (Nat.le_refl _) (by omega) he
  · rw [e102]
    exact h6.fr (Nat.le_refl _) (by omega) he
  · have : zi (addW w cp b (wComp (t, ps, es) + wPart p)) 103 cp = nI (wComp (t, ps, es) + wPart p) := by unfold addW; simp [zGS]
    rw [this]
    congr 1
    simp only [wComp, wParts]
    omega
/-- what a reader of a part of the compound cp answers -/
def zqQ (tb tx sp nm : Nat) (w : ZW) (sg : ZM) (cp t : Nat) (o : Option (List PPart × List PBare × List Nat)) : ZQ := fun v w' sg' => sg = sg' ∧ TBv (fun a => a = cp) tb sp nm w w' ∧ v = some (.int (zb o.isSome)) ∧ match o with
  | none => TBb w' tb tx sp nm ∧ TBx w' tb tx sp nm
  | some (ps, es, r1) => isComp w' cp (zsz w') cp (t, ps, es) ∧ TBn w' tb tx sp nm r1
theorem TBn.x {w : ZW} {tb tx sp nm : Nat} {r : List Nat} (h : TBn w tb tx sp nm r) : TBb w tb tx sp nm ∧ TBx w tb tx sp nm := ⟨h.1, h.2.choose_spec.x⟩
theorem TBn.ne {w : ZW} {tb tx sp nm cp : Nat} {r : List Nat} (h : TBn w tb tx sp nm r) (hk : zk w cp = 1) : cp ≠ tb ∧ cp ≠ tx ∧ cp ≠ sp ∧ cp ≠ nm := by
  obtain ⟨h1, -, -, -, h5, -, h7, -, h9, -⟩ := h.2.choose_spec.1
  refine ⟨fun e => ?_, fun e => ?_, fun e => ?_, fun e => ?_⟩ <;> (subst e; omega)
/-- the part b, just made, is added to cp -/
theorem addTail {tb tx sp nm cp t b : Nat} {w : ZW} {r : List Nat} {ps : List PPart} {es : List PBare} {p : PPart} (hc : isComp w cp b cp (t, ps, es)) (hp : isPart w b (b + 1) b p) (hz : zsz w = b + 1) (h : TBn w tb tx sp nm r) (hbb : tb < b ∧ tx < b ∧ sp < b ∧ nm < b) : TBv (fun a => a = cp ∨ a = b) tb sp nm w (addW w cp b (wComp (t, ps, es) + wPart p)) ∧ isComp (addW w cp b (wComp (t, ps, es) + wPart p)) cp (zsz (addW w cp b (wComp (t, ps, es) + wPart p))) cp (t, p :: ps, es) ∧ TBn (addW w cp b (wComp (t, ps, es) + wPart p)) tb tx sp nm r := by
  obtain ⟨n1, n2, n3, n4⟩ := h.ne hc.2.2.1
  obtain ⟨b1, b2, b3, b4⟩ := hbb
  refine ⟨⟨Nat.le_refl _, fun a _ ha _ _ _ => addW_eq (fun e => ha (Or.inl e)) (fun e => ha (Or.inr e)), (addW_eq (Ne.symm n1) (Nat.ne_of_lt b1)).i 901⟩, ?_, h.fr (Nat.le_refl _) (addW_eq (Ne.symm n1) (Nat.ne_of_lt b1)) (addW_eq (Ne.symm n2) (Nat.ne_of_lt b2)) (addW_eq (Ne.symm n3) (Nat.ne_of_lt b3)) (addW_eq (Ne.symm n4) (Nat.ne_of_lt b4))⟩
  have : zsz (addW w cp b (wComp (t, ps, es) + wPart p)) = b + 1 := hz
  rw [this]
  exact addPart_ok hc (Nat.le_refl _) hp
def TBl (cp tb tx sp nm : Nat) : Prop := tb < cp ∧ tx < cp ∧ sp < cp ∧ nm < cp
theorem TBu.e {tb tx sp nm cp b : Nat} {w w' : ZW} (h : TBu tb sp nm w w') (hl : TBl cp tb tx sp nm) (hb : cp ≤ b) (hz : b < zsz w) : zeq w w' b := by
  obtain ⟨l1, l2, l3, l4⟩ := hl
  exact (h.v (X := zno)).2.1 b hz (fun e => e) (by omega) (by omega) (by omega)
theorem isComp.u {tb tx sp nm cp : Nat} {w w' : ZW} {c : PComp} (hc : isComp w cp (zsz w) cp c) (h : TBu tb sp nm w w') (hl : TBl cp tb tx sp nm) : isComp w' cp (zsz w') cp c := by
  rw [h.1]
  exact hc.fr (Nat.le_refl _) (Nat.le_refl _) (fun b h1 h2 => h.e hl h1 h2)
theorem partFacts {tb tx sp nm cp t k : Nat} {w2 : ZW} {y z : Int32} {ps : List PPart} {es : List PBare} (hc : isComp w2 cp (zsz w2) cp (t, ps, es)) : zk (mkPart w2 (nI k) y z) cp = 1 ∧ zk (mkPart w2 (nI k) y z) (zsz w2) = 4 ∧ zi (mkPart w2 (nI k) y z) 400 (zsz w2) = nI k ∧ zi (mkPart w2 (nI k) y z) 103 cp = nI (wComp (t, ps, es)) := by
  have e := mkPart_eq (x := nI k) (y := y) (z := z) (Nat.ne_of_lt hc.2.1)
  exact ⟨e.k.trans hc.2.2.1, by unfold mkPart; simp [zKS, zNS], by unfold mkPart; simp [zGS], (e.i 103).trans hc.2.2.2.2.2.2.1⟩
theorem partDone {tb tx sp nm cp t k : Nat} {w w2 : ZW} {y z : Int32} {r : List Nat} {ps : List PPart} {es : List PBare} (hl : TBl cp tb tx sp nm) (hc : isComp w2 cp (zsz w2) cp (t, ps, es)) (hu : TBu tb sp nm w w2) (hn : TBn w2 tb tx sp nm r) :
    TBv (fun a => a = cp) tb sp nm w (addW (mkPart w2 (nI k) y z) cp (zsz w2) (wComp (t, ps, es) + wPart (k, y, z))) ∧ isComp (addW (mkPart w2 (nI k) y z) cp (zsz w2) (wComp (t, ps, es) + wPart (k, y, z))) cp (zsz (addW (mkPart w2 (nI k) y z) cp (zsz w2) (wComp (t, ps, es) + wPart (k, y, z)))) cp (t, (k, y, z) :: ps, es) ∧ TBn (addW (mkPart w2 (nI k) y z) cp (zsz w2) (wComp (t, ps, es) + wPart (k, y, z))) tb tx sp nm r := by
  obtain ⟨k1, k2, k3, k4⟩ := mkPart_ok (k := k) (y := y) (z := z) hn
  have hlt := hc.2.1
  obtain ⟨l1, l2, l3, l4⟩ := hl
  have hc2 : isComp (mkPart w2 (nI k) y z) cp (zsz w2) cp (t, ps, es) := hc.fr (Nat.le_refl _) (Nat.le_refl _) (fun b h1 h2 => mkPart_eq (by omega))
  obtain ⟨j1, j2, j3⟩ := addTail hc2 k3 k1 k4 ⟨by omega, by omega, by omega, by omega⟩
  refine ⟨((hu.v (X := fun a => a = cp)).tr k2 (fun _ _ h => h.elim)).tr j1 (fun a ha h => ?_), j2, j3⟩
  rcases h with h | h
  · exact h
  · rw [← hu.1] at ha
    omega
