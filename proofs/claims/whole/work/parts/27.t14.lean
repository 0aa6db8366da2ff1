/-! ===== :x(..) ===== -/
def exW (w : ZW) (a b : Nat) (x : Nat) : ZW := zsi (zsr (zsr w 105 b (zr w 102 a)) 102 a (some b)) 103 a (nI x)
theorem exW_eq {w : ZW} {a b x c : Nat} (h1 : c ≠ a) (h2 : c ≠ b) : zeq w (exW w a b x) c := ((zeq.sr h2).tr (zeq.sr h1)).tr (zeq.si h1)
theorem exComp_ok {w : ZW} {lo cp b hi hi2 t t' : Nat} {ps ps' : List PPart} {es : List PBare} (hc : isComp w lo hi cp (t, ps, es)) (hb : hi ≤ b) (hx : isComp w b hi2 b (t', ps', [])) : isComp (exW w cp b (wComp (t, ps, es) + wBare (t', ps'))) lo hi2 cp (t, ps, (t', ps') :: es) := by
  obtain ⟨h1, h2, h3, h4, h5, h6, h7, h8, h9⟩ := hc
  obtain ⟨g1, g2, g3, g4, g5, g6, g7, -, -⟩ := hx
  have hne : cp ≠ b := by omega
  have hne2 : b ≠ cp := by omega
  have he : ∀ x, cp + 1 ≤ x → x < hi → zeq w (exW w cp b (wComp (t, ps, es) + wBare (t', ps'))) x := fun x k1 k2 => exW_eq (by omega) (by omega)
  have hf : ∀ x, b + 1 ≤ x → x < hi2 → zeq w (exW w cp b (wComp (t, ps, es) + wBare (t', ps'))) x := fun x k1 k2 => exW_eq (by omega) (by omega)
  have e105 : zr (exW w cp b (wComp (t, ps, es) + wBare (t', ps'))) 105 b = zr w 102 cp := by unfold exW; simp [zGS]
  have e101 : zr (exW w cp b (wComp (t, ps, es) + wBare (t', ps'))) 101 cp = zr w 101 cp := by unfold exW; simp [zGS]
  have e101b : zr (exW w cp b (wComp (t, ps, es) + wBare (t', ps'))) 101 b = zr w 101 b := by unfold exW; simp [zGS]
  have e102 : zr (exW w cp b (wComp (t, ps, es) + wBare (t', ps'))) 102 cp = some b := by unfold exW; simp [zGS]
  have e102b : zr (exW w cp b (wComp (t, ps, es) + wBare (t', ps'))) 102 b = zr w 102 b := by unfold exW; simp [zGS, hne2]
  refine ⟨h1, by omega, h3, ?_, ?_, ?_, ?_, by unfold exW; simpa [zGS] using h8, by unfold exW; simpa [zGS, hne] using h9⟩
  · unfold exW; simpa [zGS] using h4
  · rw [e101]
    exact h5.fr (Nat.le_refl _) (by omega) he
  · rw [e102]
    refine ⟨b, rfl, ⟨by omega, g2, g3, by unfold exW; simpa [zGS] using g4, ?_, ?_, ?_⟩, ?_⟩
    · rw [e101b]
      exact g5.fr (Nat.le_refl _) (Nat.le_refl _) hf
    · rw [e102b]
      exact g6
    · have : zi (exW w cp b (wComp (t, ps, es) + wBare (t', ps'))) 103 b = zi w 103 b := by unfold exW; simp [zGS, hne2]
      rw [this, g7]
      rfl
    · rw [e105]
      exact h6.fr (Nat.le_refl _) (by omega) he
  · have : zi (exW w cp b (wComp (t, ps, es) + wBare (t', ps'))) 103 cp = nI (wComp (t, ps, es) + wBare (t', ps')) := by unfold exW; simp [zGS]
    rw [this]
    congr 1
    simp only [wComp, wBares]
    omega
theorem pOutL_es : ∀ (k : Nat) (ps : List PPart) (es : List PBare) (o : Bool) (r : List Nat) (ps2 : List PPart) (es2 : List PBare) (o2 : Bool) (r2 : List Nat), pOutL none k ps es o r = some (ps2, es2, o2, r2) → es2 = es
  | 0, ps, es, o, r, ps2, es2, o2, r2, h => by
    simp only [pOutL, Option.some.injEq, Prod.mk.injEq] at h
    exact h.2.1.symm
  | k + 1, ps, es, o, [], ps2, es2, o2, r2, h => by
    simp only [pOutL, Option.some.injEq, Prod.mk.injEq] at h
    exact h.2.1.symm
  | k + 1, ps, es, o, c :: r, ps2, es2, o2, r2, h => by
    simp only [pOutL] at h
    split at h
    · cases hP : pPart none c r ps es with
      | none => rw [hP] at h; cases h
      | some q =>
        obtain ⟨ps3, es3, r3⟩ := q
        rw [hP] at h
        have e := pOutL_es k ps3 es3 true r3 ps2 es2 o2 r2 h
        simp only [pPart] at hP
        split at hP
        · cases hP
        · cases hP
          exact e
    · simp only [Option.some.injEq, Prod.mk.injEq] at h
      exact h.2.1.symm
theorem pCompG_es {r r2 : List Nat} {t : Nat} {ps : List PPart} {es : List PBare} (h : pCompG none r = some ((t, ps, es), r2)) : es = [] := by
  rw [pCompG_eq] at h
  cases hO : pOutL none 4 [] [] (pHead r).2.1 (pHead r).2.2 with
  | none => rw [hO] at h; cases h
  | some q =>
    obtain ⟨ps2, es2, o2, r3⟩ := q
    rw [hO] at h
    have e := pOutL_es _ _ _ _ _ _ _ _ _ hO
    simp only [pOutR] at h
    split at h
    · cases h
      exact e
    · cases h
theorem exFacts {tb tx sp nm cp t t' : Nat} {w w1 w2 w3 : ZW} {ps ps' : List PPart} {es : List PBare} (hl : TBl cp tb tx sp nm) (hc : isComp w cp (zsz w) cp (t, ps, es)) (hu1 : TBu tb sp nm w w1) (hv2 : TBv zno tb sp nm w1 w2) (hc2 : isComp w2 (zsz w1) (zsz w2) (zsz w1) (t', ps', [])) (hu3 : TBu tb sp nm w2 w3) : isComp w3 cp (zsz w1) cp (t, ps, es) ∧ isComp w3 (zsz w1) (zsz w3) (zsz w1) (t', ps', []) := by
  obtain ⟨l1, l2, l3, l4⟩ := hl
  have hc1 := hc.u hu1 ⟨l1, l2, l3, l4⟩
  have hlt := hc1.2.1
  refine ⟨(hc1.fr (Nat.le_refl _) (Nat.le_refl _) (fun b h1 h2 => hv2.2.1 b h2 (fun e => e) (by omega) (by omega) (by omega))).fr (Nat.le_refl _) (Nat.le_refl _) (fun b h1 h2 => hu3.e ⟨l1, l2, l3, l4⟩ h1 (Nat.lt_of_lt_of_le h2 hv2.1)), ?_⟩
  rw [hu3.1]
  exact hc2.fr (Nat.le_refl _) (Nat.le_refl _) (fun b h1 h2 => hu3.e ⟨l1, l2, l3, l4⟩ (by omega) h2)
theorem exDone {tb tx sp nm cp t t' : Nat} {w w1 w2 w3 : ZW} {r3 : List Nat} {ps ps' : List PPart} {es : List PBare} (hl : TBl cp tb tx sp nm) (hb0 : TBb w tb tx sp nm) (hc : isComp w cp (zsz w) cp (t, ps, es)) (hu1 : TBu tb sp nm w w1) (hv2 : TBv zno tb sp nm w1 w2) (hc2 : isComp w2 (zsz w1) (zsz w2) (zsz w1) (t', ps', [])) (hu3 : TBu tb sp nm w2 w3) (hn3 : TBn w3 tb tx sp nm r3) :
    TBv (fun a => a = cp) tb sp nm w (exW w3 cp (zsz w1) (wComp (t, ps, es) + wBare (t', ps'))) ∧ isComp (exW w3 cp (zsz w1) (wComp (t, ps, es) + wBare (t', ps'))) cp (zsz (exW w3 cp (zsz w1) (wComp (t, ps, es) + wBare (t', ps')))) cp (t, ps, (t', ps') :: es) ∧ TBn (exW w3 cp (zsz w1) (wComp (t, ps, es) + wBare (t', ps'))) tb tx sp nm r3 := by
  obtain ⟨f1, f2⟩ := exFacts hl hc hu1 hv2 hc2 hu3
  obtain ⟨n1, n2, n3, n4⟩ := hn3.ne f1.2.2.1
  obtain ⟨b1, b2, b3, b4⟩ := hu1.b hb0
  refine ⟨?_, exComp_ok f1 (Nat.le_refl _) f2, hn3.fr (Nat.le_refl _) (exW_eq (Ne.symm n1) (Nat.ne_of_lt b1)) (exW_eq (Ne.symm n2) (Nat.ne_of_lt b2)) (exW_eq (Ne.symm n3) (Nat.ne_of_lt b3)) (exW_eq (Ne.symm n4) (Nat.ne_of_lt b4))⟩
  have v1 : TBv (fun a => a = cp) tb sp nm w w1 := hu1.v
  have v2 : TBv (fun a => a = cp) tb sp nm w w2 := v1.tr hv2 (fun _ _ h => h.elim)
  have v3 : TBv (fun a => a = cp) tb sp nm w w3 := v2.tr (hu3.v (X := zno)) (fun _ _ h => h.elim)
  have v4 : TBv (fun a => a = cp ∨ a = zsz w1) tb sp nm w3 (exW w3 cp (zsz w1) (wComp (t, ps, es) + wBare (t', ps'))) := ⟨Nat.le_refl _, fun a _ ha _ _ _ => exW_eq (fun e => ha (Or.inl e)) (fun e => ha (Or.inr e)), (exW_eq (Ne.symm n1) (Nat.ne_of_lt b1)).i 901⟩
  exact v3.tr v4 (fun a ha h => h.elim id (fun h => absurd ha (by rw [h, hu1.1]; exact Nat.lt_irrefl _)))
theorem sp_excl (E : ZE) (sg : ZM) (d : Nat) (hd : 6 ≤ d) (tb tx sp nm cp t : Nat) (w : ZW) (r : List Nat) (ps : List PPart) (es : List PBare) (hl : TBl cp tb tx sp nm) (hc : isComp w cp (zsz w) cp (t, ps, es)) (hn : TBn w tb tx sp nm r) : CallQ E MX8_readExclusion [.ref tb, .ref cp] w sg d 5 22 (zqQ tb tx sp nm w sg cp t (match pExcl r with | none => none | some (b, r2) => some (ps, b :: es, r2))) := by
  have hn0 := hn
  obtain ⟨hb0, ss, hm⟩ := hn
  refine CallQ.of rfl (by simp [Value.category]) (Nat.le_of_ble_eq_true rfl) ?_
  cases e1 : pCh 40 r with
  | none =>
    have h1 := pCh_none e1
    have e0 : pExcl r = none := by simp [pExcl, e1]
    rw [e0]
    refine r_aload_n dX8_readExclusion_0 rfl (zRv_ref _) rfl ?_
    refine r_bipush dX8_readExclusion_1 kb_40 rfl ?_
    refine r_callV MX8_take 1 [_] lvX8_44 (Or.inl ⟨8, by decide, (by first | (simp only [zKS]; first | assumption | exact TBm.k (by assumption)) | assumption | exact TBm.k (by assumption) | exact zk_nself _ _ _ | (simp [zKS, zNS, *]; done)), rfl⟩) (sp_take E _ sg (d - 1) tb tx sp nm 40 (by decide) r _ hm) rfl rfl (by first | exact Nat.le_of_ble_eq_true rfl | (simp [zcat_rf, Value.category]; done)) (by omega) (Nat.le_of_eq (Nat.zero_add _)) (Nat.le_of_eq (Nat.zero_add _)) dX8_readExclusion_3 rfl (fun v_ w_ sg_ hq_ => ?_)
    obtain ⟨rfl, hu1, rfl, hm1⟩ := hq_
    simp only [h1.1, h1.2] at hm1 ⊢
    refine r_if_eqB (r := 17) dX8_readExclusion_6 (by decide) rfl (fun c_6 => ?_) (fun c_6 => ?_)
    · refine r_aconst_null dX8_readExclusion_17 rfl ?_
      refine r_astore_n (ls' := [_, _, _]) dX8_readExclusion_18 (Nat.le_of_ble_eq_true rfl) (zRv_null) rfl rfl ?_
      refine r_aload_n dX8_readExclusion_19 rfl (zRv_null) rfl ?_
      refine r_ifnullZ (r := 32) dX8_readExclusion_20 (by decide) rfl (fun c_20 => ?_) (fun a_20 c_20 => ?_)
      · refine r_iconst dX8_readExclusion_32 kc_0 rfl ?_
        refine r_zret .boolean rfl rfl dX8_readExclusion_33 ?_
        exact ⟨rfl, hu1.v, rfl, hu1.b hb0, hm1.x⟩
      · exact absurd c_20 (by simp)
    · exact absurd c_6 (by decide)
  | some r1 =>
    have h1 := pCh_some e1
    cases e2 : pCompG none r1 with
    | none =>
      have e0 : pExcl r = none := by simp [pExcl, e1, e2]
      rw [e0]
      refine r_aload_n dX8_readExclusion_0 rfl (zRv_ref _) rfl ?_
      refine r_bipush dX8_readExclusion_1 kb_40 rfl ?_
      refine r_callV MX8_take 1 [_] lvX8_44 (Or.inl ⟨8, by decide, (by first | (simp only [zKS]; first | assumption | exact TBm.k (by assumption)) | assumption | exact TBm.k (by assumption) | exact zk_nself _ _ _ | (simp [zKS, zNS, *]; done)), rfl⟩) (sp_take E _ sg (d - 1) tb tx sp nm 40 (by decide) r _ hm) rfl rfl (by first | exact Nat.le_of_ble_eq_true rfl | (simp [zcat_rf, Value.category]; done)) (by omega) (Nat.le_of_eq (Nat.zero_add _)) (Nat.le_of_eq (Nat.zero_add _)) dX8_readExclusion_3 rfl (fun v_ w_ sg_ hq_ => ?_)
      obtain ⟨rfl, hu1, rfl, hm1⟩ := hq_
      simp only [h1.1, h1.2] at hm1 ⊢
      refine r_if_eqB (r := 17) dX8_readExclusion_6 (by decide) rfl (fun c_6 => ?_) (fun c_6 => ?_)
      · exact absurd c_6 (by decide)
      · refine r_aload_n dX8_readExclusion_9 rfl (zRv_ref _) rfl ?_
        refine r_iconst dX8_readExclusion_10 kc_1 rfl ?_
        refine r_callV MX8_readCompound 1 (a := 0) (a' := 0) [_] lvX8_54 (Or.inl ⟨8, by decide, (by first | (simp only [zKS]; first | assumption | exact TBm.k (by assumption)) | assumption | exact TBm.k (by assumption) | exact zk_nself _ _ _ | (simp [zKS, zNS, *]; done)), rfl⟩) (sp_comp1 E sg (d - 1) (by omega) tb tx sp nm _ r1 ⟨hu1.b hb0, _, hm1⟩) rfl rfl (by first | exact Nat.le_of_ble_eq_true rfl | (simp [zcat_rf, Value.category]; done)) (by omega) (by decide) (by decide) dX8_readExclusion_11 rfl (fun v_ w_ sg_ hq_ => ?_)
        rw [e2] at hq_
        obtain ⟨rfl, hv2, rfl, hb2, hx2⟩ := hq_
        refine r_goto (r := 18) dX8_readExclusion_14 (by decide) ?_
        refine r_astore_n (ls' := [_, _, _]) dX8_readExclusion_18 (Nat.le_of_ble_eq_true rfl) (by first | exact zRv_ref _ | exact zRv_null | exact zRv_rf _ | assumption) rfl rfl ?_
        refine r_aload_n dX8_readExclusion_19 rfl (by first | exact zRv_ref _ | exact zRv_null | exact zRv_rf _ | assumption) rfl ?_
        refine r_ifnullZ (r := 32) dX8_readExclusion_20 (by decide) rfl (fun c_20 => ?_) (fun a_20 c_20 => ?_)
        · refine r_iconst dX8_readExclusion_32 kc_0 rfl ?_
          refine r_zret .boolean rfl rfl dX8_readExclusion_33 ?_
          exact ⟨rfl, (hu1.v (X := fun a => a = cp)).tr hv2 (fun _ _ h => h.elim), rfl, hb2, hx2⟩
        · exact absurd c_20 (by simp)
    | some q =>
      obtain ⟨⟨t', ps', es'⟩, r2⟩ := q
      have e4 := pCompG_es e2
      subst e4
      cases e3 : pCh 41 r2 with
      | none =>
        have h3 := pCh_none e3
        have e0 : pExcl r = none := by simp [pExcl, e1, e2, e3]
        rw [e0]
        refine r_aload_n dX8_readExclusion_0 rfl (zRv_ref _) rfl ?_
        refine r_bipush dX8_readExclusion_1 kb_40 rfl ?_
        refine r_callV MX8_take 1 [_] lvX8_44 (Or.inl ⟨8, by decide, (by first | (simp only [zKS]; first | assumption | exact TBm.k (by assumption)) | assumption | exact TBm.k (by assumption) | exact zk_nself _ _ _ | (simp [zKS, zNS, *]; done)), rfl⟩) (sp_take E _ sg (d - 1) tb tx sp nm 40 (by decide) r _ hm) rfl rfl (by first | exact Nat.le_of_ble_eq_true rfl | (simp [zcat_rf, Value.category]; done)) (by omega) (Nat.le_of_eq (Nat.zero_add _)) (Nat.le_of_eq (Nat.zero_add _)) dX8_readExclusion_3 rfl (fun v_ w_ sg_ hq_ => ?_)
        obtain ⟨rfl, hu1, rfl, hm1⟩ := hq_
        simp only [h1.1, h1.2] at hm1 ⊢
        refine r_if_eqB (r := 17) dX8_readExclusion_6 (by decide) rfl (fun c_6 => ?_) (fun c_6 => ?_)
        · exact absurd c_6 (by decide)
        · refine r_aload_n dX8_readExclusion_9 rfl (zRv_ref _) rfl ?_
          refine r_iconst dX8_readExclusion_10 kc_1 rfl ?_
          refine r_callV MX8_readCompound 1 (a := 0) (a' := 0) [_] lvX8_54 (Or.inl ⟨8, by decide, (by first | (simp only [zKS]; first | assumption | exact TBm.k (by assumption)) | assumption | exact TBm.k (by assumption) | exact zk_nself _ _ _ | (simp [zKS, zNS, *]; done)), rfl⟩) (sp_comp1 E sg (d - 1) (by omega) tb tx sp nm _ r1 ⟨hu1.b hb0, _, hm1⟩) rfl rfl (by first | exact Nat.le_of_ble_eq_true rfl | (simp [zcat_rf, Value.category]; done)) (by omega) (by decide) (by decide) dX8_readExclusion_11 rfl (fun v_ w_ sg_ hq_ => ?_)
          rw [e2] at hq_
          obtain ⟨rfl, hv2, rfl, hc2, hb2, ss2, hm2⟩ := hq_
          refine r_goto (r := 18) dX8_readExclusion_14 (by decide) ?_
          refine r_astore_n (ls' := [_, _, _]) dX8_readExclusion_18 (Nat.le_of_ble_eq_true rfl) (by first | exact zRv_ref _ | exact zRv_null | exact zRv_rf _ | assumption) rfl rfl ?_
          refine r_aload_n dX8_readExclusion_19 rfl (by first | exact zRv_ref _ | exact zRv_null | exact zRv_rf _ | assumption) rfl ?_
          refine r_ifnullR (r := 32) dX8_readExclusion_20 (by decide) rfl (fun c_20 => ?_) (fun a_20 c_20 => ?_)
          · exact absurd c_20 (by simp)
          · refine r_aload_n dX8_readExclusion_23 rfl (zRv_ref _) rfl ?_
            refine r_bipush dX8_readExclusion_24 kb_41 rfl ?_
            refine r_callV MX8_take 1 [_] lvX8_44 (Or.inl ⟨8, by decide, (by first | (simp only [zKS]; first | assumption | exact TBm.k (by assumption)) | assumption | exact TBm.k (by assumption) | exact zk_nself _ _ _ | (simp [zKS, zNS, *]; done)), rfl⟩) (sp_take E _ sg (d - 1) tb tx sp nm 41 (by decide) r2 _ hm2) rfl rfl (by first | exact Nat.le_of_ble_eq_true rfl | (simp [zcat_rf, Value.category]; done)) (by omega) (Nat.le_of_eq (Nat.zero_add _)) (Nat.le_of_eq (Nat.zero_add _)) dX8_readExclusion_26 rfl (fun v_ w_ sg_ hq_ => ?_)
            obtain ⟨rfl, hu3, rfl, hm3⟩ := hq_
            simp only [h3.1, h3.2] at hm3 ⊢
            refine r_if_neB (r := 34) dX8_readExclusion_29 (by decide) rfl (fun c_29 => ?_) (fun c_29 => ?_)
            · exact absurd c_29 (by decide)
            · refine r_iconst dX8_readExclusion_32 kc_0 rfl ?_
              refine r_zret .boolean rfl rfl dX8_readExclusion_33 ?_
              exact ⟨rfl, ((hu1.v (X := fun a => a = cp)).tr hv2 (fun _ _ h => h.elim)).tr (hu3.v (X := zno)) (fun _ _ h => h.elim), rfl, hu3.b hb2, hm3.x⟩
      | some r3 =>
        have h3 := pCh_some e3
        have e0 : pExcl r = some ((t', ps'), r3) := by simp [pExcl, e1, e2, e3]
        rw [e0]
        refine r_aload_n dX8_readExclusion_0 rfl (zRv_ref _) rfl ?_
        refine r_bipush dX8_readExclusion_1 kb_40 rfl ?_
        refine r_callV MX8_take 1 [_] lvX8_44 (Or.inl ⟨8, by decide, (by first | (simp only [zKS]; first | assumption | exact TBm.k (by assumption)) | assumption | exact TBm.k (by assumption) | exact zk_nself _ _ _ | (simp [zKS, zNS, *]; done)), rfl⟩) (sp_take E _ sg (d - 1) tb tx sp nm 40 (by decide) r _ hm) rfl rfl (by first | exact Nat.le_of_ble_eq_true rfl | (simp [zcat_rf, Value.category]; done)) (by omega) (Nat.le_of_eq (Nat.zero_add _)) (Nat.le_of_eq (Nat.zero_add _)) dX8_readExclusion_3 rfl (fun v_ w_ sg_ hq_ => ?_)
        obtain ⟨rfl, hu1, rfl, hm1⟩ := hq_
        simp only [h1.1, h1.2] at hm1 ⊢
        refine r_if_eqB (r := 17) dX8_readExclusion_6 (by decide) rfl (fun c_6 => ?_) (fun c_6 => ?_)
        · exact absurd c_6 (by decide)
        · refine r_aload_n dX8_readExclusion_9 rfl (zRv_ref _) rfl ?_
          refine r_iconst dX8_readExclusion_10 kc_1 rfl ?_
          refine r_callV MX8_readCompound 1 (a := 0) (a' := 0) [_] lvX8_54 (Or.inl ⟨8, by decide, (by first | (simp only [zKS]; first | assumption | exact TBm.k (by assumption)) | assumption | exact TBm.k (by assumption) | exact zk_nself _ _ _ | (simp [zKS, zNS, *]; done)), rfl⟩) (sp_comp1 E sg (d - 1) (by omega) tb tx sp nm _ r1 ⟨hu1.b hb0, _, hm1⟩) rfl rfl (by first | exact Nat.le_of_ble_eq_true rfl | (simp [zcat_rf, Value.category]; done)) (by omega) (by decide) (by decide) dX8_readExclusion_11 rfl (fun v_ w_ sg_ hq_ => ?_)
          rw [e2] at hq_
          obtain ⟨rfl, hv2, rfl, hc2, hb2, ss2, hm2⟩ := hq_
          refine r_goto (r := 18) dX8_readExclusion_14 (by decide) ?_
          refine r_astore_n (ls' := [_, _, _]) dX8_readExclusion_18 (Nat.le_of_ble_eq_true rfl) (by first | exact zRv_ref _ | exact zRv_null | exact zRv_rf _ | assumption) rfl rfl ?_
          refine r_aload_n dX8_readExclusion_19 rfl (by first | exact zRv_ref _ | exact zRv_null | exact zRv_rf _ | assumption) rfl ?_
          refine r_ifnullR (r := 32) dX8_readExclusion_20 (by decide) rfl (fun c_20 => ?_) (fun a_20 c_20 => ?_)
          · exact absurd c_20 (by simp)
          · refine r_aload_n dX8_readExclusion_23 rfl (zRv_ref _) rfl ?_
            refine r_bipush dX8_readExclusion_24 kb_41 rfl ?_
            refine r_callV MX8_take 1 [_] lvX8_44 (Or.inl ⟨8, by decide, (by first | (simp only [zKS]; first | assumption | exact TBm.k (by assumption)) | assumption | exact TBm.k (by assumption) | exact zk_nself _ _ _ | (simp [zKS, zNS, *]; done)), rfl⟩) (sp_take E _ sg (d - 1) tb tx sp nm 41 (by decide) r2 _ hm2) rfl rfl (by first | exact Nat.le_of_ble_eq_true rfl | (simp [zcat_rf, Value.category]; done)) (by omega) (Nat.le_of_eq (Nat.zero_add _)) (Nat.le_of_eq (Nat.zero_add _)) dX8_readExclusion_26 rfl (fun v_ w_ sg_ hq_ => ?_)
            obtain ⟨rfl, hu3, rfl, hm3⟩ := hq_
            simp only [h3.1, h3.2] at hm3 ⊢
            refine r_if_neB (r := 34) dX8_readExclusion_29 (by decide) rfl (fun c_29 => ?_) (fun c_29 => ?_)
            · refine r_aload_n dX8_readExclusion_34 rfl (by first | exact zRv_ref _ | exact zRv_null | exact zRv_rf _ | assumption) rfl ?_
              refine r_aload_n dX8_readExclusion_35 rfl (by first | exact zRv_ref _ | exact zRv_null | exact zRv_rf _ | assumption) rfl ?_
              obtain ⟨f1, f2⟩ := exFacts hl hc hu1 hv2 hc2 hu3
              have k1 : zk _ cp = 1 := f1.2.2.1
              refine r_callV MX0_exclude 1 [_] lvX8_112 (Or.inl ⟨0, by decide, (by first | (simp only [zKS]; first | assumption | exact TBm.k (by assumption)) | assumption | exact TBm.k (by assumption) | exact zk_nself _ _ _ | (simp [zKS, zNS, *]; done)), rfl⟩) (sp_X0_exclude E _ sg (d - 1) cp _ _ _ (Nat.ne_of_lt f1.2.1) k1 f2.2.2.1 f1.2.2.2.2.2.2.1 f2.2.2.2.2.2.2.1) rfl rfl (by first | exact Nat.le_of_ble_eq_true rfl | (simp [zcat_rf, Value.category]; done)) (by omega) (Nat.le_of_eq (Nat.zero_add _)) (Nat.le_of_eq (Nat.zero_add _)) dX8_readExclusion_36 rfl (fun v_ w_ sg_ hq_ => ?_)
              obtain ⟨rfl, rfl, rfl⟩ := hq_
              refine r_iconst dX8_readExclusion_39 kc_1 rfl ?_
              refine r_zret .boolean rfl rfl dX8_readExclusion_40 ?_
              obtain ⟨j1, j2, j3⟩ := exDone hl hb0 hc hu1 hv2 hc2 hu3 ⟨hu3.b hb2, _, hm3⟩
              exact ⟨rfl, j1, rfl, j2, j3⟩
            · exact absurd c_29 (by decide)
