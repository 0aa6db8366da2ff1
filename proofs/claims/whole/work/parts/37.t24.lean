/-- the contract of readDeclaration that the loop asks for -/
def CDecl (E : ZE) (sg : ZM) (d tb tx sp nm : Nat) (og : Int32) (kc ks : Nat) (pD : List Nat → Option (PDecl × List Nat)) : Prop := ∀ (w : ZW) (r : List Nat), TBn w tb tx sp nm r → CallQ E MX8_readDeclaration [.ref tb, .int og] w sg d kc ks (zqD tb tx sp nm w sg (pD r))
theorem rdecs_null (E : ZE) (sg : ZM) (d : Nat) (tb tx sp nm : Nat) (w0 w : ZW) (x0 x1 x2 : Option Value) (m a a' : Nat) (hm : m ≤ 4) (hv : TBv zno tb sp nm w0 w) (hb : TBb w tb tx sp nm) (hx : TBx w tb tx sp nm) : RW E MX8_readDeclarations 24 [x0, x1, x2, some .null, some (.int (nI m))] [] w sg d a a' (PN E (zqDD tb tx sp nm w0 sg none)) := by
  refine r_iload dX8_readDeclarations_24 rfl rfl ?_
  refine r_iconst dX8_readDeclarations_26 kc_4 rfl ?_
  refine r_icmp_geN (by omega) (by omega) (r := 63) dX8_readDeclarations_27 (by decide) rfl (fun c_27 => ?_) (fun c_27 => ?_)
  · refine r_aload_n dX8_readDeclarations_63 rfl (by first | exact zRv_ref _ | exact zRv_null | exact zRv_rf _ | assumption) rfl ?_
    refine r_ifnullZ (r := 87) dX8_readDeclarations_64 (by decide) rfl (fun c_64 => ?_) (fun a_64 c_64 => ?_)
    · refine r_aconst_null dX8_readDeclarations_87 rfl ?_
      refine r_aret rfl (by first | exact Or.inl ⟨_, rfl⟩ | exact Or.inr ⟨_, rfl⟩) (by first | exact zRv_ref _ | exact zRv_null | exact zRv_rf _ | assumption) dX8_readDeclarations_88 ?_
      exact ⟨rfl, hv, ⟨hb, hx⟩, rfl⟩
    · exact absurd c_64 (by simp)
  · refine r_aload_n dX8_readDeclarations_30 rfl (by first | exact zRv_ref _ | exact zRv_null | exact zRv_rf _ | assumption) rfl ?_
    refine r_ifnullZ (r := 63) dX8_readDeclarations_31 (by decide) rfl (fun c_31 => ?_) (fun a_31 c_31 => ?_)
    · refine r_aload_n dX8_readDeclarations_63 rfl (by first | exact zRv_ref _ | exact zRv_null | exact zRv_rf _ | assumption) rfl ?_
      refine r_ifnullZ (r := 87) dX8_readDeclarations_64 (by decide) rfl (fun c_64 => ?_) (fun a_64 c_64 => ?_)
      · refine r_aconst_null dX8_readDeclarations_87 rfl ?_
        refine r_aret rfl (by first | exact Or.inl ⟨_, rfl⟩ | exact Or.inr ⟨_, rfl⟩) (by first | exact zRv_ref _ | exact zRv_null | exact zRv_rf _ | assumption) dX8_readDeclarations_88 ?_
        exact ⟨rfl, hv, ⟨hb, hx⟩, rfl⟩
      · exact absurd c_64 (by simp)
    · exact absurd c_31 (by simp)
theorem rdecs_loop (E : ZE) (sg : ZM) (d : Nat) (hd : 3 ≤ d) (tb tx sp nm : Nat) (og : Int32) (kc ks : Nat) (pD : List Nat → Option (PDecl × List Nat)) (hD : CDecl E sg (d - 1) tb tx sp nm og kc ks pD) (w0 : ZW) (f0 : Nat) (hbb : TBb w0 tb tx sp nm) : ∀ (k : Nat) (w : ZW) (last : Nat) (ds : List PDecl) (x : PDecl) (r : List Nat), k ≤ 3 → TBv zno tb sp nm w0 w → isDecsP w (zsz w0) f0 last (zsz w) ds x → TBn w tb tx sp nm r →
    RW E MX8_readDeclarations 24 [some (.ref tb), some (.int og), some (.ref f0), some (.ref last), some (.int (nI (4 - k)))] [] w sg d (k * kc) (k * ks) (PN E (zqDD tb tx sp nm w0 sg (pDecsE (pDecsR (ds ++ [x]) (pDecsL pD k r)))))
  | 0, w, last, ds, x, r, _, hv, h, hn => by
    have e9 : pDecsR (ds ++ [x]) (pDecsL pD 0 r) = some (ds ++ [x], r) := by simp [pDecsR, pDecsL]
    rw [e9]
    refine r_iload dX8_readDeclarations_24 rfl rfl ?_
    refine r_iconst dX8_readDeclarations_26 kc_4 rfl ?_
    refine r_icmp_geN (by omega) (by omega) (r := 63) dX8_readDeclarations_27 (by decide) rfl (fun c_27 => ?_) (fun c_27 => ?_)
    · exact rdecs_end E sg d (by omega) tb tx sp nm w0 w f0 last ds x _ _ r hv.1 hv hbb h hn _ _
    · exact absurd c_27 (by omega)
  | k + 1, w, last, ds, x, r, hk, hv, h, hn => by
    have hn0 := hn
    obtain ⟨hb0, ss, hm⟩ := hn
    obtain ⟨b1, b2, b3, b4⟩ := hbb
    have hkl : zk w last = 2 := h.2.2.1.2.2.1
    have hlt : zsz w0 ≤ last ∧ last < zsz w := ⟨h.1, h.2.2.1.2.1⟩
    have hne : last ≠ tb ∧ last ≠ sp ∧ last ≠ nm := ⟨by omega, by omega, by omega⟩
    cases e1 : pCh 59 r with
    | none =>
      have h1 := pCh_none e1
      have e9 : pDecsR (ds ++ [x]) (pDecsL pD (k + 1) r) = some (ds ++ [x], r) := by simp [pDecsR, pDecsL, e1]
      rw [e9]
      refine r_iload dX8_readDeclarations_24 rfl rfl ?_
      refine r_iconst dX8_readDeclarations_26 kc_4 rfl ?_
      refine r_icmp_geN (by omega) (by omega) (r := 63) dX8_readDeclarations_27 (by decide) rfl (fun c_27 => ?_) (fun c_27 => ?_)
      · exact absurd c_27 (by omega)
      · refine r_aload_n dX8_readDeclarations_30 rfl (by first | exact zRv_ref _ | exact zRv_null | exact zRv_rf _ | assumption) rfl ?_
        refine r_ifnullR (r := 63) dX8_readDeclarations_31 (by decide) rfl (fun c_31 => ?_) (fun a_31 c_31 => ?_)
        · exact absurd c_31 (by simp)
        · refine r_aload_n dX8_readDeclarations_34 rfl (zRv_ref _) rfl ?_
          refine r_bipush dX8_readDeclarations_35 kb_59 rfl ?_
          refine r_callV MX8_take 1 [_] lvX8_44 (Or.inl ⟨8, by decide, (by first | (simp only [zKS]; first | assumption | exact TBm.k (by assumption)) | assumption | exact TBm.k (by assumption) | exact zk_nself _ _ _ | (simp [zKS, zNS, *]; done)), rfl⟩) (sp_take E w sg (d - 1) tb tx sp nm 59 (by decide) r ss hm) rfl rfl (by first | exact Nat.le_of_ble_eq_true rfl | (simp [zcat_rf, Value.category]; done)) (by omega) (Nat.le_of_eq (Nat.zero_add _)) (Nat.le_of_eq (Nat.zero_add _)) dX8_readDeclarations_37 rfl (fun v_ w_ sg_ hq_ => ?_)
          obtain ⟨rfl, hu1, rfl, hm1⟩ := hq_
          simp only [h1.1, h1.2] at hm1 ⊢
          refine r_if_eqB (r := 63) dX8_readDeclarations_40 (by decide) rfl (fun c_40 => ?_) (fun c_40 => ?_)
          · have hv1 := hv.tr (hu1.v (X := zno)) (fun _ _ h => h)
            refine rdecs_end E sg d (by omega) tb tx sp nm w0 _ f0 last ds x _ _ r hv1.1 hv1 ⟨b1, b2, b3, b4⟩ ?_ ⟨hu1.b hb0, _, hm1⟩ _ _
            obtain ⟨g1, g4, g5, g6⟩ := h
            have e12 : ∀ b, zsz w0 ≤ b → b < zsz w → zeq w _ b := fun b q1 q2 => (hu1.v (X := zno)).2.1 b q2 (fun e => e) (by omega) (by omega) (by omega)
            refine ⟨g1, Seg.imp g4 (fun a z hz => ⟨hz.fr (Nat.le_refl _) (Nat.le_refl _) (fun b q1 q2 => e12 b (by have := hz.1; omega) (by omega)), (e12 a hz.1 (by have := hz.2.1; omega)).r 205⟩), ?_, ((e12 last hlt.1 hlt.2).r 205).trans g6⟩
            rw [hu1.1]
            exact g5.fr (Nat.le_refl _) (Nat.le_refl _) (fun b q1 q2 => e12 b (by omega) q2)
          · exact absurd c_40 (by decide)
    | some r1 =>
      have h1 := pCh_some e1
      cases hP : pD r1 with
      | none =>
        have e9 : pDecsE (pDecsR (ds ++ [x]) (pDecsL pD (k + 1) r)) = none := by simp [pDecsE, pDecsR, pDecsL, e1, hP]
        rw [e9]
        refine r_iload dX8_readDeclarations_24 rfl rfl ?_
        refine r_iconst dX8_readDeclarations_26 kc_4 rfl ?_
        refine r_icmp_geN (by omega) (by omega) (r := 63) dX8_readDeclarations_27 (by decide) rfl (fun c_27 => ?_) (fun c_27 => ?_)
        · exact absurd c_27 (by omega)
        · refine r_aload_n dX8_readDeclarations_30 rfl (by first | exact zRv_ref _ | exact zRv_null | exact zRv_rf _ | assumption) rfl ?_
          refine r_ifnullR (r := 63) dX8_readDeclarations_31 (by decide) rfl (fun c_31 => ?_) (fun a_31 c_31 => ?_)
          · exact absurd c_31 (by simp)
          · refine r_aload_n dX8_readDeclarations_34 rfl (zRv_ref _) rfl ?_
            refine r_bipush dX8_readDeclarations_35 kb_59 rfl ?_
            refine r_callV MX8_take 1 [_] lvX8_44 (Or.inl ⟨8, by decide, (by first | (simp only [zKS]; first | assumption | exact TBm.k (by assumption)) | assumption | exact TBm.k (by assumption) | exact zk_nself _ _ _ | (simp [zKS, zNS, *]; done)), rfl⟩) (sp_take E w sg (d - 1) tb tx sp nm 59 (by decide) r ss hm) rfl rfl (by first | exact Nat.le_of_ble_eq_true rfl | (simp [zcat_rf, Value.category]; done)) (by omega) (Nat.le_of_eq (Nat.zero_add _)) (Nat.le_of_eq (Nat.zero_add _)) dX8_readDeclarations_37 rfl (fun v_ w_ sg_ hq_ => ?_)
            obtain ⟨rfl, hu1, rfl, hm1⟩ := hq_
            simp only [h1.1, h1.2] at hm1 ⊢
            refine r_if_eqB (r := 63) dX8_readDeclarations_40 (by decide) rfl (fun c_40 => ?_) (fun c_40 => ?_)
            · exact absurd c_40 (by decide)
            · refine r_aload_n dX8_readDeclarations_43 rfl (by first | exact zRv_ref _ | exact zRv_null | exact zRv_rf _ | assumption) rfl ?_
              refine r_aload_n dX8_readDeclarations_44 rfl (zRv_ref _) rfl ?_
              refine r_iload_n dX8_readDeclarations_45 rfl rfl ?_
              refine r_callV MX8_readDeclaration 1 (a := k * kc) (a' := k * ks) [_] lvX8_119 (Or.inl ⟨8, by decide, (by first | (simp only [zKS]; first | assumption | exact TBm.k (by assumption)) | assumption | exact TBm.k (by assumption) | exact zk_nself _ _ _ | (simp [zKS, zNS, *]; done)), rfl⟩) (hD _ r1 ⟨hu1.b hb0, _, hm1⟩) rfl rfl (by first | exact Nat.le_of_ble_eq_true rfl | (simp [zcat_rf, Value.category]; done)) (by omega) (by first | omega | exact Nat.le_of_eq ((Nat.add_comm _ _).trans (Nat.succ_mul _ _).symm)) (by first | omega | exact Nat.le_of_eq ((Nat.add_comm _ _).trans (Nat.succ_mul _ _).symm)) dX8_readDeclarations_46 rfl (fun v_ w_ sg_ hq_ => ?_)
              rw [hP] at hq_
              obtain ⟨rfl, hv2, rfl, hb2, hx2⟩ := hq_
              have hv12 := (hu1.v (X := zno)).tr hv2 (fun _ _ h => h)
              have hkl2 := ((hv12.2.1 last hlt.2 (fun e => e) hne.1 hne.2.1 hne.2.2).k).trans hkl
              refine r_putn 1 5 205 lfX8_123 (by first | (simp only [zKS]; first | assumption | exact TBm.k (by assumption)) | assumption | exact TBm.k (by assumption) | exact zk_nself _ _ _ | (simp [zKS, zNS, *]; done)) rfl rfl rfl (Or.inl rfl) dX8_readDeclarations_49 rfl ?_
              refine r_aload_n dX8_readDeclarations_52 rfl (by first | exact zRv_ref _ | exact zRv_null | exact zRv_rf _ | assumption) rfl ?_
              refine r_getr 1 5 205 lfX8_123 (by first | (simp only [zKS]; first | assumption | exact TBm.k (by assumption)) | assumption | exact TBm.k (by assumption) | exact zk_nself _ _ _ | (simp [zKS, zNS, *]; done)) rfl rfl dX8_readDeclarations_53 rfl ?_
              refine r_astore_n (ls' := [_, _, _, _, _]) dX8_readDeclarations_56 (Nat.le_of_ble_eq_true rfl) (by first | exact zRv_ref _ | exact zRv_null | exact zRv_rf _ | assumption) rfl rfl ?_
              refine r_iinc (ls' := [_, _, _, _, _]) dX8_readDeclarations_57 (Nat.le_of_ble_eq_true rfl) rfl (zinc1 _) rfl rfl ?_
              refine r_goto (r := 24) dX8_readDeclarations_60 (by decide) ?_
              have hv3 := hv.tr hv12 (fun _ _ h => h)
              rw [show zr (zsr _ 205 last none) 205 last = none by simp [zGS]]
              exact rdecs_null E sg d tb tx sp nm w0 _ _ _ _ (4 - (k + 1) + 1) _ _ (by omega) ⟨hv3.1, fun y g1 g2 g3 g4 g5 => (hv3.2.1 y g1 g2 g3 g4 g5).tr (zeq.sr (by omega)), ((zeq.sr (Ne.symm hne.1)).i 901).trans hv3.2.2⟩ hb2 (hx2.fr (zeq.sr (by omega)) (zeq.sr (by omega)) (zeq.sr (by omega)) (zeq.sr (by omega)))
      | some q =>
        obtain ⟨y, r2⟩ := q
        have e9 : pDecsR (ds ++ [x]) (pDecsL pD (k + 1) r) = pDecsR ((ds ++ [x]) ++ [y]) (pDecsL pD k r2) := by
          simp only [pDecsL, e1, hP]
          cases pDecsL pD k r2 with
          | none => rfl
          | some q => simp [pDecsR]
        rw [e9]
        refine r_iload dX8_readDeclarations_24 rfl rfl ?_
        refine r_iconst dX8_readDeclarations_26 kc_4 rfl ?_
        refine r_icmp_geN (by omega) (by omega) (r := 63) dX8_readDeclarations_27 (by decide) rfl (fun c_27 => ?_) (fun c_27 => ?_)
        · exact absurd c_27 (by omega)
        · refine r_aload_n dX8_readDeclarations_30 rfl (by first | exact zRv_ref _ | exact zRv_null | exact zRv_rf _ | assumption) rfl ?_
          refine r_ifnullR (r := 63) dX8_readDeclarations_31 (by decide) rfl (fun c_31 => ?_) (fun a_31 c_31 => ?_)
          · exact absurd c_31 (by simp)
          · refine r_aload_n dX8_readDeclarations_34 rfl (zRv_ref _) rfl ?_
            refine r_bipush dX8_readDeclarations_35 kb_59 rfl ?_
            refine r_callV MX8_take 1 [_] lvX8_44 (Or.inl ⟨8, by decide, (by first | (simp only [zKS]; first | assumption | exact TBm.k (by assumption)) | assumption | exact TBm.k (by assumption) | exact zk_nself _ _ _ | (simp [zKS, zNS, *]; done)), rfl⟩) (sp_take E w sg (d - 1) tb tx sp nm 59 (by decide) r ss hm) rfl rfl (by first | exact Nat.le_of_ble_eq_true rfl | (simp [zcat_rf, Value.category]; done)) (by omega) (Nat.le_of_eq (Nat.zero_add _)) (Nat.le_of_eq (Nat.zero_add _)) dX8_readDeclarations_37 rfl (fun v_ w_ sg_ hq_ => ?_)
            obtain ⟨rfl, hu1, rfl, hm1⟩ := hq_
            simp only [h1.1, h1.2] at hm1 ⊢
            refine r_if_eqB (r := 63) dX8_readDeclarations_40 (by decide) rfl (fun c_40 => ?_) (fun c_40 => ?_)
            · exact absurd c_40 (by decide)
            · refine r_aload_n dX8_readDeclarations_43 rfl (by first | exact zRv_ref _ | exact zRv_null | exact zRv_rf _ | assumption) rfl ?_
              refine r_aload_n dX8_readDeclarations_44 rfl (zRv_ref _) rfl ?_
              refine r_iload_n dX8_readDeclarations_45 rfl rfl ?_
              refine r_callV MX8_readDeclaration 1 (a := k * kc) (a' := k * ks) [_] lvX8_119 (Or.inl ⟨8, by decide, (by first | (simp only [zKS]; first | assumption | exact TBm.k (by assumption)) | assumption | exact TBm.k (by assumption) | exact zk_nself _ _ _ | (simp [zKS, zNS, *]; done)), rfl⟩) (hD _ r1 ⟨hu1.b hb0, _, hm1⟩) rfl rfl (by first | exact Nat.le_of_ble_eq_true rfl | (simp [zcat_rf, Value.category]; done)) (by omega) (by first | omega | exact Nat.le_of_eq ((Nat.add_comm _ _).trans (Nat.succ_mul _ _).symm)) (by first | omega | exact Nat.le_of_eq ((Nat.add_comm _ _).trans (Nat.succ_mul _ _).symm)) dX8_readDeclarations_46 rfl (fun v_ w_ sg_ hq_ => ?_)
              rw [hP] at hq_
              obtain ⟨rfl, hv2, rfl, hc2, hc3, hn2⟩ := hq_
              have hv12 := (hu1.v (X := zno)).tr hv2 (fun _ _ h => h)
              have hkl2 := ((hv12.2.1 last hlt.2 (fun e => e) hne.1 hne.2.1 hne.2.2).k).trans hkl
              refine r_puts 1 5 205 lfX8_123 (by first | (simp only [zKS]; first | assumption | exact TBm.k (by assumption)) | assumption | exact TBm.k (by assumption) | exact zk_nself _ _ _ | (simp [zKS, zNS, *]; done)) rfl rfl rfl (Or.inl rfl) dX8_readDeclarations_49 rfl ?_
              refine r_aload_n dX8_readDeclarations_52 rfl (by first | exact zRv_ref _ | exact zRv_null | exact zRv_rf _ | assumption) rfl ?_
              refine r_gets 1 5 205 lfX8_123 (by first | (simp only [zKS]; first | assumption | exact TBm.k (by assumption)) | assumption | exact TBm.k (by assumption) | exact zk_nself _ _ _ | (simp [zKS, zNS, *]; done)) rfl rfl (by first | (simp only [zGS, Nat.reduceEqDiff, OfNat.ofNat_ne_ofNat, false_and, and_false, true_and, and_true, and_self, if_true, if_false, ite_true, ite_false, reduceIte, reduceCtorEq]; first | done | assumption) | assumption | exact z2_eq | (simp [zGS]; first | done | assumption)) dX8_readDeclarations_53 rfl ?_
              refine r_astore_n (ls' := [_, _, _, _, _]) dX8_readDeclarations_56 (Nat.le_of_ble_eq_true rfl) (zRv_ref _) rfl rfl ?_
              refine r_iinc (ls' := [_, _, _, _, _]) dX8_readDeclarations_57 (Nat.le_of_ble_eq_true rfl) rfl (zinc1 _) rfl rfl ?_
              refine r_goto (r := 24) dX8_readDeclarations_60 (by decide) ?_
              rw [show 4 - (k + 1) + 1 = 4 - k by omega]
              obtain ⟨j1, j2, j3⟩ := decsStep ⟨b1, b2, b3, b4⟩ hv h hu1 hv2 hc2 hc3 hn2
              exact rdecs_loop E sg d hd tb tx sp nm og kc ks pD hD w0 f0 ⟨b1, b2, b3, b4⟩ k _ _ (ds ++ [x]) y r2 (by omega) j1 j2 j3
theorem sp_decs (E : ZE) (sg : ZM) (d : Nat) (hd : 3 ≤ d) (tb tx sp nm : Nat) (og : Int32) (kc ks : Nat) (pD : List Nat → Option (PDecl × List Nat)) (hD : CDecl E sg (d - 1) tb tx sp nm og kc ks pD) (w : ZW) (r : List Nat) (hn : TBn w tb tx sp nm r) : CallQ E MX8_readDeclarations [.ref tb, .int og] w sg d ((3 + 1) * kc) ((3 + 1) * ks) (zqDD tb tx sp nm w sg (pDecs pD r)) := by
  obtain ⟨hb0, ss, hm⟩ := hn
  refine CallQ.of rfl (by simp [Value.category]) (Nat.le_of_ble_eq_true rfl) ?_
  cases e1 : pCh 123 r with
  | none =>
    have h1 := pCh_none e1
    have e9 : pDecs pD r = none := by simp [pDecs, e1]
    rw [e9]
    refine r_aload_n dX8_readDeclarations_0 rfl (zRv_ref _) rfl ?_
    refine r_bipush dX8_readDeclarations_1 kb_123 rfl ?_
    refine r_callV MX8_take 1 [_] lvX8_44 (Or.inl ⟨8, by decide, (by first | (simp only [zKS]; first | assumption | exact TBm.k (by assumption)) | assumption | exact TBm.k (by assumption) | exact zk_nself _ _ _ | (simp [zKS, zNS, *]; done)), rfl⟩) (sp_take E w sg (d - 1) tb tx sp nm 123 (by decide) r ss hm) rfl rfl (by first | exact Nat.le_of_ble_eq_true rfl | (simp [zcat_rf, Value.category]; done)) (by omega) (Nat.le_of_eq (Nat.zero_add _)) (Nat.le_of_eq (Nat.zero_add _)) dX8_readDeclarations_3 rfl (fun v_ w_ sg_ hq_ => ?_)
    obtain ⟨rfl, hu1, rfl, hm1⟩ := hq_
    simp only [h1.1, h1.2] at hm1 ⊢
    refine r_if_eqB (r := 17) dX8_readDeclarations_6 (by decide) rfl (fun c_6 => ?_) (fun c_6 => ?_)
    · refine r_aconst_null dX8_readDeclarations_17 rfl ?_
      refine r_astore_n (ls' := [_, _, _, _, _]) dX8_readDeclarations_18 (Nat.le_of_ble_eq_true rfl) (zRv_null) rfl rfl ?_
      refine r_aload_n dX8_readDeclarations_19 rfl (zRv_null) rfl ?_
      refine r_astore_n (ls' := [_, _, _, _, _]) dX8_readDeclarations_20 (Nat.le_of_ble_eq_true rfl) (zRv_null) rfl rfl ?_
      refine r_iconst dX8_readDeclarations_21 kc_1 rfl ?_
      refine r_istore (ls' := [_, _, _, _, _]) dX8_readDeclarations_22 (Nat.le_of_ble_eq_true rfl) rfl rfl ?_
      exact rdecs_null E sg d tb tx sp nm w _ _ _ _ 1 _ _ (by decide) (hu1.v (X := zno)) (hu1.b hb0) hm1.x
    · exact absurd c_6 (by decide)
  | some r1 =>
    have h1 := pCh_some e1
    cases hP : pD r1 with
    | none =>
      have e9 : pDecs pD r = none := by simp [pDecs, e1, hP]
      rw [e9]
      refine r_aload_n dX8_readDeclarations_0 rfl (zRv_ref _) rfl ?_
      refine r_bipush dX8_readDeclarations_1 kb_123 rfl ?_
      refine r_callV MX8_take 1 [_] lvX8_44 (Or.inl ⟨8, by decide, (by first | (simp only [zKS]; first | assumption | exact TBm.k (by assumption)) | assumption | exact TBm.k (by assumption) | exact zk_nself _ _ _ | (simp [zKS, zNS, *]; done)), rfl⟩) (sp_take E w sg (d - 1) tb tx sp nm 123 (by decide) r ss hm) rfl rfl (by first | exact Nat.le_of_ble_eq_true rfl | (simp [zcat_rf, Value.category]; done)) (by omega) (Nat.le_of_eq (Nat.zero_add _)) (Nat.le_of_eq (Nat.zero_add _)) dX8_readDeclarations_3 rfl (fun v_ w_ sg_ hq_ => ?_)
      obtain ⟨rfl, hu1, rfl, hm1⟩ := hq_
      simp only [h1.1, h1.2] at hm1 ⊢
      refine r_if_eqB (r := 17) dX8_readDeclarations_6 (by decide) rfl (fun c_6 => ?_) (fun c_6 => ?_)
      · exact absurd c_6 (by decide)
      · refine r_aload_n dX8_readDeclarations_9 rfl (zRv_ref _) rfl ?_
        refine r_iload_n dX8_readDeclarations_10 rfl rfl ?_
        refine r_callV MX8_readDeclaration 1 (a := 3 * kc) (a' := 3 * ks) [_] lvX8_119 (Or.inl ⟨8, by decide, (by first | (simp only [zKS]; first | assumption | exact TBm.k (by assumption)) | assumption | exact TBm.k (by assumption) | exact zk_nself _ _ _ | (simp [zKS, zNS, *]; done)), rfl⟩) (hD _ r1 ⟨hu1.b hb0, _, hm1⟩) rfl rfl (by first | exact Nat.le_of_ble_eq_true rfl | (simp [zcat_rf, Value.category]; done)) (by omega) (by first | omega | exact Nat.le_of_eq ((Nat.add_comm _ _).trans (Nat.succ_mul _ _).symm)) (by first | omega | exact Nat.le_of_eq ((Nat.add_comm _ _).trans (Nat.succ_mul _ _).symm)) dX8_readDeclarations_11 rfl (fun v_ w_ sg_ hq_ => ?_)
        rw [hP] at hq_
        obtain ⟨rfl, hv2, rfl, hb2, hx2⟩ := hq_
        refine r_goto (r := 18) dX8_readDeclarations_14 (by decide) ?_
        refine r_astore_n (ls' := [_, _, _, _, _]) dX8_readDeclarations_18 (Nat.le_of_ble_eq_true rfl) (by first | exact zRv_ref _ | exact zRv_null | exact zRv_rf _ | assumption) rfl rfl ?_
        refine r_aload_n dX8_readDeclarations_19 rfl (by first | exact zRv_ref _ | exact zRv_null | exact zRv_rf _ | assumption) rfl ?_
        refine r_astore_n (ls' := [_, _, _, _, _]) dX8_readDeclarations_20 (Nat.le_of_ble_eq_true rfl) (by first | exact zRv_ref _ | exact zRv_null | exact zRv_rf _ | assumption) rfl rfl ?_
        refine r_iconst dX8_readDeclarations_21 kc_1 rfl ?_
        refine r_istore (ls' := [_, _, _, _, _]) dX8_readDeclarations_22 (Nat.le_of_ble_eq_true rfl) rfl rfl ?_
        exact rdecs_null E sg d tb tx sp nm w _ _ _ _ 1 _ _ (by decide) ((hu1.v (X := zno)).tr hv2 (fun _ _ h => h)) hb2 hx2
    | some q =>
      obtain ⟨x, r2⟩ := q
      have e9 : pDecs pD r = pDecsE (pDecsR ([] ++ [x]) (pDecsL pD 3 r2)) := by simp [pDecs, e1, hP]
      rw [e9]
      refine r_aload_n dX8_readDeclarations_0 rfl (zRv_ref _) rfl ?_
      refine r_bipush dX8_readDeclarations_1 kb_123 rfl ?_
      refine r_callV MX8_take 1 [_] lvX8_44 (Or.inl ⟨8, by decide, (by first | (simp only [zKS]; first | assumption | exact TBm.k (by assumption)) | assumption | exact TBm.k (by assumption) | exact zk_nself _ _ _ | (simp [zKS, zNS, *]; done)), rfl⟩) (sp_take E w sg (d - 1) tb tx sp nm 123 (by decide) r ss hm) rfl rfl (by first | exact Nat.le_of_ble_eq_true rfl | (simp [zcat_rf, Value.category]; done)) (by omega) (Nat.le_of_eq (Nat.zero_add _)) (Nat.le_of_eq (Nat.zero_add _)) dX8_readDeclarations_3 rfl (fun v_ w_ sg_ hq_ => ?_)
      obtain ⟨rfl, hu1, rfl, hm1⟩ := hq_
      simp only [h1.1, h1.2] at hm1 ⊢
      refine r_if_eqB (r := 17) dX8_readDeclarations_6 (by decide) rfl (fun c_6 => ?_) (fun c_6 => ?_)
      · exact absurd c_6 (by decide)
      · refine r_aload_n dX8_readDeclarations_9 rfl (zRv_ref _) rfl ?_
        refine r_iload_n dX8_readDeclarations_10 rfl rfl ?_
        refine r_callV MX8_readDeclaration 1 (a := 3 * kc) (a' := 3 * ks) [_] lvX8_119 (Or.inl ⟨8, by decide, (by first | (simp only [zKS]; first | assumption | exact TBm.k (by assumption)) | assumption | exact TBm.k (by assumption) | exact zk_nself _ _ _ | (simp [zKS, zNS, *]; done)), rfl⟩) (hD _ r1 ⟨hu1.b hb0, _, hm1⟩) rfl rfl (by first | exact Nat.le_of_ble_eq_true rfl | (simp [zcat_rf, Value.category]; done)) (by omega) (by first | omega | exact Nat.le_of_eq ((Nat.add_comm _ _).trans (Nat.succ_mul _ _).symm)) (by first | omega | exact Nat.le_of_eq ((Nat.add_comm _ _).trans (Nat.succ_mul _ _).symm)) dX8_readDeclarations_11 rfl (fun v_ w_ sg_ hq_ => ?_)
        rw [hP] at hq_
        obtain ⟨rfl, hv2, rfl, hc2, hc3, hn2⟩ := hq_
        refine r_goto (r := 18) dX8_readDeclarations_14 (by decide) ?_
        refine r_astore_n (ls' := [_, _, _, _, _]) dX8_readDeclarations_18 (Nat.le_of_ble_eq_true rfl) (by first | exact zRv_ref _ | exact zRv_null | exact zRv_rf _ | assumption) rfl rfl ?_
        refine r_aload_n dX8_readDeclarations_19 rfl (by first | exact zRv_ref _ | exact zRv_null | exact zRv_rf _ | assumption) rfl ?_
        refine r_astore_n (ls' := [_, _, _, _, _]) dX8_readDeclarations_20 (Nat.le_of_ble_eq_true rfl) (by first | exact zRv_ref _ | exact zRv_null | exact zRv_rf _ | assumption) rfl rfl ?_
        refine r_iconst dX8_readDeclarations_21 kc_1 rfl ?_
        refine r_istore (ls' := [_, _, _, _, _]) dX8_readDeclarations_22 (Nat.le_of_ble_eq_true rfl) rfl rfl ?_
        refine rdecs_loop E sg d hd tb tx sp nm og kc ks pD hD w _ hb0 3 _ _ [] x r2 (Nat.le_refl _) ((hu1.v (X := zno)).tr hv2 (fun _ _ h => h)) ⟨Nat.le_of_eq hu1.1.symm, rfl, hc2, hc3⟩ hn2
