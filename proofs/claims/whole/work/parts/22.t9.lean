/-! ===== parts are made ===== -/
def mkPart (w : ZW) (x y z : Int32) : ZW := zsr (zsi (zsi (zsi (znew w 4 0) 400 (zsz w) x) 401 (zsz w) y) 402 (zsz w) z) 403 (zsz w) none
theorem mkPart_eq {w : ZW} {x y z : Int32} {b : Nat} (h : b ≠ zsz w) : zeq w (mkPart w x y z) b := ((((zeq.nw h).tr (zeq.si h)).tr (zeq.si h)).tr (zeq.si h)).tr (zeq.sr h)
theorem TBn.fr {w w' : ZW} {tb tx sp nm : Nat} {r : List Nat} (h : TBn w tb tx sp nm r) (hz : zsz w ≤ zsz w') (e1 : zeq w w' tb) (e2 : zeq w w' tx) (e3 : zeq w w' sp) (e4 : zeq w w' nm) : TBn w' tb tx sp nm r := by
  obtain ⟨⟨b1, b2, b3, b4⟩, ss, hm⟩ := h
  exact ⟨⟨by omega, by omega, by omega, by omega⟩, ss, hm.fr e1 e2 e3 e4⟩
theorem TBn.new {w w' : ZW} {tb tx sp nm : Nat} {r : List Nat} (h : TBn w tb tx sp nm r) (hz : zsz w ≤ zsz w') (e : ∀ b, b ≠ zsz w → zeq w w' b) : TBn w' tb tx sp nm r := by
  obtain ⟨b1, b2, b3, b4⟩ := h.1
  exact h.fr hz (e _ (Nat.ne_of_lt b1)) (e _ (Nat.ne_of_lt b2)) (e _ (Nat.ne_of_lt b3)) (e _ (Nat.ne_of_lt b4))
abbrev zno : Nat → Prop := fun _ => False
theorem TBv.new {X : Nat → Prop} {w w' : ZW} {tb sp nm : Nat} (hb : tb < zsz w) (hz : zsz w ≤ zsz w') (e : ∀ b, b ≠ zsz w → zeq w w' b) : TBv X tb sp nm w w' := ⟨hz, fun a h _ _ _ _ => e a (Nat.ne_of_lt h), (e tb (Nat.ne_of_lt hb)).i 901⟩
/-- what a reader of a part answers -/
def zqP (tb tx sp nm : Nat) (w : ZW) (sg : ZM) (o : Option (PPart × List Nat)) : ZQ := fun v w' sg' => sg = sg' ∧ TBv zno tb sp nm w w' ∧ match o with
  | none => v = some .null ∧ TBb w' tb tx sp nm ∧ TBx w' tb tx sp nm
  | some (p, r1) => v = some (.ref (zsz w)) ∧ zsz w' = zsz w + 1 ∧ isPart w' (zsz w) (zsz w + 1) (zsz w) p ∧ TBn w' tb tx sp nm r1
theorem mkPart_ok {tb tx sp nm k : Nat} {w : ZW} {y z : Int32} {r : List Nat} (h : TBn w tb tx sp nm r) : zsz (mkPart w (nI k) y z) = zsz w + 1 ∧ TBv zno tb sp nm w (mkPart w (nI k) y z) ∧ isPart (mkPart w (nI k) y z) (zsz w) (zsz w + 1) (zsz w) (k, y, z) ∧ TBn (mkPart w (nI k) y z) tb tx sp nm r := by
  refine ⟨rfl, TBv.new h.1.1 (Nat.le_succ _) (fun b hb => mkPart_eq hb), ⟨Nat.le_refl _, Nat.lt_succ_self _, ?_, ?_, ?_, ?_⟩, h.new (Nat.le_succ _) (fun b hb => mkPart_eq hb)⟩
  · unfold mkPart; simp [zKS, zNS]
  · unfold mkPart; simp [zGS, zNS]
  · unfold mkPart; simp [zGS, zNS]
  · unfold mkPart; simp [zGS, zNS]
def iv (x : Option Nat) : Int32 := match x with
  | none => -1
  | some x => nI x
theorem rc_73 (E : ZE) (sg : ZM) (d : Nat) (hd : 2 ≤ d) (tb tx sp nm : Nat) (w0 w : ZW) (r : List Nat) (x y : Option Nat) (hx : ∀ v, x = some v → v < 10) (hy : ∀ v, y = some v → v < 10) (stp : Bool) (sgn : Int32) (ss : List PStep) (hb0 : TBb w0 tb tx sp nm) (hu : TBu tb sp nm w0 w) (hm : TBm w tb tx sp nm r ss) :
    RW E MX8_readChildNumber 73 [some (.ref tb), some (.int (iv x)), some (.int (zb stp)), some (.int sgn), some (.int (iv y))] [] w sg d 1 4 (PN E (zqP tb tx sp nm w0 sg (pc73 x y stp sgn r))) := by
  have hb1 := hu.b hb0
  unfold pc73
  cases x with
  | none =>
    refine r_iload_n dX8_readChildNumber_73 rfl rfl ?_
    refine r_iconst dX8_readChildNumber_74 kc_m1 rfl ?_
    refine r_icmp_eq (r := 93) dX8_readChildNumber_75 (by decide) rfl (fun c_75 => ?_) (fun c_75 => ?_)
    · refine r_aconst_null dX8_readChildNumber_93 rfl ?_
      refine r_aret rfl (by first | exact Or.inl ⟨_, rfl⟩ | exact Or.inr ⟨_, rfl⟩) (by first | exact zRv_ref _ | exact zRv_null | exact zRv_rf _ | assumption) dX8_readChildNumber_94 ?_
      exact ⟨rfl, hu.v, rfl, hb1, hm.x⟩
    · exact absurd rfl c_75
  | some x =>
    have lx := hx x rfl
    cases y with
    | none =>
      refine r_iload_n dX8_readChildNumber_73 rfl rfl ?_
      refine r_iconst dX8_readChildNumber_74 kc_m1 rfl ?_
      refine r_icmp_eq (r := 93) dX8_readChildNumber_75 (by decide) rfl (fun c_75 => ?_) (fun c_75 => ?_)
      · exact absurd c_75 (nI_m1 (by omega))
      · refine r_iload dX8_readChildNumber_78 rfl rfl ?_
        refine r_iconst dX8_readChildNumber_80 kc_m1 rfl ?_
        refine r_icmp_eq (r := 93) dX8_readChildNumber_81 (by decide) rfl (fun c_81 => ?_) (fun c_81 => ?_)
        · refine r_aconst_null dX8_readChildNumber_93 rfl ?_
          refine r_aret rfl (by first | exact Or.inl ⟨_, rfl⟩ | exact Or.inr ⟨_, rfl⟩) (by first | exact zRv_ref _ | exact zRv_null | exact zRv_rf _ | assumption) dX8_readChildNumber_94 ?_
          exact ⟨rfl, hu.v, rfl, hb1, hm.x⟩
        · exact absurd rfl c_81
    | some y =>
      have ly := hy y rfl
      cases e1 : pCh 41 r with
      | none =>
        have h1 := pCh_none e1
        refine r_iload_n dX8_readChildNumber_73 rfl rfl ?_
        refine r_iconst dX8_readChildNumber_74 kc_m1 rfl ?_
        refine r_icmp_eq (r := 93) dX8_readChildNumber_75 (by decide) rfl (fun c_75 => ?_) (fun c_75 => ?_)
        · exact absurd c_75 (nI_m1 (by omega))
        · refine r_iload dX8_readChildNumber_78 rfl rfl ?_
          refine r_iconst dX8_readChildNumber_80 kc_m1 rfl ?_
          refine r_icmp_eq (r := 93) dX8_readChildNumber_81 (by decide) rfl (fun c_81 => ?_) (fun c_81 => ?_)
          · exact absurd c_81 (nI_m1 (by omega))
          · refine r_aload_n dX8_readChildNumber_84 rfl (zRv_ref _) rfl ?_
            refine r_bipush dX8_readChildNumber_85 kb_41 rfl ?_
            refine r_callV MX8_take 1 [_] lvX8_44 (Or.inl ⟨8, by decide, (by first | (simp only [zKS]; first | assumption | exact TBm.k (by assumption)) | assumption | exact TBm.k (by assumption) | exact zk_nself _ _ _ | (simp [zKS, zNS, *]; done)), rfl⟩) (sp_take E _ sg (d - 1) tb tx sp nm 41 (by decide) r _ hm) rfl rfl (by first | exact Nat.le_of_ble_eq_true rfl | (simp [zcat_rf, Value.category]; done)) (by omega) (Nat.le_of_eq (Nat.zero_add _)) (Nat.le_of_eq (Nat.zero_add _)) dX8_readChildNumber_87 rfl (fun v_ w_ sg_ hq_ => ?_)
            obtain ⟨rfl, hu1, rfl, hm1⟩ := hq_
            simp only [h1.1, h1.2] at hm1 ⊢
            refine r_if_neB (r := 95) dX8_readChildNumber_90 (by decide) rfl (fun c_90 => ?_) (fun c_90 => ?_)
            · exact absurd c_90 (by decide)
            · refine r_aconst_null dX8_readChildNumber_93 rfl ?_
              refine r_aret rfl (by first | exact Or.inl ⟨_, rfl⟩ | exact Or.inr ⟨_, rfl⟩) (by first | exact zRv_ref _ | exact zRv_null | exact zRv_rf _ | assumption) dX8_readChildNumber_94 ?_
              exact ⟨rfl, (hu.tr hu1).v, rfl, hu1.b hb1, hm1.x⟩
      | some r1 =>
        have h1 := pCh_some e1
        refine r_iload_n dX8_readChildNumber_73 rfl rfl ?_
        refine r_iconst dX8_readChildNumber_74 kc_m1 rfl ?_
        refine r_icmp_eq (r := 93) dX8_readChildNumber_75 (by decide) rfl (fun c_75 => ?_) (fun c_75 => ?_)
        · exact absurd c_75 (nI_m1 (by omega))
        · refine r_iload dX8_readChildNumber_78 rfl rfl ?_
          refine r_iconst dX8_readChildNumber_80 kc_m1 rfl ?_
          refine r_icmp_eq (r := 93) dX8_readChildNumber_81 (by decide) rfl (fun c_81 => ?_) (fun c_81 => ?_)
          · exact absurd c_81 (nI_m1 (by omega))
          · refine r_aload_n dX8_readChildNumber_84 rfl (zRv_ref _) rfl ?_
            refine r_bipush dX8_readChildNumber_85 kb_41 rfl ?_
            refine r_callV MX8_take 1 [_] lvX8_44 (Or.inl ⟨8, by decide, (by first | (simp only [zKS]; first | assumption | exact TBm.k (by assumption)) | assumption | exact TBm.k (by assumption) | exact zk_nself _ _ _ | (simp [zKS, zNS, *]; done)), rfl⟩) (sp_take E _ sg (d - 1) tb tx sp nm 41 (by decide) r _ hm) rfl rfl (by first | exact Nat.le_of_ble_eq_true rfl | (simp [zcat_rf, Value.category]; done)) (by omega) (Nat.le_of_eq (Nat.zero_add _)) (Nat.le_of_eq (Nat.zero_add _)) dX8_readChildNumber_87 rfl (fun v_ w_ sg_ hq_ => ?_)
            obtain ⟨rfl, hu1, rfl, hm1⟩ := hq_
            simp only [h1.1, h1.2] at hm1 ⊢
            refine r_if_neB (r := 95) dX8_readChildNumber_90 (by decide) rfl (fun c_90 => ?_) (fun c_90 => ?_)
            · refine r_iload_n dX8_readChildNumber_95 rfl rfl ?_
              refine r_if_eqB (r := 115) dX8_readChildNumber_96 (by decide) rfl (fun c_96 => ?_) (fun c_96 => ?_)
              · refine r_new (nc' := 0) (ns' := 0) 3 lnX8_95 (by decide) (by decide) dX8_readChildNumber_115 rfl ?_
                refine r_dup dX8_readChildNumber_118 (by first | rfl | exact zcat_rf _) rfl ?_
                refine r_iconst dX8_readChildNumber_119 kc_3 rfl ?_
                refine r_iload_n dX8_readChildNumber_120 rfl rfl ?_
                refine r_iconst dX8_readChildNumber_121 kc_0 rfl ?_
                refine r_callI MX3_init 3 [_, _, _] liX8_97 (sp_X3_init E _ sg (d - 1) (by omega) _ _ _ _ (zk_nself _ _ _)) rfl rfl (by first | exact Nat.le_of_ble_eq_true rfl | (simp [zcat_rf, Value.category]; done)) (by omega) (Nat.le_of_eq (Nat.zero_add _)) (Nat.le_of_eq (Nat.zero_add _)) dX8_readChildNumber_122 rfl (fun v_ w_ sg_ hq_ => ?_)
                obtain ⟨rfl, rfl, rfl⟩ := hq_
                subst c_96
                refine r_aret rfl (by first | exact Or.inl ⟨_, rfl⟩ | exact Or.inr ⟨_, rfl⟩) (by first | exact zRv_ref _ | exact zRv_null | exact zRv_rf _ | assumption) dX8_readChildNumber_125 ?_
                have hz := (hu.tr hu1).1
                obtain ⟨k1, k2, k3, k4⟩ := mkPart_ok (k := 3) (y := nI x) (z := nI 0) ⟨hu1.b hb1, _, hm1⟩
                rw [hz] at k1 k3
                exact ⟨rfl, ((hu.tr hu1).v).tr k2 (fun _ _ h => h), by rw [← hz], k1, k3, k4⟩
              · refine r_new (nc' := 0) (ns' := 0) 3 lnX8_95 (by decide) (by decide) dX8_readChildNumber_99 rfl ?_
                refine r_dup dX8_readChildNumber_102 (by first | rfl | exact zcat_rf _) rfl ?_
                refine r_iconst dX8_readChildNumber_103 kc_3 rfl ?_
                refine r_iload_n dX8_readChildNumber_104 rfl rfl ?_
                refine r_iload dX8_readChildNumber_105 rfl rfl ?_
                refine r_imul dX8_readChildNumber_107 rfl ?_
                refine r_iload_n dX8_readChildNumber_108 rfl rfl ?_
                refine r_callI MX3_init 3 [_, _, _] liX8_97 (sp_X3_init E _ sg (d - 1) (by omega) _ _ _ _ (zk_nself _ _ _)) rfl rfl (by first | exact Nat.le_of_ble_eq_true rfl | (simp [zcat_rf, Value.category]; done)) (by omega) (Nat.le_of_eq (Nat.zero_add _)) (Nat.le_of_eq (Nat.zero_add _)) dX8_readChildNumber_109 rfl (fun v_ w_ sg_ hq_ => ?_)
                obtain ⟨rfl, rfl, rfl⟩ := hq_
                refine r_goto (r := 125) dX8_readChildNumber_112 (by decide) ?_
                subst c_96
                refine r_aret rfl (by first | exact Or.inl ⟨_, rfl⟩ | exact Or.inr ⟨_, rfl⟩) (by first | exact zRv_ref _ | exact zRv_null | exact zRv_rf _ | assumption) dX8_readChildNumber_125 ?_
                have hz := (hu.tr hu1).1
                obtain ⟨k1, k2, k3, k4⟩ := mkPart_ok (k := 3) (y := sgn * nI y) (z := nI x) ⟨hu1.b hb1, _, hm1⟩
                rw [hz] at k1 k3
                exact ⟨rfl, ((hu.tr hu1).v).tr k2 (fun _ _ h => h), by rw [← hz], k1, k3, k4⟩
            · exact absurd c_90 (by decide)
theorem rc_18 (E : ZE) (sg : ZM) (d : Nat) (hd : 2 ≤ d) (tb tx sp nm : Nat) (w0 w : ZW) (r : List Nat) (x : Option Nat) (hx : ∀ v, x = some v → v < 10) (ss : List PStep) (hb0 : TBb w0 tb tx sp nm) (hu : TBu tb sp nm w0 w) (hm : TBm w tb tx sp nm r ss) :
    RW E MX8_readChildNumber 18 [some (.ref tb), some (.int (iv x)), none, none, none] [] w sg d 1 4 (PN E (zqP tb tx sp nm w0 sg (pc18 x r))) := by
  unfold pc18
  have h0 : ∀ v, some 0 = some v → v < 10 := fun v h => by cases h; decide
  cases e1 : pCh 110 r with
  | none =>
    have h1 := pCh_none e1
    refine r_aload_n dX8_readChildNumber_18 rfl (zRv_ref _) rfl ?_
    refine r_bipush dX8_readChildNumber_19 kb_110 rfl ?_
    refine r_callV MX8_take 1 [_] lvX8_44 (Or.inl ⟨8, by decide, (by first | (simp only [zKS]; first | assumption | exact TBm.k (by assumption)) | assumption | exact TBm.k (by assumption) | exact zk_nself _ _ _ | (simp [zKS, zNS, *]; done)), rfl⟩) (sp_take E _ sg (d - 1) tb tx sp nm 110 (by decide) r _ hm) rfl rfl (by first | exact Nat.le_of_ble_eq_true rfl | (simp [zcat_rf, Value.category]; done)) (by omega) (Nat.le_of_eq (Nat.zero_add _)) (Nat.le_of_eq (Nat.zero_add _)) dX8_readChildNumber_21 rfl (fun v_ w_ sg_ hq_ => ?_)
    obtain ⟨rfl, hu1, rfl, hm1⟩ := hq_
    simp only [h1.1, h1.2] at hm1 ⊢
    refine r_istore_n (ls' := [_, _, _, _, _]) dX8_readChildNumber_24 (Nat.le_of_ble_eq_true rfl) rfl rfl ?_
    refine r_iconst dX8_readChildNumber_25 kc_0 rfl ?_
    refine r_istore_n (ls' := [_, _, _, _, _]) dX8_readChildNumber_26 (Nat.le_of_ble_eq_true rfl) rfl rfl ?_
    refine r_iload_n dX8_readChildNumber_27 rfl rfl ?_
    refine r_if_eqB (r := 59) dX8_readChildNumber_28 (by decide) rfl (fun c_28 => ?_) (fun c_28 => ?_)
    · refine r_iload_n dX8_readChildNumber_59 rfl rfl ?_
      refine r_if_neN (by omega) (r := 67) dX8_readChildNumber_60 (by decide) rfl (fun c_60 => ?_) (fun c_60 => ?_)
      · exact absurd rfl c_60
      · refine r_iconst dX8_readChildNumber_63 kc_0 rfl ?_
        refine r_goto (r := 71) dX8_readChildNumber_64 (by decide) ?_
        refine r_istore (ls' := [_, _, _, _, _]) dX8_readChildNumber_71 (Nat.le_of_ble_eq_true rfl) rfl rfl ?_
        exact rc_73 E sg d hd tb tx sp nm w0 _ r x (some 0) hx h0 false (nI 0) ss hb0 (hu.tr hu1) hm1
    · exact absurd c_28 (by decide)
  | some r1 =>
    have h1 := pCh_some e1
    dsimp only
    cases e2 : pCh 43 r1 with
    | some r2 =>
      have h2 := pCh_some e2
      dsimp only
      cases e3 : pDig r2 with
      | none =>
        refine r_aload_n dX8_readChildNumber_18 rfl (zRv_ref _) rfl ?_
        refine r_bipush dX8_readChildNumber_19 kb_110 rfl ?_
        refine r_callV MX8_take 1 [_] lvX8_44 (Or.inl ⟨8, by decide, (by first | (simp only [zKS]; first | assumption | exact TBm.k (by assumption)) | assumption | exact TBm.k (by assumption) | exact zk_nself _ _ _ | (simp [zKS, zNS, *]; done)), rfl⟩) (sp_take E _ sg (d - 1) tb tx sp nm 110 (by decide) r _ hm) rfl rfl (by first | exact Nat.le_of_ble_eq_true rfl | (simp [zcat_rf, Value.category]; done)) (by omega) (Nat.le_of_eq (Nat.zero_add _)) (Nat.le_of_eq (Nat.zero_add _)) dX8_readChildNumber_21 rfl (fun v_ w_ sg_ hq_ => ?_)
        obtain ⟨rfl, hu1, rfl, hm1⟩ := hq_
        simp only [h1.1, h1.2] at hm1 ⊢
        refine r_istore_n (ls' := [_, _, _, _, _]) dX8_readChildNumber_24 (Nat.le_of_ble_eq_true rfl) rfl rfl ?_
        refine r_iconst dX8_readChildNumber_25 kc_0 rfl ?_
        refine r_istore_n (ls' := [_, _, _, _, _]) dX8_readChildNumber_26 (Nat.le_of_ble_eq_true rfl) rfl rfl ?_
        refine r_iload_n dX8_readChildNumber_27 rfl rfl ?_
        refine r_if_eqB (r := 59) dX8_readChildNumber_28 (by decide) rfl (fun c_28 => ?_) (fun c_28 => ?_)
        · exact absurd c_28 (by decide)
        · refine r_aload_n dX8_readChildNumber_31 rfl (zRv_ref _) rfl ?_
          refine r_bipush dX8_readChildNumber_32 kb_43 rfl ?_
          refine r_callV MX8_take 1 [_] lvX8_44 (Or.inl ⟨8, by decide, (by first | (simp only [zKS]; first | assumption | exact TBm.k (by assumption)) | assumption | exact TBm.k (by assumption) | exact zk_nself _ _ _ | (simp [zKS, zNS, *]; done)), rfl⟩) (sp_take E _ sg (d - 1) tb tx sp nm 43 (by decide) r1 _ hm1) rfl rfl (by first | exact Nat.le_of_ble_eq_true rfl | (simp [zcat_rf, Value.category]; done)) (by omega) (Nat.le_of_eq (Nat.zero_add _)) (Nat.le_of_eq (Nat.zero_add _)) dX8_readChildNumber_34 rfl (fun v_ w_ sg_ hq_ => ?_)
          obtain ⟨rfl, hu2, rfl, hm2⟩ := hq_
          simp only [h2.1, h2.2] at hm2 ⊢
          refine r_if_eqB (r := 44) dX8_readChildNumber_37 (by decide) rfl (fun c_37 => ?_) (fun c_37 => ?_)
          · exact absurd c_37 (by decide)
          · refine r_iconst dX8_readChildNumber_40 kc_1 rfl ?_
            refine r_goto (r := 58) dX8_readChildNumber_41 (by decide) ?_
            refine r_istore_n (ls' := [_, _, _, _, _]) dX8_readChildNumber_58 (Nat.le_of_ble_eq_true rfl) rfl rfl ?_
            refine r_iload_n dX8_readChildNumber_59 rfl rfl ?_
            refine r_if_neN (by omega) (r := 67) dX8_readChildNumber_60 (by decide) rfl (fun c_60 => ?_) (fun c_60 => ?_)
            · refine r_aload_n dX8_readChildNumber_67 rfl (zRv_ref _) rfl ?_
              refine r_callV MX8_readDigit 0 [] lvX8_116 (Or.inl ⟨8, by decide, (by first | (simp only [zKS]; first | assumption | exact TBm.k (by assumption)) | assumption | exact TBm.k (by assumption) | exact zk_nself _ _ _ | (simp [zKS, zNS, *]; done)), rfl⟩) (sp_X8_readDigit E _ sg (d - 1) tb tx sp nm r2 _ hm2) rfl rfl (by first | exact Nat.le_of_ble_eq_true rfl | (simp [zcat_rf, Value.category]; done)) (by omega) (Nat.le_of_eq (Nat.zero_add _)) (Nat.le_of_eq (Nat.zero_add _)) dX8_readChildNumber_68 rfl (fun v_ w_ sg_ hq_ => ?_)
              obtain ⟨rfl, hu3, rfl, hm3⟩ := hq_
              simp only [dig0, e3] at hm3 ⊢
              refine r_istore (ls' := [_, _, _, _, _]) dX8_readChildNumber_71 (Nat.le_of_ble_eq_true rfl) rfl rfl ?_
              exact rc_73 E sg d hd tb tx sp nm w0 _ r2 x none hx (fun v h => by cases h) true (nI 1) ss hb0 (((hu.tr hu1).tr hu2).tr hu3) hm3
            · exact absurd c_60 (by decide)
      | some q =>
        obtain ⟨y, r3⟩ := q
        have ly := (pDig_len e3).2
        refine r_aload_n dX8_readChildNumber_18 rfl (zRv_ref _) rfl ?_
        refine r_bipush dX8_readChildNumber_19 kb_110 rfl ?_
        refine r_callV MX8_take 1 [_] lvX8_44 (Or.inl ⟨8, by decide, (by first | (simp only [zKS]; first | assumption | exact TBm.k (by assumption)) | assumption | exact TBm.k (by assumption) | exact zk_nself _ _ _ | (simp [zKS, zNS, *]; done)), rfl⟩) (sp_take E _ sg (d - 1) tb tx sp nm 110 (by decide) r _ hm) rfl rfl (by first | exact Nat.le_of_ble_eq_true rfl | (simp [zcat_rf, Value.category]; done)) (by omega) (Nat.le_of_eq (Nat.zero_add _)) (Nat.le_of_eq (Nat.zero_add _)) dX8_readChildNumber_21 rfl (fun v_ w_ sg_ hq_ => ?_)
        obtain ⟨rfl, hu1, rfl, hm1⟩ := hq_
        simp only [h1.1, h1.2] at hm1 ⊢
        refine r_istore_n (ls' := [_, _, _, _, _]) dX8_readChildNumber_24 (Nat.le_of_ble_eq_true rfl) rfl rfl ?_
        refine r_iconst dX8_readChildNumber_25 kc_0 rfl ?_
        refine r_istore_n (ls' := [_, _, _, _, _]) dX8_readChildNumber_26 (Nat.le_of_ble_eq_true rfl) rfl rfl ?_
        refine r_iload_n dX8_readChildNumber_27 rfl rfl ?_
        refine r_if_eqB (r := 59) dX8_readChildNumber_28 (by decide) rfl (fun c_28 => ?_) (fun c_28 => ?_)
        · exact absurd c_28 (by decide)
        · refine r_aload_n dX8_readChildNumber_31 rfl (zRv_ref _) rfl ?_
          refine r_bipush dX8_readChildNumber_32 kb_43 rfl ?_
          refine r_callV MX8_take 1 [_] lvX8_44 (Or.inl ⟨8, by decide, (by first | (simp only [zKS]; first | assumption | exact TBm.k (by assumption)) | assumption | exact TBm.k (by assumption) | exact zk_nself _ _ _ | (simp [zKS, zNS, *]; done)), rfl⟩) (sp_take E _ sg (d - 1) tb tx sp nm 43 (by decide) r1 _ hm1) rfl rfl (by first | exact Nat.le_of_ble_eq_true rfl | (simp [zcat_rf, Value.category]; done)) (by omega) (Nat.le_of_eq (Nat.zero_add _)) (Nat.le_of_eq (Nat.zero_add _)) dX8_readChildNumber_34 rfl (fun v_ w_ sg_ hq_ => ?_)
          obtain ⟨rfl, hu2, rfl, hm2⟩ := hq_
          simp only [h2.1, h2.2] at hm2 ⊢
          refine r_if_eqB (r := 44) dX8_readChildNumber_37 (by decide) rfl (fun c_37 => ?_) (fun c_37 => ?_)
          · exact absurd c_37 (by decide)
          · refine r_iconst dX8_readChildNumber_40 kc_1 rfl ?_
            refine r_goto (r := 58) dX8_readChildNumber_41 (by decide) ?_
            refine r_istore_n (ls' := [_, _, _, _, _]) dX8_readChildNumber_58 (Nat.le_of_ble_eq_true rfl) rfl rfl ?_
            refine r_iload_n dX8_readChildNumber_59 rfl rfl ?_
            refine r_if_neN (by omega) (r := 67) dX8_readChildNumber_60 (by decide) rfl (fun c_60 => ?_) (fun c_60 => ?_)
            · refine r_aload_n dX8_readChildNumber_67 rfl (zRv_ref _) rfl ?_
              refine r_callV MX8_readDigit 0 [] lvX8_116 (Or.inl ⟨8, by decide, (by first | (simp only [zKS]; first | assumption | exact TBm.k (by assumption)) | assumption | exact TBm.k (by assumption) | exact zk_nself _ _ _ | (simp [zKS, zNS, *]; done)), rfl⟩) (sp_X8_readDigit E _ sg (d - 1) tb tx sp nm r2 _ hm2) rfl rfl (by first | exact Nat.le_of_ble_eq_true rfl | (simp [zcat_rf, Value.category]; done)) (by omega) (Nat.le_of_eq (Nat.zero_add _)) (Nat.le_of_eq (Nat.zero_add _)) dX8_readChildNumber_68 rfl (fun v_ w_ sg_ hq_ => ?_)
              obtain ⟨rfl, hu3, rfl, hm3⟩ := hq_
              simp only [dig0, e3] at hm3 ⊢
              refine r_istore (ls' := [_, _, _, _, _]) dX8_readChildNumber_71 (Nat.le_of_ble_eq_true rfl) rfl rfl ?_
              exact rc_73 E sg d hd tb tx sp nm w0 _ r3 x (some y) hx (fun v h => by cases h; exact ly) true (nI 1) ss hb0 (((hu.tr hu1).tr hu2).tr hu3) hm3
            · exact absurd c_60 (by decide)
    | none =>
      have h2 := pCh_none e2
      dsimp only
      cases e4 : pCh 45 r1 with
      | some r2 =>
        have h4 := pCh_some e4
        dsimp only
        cases e3 : pDig r2 with
        | none =>
          refine r_aload_n dX8_readChildNumber_18 rfl (zRv_ref _) rfl ?_
          refine r_bipush dX8_readChildNumber_19 kb_110 rfl ?_
          refine r_callV MX8_take 1 [_] lvX8_44 (Or.inl ⟨8, by decide, (by first | (simp only [zKS]; first | assumption | exact TBm.k (by assumption)) | assumption | exact TBm.k (by assumption) | exact zk_nself _ _ _ | (simp [zKS, zNS, *]; done)), rfl⟩) (sp_take E _ sg (d - 1) tb tx sp nm 110 (by decide) r _ hm) rfl rfl (by first | exact Nat.le_of_ble_eq_true rfl | (simp [zcat_rf, Value.category]; done)) (by omega) (Nat.le_of_eq (Nat.zero_add _)) (Nat.le_of_eq (Nat.zero_add _)) dX8_readChildNumber_21 rfl (fun v_ w_ sg_ hq_ => ?_)
          obtain ⟨rfl, hu1, rfl, hm1⟩ := hq_
          simp only [h1.1, h1.2] at hm1 ⊢
          refine r_istore_n (ls' := [_, _, _, _, _]) dX8_readChildNumber_24 (Nat.le_of_ble_eq_true rfl) rfl rfl ?_
          refine r_iconst dX8_readChildNumber_25 kc_0 rfl ?_
          refine r_istore_n (ls' := [_, _, _, _, _]) dX8_readChildNumber_26 (Nat.le_of_ble_eq_true rfl) rfl rfl ?_
          refine r_iload_n dX8_readChildNumber_27 rfl rfl ?_
          refine r_if_eqB (r := 59) dX8_readChildNumber_28 (by decide) rfl (fun c_28 => ?_) (fun c_28 => ?_)
          · exact absurd c_28 (by decide)
          · refine r_aload_n dX8_readChildNumber_31 rfl (zRv_ref _) rfl ?_
            refine r_bipush dX8_readChildNumber_32 kb_43 rfl ?_
            refine r_callV MX8_take 1 [_] lvX8_44 (Or.inl ⟨8, by decide, (by first | (simp only [zKS]; first | assumption | exact TBm.k (by assumption)) | assumption | exact TBm.k (by assumption) | exact zk_nself _ _ _ | (simp [zKS, zNS, *]; done)), rfl⟩) (sp_take E _ sg (d - 1) tb tx sp nm 43 (by decide) r1 _ hm1) rfl rfl (by first | exact Nat.le_of_ble_eq_true rfl | (simp [zcat_rf, Value.category]; done)) (by omega) (Nat.le_of_eq (Nat.zero_add _)) (Nat.le_of_eq (Nat.zero_add _)) dX8_readChildNumber_34 rfl (fun v_ w_ sg_ hq_ => ?_)
            obtain ⟨rfl, hu2, rfl, hm2⟩ := hq_
            simp only [h2.1, h2.2] at hm2 ⊢
            refine r_if_eqB (r := 44) dX8_readChildNumber_37 (by decide) rfl (fun c_37 => ?_) (fun c_37 => ?_)
            · refine r_aload_n dX8_readChildNumber_44 rfl (zRv_ref _) rfl ?_
              refine r_bipush dX8_readChildNumber_45 kb_45 rfl ?_
              refine r_callV MX8_take 1 [_] lvX8_44 (Or.inl ⟨8, by decide, (by first | (simp only [zKS]; first | assumption | exact TBm.k (by assumption)) | assumption | exact TBm.k (by assumption) | exact zk_nself _ _ _ | (simp [zKS, zNS, *]; done)), rfl⟩) (sp_take E _ sg (d - 1) tb tx sp nm 45 (by decide) r1 _ hm2) rfl rfl (by first | exact Nat.le_of_ble_eq_true rfl | (simp [zcat_rf, Value.category]; done)) (by omega) (Nat.le_of_eq (Nat.zero_add _)) (Nat.le_of_eq (Nat.zero_add _)) dX8_readChildNumber_47 rfl (fun v_ w_ sg_ hq_ => ?_)
              obtain ⟨rfl, hu4, rfl, hm4⟩ := hq_
              simp only [h4.1, h4.2] at hm4 ⊢
              refine r_if_eqB (r := 57) dX8_readChildNumber_50 (by decide) rfl (fun c_50 => ?_) (fun c_50 => ?_)
              · exact absurd c_50 (by decide)
              · refine r_iconst dX8_readChildNumber_53 kc_m1 rfl ?_
                refine r_goto (r := 58) dX8_readChildNumber_54 (by decide) ?_
                refine r_istore_n (ls' := [_, _, _, _, _]) dX8_readChildNumber_58 (Nat.le_of_ble_eq_true rfl) rfl rfl ?_
                refine r_iload_n dX8_readChildNumber_59 rfl rfl ?_
                refine r_if_ne (r := 67) dX8_readChildNumber_60 (by decide) rfl (fun c_60 => ?_) (fun c_60 => ?_)
                · refine r_aload_n dX8_readChildNumber_67 rfl (zRv_ref _) rfl ?_
                  refine r_callV MX8_readDigit 0 [] lvX8_116 (Or.inl ⟨8, by decide, (by first | (simp only [zKS]; first | assumption | exact TBm.k (by assumption)) | assumption | exact TBm.k (by assumption) | exact zk_nself _ _ _ | (simp [zKS, zNS, *]; done)), rfl⟩) (sp_X8_readDigit E _ sg (d - 1) tb tx sp nm r2 _ hm4) rfl rfl (by first | exact Nat.le_of_ble_eq_true rfl | (simp [zcat_rf, Value.category]; done)) (by omega) (Nat.le_of_eq (Nat.zero_add _)) (Nat.le_of_eq (Nat.zero_add _)) dX8_readChildNumber_68 rfl (fun v_ w_ sg_ hq_ => ?_)
                  obtain ⟨rfl, hu3, rfl, hm3⟩ := hq_
                  simp only [dig0, e3] at hm3 ⊢
                  refine r_istore (ls' := [_, _, _, _, _]) dX8_readChildNumber_71 (Nat.le_of_ble_eq_true rfl) rfl rfl ?_
                  exact rc_73 E sg d hd tb tx sp nm w0 _ r2 x none hx (fun v h => by cases h) true (-1) ss hb0 ((((hu.tr hu1).tr hu2).tr hu4).tr hu3) hm3
                · exact absurd c_60 (by decide)
            · exact absurd c_37 (by decide)
        | some q =>
          obtain ⟨y, r3⟩ := q
          have ly := (pDig_len e3).2
          refine r_aload_n dX8_readChildNumber_18 rfl (zRv_ref _) rfl ?_
          refine r_bipush dX8_readChildNumber_19 kb_110 rfl ?_
          refine r_callV MX8_take 1 [_] lvX8_44 (Or.inl ⟨8, by decide, (by first | (simp only [zKS]; first | assumption | exact TBm.k (by assumption)) | assumption | exact TBm.k (by assumption) | exact zk_nself _ _ _ | (simp [zKS, zNS, *]; done)), rfl⟩) (sp_take E _ sg (d - 1) tb tx sp nm 110 (by decide) r _ hm) rfl rfl (by first | exact Nat.le_of_ble_eq_true rfl | (simp [zcat_rf, Value.category]; done)) (by omega) (Nat.le_of_eq (Nat.zero_add _)) (Nat.le_of_eq (Nat.zero_add _)) dX8_readChildNumber_21 rfl (fun v_ w_ sg_ hq_ => ?_)
          obtain ⟨rfl, hu1, rfl, hm1⟩ := hq_
          simp only [h1.1, h1.2] at hm1 ⊢
          refine r_istore_n (ls' := [_, _, _, _, _]) dX8_readChildNumber_24 (Nat.le_of_ble_eq_true rfl) rfl rfl ?_
          refine r_iconst dX8_readChildNumber_25 kc_0 rfl ?_
          refine r_istore_n (ls' := [_, _, _, _, _]) dX8_readChildNumber_26 (Nat.le_of_ble_eq_true rfl) rfl rfl ?_
          refine r_iload_n dX8_readChildNumber_27 rfl rfl ?_
          refine r_if_eqB (r := 59) dX8_readChildNumber_28 (by decide) rfl (fun c_28 => ?_) (fun c_28 => ?_)
          · exact absurd c_28 (by decide)
          · refine r_aload_n dX8_readChildNumber_31 rfl (zRv_ref _) rfl ?_
            refine r_bipush dX8_readChildNumber_32 kb_43 rfl ?_
            refine r_callV MX8_take 1 [_] lvX8_44 (Or.inl ⟨8, by decide, (by first | (simp only [zKS]; first | assumption | exact TBm.k (by assumption)) | assumption | exact TBm.k (by assumption) | exact zk_nself _ _ _ | (simp [zKS, zNS, *]; done)), rfl⟩) (sp_take E _ sg (d - 1) tb tx sp nm 43 (by decide) r1 _ hm1) rfl rfl (by first | exact Nat.le_of_ble_eq_true rfl | (simp [zcat_rf, Value.category]; done)) (by omega) (Nat.le_of_eq (Nat.zero_add _)) (Nat.le_of_eq (Nat.zero_add _)) dX8_readChildNumber_34 rfl (fun v_ w_ sg_ hq_ => ?_)
            obtain ⟨rfl, hu2, rfl, hm2⟩ := hq_
            simp only [h2.1, h2.2] at hm2 ⊢
            refine r_if_eqB (r := 44) dX8_readChildNumber_37 (by decide) rfl (fun c_37 => ?_) (fun c_37 => ?_)
            · refine r_aload_n dX8_readChildNumber_44 rfl (zRv_ref _) rfl ?_
              refine r_bipush dX8_readChildNumber_45 kb_45 rfl ?_
              refine r_callV MX8_take 1 [_] lvX8_44 (Or.inl ⟨8, by decide, (by first | (simp only [zKS]; first | assumption | exact TBm.k (by assumption)) | assumption | exact TBm.k (by assumption) | exact zk_nself _ _ _ | (simp [zKS, zNS, *]; done)), rfl⟩) (sp_take E _ sg (d - 1) tb tx sp nm 45 (by decide) r1 _ hm2) rfl rfl (by first | exact Nat.le_of_ble_eq_true rfl | (simp [zcat_rf, Value.category]; done)) (by omega) (Nat.le_of_eq (Nat.zero_add _)) (Nat.le_of_eq (Nat.zero_add _)) dX8_readChildNumber_47 rfl (fun v_ w_ sg_ hq_ => ?_)
              obtain ⟨rfl, hu4, rfl, hm4⟩ := hq_
              simp only [h4.1, h4.2] at hm4 ⊢
              refine r_if_eqB (r := 57) dX8_readChildNumber_50 (by decide) rfl (fun c_50 => ?_) (fun c_50 => ?_)
              · exact absurd c_50 (by decide)
              · refine r_iconst dX8_readChildNumber_53 kc_m1 rfl ?_
                refine r_goto (r := 58) dX8_readChildNumber_54 (by decide) ?_
                refine r_istore_n (ls' := [_, _, _, _, _]) dX8_readChildNumber_58 (Nat.le_of_ble_eq_true rfl) rfl rfl ?_
                refine r_iload_n dX8_readChildNumber_59 rfl rfl ?_
                refine r_if_ne (r := 67) dX8_readChildNumber_60 (by decide) rfl (fun c_60 => ?_) (fun c_60 => ?_)
                · refine r_aload_n dX8_readChildNumber_67 rfl (zRv_ref _) rfl ?_
                  refine r_callV MX8_readDigit 0 [] lvX8_116 (Or.inl ⟨8, by decide, (by first | (simp only [zKS]; first | assumption | exact TBm.k (by assumption)) | assumption | exact TBm.k (by assumption) | exact zk_nself _ _ _ | (simp [zKS, zNS, *]; done)), rfl⟩) (sp_X8_readDigit E _ sg (d - 1) tb tx sp nm r2 _ hm4) rfl rfl (by first | exact Nat.le_of_ble_eq_true rfl | (simp [zcat_rf, Value.category]; done)) (by omega) (Nat.le_of_eq (Nat.zero_add _)) (Nat.le_of_eq (Nat.zero_add _)) dX8_readChildNumber_68 rfl (fun v_ w_ sg_ hq_ => ?_)
                  obtain ⟨rfl, hu3, rfl, hm3⟩ := hq_
                  simp only [dig0, e3] at hm3 ⊢
                  refine r_istore (ls' := [_, _, _, _, _]) dX8_readChildNumber_71 (Nat.le_of_ble_eq_true rfl) rfl rfl ?_
                  exact rc_73 E sg d hd tb tx sp nm w0 _ r3 x (some y) hx (fun v h => by cases h; exact ly) true (-1) ss hb0 ((((hu.tr hu1).tr hu2).tr hu4).tr hu3) hm3
                · exact absurd c_60 (by decide)
            · exact absurd c_37 (by decide)
      | none =>
        have h4 := pCh_none e4
        refine r_aload_n dX8_readChildNumber_18 rfl (zRv_ref _) rfl ?_
        refine r_bipush dX8_readChildNumber_19 kb_110 rfl ?_
        refine r_callV MX8_take 1 [_] lvX8_44 (Or.inl ⟨8, by decide, (by first | (simp only [zKS]; first | assumption | exact TBm.k (by assumption)) | assumption | exact TBm.k (by assumption) | exact zk_nself _ _ _ | (simp [zKS, zNS, *]; done)), rfl⟩) (sp_take E _ sg (d - 1) tb tx sp nm 110 (by decide) r _ hm) rfl rfl (by first | exact Nat.le_of_ble_eq_true rfl | (simp [zcat_rf, Value.category]; done)) (by omega) (Nat.le_of_eq (Nat.zero_add _)) (Nat.le_of_eq (Nat.zero_add _)) dX8_readChildNumber_21 rfl (fun v_ w_ sg_ hq_ => ?_)
        obtain ⟨rfl, hu1, rfl, hm1⟩ := hq_
        simp only [h1.1, h1.2] at hm1 ⊢
        refine r_istore_n (ls' := [_, _, _, _, _]) dX8_readChildNumber_24 (Nat.le_of_ble_eq_true rfl) rfl rfl ?_
        refine r_iconst dX8_readChildNumber_25 kc_0 rfl ?_
        refine r_istore_n (ls' := [_, _, _, _, _]) dX8_readChildNumber_26 (Nat.le_of_ble_eq_true rfl) rfl rfl ?_
        refine r_iload_n dX8_readChildNumber_27 rfl rfl ?_
        refine r_if_eqB (r := 59) dX8_readChildNumber_28 (by decide) rfl (fun c_28 => ?_) (fun c_28 => ?_)
        · exact absurd c_28 (by decide)
        · refine r_aload_n dX8_readChildNumber_31 rfl (zRv_ref _) rfl ?_
          refine r_bipush dX8_readChildNumber_32 kb_43 rfl ?_
          refine r_callV MX8_take 1 [_] lvX8_44 (Or.inl ⟨8, by decide, (by first | (simp only [zKS]; first | assumption | exact TBm.k (by assumption)) | assumption | exact TBm.k (by assumption) | exact zk_nself _ _ _ | (simp [zKS, zNS, *]; done)), rfl⟩) (sp_take E _ sg (d - 1) tb tx sp nm 43 (by decide) r1 _ hm1) rfl rfl (by first | exact Nat.le_of_ble_eq_true rfl | (simp [zcat_rf, Value.category]; done)) (by omega) (Nat.le_of_eq (Nat.zero_add _)) (Nat.le_of_eq (Nat.zero_add _)) dX8_readChildNumber_34 rfl (fun v_ w_ sg_ hq_ => ?_)
          obtain ⟨rfl, hu2, rfl, hm2⟩ := hq_
          simp only [h2.1, h2.2] at hm2 ⊢
          refine r_if_eqB (r := 44) dX8_readChildNumber_37 (by decide) rfl (fun c_37 => ?_) (fun c_37 => ?_)
          · refine r_aload_n dX8_readChildNumber_44 rfl (zRv_ref _) rfl ?_
            refine r_bipush dX8_readChildNumber_45 kb_45 rfl ?_
            refine r_callV MX8_take 1 [_] lvX8_44 (Or.inl ⟨8, by decide, (by first | (simp only [zKS]; first | assumption | exact TBm.k (by assumption)) | assumption | exact TBm.k (by assumption) | exact zk_nself _ _ _ | (simp [zKS, zNS, *]; done)), rfl⟩) (sp_take E _ sg (d - 1) tb tx sp nm 45 (by decide) r1 _ hm2) rfl rfl (by first | exact Nat.le_of_ble_eq_true rfl | (simp [zcat_rf, Value.category]; done)) (by omega) (Nat.le_of_eq (Nat.zero_add _)) (Nat.le_of_eq (Nat.zero_add _)) dX8_readChildNumber_47 rfl (fun v_ w_ sg_ hq_ => ?_)
            obtain ⟨rfl, hu4, rfl, hm4⟩ := hq_
            simp only [h4.1, h4.2] at hm4 ⊢
            refine r_if_eqB (r := 57) dX8_readChildNumber_50 (by decide) rfl (fun c_50 => ?_) (fun c_50 => ?_)
            · refine r_iconst dX8_readChildNumber_57 kc_0 rfl ?_
              refine r_istore_n (ls' := [_, _, _, _, _]) dX8_readChildNumber_58 (Nat.le_of_ble_eq_true rfl) rfl rfl ?_
              refine r_iload_n dX8_readChildNumber_59 rfl rfl ?_
              refine r_if_neN (by omega) (r := 67) dX8_readChildNumber_60 (by decide) rfl (fun c_60 => ?_) (fun c_60 => ?_)
              · exact absurd rfl c_60
              · refine r_iconst dX8_readChildNumber_63 kc_0 rfl ?_
                refine r_goto (r := 71) dX8_readChildNumber_64 (by decide) ?_
                refine r_istore (ls' := [_, _, _, _, _]) dX8_readChildNumber_71 (Nat.le_of_ble_eq_true rfl) rfl rfl ?_
                exact rc_73 E sg d hd tb tx sp nm w0 _ r1 x (some 0) hx h0 true (nI 0) ss hb0 (((hu.tr hu1).tr hu2).tr hu4) hm4
            · exact absurd c_50 (by decide)
          · exact absurd c_37 (by decide)
theorem sp_X8_readChildNumber (E : ZE) (sg : ZM) (d : Nat) (hd : 2 ≤ d) (tb tx sp nm : Nat) (w : ZW) (r : List Nat) (h : TBn w tb tx sp nm r) : CallQ E MX8_readChildNumber [.ref tb] w sg d 1 4 (zqP tb tx sp nm w sg (pCount r)) := by
  obtain ⟨hb0, ss, hm⟩ := h
  refine CallQ.of rfl (by simp [Value.category]) (Nat.le_of_ble_eq_true rfl) ?_
  unfold pCount
  cases e1 : pCh 40 r with
  | none =>
    have h1 := pCh_none e1
    rw [← pc18_none r]
    refine r_aload_n dX8_readChildNumber_0 rfl (zRv_ref _) rfl ?_
    refine r_bipush dX8_readChildNumber_1 kb_40 rfl ?_
    refine r_callV MX8_take 1 [_] lvX8_44 (Or.inl ⟨8, by decide, (by first | (simp only [zKS]; first | assumption | exact TBm.k (by assumption)) | assumption | exact TBm.k (by assumption) | exact zk_nself _ _ _ | (simp [zKS, zNS, *]; done)), rfl⟩) (sp_take E _ sg (d - 1) tb tx sp nm 40 (by decide) r _ hm) rfl rfl (by first | exact Nat.le_of_ble_eq_true rfl | (simp [zcat_rf, Value.category]; done)) (by omega) (Nat.le_of_eq (Nat.zero_add _)) (Nat.le_of_eq (Nat.zero_add _)) dX8_readChildNumber_3 rfl (fun v_ w_ sg_ hq_ => ?_)
    obtain ⟨rfl, hu1, rfl, hm1⟩ := hq_
    simp only [h1.1, h1.2] at hm1 ⊢
    refine r_if_eqB (r := 16) dX8_readChildNumber_6 (by decide) rfl (fun c_6 => ?_) (fun c_6 => ?_)
    · refine r_iconst dX8_readChildNumber_16 kc_m1 rfl ?_
      refine r_istore_n (ls' := [_, _, _, _, _]) dX8_readChildNumber_17 (Nat.le_of_ble_eq_true rfl) rfl rfl ?_
      exact rc_18 E sg d hd tb tx sp nm w _ r none (fun v h => by cases h) ss hb0 hu1 hm1
    · exact absurd c_6 (by decide)
  | some r1 =>
    have h1 := pCh_some e1
    dsimp only
    cases e2 : pDig r1 with
    | none =>
      rw [← pc18_none r1]
      refine r_aload_n dX8_readChildNumber_0 rfl (zRv_ref _) rfl ?_
      refine r_bipush dX8_readChildNumber_1 kb_40 rfl ?_
      refine r_callV MX8_take 1 [_] lvX8_44 (Or.inl ⟨8, by decide, (by first | (simp only [zKS]; first | assumption | exact TBm.k (by assumption)) | assumption | exact TBm.k (by assumption) | exact zk_nself _ _ _ | (simp [zKS, zNS, *]; done)), rfl⟩) (sp_take E _ sg (d - 1) tb tx sp nm 40 (by decide) r _ hm) rfl rfl (by first | exact Nat.le_of_ble_eq_true rfl | (simp [zcat_rf, Value.category]; done)) (by omega) (Nat.le_of_eq (Nat.zero_add _)) (Nat.le_of_eq (Nat.zero_add _)) dX8_readChildNumber_3 rfl (fun v_ w_ sg_ hq_ => ?_)
      obtain ⟨rfl, hu1, rfl, hm1⟩ := hq_
      simp only [h1.1, h1.2] at hm1 ⊢
      refine r_if_eqB (r := 16) dX8_readChildNumber_6 (by decide) rfl (fun c_6 => ?_) (fun c_6 => ?_)
      · exact absurd c_6 (by decide)
      · refine r_aload_n dX8_readChildNumber_9 rfl (zRv_ref _) rfl ?_
        refine r_callV MX8_readDigit 0 [] lvX8_116 (Or.inl ⟨8, by decide, (by first | (simp only [zKS]; first | assumption | exact TBm.k (by assumption)) | assumption | exact TBm.k (by assumption) | exact zk_nself _ _ _ | (simp [zKS, zNS, *]; done)), rfl⟩) (sp_X8_readDigit E _ sg (d - 1) tb tx sp nm r1 _ hm1) rfl rfl (by first | exact Nat.le_of_ble_eq_true rfl | (simp [zcat_rf, Value.category]; done)) (by omega) (Nat.le_of_eq (Nat.zero_add _)) (Nat.le_of_eq (Nat.zero_add _)) dX8_readChildNumber_10 rfl (fun v_ w_ sg_ hq_ => ?_)
        obtain ⟨rfl, hu3, rfl, hm3⟩ := hq_
        simp only [dig0, e2] at hm3 ⊢
        refine r_goto (r := 17) dX8_readChildNumber_13 (by decide) ?_
        refine r_istore_n (ls' := [_, _, _, _, _]) dX8_readChildNumber_17 (Nat.le_of_ble_eq_true rfl) rfl rfl ?_
        exact rc_18 E sg d hd tb tx sp nm w _ r1 none (fun v h => by cases h) ss hb0 (hu1.tr hu3) hm3
    | some q =>
      obtain ⟨x, r2⟩ := q
      have lx := (pDig_len e2).2
      refine r_aload_n dX8_readChildNumber_0 rfl (zRv_ref _) rfl ?_
      refine r_bipush dX8_readChildNumber_1 kb_40 rfl ?_
      refine r_callV MX8_take 1 [_] lvX8_44 (Or.inl ⟨8, by decide, (by first | (simp only [zKS]; first | assumption | exact TBm.k (by assumption)) | assumption | exact TBm.k (by assumption) | exact zk_nself _ _ _ | (simp [zKS, zNS, *]; done)), rfl⟩) (sp_take E _ sg (d - 1) tb tx sp nm 40 (by decide) r _ hm) rfl rfl (by first | exact Nat.le_of_ble_eq_true rfl | (simp [zcat_rf, Value.category]; done)) (by omega) (Nat.le_of_eq (Nat.zero_add _)) (Nat.le_of_eq (Nat.zero_add _)) dX8_readChildNumber_3 rfl (fun v_ w_ sg_ hq_ => ?_)
      obtain ⟨rfl, hu1, rfl, hm1⟩ := hq_
      simp only [h1.1, h1.2] at hm1 ⊢
      refine r_if_eqB (r := 16) dX8_readChildNumber_6 (by decide) rfl (fun c_6 => ?_) (fun c_6 => ?_)
      · exact absurd c_6 (by decide)
      · refine r_aload_n dX8_readChildNumber_9 rfl (zRv_ref _) rfl ?_
        refine r_callV MX8_readDigit 0 [] lvX8_116 (Or.inl ⟨8, by decide, (by first | (simp only [zKS]; first | assumption | exact TBm.k (by assumption)) | assumption | exact TBm.k (by assumption) | exact zk_nself _ _ _ | (simp [zKS, zNS, *]; done)), rfl⟩) (sp_X8_readDigit E _ sg (d - 1) tb tx sp nm r1 _ hm1) rfl rfl (by first | exact Nat.le_of_ble_eq_true rfl | (simp [zcat_rf, Value.category]; done)) (by omega) (Nat.le_of_eq (Nat.zero_add _)) (Nat.le_of_eq (Nat.zero_add _)) dX8_readChildNumber_10 rfl (fun v_ w_ sg_ hq_ => ?_)
        obtain ⟨rfl, hu3, rfl, hm3⟩ := hq_
        simp only [dig0, e2] at hm3 ⊢
        refine r_goto (r := 17) dX8_readChildNumber_13 (by decide) ?_
        refine r_istore_n (ls' := [_, _, _, _, _]) dX8_readChildNumber_17 (Nat.le_of_ble_eq_true rfl) rfl rfl ?_
        exact rc_18 E sg d hd tb tx sp nm w _ r2 (some x) (fun v h => by cases h; exact lx) ss hb0 (hu1.tr hu3) hm3
