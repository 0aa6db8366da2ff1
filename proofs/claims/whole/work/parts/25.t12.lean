/-! ===== compounds ===== -/
def nPS (r : List Nat) : Bool := match r with
  | [] => false
  | c :: _ => isPS c
def nJn (r : List Nat) : Bool := match r with
  | [] => false
  | c :: _ => isJn c
theorem sp_isPS (E : ZE) (w : ZW) (sg : ZM) (d : Nat) (r : List Nat) (hr : ∀ c ∈ r, c < 128) : CallQ E MX8_isPartSign [.int (hd0 r)] w sg d 0 0 (fun v w' sg' => v = some (.int (zb (nPS r))) ∧ w = w' ∧ sg = sg') := by
  cases r with
  | nil =>
    refine CallQ.of rfl (by simp [Value.category]) (Nat.le_of_ble_eq_true rfl) ?_
    refine r_iload_n dX8_isPartSign_0 rfl rfl ?_
    refine r_bipush dX8_isPartSign_1 kb_35 rfl ?_
    refine r_icmp_eq (r := 18) dX8_isPartSign_3 (by decide) rfl (fun c_3 => ?_) (fun c_3 => ?_)
    · exact absurd c_3 (by decide)
    · refine r_iload_n dX8_isPartSign_6 rfl rfl ?_
      refine r_bipush dX8_isPartSign_7 kb_46 rfl ?_
      refine r_icmp_eq (r := 18) dX8_isPartSign_9 (by decide) rfl (fun c_9 => ?_) (fun c_9 => ?_)
      · exact absurd c_9 (by decide)
      · refine r_iload_n dX8_isPartSign_12 rfl rfl ?_
        refine r_bipush dX8_isPartSign_13 kb_58 rfl ?_
        refine r_icmp_ne (r := 22) dX8_isPartSign_15 (by decide) rfl (fun c_15 => ?_) (fun c_15 => ?_)
        · refine r_iconst dX8_isPartSign_22 kc_0 rfl ?_
          refine r_zret .boolean rfl rfl dX8_isPartSign_23 ?_
          exact ⟨rfl, rfl, rfl⟩
        · exact absurd c_15 (by decide)
  | cons c r =>
    have hc := hr c List.mem_cons_self
    refine CallQ.of rfl (by simp [Value.category]) (Nat.le_of_ble_eq_true rfl) ?_
    refine r_iload_n dX8_isPartSign_0 rfl rfl ?_
    refine r_bipush dX8_isPartSign_1 kb_35 rfl ?_
    refine r_icmp_eqN (by omega) (by omega) (r := 18) dX8_isPartSign_3 (by decide) rfl (fun c_3 => ?_) (fun c_3 => ?_)
    · refine r_iconst dX8_isPartSign_18 kc_1 rfl ?_
      refine r_goto (r := 23) dX8_isPartSign_19 (by decide) ?_
      refine r_zret .boolean rfl rfl dX8_isPartSign_23 ?_
      exact ⟨by simp [nPS, isPS, zb, *], rfl, rfl⟩
    · refine r_iload_n dX8_isPartSign_6 rfl rfl ?_
      refine r_bipush dX8_isPartSign_7 kb_46 rfl ?_
      refine r_icmp_eqN (by omega) (by omega) (r := 18) dX8_isPartSign_9 (by decide) rfl (fun c_9 => ?_) (fun c_9 => ?_)
      · refine r_iconst dX8_isPartSign_18 kc_1 rfl ?_
        refine r_goto (r := 23) dX8_isPartSign_19 (by decide) ?_
        refine r_zret .boolean rfl rfl dX8_isPartSign_23 ?_
        exact ⟨by simp [nPS, isPS, zb, *], rfl, rfl⟩
      · refine r_iload_n dX8_isPartSign_12 rfl rfl ?_
        refine r_bipush dX8_isPartSign_13 kb_58 rfl ?_
        refine r_icmp_neN (by omega) (by omega) (r := 22) dX8_isPartSign_15 (by decide) rfl (fun c_15 => ?_) (fun c_15 => ?_)
        · refine r_iconst dX8_isPartSign_22 kc_0 rfl ?_
          refine r_zret .boolean rfl rfl dX8_isPartSign_23 ?_
          exact ⟨by simp [nPS, isPS, zb, *], rfl, rfl⟩
        · refine r_iconst dX8_isPartSign_18 kc_1 rfl ?_
          refine r_goto (r := 23) dX8_isPartSign_19 (by decide) ?_
          refine r_zret .boolean rfl rfl dX8_isPartSign_23 ?_
          exact ⟨by simp [nPS, isPS, zb, *], rfl, rfl⟩
theorem sp_isJn (E : ZE) (w : ZW) (sg : ZM) (d : Nat) (r : List Nat) (hr : ∀ c ∈ r, c < 128) : CallQ E MX8_isJoin [.int (hd0 r)] w sg d 0 0 (fun v w' sg' => v = some (.int (zb (nJn r))) ∧ w = w' ∧ sg = sg') := by
  cases r with
  | nil =>
    refine CallQ.of rfl (by simp [Value.category]) (Nat.le_of_ble_eq_true rfl) ?_
    refine r_iload_n dX8_isJoin_0 rfl rfl ?_
    refine r_bipush dX8_isJoin_1 kb_32 rfl ?_
    refine r_icmp_eq (r := 24) dX8_isJoin_3 (by decide) rfl (fun c_3 => ?_) (fun c_3 => ?_)
    · exact absurd c_3 (by decide)
    · refine r_iload_n dX8_isJoin_6 rfl rfl ?_
      refine r_bipush dX8_isJoin_7 kb_62 rfl ?_
      refine r_icmp_eq (r := 24) dX8_isJoin_9 (by decide) rfl (fun c_9 => ?_) (fun c_9 => ?_)
      · exact absurd c_9 (by decide)
      · refine r_iload_n dX8_isJoin_12 rfl rfl ?_
        refine r_bipush dX8_isJoin_13 kb_43 rfl ?_
        refine r_icmp_eq (r := 24) dX8_isJoin_15 (by decide) rfl (fun c_15 => ?_) (fun c_15 => ?_)
        · exact absurd c_15 (by decide)
        · refine r_iload_n dX8_isJoin_18 rfl rfl ?_
          refine r_bipush dX8_isJoin_19 kb_126 rfl ?_
          refine r_icmp_ne (r := 28) dX8_isJoin_21 (by decide) rfl (fun c_21 => ?_) (fun c_21 => ?_)
          · refine r_iconst dX8_isJoin_28 kc_0 rfl ?_
            refine r_zret .boolean rfl rfl dX8_isJoin_29 ?_
            exact ⟨rfl, rfl, rfl⟩
          · exact absurd c_21 (by decide)
  | cons c r =>
    have hc := hr c List.mem_cons_self
    refine CallQ.of rfl (by simp [Value.category]) (Nat.le_of_ble_eq_true rfl) ?_
    refine r_iload_n dX8_isJoin_0 rfl rfl ?_
    refine r_bipush dX8_isJoin_1 kb_32 rfl ?_
    refine r_icmp_eqN (by omega) (by omega) (r := 24) dX8_isJoin_3 (by decide) rfl (fun c_3 => ?_) (fun c_3 => ?_)
    · refine r_iconst dX8_isJoin_24 kc_1 rfl ?_
      refine r_goto (r := 29) dX8_isJoin_25 (by decide) ?_
      refine r_zret .boolean rfl rfl dX8_isJoin_29 ?_
      exact ⟨by simp [nJn, isJn, zb, *], rfl, rfl⟩
    · refine r_iload_n dX8_isJoin_6 rfl rfl ?_
      refine r_bipush dX8_isJoin_7 kb_62 rfl ?_
      refine r_icmp_eqN (by omega) (by omega) (r := 24) dX8_isJoin_9 (by decide) rfl (fun c_9 => ?_) (fun c_9 => ?_)
      · refine r_iconst dX8_isJoin_24 kc_1 rfl ?_
        refine r_goto (r := 29) dX8_isJoin_25 (by decide) ?_
        refine r_zret .boolean rfl rfl dX8_isJoin_29 ?_
        exact ⟨by simp [nJn, isJn, zb, *], rfl, rfl⟩
      · refine r_iload_n dX8_isJoin_12 rfl rfl ?_
        refine r_bipush dX8_isJoin_13 kb_43 rfl ?_
        refine r_icmp_eqN (by omega) (by omega) (r := 24) dX8_isJoin_15 (by decide) rfl (fun c_15 => ?_) (fun c_15 => ?_)
        · refine r_iconst dX8_isJoin_24 kc_1 rfl ?_
          refine r_goto (r := 29) dX8_isJoin_25 (by decide) ?_
          refine r_zret .boolean rfl rfl dX8_isJoin_29 ?_
          exact ⟨by simp [nJn, isJn, zb, *], rfl, rfl⟩
        · refine r_iload_n dX8_isJoin_18 rfl rfl ?_
          refine r_bipush dX8_isJoin_19 kb_126 rfl ?_
          refine r_icmp_neN (by omega) (by omega) (r := 28) dX8_isJoin_21 (by decide) rfl (fun c_21 => ?_) (fun c_21 => ?_)
          · refine r_iconst dX8_isJoin_28 kc_0 rfl ?_
            refine r_zret .boolean rfl rfl dX8_isJoin_29 ?_
            exact ⟨by simp [nJn, isJn, zb, *], rfl, rfl⟩
          · refine r_iconst dX8_isJoin_24 kc_1 rfl ?_
            refine r_goto (r := 29) dX8_isJoin_25 (by decide) ?_
            refine r_zret .boolean rfl rfl dX8_isJoin_29 ?_
            exact ⟨by simp [nJn, isJn, zb, *], rfl, rfl⟩
/-- what a reader of a compound answers -/
def zqC (tb tx sp nm : Nat) (w : ZW) (sg : ZM) (o : Option (PComp × List Nat)) : ZQ := fun v w' sg' => sg = sg' ∧ TBv zno tb sp nm w w' ∧ match o with
  | none => v = some .null ∧ TBb w' tb tx sp nm ∧ TBx w' tb tx sp nm
  | some (c, r1) => v = some (.ref (zsz w)) ∧ isComp w' (zsz w) (zsz w') (zsz w) c ∧ TBn w' tb tx sp nm r1
def pOutR (t : Nat) (x : Option (List PPart × List PBare × Bool × List Nat)) : Option (PComp × List Nat) := match x with
  | none => none
  | some (ps, es, o2, r2) => if o2 = true then some ((t, ps, es), r2) else none
theorem pCompG_eq (ex : Option (List Nat → Option (PBare × List Nat))) (r : List Nat) : pCompG ex r = pOutR (pHead r).1 (pOutL ex 4 [] [] (pHead r).2.1 (pHead r).2.2) := rfl
/-- the contract of readPart that the loop asks for -/
def CPart (E : ZE) (sg : ZM) (d tb tx sp nm cp t : Nat) (b : Bool) (kc ks : Nat) (ex : Option (List Nat → Option (PBare × List Nat))) : Prop := ∀ (w : ZW) (c : Nat) (r : List Nat) (ps : List PPart) (es : List PBare), isPS c = true → isComp w cp (zsz w) cp (t, ps, es) → TBn w tb tx sp nm (c :: r) → CallQ E MX8_readPart [.ref tb, .ref cp, .int (zb b)] w sg d kc ks (zqQ tb tx sp nm w sg cp t (pPart ex c r ps es))
theorem rcomp_end (E : ZE) (sg : ZM) (d : Nat) (tb tx sp nm t : Nat) (w0 w : ZW) (b : Bool) (g : Int32) (n a a' : Nat) (o : Bool) (ps : List PPart) (es : List PBare) (r : List Nat) (hv : TBv zno tb sp nm w0 w) (hc : isComp w (zsz w0) (zsz w) (zsz w0) (t, ps, es)) (hn : TBn w tb tx sp nm r) : RW E MX8_readCompound 98 [some (.ref tb), some (.int (zb b)), some (.int g), some (.int (zb o)), some (.ref (zsz w0)), some (.int (nI n))] [] w sg d a a' (PN E (zqC tb tx sp nm w0 sg (pOutR t (some (ps, es, o, r))))) := by
  cases o with
  | true =>
    refine r_iload_n dX8_readCompound_98 rfl rfl ?_
    refine r_if_eqB (r := 107) dX8_readCompound_99 (by decide) rfl (fun c_99 => ?_) (fun c_99 => ?_)
    · exact absurd c_99 (by simp)
    · refine r_aload dX8_readCompound_102 rfl (by first | exact zRv_ref _ | exact zRv_null | exact zRv_rf _ | assumption) rfl ?_
      refine r_goto (r := 108) dX8_readCompound_104 (by decide) ?_
      refine r_aret rfl (by first | exact Or.inl ⟨_, rfl⟩ | exact Or.inr ⟨_, rfl⟩) (by first | exact zRv_ref _ | exact zRv_null | exact zRv_rf _ | assumption) dX8_readCompound_108 ?_
      exact ⟨rfl, hv, rfl, hc, hn⟩
  | false =>
    refine r_iload_n dX8_readCompound_98 rfl rfl ?_
    refine r_if_eqB (r := 107) dX8_readCompound_99 (by decide) rfl (fun c_99 => ?_) (fun c_99 => ?_)
    · refine r_aconst_null dX8_readCompound_107 rfl ?_
      refine r_aret rfl (by first | exact Or.inl ⟨_, rfl⟩ | exact Or.inr ⟨_, rfl⟩) (by first | exact zRv_ref _ | exact zRv_null | exact zRv_rf _ | assumption) dX8_readCompound_108 ?_
      exact ⟨rfl, hv, rfl, hn.x⟩
    · exact absurd c_99 (by simp)
theorem rcomp_loop (E : ZE) (sg : ZM) (d : Nat) (hd : 5 ≤ d) (tb tx sp nm t : Nat) (w0 : ZW) (b : Bool) (g : Int32) (kc ks : Nat) (ex : Option (List Nat → Option (PBare × List Nat))) (hp : CPart E sg (d - 1) tb tx sp nm (zsz w0) t b kc ks ex) : ∀ (k : Nat) (w : ZW) (o : Bool) (ps : List PPart) (es : List PBare) (r : List Nat), k ≤ 4 → TBv zno tb sp nm w0 w → isComp w (zsz w0) (zsz w) (zsz w0) (t, ps, es) → TBn w tb tx sp nm r →
    RW E MX8_readCompound 62 [some (.ref tb), some (.int (zb b)), some (.int g), some (.int (zb o)), some (.ref (zsz w0)), some (.int (nI (4 - k)))] [] w sg d (k * kc) (k * ks) (PN E (zqC tb tx sp nm w0 sg (pOutR t (pOutL ex k ps es o r))))
  | 0, w, o, ps, es, r, _, hv, hc, hn => by
    refine r_iload dX8_readCompound_62 rfl rfl ?_
    refine r_iconst dX8_readCompound_64 kc_4 rfl ?_
    refine r_icmp_geN (by omega) (by omega) (r := 98) dX8_readCompound_65 (by decide) rfl (fun c_65 => ?_) (fun c_65 => ?_)
    · exact rcomp_end E sg d tb tx sp nm t w0 w b g 4 _ _ o ps es r hv hc hn
    · exact absurd c_65 (by omega)
  | k + 1, w, o, ps, es, r, hk, hv, hc, hn => by
    obtain ⟨hb0, ss, hm⟩ := hn
    cases hS : nPS r with
    | false =>
      have e9 : pOutL ex (k + 1) ps es o r = some (ps, es, o, r) := by
        cases r with
        | nil => rfl
        | cons c r => simp only [nPS] at hS; simp [pOutL, hS]
      rw [e9]
      refine r_iload dX8_readCompound_62 rfl rfl ?_
      refine r_iconst dX8_readCompound_64 kc_4 rfl ?_
      refine r_icmp_geN (by omega) (by omega) (r := 98) dX8_readCompound_65 (by decide) rfl (fun c_65 => ?_) (fun c_65 => ?_)
      · exact absurd c_65 (by omega)
      · refine r_aload_n dX8_readCompound_68 rfl (zRv_ref _) rfl ?_
        refine r_callV MX8_peek 0 [] lvX8_63 (Or.inl ⟨8, by decide, (by first | (simp only [zKS]; first | assumption | exact TBm.k (by assumption)) | assumption | exact TBm.k (by assumption) | exact zk_nself _ _ _ | (simp [zKS, zNS, *]; done)), rfl⟩) (sp_peek E w sg (d - 1) tb tx sp nm r ss hm) rfl rfl (by first | exact Nat.le_of_ble_eq_true rfl | (simp [zcat_rf, Value.category]; done)) (by omega) (Nat.le_of_eq (Nat.zero_add _)) (Nat.le_of_eq (Nat.zero_add _)) dX8_readCompound_69 rfl (fun v_ w_ sg_ hq_ => ?_)
        obtain ⟨rfl, rfl, rfl⟩ := hq_
        refine r_callS MX8_isPartSign 1 [_] lsX8_88 (sp_isPS E w sg (d - 1) r hm.cs) rfl rfl (by first | exact Nat.le_of_ble_eq_true rfl | (simp [zcat_rf, Value.category]; done)) (by omega) (Nat.le_of_eq (Nat.zero_add _)) (Nat.le_of_eq (Nat.zero_add _)) dX8_readCompound_72 rfl (fun v_ w_ sg_ hq_ => ?_)
        obtain ⟨rfl, rfl, rfl⟩ := hq_
        refine r_if_eqB (r := 98) dX8_readCompound_75 (by decide) rfl (fun c_75 => ?_) (fun c_75 => ?_)
        · exact rcomp_end E sg d tb tx sp nm t w0 w b g _ _ _ o ps es r hv hc ⟨hb0, ss, hm⟩
        · exact absurd c_75 (by rw [hS]; decide)
    | true =>
      cases r with
      | nil => cases hS
      | cons c r1 =>
        have hS2 : isPS c = true := hS
        cases hP : pPart ex c r1 ps es with
        | none =>
          have e9 : pOutL ex (k + 1) ps es o (c :: r1) = none := by simp [pOutL, hS2, hP]
          rw [e9]
          refine r_iload dX8_readCompound_62 rfl rfl ?_
          refine r_iconst dX8_readCompound_64 kc_4 rfl ?_
          refine r_icmp_geN (by omega) (by omega) (r := 98) dX8_readCompound_65 (by decide) rfl (fun c_65 => ?_) (fun c_65 => ?_)
          · exact absurd c_65 (by omega)
          · refine r_aload_n dX8_readCompound_68 rfl (zRv_ref _) rfl ?_
            refine r_callV MX8_peek 0 [] lvX8_63 (Or.inl ⟨8, by decide, (by first | (simp only [zKS]; first | assumption | exact TBm.k (by assumption)) | assumption | exact TBm.k (by assumption) | exact zk_nself _ _ _ | (simp [zKS, zNS, *]; done)), rfl⟩) (sp_peek E w sg (d - 1) tb tx sp nm (c :: r1) ss hm) rfl rfl (by first | exact Nat.le_of_ble_eq_true rfl | (simp [zcat_rf, Value.category]; done)) (by omega) (Nat.le_of_eq (Nat.zero_add _)) (Nat.le_of_eq (Nat.zero_add _)) dX8_readCompound_69 rfl (fun v_ w_ sg_ hq_ => ?_)
            obtain ⟨rfl, rfl, rfl⟩ := hq_
            refine r_callS MX8_isPartSign 1 [_] lsX8_88 (sp_isPS E w sg (d - 1) (c :: r1) hm.cs) rfl rfl (by first | exact Nat.le_of_ble_eq_true rfl | (simp [zcat_rf, Value.category]; done)) (by omega) (Nat.le_of_eq (Nat.zero_add _)) (Nat.le_of_eq (Nat.zero_add _)) dX8_readCompound_72 rfl (fun v_ w_ sg_ hq_ => ?_)
            obtain ⟨rfl, rfl, rfl⟩ := hq_
            refine r_if_eqB (r := 98) dX8_readCompound_75 (by decide) rfl (fun c_75 => ?_) (fun c_75 => ?_)
            · exact absurd c_75 (by rw [hS]; decide)
            · refine r_aload_n dX8_readCompound_78 rfl (zRv_ref _) rfl ?_
              refine r_aload dX8_readCompound_79 rfl (by first | exact zRv_ref _ | exact zRv_null | exact zRv_rf _ | assumption) rfl ?_
              refine r_iload_n dX8_readCompound_81 rfl rfl ?_
              refine r_callV MX8_readPart 2 (a := k * kc) (a' := k * ks) [_, _] lvX8_91 (Or.inl ⟨8, by decide, (by first | (simp only [zKS]; first | assumption | exact TBm.k (by assumption)) | assumption | exact TBm.k (by assumption) | exact zk_nself _ _ _ | (simp [zKS, zNS, *]; done)), rfl⟩) (hp w c r1 ps es hS2 hc ⟨hb0, ss, hm⟩) rfl rfl (by first | exact Nat.le_of_ble_eq_true rfl | (simp [zcat_rf, Value.category]; done)) (by omega) (by first | omega | exact Nat.le_of_eq ((Nat.add_comm _ _).trans (Nat.succ_mul _ _).symm)) (by first | omega | exact Nat.le_of_eq ((Nat.add_comm _ _).trans (Nat.succ_mul _ _).symm)) dX8_readCompound_82 rfl (fun v_ w_ sg_ hq_ => ?_)
              rw [hP] at hq_
              obtain ⟨rfl, hv2, rfl, hb2, hx2⟩ := hq_
              refine r_if_neB (r := 90) dX8_readCompound_85 (by decide) rfl (fun c_85 => ?_) (fun c_85 => ?_)
              · exact absurd c_85 (by simp)
              · refine r_aconst_null dX8_readCompound_88 rfl ?_
                refine r_aret rfl (by first | exact Or.inl ⟨_, rfl⟩ | exact Or.inr ⟨_, rfl⟩) (by first | exact zRv_ref _ | exact zRv_null | exact zRv_rf _ | assumption) dX8_readCompound_89 ?_
                exact ⟨rfl, hv.tr hv2 (fun a ha h => absurd ha (by rw [h]; exact Nat.lt_irrefl _)), rfl, hb2, hx2⟩
        | some q =>
          obtain ⟨ps2, es2, r2⟩ := q
          have e9 : pOutL ex (k + 1) ps es o (c :: r1) = pOutL ex k ps2 es2 true r2 := by simp [pOutL, hS2, hP]
          rw [e9]
          refine r_iload dX8_readCompound_62 rfl rfl ?_
          refine r_iconst dX8_readCompound_64 kc_4 rfl ?_
          refine r_icmp_geN (by omega) (by omega) (r := 98) dX8_readCompound_65 (by decide) rfl (fun c_65 => ?_) (fun c_65 => ?_)
          · exact absurd c_65 (by omega)
          · refine r_aload_n dX8_readCompound_68 rfl (zRv_ref _) rfl ?_
            refine r_callV MX8_peek 0 [] lvX8_63 (Or.inl ⟨8, by decide, (by first | (simp only [zKS]; first | assumption | exact TBm.k (by assumption)) | assumption | exact TBm.k (by assumption) | exact zk_nself _ _ _ | (simp [zKS, zNS, *]; done)), rfl⟩) (sp_peek E w sg (d - 1) tb tx sp nm (c :: r1) ss hm) rfl rfl (by first | exact Nat.le_of_ble_eq_true rfl | (simp [zcat_rf, Value.category]; done)) (by omega) (Nat.le_of_eq (Nat.zero_add _)) (Nat.le_of_eq (Nat.zero_add _)) dX8_readCompound_69 rfl (fun v_ w_ sg_ hq_ => ?_)
            obtain ⟨rfl, rfl, rfl⟩ := hq_
            refine r_callS MX8_isPartSign 1 [_] lsX8_88 (sp_isPS E w sg (d - 1) (c :: r1) hm.cs) rfl rfl (by first | exact Nat.le_of_ble_eq_true rfl | (simp [zcat_rf, Value.category]; done)) (by omega) (Nat.le_of_eq (Nat.zero_add _)) (Nat.le_of_eq (Nat.zero_add _)) dX8_readCompound_72 rfl (fun v_ w_ sg_ hq_ => ?_)
            obtain ⟨rfl, rfl, rfl⟩ := hq_
            refine r_if_eqB (r := 98) dX8_readCompound_75 (by decide) rfl (fun c_75 => ?_) (fun c_75 => ?_)
            · exact absurd c_75 (by rw [hS]; decide)
            · refine r_aload_n dX8_readCompound_78 rfl (zRv_ref _) rfl ?_
              refine r_aload dX8_readCompound_79 rfl (by first | exact zRv_ref _ | exact zRv_null | exact zRv_rf _ | assumption) rfl ?_
              refine r_iload_n dX8_readCompound_81 rfl rfl ?_
              refine r_callV MX8_readPart 2 (a := k * kc) (a' := k * ks) [_, _] lvX8_91 (Or.inl ⟨8, by decide, (by first | (simp only [zKS]; first | assumption | exact TBm.k (by assumption)) | assumption | exact TBm.k (by assumption) | exact zk_nself _ _ _ | (simp [zKS, zNS, *]; done)), rfl⟩) (hp w c r1 ps es hS2 hc ⟨hb0, ss, hm⟩) rfl rfl (by first | exact Nat.le_of_ble_eq_true rfl | (simp [zcat_rf, Value.category]; done)) (by omega) (by first | omega | exact Nat.le_of_eq ((Nat.add_comm _ _).trans (Nat.succ_mul _ _).symm)) (by first | omega | exact Nat.le_of_eq ((Nat.add_comm _ _).trans (Nat.succ_mul _ _).symm)) dX8_readCompound_82 rfl (fun v_ w_ sg_ hq_ => ?_)
              rw [hP] at hq_
              obtain ⟨rfl, hv2, rfl, hc2, hn2⟩ := hq_
              refine r_if_neB (r := 90) dX8_readCompound_85 (by decide) rfl (fun c_85 => ?_) (fun c_85 => ?_)
              · refine r_iconst dX8_readCompound_90 kc_1 rfl ?_
                refine r_istore_n (ls' := [_, _, _, _, _, _]) dX8_readCompound_91 (Nat.le_of_ble_eq_true rfl) rfl rfl ?_
                refine r_iinc (ls' := [_, _, _, _, _, _]) dX8_readCompound_92 (Nat.le_of_ble_eq_true rfl) rfl (zinc1 _) rfl rfl ?_
                refine r_goto (r := 62) dX8_readCompound_95 (by decide) ?_
                rw [show 4 - (k + 1) + 1 = 4 - k by omega]
                exact rcomp_loop E sg d hd tb tx sp nm t w0 b g kc ks ex hp k _ true ps2 es2 r2 (by omega) (hv.tr hv2 (fun a ha h => absurd ha (by rw [h]; exact Nat.lt_irrefl _))) hc2 hn2
              · exact absurd c_85 (by simp)
