/-! ===== a compound is made and read ===== -/
def mkComp (w : ZW) (a t : Nat) : ZW := zsr (zsi (zsi (zsr (zsr (zsi (znew w 1 0) 100 a (nI t)) 101 a none) 102 a none) 103 a (nI (wTag t))) 104 a (nI 0)) 105 a none
theorem mkComp_eq {w : ZW} {t a b : Nat} (ha : a = zsz w) (h : b ≠ a) : zeq w (mkComp w a t) b := ((((((zeq.nw (ha ▸ h)).tr (zeq.si h)).tr (zeq.sr h)).tr (zeq.sr h)).tr (zeq.si h)).tr (zeq.si h)).tr (zeq.sr h)
theorem mkComp_ok {tb tx sp nm t a : Nat} {w : ZW} {r : List Nat} (ha : a = zsz w) (h : TBn w tb tx sp nm r) : zsz (mkComp w a t) = a + 1 ∧ TBv zno tb sp nm w (mkComp w a t) ∧ isComp (mkComp w a t) a (a + 1) a (t, [], []) ∧ TBn (mkComp w a t) tb tx sp nm r := by
  subst ha
  have e : ∀ b, b ≠ zsz w → zeq w (mkComp w (zsz w) t) b := fun b hb => mkComp_eq rfl hb
  refine ⟨rfl, TBv.new h.1.1 (Nat.le_succ _) e, ⟨Nat.le_refl _, Nat.lt_succ_self _, ?_, ?_, ?_, ?_, ?_, by unfold mkComp; simp [zGS, zNS], by unfold mkComp; simp [zGS, zNS]⟩, h.new (Nat.le_succ _) e⟩
  · unfold mkComp; simp [zKS, zNS]
  · unfold mkComp; simp [zGS, zNS]
  · show zr (mkComp w (zsz w) t) 101 (zsz w) = none
    unfold mkComp; simp [zGS, zNS]
  · show zr (mkComp w (zsz w) t) 102 (zsz w) = none
    unfold mkComp; simp [zGS, zNS]
  · unfold mkComp; simp [zGS, zNS, wComp, wParts, wBares]
theorem rcomp_38 (E : ZE) (sg : ZM) (d : Nat) (hd : 5 ≤ d) (tb tx sp nm t : Nat) (w0 w : ZW) (b : Bool) (r0 : List Nat) (hr : ∀ c ∈ r0, c < 128) (ht : t < 128) (hs : (isL r0 = true ∧ hd0 r0 = nI t) ∨ (isL r0 = false ∧ t = 0)) (kc ks : Nat) (ex : Option (List Nat → Option (PBare × List Nat))) (hp : CPart E sg (d - 1) tb tx sp nm (zsz w0) t b kc ks ex) (o : Bool) (r1 : List Nat) (hz : zsz w0 = zsz w) (hv : TBv zno tb sp nm w0 w) (hn : TBn w tb tx sp nm r1) : RW E MX8_readCompound 38 [some (.ref tb), some (.int (zb b)), some (.int (hd0 r0)), some (.int (zb o)), none, none] [] w sg d (1 + 4 * kc) (6 + 4 * ks) (PN E (zqC tb tx sp nm w0 sg (pOutR t (pOutL ex 4 [] [] o r1)))) := by
  have hmk := hn.2.choose_spec
  obtain ⟨k1, k2, k3, k4⟩ := mkComp_ok (t := t) hz hn
  have k5 : isComp (mkComp w (zsz w0) t) (zsz w0) (zsz (mkComp w (zsz w0) t)) (zsz w0) (t, [], []) := by rw [k1]; exact k3
  have hv2 := hv.tr k2 (fun _ _ h => h)
  rcases hs with ⟨s1, s2⟩ | ⟨s1, s2⟩
  · skip
    refine r_new (nc' := 4 * kc) (ns' := 4 * ks) 0 lnX8_59 (Nat.le_refl _) (Nat.le_refl _) dX8_readCompound_38 rfl ?_
    refine r_dup dX8_readCompound_41 (by first | rfl | exact zcat_rf _) rfl ?_
    refine r_iload_n dX8_readCompound_42 rfl rfl ?_
    refine r_callN MX9_isLetter 1 "StyleDesk" [_] (fun s h9 => h9.2.2.1) lwX8_82 zy_X9_isLetter (Nat.le_of_ble_eq_true rfl) (sp_isLetter E _ sg (d - 1) r0 hr) rfl rfl (by first | exact Nat.le_of_ble_eq_true rfl | (simp [zcat_rf, Value.category]; done)) (by omega) (Nat.le_of_eq (Nat.zero_add _)) (Nat.le_of_eq (Nat.zero_add _)) dX8_readCompound_43 rfl (fun v_ w_ sg_ hq_ => ?_)
    obtain ⟨rfl, rfl, rfl⟩ := hq_
    refine r_if_eqB (r := 53) dX8_readCompound_46 (by decide) rfl (fun c_46 => ?_) (fun c_46 => ?_)
    · exact absurd c_46 (by simp [s1])
    · refine r_iload_n dX8_readCompound_49 rfl rfl ?_
      refine r_goto (r := 54) dX8_readCompound_50 (by decide) ?_
      rw [s2]
      refine r_callI MX0_init 1 [_] liX8_85 (sp_X0_init E _ sg (d - 1) (by omega) _ t ht (zk_nself _ _ _)) rfl rfl (by first | exact Nat.le_of_ble_eq_true rfl | (simp [zcat_rf, Value.category]; done)) (by omega) (Nat.le_of_eq (Nat.zero_add _)) (Nat.le_of_eq (Nat.zero_add _)) dX8_readCompound_54 rfl (fun v_ w_ sg_ hq_ => ?_)
      obtain ⟨rfl, rfl, rfl⟩ := hq_
      refine r_astore (ls' := [_, _, _, _, _, _]) dX8_readCompound_57 (Nat.le_of_ble_eq_true rfl) (zRv_ref _) rfl rfl ?_
      refine r_iconst dX8_readCompound_59 kc_0 rfl ?_
      refine r_istore (ls' := [_, _, _, _, _, _]) dX8_readCompound_60 (Nat.le_of_ble_eq_true rfl) rfl rfl ?_
      rw [← hz]
      exact rcomp_loop E sg d hd tb tx sp nm t w0 b _ kc ks ex hp 4 (mkComp w (zsz w0) t) o [] [] r1 (Nat.le_refl _) hv2 k5 k4
  · subst s2
    refine r_new (nc' := 4 * kc) (ns' := 4 * ks) 0 lnX8_59 (Nat.le_refl _) (Nat.le_refl _) dX8_readCompound_38 rfl ?_
    refine r_dup dX8_readCompound_41 (by first | rfl | exact zcat_rf _) rfl ?_
    refine r_iload_n dX8_readCompound_42 rfl rfl ?_
    refine r_callN MX9_isLetter 1 "StyleDesk" [_] (fun s h9 => h9.2.2.1) lwX8_82 zy_X9_isLetter (Nat.le_of_ble_eq_true rfl) (sp_isLetter E _ sg (d - 1) r0 hr) rfl rfl (by first | exact Nat.le_of_ble_eq_true rfl | (simp [zcat_rf, Value.category]; done)) (by omega) (Nat.le_of_eq (Nat.zero_add _)) (Nat.le_of_eq (Nat.zero_add _)) dX8_readCompound_43 rfl (fun v_ w_ sg_ hq_ => ?_)
    obtain ⟨rfl, rfl, rfl⟩ := hq_
    refine r_if_eqB (r := 53) dX8_readCompound_46 (by decide) rfl (fun c_46 => ?_) (fun c_46 => ?_)
    · refine r_iconst dX8_readCompound_53 kc_0 rfl ?_
      refine r_callI MX0_init 1 [_] liX8_85 (sp_X0_init E _ sg (d - 1) (by omega) _ 0 ht (zk_nself _ _ _)) rfl rfl (by first | exact Nat.le_of_ble_eq_true rfl | (simp [zcat_rf, Value.category]; done)) (by omega) (Nat.le_of_eq (Nat.zero_add _)) (Nat.le_of_eq (Nat.zero_add _)) dX8_readCompound_54 rfl (fun v_ w_ sg_ hq_ => ?_)
      obtain ⟨rfl, rfl, rfl⟩ := hq_
      refine r_astore (ls' := [_, _, _, _, _, _]) dX8_readCompound_57 (Nat.le_of_ble_eq_true rfl) (zRv_ref _) rfl rfl ?_
      refine r_iconst dX8_readCompound_59 kc_0 rfl ?_
      refine r_istore (ls' := [_, _, _, _, _, _]) dX8_readCompound_60 (Nat.le_of_ble_eq_true rfl) rfl rfl ?_
      rw [← hz]
      exact rcomp_loop E sg d hd tb tx sp nm 0 w0 b _ kc ks ex hp 4 (mkComp w (zsz w0) 0) o [] [] r1 (Nat.le_refl _) hv2 k5 k4
    · exact absurd c_46 (by simp [s1])
theorem sp_compG (E : ZE) (sg : ZM) (d : Nat) (hd : 5 ≤ d) (tb tx sp nm : Nat) (w : ZW) (b : Bool) (kc ks : Nat) (ex : Option (List Nat → Option (PBare × List Nat))) (hp : ∀ t, CPart E sg (d - 1) tb tx sp nm (zsz w) t b kc ks ex) (r : List Nat) (hn : TBn w tb tx sp nm r) : CallQ E MX8_readCompound [.ref tb, .int (zb b)] w sg d (1 + 4 * kc) (6 + 4 * ks) (zqC tb tx sp nm w sg (pCompG ex r)) := by
  rw [pCompG_eq]
  have hn0 := hn
  obtain ⟨hb0, ss, hm⟩ := hn
  have hcs := hm.cs
  refine CallQ.of rfl (by simp [Value.category]) (Nat.le_of_ble_eq_true rfl) ?_
  cases r with
  | nil =>
    refine r_aload_n dX8_readCompound_0 rfl (zRv_ref _) rfl ?_
    refine r_callV MX8_peek 0 [] lvX8_63 (Or.inl ⟨8, by decide, (by first | (simp only [zKS]; first | assumption | exact TBm.k (by assumption)) | assumption | exact TBm.k (by assumption) | exact zk_nself _ _ _ | (simp [zKS, zNS, *]; done)), rfl⟩) (sp_peek E w sg (d - 1) tb tx sp nm [] ss hm) rfl rfl (by first | exact Nat.le_of_ble_eq_true rfl | (simp [zcat_rf, Value.category]; done)) (by omega) (Nat.le_of_eq (Nat.zero_add _)) (Nat.le_of_eq (Nat.zero_add _)) dX8_readCompound_1 rfl (fun v_ w_ sg_ hq_ => ?_)
    obtain ⟨rfl, rfl, rfl⟩ := hq_
    refine r_istore_n (ls' := [_, _, _, _, _, _]) dX8_readCompound_4 (Nat.le_of_ble_eq_true rfl) rfl rfl ?_
    refine r_iload_n dX8_readCompound_5 rfl rfl ?_
    refine r_bipush dX8_readCompound_6 kb_42 rfl ?_
    refine r_icmp_eq (r := 18) dX8_readCompound_8 (by decide) rfl (fun c_8 => ?_) (fun c_8 => ?_)
    · exact absurd c_8 (by decide)
    · refine r_iload_n dX8_readCompound_11 rfl rfl ?_
      refine r_callN MX9_isLetter 1 "StyleDesk" [_] (fun s h9 => h9.2.2.1) lwX8_82 zy_X9_isLetter (Nat.le_of_ble_eq_true rfl) (sp_isLetter E w sg (d - 1) [] hcs) rfl rfl (by first | exact Nat.le_of_ble_eq_true rfl | (simp [zcat_rf, Value.category]; done)) (by omega) (Nat.le_of_eq (Nat.zero_add _)) (Nat.le_of_eq (Nat.zero_add _)) dX8_readCompound_12 rfl (fun v_ w_ sg_ hq_ => ?_)
      obtain ⟨rfl, rfl, rfl⟩ := hq_
      refine r_if_eqB (r := 22) dX8_readCompound_15 (by decide) rfl (fun c_15 => ?_) (fun c_15 => ?_)
      · refine r_iconst dX8_readCompound_22 kc_0 rfl ?_
        refine r_istore_n (ls' := [_, _, _, _, _, _]) dX8_readCompound_23 (Nat.le_of_ble_eq_true rfl) rfl rfl ?_
        refine r_iload_n dX8_readCompound_24 rfl rfl ?_
        refine r_if_eqN (by omega) (r := 38) dX8_readCompound_25 (by decide) rfl (fun c_25 => ?_) (fun c_25 => ?_)
        · exact rcomp_38 E sg d hd tb tx sp nm 0 w w b [] hcs (by decide) (Or.inr ⟨rfl, rfl⟩) kc ks ex (hp 0) false [] rfl TBv.rf hn0
        · exact absurd rfl c_25
      · exact absurd c_15 (by decide)
  | cons c r1 =>
    have hc := hcs c List.mem_cons_self
    obtain ⟨h1, ⟨a, h2⟩, h3⟩ := hm
    have hm : TBm w tb tx sp nm (c :: r1) ss := ⟨h1, ⟨a, h2⟩, h3⟩
    have hk := h1.1
    have e1 := h2.1
    have hu : TBu tb sp nm w (zsi w 903 tb (nI (a + 1))) := TBu.at_
    have hn1 : TBn (zsi w 903 tb (nI (a + 1))) tb tx sp nm r1 := ⟨hu.b hb0, ss, hu.s h1, ⟨a + 1, h2.nx⟩, h3.at_⟩
    by_cases hX : c = 42
    · subst hX
      refine r_aload_n dX8_readCompound_0 rfl (zRv_ref _) rfl ?_
      refine r_callV MX8_peek 0 [] lvX8_63 (Or.inl ⟨8, by decide, (by first | (simp only [zKS]; first | assumption | exact TBm.k (by assumption)) | assumption | exact TBm.k (by assumption) | exact zk_nself _ _ _ | (simp [zKS, zNS, *]; done)), rfl⟩) (sp_peek E w sg (d - 1) tb tx sp nm (42 :: r1) ss hm) rfl rfl (by first | exact Nat.le_of_ble_eq_true rfl | (simp [zcat_rf, Value.category]; done)) (by omega) (Nat.le_of_eq (Nat.zero_add _)) (Nat.le_of_eq (Nat.zero_add _)) dX8_readCompound_1 rfl (fun v_ w_ sg_ hq_ => ?_)
      obtain ⟨rfl, rfl, rfl⟩ := hq_
      refine r_istore_n (ls' := [_, _, _, _, _, _]) dX8_readCompound_4 (Nat.le_of_ble_eq_true rfl) rfl rfl ?_
      refine r_iload_n dX8_readCompound_5 rfl rfl ?_
      refine r_bipush dX8_readCompound_6 kb_42 rfl ?_
      refine r_icmp_eqN (by omega) (by omega) (r := 18) dX8_readCompound_8 (by decide) rfl (fun c_8 => ?_) (fun c_8 => ?_)
      · refine r_iconst dX8_readCompound_18 kc_1 rfl ?_
        refine r_goto (r := 23) dX8_readCompound_19 (by decide) ?_
        refine r_istore_n (ls' := [_, _, _, _, _, _]) dX8_readCompound_23 (Nat.le_of_ble_eq_true rfl) rfl rfl ?_
        refine r_iload_n dX8_readCompound_24 rfl rfl ?_
        refine r_if_eqN (by omega) (r := 38) dX8_readCompound_25 (by decide) rfl (fun c_25 => ?_) (fun c_25 => ?_)
        · exact absurd c_25 (by decide)
        · refine r_aload_n dX8_readCompound_28 rfl (zRv_ref _) rfl ?_
          refine r_dup dX8_readCompound_29 (by first | rfl | exact zcat_rf _) rfl ?_
          refine r_getiv 8 3 903 lfX8_22 (by first | (simp only [zKS]; first | assumption | exact TBm.k (by assumption)) | assumption | exact TBm.k (by assumption) | exact zk_nself _ _ _ | (simp [zKS, zNS, *]; done)) rfl rfl (by first | (simp only [zGS, zMS, Nat.reduceEqDiff, OfNat.ofNat_ne_ofNat, false_and, and_false, true_and, and_true, and_self, if_true, if_false, ite_true, ite_false, reduceIte, reduceCtorEq]; first | done | assumption | rfl) | assumption | exact z2_eq | exact z1_eq | (simp [zGS, zMS]; first | done | assumption) | rfl) dX8_readCompound_30 rfl ?_
          refine r_iconst dX8_readCompound_33 kc_1 rfl ?_
          refine r_iaddN dX8_readCompound_34 rfl ?_
          refine r_puti 8 3 903 lfX8_22 (by first | (simp only [zKS]; first | assumption | exact TBm.k (by assumption)) | assumption | exact TBm.k (by assumption) | exact zk_nself _ _ _ | (simp [zKS, zNS, *]; done)) rfl rfl rfl (Or.inl rfl) dX8_readCompound_35 rfl ?_
          exact rcomp_38 E sg d hd tb tx sp nm 0 w _ b (42 :: r1) hcs (by decide) (Or.inr ⟨rfl, rfl⟩) kc ks ex (hp 0) true r1 rfl hu.v hn1
      · exact absurd rfl c_8
    · by_cases hL : 97 ≤ c ∧ c ≤ 122
      · have e9 : pHead (c :: r1) = (c, true, r1) := by simp [pHead, hX, hL]
        rw [e9]
        refine r_aload_n dX8_readCompound_0 rfl (zRv_ref _) rfl ?_
        refine r_callV MX8_peek 0 [] lvX8_63 (Or.inl ⟨8, by decide, (by first | (simp only [zKS]; first | assumption | exact TBm.k (by assumption)) | assumption | exact TBm.k (by assumption) | exact zk_nself _ _ _ | (simp [zKS, zNS, *]; done)), rfl⟩) (sp_peek E w sg (d - 1) tb tx sp nm (c :: r1) ss hm) rfl rfl (by first | exact Nat.le_of_ble_eq_true rfl | (simp [zcat_rf, Value.category]; done)) (by omega) (Nat.le_of_eq (Nat.zero_add _)) (Nat.le_of_eq (Nat.zero_add _)) dX8_readCompound_1 rfl (fun v_ w_ sg_ hq_ => ?_)
        obtain ⟨rfl, rfl, rfl⟩ := hq_
        refine r_istore_n (ls' := [_, _, _, _, _, _]) dX8_readCompound_4 (Nat.le_of_ble_eq_true rfl) rfl rfl ?_
        refine r_iload_n dX8_readCompound_5 rfl rfl ?_
        refine r_bipush dX8_readCompound_6 kb_42 rfl ?_
        refine r_icmp_eqN (by omega) (by omega) (r := 18) dX8_readCompound_8 (by decide) rfl (fun c_8 => ?_) (fun c_8 => ?_)
        · exact absurd c_8 hX
        · refine r_iload_n dX8_readCompound_11 rfl rfl ?_
          refine r_callN MX9_isLetter 1 "StyleDesk" [_] (fun s h9 => h9.2.2.1) lwX8_82 zy_X9_isLetter (Nat.le_of_ble_eq_true rfl) (sp_isLetter E w sg (d - 1) (c :: r1) hcs) rfl rfl (by first | exact Nat.le_of_ble_eq_true rfl | (simp [zcat_rf, Value.category]; done)) (by omega) (Nat.le_of_eq (Nat.zero_add _)) (Nat.le_of_eq (Nat.zero_add _)) dX8_readCompound_12 rfl (fun v_ w_ sg_ hq_ => ?_)
          obtain ⟨rfl, rfl, rfl⟩ := hq_
          refine r_if_eqB (r := 22) dX8_readCompound_15 (by decide) rfl (fun c_15 => ?_) (fun c_15 => ?_)
          · exact absurd c_15 (by simp [isL, hL])
          · refine r_iconst dX8_readCompound_18 kc_1 rfl ?_
            refine r_goto (r := 23) dX8_readCompound_19 (by decide) ?_
            refine r_istore_n (ls' := [_, _, _, _, _, _]) dX8_readCompound_23 (Nat.le_of_ble_eq_true rfl) rfl rfl ?_
            refine r_iload_n dX8_readCompound_24 rfl rfl ?_
            refine r_if_eqN (by omega) (r := 38) dX8_readCompound_25 (by decide) rfl (fun c_25 => ?_) (fun c_25 => ?_)
            · exact absurd c_25 (by decide)
            · refine r_aload_n dX8_readCompound_28 rfl (zRv_ref _) rfl ?_
              refine r_dup dX8_readCompound_29 (by first | rfl | exact zcat_rf _) rfl ?_
              refine r_getiv 8 3 903 lfX8_22 (by first | (simp only [zKS]; first | assumption | exact TBm.k (by assumption)) | assumption | exact TBm.k (by assumption) | exact zk_nself _ _ _ | (simp [zKS, zNS, *]; done)) rfl rfl (by first | (simp only [zGS, zMS, Nat.reduceEqDiff, OfNat.ofNat_ne_ofNat, false_and, and_false, true_and, and_true, and_self, if_true, if_false, ite_true, ite_false, reduceIte, reduceCtorEq]; first | done | assumption | rfl) | assumption | exact z2_eq | exact z1_eq | (simp [zGS, zMS]; first | done | assumption) | rfl) dX8_readCompound_30 rfl ?_
              refine r_iconst dX8_readCompound_33 kc_1 rfl ?_
              refine r_iaddN dX8_readCompound_34 rfl ?_
              refine r_puti 8 3 903 lfX8_22 (by first | (simp only [zKS]; first | assumption | exact TBm.k (by assumption)) | assumption | exact TBm.k (by assumption) | exact zk_nself _ _ _ | (simp [zKS, zNS, *]; done)) rfl rfl rfl (Or.inl rfl) dX8_readCompound_35 rfl ?_
              exact rcomp_38 E sg d hd tb tx sp nm c w _ b (c :: r1) hcs hc (Or.inl ⟨by simp [isL, hL], rfl⟩) kc ks ex (hp c) true r1 rfl hu.v hn1
      · have e9 : pHead (c :: r1) = (0, false, c :: r1) := by simp [pHead, hX, hL]
        rw [e9]
        refine r_aload_n dX8_readCompound_0 rfl (zRv_ref _) rfl ?_
        refine r_callV MX8_peek 0 [] lvX8_63 (Or.inl ⟨8, by decide, (by first | (simp only [zKS]; first | assumption | exact TBm.k (by assumption)) | assumption | exact TBm.k (by assumption) | exact zk_nself _ _ _ | (simp [zKS, zNS, *]; done)), rfl⟩) (sp_peek E w sg (d - 1) tb tx sp nm (c :: r1) ss hm) rfl rfl (by first | exact Nat.le_of_ble_eq_true rfl | (simp [zcat_rf, Value.category]; done)) (by omega) (Nat.le_of_eq (Nat.zero_add _)) (Nat.le_of_eq (Nat.zero_add _)) dX8_readCompound_1 rfl (fun v_ w_ sg_ hq_ => ?_)
        obtain ⟨rfl, rfl, rfl⟩ := hq_
        refine r_istore_n (ls' := [_, _, _, _, _, _]) dX8_readCompound_4 (Nat.le_of_ble_eq_true rfl) rfl rfl ?_
        refine r_iload_n dX8_readCompound_5 rfl rfl ?_
        refine r_bipush dX8_readCompound_6 kb_42 rfl ?_
        refine r_icmp_eqN (by omega) (by omega) (r := 18) dX8_readCompound_8 (by decide) rfl (fun c_8 => ?_) (fun c_8 => ?_)
        · exact absurd c_8 hX
        · refine r_iload_n dX8_readCompound_11 rfl rfl ?_
          refine r_callN MX9_isLetter 1 "StyleDesk" [_] (fun s h9 => h9.2.2.1) lwX8_82 zy_X9_isLetter (Nat.le_of_ble_eq_true rfl) (sp_isLetter E w sg (d - 1) (c :: r1) hcs) rfl rfl (by first | exact Nat.le_of_ble_eq_true rfl | (simp [zcat_rf, Value.category]; done)) (by omega) (Nat.le_of_eq (Nat.zero_add _)) (Nat.le_of_eq (Nat.zero_add _)) dX8_readCompound_12 rfl (fun v_ w_ sg_ hq_ => ?_)
          obtain ⟨rfl, rfl, rfl⟩ := hq_
          refine r_if_eqB (r := 22) dX8_readCompound_15 (by decide) rfl (fun c_15 => ?_) (fun c_15 => ?_)
          · refine r_iconst dX8_readCompound_22 kc_0 rfl ?_
            refine r_istore_n (ls' := [_, _, _, _, _, _]) dX8_readCompound_23 (Nat.le_of_ble_eq_true rfl) rfl rfl ?_
            refine r_iload_n dX8_readCompound_24 rfl rfl ?_
            refine r_if_eqN (by omega) (r := 38) dX8_readCompound_25 (by decide) rfl (fun c_25 => ?_) (fun c_25 => ?_)
            · exact rcomp_38 E sg d hd tb tx sp nm 0 w w b (c :: r1) hcs (by decide) (Or.inr ⟨by simp [isL, hL], rfl⟩) kc ks ex (hp 0) false (c :: r1) rfl TBv.rf hn0
            · exact absurd rfl c_25
          · exact absurd c_15 (by simp [isL, hL])
theorem sp_comp1 (E : ZE) (sg : ZM) (d : Nat) (hd : 5 ≤ d) (tb tx sp nm : Nat) (w : ZW) (r : List Nat) (hn : TBn w tb tx sp nm r) : CallQ E MX8_readCompound [.ref tb, .int (zb true)] w sg d 5 22 (zqC tb tx sp nm w sg (pCompG none r)) :=
  sp_compG E sg d hd tb tx sp nm w true 1 4 none (fun t w1 c r1 ps es h1 h2 h3 => sp_part1 E sg (d - 1) (by omega) tb tx sp nm (zsz w) t w1 c r1 ps es h1 hn.1 h2 h3) r hn
