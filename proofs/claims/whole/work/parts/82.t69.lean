/-! ===== Element's constructor ===== -/
def newEl (w w' : ZW) (e n : Nat) (po : Option Nat) (tg id cl va vc vl : Nat) : Prop := zsz w' = e + 9 ∧ (∀ b, b < e → zeq w w' b) ∧ zk w' e = 3 ∧ (True ∧ zr w' 300 e = po ∧ zi w' 301 e = nI tg ∧ zi w' 302 e = nI id ∧ zi w' 303 e = nI cl ∧ zi w' 304 e = nI (2 ^ n) ∧ zi w' 305 e = nI va ∧ zi w' 306 e = nI vc ∧ zi w' 307 e = nI vl) ∧ (zi w' 308 e = nI (bcnt vc.testBit 24 + 1) ∧ zr w' 309 e = some (e + 1) ∧ zi w' 310 e = nI 0 ∧ zi w' 311 e = nI 0) ∧ isSty w' (e + 1) ∧ (∀ i, zq w' (e + 2) i = none) ∧ (∀ i, za w' (e + 7) i = 0) ∧ (∀ i, zg w' (e + 8) i = 0)
theorem rei_1 (E : ZE) (sg : ZM) (d : Nat) (hd : 3 ≤ d) (e n tg id cl : Nat) (x2 : Value) (po : Option Nat) (va vc vl : Nat) (hvc : vc < 16777216) (w0 w : ZW) (hb : ∀ b, b < e → zeq w0 w b) (hz : zsz w = e + 1) (hk : zk w e = 3) (h9 : True ∧ zr w 300 e = po ∧ zi w 301 e = nI tg ∧ zi w 302 e = nI id ∧ zi w 303 e = nI cl ∧ zi w 304 e = nI (2 ^ n) ∧ zi w 305 e = nI va ∧ zi w 306 e = nI vc ∧ zi w 307 e = nI vl) : RW E MX2_init 86 [some (.ref e), some (.int (nI n)), some x2, some (.int (nI tg)), some (.int (nI id)), some (.int (nI cl))] [] w sg d 8 57 (PN E (fun v w' sg' => v = none ∧ sg = sg' ∧ newEl w0 w' e n po tg id cl va vc vl)) := by
  obtain ⟨h0, h1, h2, h3, h4, h5, h6, h7, h8⟩ := h9
  refine RW.qmono (rei_2 E sg d hd e n tg id cl x2 vc hvc w hz hk h7) ?_
  rintro v w' sg' ⟨q1, q2, q3, q4, q5, q6, q7, q8, q9, q10, q11, q12, q13, q14, q15⟩
  have qi := fun f (hf : f < 308) => q6 f (by omega) (by omega) (by omega)
  exact ⟨q1, q2, q3, fun b hb2 => (hb b hb2).tr (q4 b hb2), q5, ⟨h0, (q7 _ (by decide)).trans h1, (qi _ (by decide)).trans h2, (qi _ (by decide)).trans h3, (qi _ (by decide)).trans h4, (qi _ (by decide)).trans h5, (qi _ (by decide)).trans h6, (qi _ (by decide)).trans h7, (qi _ (by decide)).trans h8⟩, ⟨q8, q9, q10, q11⟩, q12, q13, q14, q15⟩
theorem six (w w1 : ZW) (e : Nat) (tg id cl vb : Int32) (po : Option Nat) (h : w1 = zsi (zsi (zsi (zsi (zsr w 300 e po) 301 e tg) 302 e id) 303 e cl) 304 e vb) : (∀ b, b ≠ e → zeq w w1 b) ∧ zsz w1 = zsz w ∧ zk w1 e = zk w e ∧ (True ∧ zr w1 300 e = po ∧ zi w1 301 e = tg ∧ zi w1 302 e = id ∧ zi w1 303 e = cl ∧ zi w1 304 e = vb) := by
  subst h
  have ne : ∀ (w : ZW) (f g : Nat) (v : Int32), g ≠ f → zi (zsi w f e v) g e = zi w g e := fun w f g v h => by rw [zi_zsi, if_neg (fun q => h q.1)]
  have eq : ∀ (w : ZW) (f : Nat) (v : Int32), zi (zsi w f e v) f e = v := fun w f v => by rw [zi_zsi, if_pos ⟨rfl, rfl⟩]
  refine ⟨fun b hb => (zeq.sr hb).tr ((zeq.si hb).tr ((zeq.si hb).tr ((zeq.si hb).tr (zeq.si hb)))), rfl, rfl, trivial, ?_, ?_, ?_, ?_, ?_⟩
  · rw [zr_zsi, zr_zsi, zr_zsi, zr_zsi, zr_zsr, if_pos ⟨rfl, rfl⟩]
  · rw [ne _ _ _ _ (by decide), ne _ _ _ _ (by decide), ne _ _ _ _ (by decide), eq]
  · rw [ne _ _ _ _ (by decide), ne _ _ _ _ (by decide), eq]
  · rw [ne _ _ _ _ (by decide), eq]
  · rw [eq]
theorem three (w w1 : ZW) (e : Nat) (va vc vl : Int32) (h : w1 = zsi (zsi (zsi w 305 e va) 306 e vc) 307 e vl) : (∀ b, b ≠ e → zeq w w1 b) ∧ zsz w1 = zsz w ∧ zk w1 e = zk w e ∧ (∀ f, f < 305 → zi w1 f e = zi w f e) ∧ (∀ f, zr w1 f e = zr w f e) ∧ (zi w1 305 e = va ∧ zi w1 306 e = vc ∧ zi w1 307 e = vl) := by
  subst h
  refine ⟨fun b hb => (zeq.si hb).tr ((zeq.si hb).tr (zeq.si hb)), rfl, rfl, fun f hf => ?_, fun f => rfl, ?_⟩
  · rw [zi_zsi, if_neg (by omega), zi_zsi, if_neg (by omega), zi_zsi, if_neg (by omega)]
  · simp [zi_zsi]
theorem sp_X2_init0 (E : ZE) (sg : ZM) (d : Nat) (hd : 3 ≤ d) (e n tg id cl : Nat) (hn : n < 24) (w : ZW) (hz : zsz w = e + 1) (hk : zk w e = 3) : CallQ E MX2_init [.ref e, .int (nI n), .null, .int (nI tg), .int (nI id), .int (nI cl)] w sg d 8 57 (fun v w' sg' => v = none ∧ sg = sg' ∧ newEl w w' e n none tg id cl 0 0 0) := by
  refine CallQ.of rfl (by simp [Value.category]) (Nat.le_of_ble_eq_true rfl) ?_
  refine r_aload_n dX2_init_0 rfl (zRv_ref _) rfl ?_
  refine r_objI tw_332 tw_118 tw_119 (by omega) (by first | exact Nat.le_of_ble_eq_true rfl | (simp [zcat_rf, Value.category]; done)) dX2_init_1 rfl ?_
  refine r_aload_n dX2_init_4 rfl (zRv_ref _) rfl ?_
  refine r_aload_n dX2_init_5 rfl (by first | exact zRv_ref _ | exact zRv_null | exact zRv_rf _ | assumption) rfl ?_
  refine r_putn 2 0 300 lfX2_7 (by first | (simp only [zKS]; first | assumption | exact zk_nw (by assumption) (by omega)) | assumption | exact zk_nw (by assumption) (by omega) | exact zk_nself _ _ _ | (simp [zKS, zNS, *]; done)) rfl rfl rfl (Or.inr ⟨rfl, rfl⟩) dX2_init_6 rfl ?_
  refine r_aload_n dX2_init_9 rfl (zRv_ref _) rfl ?_
  refine r_iload_n dX2_init_10 rfl rfl ?_
  refine r_puti 2 1 301 lfX2_13 (by first | (simp only [zKS]; first | assumption | exact zk_nw (by assumption) (by omega)) | assumption | exact zk_nw (by assumption) (by omega) | exact zk_nself _ _ _ | (simp [zKS, zNS, *]; done)) rfl rfl rfl (Or.inr ⟨rfl, rfl⟩) dX2_init_11 rfl ?_
  refine r_aload_n dX2_init_14 rfl (zRv_ref _) rfl ?_
  refine r_iload dX2_init_15 rfl rfl ?_
  refine r_puti 2 2 302 lfX2_17 (by first | (simp only [zKS]; first | assumption | exact zk_nw (by assumption) (by omega)) | assumption | exact zk_nw (by assumption) (by omega) | exact zk_nself _ _ _ | (simp [zKS, zNS, *]; done)) rfl rfl rfl (Or.inr ⟨rfl, rfl⟩) dX2_init_17 rfl ?_
  refine r_aload_n dX2_init_20 rfl (zRv_ref _) rfl ?_
  refine r_iload dX2_init_21 rfl rfl ?_
  refine r_puti 2 3 303 lfX2_20 (by first | (simp only [zKS]; first | assumption | exact zk_nw (by assumption) (by omega)) | assumption | exact zk_nw (by assumption) (by omega) | exact zk_nself _ _ _ | (simp [zKS, zNS, *]; done)) rfl rfl rfl (Or.inr ⟨rfl, rfl⟩) dX2_init_23 rfl ?_
  refine r_aload_n dX2_init_26 rfl (zRv_ref _) rfl ?_
  refine r_iconst dX2_init_27 kc_1 rfl ?_
  refine r_iload_n dX2_init_28 rfl rfl ?_
  refine r_ishl dX2_init_29 rfl ?_
  rw [shl1 n hn]
  refine r_puti 2 4 304 lfX2_23 (by first | (simp only [zKS]; first | assumption | exact zk_nw (by assumption) (by omega)) | assumption | exact zk_nw (by assumption) (by omega) | exact zk_nself _ _ _ | (simp [zKS, zNS, *]; done)) rfl rfl rfl (Or.inr ⟨rfl, rfl⟩) dX2_init_30 rfl ?_
  refine RW.gen (fun w1 e1 => ?_)
  obtain ⟨r1, r2, r3, r4⟩ := six w w1 e _ _ _ _ _ e1
  have r3k : zk w1 e = 3 := r3.trans hk
  clear e1
  refine r_aload_n dX2_init_33 rfl (zRv_ref _) rfl ?_
  refine r_aload_n dX2_init_34 rfl (by first | exact zRv_ref _ | exact zRv_null | exact zRv_rf _ | assumption) rfl ?_
  refine r_ifnonnullZ (r := 42) dX2_init_35 (by decide) rfl (fun c_35 => ?_) (fun a_35 c_35 => ?_)
  · refine r_iconst dX2_init_38 kc_0 rfl ?_
    refine r_goto (r := 51) dX2_init_39 (by decide) ?_
    refine r_puti 2 5 305 lfX2_26 (by first | (simp only [zKS]; first | assumption | exact zk_nw (by assumption) (by omega)) | assumption | exact zk_nw (by assumption) (by omega) | exact zk_nself _ _ _ | (simp [zKS, zNS, *]; done)) rfl rfl rfl (Or.inr ⟨rfl, rfl⟩) dX2_init_51 rfl ?_
    refine r_aload_n dX2_init_54 rfl (zRv_ref _) rfl ?_
    refine r_aload_n dX2_init_55 rfl (by first | exact zRv_ref _ | exact zRv_null | exact zRv_rf _ | assumption) rfl ?_
    refine r_ifnonnullZ (r := 63) dX2_init_56 (by decide) rfl (fun c_56 => ?_) (fun a_56 c_56 => ?_)
    · refine r_iconst dX2_init_59 kc_0 rfl ?_
      refine r_goto (r := 67) dX2_init_60 (by decide) ?_
      refine r_puti 2 6 306 lfX2_32 (by first | (simp only [zKS]; first | assumption | exact zk_nw (by assumption) (by omega)) | assumption | exact zk_nw (by assumption) (by omega) | exact zk_nself _ _ _ | (simp [zKS, zNS, *]; done)) rfl rfl rfl (Or.inr ⟨rfl, rfl⟩) dX2_init_67 rfl ?_
      refine r_aload_n dX2_init_70 rfl (zRv_ref _) rfl ?_
      refine r_aload_n dX2_init_71 rfl (by first | exact zRv_ref _ | exact zRv_null | exact zRv_rf _ | assumption) rfl ?_
      refine r_ifnonnullZ (r := 79) dX2_init_72 (by decide) rfl (fun c_72 => ?_) (fun a_72 c_72 => ?_)
      · refine r_iconst dX2_init_75 kc_0 rfl ?_
        refine r_goto (r := 83) dX2_init_76 (by decide) ?_
        refine r_puti 2 7 307 lfX2_38 (by first | (simp only [zKS]; first | assumption | exact zk_nw (by assumption) (by omega)) | assumption | exact zk_nw (by assumption) (by omega) | exact zk_nself _ _ _ | (simp [zKS, zNS, *]; done)) rfl rfl rfl (Or.inr ⟨rfl, rfl⟩) dX2_init_83 rfl ?_
        refine RW.gen (fun w2 e2 => ?_)
        obtain ⟨t1, t2, t3, t4, t5, t6⟩ := three w1 w2 e _ _ _ e2
        clear e2
        obtain ⟨o0, o1, o2, o3, o4, o5⟩ := r4
        exact rei_1 E sg d hd e n tg id cl _ none 0 0 0 (by decide) w w2 (fun b hb => (r1 b (by omega)).tr (t1 b (by omega))) (t2.trans (r2.trans hz)) (t3.trans r3k) ⟨o0, (t5 _).trans o1, (t4 _ (by decide)).trans o2, (t4 _ (by decide)).trans o3, (t4 _ (by decide)).trans o4, (t4 _ (by decide)).trans o5, t6⟩
      · cases c_72
    · cases c_56
  · cases c_35
theorem sp_X2_init1 (E : ZE) (sg : ZM) (d : Nat) (hd : 3 ≤ d) (e n tg id cl : Nat) (hn : n < 24) (pa va vb vc vl : Nat) (hpa : pa < e) (hva : va < 16777216) (hvb : vb < 16777216) (hvc : vc < 16777216) (w : ZW) (hz : zsz w = e + 1) (hk : zk w e = 3) (hkp : zk w pa = 3) (p5 : zi w 304 pa = nI vb) (p6 : zi w 305 pa = nI va) (p11 : zi w 310 pa = nI vc) (p12 : zi w 311 pa = nI vl) : CallQ E MX2_init [.ref e, .int (nI n), .ref pa, .int (nI tg), .int (nI id), .int (nI cl)] w sg d 8 57 (fun v w' sg' => v = none ∧ sg = sg' ∧ newEl w w' e n (some pa) tg id cl (va ||| vb) vc vl) := by
  refine CallQ.of rfl (by simp [Value.category]) (Nat.le_of_ble_eq_true rfl) ?_
  refine r_aload_n dX2_init_0 rfl (zRv_ref _) rfl ?_
  refine r_objI tw_332 tw_118 tw_119 (by omega) (by first | exact Nat.le_of_ble_eq_true rfl | (simp [zcat_rf, Value.category]; done)) dX2_init_1 rfl ?_
  refine r_aload_n dX2_init_4 rfl (zRv_ref _) rfl ?_
  refine r_aload_n dX2_init_5 rfl (by first | exact zRv_ref _ | exact zRv_null | exact zRv_rf _ | assumption) rfl ?_
  refine r_puts 2 0 300 lfX2_7 (by first | (simp only [zKS]; first | assumption | exact zk_nw (by assumption) (by omega)) | assumption | exact zk_nw (by assumption) (by omega) | exact zk_nself _ _ _ | (simp [zKS, zNS, *]; done)) rfl rfl rfl (Or.inr ⟨rfl, rfl⟩) dX2_init_6 rfl ?_
  refine r_aload_n dX2_init_9 rfl (zRv_ref _) rfl ?_
  refine r_iload_n dX2_init_10 rfl rfl ?_
  refine r_puti 2 1 301 lfX2_13 (by first | (simp only [zKS]; first | assumption | exact zk_nw (by assumption) (by omega)) | assumption | exact zk_nw (by assumption) (by omega) | exact zk_nself _ _ _ | (simp [zKS, zNS, *]; done)) rfl rfl rfl (Or.inr ⟨rfl, rfl⟩) dX2_init_11 rfl ?_
  refine r_aload_n dX2_init_14 rfl (zRv_ref _) rfl ?_
  refine r_iload dX2_init_15 rfl rfl ?_
  refine r_puti 2 2 302 lfX2_17 (by first | (simp only [zKS]; first | assumption | exact zk_nw (by assumption) (by omega)) | assumption | exact zk_nw (by assumption) (by omega) | exact zk_nself _ _ _ | (simp [zKS, zNS, *]; done)) rfl rfl rfl (Or.inr ⟨rfl, rfl⟩) dX2_init_17 rfl ?_
  refine r_aload_n dX2_init_20 rfl (zRv_ref _) rfl ?_
  refine r_iload dX2_init_21 rfl rfl ?_
  refine r_puti 2 3 303 lfX2_20 (by first | (simp only [zKS]; first | assumption | exact zk_nw (by assumption) (by omega)) | assumption | exact zk_nw (by assumption) (by omega) | exact zk_nself _ _ _ | (simp [zKS, zNS, *]; done)) rfl rfl rfl (Or.inr ⟨rfl, rfl⟩) dX2_init_23 rfl ?_
  refine r_aload_n dX2_init_26 rfl (zRv_ref _) rfl ?_
  refine r_iconst dX2_init_27 kc_1 rfl ?_
  refine r_iload_n dX2_init_28 rfl rfl ?_
  refine r_ishl dX2_init_29 rfl ?_
  rw [shl1 n hn]
  refine r_puti 2 4 304 lfX2_23 (by first | (simp only [zKS]; first | assumption | exact zk_nw (by assumption) (by omega)) | assumption | exact zk_nw (by assumption) (by omega) | exact zk_nself _ _ _ | (simp [zKS, zNS, *]; done)) rfl rfl rfl (Or.inr ⟨rfl, rfl⟩) dX2_init_30 rfl ?_
  refine RW.gen (fun w1 e1 => ?_)
  obtain ⟨r1, r2', r3', r4⟩ := six w w1 e _ _ _ _ _ e1
  have r3 : zk w1 e = 3 := r3'.trans hk
  have r2 : zsz w1 = e + 1 := r2'.trans hz
  clear e1
  have rp := r1 pa (by omega)
  have s0 : zk w1 pa = 3 := rp.k.trans hkp
  have s5 : zi w1 304 pa = nI vb := (rp.i 304).trans p5
  have s6 : zi w1 305 pa = nI va := (rp.i 305).trans p6
  have s11 : zi w1 310 pa = nI vc := (rp.i 310).trans p11
  have s12 : zi w1 311 pa = nI vl := (rp.i 311).trans p12
  refine r_aload_n dX2_init_33 rfl (zRv_ref _) rfl ?_
  refine r_aload_n dX2_init_34 rfl (by first | exact zRv_ref _ | exact zRv_null | exact zRv_rf _ | assumption) rfl ?_
  refine r_ifnonnullR (r := 42) dX2_init_35 (by decide) rfl (fun c_35 => ?_) (fun a_35 c_35 => ?_)
  · cases c_35
  · refine r_aload_n dX2_init_42 rfl (by first | exact zRv_ref _ | exact zRv_null | exact zRv_rf _ | assumption) rfl ?_
    refine r_getiv 2 5 305 lfX2_26 (by first | (simp only [zKS]; first | assumption | exact zk_nw (by assumption) (by omega)) | assumption | exact zk_nw (by assumption) (by omega) | exact zk_nself _ _ _ | (simp [zKS, zNS, *]; done)) rfl rfl (by first | (simp only [zGS, zMS, Nat.reduceEqDiff, OfNat.ofNat_ne_ofNat, false_and, and_false, true_and, and_true, and_self, if_true, if_false, ite_true, ite_false, reduceIte, reduceCtorEq]; first | done | assumption | rfl) | assumption | exact z2_eq | exact z1_eq | (simp [zGS, zMS]; first | done | assumption) | rfl) dX2_init_43 rfl ?_
    refine r_aload_n dX2_init_46 rfl (by first | exact zRv_ref _ | exact zRv_null | exact zRv_rf _ | assumption) rfl ?_
    refine r_getiv 2 4 304 lfX2_23 (by first | (simp only [zKS]; first | assumption | exact zk_nw (by assumption) (by omega)) | assumption | exact zk_nw (by assumption) (by omega) | exact zk_nself _ _ _ | (simp [zKS, zNS, *]; done)) rfl rfl (by first | (simp only [zGS, zMS, Nat.reduceEqDiff, OfNat.ofNat_ne_ofNat, false_and, and_false, true_and, and_true, and_self, if_true, if_false, ite_true, ite_false, reduceIte, reduceCtorEq]; first | done | assumption | rfl) | assumption | exact z2_eq | exact z1_eq | (simp [zGS, zMS]; first | done | assumption) | rfl) dX2_init_47 rfl ?_
    refine r_ior dX2_init_50 rfl ?_
    rw [nI_or (by omega) (by omega)]
    refine r_puti 2 5 305 lfX2_26 (by first | (simp only [zKS]; first | assumption | exact zk_nw (by assumption) (by omega)) | assumption | exact zk_nw (by assumption) (by omega) | exact zk_nself _ _ _ | (simp [zKS, zNS, *]; done)) rfl rfl rfl (Or.inr ⟨rfl, rfl⟩) dX2_init_51 rfl ?_
    refine RW.gen (fun w2 e2 => ?_)
    have t1 : ∀ b, b < e → zeq w1 w2 b := by rw [e2]; exact fun b hb => zeq.si (by omega)
    have t2 : zsz w2 = e + 1 := by rw [e2]; exact r2
    have t3 : zk w2 e = 3 := by rw [e2]; exact r3
    have t4 : ∀ f, f ≠ 305 → zi w2 f e = zi w1 f e := by rw [e2]; exact fun f hf => by rw [zi_zsi, if_neg (fun q => hf q.1)]
    have t5 : zi w2 305 e = nI (va ||| vb) := by rw [e2]; exact z2_eq
    have t6 : zr w2 300 e = zr w1 300 e := by rw [e2]; rfl
    clear e2
    have tp := t1 pa hpa
    have u0 : zk w2 pa = 3 := tp.k.trans s0
    have u11 : zi w2 310 pa = nI vc := (tp.i 310).trans s11
    have u12 : zi w2 311 pa = nI vl := (tp.i 311).trans s12
    refine r_aload_n dX2_init_54 rfl (zRv_ref _) rfl ?_
    refine r_aload_n dX2_init_55 rfl (by first | exact zRv_ref _ | exact zRv_null | exact zRv_rf _ | assumption) rfl ?_
    refine r_ifnonnullR (r := 63) dX2_init_56 (by decide) rfl (fun c_56 => ?_) (fun a_56 c_56 => ?_)
    · cases c_56
    · refine r_aload_n dX2_init_63 rfl (by first | exact zRv_ref _ | exact zRv_null | exact zRv_rf _ | assumption) rfl ?_
      refine r_getiv 2 10 310 lfX2_29 (by first | (simp only [zKS]; first | assumption | exact zk_nw (by assumption) (by omega)) | assumption | exact zk_nw (by assumption) (by omega) | exact zk_nself _ _ _ | (simp [zKS, zNS, *]; done)) rfl rfl (by first | (simp only [zGS, zMS, Nat.reduceEqDiff, OfNat.ofNat_ne_ofNat, false_and, and_false, true_and, and_true, and_self, if_true, if_false, ite_true, ite_false, reduceIte, reduceCtorEq]; first | done | assumption | rfl) | assumption | exact z2_eq | exact z1_eq | (simp [zGS, zMS]; first | done | assumption) | rfl) dX2_init_64 rfl ?_
      refine r_puti 2 6 306 lfX2_32 (by first | (simp only [zKS]; first | assumption | exact zk_nw (by assumption) (by omega)) | assumption | exact zk_nw (by assumption) (by omega) | exact zk_nself _ _ _ | (simp [zKS, zNS, *]; done)) rfl rfl rfl (Or.inr ⟨rfl, rfl⟩) dX2_init_67 rfl ?_
      refine RW.gen (fun w3 e3 => ?_)
      have m1 : ∀ b, b < e → zeq w2 w3 b := by rw [e3]; exact fun b hb => zeq.si (by omega)
      have m2 : zsz w3 = e + 1 := by rw [e3]; exact t2
      have m3 : zk w3 e = 3 := by rw [e3]; exact t3
      have m4 : ∀ f, f ≠ 306 → zi w3 f e = zi w2 f e := by rw [e3]; exact fun f hf => by rw [zi_zsi, if_neg (fun q => hf q.1)]
      have m5 : zi w3 306 e = nI vc := by rw [e3]; exact z2_eq
      have m6 : zr w3 300 e = zr w2 300 e := by rw [e3]; rfl
      clear e3
      have mp := m1 pa hpa
      have v0 : zk w3 pa = 3 := mp.k.trans u0
      have v12 : zi w3 311 pa = nI vl := (mp.i 311).trans u12
      refine r_aload_n dX2_init_70 rfl (zRv_ref _) rfl ?_
      refine r_aload_n dX2_init_71 rfl (by first | exact zRv_ref _ | exact zRv_null | exact zRv_rf _ | assumption) rfl ?_
      refine r_ifnonnullR (r := 79) dX2_init_72 (by decide) rfl (fun c_72 => ?_) (fun a_72 c_72 => ?_)
      · cases c_72
      · refine r_aload_n dX2_init_79 rfl (by first | exact zRv_ref _ | exact zRv_null | exact zRv_rf _ | assumption) rfl ?_
        refine r_getiv 2 11 311 lfX2_35 (by first | (simp only [zKS]; first | assumption | exact zk_nw (by assumption) (by omega)) | assumption | exact zk_nw (by assumption) (by omega) | exact zk_nself _ _ _ | (simp [zKS, zNS, *]; done)) rfl rfl (by first | (simp only [zGS, zMS, Nat.reduceEqDiff, OfNat.ofNat_ne_ofNat, false_and, and_false, true_and, and_true, and_self, if_true, if_false, ite_true, ite_false, reduceIte, reduceCtorEq]; first | done | assumption | rfl) | assumption | exact z2_eq | exact z1_eq | (simp [zGS, zMS]; first | done | assumption) | rfl) dX2_init_80 rfl ?_
        refine r_puti 2 7 307 lfX2_38 (by first | (simp only [zKS]; first | assumption | exact zk_nw (by assumption) (by omega)) | assumption | exact zk_nw (by assumption) (by omega) | exact zk_nself _ _ _ | (simp [zKS, zNS, *]; done)) rfl rfl rfl (Or.inr ⟨rfl, rfl⟩) dX2_init_83 rfl ?_
        refine RW.gen (fun w4 e4 => ?_)
        have n1 : ∀ b, b < e → zeq w3 w4 b := by rw [e4]; exact fun b hb => zeq.si (by omega)
        have n2 : zsz w4 = e + 1 := by rw [e4]; exact m2
        have n3 : zk w4 e = 3 := by rw [e4]; exact m3
        have n4 : ∀ f, f ≠ 307 → zi w4 f e = zi w3 f e := by rw [e4]; exact fun f hf => by rw [zi_zsi, if_neg (fun q => hf q.1)]
        have n5 : zi w4 307 e = nI vl := by rw [e4]; exact z2_eq
        have n6 : zr w4 300 e = zr w3 300 e := by rw [e4]; rfl
        clear e4
        obtain ⟨o0, o1, o2, o3, o4, o5⟩ := r4
        have ff : ∀ f, f < 305 → zi w4 f e = zi w1 f e := fun f hf => (n4 f (by omega)).trans ((m4 f (by omega)).trans (t4 f (by omega)))
        exact rei_1 E sg d hd e n tg id cl _ (some pa) (va ||| vb) vc vl hvc w w4 (fun b hb => ((r1 b (by omega)).tr (t1 b hb)).tr ((m1 b hb).tr (n1 b hb))) n2 n3 ⟨o0, n6.trans (m6.trans (t6.trans o1)), (ff _ (by decide)).trans o2, (ff _ (by decide)).trans o3, (ff _ (by decide)).trans o4, (ff _ (by decide)).trans o5, (n4 _ (by decide)).trans ((m4 _ (by decide)).trans t5), (n4 _ (by decide)).trans m5, n5⟩
