/-! ===== Element's constructor ===== -/
theorem shl1 : ∀ n, n < 24 → (nI 1 <<< (nI n &&& 31)) = nI (2 ^ n) := by decide +kernel
theorem rei_2 (E : ZE) (sg : ZM) (d : Nat) (hd : 3 ≤ d) (e n x3 x4 x5 : Nat) (x2 : Value) (vc : Nat) (hvc : vc < 16777216) (w : ZW) (hz : zsz w = e + 1) (hk : zk w e = 3) (h7 : zi w 306 e = nI vc) : RW E MX2_init 86 [some (.ref e), some (.int (nI n)), some x2, some (.int (nI x3)), some (.int (nI x4)), some (.int (nI x5))] [] w sg d 8 57 (PN E (fun v w' sg' => v = none ∧ sg = sg' ∧ zsz w' = e + 9 ∧ (∀ b, b < e → zeq w w' b) ∧ zk w' e = 3 ∧ (∀ f, f ≠ 308 → f ≠ 310 → f ≠ 311 → zi w' f e = zi w f e) ∧ (∀ f, f ≠ 309 → zr w' f e = zr w f e) ∧ zi w' 308 e = nI (bcnt vc.testBit 24 + 1) ∧ zr w' 309 e = some (e + 1) ∧ zi w' 310 e = nI 0 ∧ zi w' 311 e = nI 0 ∧ isSty w' (e + 1) ∧ (∀ i, zq w' (e + 2) i = none) ∧ (∀ i, za w' (e + 7) i = 0) ∧ (∀ i, zg w' (e + 8) i = 0))) := by
  refine r_aload_n dX2_init_86 rfl (zRv_ref _) rfl ?_
  refine r_aload_n dX2_init_87 rfl (zRv_ref _) rfl ?_
  refine r_getiv 2 6 306 lfX2_32 (by first | (simp only [zKS]; first | assumption | exact zk_nw (by assumption) (by omega)) | assumption | exact zk_nw (by assumption) (by omega) | exact zk_nself _ _ _ | (simp [zKS, zNS, *]; done)) rfl rfl (by first | (simp only [zGS, zMS, Nat.reduceEqDiff, OfNat.ofNat_ne_ofNat, false_and, and_false, true_and, and_true, and_self, if_true, if_false, ite_true, ite_false, reduceIte, reduceCtorEq]; first | done | assumption | rfl) | assumption | exact z2_eq | exact z1_eq | (simp [zGS, zMS]; first | done | assumption) | rfl) dX2_init_88 rfl ?_
  refine r_callS MJ6_bitCount_0f7a4 1 [_] lsX2_41 (sp_bitCount E sg (d - 1) vc hvc w) rfl rfl (by first | exact Nat.le_of_ble_eq_true rfl | (simp [zcat_rf, Value.category]; done)) (by omega) (Nat.le_of_eq (Nat.zero_add _)) (Nat.le_of_eq (Nat.zero_add _)) dX2_init_91 rfl (fun v_ w_ sg_ hq_ => ?_)
  obtain ⟨rfl, rfl, rfl⟩ := hq_
  refine r_iconst dX2_init_94 kc_1 rfl ?_
  refine r_iaddN dX2_init_95 rfl ?_
  refine r_puti 2 8 308 lfX2_47 (by first | (simp only [zKS]; first | assumption | exact zk_nw (by assumption) (by omega)) | assumption | exact zk_nw (by assumption) (by omega) | exact zk_nself _ _ _ | (simp [zKS, zNS, *]; done)) rfl rfl rfl (Or.inr ⟨rfl, rfl⟩) dX2_init_96 rfl ?_
  refine RW.gen (fun w1 e1 => ?_)
  have r1 : (zsz w1 = e + 1 ∧ (∀ b, b ≠ e → zeq w w1 b) ∧ zk w1 e = 3 ∧ (∀ f, f ≠ 308 → zi w1 f e = zi w f e) ∧ (∀ f, zr w1 f e = zr w f e) ∧ zi w1 308 e = nI (bcnt vc.testBit 24 + 1)) := by rw [e1]; exact ⟨hz, fun b hb => zeq.si hb, hk, fun f hf => by rw [zi_zsi, if_neg (fun q => hf q.1)], fun f => rfl, z2_eq⟩
  clear e1
  have k1 := r1.2.2.1
  have z1 := r1.1
  refine r_aload_n dX2_init_99 rfl (zRv_ref _) rfl ?_
  refine r_new (nc' := 7) (ns' := 50) 7 lnX2_50 (by decide) (by decide) dX2_init_100 rfl ?_
  refine r_dup dX2_init_103 (by first | rfl | exact zcat_rf _) rfl ?_
  refine r_callI MX7_init 0 (a := 0) (a' := 0) [] liX2_52 (sp_X7_init E _ sg (d - 1) (by omega) (zsz w1) rfl (zk_nself _ _ _)) rfl rfl (by first | exact Nat.le_of_ble_eq_true rfl | (simp [zcat_rf, Value.category]; done)) (by omega) (by decide) (by decide) dX2_init_104 rfl (fun v_ w_ sg_ hq_ => ?_)
  obtain ⟨rfl, rfl, g1, g2, g3, g4, g5, g6, g7, g8⟩ := hq_
  rw [z1] at g1 g2 g3 g4 g5 g6 g7 g8
  obtain ⟨w2, hw2⟩ : ∃ x, x = w_ := ⟨_, rfl⟩
  subst hw2
  have ge := (zeq.nw (w := w1) (k := 7 + 1) (n := 0) (b := e) (by omega)).tr (g2 e (by omega))
  have k2 : zk w2 e = 3 := ge.k.trans k1
  refine r_puts 2 9 309 lfX2_53 (by first | (simp only [zKS]; first | assumption | exact zk_nw (by assumption) (by omega)) | assumption | exact zk_nw (by assumption) (by omega) | exact zk_nself _ _ _ | (simp [zKS, zNS, *]; done)) rfl rfl rfl (Or.inr ⟨rfl, rfl⟩) dX2_init_107 rfl ?_
  refine r_aload_n dX2_init_110 rfl (zRv_ref _) rfl ?_
  refine r_iconst dX2_init_111 kc_0 rfl ?_
  refine r_puti 2 10 310 lfX2_29 (by first | (simp only [zKS]; first | assumption | exact zk_nw (by assumption) (by omega)) | assumption | exact zk_nw (by assumption) (by omega) | exact zk_nself _ _ _ | (simp [zKS, zNS, *]; done)) rfl rfl rfl (Or.inl rfl) dX2_init_112 rfl ?_
  refine r_aload_n dX2_init_115 rfl (zRv_ref _) rfl ?_
  refine r_iconst dX2_init_116 kc_0 rfl ?_
  refine r_puti 2 11 311 lfX2_35 (by first | (simp only [zKS]; first | assumption | exact zk_nw (by assumption) (by omega)) | assumption | exact zk_nw (by assumption) (by omega) | exact zk_nself _ _ _ | (simp [zKS, zNS, *]; done)) rfl rfl rfl (Or.inl rfl) dX2_init_117 rfl ?_
  refine r_vret rfl dX2_init_120 ?_
  refine ⟨rfl, rfl, g1, fun b hb => ((r1.2.1 b (by omega)).tr ((zeq.nw (by omega)).tr (g2 b (by omega)))).tr ((zeq.sr (by omega)).tr ((zeq.si (by omega)).tr (zeq.si (by omega)))), k2, fun f h1 h2 h3 => ?_, fun f h1 => ?_, ?_, ?_, ?_, z2_eq, g3, g4, g5, g8⟩
  · rw [zi_zsi, if_neg (fun q => h3 q.1), zi_zsi, if_neg (fun q => h2 q.1)]
    exact (ge.i f).trans (r1.2.2.2.1 f h1)
  · show zr (zsr w2 309 e (some (zsz w1))) f e = _
    rw [zr_zsr, if_neg (fun q => h1 q.1)]
    exact (ge.r f).trans (r1.2.2.2.2.1 f)
  · rw [zi_zsi, if_neg (by omega), zi_zsi, if_neg (by omega)]
    exact (ge.i 308).trans r1.2.2.2.2.2
  · rw [← z1]
    exact z2_eq
  · rw [zi_zsi, if_neg (by omega)]
    exact z2_eq
