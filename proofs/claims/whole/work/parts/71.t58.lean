/-! ===== Reckoner's constructor ===== -/
theorem sp_X4_init (E : ZE) (w : ZW) (sg : ZM) (d : Nat) (hd : 1 ≤ d) (s : Nat) (hs : zsz w = s + 1) (hk : zk w s = 5) : CallQ E MX4_init [.ref s] w sg d 5 246 (fun v w' sg' => v = none ∧ sg = sg' ∧ zsz w' = s + 6 ∧ (∀ b, b < s → zeq w w' b) ∧ isRk w' s) := by
  have h0 : s < zsz w := by omega
  refine CallQ.of rfl (by simp [Value.category]) (Nat.le_of_ble_eq_true rfl) ?_
  refine r_aload_n dX4_init_0 rfl (zRv_ref _) rfl ?_
  refine r_objI tw_160 tw_118 tw_119 (by omega) (by first | exact Nat.le_of_ble_eq_true rfl | (simp [zcat_rf, Value.category]; done)) dX4_init_1 rfl ?_
  refine r_aload_n dX4_init_4 rfl (zRv_ref _) rfl ?_
  refine r_bipush dX4_init_5 kb_24 rfl ?_
  refine r_anewa (nc' := 4) (ns' := 222) 7 24 (by decide) rfl tw_161 (fun s h9 => h9.2.2.2.2.2.2.2.1) rfl (by decide) (by decide) (by decide) dX4_init_7 rfl ?_
  refine r_puts 4 0 500 lfX4_11 (by first | (simp only [zKS]; first | assumption | exact zk_nw (by assumption) (by omega)) | assumption | exact zk_nw (by assumption) (by omega) | exact zk_nself _ _ _ | (simp [zKS, zNS, *]; done)) rfl rfl rfl (Or.inr ⟨rfl, rfl⟩) dX4_init_10 rfl ?_
  refine RW.gen (fun w1 e1 => ?_)
  have r1 : nxR w w1 s 27 24 500 := by rw [e1]; exact nxR_of h0
  clear e1
  have z1 := r1.1
  have k1 : zk w1 s = 5 := r1.2.2.1.trans hk
  refine r_aload_n dX4_init_13 rfl (zRv_ref _) rfl ?_
  refine r_bipush dX4_init_14 kb_15 rfl ?_
  refine r_newa (atype := .int) (nc' := 3) (ns' := 207) 2 15 (by decide) rfl (fun cA => znewc2 cA _ _) tw_153 rfl (by decide) (by decide) (by decide) dX4_init_16 rfl ?_
  refine r_puts 4 4 504 lfX4_17 (by first | (simp only [zKS]; first | assumption | exact zk_nw (by assumption) (by omega)) | assumption | exact zk_nw (by assumption) (by omega) | exact zk_nself _ _ _ | (simp [zKS, zNS, *]; done)) rfl rfl rfl (Or.inr ⟨rfl, rfl⟩) dX4_init_18 rfl ?_
  refine RW.gen (fun w2 e2 => ?_)
  have r2 : nxR w1 w2 s 22 15 504 := by rw [e2]; exact nxR_of (by omega)
  clear e2
  have z2 := r2.1
  have k2 : zk w2 s = 5 := r2.2.2.1.trans k1
  refine r_aload_n dX4_init_21 rfl (zRv_ref _) rfl ?_
  refine r_bipush dX4_init_22 kb_15 rfl ?_
  refine r_newa (atype := .float) (nc' := 2) (ns' := 192) 1 15 (by decide) rfl (fun cA => znewc1 cA _ _) tw_154 rfl (by decide) (by decide) (by decide) dX4_init_24 rfl ?_
  refine r_puts 4 5 505 lfX4_21 (by first | (simp only [zKS]; first | assumption | exact zk_nw (by assumption) (by omega)) | assumption | exact zk_nw (by assumption) (by omega) | exact zk_nself _ _ _ | (simp [zKS, zNS, *]; done)) rfl rfl rfl (Or.inr ⟨rfl, rfl⟩) dX4_init_26 rfl ?_
  refine RW.gen (fun w3 e3 => ?_)
  have r3 : nxR w2 w3 s 21 15 505 := by rw [e3]; exact nxR_of (by omega)
  clear e3
  have z3 := r3.1
  have k3 : zk w3 s = 5 := r3.2.2.1.trans k2
  refine r_aload_n dX4_init_29 rfl (zRv_ref _) rfl ?_
  refine r_bipush dX4_init_30 kb_96 rfl ?_
  refine r_anewa (nc' := 1) (ns' := 96) 7 96 (by decide) rfl tw_161 (fun s h9 => h9.2.2.2.2.2.2.2.1) rfl (by decide) (by decide) (by decide) dX4_init_32 rfl ?_
  refine r_puts 4 7 507 lfX4_25 (by first | (simp only [zKS]; first | assumption | exact zk_nw (by assumption) (by omega)) | assumption | exact zk_nw (by assumption) (by omega) | exact zk_nself _ _ _ | (simp [zKS, zNS, *]; done)) rfl rfl rfl (Or.inr ⟨rfl, rfl⟩) dX4_init_35 rfl ?_
  refine RW.gen (fun w4 e4 => ?_)
  have r4 : nxR w3 w4 s 27 96 507 := by rw [e4]; exact nxR_of (by omega)
  clear e4
  have z4 := r4.1
  have k4 : zk w4 s = 5 := r4.2.2.1.trans k3
  refine r_aload_n dX4_init_38 rfl (zRv_ref _) rfl ?_
  refine r_bipush dX4_init_39 kb_96 rfl ?_
  refine r_newa (atype := .int) (nc' := 0) (ns' := 0) 2 96 (by decide) rfl (fun cA => znewc2 cA _ _) tw_153 rfl (by decide) (by decide) (by decide) dX4_init_41 rfl ?_
  refine r_puts 4 8 508 lfX4_28 (by first | (simp only [zKS]; first | assumption | exact zk_nw (by assumption) (by omega)) | assumption | exact zk_nw (by assumption) (by omega) | exact zk_nself _ _ _ | (simp [zKS, zNS, *]; done)) rfl rfl rfl (Or.inr ⟨rfl, rfl⟩) dX4_init_43 rfl ?_
  refine RW.gen (fun w5 e5 => ?_)
  have r5 : nxR w4 w5 s 22 96 508 := by rw [e5]; exact nxR_of (by omega)
  clear e5
  have z5 := r5.1
  have k5 : zk w5 s = 5 := r5.2.2.1.trans k4
  refine r_vret rfl dX4_init_46 ?_
  have f1 : ∀ b, b < s → zeq w w5 b := fun b hb => (r1.2.1 b (by omega) (by omega)).tr ((r2.2.1 b (by omega) (by omega)).tr ((r3.2.1 b (by omega) (by omega)).tr ((r4.2.1 b (by omega) (by omega)).tr (r5.2.1 b (by omega) (by omega)))))
  have y2 : zsz w1 = s + 2 := by omega
  have y3 : zsz w2 = s + 3 := by omega
  have y4 : zsz w3 = s + 4 := by omega
  have y5 : zsz w4 = s + 5 := by omega
  unfold nxR at r1 r2 r3 r4 r5
  rw [hs] at r1
  rw [y2] at r2
  rw [y3] at r3
  rw [y4] at r4
  rw [y5] at r5
  obtain ⟨-, a2, -, a4, a5, a6, a7, -, -⟩ := r1
  obtain ⟨-, b2, -, b4, b5, b6, b7, -, -⟩ := r2
  obtain ⟨-, c2, -, c4, c5, c6, c7, -, -⟩ := r3
  obtain ⟨-, d2, -, d4, d5, d6, d7, -, -⟩ := r4
  obtain ⟨-, e2, -, e4, e5, e6, e7, -, -⟩ := r5
  have q1 : zeq w1 w5 (s + 1) := (b2 _ (by omega) (by omega)).tr ((c2 _ (by omega) (by omega)).tr ((d2 _ (by omega) (by omega)).tr (e2 _ (by omega) (by omega))))
  have q2 : zeq w2 w5 (s + 2) := (c2 _ (by omega) (by omega)).tr ((d2 _ (by omega) (by omega)).tr (e2 _ (by omega) (by omega)))
  have q3 : zeq w3 w5 (s + 3) := (d2 _ (by omega) (by omega)).tr (e2 _ (by omega) (by omega))
  have q4 : zeq w4 w5 (s + 4) := e2 _ (by omega) (by omega)
  refine ⟨rfl, rfl, by omega, f1, ⟨⟨k5, ?_, ?_, ?_, ?_, e6⟩, ⟨q1.k.trans a4, q2.k.trans b4, q3.k.trans c4, q4.k.trans d4, e4⟩, ⟨q1.ln.trans a5, q2.ln.trans b5, q3.ln.trans c5, q4.ln.trans d5, e5⟩⟩⟩
  · rw [e7 _ (by decide), d7 _ (by decide), c7 _ (by decide), b7 _ (by decide)]; exact a6
  · rw [e7 _ (by decide), d7 _ (by decide), c7 _ (by decide)]; exact b6
  · rw [e7 _ (by decide), d7 _ (by decide)]; exact c6
  · rw [e7 _ (by decide)]; exact d6
