/-! ===== TextBuffer's constructor ===== -/
theorem sp_X8_init (E : ZE) (w : ZW) (sg : ZM) (d : Nat) (hd : 1 ≤ d) (s : Nat) (hs : zsz w = s + 1) (hk : zk w s = 9) : CallQ E MX8_init [.ref s] w sg d 3 360 (fun v w' sg' => v = none ∧ sg = sg' ∧ zsz w' = s + 4 ∧ (∀ b, b < s → zeq w w' b) ∧ TBs w' s (s + 1) (s + 2) (s + 3) ∧ zi w' 901 s = nI 0) := by
  have h0 : s < zsz w := by omega
  refine CallQ.of rfl (by simp [Value.category]) (Nat.le_of_ble_eq_true rfl) ?_
  refine r_aload_n dX8_init_0 rfl (zRv_ref _) rfl ?_
  refine r_objI tw_129 tw_118 tw_119 (by omega) (by first | exact Nat.le_of_ble_eq_true rfl | (simp [zcat_rf, Value.category]; done)) dX8_init_1 rfl ?_
  refine r_aload_n dX8_init_4 rfl (zRv_ref _) rfl ?_
  refine r_bipush dX8_init_5 kb_120 rfl ?_
  refine r_newa (atype := .char) (nc' := 2) (ns' := 240) 0 120 (by decide) rfl (fun cA => znewc0 cA _ _) tw_152 rfl (by decide) (by decide) (by decide) dX8_init_7 rfl ?_
  refine r_puts 8 0 900 lfX8_9 (by first | (simp only [zKS]; first | assumption | exact zk_nw (by assumption) (by omega)) | assumption | exact zk_nw (by assumption) (by omega) | exact zk_nself _ _ _ | (simp [zKS, zNS, *]; done)) rfl rfl rfl (Or.inr ⟨rfl, rfl⟩) dX8_init_9 rfl ?_
  refine RW.gen (fun w1 e1 => ?_)
  have r1 : nxR w w1 s 20 120 900 := by rw [e1]; exact nxR_of h0
  clear e1
  have z1 := r1.1
  have k1 : zk w1 s = 9 := r1.2.2.1.trans hk
  refine r_aload_n dX8_init_12 rfl (zRv_ref _) rfl ?_
  refine r_iconst dX8_init_13 kc_0 rfl ?_
  refine r_puti 8 1 901 lfX8_15 (by first | (simp only [zKS]; first | assumption | exact zk_nw (by assumption) (by omega)) | assumption | exact zk_nw (by assumption) (by omega) | exact zk_nself _ _ _ | (simp [zKS, zNS, *]; done)) rfl rfl rfl (Or.inl rfl) dX8_init_14 rfl ?_
  refine r_aload_n dX8_init_17 rfl (zRv_ref _) rfl ?_
  refine r_iconst dX8_init_18 kc_0 rfl ?_
  refine r_puti 8 2 902 lfX8_19 (by first | (simp only [zKS]; first | assumption | exact zk_nw (by assumption) (by omega)) | assumption | exact zk_nw (by assumption) (by omega) | exact zk_nself _ _ _ | (simp [zKS, zNS, *]; done)) rfl rfl rfl (Or.inl rfl) dX8_init_19 rfl ?_
  refine r_aload_n dX8_init_22 rfl (zRv_ref _) rfl ?_
  refine r_iconst dX8_init_23 kc_0 rfl ?_
  refine r_puti 8 3 903 lfX8_22 (by first | (simp only [zKS]; first | assumption | exact zk_nw (by assumption) (by omega)) | assumption | exact zk_nw (by assumption) (by omega) | exact zk_nself _ _ _ | (simp [zKS, zNS, *]; done)) rfl rfl rfl (Or.inl rfl) dX8_init_24 rfl ?_
  refine RW.gen (fun w2 e2 => ?_)
  have i2 : zi w2 901 s = nI 0 := by rw [e2]; simp [zi_zsi]
  have r2 : (zsz w2 = zsz w1 ∧ (∀ b, b ≠ s → zeq w1 w2 b) ∧ zk w2 s = zk w1 s ∧ ∀ f, zr w2 f s = zr w1 f s) := by rw [e2]; exact ⟨rfl, fun b hb => (zeq.si hb).tr ((zeq.si hb).tr (zeq.si hb)), rfl, fun f => rfl⟩
  clear e2
  have z2 := r2.1
  have k2 : zk w2 s = 9 := r2.2.2.1.trans k1
  refine r_aload_n dX8_init_27 rfl (zRv_ref _) rfl ?_
  refine r_bipush dX8_init_28 kb_120 rfl ?_
  refine r_newa (atype := .int) (nc' := 1) (ns' := 120) 2 120 (by decide) rfl (fun cA => znewc2 cA _ _) tw_153 rfl (by decide) (by decide) (by decide) dX8_init_30 rfl ?_
  refine r_puts 8 4 904 lfX8_25 (by first | (simp only [zKS]; first | assumption | exact zk_nw (by assumption) (by omega)) | assumption | exact zk_nw (by assumption) (by omega) | exact zk_nself _ _ _ | (simp [zKS, zNS, *]; done)) rfl rfl rfl (Or.inr ⟨rfl, rfl⟩) dX8_init_32 rfl ?_
  refine RW.gen (fun w3 e3 => ?_)
  have r3 : nxR w2 w3 s 22 120 904 := by rw [e3]; exact nxR_of (by omega)
  clear e3
  have z3 := r3.1
  have k3 : zk w3 s = 9 := r3.2.2.1.trans k2
  refine r_aload_n dX8_init_35 rfl (zRv_ref _) rfl ?_
  refine r_bipush dX8_init_36 kb_120 rfl ?_
  refine r_newa (atype := .float) (nc' := 0) (ns' := 0) 1 120 (by decide) rfl (fun cA => znewc1 cA _ _) tw_154 rfl (by decide) (by decide) (by decide) dX8_init_38 rfl ?_
  refine r_puts 8 5 905 lfX8_29 (by first | (simp only [zKS]; first | assumption | exact zk_nw (by assumption) (by omega)) | assumption | exact zk_nw (by assumption) (by omega) | exact zk_nself _ _ _ | (simp [zKS, zNS, *]; done)) rfl rfl rfl (Or.inr ⟨rfl, rfl⟩) dX8_init_40 rfl ?_
  refine RW.gen (fun w4 e4 => ?_)
  have r4 : nxR w3 w4 s 21 120 905 := by rw [e4]; exact nxR_of (by omega)
  clear e4
  have z4 := r4.1
  have k4 : zk w4 s = 9 := r4.2.2.1.trans k3
  refine r_aload_n dX8_init_43 rfl (zRv_ref _) rfl ?_
  refine r_iconst dX8_init_44 kc_0 rfl ?_
  refine r_puti 8 6 906 lfX8_33 (by first | (simp only [zKS]; first | assumption | exact zk_nw (by assumption) (by omega)) | assumption | exact zk_nw (by assumption) (by omega) | exact zk_nself _ _ _ | (simp [zKS, zNS, *]; done)) rfl rfl rfl (Or.inl rfl) dX8_init_45 rfl ?_
  refine r_vret rfl dX8_init_48 ?_
  have y2 : zsz w1 = s + 2 := by omega
  have y3 : zsz w2 = s + 2 := by omega
  have y4 : zsz w3 = s + 3 := by omega
  unfold nxR at r1 r3 r4
  rw [hs] at r1
  rw [y3] at r3
  rw [y4] at r4
  obtain ⟨-, a2, -, a4, a5, a6, a7, a8, -⟩ := r1
  obtain ⟨-, b2, -, b4⟩ := r2
  obtain ⟨-, c2, -, c4, c5, c6, c7, c8, -⟩ := r3
  obtain ⟨-, d2, -, d4, d5, d6, d7, d8, -⟩ := r4
  have f1 : ∀ b, b < s → zeq w w4 b := fun b hb => (a2 b (by omega) (by omega)).tr ((b2 b (by omega)).tr ((c2 b (by omega) (by omega)).tr (d2 b (by omega) (by omega))))
  have q1 : zeq w1 w4 (s + 1) := (b2 _ (by omega)).tr ((c2 _ (by omega) (by omega)).tr (d2 _ (by omega) (by omega)))
  have q2 : zeq w3 w4 (s + 2) := d2 _ (by omega) (by omega)
  have f2 : ∀ b, b < s → zeq w (zsi w4 906 s (nI 0)) b := fun b hb => (f1 b hb).tr (zeq.si (by omega))
  refine ⟨rfl, rfl, by show zsz w4 = _; omega, f2, ⟨k4, ?_, ?_, d6, q1.k.trans a4, q1.ln.trans a5, q2.k.trans c4, q2.ln.trans c5, d4, d5⟩, ?_⟩
  · show zr w4 900 s = _; rw [d7 _ (by decide), c7 _ (by decide), b4]; exact a6
  · show zr w4 904 s = _; rw [d7 _ (by decide)]; exact c6
  · rw [zi_zsi, if_neg (by omega), d8, c8]; exact i2
