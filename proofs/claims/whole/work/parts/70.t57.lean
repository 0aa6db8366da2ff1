/-! ===== Style's constructor ===== -/
theorem zk_nw {w : ZW} {s k n j : Nat} (h : zk w s = j) (hs : s < zsz w) : zk (znew w k n) s = j := by rw [zk_znew, if_neg (by omega)]; exact h
theorem sp_X7_init (E : ZE) (w : ZW) (sg : ZM) (d : Nat) (hd : 1 ≤ d) (s : Nat) (hs : zsz w = s + 1) (hk : zk w s = 8) : CallQ E MX7_init [.ref s] w sg d 7 50 (fun v w' sg' => v = none ∧ sg = sg' ∧ zsz w' = s + 8 ∧ (∀ b, b < s → zeq w w' b) ∧ isSty w' s ∧ (∀ i, zq w' (s + 1) i = none) ∧ (∀ i, za w' (s + 6) i = 0) ∧ (∀ i, za w' (s + 5) i = 0) ∧ (∀ i, zg w' (s + 4) i = 0) ∧ (∀ i, zg w' (s + 7) i = 0)) := by
  have h0 : s < zsz w := by omega
  refine CallQ.of rfl (by simp [Value.category]) (Nat.le_of_ble_eq_true rfl) ?_
  refine r_aload_n dX7_init_0 rfl (zRv_ref _) rfl ?_
  refine r_objI tw_344 tw_118 tw_119 (by omega) (by first | exact Nat.le_of_ble_eq_true rfl | (simp [zcat_rf, Value.category]; done)) dX7_init_1 rfl ?_
  refine r_aload_n dX7_init_4 rfl (zRv_ref _) rfl ?_
  refine r_bipush dX7_init_5 kb_10 rfl ?_
  refine r_anewa (nc' := 6) (ns' := 40) 6 10 (by decide) rfl tw_345 (fun s h9 => h9.2.2.2.2.2.2.1) rfl (by decide) (by decide) (by decide) dX7_init_7 rfl ?_
  refine r_puts 7 0 800 lfX7_11 (by first | (simp only [zKS]; first | assumption | exact zk_nw (by assumption) (by omega)) | assumption | exact zk_nw (by assumption) (by omega) | exact zk_nself _ _ _ | (simp [zKS, zNS, *]; done)) rfl rfl rfl (Or.inr ⟨rfl, rfl⟩) dX7_init_10 rfl ?_
  refine RW.gen (fun w1 e1 => ?_)
  have r1 : nxR w w1 s 26 10 800 := by rw [e1]; exact nxR_of h0
  clear e1
  have z1 := r1.1
  have k1 : zk w1 s = 8 := r1.2.2.1.trans hk
  refine r_aload_n dX7_init_13 rfl (zRv_ref _) rfl ?_
  refine r_bipush dX7_init_14 kb_10 rfl ?_
  refine r_newa (atype := .int) (nc' := 5) (ns' := 30) 2 10 (by decide) rfl (fun cA => znewc2 cA _ _) tw_153 rfl (by decide) (by decide) (by decide) dX7_init_16 rfl ?_
  refine r_puts 7 1 801 lfX7_17 (by first | (simp only [zKS]; first | assumption | exact zk_nw (by assumption) (by omega)) | assumption | exact zk_nw (by assumption) (by omega) | exact zk_nself _ _ _ | (simp [zKS, zNS, *]; done)) rfl rfl rfl (Or.inr ⟨rfl, rfl⟩) dX7_init_18 rfl ?_
  refine RW.gen (fun w2 e2 => ?_)
  have r2 : nxR w1 w2 s 22 10 801 := by rw [e2]; exact nxR_of (by omega)
  clear e2
  have z2 := r2.1
  have k2 : zk w2 s = 8 := r2.2.2.1.trans k1
  refine r_aload_n dX7_init_21 rfl (zRv_ref _) rfl ?_
  refine r_bipush dX7_init_22 kb_10 rfl ?_
  refine r_newa (atype := .int) (nc' := 4) (ns' := 20) 2 10 (by decide) rfl (fun cA => znewc2 cA _ _) tw_153 rfl (by decide) (by decide) (by decide) dX7_init_24 rfl ?_
  refine r_puts 7 2 802 lfX7_21 (by first | (simp only [zKS]; first | assumption | exact zk_nw (by assumption) (by omega)) | assumption | exact zk_nw (by assumption) (by omega) | exact zk_nself _ _ _ | (simp [zKS, zNS, *]; done)) rfl rfl rfl (Or.inr ⟨rfl, rfl⟩) dX7_init_26 rfl ?_
  refine RW.gen (fun w3 e3 => ?_)
  have r3 : nxR w2 w3 s 22 10 802 := by rw [e3]; exact nxR_of (by omega)
  clear e3
  have z3 := r3.1
  have k3 : zk w3 s = 8 := r3.2.2.1.trans k2
  refine r_aload_n dX7_init_29 rfl (zRv_ref _) rfl ?_
  refine r_bipush dX7_init_30 kb_6 rfl ?_
  refine r_newa (atype := .float) (nc' := 3) (ns' := 14) 1 6 (by decide) rfl (fun cA => znewc1 cA _ _) tw_154 rfl (by decide) (by decide) (by decide) dX7_init_32 rfl ?_
  refine r_puts 7 3 803 lfX7_24 (by first | (simp only [zKS]; first | assumption | exact zk_nw (by assumption) (by omega)) | assumption | exact zk_nw (by assumption) (by omega) | exact zk_nself _ _ _ | (simp [zKS, zNS, *]; done)) rfl rfl rfl (Or.inr ⟨rfl, rfl⟩) dX7_init_34 rfl ?_
  refine RW.gen (fun w4 e4 => ?_)
  have r4 : nxR w3 w4 s 21 6 803 := by rw [e4]; exact nxR_of (by omega)
  clear e4
  have z4 := r4.1
  have k4 : zk w4 s = 8 := r4.2.2.1.trans k3
  refine r_aload_n dX7_init_37 rfl (zRv_ref _) rfl ?_
  refine r_bipush dX7_init_38 kb_6 rfl ?_
  refine r_newa (atype := .int) (nc' := 2) (ns' := 8) 2 6 (by decide) rfl (fun cA => znewc2 cA _ _) tw_153 rfl (by decide) (by decide) (by decide) dX7_init_40 rfl ?_
  refine r_puts 7 4 804 lfX7_28 (by first | (simp only [zKS]; first | assumption | exact zk_nw (by assumption) (by omega)) | assumption | exact zk_nw (by assumption) (by omega) | exact zk_nself _ _ _ | (simp [zKS, zNS, *]; done)) rfl rfl rfl (Or.inr ⟨rfl, rfl⟩) dX7_init_42 rfl ?_
  refine RW.gen (fun w5 e5 => ?_)
  have r5 : nxR w4 w5 s 22 6 804 := by rw [e5]; exact nxR_of (by omega)
  clear e5
  have z5 := r5.1
  have k5 : zk w5 s = 8 := r5.2.2.1.trans k4
  refine r_aload_n dX7_init_45 rfl (zRv_ref _) rfl ?_
  refine r_iconst dX7_init_46 kc_4 rfl ?_
  refine r_newa (atype := .int) (nc' := 1) (ns' := 4) 2 4 (by decide) rfl (fun cA => znewc2 cA _ _) tw_153 rfl (by decide) (by decide) (by decide) dX7_init_47 rfl ?_
  refine r_puts 7 5 805 lfX7_31 (by first | (simp only [zKS]; first | assumption | exact zk_nw (by assumption) (by omega)) | assumption | exact zk_nw (by assumption) (by omega) | exact zk_nself _ _ _ | (simp [zKS, zNS, *]; done)) rfl rfl rfl (Or.inr ⟨rfl, rfl⟩) dX7_init_49 rfl ?_
  refine RW.gen (fun w6 e6 => ?_)
  have r6 : nxR w5 w6 s 22 4 805 := by rw [e6]; exact nxR_of (by omega)
  clear e6
  have z6 := r6.1
  have k6 : zk w6 s = 8 := r6.2.2.1.trans k5
  refine r_aload_n dX7_init_52 rfl (zRv_ref _) rfl ?_
  refine r_iconst dX7_init_53 kc_4 rfl ?_
  refine r_newa (atype := .float) (nc' := 0) (ns' := 0) 1 4 (by decide) rfl (fun cA => znewc1 cA _ _) tw_154 rfl (by decide) (by decide) (by decide) dX7_init_54 rfl ?_
  refine r_puts 7 6 806 lfX7_34 (by first | (simp only [zKS]; first | assumption | exact zk_nw (by assumption) (by omega)) | assumption | exact zk_nw (by assumption) (by omega) | exact zk_nself _ _ _ | (simp [zKS, zNS, *]; done)) rfl rfl rfl (Or.inr ⟨rfl, rfl⟩) dX7_init_56 rfl ?_
  refine RW.gen (fun w7 e7 => ?_)
  have r7 : nxR w6 w7 s 21 4 806 := by rw [e7]; exact nxR_of (by omega)
  clear e7
  have z7 := r7.1
  have k7 : zk w7 s = 8 := r7.2.2.1.trans k6
  refine r_vret rfl dX7_init_59 ?_
  have f1 : ∀ b, b < s → zeq w w7 b := fun b hb => (r1.2.1 b (by omega) (by omega)).tr ((r2.2.1 b (by omega) (by omega)).tr ((r3.2.1 b (by omega) (by omega)).tr ((r4.2.1 b (by omega) (by omega)).tr ((r5.2.1 b (by omega) (by omega)).tr ((r6.2.1 b (by omega) (by omega)).tr (r7.2.1 b (by omega) (by omega)))))))
  have y1 : zsz w = s + 1 := hs
  have y2 : zsz w1 = s + 2 := by omega
  have y3 : zsz w2 = s + 3 := by omega
  have y4 : zsz w3 = s + 4 := by omega
  have y5 : zsz w4 = s + 5 := by omega
  have y6 : zsz w5 = s + 6 := by omega
  have y7 : zsz w6 = s + 7 := by omega
  unfold nxR at r1 r2 r3 r4 r5 r6 r7
  rw [y1] at r1
  rw [y2] at r2
  rw [y3] at r3
  rw [y4] at r4
  rw [y5] at r5
  rw [y6] at r6
  rw [y7] at r7
  obtain ⟨-, a2, -, a4, a5, a6, a7, -, a9, a10, a11⟩ := r1
  obtain ⟨-, b2, -, b4, b5, b6, b7, -, b9, b10, b11⟩ := r2
  obtain ⟨-, c2, -, c4, c5, c6, c7, -, c9, c10, c11⟩ := r3
  obtain ⟨-, d2, -, d4, d5, d6, d7, -, d9, d10, d11⟩ := r4
  obtain ⟨-, e2, -, e4, e5, e6, e7, -, e9, e10, e11⟩ := r5
  obtain ⟨-, g2, -, g4, g5, g6, g7, -, g9, g10, g11⟩ := r6
  obtain ⟨-, i2, -, i4, i5, i6, i7, -, i9, i10, i11⟩ := r7
  have q1 : zeq w1 w7 (s + 1) := (b2 _ (by omega) (by omega)).tr ((c2 _ (by omega) (by omega)).tr ((d2 _ (by omega) (by omega)).tr ((e2 _ (by omega) (by omega)).tr ((g2 _ (by omega) (by omega)).tr (i2 _ (by omega) (by omega))))))
  have q2 : zeq w2 w7 (s + 2) := (c2 _ (by omega) (by omega)).tr ((d2 _ (by omega) (by omega)).tr ((e2 _ (by omega) (by omega)).tr ((g2 _ (by omega) (by omega)).tr (i2 _ (by omega) (by omega)))))
  have q3 : zeq w3 w7 (s + 3) := (d2 _ (by omega) (by omega)).tr ((e2 _ (by omega) (by omega)).tr ((g2 _ (by omega) (by omega)).tr (i2 _ (by omega) (by omega))))
  have q4 : zeq w4 w7 (s + 4) := (e2 _ (by omega) (by omega)).tr ((g2 _ (by omega) (by omega)).tr (i2 _ (by omega) (by omega)))
  have q5 : zeq w5 w7 (s + 5) := (g2 _ (by omega) (by omega)).tr (i2 _ (by omega) (by omega))
  have q6 : zeq w6 w7 (s + 6) := i2 _ (by omega) (by omega)
  refine ⟨rfl, rfl, by omega, f1, ⟨⟨k7, ?_, ?_, ?_, ?_, ?_, ?_, i6⟩, ⟨q1.k.trans a4, q2.k.trans b4, q3.k.trans c4, q4.k.trans d4, q5.k.trans e4, q6.k.trans g4, i4⟩, ⟨q1.ln.trans a5, q2.ln.trans b5, q3.ln.trans c5, q4.ln.trans d5, q5.ln.trans e5, q6.ln.trans g5, i5⟩⟩, fun i => by rw [q1.q]; exact a9 i, fun i => by rw [q6.a]; exact g10 i, fun i => by rw [q5.a]; exact e10 i, fun i => by rw [q4.g]; exact d11 i, i11⟩
  · rw [i7 _ (by decide), g7 _ (by decide), e7 _ (by decide), d7 _ (by decide), c7 _ (by decide), b7 _ (by decide)]; exact a6
  · rw [i7 _ (by decide), g7 _ (by decide), e7 _ (by decide), d7 _ (by decide), c7 _ (by decide)]; exact b6
  · rw [i7 _ (by decide), g7 _ (by decide), e7 _ (by decide), d7 _ (by decide)]; exact c6
  · rw [i7 _ (by decide), g7 _ (by decide), e7 _ (by decide)]; exact d6
  · rw [i7 _ (by decide), g7 _ (by decide)]; exact e6
  · rw [i7 _ (by decide)]; exact g6
