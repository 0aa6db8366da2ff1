/-! ===== StyleDesk's constructor ===== -/
theorem TBs.z {w w' : ZW} {tb tx sp nm : Nat} (h : TBs w tb tx sp nm) (h1 : zeq w w' tb) (h2 : zeq w w' tx) (h3 : zeq w w' sp) (h4 : zeq w w' nm) : TBs w' tb tx sp nm := by
  obtain ⟨g1, g2, g3, g4, g5, g6, g7, g8, g9, g10⟩ := h
  exact ⟨h1.k.trans g1, (h1.r _).trans g2, (h1.r _).trans g3, (h1.r _).trans g4, h2.k.trans g5, h2.ln.trans g6, h3.k.trans g7, h3.ln.trans g8, h4.k.trans g9, h4.ln.trans g10⟩
theorem isRk.z {w w' : ZW} {k : Nat} (h : isRk w k) (e : ∀ i, i < 6 → zeq w w' (k + i)) : isRk w' k := by
  obtain ⟨⟨k1, k2, k3, k4, k5, k6⟩, ⟨a1, a2, a3, a4, a5⟩, l1, l2, l3, l4, l5⟩ := h
  have e0 := e 0 (by decide)
  have e1 := e 1 (by decide)
  have e2 := e 2 (by decide)
  have e3 := e 3 (by decide)
  have e4 := e 4 (by decide)
  have e5 := e 5 (by decide)
  exact ⟨⟨e0.k.trans k1, (e0.r _).trans k2, (e0.r _).trans k3, (e0.r _).trans k4, (e0.r _).trans k5, (e0.r _).trans k6⟩, ⟨e1.k.trans a1, e2.k.trans a2, e3.k.trans a3, e4.k.trans a4, e5.k.trans a5⟩, e1.ln.trans l1, e2.ln.trans l2, e3.ln.trans l3, e4.ln.trans l4, e5.ln.trans l5⟩
theorem sp_X9_init (E : ZE) (w : ZW) (sg : ZM) (d : Nat) (hd : 3 ≤ d) (x : Nat) (hz : zsz w = x + 1) (hk : zk w x = 10) : CallQ E MX9_init [.ref x] w sg d 12 666 (fun v w' sg' => v = none ∧ sg = sg' ∧ zsz w' = x + 13 ∧ (∀ b, b < x → zeq w w' b) ∧ isDesk w' x 0 0 ∧ (zk w' (x + 1) = 27 ∧ zln w' (x + 1) = 24) ∧ (zk w' (x + 2) = 28 ∧ zln w' (x + 2) = 16) ∧ TBs w' (x + 3) (x + 4) (x + 5) (x + 6) ∧ zi w' 901 (x + 3) = nI 0 ∧ isRk w' (x + 7) ∧ zi w' 1006 x = nI 0) := by
  refine CallQ.of rfl (by simp [Value.category]) (Nat.le_of_ble_eq_true rfl) ?_
  refine r_aload_n dX9_init_0 rfl (zRv_ref _) rfl ?_
  refine r_objI tw_117 tw_118 tw_119 (by omega) (by first | exact Nat.le_of_ble_eq_true rfl | (simp [zcat_rf, Value.category]; done)) dX9_init_1 rfl ?_
  refine r_aload_n dX9_init_4 rfl (zRv_ref _) rfl ?_
  refine r_bipush dX9_init_5 kb_24 rfl ?_
  refine r_anewa (nc' := 11) (ns' := 642) 7 24 (by decide) rfl tw_120 (fun s h9 => h9.2.2.2.2.2.2.2.1) rfl (by decide) (by decide) (by decide) dX9_init_7 rfl ?_
  refine r_puts 9 0 1000 lfX9_11 (by first | (simp only [zKS]; first | assumption | exact zk_nw (by assumption) (by omega)) | assumption | exact zk_nw (by assumption) (by omega) | exact zk_nself _ _ _ | (simp [zKS, zNS, *]; done)) rfl rfl rfl (Or.inr ⟨rfl, rfl⟩) dX9_init_10 rfl ?_
  refine RW.gen (fun w1 e1 => ?_)
  have r1 : nxR w w1 x 27 24 1000 := by rw [e1]; exact nxR_of (by omega)
  clear e1
  have z1 := r1.1
  have k1 : zk w1 x = 10 := r1.2.2.1.trans hk
  refine r_aload_n dX9_init_13 rfl (zRv_ref _) rfl ?_
  refine r_iconst dX9_init_14 kc_0 rfl ?_
  refine r_puti 9 1 1001 lfX9_15 (by first | (simp only [zKS]; first | assumption | exact zk_nw (by assumption) (by omega)) | assumption | exact zk_nw (by assumption) (by omega) | exact zk_nself _ _ _ | (simp [zKS, zNS, *]; done)) rfl rfl rfl (Or.inl rfl) dX9_init_15 rfl ?_
  refine RW.gen (fun w2 e2 => ?_)
  have r2 : (∀ b, b ≠ x → zeq w1 w2 b) ∧ zsz w2 = zsz w1 ∧ zk w2 x = zk w1 x ∧ (∀ f, zr w2 f x = zr w1 f x) ∧ zi w2 1001 x = nI 0 := by rw [e2]; exact ⟨fun b hb => zeq.si hb, rfl, rfl, fun _ => rfl, z2_eq⟩
  clear e2
  have z2 := r2.2.1
  have k2 : zk w2 x = 10 := r2.2.2.1.trans k1
  refine r_aload_n dX9_init_18 rfl (zRv_ref _) rfl ?_
  refine r_bipush dX9_init_19 kb_16 rfl ?_
  refine r_anewa (nc' := 10) (ns' := 626) 8 16 (by decide) rfl tw_122 (fun s h9 => h9.2.2.2.2.2.2.2.2.1) rfl (by decide) (by decide) (by decide) dX9_init_21 rfl ?_
  refine r_puts 9 2 1002 lfX9_21 (by first | (simp only [zKS]; first | assumption | exact zk_nw (by assumption) (by omega)) | assumption | exact zk_nw (by assumption) (by omega) | exact zk_nself _ _ _ | (simp [zKS, zNS, *]; done)) rfl rfl rfl (Or.inr ⟨rfl, rfl⟩) dX9_init_24 rfl ?_
  refine RW.gen (fun w3 e3 => ?_)
  have r3 : nxR w2 w3 x 28 16 1002 := by rw [e3]; exact nxR_of (by omega)
  clear e3
  have z3 := r3.1
  have k3 : zk w3 x = 10 := r3.2.2.1.trans k2
  refine r_aload_n dX9_init_27 rfl (zRv_ref _) rfl ?_
  refine r_iconst dX9_init_28 kc_0 rfl ?_
  refine r_puti 9 3 1003 lfX9_25 (by first | (simp only [zKS]; first | assumption | exact zk_nw (by assumption) (by omega)) | assumption | exact zk_nw (by assumption) (by omega) | exact zk_nself _ _ _ | (simp [zKS, zNS, *]; done)) rfl rfl rfl (Or.inl rfl) dX9_init_29 rfl ?_
  refine RW.gen (fun w4 e4 => ?_)
  have r4 : (∀ b, b ≠ x → zeq w3 w4 b) ∧ zsz w4 = zsz w3 ∧ zk w4 x = zk w3 x ∧ (∀ f, zr w4 f x = zr w3 f x) ∧ zi w4 1003 x = nI 0 ∧ (∀ f, f ≠ 1003 → zi w4 f x = zi w3 f x) := by rw [e4]; exact ⟨fun b hb => zeq.si hb, rfl, rfl, fun _ => rfl, z2_eq, fun f hf => by rw [zi_zsi, if_neg (fun q => hf q.1)]⟩
  clear e4
  have z4 := r4.2.1
  have k4 : zk w4 x = 10 := r4.2.2.1.trans k3
  refine r_aload_n dX9_init_32 rfl (zRv_ref _) rfl ?_
  refine r_new (nc' := 9) (ns' := 619) 8 lnX9_28 (by decide) (by decide) dX9_init_33 rfl ?_
  refine r_dup dX9_init_36 (by first | rfl | exact zcat_rf _) rfl ?_
  refine r_callI MX8_init 0 (a := 6) (a' := 259) [] liX9_30 (sp_X8_init E _ sg (d - 1) (by omega) (zsz w4) rfl (zk_nself _ _ _)) rfl rfl (by first | exact Nat.le_of_ble_eq_true rfl | (simp [zcat_rf, Value.category]; done)) (by omega) (by decide) (by decide) dX9_init_37 rfl (fun v_ w_ sg_ hq_ => ?_)
  obtain ⟨rfl, rfl, g1, g2, g3, g4⟩ := hq_
  obtain ⟨w5, hw5⟩ : ∃ y, y = w_ := ⟨_, rfl⟩
  subst hw5
  have gx := (zeq.nw (w := w4) (k := 8 + 1) (n := 0) (b := x) (by omega)).tr (g2 x (by omega))
  have k5 : zk w5 x = 10 := gx.k.trans k4
  refine r_puts 9 4 1004 lfX9_31 (by first | (simp only [zKS]; first | assumption | exact zk_nw (by assumption) (by omega)) | assumption | exact zk_nw (by assumption) (by omega) | exact zk_nself _ _ _ | (simp [zKS, zNS, *]; done)) rfl rfl rfl (Or.inr ⟨rfl, rfl⟩) dX9_init_40 rfl ?_
  refine RW.gen (fun w6 e6 => ?_)
  have r6 : (∀ b, b ≠ x → zeq w5 w6 b) ∧ zsz w6 = zsz w5 ∧ zk w6 x = zk w5 x ∧ (∀ f, f ≠ 1004 → zr w6 f x = zr w5 f x) ∧ zr w6 1004 x = some (zsz w4) ∧ (∀ f, zi w6 f x = zi w5 f x) := by rw [e6]; exact ⟨fun b hb => zeq.sr hb, rfl, rfl, fun f hf => by rw [zr_zsr, if_neg (fun q => hf q.1)], z2_eq, fun _ => rfl⟩
  clear e6
  have z6 := r6.2.1
  have k6 : zk w6 x = 10 := r6.2.2.1.trans k5
  refine r_aload_n dX9_init_43 rfl (zRv_ref _) rfl ?_
  refine r_new (nc' := 5) (ns' := 249) 4 lnX9_35 (by decide) (by decide) dX9_init_44 rfl ?_
  refine r_dup dX9_init_47 (by first | rfl | exact zcat_rf _) rfl ?_
  refine r_callI MX4_init 0 (a := 0) (a' := 3) [] liX9_37 (sp_X4_init E _ sg (d - 1) (by omega) (zsz w6) rfl (zk_nself _ _ _)) rfl rfl (by first | exact Nat.le_of_ble_eq_true rfl | (simp [zcat_rf, Value.category]; done)) (by omega) (by decide) (by decide) dX9_init_48 rfl (fun v_ w_ sg_ hq_ => ?_)
  obtain ⟨rfl, rfl, j1, j2, j3⟩ := hq_
  obtain ⟨w7, hw7⟩ : ∃ y, y = w_ := ⟨_, rfl⟩
  subst hw7
  have jx := (zeq.nw (w := w6) (k := 4 + 1) (n := 0) (b := x) (by omega)).tr (j2 x (by omega))
  have k7 : zk w7 x = 10 := jx.k.trans k6
  refine r_puts 9 5 1005 lfX9_38 (by first | (simp only [zKS]; first | assumption | exact zk_nw (by assumption) (by omega)) | assumption | exact zk_nw (by assumption) (by omega) | exact zk_nself _ _ _ | (simp [zKS, zNS, *]; done)) rfl rfl rfl (Or.inr ⟨rfl, rfl⟩) dX9_init_51 rfl ?_
  refine r_aload_n dX9_init_54 rfl (zRv_ref _) rfl ?_
  refine r_iconst dX9_init_55 kc_0 rfl ?_
  refine r_putz 9 6 1006 (by first | exact Or.inl rfl | exact Or.inr rfl | exact zb01 _ | assumption) lfX9_42 (by first | (simp only [zKS]; first | assumption | exact zk_nw (by assumption) (by omega)) | assumption | exact zk_nw (by assumption) (by omega) | exact zk_nself _ _ _ | (simp [zKS, zNS, *]; done)) rfl rfl rfl (Or.inl rfl) dX9_init_56 rfl ?_
  refine r_vret rfl dX9_init_59 ?_
  have y1 : zsz w1 = x + 2 := by omega
  have y3 : zsz w2 = x + 2 := by omega
  have y4 : zsz w4 = x + 3 := by omega
  unfold nxR at r1 r3
  rw [hz] at r1
  rw [y3] at r3
  rw [y4] at g1 g2 g3 g4 r6
  have y6 : zsz w6 = x + 7 := by omega
  rw [y6] at j1 j2 j3
  obtain ⟨-, a2, -, a4, a5, a6, a7, a8, -⟩ := r1
  obtain ⟨b1, -, -, b4, b5⟩ := r2
  obtain ⟨-, c2, -, c4, c5, c6, c7, c8, -⟩ := r3
  obtain ⟨d1, -, -, d4, d5, d6⟩ := r4
  obtain ⟨f1, -, -, f4, f5, f6⟩ := r6
  have t7 : ∀ b, b ≠ x → zeq w7 (zsi (zsr w7 1005 x (some (x + 7))) 1006 x (nI 0)) b := fun b hb => (zeq.sr hb).tr (zeq.si hb)
  have t5 : ∀ b, b ≠ x → b < x + 7 → zeq w5 (zsi (zsr w7 1005 x (some (x + 7))) 1006 x (nI 0)) b := fun b hb h2 => (f1 b hb).tr (((zeq.nw (by omega)).tr (j2 b h2)).tr (t7 b hb))
  have t4 : ∀ b, b ≠ x → b < x + 3 → zeq w4 (zsi (zsr w7 1005 x (some (x + 7))) 1006 x (nI 0)) b := fun b hb h2 => ((zeq.nw (by omega)).tr (g2 b h2)).tr (t5 b hb (by omega))
  have t2 : ∀ b, b ≠ x → b < x + 2 → zeq w2 (zsi (zsr w7 1005 x (some (x + 7))) 1006 x (nI 0)) b := fun b hb h2 => ((c2 b hb (by omega)).tr (d1 b hb)).tr (t4 b hb (by omega))
  have zr7 : ∀ f, f ≠ 1004 → zr w7 f x = zr w4 f x := fun f hf => (jx.r f).trans ((f4 f hf).trans (gx.r f))
  have zi7 : ∀ f, zi w7 f x = zi w4 f x := fun f => (jx.i f).trans ((f6 f).trans (gx.i f))
  rw [y6]
  have u1 := (b1 (x + 1) (by omega)).tr (t2 (x + 1) (by omega) (by omega))
  have u2 := (d1 (x + 2) (by omega)).tr (t4 (x + 2) (by omega) (by omega))
  refine ⟨rfl, rfl, j1, fun b hb => ((a2 b (by omega) (by omega)).tr (b1 b (by omega))).tr (t2 b (by omega) (by omega)), ⟨k7, ?_, ?_, ?_, ?_, ?_, ?_⟩, ⟨u1.k.trans a4, u1.ln.trans a5⟩, ⟨u2.k.trans c4, u2.ln.trans c5⟩, g3.z (t5 _ (by omega) (by omega)) (t5 _ (by omega) (by omega)) (t5 _ (by omega) (by omega)) (t5 _ (by omega) (by omega)), ((t5 _ (by omega) (by omega)).i _).trans g4, j3.z (fun i hi => t7 _ (by omega)), z2_eq⟩
  · show zr (zsr w7 1005 x (some (x + 7))) 1000 x = _
    rw [zr_zsr, if_neg (by omega), zr7 _ (by decide), d4, c7 _ (by decide), b4]
    exact a6
  · rw [zi_zsi, if_neg (by omega)]
    show zi w7 1001 x = _
    rw [zi7, d6 _ (by decide), c8]
    exact b5
  · show zr (zsr w7 1005 x (some (x + 7))) 1002 x = _
    rw [zr_zsr, if_neg (by omega), zr7 _ (by decide), d4]
    exact c6
  · rw [zi_zsi, if_neg (by omega)]
    show zi w7 1003 x = _
    rw [zi7]
    exact d5
  · show zr (zsr w7 1005 x (some (x + 7))) 1004 x = _
    rw [zr_zsr, if_neg (by omega)]
    exact (jx.r 1004).trans f5
  · exact z2_eq
