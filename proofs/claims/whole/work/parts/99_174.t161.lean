/-! ===== the law from its entry to its loop ===== -/
theorem zW2_zeq {w : ZW} {mo b : Nat} (h : ¬ (mo ≤ b ∧ b ≤ mo + 40)) : zeq w (zW2 w mo) b := ⟨zk_W2 h, zsame.rf⟩
theorem lw_body (E : ZE) (b L d x : Nat) (xs : Nat → Int32) (hd : 41 ≤ d) (hb : b < E.2.1) (hL : L ≤ 240) (w : ZW) (sg : ZM) (hz : zsz w = x) : RW E ML_law 0 [some (.ref b), none, none, none, none, none, none, none] [] w sg d 12920 113817 (PScr b L xs (PN (zE2 E (x + 13)) (fun v _ _ => v = some (.int 1)))) := by
  refine r_new (nc' := 12919) (ns' := 113810) 9 lnL_8 (by decide) (by decide) dL_law_0 rfl ?_
  refine RW.gen (fun w1 e1 => ?_)
  rw [hz]
  have z1 : zsz w1 = x + 1 := by rw [e1, zsz_znew, hz]
  have q1 : zk w1 x = 10 := by rw [e1, zk_znew, hz, if_pos rfl]
  clear e1
  refine r_dup dL_law_3 (by first | rfl | exact zcat_rf _) rfl ?_
  refine r_callI MX9_init 0 (a := 12907) (a' := 113144) [] liL_45 (sp_X9_init E w1 sg (d - 1) (by omega) x z1 q1) rfl rfl (by first | exact Nat.le_of_ble_eq_true rfl | (simp [zcat_rf, Value.category]; done)) (by omega) (by decide) (by decide) dL_law_4 rfl (fun v_ w_ sg_ hq_ => ?_)
  obtain ⟨rfl, rfl, z2, -, g1, g2, g3, g4, g5, g6, g7⟩ := hq_
  obtain ⟨w2, hw2⟩ : ∃ y, y = w_ := ⟨_, rfl⟩
  subst hw2
  refine r_astore_n (ls' := [_, _, _, _, _, _, _, _]) dL_law_7 (Nat.le_of_ble_eq_true rfl) (zRv_ref _) rfl rfl ?_
  refine r_new (nc' := 12906) (ns' := 113087) 10 lnL_46 (by decide) (by decide) dL_law_8 rfl ?_
  refine RW.gen (fun w3 e3 => ?_)
  rw [z2]
  have z3 : zsz w3 = x + 13 + 1 := by rw [e3, zsz_znew, z2]
  have q3 : zk w3 (x + 13) = 11 := by rw [e3, zk_znew, z2, if_pos rfl]
  have i3 : ∀ f, zi w3 f (x + 13) = 0 := fun f => by rw [e3, zi_znew, z2, if_pos rfl]
  have y3 : ∀ a, a < x + 13 → zeq w2 w3 a := fun a ha => by rw [e3]; exact zeq.nw (by omega)
  clear e3
  refine r_dup dL_law_11 (by first | rfl | exact zcat_rf _) rfl ?_
  refine r_callI MX10_init 0 (a := 12866) (a' := 102242) [] liL_48 (sp_X10_init E w3 sg (d - 1) (by omega) (x + 13) z3 q3 i3) rfl rfl (by first | exact Nat.le_of_ble_eq_true rfl | (simp [zcat_rf, Value.category]; done)) (by omega) (by decide) (by decide) dL_law_12 rfl (fun v_ w_ sg_ hq_ => ?_)
  obtain ⟨rfl, rfl, hc⟩ := hq_
  obtain ⟨w4, hw4⟩ : ∃ y, y = w_ := ⟨_, rfl⟩
  subst hw4
  refine r_astore_n (ls' := [_, _, _, _, _, _, _, _]) dL_law_15 (Nat.le_of_ble_eq_true rfl) (zRv_ref _) rfl rfl ?_
  refine RW.conv hc ?_
  have hI := mdI_0 hc
  obtain ⟨w5, e5⟩ : ∃ y, y = zW2 w4 (x + 13) := ⟨_, rfl⟩
  rw [← e5]
  have z5 : zsz w5 = x + 54 := by rw [e5]; exact hc.1.trans (by omega)
  have y5 : ∀ a, a < x + 13 → zeq w2 w5 a := fun a ha => by rw [e5]; exact ((y3 a ha).tr (hc.2.1 a ha)).tr (zW2_zeq (by omega))
  clear e5
  refine r_iconst dL_law_16 kc_1 rfl ?_
  refine r_newa (atype := .long) (nc' := 12865) (ns' := 102241) 4 1 (by decide) rfl (fun cA => znewc4 cA _ _) tw_1361 rfl (by decide) (by decide) (by decide) dL_law_17 rfl ?_
  refine RW.gen (fun w6 e6 => ?_)
  rw [z5]
  have z6 : zsz w6 = x + 55 := by rw [e6, zsz_znew, z5]
  have a6 : zk w6 (x + 54) = 24 := by rw [e6, zk_znew, z5, if_pos rfl]
  have b6 : zln w6 (x + 54) = 1 := by rw [e6, zln_znew, z5, if_pos rfl]
  have y6 : ∀ a, a < x + 13 → zeq w2 w6 a := fun a ha => by rw [e6]; exact (y5 a ha).tr (zeq.nw (by omega))
  clear e6
  refine r_astore_n (ls' := [_, _, _, _, _, _, _, _]) dL_law_19 (Nat.le_of_ble_eq_true rfl) (zRv_ref _) rfl rfl ?_
  refine r_iconst dL_law_20 kc_1 rfl ?_
  refine r_newa (atype := .double) (nc' := 12864) (ns' := 102240) 5 1 (by decide) rfl (fun cA => znewc5 cA _ _) tw_1362 rfl (by decide) (by decide) (by decide) dL_law_21 rfl ?_
  refine RW.gen (fun w7 e7 => ?_)
  rw [z6]
  have z7 : zsz w7 = x + 56 := by rw [e7, zsz_znew, z6]
  have a7 : zk w7 (x + 55) = 25 := by rw [e7, zk_znew, z6, if_pos rfl]
  have b7 : zln w7 (x + 55) = 1 := by rw [e7, zln_znew, z6, if_pos rfl]
  have c7 : zeq w6 w7 (x + 54) := by rw [e7]; exact zeq.nw (by omega)
  have y7 : ∀ a, a < x + 13 → zeq w2 w7 a := fun a ha => by rw [e7]; exact (y6 a ha).tr (zeq.nw (by omega))
  clear e7
  have ho : zOut w7 (x + 54) := ⟨by omega, c7.k.trans a6, c7.ln.trans b6, a7, b7⟩
  have hD : dskI w7 x [] [] [] := dsk_0 (by omega) ho (g1.z (y7 x (by omega))) ⟨(y7 (x + 1) (by omega)).k.trans g2.1, (y7 (x + 1) (by omega)).ln.trans g2.2⟩ ⟨(y7 (x + 2) (by omega)).k.trans g3.1, (y7 (x + 2) (by omega)).ln.trans g3.2⟩ (g4.z (y7 _ (by omega)) (y7 _ (by omega)) (y7 _ (by omega)) (y7 _ (by omega))) (((y7 (x + 3) (by omega)).i 901).trans g5) (g6.z (fun i hi => y7 _ (by omega))) (((y7 x (by omega)).i 1006).trans g7)
  refine r_astore (ls' := [_, _, _, _, _, _, _, _]) dL_law_23 (Nat.le_of_ble_eq_true rfl) (zRv_ref _) rfl rfl ?_
  refine r_iconst dL_law_25 kc_0 rfl ?_
  refine r_istore (ls' := [_, _, _, _, _, _, _, _]) dL_law_26 (Nat.le_of_ble_eq_true rfl) rfl rfl ?_
  exact lw_loop (zE2 E (x + 13)) b x L d xs (by omega) hb rfl hL 48 0 w7 _ [] [] [] none none (by omega) (by omega) ⟨hD, hI, fun e he hl => absurd hl (Nat.not_lt_zero e)⟩
