/-! ===== catchUp, count, put ===== -/
/-- as dskE, and the caches stand -/
def dskS (w : ZW) (x : Nat) (T : List PEl) (Rs : List PRule) (A Lo Bk : Nat → Nat) (DC : Nat → PDecl → Prop) (RG : Nat → Nat → Prop) (K : PKn) : Prop := dskE w x T Rs A Lo Bk DC RG K ∧ zi w 1006 x = nI 0 ∧ caught w x T A Rs Lo Bk DC ∧ ∀ e, e < T.length → ∀ p, p < 6 → za w (A e + 6) p = nI 4 ∨ stdE w A T (ldD T Rs) (vD T Rs) e p
theorem layA.nXs {x n : Nat} {A : Nat → Nat} {RG : Nat → Nat → Prop} (h : layA x n A RG) {i : Nat} (hi : i < n) {j : Nat} (hj : 7 ≤ j ∧ j < 9) : ¬ XSt A n (A i + j) := fun ⟨e, h4, h5, h6⟩ => by
  rcases Nat.lt_trichotomy e i with q | q | q
  · have := h.2.1 e i q hi; omega
  · subst q; omega
  · have := h.2.1 i e q h4; omega
theorem ecu.frD {w w' : ZW} {x : Nat} {T : List PEl} {A : Nat → Nat} {RG : Nat → Nat → Prop} {B : List Nat} {K : PKn} (hl : layA x T.length A RG) (h : ecu x A T.length w w') (hB : dskB w x B) (hR : isRk w (x + 7)) (hK : nkW w T.length A K) : dskB w' x B ∧ isRk w' (x + 7) ∧ nkW w' T.length A K := by
  obtain ⟨g1, g2, g3, g4⟩ := h
  have gk : ∀ b, zk w' b = zk w b := fun b => by rw [g2]
  have gl : ∀ b, zln w' b = zln w b := fun b => by rw [g3]
  have gx : ∀ j, j < 13 → _ := fun j hj => g4 (x + j) (hl.ndk hj)
  obtain ⟨h1, ⟨s1, s2, s3, s4, s5, s6, s7, s8, s9, s10⟩, ⟨t1, t2, t3, t4, t5, t6, t7, t8⟩, ho⟩ := hB
  obtain ⟨⟨k1, k2, k3, k4, k5, k6⟩, ⟨a1, a2, a3, a4, a5⟩, l1, l2, l3, l4, l5⟩ := hR
  have r3 := (gx 3 (by decide)).2.1
  have r7 := (gx 7 (by decide)).2.1
  refine ⟨⟨by omega, ⟨(gk _).trans s1, (r3 _).trans s2, (r3 _).trans s3, (r3 _).trans s4, (gk _).trans s5, (gl _).trans s6, (gk _).trans s7, (gl _).trans s8, (gk _).trans s9, (gl _).trans s10⟩, ⟨(gk _).trans t1, (r3 _).trans t2, (gk _).trans t3, (gl _).trans t4, ((gx 3 (by decide)).1 901 (by decide) (fun q => absurd q.2 (by decide))).trans t5, t6, fun i c q => by rw [(gx 4 (by decide)).2.2.2.1]; exact t7 i c q, t8⟩, ho.e g1 g2 g3⟩, ⟨⟨(gk _).trans k1, (r7 _).trans k2, (r7 _).trans k3, (r7 _).trans k4, (r7 _).trans k5, (r7 _).trans k6⟩, ⟨(gk _).trans a1, (gk _).trans a2, (gk _).trans a3, (gk _).trans a4, (gk _).trans a5⟩, (gl _).trans l1, (gl _).trans l2, (gl _).trans l3, (gl _).trans l4, (gl _).trans l5⟩, fun i hi j hj => ?_⟩
  rw [(g4 (A i + 7) (hl.nXs hi (by decide))).2.2.2.1, (g4 (A i + 8) (hl.nXs hi (by decide))).2.2.2.2.2.1]
  exact hK i hi j hj
theorem sp_cu (E : ZE) (sg : ZM) (d : Nat) (hd : 6 ≤ d) (x : Nat) (T : List PEl) (Rs : List PRule) (B : List Nat) (w : ZW) (h : dskI w x T Rs B) : CallQ E MX9_catchUp [.ref x] w sg d 0 0 (fun v w' sg' => v = none ∧ sg = sg' ∧ dskB w' x B ∧ isRk w' (x + 7) ∧ okRs Rs ∧ ∃ A Lo Bk DC RG K, dskS w' x T Rs A Lo Bk DC RG K) := by
  obtain ⟨h1, h2, h3, A, Lo, Bk, DC, RG, K, h6, h7⟩ := h
  rcases h7 with h7 | ⟨h7, h8, h9⟩
  · obtain ⟨g1, g2, g3, g4, ⟨g5, g6⟩, ⟨g7, g8⟩, g9⟩ := h6
    refine (sp_catchUp1 E sg d hd x T A Rs Lo Bk DC RG g2 (fun R hR => (h3 R hR).1) w g1 g3 g4 h7).mono ?_
    rintro v w' sg' ⟨q1, q2, q3, q4, q5, q6, q7, q8⟩
    obtain ⟨f1, f2, f3⟩ := ecu.frD g1.1 q3 h1 h2 g5
    refine ⟨q1, q2, f1, f2, h3, A, Lo, Bk, DC, RG, K, ⟨q4, g2, q5, fun k R hR => ?_, ⟨f3, g6⟩, ⟨fun e he => by rw [q3.1]; exact g7 e he, fun lo hi hh => by rw [q3.1]; exact g8 lo hi hh⟩, g9⟩, q8, q6, fun e he p hp => Or.inl (q7 e he p hp)⟩
    exact (q6.1 k R hR).u
  · refine (sp_catchUp0 E sg d x w h6.1.2.1.1 h7).mono ?_
    rintro v w' sg' ⟨q1, q2, rfl⟩
    exact ⟨q1, q2, h1, h2, h3, A, Lo, Bk, DC, RG, K, h6, h7, h8, h9⟩
theorem dskS.i {w : ZW} {x : Nat} {T : List PEl} {Rs : List PRule} {B : List Nat} {A Lo Bk : Nat → Nat} {DC : Nat → PDecl → Prop} {RG : Nat → Nat → Prop} {K : PKn} (h : dskS w x T Rs A Lo Bk DC RG K) (h1 : dskB w x B) (h2 : isRk w (x + 7)) (h3 : okRs Rs) : dskI w x T Rs B := ⟨h1, h2, h3, A, Lo, Bk, DC, RG, K, h.1, Or.inr h.2⟩
def cntD (what : Int32) (T : List PEl) (Rs : List PRule) (B : List Nat) : Int32 := if what = 0 then nI T.length else if what = 1 then nI Rs.length else if what = 2 then nI B.length else -1
theorem cnt_out {what : Int32} (h0 : what ≠ 0) (h1 : what ≠ 1) (h2 : what ≠ 2) : what.toInt < 0 ∨ 2 < what.toInt := by
  rcases Int.lt_or_le what.toInt 0 with q | q
  · exact Or.inl q
  · rcases Int.lt_or_le 2 what.toInt with q2 | q2
    · exact Or.inr q2
    · exfalso
      rcases (by omega : what.toInt = 0 ∨ what.toInt = 1 ∨ what.toInt = 2) with g | g | g
      · exact h0 (Int32.toInt_inj.mp (g.trans (by decide)))
      · exact h1 (Int32.toInt_inj.mp (g.trans (by decide)))
      · exact h2 (Int32.toInt_inj.mp (g.trans (by decide)))
theorem sp_count (E : ZE) (sg : ZM) (d : Nat) (hd : 1 ≤ d) (x : Nat) (what : Int32) (T : List PEl) (Rs : List PRule) (B : List Nat) (w : ZW) (h : dskI w x T Rs B) : CallQ E MX9_count [.ref x, .int what] w sg d 0 0 (fun v w' sg' => v = some (.int (cntD what T Rs B)) ∧ w = w' ∧ sg = sg') := by
  obtain ⟨k1, k2, k3, k4, k5, k6, k7⟩ := h.desk
  have hB := h.1.2.2.1
  have hk3 : zk w (x + 3) = 9 := hB.1
  refine CallQ.of rfl (by simp [Value.category]) (Nat.le_of_ble_eq_true rfl) ?_
  unfold cntD
  by_cases h0 : what = 0
  · subst h0
    rw [if_pos rfl]
    refine r_iload_n dX9_count_0 rfl rfl ?_
    refine r_tableIn (off := 27) (r := 28) dX9_count_1 (by decide +kernel) (by decide +kernel) (by decide +kernel) (by decide) ?_
    refine r_aload_n dX9_count_28 rfl (zRv_ref _) rfl ?_
    refine r_getiv 9 1 1001 lfX9_15 (by first | (simp only [zKS]; first | assumption) | assumption | exact zk_nself _ _ _ | (simp [zKS, zNS, *]; done)) rfl rfl (by first | (simp only [zGS, zMS, Nat.reduceEqDiff, OfNat.ofNat_ne_ofNat, false_and, and_false, true_and, and_true, and_self, if_true, if_false, ite_true, ite_false, reduceIte, reduceCtorEq]; first | done | assumption | rfl) | assumption | exact z2_eq | exact z1_eq | (simp [zGS, zMS]; first | done | assumption) | rfl) dX9_count_29 rfl ?_
    refine r_iret rfl dX9_count_32 ?_
    exact ⟨rfl, rfl, rfl⟩
  · by_cases h1 : what = 1
    · subst h1
      rw [if_neg h0, if_pos rfl]
      refine r_iload_n dX9_count_0 rfl rfl ?_
      refine r_tableIn (off := 32) (r := 33) dX9_count_1 (by decide +kernel) (by decide +kernel) (by decide +kernel) (by decide) ?_
      refine r_aload_n dX9_count_33 rfl (zRv_ref _) rfl ?_
      refine r_getiv 9 3 1003 lfX9_25 (by first | (simp only [zKS]; first | assumption) | assumption | exact zk_nself _ _ _ | (simp [zKS, zNS, *]; done)) rfl rfl (by first | (simp only [zGS, zMS, Nat.reduceEqDiff, OfNat.ofNat_ne_ofNat, false_and, and_false, true_and, and_true, and_self, if_true, if_false, ite_true, ite_false, reduceIte, reduceCtorEq]; first | done | assumption | rfl) | assumption | exact z2_eq | exact z1_eq | (simp [zGS, zMS]; first | done | assumption) | rfl) dX9_count_34 rfl ?_
      refine r_iret rfl dX9_count_37 ?_
      exact ⟨rfl, rfl, rfl⟩
    · by_cases h2 : what = 2
      · subst h2
        rw [if_neg h0, if_neg h1, if_pos rfl]
        refine r_iload_n dX9_count_0 rfl rfl ?_
        refine r_tableIn (off := 37) (r := 38) dX9_count_1 (by decide +kernel) (by decide +kernel) (by decide +kernel) (by decide) ?_
        refine r_aload_n dX9_count_38 rfl (zRv_ref _) rfl ?_
        refine r_gets 9 4 1004 lfX9_31 (by first | (simp only [zKS]; first | assumption) | assumption | exact zk_nself _ _ _ | (simp [zKS, zNS, *]; done)) rfl rfl (by first | (simp only [zGS, Nat.reduceEqDiff, OfNat.ofNat_ne_ofNat, false_and, and_false, true_and, and_true, and_self, if_true, if_false, ite_true, ite_false, reduceIte, reduceCtorEq]; first | done | assumption) | assumption | exact z2_eq | (simp [zGS]; first | done | assumption)) dX9_count_39 rfl ?_
        refine r_callV MX8_size 0 [] lvX9_142 (Or.inl ⟨8, by decide, (by first | (simp only [zKS]; first | assumption) | assumption | exact zk_nself _ _ _ | (simp [zKS, zNS, *]; done)), rfl⟩) (sp_size E sg (d - 1) (x + 3) (x + 4) w B hB) rfl rfl (by first | exact Nat.le_of_ble_eq_true rfl | (simp [zcat_rf, Value.category]; done)) (by omega) (Nat.le_of_eq (Nat.zero_add _)) (Nat.le_of_eq (Nat.zero_add _)) dX9_count_42 rfl (fun v_ w_ sg_ hq_ => ?_)
        obtain ⟨rfl, rfl, rfl⟩ := hq_
        refine r_iret rfl dX9_count_45 ?_
        exact ⟨rfl, rfl, rfl⟩
      · rw [if_neg h0, if_neg h1, if_neg h2]
        refine r_iload_n dX9_count_0 rfl rfl ?_
        refine r_tableOut (r := 46) dX9_count_1 (cnt_out h0 h1 h2) (by decide) ?_
        refine r_iconst dX9_count_46 kc_m1 rfl ?_
        refine r_iret rfl dX9_count_47 ?_
        exact ⟨rfl, rfl, rfl⟩
theorem sp_put (E : ZE) (sg : ZM) (d : Nat) (hd : 2 ≤ d) (x : Nat) (word n : Int32) (T : List PEl) (Rs : List PRule) (B : List Nat) (w : ZW) (h : dskI w x T Rs B) : CallQ E MX9_put [.ref x, .int word, .int n] w sg d 0 0 (fun v w' sg' => v = some (.int (zb (pPut word n B).isSome)) ∧ dskI w' x T Rs ((pPut word n B).getD B) ∧ sg = sg') := by
  obtain ⟨k1, k2, k3, k4, k5, k6, k7⟩ := h.desk
  have hB := h.1.2.2.1
  have hS := h.1.2.1
  have hk3 : zk w (x + 3) = 9 := hB.1
  refine CallQ.of rfl (by simp [Value.category]) (Nat.le_of_ble_eq_true rfl) ?_
  refine r_aload_n dX9_put_0 rfl (zRv_ref _) rfl ?_
  refine r_gets 9 4 1004 lfX9_31 (by first | (simp only [zKS]; first | assumption) | assumption | exact zk_nself _ _ _ | (simp [zKS, zNS, *]; done)) rfl rfl (by first | (simp only [zGS, Nat.reduceEqDiff, OfNat.ofNat_ne_ofNat, false_and, and_false, true_and, and_true, and_self, if_true, if_false, ite_true, ite_false, reduceIte, reduceCtorEq]; first | done | assumption) | assumption | exact z2_eq | (simp [zGS]; first | done | assumption)) dX9_put_1 rfl ?_
  refine r_iload_n dX9_put_4 rfl rfl ?_
  refine r_iload_n dX9_put_5 rfl rfl ?_
  refine r_callV MX8_append 2 [_, _] lvX9_69 (Or.inl ⟨8, by decide, (by first | (simp only [zKS]; first | assumption) | assumption | exact zk_nself _ _ _ | (simp [zKS, zNS, *]; done)), rfl⟩) (sp_append E sg (d - 1) (x + 3) (x + 4) (by omega) word n w B hB) rfl rfl (by first | exact Nat.le_of_ble_eq_true rfl | (simp [zcat_rf, Value.category]; done)) (by omega) (Nat.le_of_eq (Nat.zero_add _)) (Nat.le_of_eq (Nat.zero_add _)) dX9_put_6 rfl (fun v_ w_ sg_ hq_ => ?_)
  obtain ⟨rfl, rfl, g1, g2⟩ := hq_
  refine r_zret .boolean rfl (zb_nar _) dX9_put_9 ?_
  refine ⟨rfl, h.fr (Nat.le_of_eq g2.1.symm) (fun b _ y1 y2 _ _ => g2.e y1 y2) ?_ g1, rfl⟩
  obtain ⟨s1, s2, s3, s4, s5, s6, s7, s8, s9, s10⟩ := hS
  obtain ⟨f1, f2, f3, f4, f5, f6, f7⟩ := g2
  refine ⟨by rw [f2]; exact s1, by rw [f5]; exact s2, by rw [f5]; exact s3, by rw [f5]; exact s4, by rw [f2]; exact s5, by rw [f3]; exact s6, by rw [f2]; exact s7, by rw [f3]; exact s8, by rw [f2]; exact s9, by rw [f3]; exact s10⟩
