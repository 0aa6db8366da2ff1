/-! ===== Reckoner.workOut ===== -/
def resK (T : List PEl) (e0 : Nat) (K : PKn) : PKn := fun e n => if onP T (e0 + 1) e0 e = true then (4, (K e n).2) else K e n
theorem resK_t {T : List PEl} {e0 e n : Nat} {K : PKn} (h : onP T (e0 + 1) e0 e = true) : resK T e0 K e n = (4, (K e n).2) := if_pos h
theorem resK_f {T : List PEl} {e0 e n : Nat} {K : PKn} (h : ¬ onP T (e0 + 1) e0 e = true) : resK T e0 K e n = K e n := if_neg h
theorem sp_workOut (E : ZE) (sg : ZM) (d : Nat) (hd : 3 ≤ d) (x nr : Nat) (T : List PEl) (A : Nat → Nat) (DC : Nat → PDecl → Prop) (RG : Nat → Nat → Prop) (hWD : ∀ a D, DC a D → D.2.1 = 2 → okD D) (L : Nat → Nat → PLd) (wanted : Nat) (hwt : wanted < 2) (em whole : UInt32) (hem : fFin em) (hwh : fFin whole) (a0 : Nat) (D0 : PDecl) (hD0 : DC a0 D0) (hs0 : D0.2.1 = 2) (e0 : Nat) (he0 : e0 < T.length) (w : ZW) (K : PKn) (oc : Nat) (hE : passE w x nr T A DC RG L K wanted em whole oc) (hK : okK K) : CallQ E MX4_workOut [.ref (x + 7), .ref a0, .ref (A e0)] w sg d 0 0 (woQ w sg x nr T A DC RG L wanted em whole D0 e0) := by
  have hwf := hE.1.1.2.2.1.1
  have hlay := hE.1.1.1
  have hP := onP_path hwf (f := e0 + 1) (e0 := e0) (Nat.lt_succ_self e0)
  have hQl : ∀ e, onP T (e0 + 1) e0 e = true → e < T.length := fun e h => Nat.lt_of_le_of_lt (onP_le hwf h) he0
  refine CallQ.of rfl (by simp [Value.category]) (Nat.le_of_ble_eq_true rfl) ?_
  refine r_aload_n dX4_workOut_0 rfl (by first | exact zRv_ref _ | exact zRv_null | exact zRv_rf _ | assumption) rfl ?_
  refine r_astore_n (ls' := [_, _, _, _, _, _, _, _]) dX4_workOut_1 (Nat.le_of_ble_eq_true rfl) (by first | exact zRv_ref _ | exact zRv_null | exact zRv_rf _ | assumption) rfl rfl ?_
  refine rwo_1 E sg d (by omega) (x + 7) a0 (A e0) x nr T A DC RG _ (e0 + 1) e0 w (Nat.lt_succ_self e0) he0 hE.1.1 (fun w1 h1 h2 => ?_)
  have hX : ech (X0 x A T.length) w w1 := h1.to (fun a ⟨e, q1, q2⟩ => Or.inr ⟨e, hQl e q1, Or.inl q2⟩)
  have hE1 := hE.1.1.w hX
  have hnX : ∀ j, 7 ≤ j → j < 13 → ¬ (∃ e', onP T (e0 + 1) e0 e' = true ∧ x + j = A e' + 7) := fun j q1 q2 ⟨e', q3, q4⟩ => by
    have := hlay.1 e' (hQl e' q3)
    omega
  have hrk : isRk w1 (x + 7) := by
    have q := hE.2.1
    unfold isRk at q ⊢
    rw [h1.2.1, h1.2.2.1, (h1.2.2.2 (x + 7) (hnX 7 (by decide) (by decide))).r, (h1.2.2.2 (x + 7) (hnX 7 (by decide) (by decide))).r, (h1.2.2.2 (x + 7) (hnX 7 (by decide) (by decide))).r, (h1.2.2.2 (x + 7) (hnX 7 (by decide) (by decide))).r, (h1.2.2.2 (x + 7) (hnX 7 (by decide) (by decide))).r]
    exact q
  have kr := hrk.1.1
  have e7 := h1.2.2.2 (x + 7) (hnX 7 (by decide) (by decide))
  have u1 := (e7.i 501).trans hE.2.2.1
  have u2 := (e7.f 502).trans hE.2.2.2.1
  have u3 := (e7.f 503).trans hE.2.2.2.2.1
  have e9 : ech (X0 x A T.length) w1 (zsi w1 509 (x + 7) (nI 0)) := ech.si (Or.inl ⟨by omega, by omega⟩)
  have hL1 := hE.1.2.1.w hE.1.1 hX
  have hpE : passE (zsi w1 509 (x + 7) (nI 0)) x nr T A DC RG L (resK T e0 K) wanted em whole 0 := by
    refine ⟨⟨hE1.w e9, hL1.w hE1 e9, fun e' he' i hi => ?_⟩, hrk, ?_, u2, u3, z2_eq⟩
    · obtain ⟨q1, q2⟩ := hE.1.2.2 e' he' i hi
      refine ⟨?_, ?_⟩
      · show za w1 (A e' + 7) i = _
        by_cases q : onP T (e0 + 1) e0 e' = true
        · rw [resK_t q]; exact h2 e' q i hi
        · rw [resK_f q, (h1.2.2.2 (A e' + 7) (fun ⟨e2, g1, g2⟩ => q (by rw [(hlay.inj (a := 7) (b := 7) he' (hQl e2 g1) (by decide) (by decide) g2).1]; exact g1))).a]; exact q1
      · show zg w1 (A e' + 8) i = _
        rw [(h1.2.2.2 (A e' + 8) (fun ⟨e2, g1, g2⟩ => by have := (hlay.inj (a := 8) (b := 7) he' (hQl e2 g1) (by decide) (by decide) g2).2; omega)).g]
        by_cases q : onP T (e0 + 1) e0 e' = true
        · rw [resK_t q]; exact q2
        · rw [resK_f q]; exact q2
    · rw [zi_zsi, if_neg (fun q => absurd q.1 (by decide))]; exact u1
  have hI : woI (zsi w1 509 (x + 7) (nI 0)) x nr T A DC RG L wanted em whole (onP T (e0 + 1) e0) (resK T e0 K) [] 0 := by
    refine ⟨hpE, fun e n => ?_, fun e n D q1 q2 q3 => ?_, trivial, (fun q hq => by cases hq), fun e n q1 q2 q3 => ?_, List.nodup_nil, trivial, ?_, ?_⟩
    · by_cases q : onP T (e0 + 1) e0 e = true
      · rw [resK_t q]; exact ⟨Nat.le_refl 4, fun g => absurd (show (4 : Nat) ≤ 1 from g) (by decide)⟩
      · rw [resK_f q]; exact hK e n
    · rw [resK_t q1]; exact ⟨fun g => absurd (show (4 : Nat) ≤ 1 from g) (by decide), fun g => absurd (show (4 : Nat) = 2 from g) (by decide)⟩
    · rw [resK_t q1] at q3; exact absurd (show (4 : Nat) = 3 from q3) (by decide)
    · have := unkN_le (onP T (e0 + 1) e0) (resK T e0 K)
      rw [List.length_nil]; omega
    · have := unkN_le (onP T (e0 + 1) e0) (resK T e0 K)
      rw [List.length_nil]; omega
  refine r_aload_n dX4_workOut_25 rfl (zRv_ref _) rfl ?_
  refine r_iconst dX4_workOut_26 kc_0 rfl ?_
  refine r_puti 4 9 509 lfX4_88 (by first | (simp only [zKS]; first | assumption) | assumption | exact zk_nself _ _ _ | (simp [zKS, zNS, *]; done)) rfl rfl rfl (Or.inl rfl) dX4_workOut_27 rfl ?_
  refine r_iconst dX4_workOut_30 kc_0 rfl ?_
  refine r_istore_n (ls' := [_, _, _, _, _, _, _, _]) dX4_workOut_31 (Nat.le_of_ble_eq_true rfl) rfl rfl ?_
  exact rwo_2 E sg d hd x nr T A DC RG hWD L wanted hwt em whole hem hwh (onP T (e0 + 1) e0) hP hQl a0 D0 hD0 hs0 e0 (onP_self (Nat.succ_pos e0)) w 193 0 _ _ [] _ _ _ _ rfl hI (hX.tr e9 (fun _ q => q))
