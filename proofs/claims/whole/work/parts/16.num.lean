/-- the digits behind the first -/
theorem rn_loop (E : ZE) (sg : ZM) (d : Nat) (hd : 2 ≤ d) (tb tx sp nm : Nat) (w0 : ZW) (ss : List PStep) (P : ZPhi) : ∀ (k v : Nat) (r : List Nat) (w : ZW), k ≤ 2 → (k = 2 → v < 10) → (k = 1 → v < 100) → (k = 0 → v < 1000) → TBu tb sp nm w0 w → TBm w tb tx sp nm r ss →
    (∀ n w', TBu tb sp nm w0 w' → TBm w' tb tx sp nm (pDigs k v r).2 ss → (pDigs k v r).1 < 1000 → RW E MX8_readNumber 45 [some (.ref tb), some (.int (nI (pDigs k v r).1)), some (.int (nI n)), none] [] w' sg d 0 0 P) →
    RW E MX8_readNumber 14 [some (.ref tb), some (.int (nI v)), some (.int (nI (3 - k))), none] [] w sg d 0 0 P
  | 0, v, r, w, _, _, _, h0, hu, hm, kk => by
    refine r_iload_n dX8_readNumber_14 rfl rfl ?_
    refine r_iconst dX8_readNumber_15 kc_3 rfl ?_
    refine r_icmp_geN (by omega) (by omega) (r := 45) dX8_readNumber_16 (by decide) rfl (fun c_16 => ?_) (fun c_16 => ?_)
    · exact kk _ w hu hm (h0 rfl)
    · exact absurd c_16 (by omega)
  | k + 1, v, r, w, hk, h2, h1, _, hu, hm, kk => by
    have g1 := hm.1.1
    cases hx : pDig r with
    | none =>
      have hD : isD r = false := by
        cases r with
        | nil => rfl
        | cons c r =>
          simp only [pDig] at hx
          split at hx
          · cases hx
          · rename_i e; simp [isD]; omega
      have e9 : pDigs (k + 1) v r = (v, r) := by simp only [pDigs, hx]
      rw [e9] at kk
      refine r_iload_n dX8_readNumber_14 rfl rfl ?_
      refine r_iconst dX8_readNumber_15 kc_3 rfl ?_
      refine r_icmp_geN (by omega) (by omega) (r := 45) dX8_readNumber_16 (by decide) rfl (fun c_16 => ?_) (fun c_16 => ?_)
      · exact absurd c_16 (by omega)
      · refine r_aload_n dX8_readNumber_19 rfl (zRv_ref _) rfl ?_
        refine r_callV MX8_peek 0 [] lvX8_63 (Or.inl ⟨8, by decide, (by first | (simp only [zKS]; first | assumption | exact TBm.k (by assumption)) | assumption | exact TBm.k (by assumption) | exact zk_nself _ _ _ | (simp [zKS, zNS, *]; done)), rfl⟩) (sp_peek E w sg (d - 1) tb tx sp nm r ss hm) rfl rfl (by first | exact Nat.le_of_ble_eq_true rfl | (simp [zcat_rf, Value.category]; done)) (by omega) (Nat.le_of_eq (Nat.zero_add _)) (Nat.le_of_eq (Nat.zero_add _)) dX8_readNumber_20 rfl (fun v_ w_ sg_ hq_ => ?_)
        obtain ⟨rfl, rfl, rfl⟩ := hq_
        refine r_callN MX9_isDigit 1 "StyleDesk" [_] (fun s h9 => h9.2.2.2.1) lwX8_174 zy_X9_isDigit (Nat.le_of_ble_eq_true rfl) (sp_isDigit E w sg (d - 1) r hm.cs) rfl rfl (by first | exact Nat.le_of_ble_eq_true rfl | (simp [zcat_rf, Value.category]; done)) (by omega) (Nat.le_of_eq (Nat.zero_add _)) (Nat.le_of_eq (Nat.zero_add _)) dX8_readNumber_23 rfl (fun v_ w_ sg_ hq_ => ?_)
        obtain ⟨rfl, rfl, rfl⟩ := hq_
        refine r_if_eqB (r := 45) dX8_readNumber_26 (by decide) rfl (fun c_26 => ?_) (fun c_26 => ?_)
        · exact kk _ w hu hm (by show v < 1000; omega)
        · exact absurd c_26 (by rw [hD]; decide)
    | some q =>
      obtain ⟨x, r'⟩ := q
      have lx := (pDig_len hx).2
      have hD : isD r = true := by
        cases r with
        | nil => cases hx
        | cons c r =>
          simp only [pDig] at hx
          split at hx
          · rename_i e; simp [isD, e]
          · cases hx
      have e9 : pDigs (k + 1) v r = pDigs k (10 * v + x) r' := by simp only [pDigs, hx]
      rw [e9] at kk
      refine r_iload_n dX8_readNumber_14 rfl rfl ?_
      refine r_iconst dX8_readNumber_15 kc_3 rfl ?_
      refine r_icmp_geN (by omega) (by omega) (r := 45) dX8_readNumber_16 (by decide) rfl (fun c_16 => ?_) (fun c_16 => ?_)
      · exact absurd c_16 (by omega)
      · refine r_aload_n dX8_readNumber_19 rfl (zRv_ref _) rfl ?_
        refine r_callV MX8_peek 0 [] lvX8_63 (Or.inl ⟨8, by decide, (by first | (simp only [zKS]; first | assumption | exact TBm.k (by assumption)) | assumption | exact TBm.k (by assumption) | exact zk_nself _ _ _ | (simp [zKS, zNS, *]; done)), rfl⟩) (sp_peek E w sg (d - 1) tb tx sp nm r ss hm) rfl rfl (by first | exact Nat.le_of_ble_eq_true rfl | (simp [zcat_rf, Value.category]; done)) (by omega) (Nat.le_of_eq (Nat.zero_add _)) (Nat.le_of_eq (Nat.zero_add _)) dX8_readNumber_20 rfl (fun v_ w_ sg_ hq_ => ?_)
        obtain ⟨rfl, rfl, rfl⟩ := hq_
        refine r_callN MX9_isDigit 1 "StyleDesk" [_] (fun s h9 => h9.2.2.2.1) lwX8_174 zy_X9_isDigit (Nat.le_of_ble_eq_true rfl) (sp_isDigit E w sg (d - 1) r hm.cs) rfl rfl (by first | exact Nat.le_of_ble_eq_true rfl | (simp [zcat_rf, Value.category]; done)) (by omega) (Nat.le_of_eq (Nat.zero_add _)) (Nat.le_of_eq (Nat.zero_add _)) dX8_readNumber_23 rfl (fun v_ w_ sg_ hq_ => ?_)
        obtain ⟨rfl, rfl, rfl⟩ := hq_
        refine r_if_eqB (r := 45) dX8_readNumber_26 (by decide) rfl (fun c_26 => ?_) (fun c_26 => ?_)
        · exact absurd c_26 (by rw [hD]; decide)
        · refine r_bipush dX8_readNumber_29 kb_10 rfl ?_
          refine r_iload_n dX8_readNumber_31 rfl rfl ?_
          refine r_imulN dX8_readNumber_32 rfl ?_
          refine r_aload_n dX8_readNumber_33 rfl (zRv_ref _) rfl ?_
          refine r_callV MX8_readDigit 0 [] lvX8_116 (Or.inl ⟨8, by decide, (by first | (simp only [zKS]; first | assumption | exact TBm.k (by assumption)) | assumption | exact TBm.k (by assumption) | exact zk_nself _ _ _ | (simp [zKS, zNS, *]; done)), rfl⟩) (sp_X8_readDigit E w sg (d - 1) tb tx sp nm r ss hm) rfl rfl (by first | exact Nat.le_of_ble_eq_true rfl | (simp [zcat_rf, Value.category]; done)) (by omega) (Nat.le_of_eq (Nat.zero_add _)) (Nat.le_of_eq (Nat.zero_add _)) dX8_readNumber_34 rfl (fun v_ w_ sg_ hq_ => ?_)
          obtain ⟨rfl, hu2, rfl, hm2⟩ := hq_
          simp only [dig0, hx] at hm2 ⊢
          refine r_iaddN dX8_readNumber_37 rfl ?_
          refine r_istore_n (ls' := [_, _, _, _]) dX8_readNumber_38 (Nat.le_of_ble_eq_true rfl) rfl rfl ?_
          refine r_iinc (ls' := [_, _, _, _]) dX8_readNumber_39 (Nat.le_of_ble_eq_true rfl) rfl (zinc1 _) rfl rfl ?_
          refine r_goto (r := 14) dX8_readNumber_42 (by decide) ?_
          rw [show 3 - (k + 1) + 1 = 3 - k by omega]
          exact rn_loop E sg d hd tb tx sp nm w0 ss P k (10 * v + x) r' _ (by omega) (by omega) (by omega) (by omega) (hu.tr hu2) hm2 kk
