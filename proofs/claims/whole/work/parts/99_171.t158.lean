/-! ===== the law's rule, drop, matches, weight, winner, value, how ===== -/
def wrQ (sg : ZM) (x : Nat) (T : List PEl) (Rs : List PRule) (B : List Nat) (o : Int32) : ZQ := fun v w' sg' => sg = sg' ∧ ((∃ R, ruO Rs B o = (0, some R) ∧ v = some (.int (nI 0)) ∧ zl w' (x + 54) 0 = (nI Rs.length).toInt64 ∧ dskI w' x T (Rs ++ [R]) []) ∨ (ruO Rs B o = (1, none) ∧ v = some (.int (nI 1)) ∧ dskI w' x T Rs []) ∨ (ruO Rs B o = (2, none) ∧ v = some (.int (nI 2)) ∧ dskI w' x T Rs []))
theorem w_rule (E : ZE) (sg : ZM) (d : Nat) (hd : 34 ≤ d) (x : Nat) (o : Int32) (T : List PEl) (Rs : List PRule) (B : List Nat) (w : ZW) (h : dskI w x T Rs B) : CallH E ML_rule [.ref x, .int o, .ref (x + 54)] w sg d 268 2130 (wrQ sg x T Rs B o) := by
  have k1 : zk w x = 10 := h.desk.1
  have hnd : ∀ C w' sg', ruX sg x T Rs B o C w' sg' → HND E ML_rule 4 [some (.ref x), some (.int o), some (.ref (x + 54)), none] w' sg' d 0 0 (PX E (wrQ sg x T Rs B o) zNX) C := by
    rintro C w' sg' ⟨q1 | q1, q2, rfl⟩
    · obtain ⟨rfl, q1⟩ := q1
      refine ⟨[], 0, 9, 12, 15, [(0, 9, 15, 13)], zISE, rfl, ⟨by decide, by decide⟩, by decide, tw_238, by decide, fun z hz => (by cases hz), fun q => ?_⟩
      refine r_astore_n (ls' := [_, _, _, _]) dL_rule_12 (Nat.le_of_ble_eq_true rfl) (by first | exact zRv_ref _ | exact zRv_null | exact zRv_rf _ | assumption) rfl rfl ?_
      refine r_iconst dL_rule_13 kc_1 rfl ?_
      refine x_iret rfl dL_rule_14 ?_
      exact ⟨rfl, Or.inr (Or.inl ⟨q1, rfl, q2⟩)⟩
    · obtain ⟨rfl, q1⟩ := q1
      refine ⟨[(0, 9, 12, 15)], 0, 9, 15, 13, [], zIAE, rfl, ⟨by decide, by decide⟩, by decide, tw_237, by decide, fun z hz => ?_, fun q => ?_⟩
      · rw [List.mem_singleton] at hz
        subst hz
        exact ⟨by decide, zISE, tw_238, nc_IS⟩
      · skip
        refine r_astore_n (ls' := [_, _, _, _]) dL_rule_15 (Nat.le_of_ble_eq_true rfl) (by first | exact zRv_ref _ | exact zRv_null | exact zRv_rf _ | assumption) rfl rfl ?_
        refine r_iconst dL_rule_16 kc_2 rfl ?_
        refine x_iret rfl dL_rule_17 ?_
        exact ⟨rfl, Or.inr (Or.inr ⟨q1, rfl, q2⟩)⟩
  refine CallH.of (by decide) (by simp [Value.category]) (Nat.le_of_ble_eq_true rfl) ?_
  refine r_aload_n dL_rule_0 rfl (by first | exact zRv_ref _ | exact zRv_null | exact zRv_rf _ | assumption) rfl ?_
  refine r_iconst dL_rule_1 kc_0 rfl ?_
  refine r_aload_n dL_rule_2 rfl (zRv_ref _) rfl ?_
  refine r_iload_n dL_rule_3 rfl rfl ?_
  refine x_callVH (a := 0) (a' := 0) MX9_rule 1 [_] (rest := [_, _]) lvL_17 (Or.inl ⟨9, by decide, k1, rfl⟩) (sp_rule E sg (d - 1) (by omega) x o T Rs B w h) rfl rfl (by first | exact Nat.le_of_ble_eq_true rfl | (simp [zcat_rf, Value.category]; done)) (by omega) (by decide) (by decide) dL_rule_4 rfl hnd (fun v_ w_ sg_ hq_ => ?_)
  obtain ⟨⟨R, q1, hD⟩, rfl, rfl⟩ := hq_
  have ho := hD.o
  have ho1 := ho.2.1
  have ho2 : zln w_ (x + 54) = 1 := ho.2.2.1
  refine r_i2l dL_rule_7 rfl rfl ?_
  refine r_last _ (by first | (simp only [zKS]; first | assumption) | assumption | exact zk_nself _ _ _ | (simp [zKS, zNS, *]; done)) rfl (by first | (rw [show zln _ _ = _ by assumption]; omega) | (simp only [zKS, *]; omega) | (simp [zKS, *]; omega)) (by omega) dL_rule_8 rfl ?_
  refine r_goto (r := 18) dL_rule_9 (by decide) ?_
  refine r_iconst dL_rule_18 kc_0 rfl ?_
  refine x_iret rfl dL_rule_19 ?_
  exact ⟨rfl, Or.inl ⟨R, q1, rfl, z2_eq, hD.sl⟩⟩
def wdrQ (sg : ZM) (x : Nat) (T : List PEl) (Rs : List PRule) (B : List Nat) (k : Int32) : ZQ := fun v w' sg' => sg = sg' ∧ ((inI k Rs.length = true ∧ v = some (.int (nI 0)) ∧ dskI w' x T (Rs.eraseIdx (ixD k)) B) ∨ (inI k Rs.length = false ∧ v = some (.int (nI 1)) ∧ dskI w' x T Rs B))
theorem w_drop (E : ZE) (sg : ZM) (d : Nat) (hd : 8 ≤ d) (x : Nat) (k : Int32) (T : List PEl) (Rs : List PRule) (B : List Nat) (w : ZW) (h : dskI w x T Rs B) : CallH E ML_drop [.ref x, .int k] w sg d 1 6 (wdrQ sg x T Rs B k) := by
  have k1 : zk w x = 10 := h.desk.1
  have hnd : ∀ C w' sg', (fun C w' sg' => C = zNSE ∧ inI k Rs.length = false ∧ dskI w' x T Rs B ∧ sg = sg') C w' sg' → HND E ML_drop 2 [some (.ref x), some (.int k), none] w' sg' d 0 0 (PX E (wdrQ sg x T Rs B k) zNX) C := by
    rintro C w' sg' ⟨rfl, q1, q2, rfl⟩
    refine ⟨[], 0, 5, 8, 25, [], zNSE, rfl, ⟨by decide, by decide⟩, by decide, tw_739, by decide, fun z hz => (by cases hz), fun q => ?_⟩
    refine r_astore_n (ls' := [_, _, _]) dL_drop_8 (Nat.le_of_ble_eq_true rfl) (by first | exact zRv_ref _ | exact zRv_null | exact zRv_rf _ | assumption) rfl rfl ?_
    refine r_iconst dL_drop_9 kc_1 rfl ?_
    refine x_iret rfl dL_drop_10 ?_
    exact ⟨rfl, Or.inr ⟨q1, rfl, q2⟩⟩
  refine CallH.of (by decide) (by simp [Value.category]) (Nat.le_of_ble_eq_true rfl) ?_
  refine r_aload_n dL_drop_0 rfl (zRv_ref _) rfl ?_
  refine r_iload_n dL_drop_1 rfl rfl ?_
  refine x_callVH (a := 0) (a' := 0) MX9_drop 1 [_] (rest := []) lvL_21 (Or.inl ⟨9, by decide, k1, rfl⟩) (sp_drop E sg (d - 1) (by omega) x k T Rs B w h) rfl rfl (by first | exact Nat.le_of_ble_eq_true rfl | (simp [zcat_rf, Value.category]; done)) (by omega) (by decide) (by decide) dL_drop_2 rfl hnd (fun v_ w_ sg_ hq_ => ?_)
  obtain ⟨q1, rfl, hD, rfl⟩ := hq_
  refine r_goto (r := 11) dL_drop_5 (by decide) ?_
  refine r_iconst dL_drop_11 kc_0 rfl ?_
  refine x_iret rfl dL_drop_12 ?_
  exact ⟨rfl, Or.inl ⟨q1, rfl, hD⟩⟩
def wmQ (sg : ZM) (x : Nat) (T : List PEl) (Rs : List PRule) (B : List Nat) (e : Int32) : ZQ := fun v w' sg' => sg = sg' ∧ ((inI e T.length = true ∧ (∃ ls, readM B = some ls ∧ zl w' (x + 54) 0 = if mtD T ls e = true then 1 else 0) ∧ v = some (.int (nI 0)) ∧ dskI w' x T Rs []) ∨ (inI e T.length = false ∧ v = some (.int (nI 1)) ∧ dskI w' x T Rs []) ∨ (inI e T.length = true ∧ readM B = none ∧ v = some (.int (nI 2)) ∧ dskI w' x T Rs []))
theorem w_matches (E : ZE) (sg : ZM) (d : Nat) (hd : 13 ≤ d) (x : Nat) (e : Int32) (T : List PEl) (Rs : List PRule) (B : List Nat) (w : ZW) (h : dskI w x T Rs B) : CallH E ML_matches [.ref x, .int e, .ref (x + 54)] w sg d 257 1152 (wmQ sg x T Rs B e) := by
  have k1 : zk w x = 10 := h.desk.1
  have hnd : ∀ C w' sg', mtX sg x T Rs B e C w' sg' → HND E ML_matches 4 [some (.ref x), some (.int e), some (.ref (x + 54)), none] w' sg' d 0 0 (PX E (wmQ sg x T Rs B e) zNX) C := by
    rintro C w' sg' ⟨q1 | q1, q2, rfl⟩
    · obtain ⟨rfl, q1⟩ := q1
      refine ⟨[], 0, 16, 19, 25, [(0, 16, 22, 13)], zNSE, rfl, ⟨by decide, by decide⟩, by decide, tw_739, by decide, fun z hz => (by cases hz), fun q => ?_⟩
      refine r_astore_n (ls' := [_, _, _, _]) dL_matches_19 (Nat.le_of_ble_eq_true rfl) (by first | exact zRv_ref _ | exact zRv_null | exact zRv_rf _ | assumption) rfl rfl ?_
      refine r_iconst dL_matches_20 kc_1 rfl ?_
      refine x_iret rfl dL_matches_21 ?_
      exact ⟨rfl, Or.inr (Or.inl ⟨q1, rfl, q2⟩)⟩
    · obtain ⟨rfl, q1, q3⟩ := q1
      refine ⟨[(0, 16, 19, 25)], 0, 16, 22, 13, [], zIAE, rfl, ⟨by decide, by decide⟩, by decide, tw_237, by decide, fun z hz => ?_, fun q => ?_⟩
      · rw [List.mem_singleton] at hz
        subst hz
        exact ⟨by decide, zNSE, tw_739, nc_IN⟩
      · skip
        refine r_astore_n (ls' := [_, _, _, _]) dL_matches_22 (Nat.le_of_ble_eq_true rfl) (by first | exact zRv_ref _ | exact zRv_null | exact zRv_rf _ | assumption) rfl rfl ?_
        refine r_iconst dL_matches_23 kc_2 rfl ?_
        refine x_iret rfl dL_matches_24 ?_
        exact ⟨rfl, Or.inr (Or.inr ⟨q1, q3, rfl, q2⟩)⟩
  refine CallH.of (by decide) (by simp [Value.category]) (Nat.le_of_ble_eq_true rfl) ?_
  refine r_aload_n dL_matches_0 rfl (by first | exact zRv_ref _ | exact zRv_null | exact zRv_rf _ | assumption) rfl ?_
  refine r_iconst dL_matches_1 kc_0 rfl ?_
  refine r_aload_n dL_matches_2 rfl (zRv_ref _) rfl ?_
  refine r_iload_n dL_matches_3 rfl rfl ?_
  refine x_callVH (a := 0) (a' := 0) MX9_matches 1 [_] (rest := [_, _]) lvL_27 (Or.inl ⟨9, by decide, k1, rfl⟩) (sp_matches E sg (d - 1) (by omega) x e T Rs B w h) rfl rfl (by first | exact Nat.le_of_ble_eq_true rfl | (simp [zcat_rf, Value.category]; done)) (by omega) (by decide) (by decide) dL_matches_4 rfl hnd (fun v_ w_ sg_ hq_ => ?_)
  obtain ⟨q1, ⟨ls, q3, rfl⟩, hD, rfl⟩ := hq_
  have ho := hD.o
  have ho1 := ho.2.1
  have ho2 : zln w_ (x + 54) = 1 := ho.2.2.1
  refine r_if_eqB (r := 14) dL_matches_7 (by decide) rfl (fun c_7 => ?_) (fun c_7 => ?_)
  · refine r_lconst dL_matches_14 rfl rfl ?_
    refine r_last _ (by first | (simp only [zKS]; first | assumption) | assumption | exact zk_nself _ _ _ | (simp [zKS, zNS, *]; done)) rfl (by first | (rw [show zln _ _ = _ by assumption]; omega) | (simp only [zKS, *]; omega) | (simp [zKS, *]; omega)) (by omega) dL_matches_15 rfl ?_
    refine r_goto (r := 25) dL_matches_16 (by decide) ?_
    refine r_iconst dL_matches_25 kc_0 rfl ?_
    refine x_iret rfl dL_matches_26 ?_
    exact ⟨rfl, Or.inl ⟨q1, ⟨ls, q3, by rw [c_7]; exact z2_eq⟩, rfl, hD.sl⟩⟩
  · refine r_lconst dL_matches_10 rfl rfl ?_
    refine r_goto (r := 15) dL_matches_11 (by decide) ?_
    refine r_last _ (by first | (simp only [zKS]; first | assumption) | assumption | exact zk_nself _ _ _ | (simp [zKS, zNS, *]; done)) rfl (by first | (rw [show zln _ _ = _ by assumption]; omega) | (simp only [zKS, *]; omega) | (simp [zKS, *]; omega)) (by omega) dL_matches_15 rfl ?_
    refine r_goto (r := 25) dL_matches_16 (by decide) ?_
    refine r_iconst dL_matches_25 kc_0 rfl ?_
    refine x_iret rfl dL_matches_26 ?_
    exact ⟨rfl, Or.inl ⟨q1, ⟨ls, q3, by rw [c_7]; exact z2_eq⟩, rfl, hD.sl⟩⟩
def wwQ (sg : ZM) (x : Nat) (T : List PEl) (Rs : List PRule) (B : List Nat) (k e : Int32) : ZQ := fun v w' sg' => sg = sg' ∧ (((inI k Rs.length && inI e T.length) = true ∧ v = some (.int (nI 0)) ∧ zl w' (x + 54) 0 = (wtD T Rs k e).toInt64 ∧ dskI w' x T Rs B) ∨ ((inI k Rs.length && inI e T.length) = false ∧ v = some (.int (nI 1)) ∧ dskI w' x T Rs B))
theorem w_weight (E : ZE) (sg : ZM) (d : Nat) (hd : 8 ≤ d) (x : Nat) (k e : Int32) (T : List PEl) (Rs : List PRule) (B : List Nat) (w : ZW) (h : dskI w x T Rs B) : CallH E ML_weight [.ref x, .int k, .int e, .ref (x + 54)] w sg d 2 12 (wwQ sg x T Rs B k e) := by
  have k1 : zk w x = 10 := h.desk.1
  have hnd : ∀ C w' sg', (fun C w' sg' => C = zNSE ∧ (inI k Rs.length && inI e T.length) = false ∧ dskI w' x T Rs B ∧ sg = sg') C w' sg' → HND E ML_weight 5 [some (.ref x), some (.int k), some (.int e), some (.ref (x + 54)), none] w' sg' d 0 0 (PX E (wwQ sg x T Rs B k e) zNX) C := by
    rintro C w' sg' ⟨rfl, q1, q2, rfl⟩
    refine ⟨[], 0, 10, 13, 25, [], zNSE, rfl, ⟨by decide, by decide⟩, by decide, tw_739, by decide, fun z hz => (by cases hz), fun q => ?_⟩
    refine r_astore (ls' := [_, _, _, _, _]) dL_weight_13 (Nat.le_of_ble_eq_true rfl) (by first | exact zRv_ref _ | exact zRv_null | exact zRv_rf _ | assumption) rfl rfl ?_
    refine r_iconst dL_weight_15 kc_1 rfl ?_
    refine x_iret rfl dL_weight_16 ?_
    exact ⟨rfl, Or.inr ⟨q1, rfl, q2⟩⟩
  refine CallH.of (by decide) (by simp [Value.category]) (Nat.le_of_ble_eq_true rfl) ?_
  refine r_aload_n dL_weight_0 rfl (by first | exact zRv_ref _ | exact zRv_null | exact zRv_rf _ | assumption) rfl ?_
  refine r_iconst dL_weight_1 kc_0 rfl ?_
  refine r_aload_n dL_weight_2 rfl (zRv_ref _) rfl ?_
  refine r_iload_n dL_weight_3 rfl rfl ?_
  refine r_iload_n dL_weight_4 rfl rfl ?_
  refine x_callVH (a := 0) (a' := 0) MX9_weight 2 [_, _] (rest := [_, _]) lvL_31 (Or.inl ⟨9, by decide, k1, rfl⟩) (sp_weight E sg (d - 1) (by omega) x k e T Rs B w h) rfl rfl (by first | exact Nat.le_of_ble_eq_true rfl | (simp [zcat_rf, Value.category]; done)) (by omega) (by decide) (by decide) dL_weight_5 rfl hnd (fun v_ w_ sg_ hq_ => ?_)
  obtain ⟨q1, rfl, hD, rfl⟩ := hq_
  have ho := hD.o
  have ho1 := ho.2.1
  have ho2 : zln w_ (x + 54) = 1 := ho.2.2.1
  refine r_i2l dL_weight_8 rfl rfl ?_
  refine r_last _ (by first | (simp only [zKS]; first | assumption) | assumption | exact zk_nself _ _ _ | (simp [zKS, zNS, *]; done)) rfl (by first | (rw [show zln _ _ = _ by assumption]; omega) | (simp only [zKS, *]; omega) | (simp [zKS, *]; omega)) (by omega) dL_weight_9 rfl ?_
  refine r_goto (r := 17) dL_weight_10 (by decide) ?_
  refine r_iconst dL_weight_17 kc_0 rfl ?_
  refine x_iret rfl dL_weight_18 ?_
  exact ⟨rfl, Or.inl ⟨q1, rfl, z2_eq, hD.sl⟩⟩
theorem valD_fin {w : ZW} {x : Nat} {T : List PEl} {Rs : List PRule} {B : List Nat} {e n : Int32} (h : dskI w x T Rs B) (he : inI e T.length = true) (hn : inI n 6 = true) : fFin (valD T Rs e n) := vvF_fin (okL_ld h.2.2.1) _ _ _
def wnQ (sg : ZM) (x : Nat) (T : List PEl) (Rs : List PRule) (B : List Nat) (e n : Int32) : ZQ := fun v w' sg' => sg = sg' ∧ ((inI e T.length = true ∧ inI n 10 = true ∧ v = some (.int (nI 0)) ∧ zl w' (x + 54) 0 = (winD T Rs e n).toInt64 ∧ dskI w' x T Rs B) ∨ (inI e T.length = false ∧ v = some (.int (nI 1)) ∧ dskI w' x T Rs B) ∨ (inI e T.length = true ∧ inI n 10 = false ∧ v = some (.int (nI 2)) ∧ dskI w' x T Rs B))
theorem w_winner (E : ZE) (sg : ZM) (d : Nat) (hd : 8 ≤ d) (x : Nat) (e n : Int32) (T : List PEl) (Rs : List PRule) (B : List Nat) (w : ZW) (h : dskI w x T Rs B) : CallH E ML_winner [.ref x, .int e, .int n, .ref (x + 54)] w sg d 2 12 (wnQ sg x T Rs B e n) := by
  have k1 : zk w x = 10 := h.desk.1
  have hnd : ∀ C w' sg', xNI w sg x T Rs B e n 10 C w' sg' → HND E ML_winner 5 [some (.ref x), some (.int e), some (.int n), some (.ref (x + 54)), none] w' sg' d 0 0 (PX E (wnQ sg x T Rs B e n) zNX) C := by
    rintro C w' sg' ⟨q1 | q1, q2, rfl⟩
    · obtain ⟨rfl, q1⟩ := q1
      refine ⟨[], 0, 10, 13, 25, [(0, 10, 17, 13)], zNSE, rfl, ⟨by decide, by decide⟩, by decide, tw_739, by decide, fun z hz => (by cases hz), fun q => ?_⟩
      refine r_astore (ls' := [_, _, _, _, _]) dL_winner_13 (Nat.le_of_ble_eq_true rfl) (by first | exact zRv_ref _ | exact zRv_null | exact zRv_rf _ | assumption) rfl rfl ?_
      refine r_iconst dL_winner_15 kc_1 rfl ?_
      refine x_iret rfl dL_winner_16 ?_
      exact ⟨rfl, Or.inr (Or.inl ⟨q1, rfl, q2⟩)⟩
    · obtain ⟨rfl, q1, q3⟩ := q1
      refine ⟨[(0, 10, 13, 25)], 0, 10, 17, 13, [], zIAE, rfl, ⟨by decide, by decide⟩, by decide, tw_237, by decide, fun z hz => ?_, fun q => ?_⟩
      · rw [List.mem_singleton] at hz
        subst hz
        exact ⟨by decide, zNSE, tw_739, nc_IN⟩
      · skip
        refine r_astore (ls' := [_, _, _, _, _]) dL_winner_17 (Nat.le_of_ble_eq_true rfl) (by first | exact zRv_ref _ | exact zRv_null | exact zRv_rf _ | assumption) rfl rfl ?_
        refine r_iconst dL_winner_19 kc_2 rfl ?_
        refine x_iret rfl dL_winner_20 ?_
        exact ⟨rfl, Or.inr (Or.inr ⟨q1, q3, rfl, q2⟩)⟩
  refine CallH.of (by decide) (by simp [Value.category]) (Nat.le_of_ble_eq_true rfl) ?_
  refine r_aload_n dL_winner_0 rfl (by first | exact zRv_ref _ | exact zRv_null | exact zRv_rf _ | assumption) rfl ?_
  refine r_iconst dL_winner_1 kc_0 rfl ?_
  refine r_aload_n dL_winner_2 rfl (zRv_ref _) rfl ?_
  refine r_iload_n dL_winner_3 rfl rfl ?_
  refine r_iload_n dL_winner_4 rfl rfl ?_
  refine x_callVH (a := 0) (a' := 0) MX9_winner 2 [_, _] (rest := [_, _]) lvL_35 (Or.inl ⟨9, by decide, k1, rfl⟩) (sp_winner E sg (d - 1) (by omega) x e n T Rs B w h) rfl rfl (by first | exact Nat.le_of_ble_eq_true rfl | (simp [zcat_rf, Value.category]; done)) (by omega) (by decide) (by decide) dL_winner_5 rfl hnd (fun v_ w_ sg_ hq_ => ?_)
  obtain ⟨q1, rfl, hD, rfl⟩ := hq_
  have ho := hD.o
  have ho1 := ho.2.1
  have ho2 : zln w_ (x + 54) = 1 := ho.2.2.1
  refine r_i2l dL_winner_8 rfl rfl ?_
  refine r_last _ (by first | (simp only [zKS]; first | assumption) | assumption | exact zk_nself _ _ _ | (simp [zKS, zNS, *]; done)) rfl (by first | (rw [show zln _ _ = _ by assumption]; omega) | (simp only [zKS, *]; omega) | (simp [zKS, *]; omega)) (by omega) dL_winner_9 rfl ?_
  refine r_goto (r := 21) dL_winner_10 (by decide) ?_
  refine r_iconst dL_winner_21 kc_0 rfl ?_
  refine x_iret rfl dL_winner_22 ?_
  exact ⟨rfl, Or.inl ⟨q1.1, q1.2, rfl, z2_eq, hD.sl⟩⟩
def wvQ (sg : ZM) (x : Nat) (T : List PEl) (Rs : List PRule) (B : List Nat) (e n : Int32) : ZQ := fun v w' sg' => sg = sg' ∧ ((inI e T.length = true ∧ inI n 6 = true ∧ v = some (.int (nI 0)) ∧ zd w' (x + 55) 0 = FP.f2d (valD T Rs e n) ∧ dskI w' x T Rs B) ∨ (inI e T.length = false ∧ v = some (.int (nI 1)) ∧ dskI w' x T Rs B) ∨ (inI e T.length = true ∧ inI n 6 = false ∧ v = some (.int (nI 2)) ∧ dskI w' x T Rs B))
theorem w_value (E : ZE) (sg : ZM) (d : Nat) (hd : 8 ≤ d) (x : Nat) (e n : Int32) (T : List PEl) (Rs : List PRule) (B : List Nat) (w : ZW) (h : dskI w x T Rs B) : CallH E ML_value [.ref x, .int e, .int n, .ref (x + 55)] w sg d 2 12 (wvQ sg x T Rs B e n) := by
  have k1 : zk w x = 10 := h.desk.1
  have hnd : ∀ C w' sg', xNI w sg x T Rs B e n 6 C w' sg' → HND E ML_value 5 [some (.ref x), some (.int e), some (.int n), some (.ref (x + 55)), none] w' sg' d 0 0 (PX E (wvQ sg x T Rs B e n) zNX) C := by
    rintro C w' sg' ⟨q1 | q1, q2, rfl⟩
    · obtain ⟨rfl, q1⟩ := q1
      refine ⟨[], 0, 10, 13, 25, [(0, 10, 17, 13)], zNSE, rfl, ⟨by decide, by decide⟩, by decide, tw_739, by decide, fun z hz => (by cases hz), fun q => ?_⟩
      refine r_astore (ls' := [_, _, _, _, _]) dL_value_13 (Nat.le_of_ble_eq_true rfl) (by first | exact zRv_ref _ | exact zRv_null | exact zRv_rf _ | assumption) rfl rfl ?_
      refine r_iconst dL_value_15 kc_1 rfl ?_
      refine x_iret rfl dL_value_16 ?_
      exact ⟨rfl, Or.inr (Or.inl ⟨q1, rfl, q2⟩)⟩
    · obtain ⟨rfl, q1, q3⟩ := q1
      refine ⟨[(0, 10, 13, 25)], 0, 10, 17, 13, [], zIAE, rfl, ⟨by decide, by decide⟩, by decide, tw_237, by decide, fun z hz => ?_, fun q => ?_⟩
      · rw [List.mem_singleton] at hz
        subst hz
        exact ⟨by decide, zNSE, tw_739, nc_IN⟩
      · skip
        refine r_astore (ls' := [_, _, _, _, _]) dL_value_17 (Nat.le_of_ble_eq_true rfl) (by first | exact zRv_ref _ | exact zRv_null | exact zRv_rf _ | assumption) rfl rfl ?_
        refine r_iconst dL_value_19 kc_2 rfl ?_
        refine x_iret rfl dL_value_20 ?_
        exact ⟨rfl, Or.inr (Or.inr ⟨q1, q3, rfl, q2⟩)⟩
  refine CallH.of (by decide) (by simp [Value.category]) (Nat.le_of_ble_eq_true rfl) ?_
  refine r_aload_n dL_value_0 rfl (by first | exact zRv_ref _ | exact zRv_null | exact zRv_rf _ | assumption) rfl ?_
  refine r_iconst dL_value_1 kc_0 rfl ?_
  refine r_aload_n dL_value_2 rfl (zRv_ref _) rfl ?_
  refine r_iload_n dL_value_3 rfl rfl ?_
  refine r_iload_n dL_value_4 rfl rfl ?_
  refine x_callVH (a := 0) (a' := 0) MX9_value 2 [_, _] (rest := [_, _]) lvL_38 (Or.inl ⟨9, by decide, k1, rfl⟩) (sp_value E sg (d - 1) (by omega) x e n T Rs B w h) rfl rfl (by first | exact Nat.le_of_ble_eq_true rfl | (simp [zcat_rf, Value.category]; done)) (by omega) (by decide) (by decide) dL_value_5 rfl hnd (fun v_ w_ sg_ hq_ => ?_)
  obtain ⟨q1, rfl, hD, rfl⟩ := hq_
  have ho := hD.o
  have ho1 : zk w_ (x + 55) = 25 := ho.2.2.2.1
  have ho2 : zln w_ (x + 55) = 1 := ho.2.2.2.2
  refine r_f2d dL_value_8 (f2d_n (valD_fin h q1.1 q1.2)) rfl ?_
  refine r_dast _ (by first | (simp only [zKS]; first | assumption) | assumption | exact zk_nself _ _ _ | (simp [zKS, zNS, *]; done)) rfl (by first | (rw [show zln _ _ = _ by assumption]; omega) | (simp only [zKS, *]; omega) | (simp [zKS, *]; omega)) (by omega) dL_value_9 rfl ?_
  refine r_goto (r := 21) dL_value_10 (by decide) ?_
  refine r_iconst dL_value_21 kc_0 rfl ?_
  refine x_iret rfl dL_value_22 ?_
  exact ⟨rfl, Or.inl ⟨q1.1, q1.2, rfl, z2_eq, hD.sd⟩⟩
def whQ (sg : ZM) (x : Nat) (T : List PEl) (Rs : List PRule) (B : List Nat) (e n : Int32) : ZQ := fun v w' sg' => sg = sg' ∧ ((inI e T.length = true ∧ inI n 6 = true ∧ v = some (.int (nI 0)) ∧ zl w' (x + 54) 0 = (howD T Rs e n).toInt64 ∧ dskI w' x T Rs B) ∨ (inI e T.length = false ∧ v = some (.int (nI 1)) ∧ dskI w' x T Rs B) ∨ (inI e T.length = true ∧ inI n 6 = false ∧ v = some (.int (nI 2)) ∧ dskI w' x T Rs B))
theorem w_how (E : ZE) (sg : ZM) (d : Nat) (hd : 8 ≤ d) (x : Nat) (e n : Int32) (T : List PEl) (Rs : List PRule) (B : List Nat) (w : ZW) (h : dskI w x T Rs B) : CallH E ML_how [.ref x, .int e, .int n, .ref (x + 54)] w sg d 2 12 (whQ sg x T Rs B e n) := by
  have k1 : zk w x = 10 := h.desk.1
  have hnd : ∀ C w' sg', xNI w sg x T Rs B e n 6 C w' sg' → HND E ML_how 5 [some (.ref x), some (.int e), some (.int n), some (.ref (x + 54)), none] w' sg' d 0 0 (PX E (whQ sg x T Rs B e n) zNX) C := by
    rintro C w' sg' ⟨q1 | q1, q2, rfl⟩
    · obtain ⟨rfl, q1⟩ := q1
      refine ⟨[], 0, 10, 13, 25, [(0, 10, 17, 13)], zNSE, rfl, ⟨by decide, by decide⟩, by decide, tw_739, by decide, fun z hz => (by cases hz), fun q => ?_⟩
      refine r_astore (ls' := [_, _, _, _, _]) dL_how_13 (Nat.le_of_ble_eq_true rfl) (by first | exact zRv_ref _ | exact zRv_null | exact zRv_rf _ | assumption) rfl rfl ?_
      refine r_iconst dL_how_15 kc_1 rfl ?_
      refine x_iret rfl dL_how_16 ?_
      exact ⟨rfl, Or.inr (Or.inl ⟨q1, rfl, q2⟩)⟩
    · obtain ⟨rfl, q1, q3⟩ := q1
      refine ⟨[(0, 10, 13, 25)], 0, 10, 17, 13, [], zIAE, rfl, ⟨by decide, by decide⟩, by decide, tw_237, by decide, fun z hz => ?_, fun q => ?_⟩
      · rw [List.mem_singleton] at hz
        subst hz
        exact ⟨by decide, zNSE, tw_739, nc_IN⟩
      · skip
        refine r_astore (ls' := [_, _, _, _, _]) dL_how_17 (Nat.le_of_ble_eq_true rfl) (by first | exact zRv_ref _ | exact zRv_null | exact zRv_rf _ | assumption) rfl rfl ?_
        refine r_iconst dL_how_19 kc_2 rfl ?_
        refine x_iret rfl dL_how_20 ?_
        exact ⟨rfl, Or.inr (Or.inr ⟨q1, q3, rfl, q2⟩)⟩
  refine CallH.of (by decide) (by simp [Value.category]) (Nat.le_of_ble_eq_true rfl) ?_
  refine r_aload_n dL_how_0 rfl (by first | exact zRv_ref _ | exact zRv_null | exact zRv_rf _ | assumption) rfl ?_
  refine r_iconst dL_how_1 kc_0 rfl ?_
  refine r_aload_n dL_how_2 rfl (zRv_ref _) rfl ?_
  refine r_iload_n dL_how_3 rfl rfl ?_
  refine r_iload_n dL_how_4 rfl rfl ?_
  refine x_callVH (a := 0) (a' := 0) MX9_how 2 [_, _] (rest := [_, _]) lvL_42 (Or.inl ⟨9, by decide, k1, rfl⟩) (sp_how E sg (d - 1) (by omega) x e n T Rs B w h) rfl rfl (by first | exact Nat.le_of_ble_eq_true rfl | (simp [zcat_rf, Value.category]; done)) (by omega) (by decide) (by decide) dL_how_5 rfl hnd (fun v_ w_ sg_ hq_ => ?_)
  obtain ⟨q1, rfl, hD, rfl⟩ := hq_
  have ho := hD.o
  have ho1 := ho.2.1
  have ho2 : zln w_ (x + 54) = 1 := ho.2.2.1
  refine r_i2l dL_how_8 rfl rfl ?_
  refine r_last _ (by first | (simp only [zKS]; first | assumption) | assumption | exact zk_nself _ _ _ | (simp [zKS, zNS, *]; done)) rfl (by first | (rw [show zln _ _ = _ by assumption]; omega) | (simp only [zKS, *]; omega) | (simp [zKS, *]; omega)) (by omega) dL_how_9 rfl ?_
  refine r_goto (r := 21) dL_how_10 (by decide) ?_
  refine r_iconst dL_how_21 kc_0 rfl ?_
  refine x_iret rfl dL_how_22 ?_
  exact ⟨rfl, Or.inl ⟨q1.1, q1.2, rfl, z2_eq, hD.sl⟩⟩
