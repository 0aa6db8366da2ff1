/-! ===== the law's element, rule, drop ===== -/
def weQ (sg : ZM) (x : Nat) (T : List PEl) (Rs : List PRule) (B : List Nat) (p t i c : Int32) : ZQ := fun v w' sg' => sg = sg' ∧ ((okEl T p t i c = true ∧ T.length ≠ 24 ∧ v = some (.int (nI 0)) ∧ zl w' (x + 54) 0 = (nI T.length).toInt64 ∧ dskI w' x (T ++ [newV p t i c]) Rs B) ∨ (okEl T p t i c = false ∧ v = some (.int (nI 1)) ∧ dskI w' x T Rs B) ∨ (okEl T p t i c = true ∧ T.length = 24 ∧ v = some (.int (nI 2)) ∧ dskI w' x T Rs B))
theorem w_element (E : ZE) (sg : ZM) (d : Nat) (hd : 8 ≤ d) (x : Nat) (p t i c : Int32) (T : List PEl) (Rs : List PRule) (B : List Nat) (w : ZW) (h : dskI w x T Rs B) : CallH E ML_element [.ref x, .int p, .int t, .int i, .int c, .ref (x + 54)] w sg d 9 70 (weQ sg x T Rs B p t i c) := by
  have k1 : zk w x = 10 := h.desk.1
  have hnd : ∀ C w' sg', elX sg x T Rs B p t i c C w' sg' → HND E ML_element 9 [some (.ref x), some (.int p), some (.int t), some (.int i), some (.int c), some (.ref (x + 54)), none] w' sg' d 0 0 (PX E (weQ sg x T Rs B p t i c) zNX) C := by
    rintro C w' sg' ⟨q1 | q1, q2, rfl⟩
    · obtain ⟨rfl, q1⟩ := q1
      refine ⟨[], 0, 14, 17, 13, [(0, 14, 21, 15)], zIAE, rfl, ⟨by decide, by decide⟩, by decide, tw_237, by decide, fun z hz => (by cases hz), fun q => ?_⟩
      refine r_astore (ls' := [_, _, _, _, _, _, _]) dL_element_17 (Nat.le_of_ble_eq_true rfl) (by first | exact zRv_ref _ | exact zRv_null | exact zRv_rf _ | assumption) rfl rfl ?_
      refine r_iconst dL_element_19 kc_1 rfl ?_
      refine x_iret rfl dL_element_20 ?_
      exact ⟨rfl, Or.inr (Or.inl ⟨q1, rfl, q2⟩)⟩
    · obtain ⟨rfl, q1, q3⟩ := q1
      refine ⟨[(0, 14, 17, 13)], 0, 14, 21, 15, [], zISE, rfl, ⟨by decide, by decide⟩, by decide, tw_238, by decide, fun z hz => ?_, fun q => ?_⟩
      · rw [List.mem_singleton] at hz
        subst hz
        exact ⟨by decide, zIAE, tw_237, nc_SI⟩
      · skip
        refine r_astore (ls' := [_, _, _, _, _, _, _]) dL_element_21 (Nat.le_of_ble_eq_true rfl) (by first | exact zRv_ref _ | exact zRv_null | exact zRv_rf _ | assumption) rfl rfl ?_
        refine r_iconst dL_element_23 kc_2 rfl ?_
        refine x_iret rfl dL_element_24 ?_
        exact ⟨rfl, Or.inr (Or.inr ⟨q1, q3, rfl, q2⟩)⟩
  refine CallH.of (by decide) (by simp [Value.category]) (Nat.le_of_ble_eq_true rfl) ?_
  refine r_aload dL_element_0 rfl (by first | exact zRv_ref _ | exact zRv_null | exact zRv_rf _ | assumption) rfl ?_
  refine r_iconst dL_element_2 kc_0 rfl ?_
  refine r_aload_n dL_element_3 rfl (zRv_ref _) rfl ?_
  refine r_iload_n dL_element_4 rfl rfl ?_
  refine r_iload_n dL_element_5 rfl rfl ?_
  refine r_iload_n dL_element_6 rfl rfl ?_
  refine r_iload dL_element_7 rfl rfl ?_
  refine x_callVH (a := 0) (a' := 0) MX9_element 4 [_, _, _, _] (rest := [_, _]) lvL_7 (Or.inl ⟨9, by decide, k1, rfl⟩) (sp_element E sg (d - 1) (by omega) x p t i c T Rs B w h) rfl rfl (by first | exact Nat.le_of_ble_eq_true rfl | (simp [zcat_rf, Value.category]; done)) (by omega) (by decide) (by decide) dL_element_9 rfl hnd (fun v_ w_ sg_ hq_ => ?_)
  obtain ⟨q1, rfl, hD, rfl⟩ := hq_
  have ho := hD.o
  have ho1 := ho.2.1
  have ho2 : zln w_ (x + 54) = 1 := ho.2.2.1
  refine r_i2l dL_element_12 rfl rfl ?_
  refine r_last _ (by first | (simp only [zKS]; first | assumption) | assumption | exact zk_nself _ _ _ | (simp [zKS, zNS, *]; done)) rfl (by first | (rw [show zln _ _ = _ by assumption]; omega) | (simp only [zKS, *]; omega) | (simp [zKS, *]; omega)) (by omega) dL_element_13 rfl ?_
  refine r_goto (r := 25) dL_element_14 (by decide) ?_
  refine r_iconst dL_element_25 kc_0 rfl ?_
  refine x_iret rfl dL_element_26 ?_
  exact ⟨rfl, Or.inl ⟨q1.1, q1.2, rfl, z2_eq, hD.sl⟩⟩
