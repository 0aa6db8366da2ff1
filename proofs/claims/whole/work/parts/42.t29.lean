/-! ===== a declaration ===== -/
def pWord (i : Nat) (r : List Nat) : Option (List Nat) := if r.take 7 = zwC i then some (r.drop 7) else none
theorem take7 {r l : List Nat} (hl : l.length = 7) (h7 : 7 ≤ r.length) (h : ∀ j, j < 7 → r.getD j 0 = l.getD j 0) : r.take 7 = l := by
  apply List.ext_getElem
  · rw [List.length_take, hl]; omega
  · intro j h1 h2
    rw [hl] at h2
    have := h j h2
    rw [List.getD_eq_getElem?_getD, List.getD_eq_getElem?_getD, List.getElem?_eq_getElem (by omega), List.getElem?_eq_getElem (by omega)] at this
    rw [List.getElem_take]
    exact this
theorem take7' {r l : List Nat} (h7 : 7 ≤ r.length) (h : r.take 7 = l) : ∀ j, j < 7 → r.getD j 0 = l.getD j 0 := by
  intro j hj
  rw [← h, List.getD_eq_getElem?_getD, List.getD_eq_getElem?_getD, List.getElem?_take, if_pos hj]
theorem TBr.drop {w : ZW} {tb tx a n : Nat} {r : List Nat} (h : TBr w tb tx a r) (hn : n ≤ r.length) : TBr (zsi w 903 tb (nI (a + n))) tb tx (a + n) (r.drop n) := by
  obtain ⟨h1, h2, h3, h4, h5⟩ := h
  have hl : (r.drop n).length = r.length - n := List.length_drop
  refine ⟨z2_eq, ?_, by omega, fun i x hx => ?_, fun x hx => h5 x (List.mem_of_mem_drop hx)⟩
  · rw [zi_zsi, if_neg (fun e => absurd e.1 (by decide)), h2, hl]
    congr 1
    omega
  · rw [za_zsi, Nat.add_assoc]
    exact h4 (n + i) x (by rwa [List.getElem?_drop] at hx)
def zqW (tb : Nat) (a i : Nat) (r : List Nat) (w : ZW) (sg : ZM) : ZQ := fun v w' sg' => sg = sg' ∧ v = some (.int (zb (pWord i r).isSome)) ∧ w' = if (pWord i r).isSome = true then zsi w 903 tb (nI (a + 7)) else w
theorem rtw_loop (E : ZE) (sg : ZM) (d : Nat) (hd : 4 ≤ d) (tb tx sp nm i a : Nat) (hi : i < 2) (w : ZW) (h : TBs w tb tx sp nm) (r : List Nat) (hr : TBr w tb tx a r) (h7 : 7 ≤ r.length) : ∀ (m k : Nat), k + m = 7 → (∀ j, j < k → r.getD j 0 = (zwC i).getD j 0) → RW E MX8_takeWord 20 [some (.ref tb), some (.ref (zwK E i)), some (.int (nI k))] [] w sg d 0 0 (PN E (zqW tb a i r w sg))
  | 0, k, hk, hj => by
    have : k = 7 := by omega
    subst this
    have e1 : (pWord i r).isSome = true := by
      unfold pWord
      rw [if_pos (take7 (zwC_len i) h7 hj)]
      rfl
    obtain ⟨h1, h2, h3, h4, h5, h6, -, -, -, -⟩ := h
    obtain ⟨r1, r2, r3, r4, r5⟩ := hr
    refine r_iload_n dX8_takeWord_20 rfl rfl ?_
    refine r_aload_n dX8_takeWord_21 rfl (by first | exact zRv_ref _ | exact zRv_null | exact zRv_rf _ | assumption) rfl ?_
    refine r_callV MJ0_length_8abf5 0 [] lvX8_178 (Or.inr (Or.inr ⟨_, hi, rfl, rfl⟩)) (sp_length E w sg (d - 1) i hi (by omega)) rfl rfl (by first | exact Nat.le_of_ble_eq_true rfl | (simp [zcat_rf, Value.category]; done)) (by omega) (Nat.le_of_eq (Nat.zero_add _)) (Nat.le_of_eq (Nat.zero_add _)) dX8_takeWord_22 rfl (fun v_ w_ sg_ hq_ => ?_)
    obtain ⟨rfl, rfl, rfl⟩ := hq_
    refine r_icmp_geN (by omega) (by omega) (r := 55) dX8_takeWord_25 (by decide) rfl (fun c_25 => ?_) (fun c_25 => ?_)
    · refine r_aload_n dX8_takeWord_55 rfl (zRv_ref _) rfl ?_
      refine r_dup dX8_takeWord_56 (by first | rfl | exact zcat_rf _) rfl ?_
      refine r_getiv 8 3 903 lfX8_22 (by first | (simp only [zKS]; first | assumption | exact TBm.k (by assumption)) | assumption | exact TBm.k (by assumption) | exact zk_nself _ _ _ | (simp [zKS, zNS, *]; done)) rfl rfl (by first | (simp only [zGS, zMS, Nat.reduceEqDiff, OfNat.ofNat_ne_ofNat, false_and, and_false, true_and, and_true, and_self, if_true, if_false, ite_true, ite_false, reduceIte, reduceCtorEq]; first | done | assumption | rfl) | assumption | exact z2_eq | exact z1_eq | (simp [zGS, zMS]; first | done | assumption) | rfl) dX8_takeWord_57 rfl ?_
      refine r_aload_n dX8_takeWord_60 rfl (by first | exact zRv_ref _ | exact zRv_null | exact zRv_rf _ | assumption) rfl ?_
      refine r_callV MJ0_length_8abf5 0 [] lvX8_178 (Or.inr (Or.inr ⟨_, hi, rfl, rfl⟩)) (sp_length E w sg (d - 1) i hi (by omega)) rfl rfl (by first | exact Nat.le_of_ble_eq_true rfl | (simp [zcat_rf, Value.category]; done)) (by omega) (Nat.le_of_eq (Nat.zero_add _)) (Nat.le_of_eq (Nat.zero_add _)) dX8_takeWord_61 rfl (fun v_ w_ sg_ hq_ => ?_)
      obtain ⟨rfl, rfl, rfl⟩ := hq_
      refine r_iaddN dX8_takeWord_64 rfl ?_
      refine r_puti 8 3 903 lfX8_22 (by first | (simp only [zKS]; first | assumption | exact TBm.k (by assumption)) | assumption | exact TBm.k (by assumption) | exact zk_nself _ _ _ | (simp [zKS, zNS, *]; done)) rfl rfl rfl (Or.inl rfl) dX8_takeWord_65 rfl ?_
      refine r_iconst dX8_takeWord_68 kc_1 rfl ?_
      refine r_zret .boolean rfl rfl dX8_takeWord_69 ?_
      refine ⟨rfl, ?_, ?_⟩
      · rw [e1]; rfl
      · rw [if_pos e1]
    · exact absurd c_25 (by omega)
  | m + 1, k, hk, hj => by
    have hk7 : k < 7 := by omega
    have hm := h
    obtain ⟨h1, h2, h3, h4, h5, h6, -, -, -, -⟩ := h
    have hr0 := hr
    obtain ⟨r1, r2, r3, r4, r5⟩ := hr
    obtain ⟨c, hc⟩ : ∃ c, r[k]? = some c := ⟨r[k], List.getElem?_eq_getElem (by omega)⟩
    have e3 : za w tx (a + k) = nI c := r4 k c hc
    have e4 : c < 128 := r5 c (List.mem_of_getElem? hc)
    have e5 : r.getD k 0 = c := by rw [List.getD_eq_getElem?_getD, hc]; rfl
    have e6 := (zwB_C hi hk7).2
    refine r_iload_n dX8_takeWord_20 rfl rfl ?_
    refine r_aload_n dX8_takeWord_21 rfl (by first | exact zRv_ref _ | exact zRv_null | exact zRv_rf _ | assumption) rfl ?_
    refine r_callV MJ0_length_8abf5 0 [] lvX8_178 (Or.inr (Or.inr ⟨_, hi, rfl, rfl⟩)) (sp_length E w sg (d - 1) i hi (by omega)) rfl rfl (by first | exact Nat.le_of_ble_eq_true rfl | (simp [zcat_rf, Value.category]; done)) (by omega) (Nat.le_of_eq (Nat.zero_add _)) (Nat.le_of_eq (Nat.zero_add _)) dX8_takeWord_22 rfl (fun v_ w_ sg_ hq_ => ?_)
    obtain ⟨rfl, rfl, rfl⟩ := hq_
    refine r_icmp_geN (by omega) (by omega) (r := 55) dX8_takeWord_25 (by decide) rfl (fun c_25 => ?_) (fun c_25 => ?_)
    · exact absurd c_25 (by omega)
    · refine r_aload_n dX8_takeWord_28 rfl (zRv_ref _) rfl ?_
      refine r_gets 8 0 900 lfX8_9 (by first | (simp only [zKS]; first | assumption | exact TBm.k (by assumption)) | assumption | exact TBm.k (by assumption) | exact zk_nself _ _ _ | (simp [zKS, zNS, *]; done)) rfl rfl (by first | (simp only [zGS, Nat.reduceEqDiff, OfNat.ofNat_ne_ofNat, false_and, and_false, true_and, and_true, and_self, if_true, if_false, ite_true, ite_false, reduceIte, reduceCtorEq]; first | done | assumption) | assumption | exact z2_eq | (simp [zGS]; first | done | assumption)) dX8_takeWord_29 rfl ?_
      refine r_aload_n dX8_takeWord_32 rfl (zRv_ref _) rfl ?_
      refine r_getiv 8 3 903 lfX8_22 (by first | (simp only [zKS]; first | assumption | exact TBm.k (by assumption)) | assumption | exact TBm.k (by assumption) | exact zk_nself _ _ _ | (simp [zKS, zNS, *]; done)) rfl rfl (by first | (simp only [zGS, zMS, Nat.reduceEqDiff, OfNat.ofNat_ne_ofNat, false_and, and_false, true_and, and_true, and_self, if_true, if_false, ite_true, ite_false, reduceIte, reduceCtorEq]; first | done | assumption | rfl) | assumption | exact z2_eq | exact z1_eq | (simp [zGS, zMS]; first | done | assumption) | rfl) dX8_takeWord_33 rfl ?_
      refine r_iload_n dX8_takeWord_36 rfl rfl ?_
      refine r_iaddN dX8_takeWord_37 rfl ?_
      refine r_caldv _ (by first | (simp only [zKS]; first | assumption | exact TBm.k (by assumption)) | assumption | exact TBm.k (by assumption) | exact zk_nself _ _ _ | (simp [zKS, zNS, *]; done)) rfl (by first | (rw [show zln _ _ = _ by assumption]; omega) | (simp only [zKS, *]; omega) | (simp [zKS, *]; omega)) (by omega) (by first | (simp only [zGS, zMS, Nat.reduceEqDiff, OfNat.ofNat_ne_ofNat, false_and, and_false, true_and, and_true, and_self, if_true, if_false, ite_true, ite_false, reduceIte, reduceCtorEq]; first | done | assumption | rfl) | assumption | exact z2_eq | exact z1_eq | (simp [zGS, zMS]; first | done | assumption) | rfl) dX8_takeWord_38 rfl ?_
      refine r_aload_n dX8_takeWord_39 rfl (by first | exact zRv_ref _ | exact zRv_null | exact zRv_rf _ | assumption) rfl ?_
      refine r_iload_n dX8_takeWord_40 rfl rfl ?_
      refine r_callV MJ0_charAt_5068e 1 [_] lvX8_182 (Or.inr (Or.inr ⟨_, hi, rfl, rfl⟩)) (sp_charAt E w sg (d - 1) i k hi (by omega) hk7) rfl rfl (by first | exact Nat.le_of_ble_eq_true rfl | (simp [zcat_rf, Value.category]; done)) (by omega) (Nat.le_of_eq (Nat.zero_add _)) (Nat.le_of_eq (Nat.zero_add _)) dX8_takeWord_41 rfl (fun v_ w_ sg_ hq_ => ?_)
      obtain ⟨rfl, rfl, rfl⟩ := hq_
      refine r_icmp_eqN (by omega) (by omega) (r := 49) dX8_takeWord_44 (by decide) rfl (fun c_44 => ?_) (fun c_44 => ?_)
      · refine r_iinc (ls' := [_, _, _]) dX8_takeWord_49 (Nat.le_of_ble_eq_true rfl) rfl (zinc1 _) rfl rfl ?_
        refine r_goto (r := 20) dX8_takeWord_52 (by decide) ?_
        exact rtw_loop E sg d hd tb tx sp nm i a hi w hm r hr0 h7 m (k + 1) (by omega) (fun j hj2 => (Nat.lt_or_ge j k).elim (fun q9 => hj j q9) (fun q9 => by rw [show j = k by omega, e5]; exact c_44))
      · refine r_iconst dX8_takeWord_47 kc_0 rfl ?_
        refine r_zret .boolean rfl rfl dX8_takeWord_48 ?_
        have e1 : (pWord i r).isSome = false := by
          unfold pWord
          rw [if_neg (fun e => c_44 (e5.symm.trans (take7' h7 e k hk7)))]
          rfl
        refine ⟨rfl, ?_, ?_⟩
        · rw [e1]; rfl
        · rw [e1]; rfl
theorem sp_takeWord (E : ZE) (sg : ZM) (d : Nat) (hd : 4 ≤ d) (tb tx sp nm i : Nat) (hi : i < 2) (w : ZW) (r : List Nat) (ss : List PStep) (hm : TBm w tb tx sp nm r ss) : CallQ E MX8_takeWord [.ref tb, .ref (zwK E i)] w sg d 0 0 (fun v w' sg' => sg = sg' ∧ TBu tb sp nm w w' ∧ v = some (.int (zb (pWord i r).isSome)) ∧ TBm w' tb tx sp nm ((pWord i r).getD r) ss) := by
  obtain ⟨h, ⟨a, hr⟩, hk⟩ := hm
  have h0 := h
  have hr0 := hr
  obtain ⟨h1, h2, h3, h4, h5, h6, -, -, -, -⟩ := h0
  obtain ⟨r1, r2, r3, r4, r5⟩ := hr0
  refine CallQ.mono (Q := zqW tb a i r w sg) ?_ ?_
  · refine CallQ.of rfl (by simp [Value.category]) (Nat.le_of_ble_eq_true rfl) ?_
    by_cases h7 : 7 ≤ r.length
    · skip
      refine r_aload_n dX8_takeWord_0 rfl (by first | exact zRv_ref _ | exact zRv_null | exact zRv_rf _ | assumption) rfl ?_
      refine r_callV MJ0_length_8abf5 0 [] lvX8_178 (Or.inr (Or.inr ⟨_, hi, rfl, rfl⟩)) (sp_length E w sg (d - 1) i hi (by omega)) rfl rfl (by first | exact Nat.le_of_ble_eq_true rfl | (simp [zcat_rf, Value.category]; done)) (by omega) (Nat.le_of_eq (Nat.zero_add _)) (Nat.le_of_eq (Nat.zero_add _)) dX8_takeWord_1 rfl (fun v_ w_ sg_ hq_ => ?_)
      obtain ⟨rfl, rfl, rfl⟩ := hq_
      refine r_aload_n dX8_takeWord_4 rfl (zRv_ref _) rfl ?_
      refine r_getiv 8 2 902 lfX8_19 (by first | (simp only [zKS]; first | assumption | exact TBm.k (by assumption)) | assumption | exact TBm.k (by assumption) | exact zk_nself _ _ _ | (simp [zKS, zNS, *]; done)) rfl rfl (by first | (simp only [zGS, zMS, Nat.reduceEqDiff, OfNat.ofNat_ne_ofNat, false_and, and_false, true_and, and_true, and_self, if_true, if_false, ite_true, ite_false, reduceIte, reduceCtorEq]; first | done | assumption | rfl) | assumption | exact z2_eq | exact z1_eq | (simp [zGS, zMS]; first | done | assumption) | rfl) dX8_takeWord_5 rfl ?_
      refine r_aload_n dX8_takeWord_8 rfl (zRv_ref _) rfl ?_
      refine r_getiv 8 3 903 lfX8_22 (by first | (simp only [zKS]; first | assumption | exact TBm.k (by assumption)) | assumption | exact TBm.k (by assumption) | exact zk_nself _ _ _ | (simp [zKS, zNS, *]; done)) rfl rfl (by first | (simp only [zGS, zMS, Nat.reduceEqDiff, OfNat.ofNat_ne_ofNat, false_and, and_false, true_and, and_true, and_self, if_true, if_false, ite_true, ite_false, reduceIte, reduceCtorEq]; first | done | assumption | rfl) | assumption | exact z2_eq | exact z1_eq | (simp [zGS, zMS]; first | done | assumption) | rfl) dX8_takeWord_9 rfl ?_
      refine r_isubN (by omega) dX8_takeWord_12 rfl ?_
      refine r_icmp_leN (by omega) (by omega) (r := 18) dX8_takeWord_13 (by decide) rfl (fun c_13 => ?_) (fun c_13 => ?_)
      · refine r_iconst dX8_takeWord_18 kc_0 rfl ?_
        refine r_istore_n (ls' := [_, _, _]) dX8_takeWord_19 (Nat.le_of_ble_eq_true rfl) rfl rfl ?_
        exact rtw_loop E sg d hd tb tx sp nm i a hi w h r hr h7 7 0 rfl (fun j hj => absurd hj (Nat.not_lt_zero j))
      · exact absurd c_13 (by omega)
    · have e1 : (pWord i r).isSome = false := by
        unfold pWord
        rw [if_neg (fun e => by have := congrArg List.length e; rw [zwC_len, List.length_take] at this; omega)]
        rfl
      refine r_aload_n dX8_takeWord_0 rfl (by first | exact zRv_ref _ | exact zRv_null | exact zRv_rf _ | assumption) rfl ?_
      refine r_callV MJ0_length_8abf5 0 [] lvX8_178 (Or.inr (Or.inr ⟨_, hi, rfl, rfl⟩)) (sp_length E w sg (d - 1) i hi (by omega)) rfl rfl (by first | exact Nat.le_of_ble_eq_true rfl | (simp [zcat_rf, Value.category]; done)) (by omega) (Nat.le_of_eq (Nat.zero_add _)) (Nat.le_of_eq (Nat.zero_add _)) dX8_takeWord_1 rfl (fun v_ w_ sg_ hq_ => ?_)
      obtain ⟨rfl, rfl, rfl⟩ := hq_
      refine r_aload_n dX8_takeWord_4 rfl (zRv_ref _) rfl ?_
      refine r_getiv 8 2 902 lfX8_19 (by first | (simp only [zKS]; first | assumption | exact TBm.k (by assumption)) | assumption | exact TBm.k (by assumption) | exact zk_nself _ _ _ | (simp [zKS, zNS, *]; done)) rfl rfl (by first | (simp only [zGS, zMS, Nat.reduceEqDiff, OfNat.ofNat_ne_ofNat, false_and, and_false, true_and, and_true, and_self, if_true, if_false, ite_true, ite_false, reduceIte, reduceCtorEq]; first | done | assumption | rfl) | assumption | exact z2_eq | exact z1_eq | (simp [zGS, zMS]; first | done | assumption) | rfl) dX8_takeWord_5 rfl ?_
      refine r_aload_n dX8_takeWord_8 rfl (zRv_ref _) rfl ?_
      refine r_getiv 8 3 903 lfX8_22 (by first | (simp only [zKS]; first | assumption | exact TBm.k (by assumption)) | assumption | exact TBm.k (by assumption) | exact zk_nself _ _ _ | (simp [zKS, zNS, *]; done)) rfl rfl (by first | (simp only [zGS, zMS, Nat.reduceEqDiff, OfNat.ofNat_ne_ofNat, false_and, and_false, true_and, and_true, and_self, if_true, if_false, ite_true, ite_false, reduceIte, reduceCtorEq]; first | done | assumption | rfl) | assumption | exact z2_eq | exact z1_eq | (simp [zGS, zMS]; first | done | assumption) | rfl) dX8_takeWord_9 rfl ?_
      refine r_isubN (by omega) dX8_takeWord_12 rfl ?_
      refine r_icmp_leN (by omega) (by omega) (r := 18) dX8_takeWord_13 (by decide) rfl (fun c_13 => ?_) (fun c_13 => ?_)
      · exact absurd c_13 (by omega)
      · refine r_iconst dX8_takeWord_16 kc_0 rfl ?_
        refine r_zret .boolean rfl rfl dX8_takeWord_17 ?_
        refine ⟨rfl, ?_, ?_⟩
        · rw [e1]; rfl
        · rw [e1]; rfl
  · rintro v w' sg' ⟨rfl, rfl, rfl⟩
    refine ⟨rfl, ?_, rfl, ?_⟩
    · split
      · exact TBu.at_
      · exact TBu.rf
    · cases hp : pWord i r with
      | none => exact ⟨h, ⟨a, hr⟩, hk⟩
      | some r' =>
        unfold pWord at hp
        split at hp
        · rename_i e
          cases hp
          have h7 : 7 ≤ r.length := by have := congrArg List.length e; rw [zwC_len, List.length_take] at this; omega
          exact ⟨TBu.s TBu.at_ h, ⟨a + 7, hr.drop h7⟩, hk.at_⟩
        · cases hp
def pValue (r : List Nat) : Option (Nat × List PStep × List Nat) := match pWord 0 r with
  | some r' => some (0, [], r')
  | none => match pWord 1 r with
    | some r' => some (1, [], r')
    | none => match pSum (pFac 7) r with
      | some (s, r') => some (2, s, r')
      | none => none
def pBang (n v og : Nat) (ss : List PStep) (r3 : List Nat) : Option (PDecl × List Nat) := match pCh 33 r3 with
  | none => some ((n, v, og, ss), r3)
  | some r4 => some ((n, v, 5 - og, ss), r4)
def pDecl (og : Nat) (r : List Nat) : Option (PDecl × List Nat) := match pName r with
  | none => none
  | some (n, r1) => match pCh 58 r1 with
    | none => none
    | some r2 => match pValue r2 with
      | none => none
      | some (v, ss, r3) => pBang n v og ss r3
