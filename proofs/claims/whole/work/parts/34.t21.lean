/-! ===== the name of a declaration ===== -/
def pName (r : List Nat) : Option (Nat × List Nat) := match r with
  | [] => none
  | c :: r1 => if c = 99 then some (0, r1) else if c = 102 then some (1, r1) else if c = 119 then some (2, r1) else if c = 104 then some (3, r1) else if c = 109 then some (4, r1) else if c = 122 then some (5, r1) else if c = 36 then (match pNamed r1 with
    | none => none
    | some (x, r2) => some (6 + x, r2)) else none
def zqN (tb tx sp nm : Nat) (w : ZW) (sg : ZM) (ss : List PStep) (o : Option (Nat × List Nat)) : ZQ := fun v w' sg' => sg = sg' ∧ TBu tb sp nm w w' ∧ match o with
  | none => v = some (.int (-1)) ∧ TBx w' tb tx sp nm
  | some (x, r1) => v = some (.int (nI x)) ∧ TBm w' tb tx sp nm r1 ss
theorem nameOut : ∀ c, c < 128 → ¬ (c = 36 ∨ c = 99 ∨ c = 102 ∨ c = 104 ∨ c = 109 ∨ c = 119 ∨ c = 122) → Op.lookupswitch.offset [(36, 80), (99, 68), (102, 70), (104, 74), (109, 76), (119, 72), (122, 78)] 99 (nI c).toInt = 99 := by decide +kernel
theorem sp_name (E : ZE) (w : ZW) (sg : ZM) (d : Nat) (hd : 2 ≤ d) (tb tx sp nm : Nat) (r : List Nat) (ss : List PStep) (hm : TBm w tb tx sp nm r ss) : CallQ E MX8_readName [.ref tb] w sg d 0 0 (zqN tb tx sp nm w sg ss (pName r)) := by
  refine CallQ.of rfl (by simp [Value.category]) (Nat.le_of_ble_eq_true rfl) ?_
  cases r with
  | nil =>
    refine r_aload_n dX8_readName_0 rfl (zRv_ref _) rfl ?_
    refine r_callV MX8_next 0 [] lvX8_71 (Or.inl ⟨8, by decide, (by first | (simp only [zKS]; first | assumption | exact TBm.k (by assumption)) | assumption | exact TBm.k (by assumption) | exact zk_nself _ _ _ | (simp [zKS, zNS, *]; done)), rfl⟩) (sp_next E w sg (d - 1) tb tx sp nm [] ss hm) rfl rfl (by first | exact Nat.le_of_ble_eq_true rfl | (simp [zcat_rf, Value.category]; done)) (by omega) (Nat.le_of_eq (Nat.zero_add _)) (Nat.le_of_eq (Nat.zero_add _)) dX8_readName_1 rfl (fun v_ w_ sg_ hq_ => ?_)
    obtain ⟨rfl, hu1, rfl, hm1⟩ := hq_
    refine r_lookup (off := 99) (r := 103) dX8_readName_4 (by decide) (by decide +kernel) (by decide) ?_
    refine r_iconst dX8_readName_103 kc_m1 rfl ?_
    refine r_iret rfl dX8_readName_104 ?_
    exact ⟨rfl, hu1, rfl, hm1.x⟩
  | cons c r1 =>
    have hc := hm.cs c List.mem_cons_self
    by_cases h99 : c = 99
    · subst h99
      have e9 : pName (99 :: r1) = some (0, r1) := by simp [pName]
      rw [e9]
      refine r_aload_n dX8_readName_0 rfl (zRv_ref _) rfl ?_
      refine r_callV MX8_next 0 [] lvX8_71 (Or.inl ⟨8, by decide, (by first | (simp only [zKS]; first | assumption | exact TBm.k (by assumption)) | assumption | exact TBm.k (by assumption) | exact zk_nself _ _ _ | (simp [zKS, zNS, *]; done)), rfl⟩) (sp_next E w sg (d - 1) tb tx sp nm (99 :: r1) ss hm) rfl rfl (by first | exact Nat.le_of_ble_eq_true rfl | (simp [zcat_rf, Value.category]; done)) (by omega) (Nat.le_of_eq (Nat.zero_add _)) (Nat.le_of_eq (Nat.zero_add _)) dX8_readName_1 rfl (fun v_ w_ sg_ hq_ => ?_)
      obtain ⟨rfl, hu1, rfl, hm1⟩ := hq_
      refine r_lookup (off := 68) (r := 72) dX8_readName_4 (by decide) (show Op.lookupswitch.offset [(36, 80), (99, 68), (102, 70), (104, 74), (109, 76), (119, 72), (122, 78)] 99 (nI 99).toInt = 68 by decide +kernel) (by decide) ?_
      refine r_iconst dX8_readName_72 kc_0 rfl ?_
      refine r_iret rfl dX8_readName_73 ?_
      exact ⟨rfl, hu1, rfl, hm1⟩
    by_cases h102 : c = 102
    · subst h102
      have e9 : pName (102 :: r1) = some (1, r1) := by simp [pName]
      rw [e9]
      refine r_aload_n dX8_readName_0 rfl (zRv_ref _) rfl ?_
      refine r_callV MX8_next 0 [] lvX8_71 (Or.inl ⟨8, by decide, (by first | (simp only [zKS]; first | assumption | exact TBm.k (by assumption)) | assumption | exact TBm.k (by assumption) | exact zk_nself _ _ _ | (simp [zKS, zNS, *]; done)), rfl⟩) (sp_next E w sg (d - 1) tb tx sp nm (102 :: r1) ss hm) rfl rfl (by first | exact Nat.le_of_ble_eq_true rfl | (simp [zcat_rf, Value.category]; done)) (by omega) (Nat.le_of_eq (Nat.zero_add _)) (Nat.le_of_eq (Nat.zero_add _)) dX8_readName_1 rfl (fun v_ w_ sg_ hq_ => ?_)
      obtain ⟨rfl, hu1, rfl, hm1⟩ := hq_
      refine r_lookup (off := 70) (r := 74) dX8_readName_4 (by decide) (show Op.lookupswitch.offset [(36, 80), (99, 68), (102, 70), (104, 74), (109, 76), (119, 72), (122, 78)] 99 (nI 102).toInt = 70 by decide +kernel) (by decide) ?_
      refine r_iconst dX8_readName_74 kc_1 rfl ?_
      refine r_iret rfl dX8_readName_75 ?_
      exact ⟨rfl, hu1, rfl, hm1⟩
    by_cases h119 : c = 119
    · subst h119
      have e9 : pName (119 :: r1) = some (2, r1) := by simp [pName]
      rw [e9]
      refine r_aload_n dX8_readName_0 rfl (zRv_ref _) rfl ?_
      refine r_callV MX8_next 0 [] lvX8_71 (Or.inl ⟨8, by decide, (by first | (simp only [zKS]; first | assumption | exact TBm.k (by assumption)) | assumption | exact TBm.k (by assumption) | exact zk_nself _ _ _ | (simp [zKS, zNS, *]; done)), rfl⟩) (sp_next E w sg (d - 1) tb tx sp nm (119 :: r1) ss hm) rfl rfl (by first | exact Nat.le_of_ble_eq_true rfl | (simp [zcat_rf, Value.category]; done)) (by omega) (Nat.le_of_eq (Nat.zero_add _)) (Nat.le_of_eq (Nat.zero_add _)) dX8_readName_1 rfl (fun v_ w_ sg_ hq_ => ?_)
      obtain ⟨rfl, hu1, rfl, hm1⟩ := hq_
      refine r_lookup (off := 72) (r := 76) dX8_readName_4 (by decide) (show Op.lookupswitch.offset [(36, 80), (99, 68), (102, 70), (104, 74), (109, 76), (119, 72), (122, 78)] 99 (nI 119).toInt = 72 by decide +kernel) (by decide) ?_
      refine r_iconst dX8_readName_76 kc_2 rfl ?_
      refine r_iret rfl dX8_readName_77 ?_
      exact ⟨rfl, hu1, rfl, hm1⟩
    by_cases h104 : c = 104
    · subst h104
      have e9 : pName (104 :: r1) = some (3, r1) := by simp [pName]
      rw [e9]
      refine r_aload_n dX8_readName_0 rfl (zRv_ref _) rfl ?_
      refine r_callV MX8_next 0 [] lvX8_71 (Or.inl ⟨8, by decide, (by first | (simp only [zKS]; first | assumption | exact TBm.k (by assumption)) | assumption | exact TBm.k (by assumption) | exact zk_nself _ _ _ | (simp [zKS, zNS, *]; done)), rfl⟩) (sp_next E w sg (d - 1) tb tx sp nm (104 :: r1) ss hm) rfl rfl (by first | exact Nat.le_of_ble_eq_true rfl | (simp [zcat_rf, Value.category]; done)) (by omega) (Nat.le_of_eq (Nat.zero_add _)) (Nat.le_of_eq (Nat.zero_add _)) dX8_readName_1 rfl (fun v_ w_ sg_ hq_ => ?_)
      obtain ⟨rfl, hu1, rfl, hm1⟩ := hq_
      refine r_lookup (off := 74) (r := 78) dX8_readName_4 (by decide) (show Op.lookupswitch.offset [(36, 80), (99, 68), (102, 70), (104, 74), (109, 76), (119, 72), (122, 78)] 99 (nI 104).toInt = 74 by decide +kernel) (by decide) ?_
      refine r_iconst dX8_readName_78 kc_3 rfl ?_
      refine r_iret rfl dX8_readName_79 ?_
      exact ⟨rfl, hu1, rfl, hm1⟩
    by_cases h109 : c = 109
    · subst h109
      have e9 : pName (109 :: r1) = some (4, r1) := by simp [pName]
      rw [e9]
      refine r_aload_n dX8_readName_0 rfl (zRv_ref _) rfl ?_
      refine r_callV MX8_next 0 [] lvX8_71 (Or.inl ⟨8, by decide, (by first | (simp only [zKS]; first | assumption | exact TBm.k (by assumption)) | assumption | exact TBm.k (by assumption) | exact zk_nself _ _ _ | (simp [zKS, zNS, *]; done)), rfl⟩) (sp_next E w sg (d - 1) tb tx sp nm (109 :: r1) ss hm) rfl rfl (by first | exact Nat.le_of_ble_eq_true rfl | (simp [zcat_rf, Value.category]; done)) (by omega) (Nat.le_of_eq (Nat.zero_add _)) (Nat.le_of_eq (Nat.zero_add _)) dX8_readName_1 rfl (fun v_ w_ sg_ hq_ => ?_)
      obtain ⟨rfl, hu1, rfl, hm1⟩ := hq_
      refine r_lookup (off := 76) (r := 80) dX8_readName_4 (by decide) (show Op.lookupswitch.offset [(36, 80), (99, 68), (102, 70), (104, 74), (109, 76), (119, 72), (122, 78)] 99 (nI 109).toInt = 76 by decide +kernel) (by decide) ?_
      refine r_iconst dX8_readName_80 kc_4 rfl ?_
      refine r_iret rfl dX8_readName_81 ?_
      exact ⟨rfl, hu1, rfl, hm1⟩
    by_cases h122 : c = 122
    · subst h122
      have e9 : pName (122 :: r1) = some (5, r1) := by simp [pName]
      rw [e9]
      refine r_aload_n dX8_readName_0 rfl (zRv_ref _) rfl ?_
      refine r_callV MX8_next 0 [] lvX8_71 (Or.inl ⟨8, by decide, (by first | (simp only [zKS]; first | assumption | exact TBm.k (by assumption)) | assumption | exact TBm.k (by assumption) | exact zk_nself _ _ _ | (simp [zKS, zNS, *]; done)), rfl⟩) (sp_next E w sg (d - 1) tb tx sp nm (122 :: r1) ss hm) rfl rfl (by first | exact Nat.le_of_ble_eq_true rfl | (simp [zcat_rf, Value.category]; done)) (by omega) (Nat.le_of_eq (Nat.zero_add _)) (Nat.le_of_eq (Nat.zero_add _)) dX8_readName_1 rfl (fun v_ w_ sg_ hq_ => ?_)
      obtain ⟨rfl, hu1, rfl, hm1⟩ := hq_
      refine r_lookup (off := 78) (r := 82) dX8_readName_4 (by decide) (show Op.lookupswitch.offset [(36, 80), (99, 68), (102, 70), (104, 74), (109, 76), (119, 72), (122, 78)] 99 (nI 122).toInt = 78 by decide +kernel) (by decide) ?_
      refine r_iconst dX8_readName_82 kc_5 rfl ?_
      refine r_iret rfl dX8_readName_83 ?_
      exact ⟨rfl, hu1, rfl, hm1⟩
    by_cases h36 : c = 36
    · subst h36
      cases hP : pNamed r1 with
      | none =>
        have e9 : pName (36 :: r1) = none := by simp [pName, hP]
        have e8 : nam0 r1 = -1 := by simp [nam0, hP]
        rw [e9]
        refine r_aload_n dX8_readName_0 rfl (zRv_ref _) rfl ?_
        refine r_callV MX8_next 0 [] lvX8_71 (Or.inl ⟨8, by decide, (by first | (simp only [zKS]; first | assumption | exact TBm.k (by assumption)) | assumption | exact TBm.k (by assumption) | exact zk_nself _ _ _ | (simp [zKS, zNS, *]; done)), rfl⟩) (sp_next E w sg (d - 1) tb tx sp nm (36 :: r1) ss hm) rfl rfl (by first | exact Nat.le_of_ble_eq_true rfl | (simp [zcat_rf, Value.category]; done)) (by omega) (Nat.le_of_eq (Nat.zero_add _)) (Nat.le_of_eq (Nat.zero_add _)) dX8_readName_1 rfl (fun v_ w_ sg_ hq_ => ?_)
        obtain ⟨rfl, hu1, rfl, hm1⟩ := hq_
        refine r_lookup (off := 80) (r := 84) dX8_readName_4 (by decide) (show Op.lookupswitch.offset [(36, 80), (99, 68), (102, 70), (104, 74), (109, 76), (119, 72), (122, 78)] 99 (nI 36).toInt = 80 by decide +kernel) (by decide) ?_
        simp only [hd0, List.tail_cons] at hm1
        refine r_aload_n dX8_readName_84 rfl (zRv_ref _) rfl ?_
        refine r_callV MX8_readNamed 0 [] lvX8_158 (Or.inl ⟨8, by decide, (by first | (simp only [zKS]; first | assumption | exact TBm.k (by assumption)) | assumption | exact TBm.k (by assumption) | exact zk_nself _ _ _ | (simp [zKS, zNS, *]; done)), rfl⟩) (sp_X8_readNamed E _ sg (d - 1) (by omega) tb tx sp nm r1 ss hm1) rfl rfl (by first | exact Nat.le_of_ble_eq_true rfl | (simp [zcat_rf, Value.category]; done)) (by omega) (Nat.le_of_eq (Nat.zero_add _)) (Nat.le_of_eq (Nat.zero_add _)) dX8_readName_85 rfl (fun v_ w_ sg_ hq_ => ?_)
        obtain ⟨rfl, hu2, rfl, hm2⟩ := hq_
        rw [e8]
        refine r_istore_n (ls' := [_, _]) dX8_readName_88 (Nat.le_of_ble_eq_true rfl) rfl rfl ?_
        refine r_iload_n dX8_readName_89 rfl rfl ?_
        refine r_iconst dX8_readName_90 kc_m1 rfl ?_
        refine r_icmp_ne (r := 98) dX8_readName_91 (by decide) rfl (fun c_91 => ?_) (fun c_91 => ?_)
        · exact absurd rfl c_91
        · refine r_iconst dX8_readName_94 kc_m1 rfl ?_
          refine r_goto (r := 102) dX8_readName_95 (by decide) ?_
          refine r_iret rfl dX8_readName_102 ?_
          exact ⟨rfl, hu1.tr hu2, rfl, hm2.x⟩
      | some q =>
        obtain ⟨x, r2⟩ := q
        have e9 : pName (36 :: r1) = some (6 + x, r2) := by simp [pName, hP]
        have e8 : nam0 r1 = nI x := by simp [nam0, hP]
        have lx := (pNamed_len hP).2
        have e7 : r1.tail = r2 := by
          cases r1 with
          | nil => cases hP
          | cons c r =>
            simp only [pNamed] at hP
            split at hP
            · cases hP
              rfl
            · cases hP
        have hne : nI x ≠ -1 := by
          have : ∀ x, x < 4 → nI x ≠ -1 := by decide +kernel
          exact this x lx
        rw [e9]
        refine r_aload_n dX8_readName_0 rfl (zRv_ref _) rfl ?_
        refine r_callV MX8_next 0 [] lvX8_71 (Or.inl ⟨8, by decide, (by first | (simp only [zKS]; first | assumption | exact TBm.k (by assumption)) | assumption | exact TBm.k (by assumption) | exact zk_nself _ _ _ | (simp [zKS, zNS, *]; done)), rfl⟩) (sp_next E w sg (d - 1) tb tx sp nm (36 :: r1) ss hm) rfl rfl (by first | exact Nat.le_of_ble_eq_true rfl | (simp [zcat_rf, Value.category]; done)) (by omega) (Nat.le_of_eq (Nat.zero_add _)) (Nat.le_of_eq (Nat.zero_add _)) dX8_readName_1 rfl (fun v_ w_ sg_ hq_ => ?_)
        obtain ⟨rfl, hu1, rfl, hm1⟩ := hq_
        refine r_lookup (off := 80) (r := 84) dX8_readName_4 (by decide) (show Op.lookupswitch.offset [(36, 80), (99, 68), (102, 70), (104, 74), (109, 76), (119, 72), (122, 78)] 99 (nI 36).toInt = 80 by decide +kernel) (by decide) ?_
        simp only [hd0, List.tail_cons] at hm1
        refine r_aload_n dX8_readName_84 rfl (zRv_ref _) rfl ?_
        refine r_callV MX8_readNamed 0 [] lvX8_158 (Or.inl ⟨8, by decide, (by first | (simp only [zKS]; first | assumption | exact TBm.k (by assumption)) | assumption | exact TBm.k (by assumption) | exact zk_nself _ _ _ | (simp [zKS, zNS, *]; done)), rfl⟩) (sp_X8_readNamed E _ sg (d - 1) (by omega) tb tx sp nm r1 ss hm1) rfl rfl (by first | exact Nat.le_of_ble_eq_true rfl | (simp [zcat_rf, Value.category]; done)) (by omega) (Nat.le_of_eq (Nat.zero_add _)) (Nat.le_of_eq (Nat.zero_add _)) dX8_readName_85 rfl (fun v_ w_ sg_ hq_ => ?_)
        obtain ⟨rfl, hu2, rfl, hm2⟩ := hq_
        rw [e8]
        rw [e7] at hm2
        refine r_istore_n (ls' := [_, _]) dX8_readName_88 (Nat.le_of_ble_eq_true rfl) rfl rfl ?_
        refine r_iload_n dX8_readName_89 rfl rfl ?_
        refine r_iconst dX8_readName_90 kc_m1 rfl ?_
        refine r_icmp_ne (r := 98) dX8_readName_91 (by decide) rfl (fun c_91 => ?_) (fun c_91 => ?_)
        · refine r_bipush dX8_readName_98 kb_6 rfl ?_
          refine r_iload_n dX8_readName_100 rfl rfl ?_
          refine r_iaddN dX8_readName_101 rfl ?_
          refine r_iret rfl dX8_readName_102 ?_
          exact ⟨rfl, hu1.tr hu2, rfl, hm2⟩
        · exact absurd c_91 hne
    · have e9 : pName (c :: r1) = none := by simp [pName, *]
      rw [e9]
      refine r_aload_n dX8_readName_0 rfl (zRv_ref _) rfl ?_
      refine r_callV MX8_next 0 [] lvX8_71 (Or.inl ⟨8, by decide, (by first | (simp only [zKS]; first | assumption | exact TBm.k (by assumption)) | assumption | exact TBm.k (by assumption) | exact zk_nself _ _ _ | (simp [zKS, zNS, *]; done)), rfl⟩) (sp_next E w sg (d - 1) tb tx sp nm (c :: r1) ss hm) rfl rfl (by first | exact Nat.le_of_ble_eq_true rfl | (simp [zcat_rf, Value.category]; done)) (by omega) (Nat.le_of_eq (Nat.zero_add _)) (Nat.le_of_eq (Nat.zero_add _)) dX8_readName_1 rfl (fun v_ w_ sg_ hq_ => ?_)
      obtain ⟨rfl, hu1, rfl, hm1⟩ := hq_
      refine r_lookup (off := 99) (r := 103) dX8_readName_4 (by decide) (nameOut c hc (by omega)) (by decide) ?_
      refine r_iconst dX8_readName_103 kc_m1 rfl ?_
      refine r_iret rfl dX8_readName_104 ?_
      exact ⟨rfl, hu1, rfl, hm1.x⟩
