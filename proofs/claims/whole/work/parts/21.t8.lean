/-! ===== selectors: the plain readers ===== -/
/-- ':n(..)' from its closing parenthesis on -/
def pc73 (x y : Option Nat) (stp : Bool) (sgn : Int32) (r : List Nat) : Option (PPart × List Nat) := match x, y, pCh 41 r with
  | some x, some y, some r1 => some ((if stp = true then (3, sgn * nI y, nI x) else (3, nI x, nI 0)), r1)
  | _, _, _ => none
/-- .. from behind its first digit on -/
def pc18 (x : Option Nat) (r : List Nat) : Option (PPart × List Nat) := match pCh 110 r with
  | none => pc73 x (some 0) false (nI 0) r
  | some r1 => match pCh 43 r1 with
    | some r2 => (match pDig r2 with
      | none => pc73 x none true (nI 1) r2
      | some (y, r3) => pc73 x (some y) true (nI 1) r3)
    | none => match pCh 45 r1 with
      | some r2 => (match pDig r2 with
        | none => pc73 x none true (-1) r2
        | some (y, r3) => pc73 x (some y) true (-1) r3)
      | none => pc73 x (some 0) true (nI 0) r1
def pCount (r : List Nat) : Option (PPart × List Nat) := match pCh 40 r with
  | none => none
  | some r1 => match pDig r1 with
    | none => none
    | some (x, r2) => pc18 (some x) r2
theorem pc73_none (y : Option Nat) (s : Bool) (g : Int32) (r : List Nat) : pc73 none y s g r = none := by
  unfold pc73
  cases y <;> cases pCh 41 r <;> rfl
theorem pc18_none (r : List Nat) : pc18 none r = none := by
  unfold pc18
  simp only [pc73_none]
  repeat' split
  all_goals rfl
/-- a part but for :x, its sign read -/
def pSimple (sgn : Nat) (r : List Nat) : Option (PPart × List Nat) := match r with
  | [] => none
  | l :: r1 => if sgn = 35 then (if 97 ≤ l ∧ l ≤ 122 then some ((0, nI l, nI 0), r1) else none)
    else if sgn = 46 then (if 97 ≤ l ∧ l ≤ 104 then some ((1, nI (2 ^ (l - 97)), nI 0), r1) else none)
    else if l = 102 then some ((3, nI 1, nI 0), r1)
    else if l = 108 then some ((2, nI 0, nI 0), r1)
    else if l = 110 then pCount r1 else none
def isPS (c : Nat) : Bool := decide (c = 35 ∨ c = 46 ∨ c = 58)
def isJn (c : Nat) : Bool := decide (c = 32 ∨ c = 62 ∨ c = 43 ∨ c = 126)
/-- the tag or star: tag, whether there is one, the rest -/
def pHead (r : List Nat) : Nat × Bool × List Nat := match r with
  | [] => (0, false, [])
  | c :: r1 => if c = 42 then (0, true, r1) else if 97 ≤ c ∧ c ≤ 122 then (c, true, r1) else (0, false, c :: r1)
/-- a part, its sign c read; ex: how an :x goes on, none inside one -/
def pPart (ex : Option (List Nat → Option (PBare × List Nat))) (c : Nat) (r : List Nat) (ps : List PPart) (es : List PBare) : Option (List PPart × List PBare × List Nat) := match ex with
  | some f => if c = 58 ∧ r.head? = some 120 then (match f r.tail with
      | none => none
      | some (b, r2) => some (ps, b :: es, r2))
    else match pSimple c r with
      | none => none
      | some (p, r2) => some (p :: ps, es, r2)
  | none => match pSimple c r with
    | none => none
    | some (p, r2) => some (p :: ps, es, r2)
def pOutL (ex : Option (List Nat → Option (PBare × List Nat))) : Nat → List PPart → List PBare → Bool → List Nat → Option (List PPart × List PBare × Bool × List Nat)
  | 0, ps, es, o, r => some (ps, es, o, r)
  | n + 1, ps, es, o, r => match r with
    | [] => some (ps, es, o, [])
    | c :: r1 => if isPS c = true then (match pPart ex c r1 ps es with
        | none => none
        | some (ps2, es2, r2) => pOutL ex n ps2 es2 true r2) else some (ps, es, o, c :: r1)
def pCompG (ex : Option (List Nat → Option (PBare × List Nat))) (r : List Nat) : Option (PComp × List Nat) := match pHead r with
  | (t, o, r1) => match pOutL ex 4 [] [] o r1 with
    | none => none
    | some (ps, es, o2, r2) => if o2 = true then some ((t, ps, es), r2) else none
/-- what stands behind :x -/
def pExcl (r : List Nat) : Option (PBare × List Nat) := match pCh 40 r with
  | none => none
  | some r1 => match pCompG none r1 with
    | none => none
    | some ((t, ps, _), r2) => match pCh 41 r2 with
      | none => none
      | some r3 => some ((t, ps), r3)
def pComp (r : List Nat) : Option (PComp × List Nat) := pCompG (some pExcl) r
theorem sp_X0_add (E : ZE) (w : ZW) (sg : ZM) (d : Nat) (a b k wt : Nat) (hka : zk w a = 1) (hkb : zk w b = 4) (hk : zi w 400 b = nI k) (hk4 : k < 4) (hw : zi w 103 a = nI wt) : CallQ E MX0_add [.ref a, .ref b] w sg d 0 0 (fun v w' sg' => v = none ∧ w' = zsi (zsr (zsr w 403 b (zr w 101 a)) 101 a (some b)) 103 a (nI (wt + if k = 0 then 10000 else 100)) ∧ sg = sg') := by
  refine CallQ.of rfl (by simp [Value.category]) (Nat.le_of_ble_eq_true rfl) ?_
  refine r_aload_n dX0_add_0 rfl (by first | exact zRv_ref _ | exact zRv_null | exact zRv_rf _ | assumption) rfl ?_
  refine r_aload_n dX0_add_1 rfl (zRv_ref _) rfl ?_
  refine r_getr 0 1 101 lfX0_13 (by first | (simp only [zKS]; first | assumption | exact TBm.k (by assumption)) | assumption | exact TBm.k (by assumption) | exact zk_nself _ _ _ | (simp [zKS, zNS, *]; done)) rfl rfl dX0_add_2 rfl ?_
  refine r_putr 3 3 403 _ lfX0_30 (by first | (simp only [zKS]; first | assumption | exact TBm.k (by assumption)) | assumption | exact TBm.k (by assumption) | exact zk_nself _ _ _ | (simp [zKS, zNS, *]; done)) rfl rfl rfl (Or.inl rfl) dX0_add_5 rfl ?_
  refine r_aload_n dX0_add_8 rfl (zRv_ref _) rfl ?_
  refine r_aload_n dX0_add_9 rfl (by first | exact zRv_ref _ | exact zRv_null | exact zRv_rf _ | assumption) rfl ?_
  refine r_puts 0 1 101 lfX0_13 (by first | (simp only [zKS]; first | assumption | exact TBm.k (by assumption)) | assumption | exact TBm.k (by assumption) | exact zk_nself _ _ _ | (simp [zKS, zNS, *]; done)) rfl rfl rfl (Or.inl rfl) dX0_add_10 rfl ?_
  refine r_aload_n dX0_add_13 rfl (zRv_ref _) rfl ?_
  refine r_dup dX0_add_14 (by first | rfl | exact zcat_rf _) rfl ?_
  refine r_getiv 0 3 103 lfX0_21 (by first | (simp only [zKS]; first | assumption | exact TBm.k (by assumption)) | assumption | exact TBm.k (by assumption) | exact zk_nself _ _ _ | (simp [zKS, zNS, *]; done)) rfl rfl (by first | (simp only [zGS, zMS, Nat.reduceEqDiff, OfNat.ofNat_ne_ofNat, false_and, and_false, true_and, and_true, and_self, if_true, if_false, ite_true, ite_false, reduceIte, reduceCtorEq]; first | done | assumption | rfl) | assumption | exact z2_eq | exact z1_eq | (simp [zGS, zMS]; first | done | assumption) | rfl) dX0_add_15 rfl ?_
  refine r_aload_n dX0_add_18 rfl (by first | exact zRv_ref _ | exact zRv_null | exact zRv_rf _ | assumption) rfl ?_
  refine r_getiv 3 0 400 lfX0_34 (by first | (simp only [zKS]; first | assumption | exact TBm.k (by assumption)) | assumption | exact TBm.k (by assumption) | exact zk_nself _ _ _ | (simp [zKS, zNS, *]; done)) rfl rfl (by first | (simp only [zGS, zMS, Nat.reduceEqDiff, OfNat.ofNat_ne_ofNat, false_and, and_false, true_and, and_true, and_self, if_true, if_false, ite_true, ite_false, reduceIte, reduceCtorEq]; first | done | assumption | rfl) | assumption | exact z2_eq | exact z1_eq | (simp [zGS, zMS]; first | done | assumption) | rfl) dX0_add_19 rfl ?_
  refine r_if_neN (by omega) (r := 31) dX0_add_22 (by decide) rfl (fun c_22 => ?_) (fun c_22 => ?_)
  · refine r_bipush dX0_add_31 kb_100 rfl ?_
    refine r_iaddN dX0_add_33 rfl ?_
    refine r_puti 0 3 103 lfX0_21 (by first | (simp only [zKS]; first | assumption | exact TBm.k (by assumption)) | assumption | exact TBm.k (by assumption) | exact zk_nself _ _ _ | (simp [zKS, zNS, *]; done)) rfl rfl rfl (Or.inl rfl) dX0_add_34 rfl ?_
    refine r_vret rfl dX0_add_37 ?_
    refine ⟨rfl, ?_, rfl⟩
    simp [c_22]
  · refine r_sipush dX0_add_25 ks_10000 rfl ?_
    refine r_goto (r := 33) dX0_add_28 (by decide) ?_
    refine r_iaddN dX0_add_33 rfl ?_
    refine r_puti 0 3 103 lfX0_21 (by first | (simp only [zKS]; first | assumption | exact TBm.k (by assumption)) | assumption | exact TBm.k (by assumption) | exact zk_nself _ _ _ | (simp [zKS, zNS, *]; done)) rfl rfl rfl (Or.inl rfl) dX0_add_34 rfl ?_
    refine r_vret rfl dX0_add_37 ?_
    refine ⟨rfl, ?_, rfl⟩
    simp [c_22]
theorem sp_X0_exclude (E : ZE) (w : ZW) (sg : ZM) (d : Nat) (a b wt wb : Nat) (hab : a ≠ b) (hka : zk w a = 1) (hkb : zk w b = 1) (hw : zi w 103 a = nI wt) (hb : zi w 103 b = nI wb) : CallQ E MX0_exclude [.ref a, .ref b] w sg d 0 0 (fun v w' sg' => v = none ∧ w' = zsi (zsr (zsr w 105 b (zr w 102 a)) 102 a (some b)) 103 a (nI (wt + wb)) ∧ sg = sg') := by
  refine CallQ.of rfl (by simp [Value.category]) (Nat.le_of_ble_eq_true rfl) ?_
  refine r_aload_n dX0_exclude_0 rfl (by first | exact zRv_ref _ | exact zRv_null | exact zRv_rf _ | assumption) rfl ?_
  refine r_aload_n dX0_exclude_1 rfl (zRv_ref _) rfl ?_
  refine r_getr 0 2 102 lfX0_17 (by first | (simp only [zKS]; first | assumption | exact TBm.k (by assumption)) | assumption | exact TBm.k (by assumption) | exact zk_nself _ _ _ | (simp [zKS, zNS, *]; done)) rfl rfl dX0_exclude_2 rfl ?_
  refine r_putr 0 5 105 _ lfX0_27 (by first | (simp only [zKS]; first | assumption | exact TBm.k (by assumption)) | assumption | exact TBm.k (by assumption) | exact zk_nself _ _ _ | (simp [zKS, zNS, *]; done)) rfl rfl rfl (Or.inl rfl) dX0_exclude_5 rfl ?_
  refine r_aload_n dX0_exclude_8 rfl (zRv_ref _) rfl ?_
  refine r_aload_n dX0_exclude_9 rfl (by first | exact zRv_ref _ | exact zRv_null | exact zRv_rf _ | assumption) rfl ?_
  refine r_puts 0 2 102 lfX0_17 (by first | (simp only [zKS]; first | assumption | exact TBm.k (by assumption)) | assumption | exact TBm.k (by assumption) | exact zk_nself _ _ _ | (simp [zKS, zNS, *]; done)) rfl rfl rfl (Or.inl rfl) dX0_exclude_10 rfl ?_
  refine r_aload_n dX0_exclude_13 rfl (zRv_ref _) rfl ?_
  refine r_dup dX0_exclude_14 (by first | rfl | exact zcat_rf _) rfl ?_
  refine r_getiv 0 3 103 lfX0_21 (by first | (simp only [zKS]; first | assumption | exact TBm.k (by assumption)) | assumption | exact TBm.k (by assumption) | exact zk_nself _ _ _ | (simp [zKS, zNS, *]; done)) rfl rfl (by first | (simp only [zGS, zMS, Nat.reduceEqDiff, OfNat.ofNat_ne_ofNat, false_and, and_false, true_and, and_true, and_self, if_true, if_false, ite_true, ite_false, reduceIte, reduceCtorEq]; first | done | assumption | rfl) | assumption | exact z2_eq | exact z1_eq | (simp [zGS, zMS]; first | done | assumption) | rfl) dX0_exclude_15 rfl ?_
  refine r_aload_n dX0_exclude_18 rfl (by first | exact zRv_ref _ | exact zRv_null | exact zRv_rf _ | assumption) rfl ?_
  refine r_getiv 0 3 103 lfX0_21 (by first | (simp only [zKS]; first | assumption | exact TBm.k (by assumption)) | assumption | exact TBm.k (by assumption) | exact zk_nself _ _ _ | (simp [zKS, zNS, *]; done)) rfl rfl (by first | (simp only [zGS, zMS, Nat.reduceEqDiff, OfNat.ofNat_ne_ofNat, false_and, and_false, true_and, and_true, and_self, if_true, if_false, ite_true, ite_false, reduceIte, reduceCtorEq]; first | done | assumption | rfl) | assumption | exact z2_eq | exact z1_eq | (simp [zGS, zMS]; first | done | assumption) | rfl) dX0_exclude_19 rfl ?_
  refine r_iaddN dX0_exclude_22 rfl ?_
  refine r_puti 0 3 103 lfX0_21 (by first | (simp only [zKS]; first | assumption | exact TBm.k (by assumption)) | assumption | exact TBm.k (by assumption) | exact zk_nself _ _ _ | (simp [zKS, zNS, *]; done)) rfl rfl rfl (Or.inl rfl) dX0_exclude_23 rfl ?_
  refine r_vret rfl dX0_exclude_26 ?_
  exact ⟨rfl, rfl, rfl⟩
