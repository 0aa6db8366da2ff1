/-! ===== append ===== -/
/-- byte i of a word, as a number -/
def byteN (x : Int32) (i : Nat) : Nat := x.toBitVec.toNat / 2 ^ (8 * i) % 256
theorem byteN_lt (x : Int32) (i : Nat) : byteN x i < 256 := Nat.mod_lt _ (by decide)
theorem byteR_eq (x : Int32) {i : Nat} (hi : i < 4) : byteR x i = nI (byteN x i) := by
  have h4 : i = 0 ∨ i = 1 ∨ i = 2 ∨ i = 3 := by omega
  unfold byteR byteN
  rw [pk_and _ 8 (by decide +kernel)]
  rcases h4 with rfl | rfl | rfl | rfl
  · rw [pk_ushr x (nI 8 * nI 0) 0 (by decide +kernel)]
  · rw [pk_ushr x (nI 8 * nI 1) 8 (by decide +kernel)]
  · rw [pk_ushr x (nI 8 * nI 2) 16 (by decide +kernel)]
  · rw [pk_ushr x (nI 8 * nI 3) 24 (by decide +kernel)]
/-- the buffer holds B, nothing being read -/
def TBf (w : ZW) (tb tx : Nat) (B : List Nat) : Prop := zk w tb = 9 ∧ zr w 900 tb = some tx ∧ zk w tx = 20 ∧ zln w tx = 120 ∧ zi w 901 tb = nI B.length ∧ B.length ≤ 120 ∧ (∀ i c, B[i]? = some c → za w tx i = nI c) ∧ ∀ c ∈ B, 32 ≤ c ∧ c ≤ 126
/-- what append may change -/
def TBa (tb tx : Nat) (w w' : ZW) : Prop := zsz w' = zsz w ∧ zk w' = zk w ∧ zln w' = zln w ∧ (∀ f a, ¬ (a = tb ∧ f = 901) → zi w' f a = zi w f a) ∧ zr w' = zr w ∧ zf w' = zf w ∧ (∀ a, a ≠ tx → za w' a = za w a) ∧ zq w' = zq w ∧ zg w' = zg w ∧ zl w' = zl w ∧ zd w' = zd w
theorem TBa.rf {tb tx : Nat} {w : ZW} : TBa tb tx w w := ⟨rfl, rfl, rfl, fun _ _ _ => rfl, rfl, rfl, fun _ _ => rfl, rfl, rfl, rfl, rfl⟩
theorem TBa.tr {tb tx : Nat} {w w1 w2 : ZW} (h : TBa tb tx w w1) (g : TBa tb tx w1 w2) : TBa tb tx w w2 := by
  obtain ⟨h1, h2, h3, h4, h5, h6, h7, h8, h9, h10, h11⟩ := h
  obtain ⟨g1, g2, g3, g4, g5, g6, g7, g8, g9, g10, g11⟩ := g
  exact ⟨g1.trans h1, g2.trans h2, g3.trans h3, fun f a e => (g4 f a e).trans (h4 f a e), g5.trans h5, g6.trans h6, fun a e => (g7 a e).trans (h7 a e), g8.trans h8, g9.trans h9, g10.trans h10, g11.trans h11⟩
theorem TBa.e {tb tx b : Nat} {w w' : ZW} (h : TBa tb tx w w') (h1 : b ≠ tb) (h2 : b ≠ tx) : zeq w w' b := by
  obtain ⟨g1, g2, g3, g4, g5, g6, g7, g8, g9, g10, g11⟩ := h
  exact ⟨by rw [g2], fun f => g4 f b (fun e => h1 e.1), fun f => by rw [g5], fun f => by rw [g6], by rw [g3], g7 b h2, by rw [g8], by rw [g9], by rw [g10], by rw [g11]⟩
def okb (x : Int32) (i : Nat) : Prop := 32 ≤ byteN x i ∧ byteN x i ≤ 126
def pBytes (x : Int32) : Nat → List Nat
  | 0 => []
  | n + 1 => byteN x n :: pBytes x n
def okB (x : Int32) (n : Nat) : Bool := (List.range n).all fun i => decide (32 ≤ byteN x i) && decide (byteN x i ≤ 126)
theorem okB_iff {x : Int32} {n : Nat} : okB x n = true ↔ ∀ j, j < n → okb x j := by
  unfold okB okb
  simp [List.all_eq_true]
def pPut (x n : Int32) (B : List Nat) : Option (List Nat) := if 1 ≤ n.toNatClampNeg ∧ n.toNatClampNeg ≤ 4 ∧ B.length + n.toNatClampNeg ≤ 120 ∧ okB x n.toNatClampNeg = true then some (B ++ pBytes x n.toNatClampNeg) else none
def iV (k : Nat) : Int32 := if k = 0 then -1 else nI (k - 1)
theorem ziV (k : Nat) : nI k + Int32.ofInt (-1) = iV k := by
  unfold iV
  by_cases h : k = 0
  · subst h; rw [if_pos rfl]; decide +kernel
  · rw [if_neg h]; exact zdec1 (by omega)
theorem rapp_l1 (E : ZE) (sg : ZM) (d tb n : Nat) (hd : 1 ≤ d) (x : Int32) (w : ZW) (hn : n ≤ 4) (Q : ZQ) (hF : (¬ ∀ j, j < n → okb x j) → Q (some (.int (zb false))) w sg) (hK : (∀ j, j < n → okb x j) → ∀ x3 x4, RW E MX8_append 62 [some (.ref tb), some (.int x), some (.int (nI n)), x3, x4] [] w sg d 0 0 (PN E Q)) : ∀ (m i : Nat) (x4 : Option Value), i + m = n → (∀ j, j < i → okb x j) → RW E MX8_append 28 [some (.ref tb), some (.int x), some (.int (nI n)), some (.int (nI i)), x4] [] w sg d 0 0 (PN E Q)
  | 0, i, x4, hi, hj => by
    have : i = n := by omega
    subst this
    refine r_iload_n dX8_append_28 rfl rfl ?_
    refine r_iload_n dX8_append_29 rfl rfl ?_
    refine r_icmp_geN (by omega) (by omega) (r := 62) dX8_append_30 (by decide) rfl (fun c_30 => ?_) (fun c_30 => ?_)
    · exact hK hj _ _
    · exact absurd c_30 (by omega)
  | m + 1, i, x4, hi, hj => by
    have h9 := byteN_lt x i
    refine r_iload_n dX8_append_28 rfl rfl ?_
    refine r_iload_n dX8_append_29 rfl rfl ?_
    refine r_icmp_geN (by omega) (by omega) (r := 62) dX8_append_30 (by decide) rfl (fun c_30 => ?_) (fun c_30 => ?_)
    · exact absurd c_30 (by omega)
    · refine r_iload_n dX8_append_33 rfl rfl ?_
      refine r_iload_n dX8_append_34 rfl rfl ?_
      refine r_callS MX8_byteOf 2 [_, _] lsX8_36 (sp_byteOf E w sg (d - 1) x i (by omega)) rfl rfl (by first | exact Nat.le_of_ble_eq_true rfl | (simp [zcat_rf, Value.category]; done)) (by omega) (Nat.le_of_eq (Nat.zero_add _)) (Nat.le_of_eq (Nat.zero_add _)) dX8_append_35 rfl (fun v_ w_ sg_ hq_ => ?_)
      obtain ⟨rfl, rfl, rfl⟩ := hq_
      rw [byteR_eq x (by omega)]
      refine r_istore (ls' := [_, _, _, _, _]) dX8_append_38 (Nat.le_of_ble_eq_true rfl) rfl rfl ?_
      refine r_iload dX8_append_40 rfl rfl ?_
      refine r_bipush dX8_append_42 kb_32 rfl ?_
      refine r_icmp_ltN (by omega) (by omega) (r := 54) dX8_append_44 (by decide) rfl (fun c_44 => ?_) (fun c_44 => ?_)
      · refine r_iconst dX8_append_54 kc_0 rfl ?_
        refine r_zret .boolean rfl rfl dX8_append_55 ?_
        exact hF (fun h => by have := h i (by omega); unfold okb at this; omega)
      · refine r_iload dX8_append_47 rfl rfl ?_
        refine r_bipush dX8_append_49 kb_126 rfl ?_
        refine r_icmp_leN (by omega) (by omega) (r := 56) dX8_append_51 (by decide) rfl (fun c_51 => ?_) (fun c_51 => ?_)
        · refine r_iinc (ls' := [_, _, _, _, _]) dX8_append_56 (Nat.le_of_ble_eq_true rfl) rfl (zinc1 _) rfl rfl ?_
          refine r_goto (r := 28) dX8_append_59 (by decide) ?_
          exact rapp_l1 E sg d tb n hd x w hn Q hF hK m (i + 1) _ (by omega) (fun j hj2 => (Nat.lt_or_ge j i).elim (fun q9 => hj j q9) (fun q9 => by rw [show j = i by omega]; exact ⟨by omega, by omega⟩))
        · refine r_iconst dX8_append_54 kc_0 rfl ?_
          refine r_zret .boolean rfl rfl dX8_append_55 ?_
          exact hF (fun h => by have := h i (by omega); unfold okb at this; omega)
theorem TBf.push {w : ZW} {tb tx : Nat} {B : List Nat} (h : TBf w tb tx B) (hl : B.length < 120) {c : Nat} (hc : 32 ≤ c ∧ c ≤ 126) : TBf (zsi (zsa w tx B.length (nI c)) 901 tb (nI (B.length + 1))) tb tx (B ++ [c]) ∧ TBa tb tx w (zsi (zsa w tx B.length (nI c)) 901 tb (nI (B.length + 1))) := by
  obtain ⟨h1, h2, h3, h4, h5, h6, h7, h8⟩ := h
  refine ⟨⟨h1, h2, h3, h4, ?_, by rw [List.length_append]; exact hl, fun i x hx => ?_, fun x hx => ?_⟩, rfl, rfl, rfl, fun f a e => ?_, rfl, rfl, fun a e => ?_, rfl, rfl, rfl, rfl⟩
  · rw [List.length_append]; exact z2_eq
  · rw [za_zsi, za_zsa]
    by_cases e : i = B.length
    · subst e
      rw [List.getElem?_append_right (Nat.le_refl _), Nat.sub_self] at hx
      cases hx
      rw [if_pos ⟨rfl, rfl⟩]
    · rw [if_neg (fun q => e q.2)]
      have hi : i < B.length := by
        have := (List.getElem?_eq_some_iff.mp hx).1
        rw [List.length_append, List.length_singleton] at this
        omega
      rw [List.getElem?_append_left hi] at hx
      exact h7 i x hx
  · rcases List.mem_append.mp hx with g | g
    · exact h8 x g
    · rw [List.mem_singleton] at g; rw [g]; exact hc
  · rw [zi_zsi, if_neg (fun q => e ⟨q.2, q.1⟩)]; rfl
  · rw [za_zsi]; exact z2_row e
theorem rapp_l2 (E : ZE) (sg : ZM) (d tb tx n : Nat) (hd : 1 ≤ d) (x : Int32) (w0 : ZW) (B0 : List Nat) (hok : ∀ j, j < n → okb x j) (hn : n ≤ 4) : ∀ (k : Nat) (w : ZW) (B : List Nat) (x4 : Option Value), k ≤ n → B.length + k ≤ 120 → B ++ pBytes x k = B0 ++ pBytes x n → TBf w tb tx B → TBa tb tx w0 w → RW E MX8_append 66 [some (.ref tb), some (.int x), some (.int (nI n)), some (.int (iV k)), x4] [] w sg d 0 0 (PN E (fun v w' sg' => sg = sg' ∧ v = some (.int (zb true)) ∧ TBf w' tb tx (B0 ++ pBytes x n) ∧ TBa tb tx w0 w'))
  | 0, w, B, x4, hk, hl, he, h, ha => by
    rw [show iV 0 = -1 from rfl]
    rw [show pBytes x 0 = [] from rfl, List.append_nil] at he
    subst he
    refine r_iload_n dX8_append_66 rfl rfl ?_
    refine r_if_lt (r := 101) dX8_append_67 (by decide) rfl (fun c_67 => ?_) (fun c_67 => ?_)
    · refine r_iconst dX8_append_101 kc_1 rfl ?_
      refine r_zret .boolean rfl rfl dX8_append_102 ?_
      exact ⟨rfl, rfl, h, ha⟩
    · exact absurd (by decide) c_67
  | k + 1, w, B, x4, hk, hl, he, h, ha => by
    rw [show iV (k + 1) = nI k from rfl]
    have h9 := byteN_lt x k
    have hc := hok k (by omega)
    unfold okb at hc
    have h0 := h
    obtain ⟨h1, h2, h3, h4, h5, h6, h7, h8⟩ := h0
    refine r_iload_n dX8_append_66 rfl rfl ?_
    refine r_if_ltN (by omega) (r := 101) dX8_append_67 (by decide) rfl (fun c_67 => ?_) (fun c_67 => ?_)
    · exact absurd c_67 (by omega)
    · refine r_aload_n dX8_append_70 rfl (zRv_ref _) rfl ?_
      refine r_gets 8 0 900 lfX8_9 (by first | (simp only [zKS]; first | assumption | exact TBm.k (by assumption)) | assumption | exact TBm.k (by assumption) | exact zk_nself _ _ _ | (simp [zKS, zNS, *]; done)) rfl rfl (by first | (simp only [zGS, Nat.reduceEqDiff, OfNat.ofNat_ne_ofNat, false_and, and_false, true_and, and_true, and_self, if_true, if_false, ite_true, ite_false, reduceIte, reduceCtorEq]; first | done | assumption) | assumption | exact z2_eq | (simp [zGS]; first | done | assumption)) dX8_append_71 rfl ?_
      refine r_aload_n dX8_append_74 rfl (zRv_ref _) rfl ?_
      refine r_getiv 8 1 901 lfX8_15 (by first | (simp only [zKS]; first | assumption | exact TBm.k (by assumption)) | assumption | exact TBm.k (by assumption) | exact zk_nself _ _ _ | (simp [zKS, zNS, *]; done)) rfl rfl (by first | (simp only [zGS, zMS, Nat.reduceEqDiff, OfNat.ofNat_ne_ofNat, false_and, and_false, true_and, and_true, and_self, if_true, if_false, ite_true, ite_false, reduceIte, reduceCtorEq]; first | done | assumption | rfl) | assumption | exact z2_eq | exact z1_eq | (simp [zGS, zMS]; first | done | assumption) | rfl) dX8_append_75 rfl ?_
      refine r_iload_n dX8_append_78 rfl rfl ?_
      refine r_iload_n dX8_append_79 rfl rfl ?_
      refine r_callS MX8_byteOf 2 [_, _] lsX8_36 (sp_byteOf E w sg (d - 1) x k (by omega)) rfl rfl (by first | exact Nat.le_of_ble_eq_true rfl | (simp [zcat_rf, Value.category]; done)) (by omega) (Nat.le_of_eq (Nat.zero_add _)) (Nat.le_of_eq (Nat.zero_add _)) dX8_append_80 rfl (fun v_ w_ sg_ hq_ => ?_)
      obtain ⟨rfl, rfl, rfl⟩ := hq_
      rw [byteR_eq x (by omega)]
      refine r_i2c dX8_append_83 (zchr (by omega)) rfl ?_
      refine r_cast _ (by first | exact zch_nar (by omega) | assumption | (simp only [*]; exact zch_nar (by omega))) (by first | (simp only [zKS]; first | assumption | exact TBm.k (by assumption)) | assumption | exact TBm.k (by assumption) | exact zk_nself _ _ _ | (simp [zKS, zNS, *]; done)) rfl (by first | (rw [show zln _ _ = _ by assumption]; omega) | (simp only [zKS, *]; omega) | (simp [zKS, *]; omega)) (by omega) dX8_append_84 rfl ?_
      refine r_aload_n dX8_append_85 rfl (zRv_ref _) rfl ?_
      refine r_dup dX8_append_86 (by first | rfl | exact zcat_rf _) rfl ?_
      refine r_getiv 8 1 901 lfX8_15 (by first | (simp only [zKS]; first | assumption | exact TBm.k (by assumption)) | assumption | exact TBm.k (by assumption) | exact zk_nself _ _ _ | (simp [zKS, zNS, *]; done)) rfl rfl (by first | (simp only [zGS, zMS, Nat.reduceEqDiff, OfNat.ofNat_ne_ofNat, false_and, and_false, true_and, and_true, and_self, if_true, if_false, ite_true, ite_false, reduceIte, reduceCtorEq]; first | done | assumption | rfl) | assumption | exact z2_eq | exact z1_eq | (simp [zGS, zMS]; first | done | assumption) | rfl) dX8_append_87 rfl ?_
      refine r_iconst dX8_append_90 kc_1 rfl ?_
      refine r_iaddN dX8_append_91 rfl ?_
      refine r_puti 8 1 901 lfX8_15 (by first | (simp only [zKS]; first | assumption | exact TBm.k (by assumption)) | assumption | exact TBm.k (by assumption) | exact zk_nself _ _ _ | (simp [zKS, zNS, *]; done)) rfl rfl rfl (Or.inl rfl) dX8_append_92 rfl ?_
      refine r_iinc (ls' := [_, _, _, _, _]) dX8_append_95 (Nat.le_of_ble_eq_true rfl) rfl (ziV k) rfl rfl ?_
      refine r_goto (r := 66) dX8_append_98 (by decide) ?_
      obtain ⟨p1, p2⟩ := h.push (by omega) hc
      exact rapp_l2 E sg d tb tx n hd x w0 B0 hok hn k _ (B ++ [byteN x k]) _ (by omega) (by rw [List.length_append, List.length_singleton]; omega) (by rw [List.append_assoc]; exact he) p1 (ha.tr p2)
theorem zneg {n : Int32} (h : n < 0) : n.toNatClampNeg = 0 := by
  have h3 : n.toInt < 0 := by simpa using Int32.lt_iff_toInt_lt.mp h
  have h4 : n.toNatClampNeg = n.toInt.toNat := rfl
  omega
theorem sp_append (E : ZE) (sg : ZM) (d tb tx : Nat) (hd : 1 ≤ d) (x n : Int32) (w : ZW) (B : List Nat) (h : TBf w tb tx B) : CallQ E MX8_append [.ref tb, .int x, .int n] w sg d 0 0 (fun v w' sg' => sg = sg' ∧ v = some (.int (zb (pPut x n B).isSome)) ∧ TBf w' tb tx ((pPut x n B).getD B) ∧ TBa tb tx w w') := by
  have h0 := h
  obtain ⟨h1, h2, h3, h4, h5, h6, h7, h8⟩ := h0
  refine CallQ.of rfl (by simp [Value.category]) (Nat.le_of_ble_eq_true rfl) ?_
  by_cases hneg : n < 0
  · have e1 : pPut x n B = none := by
      unfold pPut
      rw [zneg hneg, if_neg (fun q => absurd q.1 (by decide))]
    rw [e1]
    have g1 : n < nI 1 := Int32.lt_trans hneg (by decide)
    refine r_iload_n dX8_append_0 rfl rfl ?_
    refine r_iconst dX8_append_1 kc_1 rfl ?_
    refine r_icmp_lt (r := 24) dX8_append_2 (by decide) rfl (fun c_2 => ?_) (fun c_2 => ?_)
    · refine r_iconst dX8_append_24 kc_0 rfl ?_
      refine r_zret .boolean rfl rfl dX8_append_25 ?_
      exact ⟨rfl, rfl, h, TBa.rf⟩
    · exact absurd g1 c_2
  · obtain ⟨m, hm, rfl⟩ := nI_of hneg
    have hz : (nI m).toNatClampNeg = m := zcl hm
    by_cases hc : 1 ≤ m ∧ m ≤ 4 ∧ B.length + m ≤ 120
    · have hF : (¬ ∀ j, j < m → okb x j) → pPut x (nI m) B = none := fun q => by
        unfold pPut
        rw [hz, if_neg (fun q2 => q (okB_iff.mp q2.2.2.2))]
      have hT : (∀ j, j < m → okb x j) → pPut x (nI m) B = some (B ++ pBytes x m) := fun q => by
        unfold pPut
        rw [hz, if_pos ⟨hc.1, hc.2.1, hc.2.2, okB_iff.mpr q⟩]
      refine r_iload_n dX8_append_0 rfl rfl ?_
      refine r_iconst dX8_append_1 kc_1 rfl ?_
      refine r_icmp_ltN (by omega) (by omega) (r := 24) dX8_append_2 (by decide) rfl (fun c_2 => ?_) (fun c_2 => ?_)
      · exact absurd c_2 (by omega)
      · refine r_iload_n dX8_append_5 rfl rfl ?_
        refine r_iconst dX8_append_6 kc_4 rfl ?_
        refine r_icmp_gtN (by omega) (by omega) (r := 24) dX8_append_7 (by decide) rfl (fun c_7 => ?_) (fun c_7 => ?_)
        · exact absurd c_7 (by omega)
        · refine r_aload_n dX8_append_10 rfl (zRv_ref _) rfl ?_
          refine r_getiv 8 1 901 lfX8_15 (by first | (simp only [zKS]; first | assumption | exact TBm.k (by assumption)) | assumption | exact TBm.k (by assumption) | exact zk_nself _ _ _ | (simp [zKS, zNS, *]; done)) rfl rfl (by first | (simp only [zGS, zMS, Nat.reduceEqDiff, OfNat.ofNat_ne_ofNat, false_and, and_false, true_and, and_true, and_self, if_true, if_false, ite_true, ite_false, reduceIte, reduceCtorEq]; first | done | assumption | rfl) | assumption | exact z2_eq | exact z1_eq | (simp [zGS, zMS]; first | done | assumption) | rfl) dX8_append_11 rfl ?_
          refine r_iload_n dX8_append_14 rfl rfl ?_
          refine r_iaddN dX8_append_15 rfl ?_
          refine r_aload_n dX8_append_16 rfl (zRv_ref _) rfl ?_
          refine r_gets 8 0 900 lfX8_9 (by first | (simp only [zKS]; first | assumption | exact TBm.k (by assumption)) | assumption | exact TBm.k (by assumption) | exact zk_nself _ _ _ | (simp [zKS, zNS, *]; done)) rfl rfl (by first | (simp only [zGS, Nat.reduceEqDiff, OfNat.ofNat_ne_ofNat, false_and, and_false, true_and, and_true, and_self, if_true, if_false, ite_true, ite_false, reduceIte, reduceCtorEq]; first | done | assumption) | assumption | exact z2_eq | (simp [zGS]; first | done | assumption)) dX8_append_17 rfl ?_
          refine r_alenv 0 (by decide) (by first | (simp only [zKS]; first | assumption | exact TBm.k (by assumption)) | assumption | exact TBm.k (by assumption) | exact zk_nself _ _ _ | (simp [zKS, zNS, *]; done)) (by first | (simp only [zGS, zMS, Nat.reduceEqDiff, OfNat.ofNat_ne_ofNat, false_and, and_false, true_and, and_true, and_self, if_true, if_false, ite_true, ite_false, reduceIte, reduceCtorEq]; first | done | assumption | rfl) | assumption | exact z2_eq | exact z1_eq | (simp [zGS, zMS]; first | done | assumption) | rfl) dX8_append_20 rfl ?_
          refine r_icmp_leN (by omega) (by omega) (r := 26) dX8_append_21 (by decide) rfl (fun c_21 => ?_) (fun c_21 => ?_)
          · refine r_iconst dX8_append_26 kc_0 rfl ?_
            refine r_istore_n (ls' := [_, _, _, _, _]) dX8_append_27 (Nat.le_of_ble_eq_true rfl) rfl rfl ?_
            refine rapp_l1 E sg d tb m hd x w hc.2.1 _ (fun q => ?_) (fun q x3 x4 => ?_) m 0 none (by omega) (fun j hj => absurd hj (Nat.not_lt_zero j))
            · rw [hF q]
              exact ⟨rfl, rfl, h, TBa.rf⟩
            · rw [hT q]
              refine r_iload_n dX8_append_62 rfl rfl ?_
              refine r_iconst dX8_append_63 kc_1 rfl ?_
              refine r_isubN (by omega) dX8_append_64 rfl ?_
              refine r_istore_n (ls' := [_, _, _, _, _]) dX8_append_65 (Nat.le_of_ble_eq_true rfl) rfl rfl ?_
              rw [show nI (m - 1) = iV m from (if_neg (by omega)).symm]
              exact rapp_l2 E sg d tb tx m hd x w B q hc.2.1 m w B _ (Nat.le_refl _) hc.2.2 rfl h TBa.rf
          · exact absurd c_21 (by omega)
    · have e1 : pPut x (nI m) B = none := by
        unfold pPut
        rw [hz, if_neg (fun q => hc ⟨q.1, q.2.1, q.2.2.1⟩)]
      rw [e1]
      refine r_iload_n dX8_append_0 rfl rfl ?_
      refine r_iconst dX8_append_1 kc_1 rfl ?_
      refine r_icmp_ltN (by omega) (by omega) (r := 24) dX8_append_2 (by decide) rfl (fun c_2 => ?_) (fun c_2 => ?_)
      · refine r_iconst dX8_append_24 kc_0 rfl ?_
        refine r_zret .boolean rfl rfl dX8_append_25 ?_
        exact ⟨rfl, rfl, h, TBa.rf⟩
      · refine r_iload_n dX8_append_5 rfl rfl ?_
        refine r_iconst dX8_append_6 kc_4 rfl ?_
        refine r_icmp_gtN (by omega) (by omega) (r := 24) dX8_append_7 (by decide) rfl (fun c_7 => ?_) (fun c_7 => ?_)
        · refine r_iconst dX8_append_24 kc_0 rfl ?_
          refine r_zret .boolean rfl rfl dX8_append_25 ?_
          exact ⟨rfl, rfl, h, TBa.rf⟩
        · refine r_aload_n dX8_append_10 rfl (zRv_ref _) rfl ?_
          refine r_getiv 8 1 901 lfX8_15 (by first | (simp only [zKS]; first | assumption | exact TBm.k (by assumption)) | assumption | exact TBm.k (by assumption) | exact zk_nself _ _ _ | (simp [zKS, zNS, *]; done)) rfl rfl (by first | (simp only [zGS, zMS, Nat.reduceEqDiff, OfNat.ofNat_ne_ofNat, false_and, and_false, true_and, and_true, and_self, if_true, if_false, ite_true, ite_false, reduceIte, reduceCtorEq]; first | done | assumption | rfl) | assumption | exact z2_eq | exact z1_eq | (simp [zGS, zMS]; first | done | assumption) | rfl) dX8_append_11 rfl ?_
          refine r_iload_n dX8_append_14 rfl rfl ?_
          refine r_iaddN dX8_append_15 rfl ?_
          refine r_aload_n dX8_append_16 rfl (zRv_ref _) rfl ?_
          refine r_gets 8 0 900 lfX8_9 (by first | (simp only [zKS]; first | assumption | exact TBm.k (by assumption)) | assumption | exact TBm.k (by assumption) | exact zk_nself _ _ _ | (simp [zKS, zNS, *]; done)) rfl rfl (by first | (simp only [zGS, Nat.reduceEqDiff, OfNat.ofNat_ne_ofNat, false_and, and_false, true_and, and_true, and_self, if_true, if_false, ite_true, ite_false, reduceIte, reduceCtorEq]; first | done | assumption) | assumption | exact z2_eq | (simp [zGS]; first | done | assumption)) dX8_append_17 rfl ?_
          refine r_alenv 0 (by decide) (by first | (simp only [zKS]; first | assumption | exact TBm.k (by assumption)) | assumption | exact TBm.k (by assumption) | exact zk_nself _ _ _ | (simp [zKS, zNS, *]; done)) (by first | (simp only [zGS, zMS, Nat.reduceEqDiff, OfNat.ofNat_ne_ofNat, false_and, and_false, true_and, and_true, and_self, if_true, if_false, ite_true, ite_false, reduceIte, reduceCtorEq]; first | done | assumption | rfl) | assumption | exact z2_eq | exact z1_eq | (simp [zGS, zMS]; first | done | assumption) | rfl) dX8_append_20 rfl ?_
          refine r_icmp_leN (by omega) (by omega) (r := 26) dX8_append_21 (by decide) rfl (fun c_21 => ?_) (fun c_21 => ?_)
          · exact absurd ⟨by omega, by omega, by omega⟩ hc
          · refine r_iconst dX8_append_24 kc_0 rfl ?_
            refine r_zret .boolean rfl rfl dX8_append_25 ?_
            exact ⟨rfl, rfl, h, TBa.rf⟩
theorem sp_size (E : ZE) (sg : ZM) (d tb tx : Nat) (w : ZW) (B : List Nat) (h : TBf w tb tx B) : CallQ E MX8_size [.ref tb] w sg d 0 0 (fun v w' sg' => sg = sg' ∧ v = some (.int (nI B.length)) ∧ w = w') := by
  obtain ⟨h1, h2, h3, h4, h5, h6, h7, h8⟩ := h
  refine CallQ.of rfl (by simp [Value.category]) (Nat.le_of_ble_eq_true rfl) ?_
  refine r_aload_n dX8_size_0 rfl (zRv_ref _) rfl ?_
  refine r_getiv 8 1 901 lfX8_15 (by first | (simp only [zKS]; first | assumption | exact TBm.k (by assumption)) | assumption | exact TBm.k (by assumption) | exact zk_nself _ _ _ | (simp [zKS, zNS, *]; done)) rfl rfl (by first | (simp only [zGS, zMS, Nat.reduceEqDiff, OfNat.ofNat_ne_ofNat, false_and, and_false, true_and, and_true, and_self, if_true, if_false, ite_true, ite_false, reduceIte, reduceCtorEq]; first | done | assumption | rfl) | assumption | exact z2_eq | exact z1_eq | (simp [zGS, zMS]; first | done | assumption) | rfl) dX8_size_1 rfl ?_
  refine r_iret rfl dX8_size_4 ?_
  exact ⟨rfl, rfl, rfl⟩
