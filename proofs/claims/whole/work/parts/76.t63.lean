/-! ===== Reckoner.settle ===== -/
def pth (T : List PEl) : Nat → Nat → List Nat
  | 0, _ => []
  | f + 1, e => e :: (match tP T e with
    | none => []
    | some q => pth T f q)
theorem pth_len {T : List PEl} (hw : wfT T) : ∀ (f e : Nat), (pth T f e).length ≤ e + 1
  | 0, e => Nat.zero_le _
  | f + 1, e => by
    unfold pth
    cases hq : tP T e with
    | none => simp
    | some q =>
      have h1 := pth_len hw f q
      have h2 := hw.2.1 e q hq
      simp only [List.length_cons]
      omega
def X2 (x : Nat) (A : Nat → Nat) (n : Nat) : Nat → Prop := fun a => (x + 7 ≤ a ∧ a < x + 13) ∨ ∃ e, e < n ∧ A e + 5 ≤ a ∧ a < A e + 9
theorem seQ.tr {w0 w w' : ZW} {x nr : Nat} {T : List PEl} {A : Nat → Nat} {DC : Nat → PDecl → Prop} {RG : Nat → Nat → Prop} {L : Nat → Nat → PLd} {V : Nat → Nat → UInt32} (h : seQ w0 w x nr T A DC RG L V) (g : seQ w w' x nr T A DC RG L V) : seQ w0 w' x nr T A DC RG L V := ⟨h.1.tr g.1 (fun _ q => q), g.2.1, fun i => (g.2.2.1 i).trans (h.2.2.1 i), fun e he p hp q => g.2.2.2 e he p hp (h.2.2.2 e he p hp q)⟩
theorem cchE.sq {w : ZW} {x nr : Nat} {T : List PEl} {A : Nat → Nat} {DC : Nat → PDecl → Prop} {RG : Nat → Nat → Prop} {L : Nat → Nat → PLd} {V : Nat → Nat → UInt32} (h : cchE w x nr T A DC RG L V) {i : Nat} {v : Option Nat} : cchE (zsq w (x + 8) i v) x nr T A DC RG L V := by
  obtain ⟨⟨g2, g3, K, g4, g5⟩, g6, g7⟩ := h
  have e : ech (X1 x A T.length) w (zsq w (x + 8) i v) := ech.sq (Or.inl ⟨by omega, by omega⟩)
  exact ⟨⟨g2.w1 e, g3.w1 g2 e, K, g4, g5⟩, g6, g7⟩
def pthW (w : ZW) (x : Nat) (A : Nat → Nat) (l : List Nat) : Prop := ∀ i e, l[i]? = some e → zq w (x + 8) i = some (A e)
theorem rse_null (E : ZE) (sg : ZM) (d k a n m : Nat) (w : ZW) (P : ZPhi) (K : RW E MX4_settle 40 [some (.ref k), some (.ref a), some (.int (nI n)), some (.int (nI m)), some .null] [] w sg d 0 0 P) : RW E MX4_settle 5 [some (.ref k), some (.ref a), some (.int (nI n)), some (.int (nI m)), some .null] [] w sg d 0 0 P := by
  refine r_aload dX4_settle_5 rfl (by first | exact zRv_ref _ | exact zRv_null | exact zRv_rf _ | assumption) rfl ?_
  refine r_ifnullZ (r := 40) dX4_settle_7 (by decide) rfl (fun c_7 => ?_) (fun a_7 c_7 => ?_)
  · exact K
  · cases c_7
theorem rse_1 (E : ZE) (sg : ZM) (d x nr : Nat) (T : List PEl) (A : Nat → Nat) (DC : Nat → PDecl → Prop) (RG : Nat → Nat → Prop) (L : Nat → Nat → PLd) (V : Nat → Nat → UInt32) (w0 : ZW) (e0 p : Nat) (l : List Nat) (P : ZPhi) (K : ∀ w', ech (X1 x A T.length) w0 w' → cchE w' x nr T A DC RG L V → pthW w' x A l → RW E MX4_settle 40 [some (.ref (x + 7)), some (.ref (A e0)), some (.int (nI p)), some (.int (nI l.length)), some .null] [] w' sg d 0 0 P) : ∀ (f e k : Nat) (w : ZW), e < f → e < T.length → l.drop k = pth T f e → k + e < 24 → ech (X1 x A T.length) w0 w → cchE w x nr T A DC RG L V → (∀ i e, i < k → l[i]? = some e → zq w (x + 8) i = some (A e)) → RW E MX4_settle 5 [some (.ref (x + 7)), some (.ref (A e0)), some (.int (nI p)), some (.int (nI k)), some (.ref (A e))] [] w sg d 0 0 P
  | 0, e, k, w, h1, _, _, _, _, _, _ => absurd h1 (Nat.not_lt_zero _)
  | f + 1, e, k, w, hf, he, hl, hk, he0, hC, hP => by
    have hR := hC.2.1
    obtain ⟨⟨k1, k2, k3, k4, k5, k6⟩, ⟨a1, a2, a3, a4, a5⟩, l1, l2, l3, l4, l5⟩ := hR
    obtain ⟨f0, -, f1, -⟩ := hC.1.1.2.2.1.2 e he
    have hd2 : l[k]? = some e := by
      have : (l.drop k)[0]? = some e := by rw [hl]; rfl
      rw [List.getElem?_drop] at this
      exact this
    have e1 : ech (X1 x A T.length) w0 (zsq w (x + 8) k (some (A e))) := he0.tr (ech.sq (X := X1 x A T.length) (Or.inl ⟨by omega, by omega⟩)) (fun _ q => q)
    have hP1 : ∀ i e', i < k + 1 → l[i]? = some e' → zq (zsq w (x + 8) k (some (A e))) (x + 8) i = some (A e') := fun i e' hi q => by
      rw [zq_zsq]
      by_cases c : i = k
      · subst c
        rw [if_pos ⟨rfl, rfl⟩]
        rw [hd2] at q
        cases q
        rfl
      · rw [if_neg (fun y => c y.2)]
        exact hP i e' (by omega) q
    have hl1 : l.drop (k + 1) = (match tP T e with
      | none => []
      | some q => pth T f q) := by
      rw [← List.drop_drop, hl]
      rfl
    cases hq : tP T e with
    | none =>
      rw [hq] at f1 hl1
      have f2 : zr w 300 (A e) = none := f1
      have hll : l.length = k + 1 := by
        have h7 := congrArg List.length hl1
        have h8 := congrArg List.length hl
        rw [List.length_drop] at h7 h8
        have h9 : (pth T (f + 1) e).length = ((match tP T e with
          | none => []
          | some q => pth T f q) : List Nat).length + 1 := rfl
        simp at h7
        omega
      refine r_aload dX4_settle_5 rfl (by first | exact zRv_ref _ | exact zRv_null | exact zRv_rf _ | assumption) rfl ?_
      refine r_ifnullR (r := 40) dX4_settle_7 (by decide) rfl (fun c_7 => ?_) (fun a_7 c_7 => ?_)
      · cases c_7
      · refine r_iload_n dX4_settle_10 rfl rfl ?_
        refine r_aload_n dX4_settle_11 rfl (zRv_ref _) rfl ?_
        refine r_gets 4 0 500 lfX4_11 (by first | (simp only [zKS]; first | assumption) | assumption | exact zk_nself _ _ _ | (simp [zKS, zNS, *]; done)) rfl rfl (by first | (simp only [zGS, Nat.reduceEqDiff, OfNat.ofNat_ne_ofNat, false_and, and_false, true_and, and_true, and_self, if_true, if_false, ite_true, ite_false, reduceIte, reduceCtorEq]; first | done | assumption) | assumption | exact z2_eq | (simp [zGS]; first | done | assumption)) dX4_settle_12 rfl ?_
        refine r_alenv 7 (by decide) (by first | (simp only [zKS]; first | assumption) | assumption | exact zk_nself _ _ _ | (simp [zKS, zNS, *]; done)) (by first | (simp only [zGS, zMS, Nat.reduceEqDiff, OfNat.ofNat_ne_ofNat, false_and, and_false, true_and, and_true, and_self, if_true, if_false, ite_true, ite_false, reduceIte, reduceCtorEq]; first | done | assumption | rfl) | assumption | exact z2_eq | exact z1_eq | (simp [zGS, zMS]; first | done | assumption) | rfl) dX4_settle_15 rfl ?_
        refine r_icmp_geN (by omega) (by omega) (r := 40) dX4_settle_16 (by decide) rfl (fun c_16 => ?_) (fun c_16 => ?_)
        · exact absurd c_16 (by omega)
        · refine r_aload_n dX4_settle_19 rfl (zRv_ref _) rfl ?_
          refine r_gets 4 0 500 lfX4_11 (by first | (simp only [zKS]; first | assumption) | assumption | exact zk_nself _ _ _ | (simp [zKS, zNS, *]; done)) rfl rfl (by first | (simp only [zGS, Nat.reduceEqDiff, OfNat.ofNat_ne_ofNat, false_and, and_false, true_and, and_true, and_self, if_true, if_false, ite_true, ite_false, reduceIte, reduceCtorEq]; first | done | assumption) | assumption | exact z2_eq | (simp [zGS]; first | done | assumption)) dX4_settle_20 rfl ?_
          refine r_iload_n dX4_settle_23 rfl rfl ?_
          refine r_aload dX4_settle_24 rfl (by first | exact zRv_ref _ | exact zRv_null | exact zRv_rf _ | assumption) rfl ?_
          refine r_aast7 k f0 a1 rfl (by show k < zln w (x + 7 + 1); omega) (by omega) dX4_settle_26 rfl ?_
          refine r_iinc (ls' := [_, _, _, _, _]) dX4_settle_27 (Nat.le_of_ble_eq_true rfl) rfl (zinc1 _) rfl rfl ?_
          refine r_aload dX4_settle_30 rfl (by first | exact zRv_ref _ | exact zRv_null | exact zRv_rf _ | assumption) rfl ?_
          refine r_getr 2 0 300 lfX4_31 (by first | (simp only [zKS]; first | assumption) | assumption | exact zk_nself _ _ _ | (simp [zKS, zNS, *]; done)) rfl rfl dX4_settle_32 rfl ?_
          rw [show zr (zsq w (x + 7 + 1) k (some (A e))) 300 (A e) = none from f2]
          refine r_astore (ls' := [_, _, _, _, _]) dX4_settle_35 (Nat.le_of_ble_eq_true rfl) (by first | exact zRv_ref _ | exact zRv_null | exact zRv_rf _ | assumption) rfl rfl ?_
          refine r_goto (r := 5) dX4_settle_37 (by decide) ?_
          refine rse_null E sg d (x + 7) (A e0) p (k + 1) _ P ?_
          rw [← hll]
          exact K _ e1 hC.sq (fun i e' q => hP1 i e' (by have := (List.getElem?_eq_some_iff.mp q).1; omega) q)
    | some q =>
      rw [hq] at f1 hl1
      have f2 : zr w 300 (A e) = some (A q) := f1
      have hqe := hC.1.1.2.2.1.1.2.1 e q hq
      refine r_aload dX4_settle_5 rfl (by first | exact zRv_ref _ | exact zRv_null | exact zRv_rf _ | assumption) rfl ?_
      refine r_ifnullR (r := 40) dX4_settle_7 (by decide) rfl (fun c_7 => ?_) (fun a_7 c_7 => ?_)
      · cases c_7
      · refine r_iload_n dX4_settle_10 rfl rfl ?_
        refine r_aload_n dX4_settle_11 rfl (zRv_ref _) rfl ?_
        refine r_gets 4 0 500 lfX4_11 (by first | (simp only [zKS]; first | assumption) | assumption | exact zk_nself _ _ _ | (simp [zKS, zNS, *]; done)) rfl rfl (by first | (simp only [zGS, Nat.reduceEqDiff, OfNat.ofNat_ne_ofNat, false_and, and_false, true_and, and_true, and_self, if_true, if_false, ite_true, ite_false, reduceIte, reduceCtorEq]; first | done | assumption) | assumption | exact z2_eq | (simp [zGS]; first | done | assumption)) dX4_settle_12 rfl ?_
        refine r_alenv 7 (by decide) (by first | (simp only [zKS]; first | assumption) | assumption | exact zk_nself _ _ _ | (simp [zKS, zNS, *]; done)) (by first | (simp only [zGS, zMS, Nat.reduceEqDiff, OfNat.ofNat_ne_ofNat, false_and, and_false, true_and, and_true, and_self, if_true, if_false, ite_true, ite_false, reduceIte, reduceCtorEq]; first | done | assumption | rfl) | assumption | exact z2_eq | exact z1_eq | (simp [zGS, zMS]; first | done | assumption) | rfl) dX4_settle_15 rfl ?_
        refine r_icmp_geN (by omega) (by omega) (r := 40) dX4_settle_16 (by decide) rfl (fun c_16 => ?_) (fun c_16 => ?_)
        · exact absurd c_16 (by omega)
        · refine r_aload_n dX4_settle_19 rfl (zRv_ref _) rfl ?_
          refine r_gets 4 0 500 lfX4_11 (by first | (simp only [zKS]; first | assumption) | assumption | exact zk_nself _ _ _ | (simp [zKS, zNS, *]; done)) rfl rfl (by first | (simp only [zGS, Nat.reduceEqDiff, OfNat.ofNat_ne_ofNat, false_and, and_false, true_and, and_true, and_self, if_true, if_false, ite_true, ite_false, reduceIte, reduceCtorEq]; first | done | assumption) | assumption | exact z2_eq | (simp [zGS]; first | done | assumption)) dX4_settle_20 rfl ?_
          refine r_iload_n dX4_settle_23 rfl rfl ?_
          refine r_aload dX4_settle_24 rfl (by first | exact zRv_ref _ | exact zRv_null | exact zRv_rf _ | assumption) rfl ?_
          refine r_aast7 k f0 a1 rfl (by show k < zln w (x + 7 + 1); omega) (by omega) dX4_settle_26 rfl ?_
          refine r_iinc (ls' := [_, _, _, _, _]) dX4_settle_27 (Nat.le_of_ble_eq_true rfl) rfl (zinc1 _) rfl rfl ?_
          refine r_aload dX4_settle_30 rfl (by first | exact zRv_ref _ | exact zRv_null | exact zRv_rf _ | assumption) rfl ?_
          refine r_getr 2 0 300 lfX4_31 (by first | (simp only [zKS]; first | assumption) | assumption | exact zk_nself _ _ _ | (simp [zKS, zNS, *]; done)) rfl rfl dX4_settle_32 rfl ?_
          rw [show zr (zsq w (x + 7 + 1) k (some (A e))) 300 (A e) = some (A q) from f2]
          refine r_astore (ls' := [_, _, _, _, _]) dX4_settle_35 (Nat.le_of_ble_eq_true rfl) (by first | exact zRv_ref _ | exact zRv_null | exact zRv_rf _ | assumption) rfl rfl ?_
          refine r_goto (r := 5) dX4_settle_37 (by decide) ?_
          exact rse_1 E sg d x nr T A DC RG L V w0 e0 p l P K f q (k + 1) _ (by omega) (by omega) hl1 (by omega) e1 hC.sq hP1
