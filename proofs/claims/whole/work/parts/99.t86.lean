/-! ===== matches ===== -/
/-- what reading leaves of a desk -/
def rdI (w1 w : ZW) (x : Nat) : Prop := x + 56 ≤ zsz w1 ∧ zsz w1 ≤ zsz w ∧ (∀ b, b < zsz w1 → b ≠ x + 3 → b ≠ x + 5 → b ≠ x + 6 → zeq w1 w b) ∧ TBs w (x + 3) (x + 4) (x + 5) (x + 6) ∧ zi w 901 (x + 3) = nI 0
theorem rdI.d {w1 w : ZW} {x : Nat} {T : List PEl} {Rs : List PRule} {B : List Nat} (h : rdI w1 w x) (hD : dskI w1 x T Rs B) : dskI w x T Rs [] := by
  obtain ⟨h1, h2, h3, h4, h5⟩ := h
  exact hD.fr h2 (fun b q1 q2 _ q3 q4 => h3 b q1 q2 q3 q4) h4 ⟨h4.1, h4.2.1, h4.2.2.2.2.1, h4.2.2.2.2.2.1, h5, Nat.zero_le _, fun i c q => (by cases q), fun c hc => (by cases hc)⟩
theorem rdI.tb {w1 w w' : ZW} {x : Nat} (h : rdI w1 w x) (g : TBv zno (x + 3) (x + 5) (x + 6) w w') (g2 : TBs w' (x + 3) (x + 4) (x + 5) (x + 6)) : rdI w1 w' x := by
  obtain ⟨h1, h2, h3, h4, h5⟩ := h
  obtain ⟨g3, g4, g5⟩ := g
  exact ⟨h1, Nat.le_trans h2 g3, fun b q1 q2 q3 q4 => (h3 b q1 q2 q3 q4).tr (g4 b (by omega) (fun z => z) q2 q3 q4), g2, g5.trans h5⟩
theorem rdI.si {w1 w : ZW} {x f s : Nat} {v : Int32} (h : rdI w1 w x) (hs : zsz w1 ≤ s) : rdI w1 (zsi w f s v) x := by
  obtain ⟨h1, h2, h3, h4, h5⟩ := h
  refine ⟨h1, h2, fun b q1 q2 q3 q4 => (h3 b q1 q2 q3 q4).tr (zeq.si (by omega)), h4.fr (zeq.si (by omega)) (zeq.si (by omega)) (zeq.si (by omega)) (zeq.si (by omega)), ?_⟩
  rw [zi_zsi, if_neg (by omega)]
  exact h5
theorem tbk_ex (w : ZW) (tb sp nm : Nat) : ∃ ss, TBk w tb sp nm ss := by
  obtain ⟨k, hk⟩ := nI_ex (zi w 906 tb)
  refine ⟨(List.range k).map (fun i => ((nI_ex (za w sp i)).choose, zg w nm i)), ?_, fun i s hs => ?_⟩
  · rw [List.length_map, List.length_range]
    exact hk
  · rw [List.getElem?_map] at hs
    obtain ⟨j, hj, rfl⟩ := Option.map_eq_some_iff.mp hs
    have : j = i := by
      have := List.getElem?_eq_some_iff.mp hj
      obtain ⟨q1, q2⟩ := this
      rw [List.getElem_range] at q2
      exact q2.symm
    subst this
    exact ⟨(nI_ex (za w sp j)).choose_spec, rfl⟩
def srW (w : ZW) (tb : Nat) : ZW := zsi (zsi (zsi w 902 tb (zi w 901 tb)) 901 tb (nI 0)) 903 tb (nI 0)
theorem sr_I {w : ZW} {x : Nat} {T : List PEl} {Rs : List PRule} {B : List Nat} (h : dskI w x T Rs B) : dskI (srW w (x + 3)) x T Rs [] ∧ TBn (srW w (x + 3)) (x + 3) (x + 4) (x + 5) (x + 6) B ∧ rdI (srW w (x + 3)) (srW w (x + 3)) x := by
  have h0 := h
  obtain ⟨⟨h1, h2, h3⟩, -⟩ := h0
  have z : ∀ b, b ≠ x + 3 → zeq w (srW w (x + 3)) b := fun b hb => (zeq.si hb).tr ((zeq.si hb).tr (zeq.si hb))
  obtain ⟨s1, s2, s3, s4, s5, s6, s7, s8, s9, s10⟩ := id h2
  obtain ⟨t1, t2, t3, t4, t5, t6, t7, t8⟩ := h3.1
  have hS : TBs (srW w (x + 3)) (x + 3) (x + 4) (x + 5) (x + 6) := ⟨s1, s2, s3, s4, s5, s6, s7, s8, s9, s10⟩
  have i1 : zi (srW w (x + 3)) 901 (x + 3) = nI 0 := by
    unfold srW
    rw [zi_zsi, if_neg (by omega)]
    exact z2_eq
  have i2 : zi (srW w (x + 3)) 902 (x + 3) = nI (0 + B.length) := by
    unfold srW
    rw [zi_zsi, if_neg (by omega), zi_zsi, if_neg (by omega), Nat.zero_add]
    exact z2_eq.trans t5
  have i3 : zi (srW w (x + 3)) 903 (x + 3) = nI 0 := z2_eq
  obtain ⟨ss, hss⟩ := tbk_ex (srW w (x + 3)) (x + 3) (x + 5) (x + 6)
  refine ⟨h.fr (Nat.le_refl _) (fun b _ q _ _ _ => z b q) hS ⟨s1, s2, s5, s6, i1, Nat.zero_le _, fun i c q => (by cases q), fun c hc => (by cases hc)⟩, ⟨⟨by show x + 3 < zsz w; omega, by show x + 4 < zsz w; omega, by show x + 5 < zsz w; omega, by show x + 6 < zsz w; omega⟩, ss, hS, ⟨0, i3, i2, by omega, fun i c hc => ?_, fun c hc => by have := t8 c hc; omega⟩, hss⟩, h1, Nat.le_refl _, fun b _ _ _ _ => zeq.rf, hS, i1⟩
  show za w (x + 4) (0 + i) = _
  rw [Nat.zero_add]
  exact t7 i c hc
theorem isSelC.sl {w : ZW} {lo hi s : Nat} {l : List (Nat × PComp)} (h : isSelC w lo hi s l) : isSl w lo hi s l := by
  obtain ⟨h1, m, h2, h3, h4, ⟨a0, h5, h6⟩, h7, -⟩ := h
  exact ⟨by omega, h1, h4, ⟨a0, m, h5, h2, h3, h6⟩, h7⟩
def msS (T : List PEl) : List (List (Nat × PComp)) → Nat → Nat
  | [], a => a
  | l :: ls, a => msS T ls (a ||| selSet T l)
theorem rmt (E : ZE) (sg : ZM) (d : Nat) (hd : 5 ≤ d) (x i lo hi : Nat) (e : Int32) (T : List PEl) (Rs : List PRule) (B : List Nat) (w1 : ZW) (hD : dskI w1 x T Rs B) (hlo : zsz w1 ≤ lo) (x2 : Option Value) (Q : ZQ) (X : ZX) : ∀ (ls : List (List (Nat × PComp))) (o : Option Nat) (acc : Nat) (w : ZW), acc < 2147483648 → rdI w1 w x → Seg (isSl w lo hi) w 703 o ls none → okSels ls → (∀ w' acc', acc' = msS T ls acc → acc' < 2147483648 → rdI w1 w' x → RW E MX9_matches 83 [some (.ref x), some (.int e), x2, some (.int (nI acc')), some .null] [] w' sg d 0 0 (PX E Q X)) → RW E MX9_matches 47 [some (.ref x), some (.int e), x2, some (.int (nI acc)), some (va_rf o)] [] w sg d 0 0 (PX E Q X)
  | [], o, acc, w, ha, hr, hs, hok, K => by
    have h9 : o = none := hs
    subst h9
    refine r_aload dX9_matches_47 rfl (by first | exact zRv_ref _ | exact zRv_null | exact zRv_rf _ | assumption) rfl ?_
    refine r_ifnullZ (r := 83) dX9_matches_49 (by decide) rfl (fun c_49 => ?_) (fun a_49 c_49 => ?_)
    · exact K w acc rfl ha hr
    · cases c_49
  | l :: ls, o, acc, w, ha, hr, hs, hok, K => by
    obtain ⟨a, rfl, h1, h2⟩ := hs
    obtain ⟨k1, k2, k3, k4, k5, k6, k7⟩ := (hr.d hD).desk
    obtain ⟨-, -, -, A, Lo, Bk, DC, RG, K9, hE, -⟩ := hr.d hD
    obtain ⟨g1, g2, g3, ⟨a0, m, g4, g5, g6, g7⟩, g8⟩ := id h1
    have hT := hE.1.2.2.1
    have h24 := hT.1.1
    have hsel : selSet T l < 2147483648 := selSet_lt h24 l
    have hex : eqx w (zsi w 702 a (nI (selSet T l))) := eqx.s
    have hor : acc ||| selSet T l < 2147483648 := Nat.or_lt_two_pow (n := 31) ha hsel
    refine r_aload dX9_matches_47 rfl (by first | exact zRv_ref _ | exact zRv_null | exact zRv_rf _ | assumption) rfl ?_
    refine r_ifnullR (r := 83) dX9_matches_49 (by decide) rfl (fun c_49 => ?_) (fun a_49 c_49 => ?_)
    · cases c_49
    · refine r_aload dX9_matches_52 rfl (by first | exact zRv_ref _ | exact zRv_null | exact zRv_rf _ | assumption) rfl ?_
      refine r_aload_n dX9_matches_54 rfl (zRv_ref _) rfl ?_
      refine r_gets 9 0 1000 lfX9_11 (by first | (simp only [zKS]; first | assumption) | assumption | exact zk_nself _ _ _ | (simp [zKS, zNS, *]; done)) rfl rfl (by first | (simp only [zGS, Nat.reduceEqDiff, OfNat.ofNat_ne_ofNat, false_and, and_false, true_and, and_true, and_self, if_true, if_false, ite_true, ite_false, reduceIte, reduceCtorEq]; first | done | assumption) | assumption | exact z2_eq | (simp [zGS]; first | done | assumption)) dX9_matches_55 rfl ?_
      refine r_aload_n dX9_matches_58 rfl (zRv_ref _) rfl ?_
      refine r_getiv 9 1 1001 lfX9_15 (by first | (simp only [zKS]; first | assumption) | assumption | exact zk_nself _ _ _ | (simp [zKS, zNS, *]; done)) rfl rfl (by first | (simp only [zGS, zMS, Nat.reduceEqDiff, OfNat.ofNat_ne_ofNat, false_and, and_false, true_and, and_true, and_self, if_true, if_false, ite_true, ite_false, reduceIte, reduceCtorEq]; first | done | assumption | rfl) | assumption | exact z2_eq | exact z1_eq | (simp [zGS, zMS]; first | done | assumption) | rfl) dX9_matches_59 rfl ?_
      refine r_callV MX6_meet 2 (a := 0) (a' := 0) [_, _] lvX9_97 (Or.inl ⟨6, by decide, (by first | (simp only [zKS]; first | assumption) | assumption | exact zk_nself _ _ _ | (simp [zKS, zNS, *]; done)), rfl⟩) (sp_meet E sg (d - 1) (by omega) w T A hT (x + 1) hE.1.2.2.2.1 a a0 m a g3 g4 l g7 (hok l List.mem_cons_self)) rfl rfl (by first | exact Nat.le_of_ble_eq_true rfl | (simp [zcat_rf, Value.category]; done)) (by omega) (by first | omega | exact Nat.le_of_eq ((Nat.add_comm _ _).trans (Nat.succ_mul _ _).symm)) (by first | omega | exact Nat.le_of_eq ((Nat.add_comm _ _).trans (Nat.succ_mul _ _).symm)) dX9_matches_62 rfl (fun v_ w_ sg_ hq_ => ?_)
      obtain ⟨rfl, rfl, rfl⟩ := hq_
      refine r_iload_n dX9_matches_65 rfl rfl ?_
      refine r_aload dX9_matches_66 rfl (by first | exact zRv_ref _ | exact zRv_null | exact zRv_rf _ | assumption) rfl ?_
      refine r_getiv 6 2 702 lfX9_103 (by first | (simp only [zKS]; first | assumption) | assumption | exact zk_nself _ _ _ | (simp [zKS, zNS, *]; done)) rfl rfl (by first | (simp only [zGS, zMS, Nat.reduceEqDiff, OfNat.ofNat_ne_ofNat, false_and, and_false, true_and, and_true, and_self, if_true, if_false, ite_true, ite_false, reduceIte, reduceCtorEq]; first | done | assumption | rfl) | assumption | exact z2_eq | exact z1_eq | (simp [zGS, zMS]; first | done | assumption) | rfl) dX9_matches_68 rfl ?_
      refine r_ior dX9_matches_71 rfl ?_
      rw [nI_or ha hsel]
      refine r_istore_n (ls' := [_, _, _, _, _]) dX9_matches_72 (Nat.le_of_ble_eq_true rfl) rfl rfl ?_
      refine r_aload dX9_matches_73 rfl (by first | exact zRv_ref _ | exact zRv_null | exact zRv_rf _ | assumption) rfl ?_
      refine r_getr 6 3 703 lfX9_106 (by first | (simp only [zKS]; first | assumption) | assumption | exact zk_nself _ _ _ | (simp [zKS, zNS, *]; done)) rfl rfl dX9_matches_75 rfl ?_
      refine r_astore (ls' := [_, _, _, _, _]) dX9_matches_78 (Nat.le_of_ble_eq_true rfl) (by first | exact zRv_ref _ | exact zRv_null | exact zRv_rf _ | assumption) rfl rfl ?_
      refine r_goto (r := 47) dX9_matches_80 (by decide) ?_
      exact rmt E sg d hd x i lo hi e T Rs B w1 hD hlo x2 Q X ls _ (acc ||| selSet T l) _ hor (hr.si (by omega)) (h2.x hex (fun b y g => g.x hex)) (fun y hy => hok y (List.mem_cons_of_mem _ hy)) K
