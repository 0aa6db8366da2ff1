/-! ===== StyleDesk.enter, its outer loop ===== -/
theorem isSl.fr {w w' : ZW} {lo hi s : Nat} {l : List (Nat × PComp)} (h : isSl w lo hi s l) (he : ∀ b, lo ≤ b → b < hi → zeq w w' b) : isSl w' lo hi s l := by
  obtain ⟨h1, h2, h3, ⟨a0, m, h4, h5, h6, h7⟩, h8⟩ := h
  have e := he s h1 h2
  refine ⟨h1, h2, e.k.trans h3, ⟨a0, m, (e.r _).trans h4, h5, h6, h7.imp (fun a x g => ?_)⟩, (e.i _).trans h8⟩
  have q1 := g.1
  have q2 := g.2.1
  exact ⟨g.fr (Nat.le_refl _) (Nat.le_refl _) (fun b g1 g2 => he b (by omega) (by omega)), (he a (by omega) (by omega)).r 105⟩
/-- the style rows of the elements -/
def XSt (A : Nat → Nat) (n : Nat) : Nat → Prop := fun a => ∃ e, e < n ∧ A e + 2 ≤ a ∧ a < A e + 7
/-- of these what leads -/
def XL (A : Nat → Nat) (n : Nat) : Nat → Prop := fun a => ∃ e, e < n ∧ XS3 (A e + 1) a
/-- how the cells lie: the desk's thirteen, an element's nine, the rules' ranges -/
def layA (x n : Nat) (A : Nat → Nat) (RG : Nat → Nat → Prop) : Prop := (∀ e, e < n → x + 56 ≤ A e) ∧ (∀ e e', e < e' → e' < n → A e + 9 ≤ A e') ∧ ∀ lo hi, RG lo hi → x + 56 ≤ lo ∧ ∀ e, e < n → A e + 9 ≤ lo ∨ hi ≤ A e
theorem layA.ap {x n : Nat} {A : Nat → Nat} {RG : Nat → Nat → Prop} (h : layA x n A RG) : apRG RG (XSt A n) := fun lo hi b h1 h2 h3 ⟨e, h4, h5, h6⟩ => by
  rcases (h.2.2 lo hi h1).2 e h4 with q | q <;> omega
theorem layA.s3 {A : Nat → Nat} {n e : Nat} (he : e < n) : ∀ a, XS3 (A e + 1) a → XSt A n a := fun a h => ⟨e, he, by rcases h with rfl | rfl | rfl <;> omega, by rcases h with rfl | rfl | rfl <;> omega⟩
theorem layA.nel {x n : Nat} {A : Nat → Nat} {RG : Nat → Nat → Prop} (h : layA x n A RG) {i : Nat} (hi : i < n) {j : Nat} (hj : j < 2) : ¬ XSt A n (A i + j) := fun ⟨e, h4, h5, h6⟩ => by
  rcases Nat.lt_trichotomy e i with q | q | q
  · have := h.2.1 e i q hi; omega
  · subst q; omega
  · have := h.2.1 i e q h4; omega
theorem layA.ndk {x n : Nat} {A : Nat → Nat} {RG : Nat → Nat → Prop} (h : layA x n A RG) {j : Nat} (hj : j < 13) : ¬ XSt A n (x + j) := fun ⟨e, h4, h5, h6⟩ => by
  have := h.1 e h4
  omega
theorem isLd.e {w w' : ZW} {s n : Nat} {DC : Nat → PDecl → Prop} {o : PLd} {X : Nat → Prop} (h : isLd w s DC n o) (e : ech X w w') (h1 : ¬ X (s + 1)) (h2 : ¬ X (s + 2)) (h3 : ¬ X (s + 3)) : isLd w' s DC n o := by
  unfold isLd at h ⊢
  rw [(e.2.2.2 _ h1).q, (e.2.2.2 _ h2).a, (e.2.2.2 _ h3).a]
  exact h
theorem isSlM.e {w w' : ZW} {lo hi s : Nat} {T : List PEl} {l : List (Nat × PComp)} (h : isSlM w lo hi T s l) (he : ∀ b, lo ≤ b → b < hi → zeq w w' b) : isSlM w' lo hi T s l := ⟨h.1.fr he, ((he s h.1.1 h.1.2.1).i 702).trans h.2⟩
theorem segM {w w' : ZW} {lo hi : Nat} {T : List PEl} {ls : List (List (Nat × PComp))} {o : Option Nat} (h : Seg (isSlM w lo hi T) w 703 o ls none) (he : ∀ b, lo ≤ b → b < hi → zeq w w' b) : Seg (isSlM w' lo hi T) w' 703 o ls none := h.imp (fun a l g => ⟨g.e he, (he a g.1.1 g.1.2.1).r 703⟩)
/-- a rule, its selectors having been asked -/
def isRuM (w : ZW) (lo b : Nat) (T : List PEl) (DC : Nat → PDecl → Prop) (R : PRule) : Prop := zk w b = 6 ∧ ∃ s0 d0, zr w 600 b = some s0 ∧ zr w 601 b = some d0 ∧ Seg (isSlM w lo b T) w 703 (some s0) R.1 none ∧ Seg DC w 205 (some d0) R.2 none
theorem isRuM.e {w w' : ZW} {lo b : Nat} {T : List PEl} {DC : Nat → PDecl → Prop} {RG : Nat → Nat → Prop} {R : PRule} {X : Nat → Prop} (h : isRuM w lo b T DC R) (e : ech X w w') (hX : apRG RG X) (hr : RG lo (b + 1)) (hlb : lo ≤ b) (hF : okDF w DC RG) : isRuM w' lo b T DC R := by
  obtain ⟨h1, s0, d0, h2, h3, h4, h5⟩ := h
  have eb := e.2.2.2 b (hX lo (b + 1) b hr hlb (Nat.lt_succ_self b))
  exact ⟨eb.k.trans h1, s0, d0, (eb.r _).trans h2, (eb.r _).trans h3, segM h4 (fun q g1 g2 => e.2.2.2 q (hX lo (b + 1) q hr g1 (by omega))), segDC hF e hX h5⟩
/-- all that a loop over the elements keeps -/
def envA (w : ZW) (x nr : Nat) (T : List PEl) (A : Nat → Nat) (DC : Nat → PDecl → Prop) (RG : Nat → Nat → Prop) : Prop := layA x T.length A RG ∧ isDesk w x T.length nr ∧ isEls w T A ∧ isEA w (x + 1) T.length A ∧ (∀ e, e < T.length → isSty w (A e + 1)) ∧ okDF w DC RG
theorem envA.e {w w' : ZW} {x nr : Nat} {T : List PEl} {A : Nat → Nat} {DC : Nat → PDecl → Prop} {RG : Nat → Nat → Prop} (h : envA w x nr T A DC RG) (e : ech (XSt A T.length) w w') : envA w' x nr T A DC RG := by
  obtain ⟨h1, h2, h3, h4, h5, h6⟩ := h
  exact ⟨h1, h2.e e (h1.ndk (j := 0) (by decide)), h3.e e (fun i hi => h1.nel (j := 0) hi (by decide)), h4.e e (h1.ndk (j := 1) (by decide)), fun i hi => (h5 i hi).e e (h1.nel (j := 1) hi (by decide)), h6.e e h1.ap⟩
theorem XL.st {A : Nat → Nat} {n : Nat} : ∀ a, XL A n a → XSt A n a := fun a ⟨e, he, g⟩ => layA.s3 he a g
theorem rent_out (E : ZE) (sg : ZM) (d : Nat) (hd : 2 ≤ d) (x k lo r nr : Nat) (T : List PEl) (A : Nat → Nat) (DC : Nat → PDecl → Prop) (RG : Nat → Nat → Prop) (R : PRule) (hrg : RG lo (r + 1)) (hlr : lo ≤ r) (w0 : ZW) (L0 : Nat → Nat → PLd) : ∀ (m i : Nat) (w : ZW) (x4 x5 x6 : Option Value), i + m = T.length → envA w x nr T A DC RG → isRuM w lo r T DC R → ech (XL A T.length) w0 w → (∀ e, e < T.length → ∀ n, n < 10 → isLd w (A e + 1) DC n ((if e < i then entR T R k e (L0 e) else L0 e) n)) → RW E MX9_enter 2 [some (.ref x), some (.ref r), some (.int (nI k)), some (.int (nI i)), x4, x5, x6] [] w sg d 0 0 (PN E (fun v w' sg' => v = none ∧ sg = sg' ∧ ech (XL A T.length) w0 w' ∧ ∀ e, e < T.length → ∀ n, n < 10 → isLd w' (A e + 1) DC n (entR T R k e (L0 e) n)))
  | 0, i, w, x4, x5, x6, hm, hE, hR, hw, hL => by
    have : i = T.length := by omega
    subst this
    obtain ⟨hlay, ⟨k1, k2, k3, -⟩, hT, hA, hS, hF⟩ := hE
    have h24 := hT.1.1
    refine r_iload_n dX9_enter_2 rfl rfl ?_
    refine r_aload_n dX9_enter_3 rfl (zRv_ref _) rfl ?_
    refine r_getiv 9 1 1001 lfX9_15 (by first | (simp only [zKS]; first | assumption) | assumption | exact zk_nself _ _ _ | (simp [zKS, zNS, *]; done)) rfl rfl (by first | (simp only [zGS, zMS, Nat.reduceEqDiff, OfNat.ofNat_ne_ofNat, false_and, and_false, true_and, and_true, and_self, if_true, if_false, ite_true, ite_false, reduceIte, reduceCtorEq]; first | done | assumption | rfl) | assumption | exact z2_eq | exact z1_eq | (simp [zGS, zMS]; first | done | assumption) | rfl) dX9_enter_4 rfl ?_
    refine r_icmp_geN (by omega) (by omega) (r := 75) dX9_enter_7 (by decide) rfl (fun c_7 => ?_) (fun c_7 => ?_)
    · refine r_vret rfl dX9_enter_75 ?_
      exact ⟨rfl, rfl, hw, fun e he n hn => by have := hL e he n hn; rwa [if_pos he] at this⟩
    · exact absurd c_7 (by omega)
  | m + 1, i, w, x4, x5, x6, hm, hE, hR, hw, hL => by
    have hE0 := hE
    obtain ⟨hlay, ⟨k1, k2, k3, -⟩, hT, hA, hS, hF⟩ := hE
    have h24 := hT.1.1
    have hi : i < T.length := by omega
    have hA0 := hA
    obtain ⟨ha1, ha2, ha3⟩ := hA
    have hq := ha3 i hi
    obtain ⟨f0, -, -, -, -, -, f5, -, -, -, -, f10, -⟩ := hT.2 i hi
    have hR0 := hR
    obtain ⟨r1, s0, d0, r2, r3, r4, r5⟩ := hR
    have hnext : ∀ (w' : ZW) (x4 x5 x6 : Option Value), (∀ n, n < 10 → isLd w' (A i + 1) DC n (entR T R k i (L0 i) n)) → ech (XS3 (A i + 1)) w w' → RW E MX9_enter 2 [some (.ref x), some (.ref r), some (.int (nI k)), some (.int (nI (i + 1))), x4, x5, x6] [] w' sg d 0 0 (PN E (fun v w' sg' => v = none ∧ sg = sg' ∧ ech (XL A T.length) w0 w' ∧ ∀ e, e < T.length → ∀ n, n < 10 → isLd w' (A e + 1) DC n (entR T R k e (L0 e) n))) := fun w' x4 x5 x6 hi' e3 => rent_out E sg d hd x k lo r nr T A DC RG R hrg hlr w0 L0 m (i + 1) w' x4 x5 x6 (by omega) (hE0.e (e3.to (layA.s3 hi))) (hR0.e (e3.to (layA.s3 hi)) hlay.ap hrg hlr hF) (hw.tr e3 (fun a g => ⟨i, hi, g⟩)) (fun e he n hn => by
      by_cases q : e = i
      · subst q
        rw [if_pos (Nat.lt_succ_self e)]
        exact hi' n hn
      · have q2 : (if e < i + 1 then entR T R k e (L0 e) else L0 e) = (if e < i then entR T R k e (L0 e) else L0 e) := by
          by_cases q3 : e < i
          · rw [if_pos q3, if_pos (by omega)]
          · rw [if_neg q3, if_neg (by omega)]
        rw [q2]
        have q4 : A e + 9 ≤ A i ∨ A i + 9 ≤ A e := by
          rcases Nat.lt_trichotomy e i with g | g | g
          · exact Or.inl (hlay.2.1 e i g hi)
          · exact absurd g q
          · exact Or.inr (hlay.2.1 i e g he)
        exact (hL e he n hn).e e3 (fun g => by rcases g with g | g | g <;> omega) (fun g => by rcases g with g | g | g <;> omega) (fun g => by rcases g with g | g | g <;> omega))
    have hLi : ∀ n, n < 10 → isLd w (A i + 1) DC n (L0 i n) := fun n hn => by have := hL i hi n hn; rwa [if_neg (Nat.lt_irrefl i)] at this
    have hXr : apRG RG (XS3 (A i + 1)) := fun a b c g1 g2 g3 g4 => hlay.ap a b c g1 g2 g3 (layA.s3 hi c g4)
    refine r_iload_n dX9_enter_2 rfl rfl ?_
    refine r_aload_n dX9_enter_3 rfl (zRv_ref _) rfl ?_
    refine r_getiv 9 1 1001 lfX9_15 (by first | (simp only [zKS]; first | assumption) | assumption | exact zk_nself _ _ _ | (simp [zKS, zNS, *]; done)) rfl rfl (by first | (simp only [zGS, zMS, Nat.reduceEqDiff, OfNat.ofNat_ne_ofNat, false_and, and_false, true_and, and_true, and_self, if_true, if_false, ite_true, ite_false, reduceIte, reduceCtorEq]; first | done | assumption | rfl) | assumption | exact z2_eq | exact z1_eq | (simp [zGS, zMS]; first | done | assumption) | rfl) dX9_enter_4 rfl ?_
    refine r_icmp_geN (by omega) (by omega) (r := 75) dX9_enter_7 (by decide) rfl (fun c_7 => ?_) (fun c_7 => ?_)
    · exact absurd c_7 (by omega)
    · refine r_aload_n dX9_enter_10 rfl (zRv_ref _) rfl ?_
      refine r_gets 9 0 1000 lfX9_11 (by first | (simp only [zKS]; first | assumption) | assumption | exact zk_nself _ _ _ | (simp [zKS, zNS, *]; done)) rfl rfl (by first | (simp only [zGS, Nat.reduceEqDiff, OfNat.ofNat_ne_ofNat, false_and, and_false, true_and, and_true, and_self, if_true, if_false, ite_true, ite_false, reduceIte, reduceCtorEq]; first | done | assumption) | assumption | exact z2_eq | (simp [zGS]; first | done | assumption)) dX9_enter_11 rfl ?_
      refine r_iload_n dX9_enter_14 rfl rfl ?_
      refine r_aals7 i hq ha1 rfl (by omega) (by omega) dX9_enter_15 rfl ?_
      refine r_astore (ls' := [_, _, _, _, _, _, _]) dX9_enter_16 (Nat.le_of_ble_eq_true rfl) (by first | exact zRv_ref _ | exact zRv_null | exact zRv_rf _ | assumption) rfl rfl ?_
      refine r_aload_n dX9_enter_18 rfl (by first | exact zRv_ref _ | exact zRv_null | exact zRv_rf _ | assumption) rfl ?_
      refine r_aload dX9_enter_19 rfl (by first | exact zRv_ref _ | exact zRv_null | exact zRv_rf _ | assumption) rfl ?_
      refine r_getiv 2 4 304 lfX9_62 (by first | (simp only [zKS]; first | assumption) | assumption | exact zk_nself _ _ _ | (simp [zKS, zNS, *]; done)) rfl rfl (by first | (simp only [zGS, zMS, Nat.reduceEqDiff, OfNat.ofNat_ne_ofNat, false_and, and_false, true_and, and_true, and_self, if_true, if_false, ite_true, ite_false, reduceIte, reduceCtorEq]; first | done | assumption | rfl) | assumption | exact z2_eq | exact z1_eq | (simp [zGS, zMS]; first | done | assumption) | rfl) dX9_enter_21 rfl ?_
      refine r_callV MX5_heaviest 1 [_] lvX9_113 (Or.inl ⟨5, by decide, (by first | (simp only [zKS]; first | assumption) | assumption | exact zk_nself _ _ _ | (simp [zKS, zNS, *]; done)), rfl⟩) (sp_heaviest E sg (d - 1) (by omega) T h24 i (by omega) r lo r s0 w R.1 r1 r2 r4) rfl rfl (by first | exact Nat.le_of_ble_eq_true rfl | (simp [zcat_rf, Value.category]; done)) (by omega) (Nat.le_of_eq (Nat.zero_add _)) (Nat.le_of_eq (Nat.zero_add _)) dX9_enter_24 rfl (fun v_ w_ sg_ hq_ => ?_)
      obtain ⟨rfl, rfl, rfl⟩ := hq_
      refine r_istore (ls' := [_, _, _, _, _, _, _]) dX9_enter_27 (Nat.le_of_ble_eq_true rfl) rfl rfl ?_
      refine r_iload dX9_enter_29 rfl rfl ?_
      refine r_iconst dX9_enter_31 kc_m1 rfl ?_
      refine r_icmp_eq (r := 69) dX9_enter_32 (by decide) rfl (fun c_32 => ?_) (fun c_32 => ?_)
      · refine r_iinc (ls' := [_, _, _, _, _, _, _]) dX9_enter_69 (Nat.le_of_ble_eq_true rfl) rfl (zinc1 _) rfl rfl ?_
        refine r_goto (r := 2) dX9_enter_72 (by decide) ?_
        exact hnext w _ _ _ (fun n hn => by unfold entR; rw [if_pos c_32]; exact hLi n hn) ech.rf
      · refine r_aload_n dX9_enter_35 rfl (by first | exact zRv_ref _ | exact zRv_null | exact zRv_rf _ | assumption) rfl ?_
        refine r_gets 5 1 601 lfX9_157 (by first | (simp only [zKS]; first | assumption) | assumption | exact zk_nself _ _ _ | (simp [zKS, zNS, *]; done)) rfl rfl (by first | (simp only [zGS, Nat.reduceEqDiff, OfNat.ofNat_ne_ofNat, false_and, and_false, true_and, and_true, and_self, if_true, if_false, ite_true, ite_false, reduceIte, reduceCtorEq]; first | done | assumption) | assumption | exact z2_eq | (simp [zGS]; first | done | assumption)) dX9_enter_36 rfl ?_
        refine r_astore (ls' := [_, _, _, _, _, _, _]) dX9_enter_39 (Nat.le_of_ble_eq_true rfl) (zRv_ref _) rfl rfl ?_
        refine rent_in E sg d (by omega) x r k i (A i) (A i + 1) (hvI T i R.1 (-1)) (Nat.lt_succ_self _) DC RG hXr _ R.2 (some d0) w (L0 i) (hS i hi) hF r5 hLi f0 f10 (fun w' y6 e' hL' => ?_)
        refine r_iinc (ls' := [_, _, _, _, _, _, _]) dX9_enter_69 (Nat.le_of_ble_eq_true rfl) rfl (zinc1 _) rfl rfl ?_
        refine r_goto (r := 2) dX9_enter_72 (by decide) ?_
        exact hnext w' _ _ _ (fun n hn => by unfold entR; rw [if_neg c_32]; exact hL' n hn) e'
theorem sp_enter (E : ZE) (sg : ZM) (d : Nat) (hd : 2 ≤ d) (x k lo r nr : Nat) (T : List PEl) (A : Nat → Nat) (DC : Nat → PDecl → Prop) (RG : Nat → Nat → Prop) (R : PRule) (hrg : RG lo (r + 1)) (hlr : lo ≤ r) (w : ZW) (L0 : Nat → Nat → PLd) (hE : envA w x nr T A DC RG) (hR : isRuM w lo r T DC R) (hL : ∀ e, e < T.length → ∀ n, n < 10 → isLd w (A e + 1) DC n (L0 e n)) : CallQ E MX9_enter [.ref x, .ref r, .int (nI k)] w sg d 0 0 (fun v w' sg' => v = none ∧ sg = sg' ∧ ech (XL A T.length) w w' ∧ ∀ e, e < T.length → ∀ n, n < 10 → isLd w' (A e + 1) DC n (entR T R k e (L0 e) n)) := by
  refine CallQ.of rfl (by simp [Value.category]) (Nat.le_of_ble_eq_true rfl) ?_
  refine r_iconst dX9_enter_0 kc_0 rfl ?_
  refine r_istore_n (ls' := [_, _, _, _, _, _, _]) dX9_enter_1 (Nat.le_of_ble_eq_true rfl) rfl rfl ?_
  exact rent_out E sg d hd x k lo r nr T A DC RG R hrg hlr w L0 T.length 0 w _ _ _ (by omega) hE hR ech.rf (fun e he n hn => by rw [if_neg (Nat.not_lt_zero e)]; exact hL e he n hn)
