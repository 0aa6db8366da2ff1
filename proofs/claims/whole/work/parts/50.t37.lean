/-! ===== what leads: Style.clear, offer, leadingRule ===== -/
/-- worlds that differ in the contents of some cells alone -/
def ech (X : Nat → Prop) (w w' : ZW) : Prop := zsz w' = zsz w ∧ zk w' = zk w ∧ zln w' = zln w ∧ ∀ a, ¬ X a → zeq w w' a
theorem ech.rf {X : Nat → Prop} {w : ZW} : ech X w w := ⟨rfl, rfl, rfl, fun _ _ => zeq.rf⟩
theorem ech.tr {X Y : Nat → Prop} {w w1 w2 : ZW} (h : ech X w w1) (g : ech Y w1 w2) (hy : ∀ a, Y a → X a) : ech X w w2 := by
  obtain ⟨h1, h2, h3, h4⟩ := h
  obtain ⟨g1, g2, g3, g4⟩ := g
  exact ⟨g1.trans h1, g2.trans h2, g3.trans h3, fun a ha => (h4 a ha).tr (g4 a (fun q => ha (hy a q)))⟩
theorem ech.to {X Y : Nat → Prop} {w w1 : ZW} (h : ech X w w1) (hy : ∀ a, X a → Y a) : ech Y w w1 := ⟨h.1, h.2.1, h.2.2.1, fun a ha => h.2.2.2 a (fun q => ha (hy a q))⟩
theorem ech.sa {X : Nat → Prop} {w : ZW} {a i : Nat} {v : Int32} (h : X a) : ech X w (zsa w a i v) := ⟨rfl, rfl, rfl, fun b hb => zeq.sa (fun e => hb (by rw [e]; exact h))⟩
theorem ech.sq {X : Nat → Prop} {w : ZW} {a i : Nat} {v : Option Nat} (h : X a) : ech X w (zsq w a i v) := ⟨rfl, rfl, rfl, fun b hb => zeq.sq (fun e => hb (by rw [e]; exact h))⟩
theorem ech.sg {X : Nat → Prop} {w : ZW} {a i : Nat} {v : UInt32} (h : X a) : ech X w (zsg w a i v) := ⟨rfl, rfl, rfl, fun b hb => zeq.sg (fun e => hb (by rw [e]; exact h))⟩
theorem ech.si {X : Nat → Prop} {w : ZW} {f a : Nat} {v : Int32} (h : X a) : ech X w (zsi w f a v) := ⟨rfl, rfl, rfl, fun b hb => zeq.si (fun e => hb (by rw [e]; exact h))⟩
theorem ech.sf {X : Nat → Prop} {w : ZW} {f a : Nat} {v : UInt32} (h : X a) : ech X w (zsf w f a v) := ⟨rfl, rfl, rfl, fun b hb => zeq.sf (fun e => hb (by rw [e]; exact h))⟩
theorem ech.sA {X : Nat → Prop} {w : ZW} {a : Nat} {f : Nat → Int32} (h : X a) : ech X w (zsA w a f) := ⟨rfl, rfl, rfl, fun b hb => ⟨rfl, zsA_same w a f b (fun e => hb (by rw [e]; exact h))⟩⟩
/-- a style and its rows -/
def isSty (w : ZW) (s : Nat) : Prop := (zk w s = 8 ∧ zr w 800 s = some (s + 1) ∧ zr w 801 s = some (s + 2) ∧ zr w 802 s = some (s + 3) ∧ zr w 803 s = some (s + 4) ∧ zr w 804 s = some (s + 5) ∧ zr w 805 s = some (s + 6) ∧ zr w 806 s = some (s + 7)) ∧ (zk w (s + 1) = 26 ∧ zk w (s + 2) = 22 ∧ zk w (s + 3) = 22 ∧ zk w (s + 4) = 21 ∧ zk w (s + 5) = 22 ∧ zk w (s + 6) = 22 ∧ zk w (s + 7) = 21) ∧ (zln w (s + 1) = 10 ∧ zln w (s + 2) = 10 ∧ zln w (s + 3) = 10 ∧ zln w (s + 4) = 6 ∧ zln w (s + 5) = 6 ∧ zln w (s + 6) = 4 ∧ zln w (s + 7) = 4)
theorem isSty.e {X : Nat → Prop} {w w' : ZW} {s : Nat} (h : isSty w s) (e : ech X w w') (hs : ¬ X s) : isSty w' s := by
  obtain ⟨h1, h2, h3⟩ := h
  have e1 := e.2.2.2 s hs
  refine ⟨?_, by rw [e.2.1]; exact h2, by rw [e.2.2.1]; exact h3⟩
  rw [e1.k, e1.r, e1.r, e1.r, e1.r, e1.r, e1.r, e1.r]
  exact h1
theorem rclear_loop (E : ZE) (sg : ZM) (d s : Nat) (w0 : ZW) : ∀ (m i : Nat) (w : ZW), i + m = 10 → isSty w s → ech (fun a => a = s + 1) w0 w → (∀ k, k < i → zq w (s + 1) k = none) → RW E MX7_clear 2 [some (.ref s), some (.int (nI i))] [] w sg (d + 1) 0 0 (PN E (fun v w' sg' => v = none ∧ sg = sg' ∧ ech (fun a => a = s + 1 ∨ a = s + 5) w0 w' ∧ (∀ k, k < 10 → zq w' (s + 1) k = none) ∧ (∀ k, k < 6 → za w' (s + 5) k = nI 4)))
  | 0, i, w, hm, hs, he, hn => by
    have : i = 10 := by omega
    subst this
    obtain ⟨⟨h1, h2, h3, h4, h5, h6, h7, h8⟩, ⟨k1, k2, k3, k4, k5, k6, k7⟩, l1, l2, l3, l4, l5, l6, l7⟩ := hs
    refine r_iload_n dX7_clear_2 rfl rfl ?_
    refine r_bipush dX7_clear_3 kb_10 rfl ?_
    refine r_icmp_geN (by omega) (by omega) (r := 21) dX7_clear_5 (by decide) rfl (fun c_5 => ?_) (fun c_5 => ?_)
    · refine r_aload_n dX7_clear_21 rfl (zRv_ref _) rfl ?_
      refine r_gets 7 4 804 lfX7_28 (by first | (simp only [zKS]; first | assumption) | assumption | exact zk_nself _ _ _ | (simp [zKS, zNS, *]; done)) rfl rfl (by first | (simp only [zGS, Nat.reduceEqDiff, OfNat.ofNat_ne_ofNat, false_and, and_false, true_and, and_true, and_self, if_true, if_false, ite_true, ite_false, reduceIte, reduceCtorEq]; first | done | assumption) | assumption | exact z2_eq | (simp [zGS]; first | done | assumption)) dX7_clear_22 rfl ?_
      refine r_iconst dX7_clear_25 kc_4 rfl ?_
      refine r_callS MJ7_fill_53178 2 [_, _] lsX7_37 (sp_fill E w sg d (s + 5) 6 (nI 4) k5 l5 (by decide)) rfl rfl (by first | exact Nat.le_of_ble_eq_true rfl | (simp [zcat_rf, Value.category]; done)) (by omega) (Nat.le_of_eq (Nat.zero_add _)) (Nat.le_of_eq (Nat.zero_add _)) dX7_clear_26 rfl (fun v_ w_ sg_ hq_ => ?_)
      obtain ⟨rfl, rfl, rfl⟩ := hq_
      refine r_vret rfl dX7_clear_29 ?_
      refine ⟨rfl, rfl, (he.to (fun a q => Or.inl q)).tr (ech.sA (X := fun a => a = s + 5) rfl) (fun a q => Or.inr q), hn, fun k hk => ?_⟩
      rw [za_zsA, if_pos hk]
    · exact absurd c_5 (by omega)
  | m + 1, i, w, hm, hs, he, hn => by
    have hs0 := hs
    obtain ⟨⟨h1, h2, h3, h4, h5, h6, h7, h8⟩, ⟨k1, k2, k3, k4, k5, k6, k7⟩, l1, l2, l3, l4, l5, l6, l7⟩ := hs
    refine r_iload_n dX7_clear_2 rfl rfl ?_
    refine r_bipush dX7_clear_3 kb_10 rfl ?_
    refine r_icmp_geN (by omega) (by omega) (r := 21) dX7_clear_5 (by decide) rfl (fun c_5 => ?_) (fun c_5 => ?_)
    · exact absurd c_5 (by omega)
    · refine r_aload_n dX7_clear_8 rfl (zRv_ref _) rfl ?_
      refine r_gets 7 0 800 lfX7_11 (by first | (simp only [zKS]; first | assumption) | assumption | exact zk_nself _ _ _ | (simp [zKS, zNS, *]; done)) rfl rfl (by first | (simp only [zGS, Nat.reduceEqDiff, OfNat.ofNat_ne_ofNat, false_and, and_false, true_and, and_true, and_self, if_true, if_false, ite_true, ite_false, reduceIte, reduceCtorEq]; first | done | assumption) | assumption | exact z2_eq | (simp [zGS]; first | done | assumption)) dX7_clear_9 rfl ?_
      refine r_iload_n dX7_clear_12 rfl rfl ?_
      refine r_aconst_null dX7_clear_13 rfl ?_
      refine r_aasn6 i k1 rfl (by omega) (by omega) dX7_clear_14 rfl ?_
      refine r_iinc (ls' := [_, _]) dX7_clear_15 (Nat.le_of_ble_eq_true rfl) rfl (zinc1 _) rfl rfl ?_
      refine r_goto (r := 2) dX7_clear_18 (by decide) ?_
      have e1 : ech (fun a => a = s + 1) w (zsq w (s + 1) i none) := ech.sq rfl
      exact rclear_loop E sg d s w0 m (i + 1) _ (by omega) (hs0.e e1 (by omega)) (he.tr e1 (fun _ q => q)) (fun k hk => by
        rw [zq_zsq]
        by_cases e : k = i
        · rw [if_pos ⟨rfl, e⟩]
        · rw [if_neg (fun q => e q.2)]; exact hn k (by omega))
theorem sp_clear (E : ZE) (sg : ZM) (d s : Nat) (w : ZW) (hd : 1 ≤ d) (hs : isSty w s) : CallQ E MX7_clear [.ref s] w sg d 0 0 (fun v w' sg' => v = none ∧ sg = sg' ∧ ech (fun a => a = s + 1 ∨ a = s + 5) w w' ∧ (∀ k, k < 10 → zq w' (s + 1) k = none) ∧ (∀ k, k < 6 → za w' (s + 5) k = nI 4)) := by
  refine CallQ.of rfl (by simp [Value.category]) (Nat.le_of_ble_eq_true rfl) ?_
  refine r_iconst dX7_clear_0 kc_0 rfl ?_
  refine r_istore_n (ls' := [_, _]) dX7_clear_1 (Nat.le_of_ble_eq_true rfl) rfl rfl ?_
  have h9 := rclear_loop E sg (d - 1) s w 10 0 w rfl hs ech.rf (fun k hk => absurd hk (Nat.not_lt_zero k))
  rw [show d - 1 + 1 = d by omega] at h9
  exact h9
abbrev PLd : Type := Option (Nat × PDecl × Int32)
def offO (old : PLd) (k : Nat) (D : PDecl) (wt : Int32) : PLd := match old with
  | none => some (k, D, wt)
  | some (k0, D0, w0) => if D0.2.2.1 < D.2.2.1 ∨ (D.2.2.1 = D0.2.2.1 ∧ ¬ wt < w0) then some (k, D, wt) else some (k0, D0, w0)
/-- what leads for a name at a style -/
def isLd (w : ZW) (s : Nat) (DC : Nat → PDecl → Prop) (n : Nat) (o : PLd) : Prop := match o with
  | none => zq w (s + 1) n = none
  | some (k, D, wt) => ∃ a, zq w (s + 1) n = some a ∧ DC a D ∧ za w (s + 2) n = nI k ∧ za w (s + 3) n = wt
/-- what a known declaration holds -/
def okDC (w : ZW) (DC : Nat → PDecl → Prop) : Prop := ∀ a D, DC a D → zk w a = 2 ∧ zi w 200 a = nI D.1 ∧ zi w 202 a = nI D.2.2.1 ∧ D.1 < 10 ∧ D.2.2.1 < 6
theorem isLd.put (w : ZW) (s : Nat) (DC : Nat → PDecl → Prop) (n a k : Nat) (D : PDecl) (wt : Int32) (h : DC a D) : isLd (zsa (zsa (zsq w (s + 1) n (some a)) (s + 2) n (nI k)) (s + 3) n wt) s DC n (some (k, D, wt)) := by
  refine ⟨a, ?_, h, ?_, ?_⟩
  · rw [zq_zsa, zq_zsa, zq_zsq, if_pos ⟨rfl, rfl⟩]
  · rw [za_zsa, if_neg (fun q => by omega), za_zsa, if_pos ⟨rfl, rfl⟩]
  · rw [za_zsa, if_pos ⟨rfl, rfl⟩]
theorem isLd.put' (w : ZW) (s : Nat) (DC : Nat → PDecl → Prop) (n a k : Nat) (wt : Int32) (m : Nat) (hm : m ≠ n) (o : PLd) (h : isLd w s DC m o) : isLd (zsa (zsa (zsq w (s + 1) n (some a)) (s + 2) n (nI k)) (s + 3) n wt) s DC m o := by
  have e1 : zq (zsa (zsa (zsq w (s + 1) n (some a)) (s + 2) n (nI k)) (s + 3) n wt) (s + 1) m = zq w (s + 1) m := by rw [zq_zsa, zq_zsa, zq_zsq, if_neg (fun q => hm q.2)]
  have e2 : za (zsa (zsa (zsq w (s + 1) n (some a)) (s + 2) n (nI k)) (s + 3) n wt) (s + 2) m = za w (s + 2) m := by rw [za_zsa, if_neg (fun q => hm q.2), za_zsa, if_neg (fun q => hm q.2)]; rfl
  have e3 : za (zsa (zsa (zsq w (s + 1) n (some a)) (s + 2) n (nI k)) (s + 3) n wt) (s + 3) m = za w (s + 3) m := by rw [za_zsa, if_neg (fun q => hm q.2), za_zsa, if_neg (fun q => hm q.2)]; rfl
  unfold isLd at h ⊢
  rw [e1, e2, e3]
  exact h
theorem sp_offer (E : ZE) (sg : ZM) (d s a k : Nat) (wt : Int32) (w : ZW) (hs : isSty w s) (DC : Nat → PDecl → Prop) (hDC : okDC w DC) (D : PDecl) (hD : DC a D) (L : Nat → PLd) (hL : ∀ n, n < 10 → isLd w s DC n (L n)) : CallQ E MX7_offer [.ref s, .ref a, .int (nI k), .int wt] w sg d 0 0 (fun v w' sg' => v = none ∧ sg = sg' ∧ ech (fun a => a = s + 1 ∨ a = s + 2 ∨ a = s + 3) w w' ∧ ∀ n, n < 10 → isLd w' s DC n (if n = D.1 then offO (L n) k D wt else L n)) := by
  obtain ⟨⟨h1, h2, h3, h4, h5, h6, h7, h8⟩, ⟨k1, k2, k3, k4, k5, k6, k7⟩, l1, l2, l3, l4, l5, l6, l7⟩ := hs
  obtain ⟨d1, d2, d3, d4, d5⟩ := hDC a D hD
  obtain ⟨n, hn⟩ : ∃ n, D.1 = n := ⟨_, rfl⟩
  rw [hn] at d2 d4
  have hl := hL n d4
  have hwin : ∀ n', n' < 10 → offO (L n) k D wt = some (k, D, wt) → isLd (zsa (zsa (zsq w (s + 1) n (some a)) (s + 2) n (nI k)) (s + 3) n wt) s DC n' (if n' = D.1 then offO (L n') k D wt else L n') := fun n' hn' he => by
    by_cases e : n' = D.1
    · rw [if_pos e]
      rw [hn] at e
      subst e
      rw [he]
      exact isLd.put w s DC n' a k D wt hD
    · rw [if_neg e]
      rw [hn] at e
      exact isLd.put' w s DC n a k wt n' e _ (hL n' hn')
  have hX : ech (fun a => a = s + 1 ∨ a = s + 2 ∨ a = s + 3) w (zsa (zsa (zsq w (s + 1) n (some a)) (s + 2) n (nI k)) (s + 3) n wt) := ((ech.sq (Or.inl rfl)).tr (ech.sa (X := fun a => a = s + 1 ∨ a = s + 2 ∨ a = s + 3) (Or.inr (Or.inl rfl))) (fun _ q => q)).tr (ech.sa (X := fun a => a = s + 1 ∨ a = s + 2 ∨ a = s + 3) (Or.inr (Or.inr rfl))) (fun _ q => q)
  refine CallQ.of rfl (by simp [Value.category]) (Nat.le_of_ble_eq_true rfl) ?_
  cases ho : L n with
  | none =>
    rw [ho] at hl
    have g1 : zq w (s + 1) n = none := hl
    have he : offO (L n) k D wt = some (k, D, wt) := by rw [ho]; rfl
    refine r_aload_n dX7_offer_0 rfl (by first | exact zRv_ref _ | exact zRv_null | exact zRv_rf _ | assumption) rfl ?_
    refine r_getiv 1 0 200 lfX7_43 (by first | (simp only [zKS]; first | assumption) | assumption | exact zk_nself _ _ _ | (simp [zKS, zNS, *]; done)) rfl rfl (by first | (simp only [zGS, zMS, Nat.reduceEqDiff, OfNat.ofNat_ne_ofNat, false_and, and_false, true_and, and_true, and_self, if_true, if_false, ite_true, ite_false, reduceIte, reduceCtorEq]; first | done | assumption | rfl) | assumption | exact z2_eq | exact z1_eq | (simp [zGS, zMS]; first | done | assumption) | rfl) dX7_offer_1 rfl ?_
    refine r_istore (ls' := [_, _, _, _, _, _, _]) dX7_offer_4 (Nat.le_of_ble_eq_true rfl) rfl rfl ?_
    refine r_aload_n dX7_offer_6 rfl (zRv_ref _) rfl ?_
    refine r_gets 7 0 800 lfX7_11 (by first | (simp only [zKS]; first | assumption) | assumption | exact zk_nself _ _ _ | (simp [zKS, zNS, *]; done)) rfl rfl (by first | (simp only [zGS, Nat.reduceEqDiff, OfNat.ofNat_ne_ofNat, false_and, and_false, true_and, and_true, and_self, if_true, if_false, ite_true, ite_false, reduceIte, reduceCtorEq]; first | done | assumption) | assumption | exact z2_eq | (simp [zGS]; first | done | assumption)) dX7_offer_7 rfl ?_
    refine r_iload dX7_offer_10 rfl rfl ?_
    refine r_aald6 n k1 rfl (by omega) (by omega) dX7_offer_12 rfl ?_
    refine r_astore (ls' := [_, _, _, _, _, _, _]) dX7_offer_13 (Nat.le_of_ble_eq_true rfl) (by first | exact zRv_ref _ | exact zRv_null | exact zRv_rf _ | assumption) rfl rfl ?_
    refine r_aload dX7_offer_15 rfl (by first | exact zRv_ref _ | exact zRv_null | exact zRv_rf _ | assumption) rfl ?_
    refine r_ifnull (r := 55) dX7_offer_17 (by decide) rfl (fun c_17 => ?_) (fun a_17 c_17 => ?_)
    · refine r_iconst dX7_offer_55 kc_1 rfl ?_
      refine r_goto (r := 60) dX7_offer_56 (by decide) ?_
      refine r_istore (ls' := [_, _, _, _, _, _, _]) dX7_offer_60 (Nat.le_of_ble_eq_true rfl) rfl rfl ?_
      refine r_iload dX7_offer_62 rfl rfl ?_
      refine r_if_eqN (by omega) (r := 91) dX7_offer_64 (by decide) rfl (fun c_64 => ?_) (fun c_64 => ?_)
      · exact absurd c_64 (by decide)
      · refine r_aload_n dX7_offer_67 rfl (zRv_ref _) rfl ?_
        refine r_gets 7 0 800 lfX7_11 (by first | (simp only [zKS]; first | assumption) | assumption | exact zk_nself _ _ _ | (simp [zKS, zNS, *]; done)) rfl rfl (by first | (simp only [zGS, Nat.reduceEqDiff, OfNat.ofNat_ne_ofNat, false_and, and_false, true_and, and_true, and_self, if_true, if_false, ite_true, ite_false, reduceIte, reduceCtorEq]; first | done | assumption) | assumption | exact z2_eq | (simp [zGS]; first | done | assumption)) dX7_offer_68 rfl ?_
        refine r_iload dX7_offer_71 rfl rfl ?_
        refine r_aload_n dX7_offer_73 rfl (by first | exact zRv_ref _ | exact zRv_null | exact zRv_rf _ | assumption) rfl ?_
        refine r_aast6 n d1 k1 rfl (by omega) (by omega) dX7_offer_74 rfl ?_
        refine r_aload_n dX7_offer_75 rfl (zRv_ref _) rfl ?_
        refine r_gets 7 1 801 lfX7_17 (by first | (simp only [zKS]; first | assumption) | assumption | exact zk_nself _ _ _ | (simp [zKS, zNS, *]; done)) rfl rfl (by first | (simp only [zGS, Nat.reduceEqDiff, OfNat.ofNat_ne_ofNat, false_and, and_false, true_and, and_true, and_self, if_true, if_false, ite_true, ite_false, reduceIte, reduceCtorEq]; first | done | assumption) | assumption | exact z2_eq | (simp [zGS]; first | done | assumption)) dX7_offer_76 rfl ?_
        refine r_iload dX7_offer_79 rfl rfl ?_
        refine r_iload_n dX7_offer_81 rfl rfl ?_
        refine r_iast n k2 rfl (by show n < zln w (s + 2); omega) (by omega) dX7_offer_82 rfl ?_
        refine r_aload_n dX7_offer_83 rfl (zRv_ref _) rfl ?_
        refine r_gets 7 2 802 lfX7_21 (by first | (simp only [zKS]; first | assumption) | assumption | exact zk_nself _ _ _ | (simp [zKS, zNS, *]; done)) rfl rfl (by first | (simp only [zGS, Nat.reduceEqDiff, OfNat.ofNat_ne_ofNat, false_and, and_false, true_and, and_true, and_self, if_true, if_false, ite_true, ite_false, reduceIte, reduceCtorEq]; first | done | assumption) | assumption | exact z2_eq | (simp [zGS]; first | done | assumption)) dX7_offer_84 rfl ?_
        refine r_iload dX7_offer_87 rfl rfl ?_
        refine r_iload_n dX7_offer_89 rfl rfl ?_
        refine r_iast n k3 rfl (by show n < zln w (s + 3); omega) (by omega) dX7_offer_90 rfl ?_
        refine r_vret rfl dX7_offer_91 ?_
        exact ⟨rfl, rfl, hX, fun n' hn' => hwin n' hn' he⟩
    · rw [g1] at c_17; cases c_17
  | some q =>
    obtain ⟨k0, D0, w0⟩ := q
    rw [ho] at hl
    obtain ⟨a0, g1, g2, g3, g4⟩ := hl
    obtain ⟨b1, b2, b3, b4, b5⟩ := hDC a0 D0 g2
    have hlose : ¬ (D0.2.2.1 < D.2.2.1 ∨ (D.2.2.1 = D0.2.2.1 ∧ ¬ wt < w0)) → ∀ n', n' < 10 → isLd w s DC n' (if n' = D.1 then offO (L n') k D wt else L n') := fun hne n' hn' => by
      by_cases e : n' = D.1
      · rw [if_pos e]
        rw [hn] at e
        subst e
        have := hL n' hn'
        rw [ho] at this ⊢
        show isLd w s DC n' (if _ then _ else _)
        rw [if_neg hne]
        exact this
      · rw [if_neg e]
        exact hL n' hn'
    have hw1 : (D0.2.2.1 < D.2.2.1 ∨ (D.2.2.1 = D0.2.2.1 ∧ ¬ wt < w0)) → offO (L n) k D wt = some (k, D, wt) := fun q => by
      rw [ho]
      show (if _ then _ else _) = _
      rw [if_pos q]
    refine r_aload_n dX7_offer_0 rfl (by first | exact zRv_ref _ | exact zRv_null | exact zRv_rf _ | assumption) rfl ?_
    refine r_getiv 1 0 200 lfX7_43 (by first | (simp only [zKS]; first | assumption) | assumption | exact zk_nself _ _ _ | (simp [zKS, zNS, *]; done)) rfl rfl (by first | (simp only [zGS, zMS, Nat.reduceEqDiff, OfNat.ofNat_ne_ofNat, false_and, and_false, true_and, and_true, and_self, if_true, if_false, ite_true, ite_false, reduceIte, reduceCtorEq]; first | done | assumption | rfl) | assumption | exact z2_eq | exact z1_eq | (simp [zGS, zMS]; first | done | assumption) | rfl) dX7_offer_1 rfl ?_
    refine r_istore (ls' := [_, _, _, _, _, _, _]) dX7_offer_4 (Nat.le_of_ble_eq_true rfl) rfl rfl ?_
    refine r_aload_n dX7_offer_6 rfl (zRv_ref _) rfl ?_
    refine r_gets 7 0 800 lfX7_11 (by first | (simp only [zKS]; first | assumption) | assumption | exact zk_nself _ _ _ | (simp [zKS, zNS, *]; done)) rfl rfl (by first | (simp only [zGS, Nat.reduceEqDiff, OfNat.ofNat_ne_ofNat, false_and, and_false, true_and, and_true, and_self, if_true, if_false, ite_true, ite_false, reduceIte, reduceCtorEq]; first | done | assumption) | assumption | exact z2_eq | (simp [zGS]; first | done | assumption)) dX7_offer_7 rfl ?_
    refine r_iload dX7_offer_10 rfl rfl ?_
    refine r_aals6 n g1 k1 rfl (by omega) (by omega) dX7_offer_12 rfl ?_
    refine r_astore (ls' := [_, _, _, _, _, _, _]) dX7_offer_13 (Nat.le_of_ble_eq_true rfl) (by first | exact zRv_ref _ | exact zRv_null | exact zRv_rf _ | assumption) rfl rfl ?_
    refine r_aload dX7_offer_15 rfl (by first | exact zRv_ref _ | exact zRv_null | exact zRv_rf _ | assumption) rfl ?_
    refine r_ifnullR (r := 55) dX7_offer_17 (by decide) rfl (fun c_17 => ?_) (fun a_17 c_17 => ?_)
    · cases c_17
    · refine r_aload_n dX7_offer_20 rfl (by first | exact zRv_ref _ | exact zRv_null | exact zRv_rf _ | assumption) rfl ?_
      refine r_getiv 1 2 202 lfX7_47 (by first | (simp only [zKS]; first | assumption) | assumption | exact zk_nself _ _ _ | (simp [zKS, zNS, *]; done)) rfl rfl (by first | (simp only [zGS, zMS, Nat.reduceEqDiff, OfNat.ofNat_ne_ofNat, false_and, and_false, true_and, and_true, and_self, if_true, if_false, ite_true, ite_false, reduceIte, reduceCtorEq]; first | done | assumption | rfl) | assumption | exact z2_eq | exact z1_eq | (simp [zGS, zMS]; first | done | assumption) | rfl) dX7_offer_21 rfl ?_
      refine r_aload dX7_offer_24 rfl (by first | exact zRv_ref _ | exact zRv_null | exact zRv_rf _ | assumption) rfl ?_
      refine r_getiv 1 2 202 lfX7_47 (by first | (simp only [zKS]; first | assumption) | assumption | exact zk_nself _ _ _ | (simp [zKS, zNS, *]; done)) rfl rfl (by first | (simp only [zGS, zMS, Nat.reduceEqDiff, OfNat.ofNat_ne_ofNat, false_and, and_false, true_and, and_true, and_self, if_true, if_false, ite_true, ite_false, reduceIte, reduceCtorEq]; first | done | assumption | rfl) | assumption | exact z2_eq | exact z1_eq | (simp [zGS, zMS]; first | done | assumption) | rfl) dX7_offer_26 rfl ?_
      refine r_icmp_gtN (by omega) (by omega) (r := 55) dX7_offer_29 (by decide) rfl (fun c_29 => ?_) (fun c_29 => ?_)
      · refine r_iconst dX7_offer_55 kc_1 rfl ?_
        refine r_goto (r := 60) dX7_offer_56 (by decide) ?_
        refine r_istore (ls' := [_, _, _, _, _, _, _]) dX7_offer_60 (Nat.le_of_ble_eq_true rfl) rfl rfl ?_
        refine r_iload dX7_offer_62 rfl rfl ?_
        refine r_if_eqN (by omega) (r := 91) dX7_offer_64 (by decide) rfl (fun c_64 => ?_) (fun c_64 => ?_)
        · exact absurd c_64 (by decide)
        · refine r_aload_n dX7_offer_67 rfl (zRv_ref _) rfl ?_
          refine r_gets 7 0 800 lfX7_11 (by first | (simp only [zKS]; first | assumption) | assumption | exact zk_nself _ _ _ | (simp [zKS, zNS, *]; done)) rfl rfl (by first | (simp only [zGS, Nat.reduceEqDiff, OfNat.ofNat_ne_ofNat, false_and, and_false, true_and, and_true, and_self, if_true, if_false, ite_true, ite_false, reduceIte, reduceCtorEq]; first | done | assumption) | assumption | exact z2_eq | (simp [zGS]; first | done | assumption)) dX7_offer_68 rfl ?_
          refine r_iload dX7_offer_71 rfl rfl ?_
          refine r_aload_n dX7_offer_73 rfl (by first | exact zRv_ref _ | exact zRv_null | exact zRv_rf _ | assumption) rfl ?_
          refine r_aast6 n d1 k1 rfl (by omega) (by omega) dX7_offer_74 rfl ?_
          refine r_aload_n dX7_offer_75 rfl (zRv_ref _) rfl ?_
          refine r_gets 7 1 801 lfX7_17 (by first | (simp only [zKS]; first | assumption) | assumption | exact zk_nself _ _ _ | (simp [zKS, zNS, *]; done)) rfl rfl (by first | (simp only [zGS, Nat.reduceEqDiff, OfNat.ofNat_ne_ofNat, false_and, and_false, true_and, and_true, and_self, if_true, if_false, ite_true, ite_false, reduceIte, reduceCtorEq]; first | done | assumption) | assumption | exact z2_eq | (simp [zGS]; first | done | assumption)) dX7_offer_76 rfl ?_
          refine r_iload dX7_offer_79 rfl rfl ?_
          refine r_iload_n dX7_offer_81 rfl rfl ?_
          refine r_iast n k2 rfl (by show n < zln w (s + 2); omega) (by omega) dX7_offer_82 rfl ?_
          refine r_aload_n dX7_offer_83 rfl (zRv_ref _) rfl ?_
          refine r_gets 7 2 802 lfX7_21 (by first | (simp only [zKS]; first | assumption) | assumption | exact zk_nself _ _ _ | (simp [zKS, zNS, *]; done)) rfl rfl (by first | (simp only [zGS, Nat.reduceEqDiff, OfNat.ofNat_ne_ofNat, false_and, and_false, true_and, and_true, and_self, if_true, if_false, ite_true, ite_false, reduceIte, reduceCtorEq]; first | done | assumption) | assumption | exact z2_eq | (simp [zGS]; first | done | assumption)) dX7_offer_84 rfl ?_
          refine r_iload dX7_offer_87 rfl rfl ?_
          refine r_iload_n dX7_offer_89 rfl rfl ?_
          refine r_iast n k3 rfl (by show n < zln w (s + 3); omega) (by omega) dX7_offer_90 rfl ?_
          refine r_vret rfl dX7_offer_91 ?_
          exact ⟨rfl, rfl, hX, fun n' hn' => hwin n' hn' (hw1 (Or.inl c_29))⟩
      · refine r_aload_n dX7_offer_32 rfl (by first | exact zRv_ref _ | exact zRv_null | exact zRv_rf _ | assumption) rfl ?_
        refine r_getiv 1 2 202 lfX7_47 (by first | (simp only [zKS]; first | assumption) | assumption | exact zk_nself _ _ _ | (simp [zKS, zNS, *]; done)) rfl rfl (by first | (simp only [zGS, zMS, Nat.reduceEqDiff, OfNat.ofNat_ne_ofNat, false_and, and_false, true_and, and_true, and_self, if_true, if_false, ite_true, ite_false, reduceIte, reduceCtorEq]; first | done | assumption | rfl) | assumption | exact z2_eq | exact z1_eq | (simp [zGS, zMS]; first | done | assumption) | rfl) dX7_offer_33 rfl ?_
        refine r_aload dX7_offer_36 rfl (by first | exact zRv_ref _ | exact zRv_null | exact zRv_rf _ | assumption) rfl ?_
        refine r_getiv 1 2 202 lfX7_47 (by first | (simp only [zKS]; first | assumption) | assumption | exact zk_nself _ _ _ | (simp [zKS, zNS, *]; done)) rfl rfl (by first | (simp only [zGS, zMS, Nat.reduceEqDiff, OfNat.ofNat_ne_ofNat, false_and, and_false, true_and, and_true, and_self, if_true, if_false, ite_true, ite_false, reduceIte, reduceCtorEq]; first | done | assumption | rfl) | assumption | exact z2_eq | exact z1_eq | (simp [zGS, zMS]; first | done | assumption) | rfl) dX7_offer_38 rfl ?_
        refine r_icmp_neN (by omega) (by omega) (r := 59) dX7_offer_41 (by decide) rfl (fun c_41 => ?_) (fun c_41 => ?_)
        · refine r_iconst dX7_offer_59 kc_0 rfl ?_
          refine r_istore (ls' := [_, _, _, _, _, _, _]) dX7_offer_60 (Nat.le_of_ble_eq_true rfl) rfl rfl ?_
          refine r_iload dX7_offer_62 rfl rfl ?_
          refine r_if_eqN (by omega) (r := 91) dX7_offer_64 (by decide) rfl (fun c_64 => ?_) (fun c_64 => ?_)
          · refine r_vret rfl dX7_offer_91 ?_
            exact ⟨rfl, rfl, ech.rf, hlose (by omega)⟩
          · exact absurd rfl c_64
        · refine r_iload_n dX7_offer_44 rfl rfl ?_
          refine r_aload_n dX7_offer_45 rfl (zRv_ref _) rfl ?_
          refine r_gets 7 2 802 lfX7_21 (by first | (simp only [zKS]; first | assumption) | assumption | exact zk_nself _ _ _ | (simp [zKS, zNS, *]; done)) rfl rfl (by first | (simp only [zGS, Nat.reduceEqDiff, OfNat.ofNat_ne_ofNat, false_and, and_false, true_and, and_true, and_self, if_true, if_false, ite_true, ite_false, reduceIte, reduceCtorEq]; first | done | assumption) | assumption | exact z2_eq | (simp [zGS]; first | done | assumption)) dX7_offer_46 rfl ?_
          refine r_iload dX7_offer_49 rfl rfl ?_
          refine r_ialdv n k3 rfl (by omega) (by omega) g4 dX7_offer_51 rfl ?_
          refine r_icmp_lt (r := 59) dX7_offer_52 (by decide) rfl (fun c_52 => ?_) (fun c_52 => ?_)
          · refine r_iconst dX7_offer_59 kc_0 rfl ?_
            refine r_istore (ls' := [_, _, _, _, _, _, _]) dX7_offer_60 (Nat.le_of_ble_eq_true rfl) rfl rfl ?_
            refine r_iload dX7_offer_62 rfl rfl ?_
            refine r_if_eqN (by omega) (r := 91) dX7_offer_64 (by decide) rfl (fun c_64 => ?_) (fun c_64 => ?_)
            · refine r_vret rfl dX7_offer_91 ?_
              exact ⟨rfl, rfl, ech.rf, hlose (fun q => q.elim (fun q => by omega) (fun q => q.2 c_52))⟩
            · exact absurd rfl c_64
          · refine r_iconst dX7_offer_55 kc_1 rfl ?_
            refine r_goto (r := 60) dX7_offer_56 (by decide) ?_
            refine r_istore (ls' := [_, _, _, _, _, _, _]) dX7_offer_60 (Nat.le_of_ble_eq_true rfl) rfl rfl ?_
            refine r_iload dX7_offer_62 rfl rfl ?_
            refine r_if_eqN (by omega) (r := 91) dX7_offer_64 (by decide) rfl (fun c_64 => ?_) (fun c_64 => ?_)
            · exact absurd c_64 (by decide)
            · refine r_aload_n dX7_offer_67 rfl (zRv_ref _) rfl ?_
              refine r_gets 7 0 800 lfX7_11 (by first | (simp only [zKS]; first | assumption) | assumption | exact zk_nself _ _ _ | (simp [zKS, zNS, *]; done)) rfl rfl (by first | (simp only [zGS, Nat.reduceEqDiff, OfNat.ofNat_ne_ofNat, false_and, and_false, true_and, and_true, and_self, if_true, if_false, ite_true, ite_false, reduceIte, reduceCtorEq]; first | done | assumption) | assumption | exact z2_eq | (simp [zGS]; first | done | assumption)) dX7_offer_68 rfl ?_
              refine r_iload dX7_offer_71 rfl rfl ?_
              refine r_aload_n dX7_offer_73 rfl (by first | exact zRv_ref _ | exact zRv_null | exact zRv_rf _ | assumption) rfl ?_
              refine r_aast6 n d1 k1 rfl (by omega) (by omega) dX7_offer_74 rfl ?_
              refine r_aload_n dX7_offer_75 rfl (zRv_ref _) rfl ?_
              refine r_gets 7 1 801 lfX7_17 (by first | (simp only [zKS]; first | assumption) | assumption | exact zk_nself _ _ _ | (simp [zKS, zNS, *]; done)) rfl rfl (by first | (simp only [zGS, Nat.reduceEqDiff, OfNat.ofNat_ne_ofNat, false_and, and_false, true_and, and_true, and_self, if_true, if_false, ite_true, ite_false, reduceIte, reduceCtorEq]; first | done | assumption) | assumption | exact z2_eq | (simp [zGS]; first | done | assumption)) dX7_offer_76 rfl ?_
              refine r_iload dX7_offer_79 rfl rfl ?_
              refine r_iload_n dX7_offer_81 rfl rfl ?_
              refine r_iast n k2 rfl (by show n < zln w (s + 2); omega) (by omega) dX7_offer_82 rfl ?_
              refine r_aload_n dX7_offer_83 rfl (zRv_ref _) rfl ?_
              refine r_gets 7 2 802 lfX7_21 (by first | (simp only [zKS]; first | assumption) | assumption | exact zk_nself _ _ _ | (simp [zKS, zNS, *]; done)) rfl rfl (by first | (simp only [zGS, Nat.reduceEqDiff, OfNat.ofNat_ne_ofNat, false_and, and_false, true_and, and_true, and_self, if_true, if_false, ite_true, ite_false, reduceIte, reduceCtorEq]; first | done | assumption) | assumption | exact z2_eq | (simp [zGS]; first | done | assumption)) dX7_offer_84 rfl ?_
              refine r_iload dX7_offer_87 rfl rfl ?_
              refine r_iload_n dX7_offer_89 rfl rfl ?_
              refine r_iast n k3 rfl (by show n < zln w (s + 3); omega) (by omega) dX7_offer_90 rfl ?_
              refine r_vret rfl dX7_offer_91 ?_
              exact ⟨rfl, rfl, hX, fun n' hn' => hwin n' hn' (hw1 (Or.inr ⟨c_41, c_52⟩))⟩
theorem sp_leadingRule (E : ZE) (sg : ZM) (d s n : Nat) (hn : n < 10) (w : ZW) (hs : isSty w s) (DC : Nat → PDecl → Prop) (o : PLd) (hL : isLd w s DC n o) : CallQ E MX7_leadingRule [.ref s, .int (nI n)] w sg d 0 0 (fun v w' sg' => v = some (.int (match o with | none => -1 | some (k, _, _) => nI k)) ∧ w = w' ∧ sg = sg') := by
  obtain ⟨⟨h1, h2, h3, h4, h5, h6, h7, h8⟩, ⟨k1, k2, k3, k4, k5, k6, k7⟩, l1, l2, l3, l4, l5, l6, l7⟩ := hs
  refine CallQ.of rfl (by simp [Value.category]) (Nat.le_of_ble_eq_true rfl) ?_
  cases o with
  | none =>
    have g1 : zq w (s + 1) n = none := hL
    refine r_aload_n dX7_leadingRule_0 rfl (zRv_ref _) rfl ?_
    refine r_gets 7 0 800 lfX7_11 (by first | (simp only [zKS]; first | assumption) | assumption | exact zk_nself _ _ _ | (simp [zKS, zNS, *]; done)) rfl rfl (by first | (simp only [zGS, Nat.reduceEqDiff, OfNat.ofNat_ne_ofNat, false_and, and_false, true_and, and_true, and_self, if_true, if_false, ite_true, ite_false, reduceIte, reduceCtorEq]; first | done | assumption) | assumption | exact z2_eq | (simp [zGS]; first | done | assumption)) dX7_leadingRule_1 rfl ?_
    refine r_iload_n dX7_leadingRule_4 rfl rfl ?_
    refine r_aald6 n k1 rfl (by omega) (by omega) dX7_leadingRule_5 rfl ?_
    refine r_ifnonnull (r := 13) dX7_leadingRule_6 (by decide) rfl (fun c_6 => ?_) (fun a_6 c_6 => ?_)
    · refine r_iconst dX7_leadingRule_9 kc_m1 rfl ?_
      refine r_goto (r := 19) dX7_leadingRule_10 (by decide) ?_
      refine r_iret rfl dX7_leadingRule_19 ?_
      exact ⟨rfl, rfl, rfl⟩
    · rw [g1] at c_6; cases c_6
  | some q =>
    obtain ⟨k0, D0, w0⟩ := q
    obtain ⟨a0, g1, g2, g3, g4⟩ := hL
    refine r_aload_n dX7_leadingRule_0 rfl (zRv_ref _) rfl ?_
    refine r_gets 7 0 800 lfX7_11 (by first | (simp only [zKS]; first | assumption) | assumption | exact zk_nself _ _ _ | (simp [zKS, zNS, *]; done)) rfl rfl (by first | (simp only [zGS, Nat.reduceEqDiff, OfNat.ofNat_ne_ofNat, false_and, and_false, true_and, and_true, and_self, if_true, if_false, ite_true, ite_false, reduceIte, reduceCtorEq]; first | done | assumption) | assumption | exact z2_eq | (simp [zGS]; first | done | assumption)) dX7_leadingRule_1 rfl ?_
    refine r_iload_n dX7_leadingRule_4 rfl rfl ?_
    refine r_aald6 n k1 rfl (by omega) (by omega) dX7_leadingRule_5 rfl ?_
    refine r_ifnonnull (r := 13) dX7_leadingRule_6 (by decide) rfl (fun c_6 => ?_) (fun a_6 c_6 => ?_)
    · rw [g1] at c_6; cases c_6
    · refine r_aload_n dX7_leadingRule_13 rfl (zRv_ref _) rfl ?_
      refine r_gets 7 1 801 lfX7_17 (by first | (simp only [zKS]; first | assumption) | assumption | exact zk_nself _ _ _ | (simp [zKS, zNS, *]; done)) rfl rfl (by first | (simp only [zGS, Nat.reduceEqDiff, OfNat.ofNat_ne_ofNat, false_and, and_false, true_and, and_true, and_self, if_true, if_false, ite_true, ite_false, reduceIte, reduceCtorEq]; first | done | assumption) | assumption | exact z2_eq | (simp [zGS]; first | done | assumption)) dX7_leadingRule_14 rfl ?_
      refine r_iload_n dX7_leadingRule_17 rfl rfl ?_
      refine r_ialdv n k2 rfl (by omega) (by omega) g3 dX7_leadingRule_18 rfl ?_
      refine r_iret rfl dX7_leadingRule_19 ?_
      exact ⟨rfl, rfl, rfl⟩
