/-! ===== Selector.meet ===== -/
def mf (T : List PEl) (fst : Bool) (j fo : Nat) (C : PComp) (e : Nat) : Bool := (fst || bmeet (relS T j e) fo) && fitC T e C
theorem bsetT {f : Nat → Bool} {i : Nat} (hi : i < 24) (h : f i = true) : nI (bset f i) ||| nI (2 ^ i) = nI (bset f (i + 1)) := by
  rw [nI_or (p31 (bset_lt f i) (by omega)) (p2e (by omega))]
  conv => rhs; unfold bset
  rw [if_pos h]
theorem bsetF {f : Nat → Bool} {i : Nat} (h : f i = false) : bset f (i + 1) = bset f i := by
  conv => lhs; unfold bset
  rw [if_neg (by rw [h]; decide)]
/-- the elements' row -/
def isEA (w : ZW) (ea n : Nat) (A : Nat → Nat) : Prop := zk w ea = 27 ∧ zln w ea = 24 ∧ ∀ i, i < n → zq w ea i = some (A i)
theorem rmeet_in (E : ZE) (sg : ZM) (d : Nat) (hd : 4 ≤ d) (w : ZW) (T : List PEl) (A : Nat → Nat) (hT : isEls w T A) (ea : Nat) (hA : isEA w ea T.length A) (s a0 c lo hi fo j : Nat) (hs : zk w s = 7) (hs0 : zr w 700 s = some a0) (C : PComp) (hC : okC C) (hj : j < 128) (hc : zk w c = 1) (hg : zi w 100 c = nI C.1) (hps : isParts w lo hi (zr w 101 c) C.2.1) (hbs : isBares w lo hi (zr w 102 c) C.2.2) (hcj : zi w 104 c = nI j) (hfo : fo < 2147483648) (fst : Bool) (hf1 : fst = true → c = a0) (hf2 : fst = false → ¬ c = a0) (P : ZPhi)
    (K : ∀ x6 x7 x8, RW E MX6_meet 93 [some (.ref s), some (.ref ea), some (.int (nI T.length)), some (.int (nI fo)), some (.ref c), some (.int (nI (bset (mf T fst j fo C) T.length))), x6, x7, x8] [] w sg d 0 0 P) : ∀ (m i : Nat) (x7 x8 : Option Value), i + m = T.length → RW E MX6_meet 19 [some (.ref s), some (.ref ea), some (.int (nI T.length)), some (.int (nI fo)), some (.ref c), some (.int (nI (bset (mf T fst j fo C) i))), some (.int (nI i)), x7, x8] [] w sg d 0 0 P
  | 0, i, x7, x8, hm => by
    have : i = T.length := by omega
    subst this
    have hl := hT.1.1
    refine r_iload dX6_meet_19 rfl rfl ?_
    refine r_iload_n dX6_meet_21 rfl rfl ?_
    refine r_icmp_geN (by omega) (by omega) (r := 93) dX6_meet_22 (by decide) rfl (fun c_22 => ?_) (fun c_22 => ?_)
    · exact K _ _ _
    · exact absurd c_22 (by omega)
  | m + 1, i, x7, x8, hm => by
    have hl := hT.1.1
    have hi2 : i < T.length := by omega
    obtain ⟨ha1, ha2, ha3⟩ := hA
    have hq := ha3 i hi2
    have hrl := relS_lt (j := j) hT.1 hi2
    obtain ⟨f0, -, f1, f2, f3, f4, f5, -⟩ := hT.2 i hi2
    have hgo := rmeet_in E sg d hd w T A hT ea ⟨ha1, ha2, ha3⟩ s a0 c lo hi fo j hs hs0 C hC hj hc hg hps hbs hcj hfo fst hf1 hf2 P K m (i + 1)
    refine r_iload dX6_meet_19 rfl rfl ?_
    refine r_iload_n dX6_meet_21 rfl rfl ?_
    refine r_icmp_geN (by omega) (by omega) (r := 93) dX6_meet_22 (by decide) rfl (fun c_22 => ?_) (fun c_22 => ?_)
    · exact absurd c_22 (by omega)
    · refine r_aload_n dX6_meet_25 rfl (by first | exact zRv_ref _ | exact zRv_null | exact zRv_rf _ | assumption) rfl ?_
      refine r_iload dX6_meet_26 rfl rfl ?_
      first | refine r_aals7 _ (by first | (simp only [zGS, Nat.reduceEqDiff, OfNat.ofNat_ne_ofNat, false_and, and_false, true_and, and_true, and_self, if_true, if_false, ite_true, ite_false, reduceIte, reduceCtorEq]; first | done | assumption) | assumption | exact z2_eq | (simp [zGS]; first | done | assumption)) (by first | (simp only [zKS]; first | assumption) | assumption | exact zk_nself _ _ _ | (simp [zKS, zNS, *]; done)) rfl (by first | (rw [show zln _ _ = _ by assumption]; omega) | (simp only [zKS, *]; omega) | (simp [zKS, *]; omega)) (by omega) dX6_meet_28 rfl ?_ | refine r_aald7 _ (by first | (simp only [zKS]; first | assumption) | assumption | exact zk_nself _ _ _ | (simp [zKS, zNS, *]; done)) rfl (by first | (rw [show zln _ _ = _ by assumption]; omega) | (simp only [zKS, *]; omega) | (simp [zKS, *]; omega)) (by omega) dX6_meet_28 rfl ?_
      refine r_astore (ls' := [_, _, _, _, _, _, _, _, _]) dX6_meet_29 (Nat.le_of_ble_eq_true rfl) (by first | exact zRv_ref _ | exact zRv_null | exact zRv_rf _ | assumption) rfl rfl ?_
      refine r_aload dX6_meet_31 rfl (by first | exact zRv_ref _ | exact zRv_null | exact zRv_rf _ | assumption) rfl ?_
      refine r_aload_n dX6_meet_33 rfl (zRv_ref _) rfl ?_
      refine r_gets 6 0 700 lfX6_7 (by first | (simp only [zKS]; first | assumption) | assumption | exact zk_nself _ _ _ | (simp [zKS, zNS, *]; done)) rfl rfl (by first | (simp only [zGS, Nat.reduceEqDiff, OfNat.ofNat_ne_ofNat, false_and, and_false, true_and, and_true, and_self, if_true, if_false, ite_true, ite_false, reduceIte, reduceCtorEq]; first | done | assumption) | assumption | exact z2_eq | (simp [zGS]; first | done | assumption)) dX6_meet_34 rfl ?_
      refine r_acmp_eq (x := some c) (y := some a0) (r := 55) dX6_meet_37 (by decide) rfl (fun c_37 => ?_) (fun c_37 => ?_)
      · refine r_iconst dX6_meet_55 kc_1 rfl ?_
        refine r_goto (r := 60) dX6_meet_56 (by decide) ?_
        refine r_istore (ls' := [_, _, _, _, _, _, _, _, _]) dX6_meet_60 (Nat.le_of_ble_eq_true rfl) rfl rfl ?_
        refine r_iload dX6_meet_62 rfl rfl ?_
        refine r_if_eqN (by omega) (r := 87) dX6_meet_64 (by decide) rfl (fun c_64 => ?_) (fun c_64 => ?_)
        · exact absurd c_64 (by decide)
        · refine r_aload dX6_meet_67 rfl (by first | exact zRv_ref _ | exact zRv_null | exact zRv_rf _ | assumption) rfl ?_
          refine r_aload dX6_meet_69 rfl (by first | exact zRv_ref _ | exact zRv_null | exact zRv_rf _ | assumption) rfl ?_
          refine r_callV MX0_fits 1 [_] lvX6_35 (Or.inl ⟨0, by decide, (by first | (simp only [zKS]; first | assumption) | assumption | exact zk_nself _ _ _ | (simp [zKS, zNS, *]; done)), rfl⟩) (sp_fits E w sg (d - 1) lo hi c i (by omega) C hC hc hg hps hbs T A hT hi2) rfl rfl (by first | exact Nat.le_of_ble_eq_true rfl | (simp [zcat_rf, Value.category]; done)) (by omega) (Nat.le_of_eq (Nat.zero_add _)) (Nat.le_of_eq (Nat.zero_add _)) dX6_meet_71 rfl (fun v_ w_ sg_ hq_ => ?_)
          obtain ⟨rfl, rfl, rfl⟩ := hq_
          refine r_if_eqB (r := 87) dX6_meet_74 (by decide) rfl (fun c_74 => ?_) (fun c_74 => ?_)
          · refine r_iinc (ls' := [_, _, _, _, _, _, _, _, _]) dX6_meet_87 (Nat.le_of_ble_eq_true rfl) rfl (zinc1 _) rfl rfl ?_
            refine r_goto (r := 19) dX6_meet_90 (by decide) ?_
            have hz : fst = true := by
              cases hb : fst with
              | true => rfl
              | false => exact absurd (Option.some.inj c_37) (hf2 hb)
            rw [← bsetF (f := mf T fst j fo C) (i := i) (by unfold mf; rw [c_74, Bool.and_false])]
            exact hgo _ _ (by omega)
          · refine r_iload dX6_meet_77 rfl rfl ?_
            refine r_aload dX6_meet_79 rfl (by first | exact zRv_ref _ | exact zRv_null | exact zRv_rf _ | assumption) rfl ?_
            refine r_getiv 2 4 304 lfX6_39 (by first | (simp only [zKS]; first | assumption) | assumption | exact zk_nself _ _ _ | (simp [zKS, zNS, *]; done)) rfl rfl (by first | (simp only [zGS, zMS, Nat.reduceEqDiff, OfNat.ofNat_ne_ofNat, false_and, and_false, true_and, and_true, and_self, if_true, if_false, ite_true, ite_false, reduceIte, reduceCtorEq]; first | done | assumption | rfl) | assumption | exact z2_eq | exact z1_eq | (simp [zGS, zMS]; first | done | assumption) | rfl) dX6_meet_81 rfl ?_
            refine r_ior dX6_meet_84 rfl ?_
            refine r_istore (ls' := [_, _, _, _, _, _, _, _, _]) dX6_meet_85 (Nat.le_of_ble_eq_true rfl) rfl rfl ?_
            refine r_iinc (ls' := [_, _, _, _, _, _, _, _, _]) dX6_meet_87 (Nat.le_of_ble_eq_true rfl) rfl (zinc1 _) rfl rfl ?_
            refine r_goto (r := 19) dX6_meet_90 (by decide) ?_
            have hz : fst = true := by
              cases hb : fst with
              | true => rfl
              | false => exact absurd (Option.some.inj c_37) (hf2 hb)
            rw [bsetT (f := mf T fst j fo C) (by omega) (by unfold mf; rw [c_74, hz]; rfl)]
            exact hgo _ _ (by omega)
      · refine r_aload dX6_meet_40 rfl (by first | exact zRv_ref _ | exact zRv_null | exact zRv_rf _ | assumption) rfl ?_
        refine r_aload dX6_meet_42 rfl (by first | exact zRv_ref _ | exact zRv_null | exact zRv_rf _ | assumption) rfl ?_
        refine r_getiv 0 4 104 lfX6_24 (by first | (simp only [zKS]; first | assumption) | assumption | exact zk_nself _ _ _ | (simp [zKS, zNS, *]; done)) rfl rfl (by first | (simp only [zGS, zMS, Nat.reduceEqDiff, OfNat.ofNat_ne_ofNat, false_and, and_false, true_and, and_true, and_self, if_true, if_false, ite_true, ite_false, reduceIte, reduceCtorEq]; first | done | assumption | rfl) | assumption | exact z2_eq | exact z1_eq | (simp [zGS, zMS]; first | done | assumption) | rfl) dX6_meet_44 rfl ?_
        refine r_callV MX2_related 1 [_] lvX6_29 (Or.inl ⟨2, by decide, (by first | (simp only [zKS]; first | assumption) | assumption | exact zk_nself _ _ _ | (simp [zKS, zNS, *]; done)), rfl⟩) (sp_related E w sg (d - 1) i j hj T A hT hi2) rfl rfl (by first | exact Nat.le_of_ble_eq_true rfl | (simp [zcat_rf, Value.category]; done)) (by omega) (Nat.le_of_eq (Nat.zero_add _)) (Nat.le_of_eq (Nat.zero_add _)) dX6_meet_47 rfl (fun v_ w_ sg_ hq_ => ?_)
        obtain ⟨rfl, rfl, rfl⟩ := hq_
        refine r_iload_n dX6_meet_50 rfl rfl ?_
        refine r_iand dX6_meet_51 rfl ?_
        refine r_if_eq (r := 59) dX6_meet_52 (by decide) rfl (fun c_52 => ?_) (fun c_52 => ?_)
        · refine r_iconst dX6_meet_59 kc_0 rfl ?_
          refine r_istore (ls' := [_, _, _, _, _, _, _, _, _]) dX6_meet_60 (Nat.le_of_ble_eq_true rfl) rfl rfl ?_
          refine r_iload dX6_meet_62 rfl rfl ?_
          refine r_if_eqN (by omega) (r := 87) dX6_meet_64 (by decide) rfl (fun c_64 => ?_) (fun c_64 => ?_)
          · refine r_iinc (ls' := [_, _, _, _, _, _, _, _, _]) dX6_meet_87 (Nat.le_of_ble_eq_true rfl) rfl (zinc1 _) rfl rfl ?_
            refine r_goto (r := 19) dX6_meet_90 (by decide) ?_
            have hz : fst = false := by
              cases hb : fst with
              | false => rfl
              | true => exact absurd (congrArg some (hf1 hb)) c_37
            rw [nI_and hrl hfo] at c_52
            rw [nI_eq0 (Nat.lt_of_le_of_lt Nat.and_le_left hrl)] at c_52
            rw [← bsetF (f := mf T fst j fo C) (i := i) (by unfold mf bmeet; rw [c_52, hz]; rfl)]
            exact hgo _ _ (by omega)
          · exact absurd rfl c_64
        · refine r_iconst dX6_meet_55 kc_1 rfl ?_
          refine r_goto (r := 60) dX6_meet_56 (by decide) ?_
          refine r_istore (ls' := [_, _, _, _, _, _, _, _, _]) dX6_meet_60 (Nat.le_of_ble_eq_true rfl) rfl rfl ?_
          refine r_iload dX6_meet_62 rfl rfl ?_
          refine r_if_eqN (by omega) (r := 87) dX6_meet_64 (by decide) rfl (fun c_64 => ?_) (fun c_64 => ?_)
          · exact absurd c_64 (by decide)
          · refine r_aload dX6_meet_67 rfl (by first | exact zRv_ref _ | exact zRv_null | exact zRv_rf _ | assumption) rfl ?_
            refine r_aload dX6_meet_69 rfl (by first | exact zRv_ref _ | exact zRv_null | exact zRv_rf _ | assumption) rfl ?_
            refine r_callV MX0_fits 1 [_] lvX6_35 (Or.inl ⟨0, by decide, (by first | (simp only [zKS]; first | assumption) | assumption | exact zk_nself _ _ _ | (simp [zKS, zNS, *]; done)), rfl⟩) (sp_fits E w sg (d - 1) lo hi c i (by omega) C hC hc hg hps hbs T A hT hi2) rfl rfl (by first | exact Nat.le_of_ble_eq_true rfl | (simp [zcat_rf, Value.category]; done)) (by omega) (Nat.le_of_eq (Nat.zero_add _)) (Nat.le_of_eq (Nat.zero_add _)) dX6_meet_71 rfl (fun v_ w_ sg_ hq_ => ?_)
            obtain ⟨rfl, rfl, rfl⟩ := hq_
            refine r_if_eqB (r := 87) dX6_meet_74 (by decide) rfl (fun c_74 => ?_) (fun c_74 => ?_)
            · refine r_iinc (ls' := [_, _, _, _, _, _, _, _, _]) dX6_meet_87 (Nat.le_of_ble_eq_true rfl) rfl (zinc1 _) rfl rfl ?_
              refine r_goto (r := 19) dX6_meet_90 (by decide) ?_
              rw [← bsetF (f := mf T fst j fo C) (i := i) (by unfold mf; rw [c_74, Bool.and_false])]
              exact hgo _ _ (by omega)
            · refine r_iload dX6_meet_77 rfl rfl ?_
              refine r_aload dX6_meet_79 rfl (by first | exact zRv_ref _ | exact zRv_null | exact zRv_rf _ | assumption) rfl ?_
              refine r_getiv 2 4 304 lfX6_39 (by first | (simp only [zKS]; first | assumption) | assumption | exact zk_nself _ _ _ | (simp [zKS, zNS, *]; done)) rfl rfl (by first | (simp only [zGS, zMS, Nat.reduceEqDiff, OfNat.ofNat_ne_ofNat, false_and, and_false, true_and, and_true, and_self, if_true, if_false, ite_true, ite_false, reduceIte, reduceCtorEq]; first | done | assumption | rfl) | assumption | exact z2_eq | exact z1_eq | (simp [zGS, zMS]; first | done | assumption) | rfl) dX6_meet_81 rfl ?_
              refine r_ior dX6_meet_84 rfl ?_
              refine r_istore (ls' := [_, _, _, _, _, _, _, _, _]) dX6_meet_85 (Nat.le_of_ble_eq_true rfl) rfl rfl ?_
              refine r_iinc (ls' := [_, _, _, _, _, _, _, _, _]) dX6_meet_87 (Nat.le_of_ble_eq_true rfl) rfl (zinc1 _) rfl rfl ?_
              refine r_goto (r := 19) dX6_meet_90 (by decide) ?_
              rw [nI_and hrl hfo] at c_52
              rw [nI_eq0 (Nat.lt_of_le_of_lt Nat.and_le_left hrl)] at c_52
              rw [bsetT (f := mf T fst j fo C) (by omega) (by unfold mf bmeet; rw [c_74, decide_eq_false c_52, Bool.not_false, Bool.or_true]; rfl)]
              exact hgo _ _ (by omega)
theorem Seg.one {α : Type} {P P' : Nat → α → Prop} {w : ZW} {fd : Nat} : ∀ {l l' : List α} {o : Option Nat}, Seg P w fd o l none → Seg P' w fd o l' none → l.length = l'.length
  | [], [], o, _, _ => rfl
  | [], y :: l', o, h, ⟨a, h1, _, _⟩ => by
    have h9 : o = none := h
    rw [h9] at h1
    cases h1
  | x :: l, [], o, ⟨a, h1, _, _⟩, h => by
    have h9 : o = none := h
    rw [h9] at h1
    cases h1
  | x :: l, y :: l', o, ⟨a, h1, h2, h3⟩, ⟨b, g1, g2, g3⟩ => by
    rw [h1] at g1
    cases g1
    rw [List.length_cons, List.length_cons, h3.one g3]
def okSel (l : List (Nat × PComp)) : Prop := ∀ x ∈ l, x.1 < 128 ∧ okC x.2
theorem selGo_lt {T : List PEl} (h : T.length ≤ 24) : ∀ (l : List (Nat × PComp)) (fo : Nat), fo < 2147483648 → selGo T fo l < 2147483648
  | [], fo, hf => hf
  | x :: l, fo, hf => selGo_lt h l _ (p31 (bset_lt _ _) h)
def selM (T : List PEl) (fo : Nat) (l : List (Nat × PComp)) : Nat := match l with
  | [] => fo
  | _ :: _ => selSet T l
theorem rmeet_out (E : ZE) (sg : ZM) (d : Nat) (hd : 4 ≤ d) (w : ZW) (T : List PEl) (A : Nat → Nat) (hT : isEls w T A) (ea : Nat) (hA : isEA w ea T.length A) (s a0 lo hi : Nat) (hs : zk w s = 7) (hs0 : zr w 700 s = some a0) (L : List (Nat × PComp)) (hL : Seg (isCJ w lo hi) w 105 (some a0) L none) : ∀ (l : List (Nat × PComp)) (o : Option Nat) (fo : Nat) (fst : Bool) (x5 x6 x7 x8 : Option Value), Seg (isCJ w lo hi) w 105 o l none → okSel l → fo < 2147483648 → (fst = true → o = some a0) → (fst = false → l.length < L.length) → RW E MX6_meet 8 [some (.ref s), some (.ref ea), some (.int (nI T.length)), some (.int (nI fo)), some (va_rf o), x5, x6, x7, x8] [] w sg d 0 0 (PN E (fun v w' sg' => v = none ∧ w' = zsi w 702 s (nI (if fst = true then selM T fo l else selGo T fo l)) ∧ sg = sg'))
  | [], o, fo, fst, x5, x6, x7, x8, h, ho, hfo, h1, h2 => by
    have h9 : o = none := h
    subst h9
    have e9 : (if fst = true then selM T fo [] else selGo T fo []) = fo := by
      split <;> rfl
    refine r_aload dX6_meet_8 rfl (by first | exact zRv_ref _ | exact zRv_null | exact zRv_rf _ | assumption) rfl ?_
    refine r_ifnullZ (r := 106) dX6_meet_10 (by decide) rfl (fun c_10 => ?_) (fun a_10 c_10 => ?_)
    · refine r_aload_n dX6_meet_106 rfl (zRv_ref _) rfl ?_
      refine r_iload_n dX6_meet_107 rfl rfl ?_
      refine r_puti 6 2 702 lfX6_17 (by first | (simp only [zKS]; first | assumption) | assumption | exact zk_nself _ _ _ | (simp [zKS, zNS, *]; done)) rfl rfl rfl (Or.inl rfl) dX6_meet_108 rfl ?_
      refine r_vret rfl dX6_meet_111 ?_
      exact ⟨rfl, by rw [e9], rfl⟩
    · cases c_10
  | (j, C) :: l, o, fo, fst, x5, x6, x7, x8, h, ho, hfo, h1, h2 => by
    obtain ⟨c, rfl, g, h3⟩ := h
    have g0 := g
    obtain ⟨g1, g2, g3, g4, g5, g6, g7, g8⟩ := g0
    have hok := ho (j, C) List.mem_cons_self
    have hl := hT.1.1
    have hf1 : fst = true → c = a0 := fun q => Option.some.inj (h1 q)
    have hf2 : fst = false → ¬ c = a0 := fun q q2 => by
      have q3 := h2 q
      rw [q2] at g h3
      have q4 : Seg (isCJ w lo hi) w 105 (some a0) ((j, C) :: l) none := ⟨a0, rfl, g, h3⟩
      have := q4.one hL
      omega
    have hlen : l.length < L.length := by
      cases hb : fst with
      | false => have := h2 hb; rw [List.length_cons] at this; omega
      | true =>
        have q1 := hf1 hb
        rw [q1] at g h3
        have q4 : Seg (isCJ w lo hi) w 105 (some a0) ((j, C) :: l) none := ⟨a0, rfl, g, h3⟩
        have := q4.one hL
        rw [List.length_cons] at this
        omega
    have e9 : (if fst = true then selM T fo ((j, C) :: l) else selGo T fo ((j, C) :: l)) = selGo T (bset (mf T fst j fo C) T.length) l := by
      cases fst with
      | true =>
        rw [if_pos rfl]
        show selGo T (bset (fun e => fitC T e C) T.length) l = _
        congr 1
      | false => rw [if_neg (by decide)]; rfl
    rw [e9]
    refine r_aload dX6_meet_8 rfl (by first | exact zRv_ref _ | exact zRv_null | exact zRv_rf _ | assumption) rfl ?_
    refine r_ifnullR (r := 106) dX6_meet_10 (by decide) rfl (fun c_10 => ?_) (fun a_10 c_10 => ?_)
    · cases c_10
    · refine r_iconst dX6_meet_13 kc_0 rfl ?_
      refine r_istore (ls' := [_, _, _, _, _, _, _, _, _]) dX6_meet_14 (Nat.le_of_ble_eq_true rfl) rfl rfl ?_
      refine r_iconst dX6_meet_16 kc_0 rfl ?_
      refine r_istore (ls' := [_, _, _, _, _, _, _, _, _]) dX6_meet_17 (Nat.le_of_ble_eq_true rfl) rfl rfl ?_
      refine rmeet_in E sg d hd w T A hT ea hA s a0 c (c + 1) hi fo j hs hs0 C hok.2 hok.1 g3 g4 g5 g6 g8 hfo fst hf1 hf2 _ (fun y6 y7 y8 => ?_) T.length 0 _ _ (by omega)
      refine r_iload dX6_meet_93 rfl rfl ?_
      refine r_istore_n (ls' := [_, _, _, _, _, _, _, _, _]) dX6_meet_95 (Nat.le_of_ble_eq_true rfl) rfl rfl ?_
      refine r_aload dX6_meet_96 rfl (by first | exact zRv_ref _ | exact zRv_null | exact zRv_rf _ | assumption) rfl ?_
      refine r_getr 0 5 105 lfX6_42 (by first | (simp only [zKS]; first | assumption) | assumption | exact zk_nself _ _ _ | (simp [zKS, zNS, *]; done)) rfl rfl dX6_meet_98 rfl ?_
      refine r_astore (ls' := [_, _, _, _, _, _, _, _, _]) dX6_meet_101 (Nat.le_of_ble_eq_true rfl) (by first | exact zRv_ref _ | exact zRv_null | exact zRv_rf _ | assumption) rfl rfl ?_
      refine r_goto (r := 8) dX6_meet_103 (by decide) ?_
      have h5 := rmeet_out E sg d hd w T A hT ea hA s a0 lo hi hs hs0 L hL l (zr w 105 c) (bset (mf T fst j fo C) T.length) false (some (.int (nI (bset (mf T fst j fo C) T.length)))) y6 y7 y8 h3 (fun x hx => ho x (List.mem_cons_of_mem _ hx)) (p31 (bset_lt _ _) hl) (fun q => by cases q) (fun _ => hlen)
      rw [if_neg (by decide)] at h5
      exact h5
theorem sp_meet (E : ZE) (sg : ZM) (d : Nat) (hd : 4 ≤ d) (w : ZW) (T : List PEl) (A : Nat → Nat) (hT : isEls w T A) (ea : Nat) (hA : isEA w ea T.length A) (s a0 lo hi : Nat) (hs : zk w s = 7) (hs0 : zr w 700 s = some a0) (L : List (Nat × PComp)) (hL : Seg (isCJ w lo hi) w 105 (some a0) L none) (ho : okSel L) : CallQ E MX6_meet [.ref s, .ref ea, .int (nI T.length)] w sg d 0 0 (fun v w' sg' => v = none ∧ w' = zsi w 702 s (nI (selSet T L)) ∧ sg = sg') := by
  refine CallQ.of rfl (by simp [Value.category]) (Nat.le_of_ble_eq_true rfl) ?_
  refine r_iconst dX6_meet_0 kc_0 rfl ?_
  refine r_istore_n (ls' := [_, _, _, _, _, _, _, _, _]) dX6_meet_1 (Nat.le_of_ble_eq_true rfl) rfl rfl ?_
  refine r_aload_n dX6_meet_2 rfl (zRv_ref _) rfl ?_
  refine r_gets 6 0 700 lfX6_7 (by first | (simp only [zKS]; first | assumption) | assumption | exact zk_nself _ _ _ | (simp [zKS, zNS, *]; done)) rfl rfl (by first | (simp only [zGS, Nat.reduceEqDiff, OfNat.ofNat_ne_ofNat, false_and, and_false, true_and, and_true, and_self, if_true, if_false, ite_true, ite_false, reduceIte, reduceCtorEq]; first | done | assumption) | assumption | exact z2_eq | (simp [zGS]; first | done | assumption)) dX6_meet_3 rfl ?_
  refine r_astore (ls' := [_, _, _, _, _, _, _, _, _]) dX6_meet_6 (Nat.le_of_ble_eq_true rfl) (zRv_ref _) rfl rfl ?_
  have h5 := rmeet_out E sg d hd w T A hT ea hA s a0 lo hi hs hs0 L hL L (some a0) 0 true none none none none hL ho (by decide) (fun _ => rfl) (fun q => by cases q)
  rw [if_pos rfl] at h5
  have e9 : selM T 0 L = selSet T L := by cases L <;> rfl
  rw [e9] at h5
  exact h5
