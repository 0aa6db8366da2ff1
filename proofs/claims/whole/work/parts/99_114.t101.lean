/-! ===== the model: readPart ===== -/
theorem pLet_some {lt : Nat} {r : List Nat} {z : Nat} {r2 : List Nat} (h : pLet lt r = some (z, r2)) : r = z :: r2 ∧ 97 ≤ z ∧ z ≤ lt := by
  cases r with
  | nil => cases h
  | cons x r =>
    by_cases hx : 97 ≤ x ∧ x ≤ lt
    · have e : pLet lt (x :: r) = some (x, r) := if_pos hx
      rw [e] at h
      have h' := Option.some.inj h
      have e1 : x = z := congrArg Prod.fst h'
      have e2 : r = r2 := congrArg Prod.snd h'
      subst e1
      subst e2
      exact ⟨rfl, hx⟩
    · have e : pLet lt (x :: r) = none := if_neg hx
      rw [e] at h
      cases h
theorem pLet_none {lt : Nat} {l : Nat} {r : List Nat} (h : pLet lt (l :: r) = none) : ¬ (97 ≤ l ∧ l ≤ lt) := fun q => by
  have e : pLet lt (l :: r) = some (l, r) := if_pos q
  rw [e] at h
  cases h
theorem simN {r1 : List Nat} (h : pLet 122 r1 = none) : pSimple 58 r1 = none := by
  cases r1 with
  | nil => rfl
  | cons l r =>
    have := pLet_none h
    rw [pSim58, if_neg (by omega), if_neg (by omega), if_neg (by omega)]
theorem rp_58n (E : ZE) (mo : Nat) (hm : E.2.2.2.2 = some mo) (w : ZW) (sg sg2 : ZM) (d f n g : Nat) (hd : 4 ≤ d) (r1 : List Nat) (h21 : mi sg 21 = nI n) (hg : g < 128) (v2 : mvC sg sg2) (hl : pLet 122 r1 = none) (h : cuO sg2 f 790 none) : RW E MX10_readPart 70 [some (.ref mo), some (.int (nI g)), some (.int (nI 58)), none] [.int (nI 97)] w sg2 d 0 0 (PN E (rpQ sg f n g 58 r1 w)) := by
  have hmust := o_must E mo hm w sg2 (d - 1) f 790 (by decide) false none h
  refine r_istore_n (ls' := [_, _, _, _]) dX10_readPart_70 (Nat.le_of_ble_eq_true rfl) rfl rfl ?_
  refine r_iload_n dX10_readPart_71 rfl rfl ?_
  refine r_bipush dX10_readPart_72 kb_110 rfl ?_
  refine r_icmp_neN (by omega) (by omega) (r := 85) dX10_readPart_74 (by decide) rfl (fun c_74 => ?_) (fun c_74 => ?_)
  · refine r_iload_n dX10_readPart_85 rfl rfl ?_
    refine r_bipush dX10_readPart_86 kb_102 rfl ?_
    refine r_icmp_eqN (by omega) (by omega) (r := 97) dX10_readPart_88 (by decide) rfl (fun c_88 => ?_) (fun c_88 => ?_)
    · exact absurd c_88 (by decide)
    · refine r_iload_n dX10_readPart_91 rfl rfl ?_
      refine r_bipush dX10_readPart_92 kb_108 rfl ?_
      refine r_icmp_neN (by omega) (by omega) (r := 118) dX10_readPart_94 (by decide) rfl (fun c_94 => ?_) (fun c_94 => ?_)
      · refine r_aload_n dX10_readPart_118 rfl (zRv_ref _) rfl ?_
        refine r_iload_n dX10_readPart_119 rfl rfl ?_
        refine r_bipush dX10_readPart_120 kb_120 rfl ?_
        refine r_icmp_neN (by omega) (by omega) (r := 133) dX10_readPart_122 (by decide) rfl (fun c_122 => ?_) (fun c_122 => ?_)
        · refine r_iconst dX10_readPart_133 kc_0 rfl ?_
          refine r_callV MX10_must 1 [_] lvX10_180 (Or.inr (Or.inl ⟨hm, rfl⟩)) (hmust) rfl rfl (by first | exact Nat.le_of_ble_eq_true rfl | (simp [zcat_rf, Value.category]; done)) (by omega) (Nat.le_of_eq (Nat.zero_add _)) (Nat.le_of_eq (Nat.zero_add _)) dX10_readPart_134 rfl (fun v_ w_ sg_ hq_ => ?_)
          obtain ⟨rfl, rfl, v3, c3⟩ := hq_
          obtain ⟨sg3, hsg3⟩ : ∃ y, y = sg_ := ⟨_, rfl⟩
          subst hsg3
          have g9 : mi sg3 15 = zb false := c3.g
          refine r_aload_n dX10_readPart_137 rfl (zRv_ref _) rfl ?_
          refine m_getiv hm 15 lfX10_153 rfl (by first | (simp only [zGS, zMS, Nat.reduceEqDiff, OfNat.ofNat_ne_ofNat, false_and, and_false, true_and, and_true, and_self, if_true, if_false, ite_true, ite_false, reduceIte, reduceCtorEq]; first | done | assumption | rfl) | assumption | exact z2_eq | exact z1_eq | (simp [zGS, zMS]; first | done | assumption) | rfl) dX10_readPart_138 rfl ?_
          refine r_if_eqB (r := 154) dX10_readPart_141 (by decide) rfl (fun c_141 => ?_) (fun c_141 => ?_)
          · refine r_iconst dX10_readPart_154 kc_0 rfl ?_
            refine r_zret .boolean rfl rfl dX10_readPart_155 ?_
            refine ⟨rfl, [], false, none, Nat.zero_le 1, rfl, (v2.tr v3).gr h21, c3.mono (by decide), Or.inr ⟨rfl, fun q => ?_, ?_⟩⟩
            · cases r1 with
              | nil => exact absurd q.2.2 (fun z => by cases z)
              | cons l r =>
                have h1 := pLet_none hl
                have h2 : l = 120 := Option.some.inj q.2.2
                omega
            · unfold simOk
              rw [simN hl]
              exact ⟨rfl, fun p r2 q => (by cases q)⟩
          · cases c_141
        · exact absurd c_122 (by decide)
      · exact absurd c_94 (by decide)
  · exact absurd c_74 (by decide)
def rpOut (g c : Nat) (r1 : List Nat) (l : List PRow) (b : Bool) (o : Option (List Nat)) : Prop := (b = true ∧ c = 58 ∧ g = 0 ∧ r1.head? = some 120 ∧ l = [] ∧ o = some r1.tail) ∨ (b = false ∧ ¬ (c = 58 ∧ g = 0 ∧ r1.head? = some 120) ∧ simOk g c r1 l o)
theorem rp_137 (E : ZE) (mo : Nat) (hm : E.2.2.2.2 = some mo) (w : ZW) (sg sg3 : ZM) (d f n g z : Nat) (hz : 97 ≤ z ∧ z ≤ 122) (r1 : List Nat) (l : List PRow) (hl : l.length ≤ 1) (o : Option (List Nat)) (b : Bool) (hb : b = (o.isSome && decide (z = 120))) (p3 : grP sg sg3 n l) (c3 : cuO sg3 f 780 o) (hr : rpOut g 58 r1 l b o) : RW E MX10_readPart 137 [some (.ref mo), some (.int (nI g)), some (.int (nI 58)), some (.int (nI z))] [] w sg3 d 0 0 (PN E (rpQ sg f n g 58 r1 w)) := by
  have g9 : mi sg3 15 = zb o.isSome := c3.g
  have key : ∀ b', b' = b → rpQ sg f n g 58 r1 w (some (.int (zb b'))) w sg3 := fun b' h => by subst h; exact ⟨rfl, l, b', o, hl, rfl, p3, c3, hr⟩
  refine r_aload_n dX10_readPart_137 rfl (zRv_ref _) rfl ?_
  refine m_getiv hm 15 lfX10_153 rfl (by first | (simp only [zGS, zMS, Nat.reduceEqDiff, OfNat.ofNat_ne_ofNat, false_and, and_false, true_and, and_true, and_self, if_true, if_false, ite_true, ite_false, reduceIte, reduceCtorEq]; first | done | assumption | rfl) | assumption | exact z2_eq | exact z1_eq | (simp [zGS, zMS]; first | done | assumption) | rfl) dX10_readPart_138 rfl ?_
  refine r_if_eqB (r := 154) dX10_readPart_141 (by decide) rfl (fun c_141 => ?_) (fun c_141 => ?_)
  · refine r_iconst dX10_readPart_154 kc_0 rfl ?_
    refine r_zret .boolean rfl rfl dX10_readPart_155 ?_
    exact key false (by rw [hb, c_141]; rfl)
  · refine r_iload_n dX10_readPart_144 rfl rfl ?_
    refine r_bipush dX10_readPart_145 kb_120 rfl ?_
    refine r_icmp_neN (by omega) (by omega) (r := 154) dX10_readPart_147 (by decide) rfl (fun c_147 => ?_) (fun c_147 => ?_)
    · refine r_iconst dX10_readPart_154 kc_0 rfl ?_
      refine r_zret .boolean rfl rfl dX10_readPart_155 ?_
      exact key false (by rw [hb, decide_eq_false c_147, Bool.and_false])
    · refine r_iconst dX10_readPart_150 kc_1 rfl ?_
      refine r_goto (r := 155) dX10_readPart_151 (by decide) ?_
      refine r_zret .boolean rfl rfl dX10_readPart_155 ?_
      exact key true (by rw [hb, c_141, decide_eq_true c_147]; rfl)
theorem rp_58s (E : ZE) (mo : Nat) (hm : E.2.2.2.2 = some mo) (w : ZW) (sg sg2 : ZM) (d f n g : Nat) (hd : 6 ≤ d) (hn : n < 130) (z : Nat) (r2 : List Nat) (hz : 97 ≤ z ∧ z ≤ 122) (h21 : mi sg 21 = nI n) (hg : g < 128) (v2 : mvC sg sg2) (h : cuG sg2 f r2) : RW E MX10_readPart 70 [some (.ref mo), some (.int (nI g)), some (.int (nI 58)), none] [.int (nI z)] w sg2 d 0 0 (PN E (rpQ sg f n g 58 (z :: r2) w)) := by
  have j21 : mi sg2 21 = nI n := (v2.1 21 (by decide) (by decide)).trans h21
  have hm1 := o_must E mo hm w sg2 (d - 1) f 790 (by decide) true (some r2) (cuO.z h)
  have hm0 := o_must E mo hm w sg2 (d - 1) f 790 (by decide) false (some r2) (cuO.z h)
  have hne : z ≠ 120 → ¬ (58 = 58 ∧ g = 0 ∧ (z :: r2).head? = some 120) := fun q q2 => q (Option.some.inj q2.2.2)
  have hout : ∀ l o, z ≠ 120 ∨ g ≠ 0 → simOk g 58 (z :: r2) l o → rpOut g 58 (z :: r2) l false o := fun l o q h => Or.inr ⟨rfl, fun q2 => q.elim (fun a => a (Option.some.inj q2.2.2)) (fun a => a q2.2.1), h⟩
  have hno : z ≠ 102 → z ≠ 108 → z ≠ 110 → simOk g 58 (z :: r2) [] none := fun a b c => by
    unfold simOk
    rw [pSim58, if_neg a, if_neg b, if_neg c]
    exact ⟨rfl, fun p r2 q => (by cases q)⟩
  have hbad : ∀ (l : List PRow) (o : Option (List Nat)), z ≠ 120 → false = (o.isSome && decide (z = 120)) := fun l o q => by rw [decide_eq_false q, Bool.and_false]
  refine r_istore_n (ls' := [_, _, _, _]) dX10_readPart_70 (Nat.le_of_ble_eq_true rfl) rfl rfl ?_
  refine r_iload_n dX10_readPart_71 rfl rfl ?_
  refine r_bipush dX10_readPart_72 kb_110 rfl ?_
  refine r_icmp_neN (by omega) (by omega) (r := 85) dX10_readPart_74 (by decide) rfl (fun c_74 => ?_) (fun c_74 => ?_)
  · refine r_iload_n dX10_readPart_85 rfl rfl ?_
    refine r_bipush dX10_readPart_86 kb_102 rfl ?_
    refine r_icmp_eqN (by omega) (by omega) (r := 97) dX10_readPart_88 (by decide) rfl (fun c_88 => ?_) (fun c_88 => ?_)
    · refine r_aload_n dX10_readPart_97 rfl (zRv_ref _) rfl ?_
      refine r_iload_n dX10_readPart_98 rfl rfl ?_
      refine r_iload_n dX10_readPart_99 rfl rfl ?_
      refine r_bipush dX10_readPart_100 kb_102 rfl ?_
      refine r_icmp_neN (by omega) (by omega) (r := 109) dX10_readPart_102 (by decide) rfl (fun c_102 => ?_) (fun c_102 => ?_)
      · exact absurd c_88 c_102
      · refine r_iconst dX10_readPart_105 kc_4 rfl ?_
        refine r_goto (r := 110) dX10_readPart_106 (by decide) ?_
        refine r_iconst dX10_readPart_110 kc_0 rfl ?_
        refine r_iconst dX10_readPart_111 kc_0 rfl ?_
        refine r_callV MX10_addPart 4 [_, _, _, _] lvX10_196 (Or.inr (Or.inl ⟨hm, rfl⟩)) (o_addPart E mo hm w sg2 (d - 1) f 780 n (nI g) (nI 4) 0 0 hn j21 _ (cuO.z h)) rfl rfl (by first | exact Nat.le_of_ble_eq_true rfl | (simp [zcat_rf, Value.category]; done)) (by omega) (Nat.le_of_eq (Nat.zero_add _)) (Nat.le_of_eq (Nat.zero_add _)) dX10_readPart_112 rfl (fun v_ w_ sg_ hq_ => ?_)
        obtain ⟨rfl, rfl, p3, c3⟩ := hq_
        obtain ⟨sg3, hsg3⟩ : ∃ y, y = sg_ := ⟨_, rfl⟩
        subst hsg3
        refine r_goto (r := 137) dX10_readPart_115 (by decide) ?_
        refine rp_137 E mo hm w sg sg3 d f n g z hz (z :: r2) [(g, 4, 0, 0)] (Nat.le_refl 1) (some r2) false (hbad [] (some r2) (by omega)) (p3.mv v2).gr c3 (hout _ _ (Or.inl (by omega)) ?_)
        subst c_88
        unfold simOk
        rw [pSim58, if_pos rfl]
        refine ⟨rfl, fun p r9 q => ⟨_, rfl, ?_⟩⟩
        cases q
        exact Or.inr (Or.inr (Or.inr ⟨rfl, Or.inr ⟨rfl, rfl⟩⟩))
    · refine r_iload_n dX10_readPart_91 rfl rfl ?_
      refine r_bipush dX10_readPart_92 kb_108 rfl ?_
      refine r_icmp_neN (by omega) (by omega) (r := 118) dX10_readPart_94 (by decide) rfl (fun c_94 => ?_) (fun c_94 => ?_)
      · refine r_aload_n dX10_readPart_118 rfl (zRv_ref _) rfl ?_
        refine r_iload_n dX10_readPart_119 rfl rfl ?_
        refine r_bipush dX10_readPart_120 kb_120 rfl ?_
        refine r_icmp_neN (by omega) (by omega) (r := 133) dX10_readPart_122 (by decide) rfl (fun c_122 => ?_) (fun c_122 => ?_)
        · refine r_iconst dX10_readPart_133 kc_0 rfl ?_
          refine r_callV MX10_must 1 [_] lvX10_180 (Or.inr (Or.inl ⟨hm, rfl⟩)) (hm0) rfl rfl (by first | exact Nat.le_of_ble_eq_true rfl | (simp [zcat_rf, Value.category]; done)) (by omega) (Nat.le_of_eq (Nat.zero_add _)) (Nat.le_of_eq (Nat.zero_add _)) dX10_readPart_134 rfl (fun v_ w_ sg_ hq_ => ?_)
          obtain ⟨rfl, rfl, v3, c3⟩ := hq_
          obtain ⟨sg3, hsg3⟩ : ∃ y, y = sg_ := ⟨_, rfl⟩
          subst hsg3
          exact rp_137 E mo hm w sg sg3 d f n g z hz (z :: r2) [] (Nat.zero_le 1) none false rfl ((v2.tr v3).gr h21) (c3.mono (by decide)) (hout _ _ (Or.inl c_122) (hno c_88 c_94 c_74))
        · refine r_iload_n dX10_readPart_125 rfl rfl ?_
          refine r_if_neN (by omega) (r := 133) dX10_readPart_126 (by decide) rfl (fun c_126 => ?_) (fun c_126 => ?_)
          · refine r_iconst dX10_readPart_133 kc_0 rfl ?_
            refine r_callV MX10_must 1 [_] lvX10_180 (Or.inr (Or.inl ⟨hm, rfl⟩)) (hm0) rfl rfl (by first | exact Nat.le_of_ble_eq_true rfl | (simp [zcat_rf, Value.category]; done)) (by omega) (Nat.le_of_eq (Nat.zero_add _)) (Nat.le_of_eq (Nat.zero_add _)) dX10_readPart_134 rfl (fun v_ w_ sg_ hq_ => ?_)
            obtain ⟨rfl, rfl, v3, c3⟩ := hq_
            obtain ⟨sg3, hsg3⟩ : ∃ y, y = sg_ := ⟨_, rfl⟩
            subst hsg3
            exact rp_137 E mo hm w sg sg3 d f n g z hz (z :: r2) [] (Nat.zero_le 1) none false rfl ((v2.tr v3).gr h21) (c3.mono (by decide)) (hout _ _ (Or.inr c_126) (hno c_88 c_94 c_74))
          · refine r_iconst dX10_readPart_129 kc_1 rfl ?_
            refine r_goto (r := 134) dX10_readPart_130 (by decide) ?_
            refine r_callV MX10_must 1 [_] lvX10_180 (Or.inr (Or.inl ⟨hm, rfl⟩)) (hm1) rfl rfl (by first | exact Nat.le_of_ble_eq_true rfl | (simp [zcat_rf, Value.category]; done)) (by omega) (Nat.le_of_eq (Nat.zero_add _)) (Nat.le_of_eq (Nat.zero_add _)) dX10_readPart_134 rfl (fun v_ w_ sg_ hq_ => ?_)
            obtain ⟨rfl, rfl, v3, c3⟩ := hq_
            obtain ⟨sg3, hsg3⟩ : ∃ y, y = sg_ := ⟨_, rfl⟩
            subst hsg3
            subst c_126 c_122
            exact rp_137 E mo hm w sg sg3 d f n 0 120 hz (120 :: r2) [] (Nat.zero_le 1) (some r2) true rfl ((v2.tr v3).gr h21) (c3.mono (by decide)) (Or.inl ⟨rfl, rfl, rfl, rfl, rfl, rfl⟩)
      · refine r_aload_n dX10_readPart_97 rfl (zRv_ref _) rfl ?_
        refine r_iload_n dX10_readPart_98 rfl rfl ?_
        refine r_iload_n dX10_readPart_99 rfl rfl ?_
        refine r_bipush dX10_readPart_100 kb_102 rfl ?_
        refine r_icmp_neN (by omega) (by omega) (r := 109) dX10_readPart_102 (by decide) rfl (fun c_102 => ?_) (fun c_102 => ?_)
        · refine r_iconst dX10_readPart_109 kc_5 rfl ?_
          refine r_iconst dX10_readPart_110 kc_0 rfl ?_
          refine r_iconst dX10_readPart_111 kc_0 rfl ?_
          refine r_callV MX10_addPart 4 [_, _, _, _] lvX10_196 (Or.inr (Or.inl ⟨hm, rfl⟩)) (o_addPart E mo hm w sg2 (d - 1) f 780 n (nI g) (nI 5) 0 0 hn j21 _ (cuO.z h)) rfl rfl (by first | exact Nat.le_of_ble_eq_true rfl | (simp [zcat_rf, Value.category]; done)) (by omega) (Nat.le_of_eq (Nat.zero_add _)) (Nat.le_of_eq (Nat.zero_add _)) dX10_readPart_112 rfl (fun v_ w_ sg_ hq_ => ?_)
          obtain ⟨rfl, rfl, p3, c3⟩ := hq_
          obtain ⟨sg3, hsg3⟩ : ∃ y, y = sg_ := ⟨_, rfl⟩
          subst hsg3
          refine r_goto (r := 137) dX10_readPart_115 (by decide) ?_
          refine rp_137 E mo hm w sg sg3 d f n g z hz (z :: r2) [(g, 5, 0, 0)] (Nat.le_refl 1) (some r2) false (hbad [] (some r2) (by omega)) (p3.mv v2).gr c3 (hout _ _ (Or.inl (by omega)) ?_)
          subst c_94
          unfold simOk
          rw [pSim58, if_neg (by decide), if_pos rfl]
          refine ⟨rfl, fun p r9 q => ⟨_, rfl, ?_⟩⟩
          cases q
          exact Or.inr (Or.inr (Or.inl ⟨rfl, rfl⟩))
        · exact absurd c_102 (by omega)
  · refine r_aload_n dX10_readPart_77 rfl (zRv_ref _) rfl ?_
    refine r_iload_n dX10_readPart_78 rfl rfl ?_
    refine r_callV MX10_readCount 1 [_] lvX10_204 (Or.inr (Or.inl ⟨hm, rfl⟩)) (p_readCount E mo hm w sg2 (d - 1) f n g (by omega) hn r2 j21 h) rfl rfl (by first | exact Nat.le_of_ble_eq_true rfl | (simp [zcat_rf, Value.category]; done)) (by omega) (Nat.le_of_eq (Nat.zero_add _)) (Nat.le_of_eq (Nat.zero_add _)) dX10_readPart_79 rfl (fun v_ w_ sg_ hq_ => ?_)
    obtain ⟨rfl, rfl, X, Y, o, p3, k3, c3⟩ := hq_
    obtain ⟨sg3, hsg3⟩ : ∃ y, y = sg_ := ⟨_, rfl⟩
    subst hsg3
    refine r_goto (r := 137) dX10_readPart_82 (by decide) ?_
    refine rp_137 E mo hm w sg sg3 d f n g z hz (z :: r2) [(g, 6, X, Y)] (Nat.le_refl 1) o false (hbad [] o (by omega)) (p3.mv v2).gr (c3.mono (by decide)) (hout _ _ (Or.inl (by omega)) ?_)
    subst c_74
    unfold simOk
    rw [pSim58, if_neg (by decide), if_neg (by decide), if_pos rfl]
    obtain ⟨k1, k2⟩ := k3
    refine ⟨k2, fun p r9 q => ⟨_, rfl, ?_⟩⟩
    obtain ⟨e1, e2, e3⟩ := k1 p r9 q
    exact Or.inr (Or.inr (Or.inr ⟨e1, Or.inl (by rw [e2, e3])⟩))
theorem p_readPart (E : ZE) (mo : Nat) (hm : E.2.2.2.2 = some mo) (w : ZW) (sg : ZM) (d f n g c : Nat) (hd : 7 ≤ d) (hn : n < 130) (hg : g < 128) (r1 : List Nat) (h21 : mi sg 21 = nI n) (hps : isPS c = true) (h : cuG sg f (c :: r1)) : CallQ E MX10_readPart [.ref mo, .int (nI g)] w sg d 0 0 (rpQ sg f n g c r1 w) := by
  have hlook := p_look E mo hm w sg (d - 1) f (c :: r1) h
  unfold isPS at hps
  rw [decide_eq_true_eq] at hps
  obtain ⟨a, h1, h2, h3, h4, h5, h6, h7⟩ := h
  have i14 : mi sg 14 = nI a := h1.2.1
  have v1 : mvC sg (msi sg 14 (nI (a + 1))) := mvC.m14
  have ha : a + 1 < 10000 := by omega
  have hc : cuG (msi sg 14 (nI (a + 1))) f r1 := cu_step h1 h2 h3 h4 h5 h6 h7 (h1.m14 ha) v1
  obtain ⟨sg1, hsg1⟩ : ∃ y, y = msi sg 14 (nI (a + 1)) := ⟨_, rfl⟩
  rw [← hsg1] at hc v1
  refine CallQ.of rfl (by simp [Value.category]) (Nat.le_of_ble_eq_true rfl) ?_
  refine r_aload_n dX10_readPart_0 rfl (zRv_ref _) rfl ?_
  refine r_callV MX10_look 0 [] lvX10_172 (Or.inr (Or.inl ⟨hm, rfl⟩)) (hlook) rfl rfl (by first | exact Nat.le_of_ble_eq_true rfl | (simp [zcat_rf, Value.category]; done)) (by omega) (Nat.le_of_eq (Nat.zero_add _)) (Nat.le_of_eq (Nat.zero_add _)) dX10_readPart_1 rfl (fun v_ w_ sg_ hq_ => ?_)
  obtain ⟨rfl, rfl, rfl⟩ := hq_
  refine r_istore_n (ls' := [_, _, _, _]) dX10_readPart_4 (Nat.le_of_ble_eq_true rfl) rfl rfl ?_
  refine r_aload_n dX10_readPart_5 rfl (zRv_ref _) rfl ?_
  refine r_dup dX10_readPart_6 (by first | rfl | exact zcat_rf _) rfl ?_
  refine m_getiv hm 14 lfX10_147 rfl (by first | (simp only [zGS, zMS, Nat.reduceEqDiff, OfNat.ofNat_ne_ofNat, false_and, and_false, true_and, and_true, and_self, if_true, if_false, ite_true, ite_false, reduceIte, reduceCtorEq]; first | done | assumption | rfl) | assumption | exact z2_eq | exact z1_eq | (simp [zGS, zMS]; first | done | assumption) | rfl) dX10_readPart_7 rfl ?_
  refine r_iconst dX10_readPart_10 kc_1 rfl ?_
  refine r_iaddN dX10_readPart_11 rfl ?_
  refine m_puti hm 14 lfX10_147 rfl rfl rfl dX10_readPart_12 rfl ?_
  rw [← hsg1, show hdN (c :: r1) = c from rfl]
  refine r_iload_n dX10_readPart_15 rfl rfl ?_
  refine r_bipush dX10_readPart_16 kb_35 rfl ?_
  refine r_icmp_neN (by omega) (by omega) (r := 37) dX10_readPart_18 (by decide) rfl (fun c_18 => ?_) (fun c_18 => ?_)
  · refine r_iload_n dX10_readPart_37 rfl rfl ?_
    refine r_bipush dX10_readPart_38 kb_46 rfl ?_
    refine r_icmp_neN (by omega) (by omega) (r := 64) dX10_readPart_40 (by decide) rfl (fun c_40 => ?_) (fun c_40 => ?_)
    · refine r_aload_n dX10_readPart_64 rfl (zRv_ref _) rfl ?_
      refine r_bipush dX10_readPart_65 kb_122 rfl ?_
      refine r_callV MX10_letter 1 [_] lvX10_200 (Or.inr (Or.inl ⟨hm, rfl⟩)) (o_letter E mo hm w sg1 (d - 1) f 122 790 (by decide) (by decide) (by omega) (some r1) (cuO.z hc)) rfl rfl (by first | exact Nat.le_of_ble_eq_true rfl | (simp [zcat_rf, Value.category]; done)) (by omega) (Nat.le_of_eq (Nat.zero_add _)) (Nat.le_of_eq (Nat.zero_add _)) dX10_readPart_67 rfl (fun v_ w_ sg_ hq_ => ?_)
      obtain ⟨⟨x, rfl, hx1, hx2, hx3, hx⟩, rfl, v2, c2⟩ := hq_
      obtain ⟨sg2, hsg2⟩ : ∃ y, y = sg_ := ⟨_, rfl⟩
      subst hsg2
      have hxr := hx r1 rfl
      have hc58 : c = 58 := by omega
      subst hc58
      cases hl : pLet 122 r1 with
      | none =>
        have e1 : bndO (some r1) (fun r => rstO (pLet 122 r)) = none := by show rstO (pLet 122 r1) = _; rw [hl]; rfl
        rw [e1] at c2
        unfold letV at hxr
        rw [hl] at hxr
        have hx97 : x = 97 := hxr
        subst hx97
        exact rp_58n E mo hm w sg sg2 d f n g (by omega) r1 h21 hg (v1.tr v2) hl c2
      | some q =>
        obtain ⟨z, r2⟩ := q
        obtain ⟨e0, e2⟩ := pLet_some hl
        have e1 : bndO (some r1) (fun r => rstO (pLet 122 r)) = some r2 := by show rstO (pLet 122 r1) = _; rw [hl]; rfl
        rw [e1] at c2
        unfold letV at hxr
        rw [hl] at hxr
        have hxz : x = z := hxr
        subst hxz
        subst e0
        exact rp_58s E mo hm w sg sg2 d f n g (by omega) hn x r2 e2 h21 hg (v1.tr v2) c2
    · subst c_40
      exact rp_46 E mo hm w sg sg1 d f n g (by omega) hn r1 h21 v1 hc _
  · subst c_18
    exact rp_35 E mo hm w sg sg1 d f n g (by omega) hn r1 h21 v1 hc _
