/-! ===== the model: find ===== -/
/-- what finding values may change -/
def aB (a b : ZM) : Prop := (∀ j, ¬ (12 ≤ j ∧ j ≤ 32) → j ≠ 44 → j ≠ 45 → j ≠ 48 → j ≠ 56 → mi b j = mi a j) ∧ (∀ j i, ¬ (10 ≤ j ∧ j ≤ 23) → ¬ (33 ≤ j ∧ j ≤ 40) → ma b j i = ma a j i)
theorem aB.rf {a : ZM} : aB a a := ⟨fun _ _ _ _ _ _ => rfl, fun _ _ _ _ => rfl⟩
theorem aB.tr {a b c : ZM} (h : aB a b) (g : aB b c) : aB a c := ⟨fun j p q r s t => (g.1 j p q r s t).trans (h.1 j p q r s t), fun j i p q => (g.2 j i p q).trans (h.2 j i p q)⟩
theorem wB.a {a b : ZM} (h : wB a b) : aB a b := ⟨fun j p _ r s t => h.1 j p r s t, h.2.1⟩
theorem aB.I {a b : ZM} {T : List PEl} {Rs : List PRule} {B : List Nat} (h : aB a b) (t : mdI a T Rs B) : mdI b T Rs B := ⟨t.1.fr (h.1 1 (by decide) (by decide) (by decide) (by decide) (by decide)) (fun j i _ _ => h.2 j i (by omega) (by omega)), t.2.fr (h.1 8 (by decide) (by decide) (by decide) (by decide) (by decide)) (fun j i _ _ => h.2 j i (by omega) (by omega)) (fun j i _ _ => h.2 j i (by omega) (by omega))⟩
theorem aB.S {a b : ZM} {T : List PEl} {Rs : List PRule} (h : aB a b) (hT : T.length ≤ 24) (t : svT a T Rs) : svT b T Rs := fun r R hR => (t r R hR).fr hT (h.2 27 r (by decide) (by decide)) (h.2 9 r (by decide) (by decide)) (fun j i _ _ _ _ => h.2 j i (by omega) (by omega)) (fun i _ _ => h.2 26 i (by decide) (by decide))
theorem fd_79 (E : ZE) (mo : Nat) (hm : E.2.2.2.2 = some mo) (w : ZW) (sg : ZM) (d e p what : Nat) (hd : 2 ≤ d) (T : List PEl) (hT : mTree sg T) (he : e < T.length) (hp : p < 6) (V : Nat → Nat → UInt32) (hV : vlE sg T V e p) (hw4 : what < 4) (is : Bool) (b : Value) (a0 : UInt32) (h32 : mg sg 32 0 = a0) : RW E MX10_find 79 [some (.ref mo), some (.int (nI e)), some (.int (nI p)), some b, some (.int (nI what)), some (.int (zb is)), none] [] w sg d 0 0 (PN E (fun v w' sg' => v = none ∧ w = w' ∧ sg' = msg sg 31 (6 * e + p) (if is = true then a0 else if what = 1 then inhV T V e p else if what = 2 then iniV p else stdV T V e p))) := by
  have h24 := hT.1.1
  have hha := q_handed E mo hm w sg (d - 1) e p (by omega) T hT he hp V hV
  have hin := q_initial E w sg (d - 1) p hp
  have tl : RW E MX10_find 99 [some (.ref mo), some (.int (nI e)), some (.int (nI p)), some b, some (.int (nI what)), some (.int (zb is)), some (.float (stdV T V e p))] [] w sg d 0 0 (PN E (fun v w' sg' => v = none ∧ w = w' ∧ sg' = msg sg 31 (6 * e + p) (if is = true then a0 else if what = 1 then inhV T V e p else if what = 2 then iniV p else stdV T V e p))) := by
    cases is with
    | true =>
      rw [if_pos rfl]
      refine r_aload_n dX10_find_99 rfl (zRv_ref _) rfl ?_
      refine m_geta hm 43 31 lfX10_103 rfl (by decide) dX10_find_100 rfl ?_
      refine r_bipush dX10_find_103 kb_6 rfl ?_
      refine r_iload_n dX10_find_105 rfl rfl ?_
      refine r_imulN dX10_find_106 rfl ?_
      refine r_iload_n dX10_find_107 rfl rfl ?_
      refine r_iaddN dX10_find_108 rfl ?_
      refine r_iload dX10_find_109 rfl rfl ?_
      refine r_if_eqB (r := 123) dX10_find_111 (by decide) rfl (fun c_111 => ?_) (fun c_111 => ?_)
      · cases c_111
      · refine r_aload_n dX10_find_114 rfl (zRv_ref _) rfl ?_
        refine m_geta hm 46 32 lfX10_106 rfl (by decide) dX10_find_115 rfl ?_
        refine r_iconst dX10_find_118 kc_0 rfl ?_
        refine m_faldv hm 32 _ (by decide) (by decide) rfl rfl (by show _ < 3000; omega) (by first | (simp only [zGS, zMS, Nat.reduceEqDiff, OfNat.ofNat_ne_ofNat, false_and, and_false, true_and, and_true, and_self, if_true, if_false, ite_true, ite_false, reduceIte, reduceCtorEq]; first | done | assumption | rfl) | assumption | exact z2_eq | exact z1_eq | (simp [zGS, zMS]; first | done | assumption) | rfl) dX10_find_119 rfl ?_
        refine r_goto (r := 153) dX10_find_120 (by decide) ?_
        refine m_fast hm 31 _ (by decide) (by decide) rfl rfl (by show _ < 144; omega) dX10_find_153 rfl ?_
        refine r_vret rfl dX10_find_154 ?_
        exact ⟨rfl, rfl, rfl⟩
    | false =>
      rw [if_neg (by decide)]
      refine r_aload_n dX10_find_99 rfl (zRv_ref _) rfl ?_
      refine m_geta hm 43 31 lfX10_103 rfl (by decide) dX10_find_100 rfl ?_
      refine r_bipush dX10_find_103 kb_6 rfl ?_
      refine r_iload_n dX10_find_105 rfl rfl ?_
      refine r_imulN dX10_find_106 rfl ?_
      refine r_iload_n dX10_find_107 rfl rfl ?_
      refine r_iaddN dX10_find_108 rfl ?_
      refine r_iload dX10_find_109 rfl rfl ?_
      refine r_if_eqB (r := 123) dX10_find_111 (by decide) rfl (fun c_111 => ?_) (fun c_111 => ?_)
      · refine r_iload dX10_find_123 rfl rfl ?_
        refine r_iconst dX10_find_125 kc_1 rfl ?_
        refine r_icmp_neN (by omega) (by omega) (r := 138) dX10_find_126 (by decide) rfl (fun c_126 => ?_) (fun c_126 => ?_)
        · refine r_iload dX10_find_138 rfl rfl ?_
          refine r_iconst dX10_find_140 kc_2 rfl ?_
          refine r_icmp_neN (by omega) (by omega) (r := 151) dX10_find_141 (by decide) rfl (fun c_141 => ?_) (fun c_141 => ?_)
          · refine r_fload dX10_find_151 rfl rfl ?_
            refine m_fast hm 31 _ (by decide) (by decide) rfl rfl (by show _ < 144; omega) dX10_find_153 rfl ?_
            refine r_vret rfl dX10_find_154 ?_
            rw [if_neg c_126, if_neg c_141]
            exact ⟨rfl, rfl, rfl⟩
          · refine r_iload_n dX10_find_144 rfl rfl ?_
            refine r_callS MX10_initial 1 [_] lsX10_356 (hin) rfl rfl (by first | exact Nat.le_of_ble_eq_true rfl | (simp [zcat_rf, Value.category]; done)) (by omega) (Nat.le_of_eq (Nat.zero_add _)) (Nat.le_of_eq (Nat.zero_add _)) dX10_find_145 rfl (fun v_ w_ sg_ hq_ => ?_)
            obtain ⟨rfl, rfl, rfl⟩ := hq_
            refine r_goto (r := 153) dX10_find_148 (by decide) ?_
            refine m_fast hm 31 _ (by decide) (by decide) rfl rfl (by show _ < 144; omega) dX10_find_153 rfl ?_
            refine r_vret rfl dX10_find_154 ?_
            rw [if_neg c_126, if_pos c_141]
            exact ⟨rfl, rfl, rfl⟩
        · refine r_aload_n dX10_find_129 rfl (zRv_ref _) rfl ?_
          refine r_iload_n dX10_find_130 rfl rfl ?_
          refine r_iload_n dX10_find_131 rfl rfl ?_
          refine r_callV MX10_handed 2 [_, _] lvX10_366 (Or.inr (Or.inl ⟨hm, rfl⟩)) (hha) rfl rfl (by first | exact Nat.le_of_ble_eq_true rfl | (simp [zcat_rf, Value.category]; done)) (by omega) (Nat.le_of_eq (Nat.zero_add _)) (Nat.le_of_eq (Nat.zero_add _)) dX10_find_132 rfl (fun v_ w_ sg_ hq_ => ?_)
          obtain ⟨rfl, rfl, rfl⟩ := hq_
          refine r_goto (r := 153) dX10_find_135 (by decide) ?_
          refine m_fast hm 31 _ (by decide) (by decide) rfl rfl (by show _ < 144; omega) dX10_find_153 rfl ?_
          refine r_vret rfl dX10_find_154 ?_
          rw [if_pos c_126]
          exact ⟨rfl, rfl, rfl⟩
      · cases c_111
  by_cases h2 : p < 2
  · have es : stdV T V e p = inhV T V e p := by unfold stdV; rw [if_pos (by omega)]
    rw [es] at tl
    refine r_iload_n dX10_find_79 rfl rfl ?_
    refine r_iconst dX10_find_80 kc_2 rfl ?_
    refine r_icmp_geN (by omega) (by omega) (r := 93) dX10_find_81 (by decide) rfl (fun c_81 => ?_) (fun c_81 => ?_)
    · exact absurd c_81 (by omega)
    · refine r_aload_n dX10_find_84 rfl (zRv_ref _) rfl ?_
      refine r_iload_n dX10_find_85 rfl rfl ?_
      refine r_iload_n dX10_find_86 rfl rfl ?_
      refine r_callV MX10_handed 2 [_, _] lvX10_366 (Or.inr (Or.inl ⟨hm, rfl⟩)) (hha) rfl rfl (by first | exact Nat.le_of_ble_eq_true rfl | (simp [zcat_rf, Value.category]; done)) (by omega) (Nat.le_of_eq (Nat.zero_add _)) (Nat.le_of_eq (Nat.zero_add _)) dX10_find_87 rfl (fun v_ w_ sg_ hq_ => ?_)
      obtain ⟨rfl, rfl, rfl⟩ := hq_
      refine r_goto (r := 97) dX10_find_90 (by decide) ?_
      refine r_fstore (ls' := [_, _, _, _, _, _, _]) dX10_find_97 (Nat.le_of_ble_eq_true rfl) rfl rfl ?_
      rw [es]
      exact tl
  · have es : stdV T V e p = iniV p := by unfold stdV; rw [if_neg (by omega)]
    rw [es] at tl
    refine r_iload_n dX10_find_79 rfl rfl ?_
    refine r_iconst dX10_find_80 kc_2 rfl ?_
    refine r_icmp_geN (by omega) (by omega) (r := 93) dX10_find_81 (by decide) rfl (fun c_81 => ?_) (fun c_81 => ?_)
    · refine r_iload_n dX10_find_93 rfl rfl ?_
      refine r_callS MX10_initial 1 [_] lsX10_356 (hin) rfl rfl (by first | exact Nat.le_of_ble_eq_true rfl | (simp [zcat_rf, Value.category]; done)) (by omega) (Nat.le_of_eq (Nat.zero_add _)) (Nat.le_of_eq (Nat.zero_add _)) dX10_find_94 rfl (fun v_ w_ sg_ hq_ => ?_)
      obtain ⟨rfl, rfl, rfl⟩ := hq_
      refine r_fstore (ls' := [_, _, _, _, _, _, _]) dX10_find_97 (Nat.le_of_ble_eq_true rfl) rfl rfl ?_
      rw [es]
      exact tl
    · exact absurd c_81 (by omega)
def fdQ (sg : ZM) (T : List PEl) (Rs : List PRule) (V : Nat → Nat → UInt32) (e p : Nat) (w : ZW) : ZQ := fun v w' sg' => v = none ∧ w = w' ∧ aB sg sg' ∧ (∀ i, i ≠ 6 * e + p → mg sg' 31 i = mg sg 31 i) ∧ mg sg' 31 (6 * e + p) = (calV T (ldD T Rs) V e p).2 ∧ mi sg' 44 = nI (calV T (ldD T Rs) V e p).1
theorem q_find (E : ZE) (mo : Nat) (hm : E.2.2.2.2 = some mo) (w : ZW) (d e p : Nat) (hd : 19 ≤ d) (T : List PEl) (Rs : List PRule) (B : List Nat) (V : Nat → Nat → UInt32) (hVf : ∀ a b, fFin (V a b)) (sg : ZM) (hI : mdI sg T Rs B) (hS : svT sg T Rs) (hV : vlE sg T V e p) (he : e < T.length) (hp : p < 6) : CallQ E MX10_find [.ref mo, .int (nI e), .int (nI p)] w sg d 0 0 (fdQ sg T Rs V e p w) := by
  have h24 := hI.1.1.1
  have hl : Rs.length ≤ 16 := hI.2.1
  have h8 : mi sg 8 = nI Rs.length := hI.2.2.1
  have hwn := q_winnerOf E mo hm w sg (d - 1) e p (by omega) T Rs (by omega) he h24 hl h8 hS
  -- the tail, whatever the state
  have tail : ∀ (s : ZM) (what how : Nat) (is : Bool) (b : Value), wB sg s → what < 4 → (if is = true then mg s 32 0 else if what = 1 then inhV T V e p else if what = 2 then iniV p else stdV T V e p) = (calV T (ldD T Rs) V e p).2 → how = (calV T (ldD T Rs) V e p).1 → RW E MX10_find 79 [some (.ref mo), some (.int (nI e)), some (.int (nI p)), some b, some (.int (nI what)), some (.int (zb is)), none] [] w (msi s 44 (nI how)) d 0 0 (PN E (fdQ sg T Rs V e p w)) := fun s what how is b hb hw4 hv hh => by
    have hT : mTree (msi s 44 (nI how)) T := (hb.I hI).1.fr (by rw [mi_msi, if_neg (by decide)]) (fun _ _ _ _ => rfl)
    have hV2 : vlE (msi s 44 (nI how)) T V e p := by have h9 : vlE s T V e p := hV.b hb; exact h9
    refine RW.qmono (fd_79 E mo hm w (msi s 44 (nI how)) d e p what (by omega) T hT he hp V hV2 hw4 is b (mg s 32 0) rfl) ?_
    rintro v w' sg' ⟨q1, q2, q3⟩
    rw [hv] at q3
    refine ⟨q1, q2, ⟨fun j a b c d e9 => ?_, fun j i a b => ?_⟩, fun i hi => ?_, ?_, ?_⟩
    · rw [q3]
      show mi (msi s 44 (nI how)) j = _
      rw [mi_msi, if_neg b]
      exact hb.1 j a c d e9
    · rw [q3]
      exact hb.2.1 j i a b
    · rw [q3, mg_msg, if_neg (fun z => hi z.2)]
      exact hb.2.2 31 i (by decide) (by decide) (by decide)
    · rw [q3, mg_msg, if_pos ⟨rfl, rfl⟩]
    · rw [q3]
      show mi (msi s 44 (nI how)) 44 = _
      rw [mi_msi, if_pos rfl, hh]
  refine CallQ.of rfl (by simp [Value.category]) (Nat.le_of_ble_eq_true rfl) ?_
  refine r_aload_n dX10_find_0 rfl (zRv_ref _) rfl ?_
  refine r_iload_n dX10_find_1 rfl rfl ?_
  refine r_iload_n dX10_find_2 rfl rfl ?_
  refine r_callV MX10_winnerOf 2 [_, _] lvX10_316 (Or.inr (Or.inl ⟨hm, rfl⟩)) (hwn) rfl rfl (by first | exact Nat.le_of_ble_eq_true rfl | (simp [zcat_rf, Value.category]; done)) (by omega) (Nat.le_of_eq (Nat.zero_add _)) (Nat.le_of_eq (Nat.zero_add _)) dX10_find_3 rfl (fun v_ w_ sg_ hq_ => ?_)
  obtain ⟨⟨b, rfl, hb⟩, rfl, rfl⟩ := hq_
  refine r_istore_n (ls' := [_, _, _, _, _, _, _]) dX10_find_6 (Nat.le_of_ble_eq_true rfl) rfl rfl ?_
  cases hL : ldD T Rs e p with
  | none =>
    rw [hL] at hb
    have hb1 : b = -1 := hb
    subst hb1
    have hc : calV T (ldD T Rs) V e p = (0, stdV T V e p) := by unfold calV; rw [hL]
    refine r_iload_n dX10_find_7 rfl rfl ?_
    refine r_iconst dX10_find_8 kc_m1 rfl ?_
    refine r_icmp_ne (r := 16) dX10_find_9 (by decide) rfl (fun c_9 => ?_) (fun c_9 => ?_)
    · exact absurd rfl c_9
    · skip -- go
      refine r_iconst dX10_find_12 kc_3 rfl ?_
      refine r_goto (r := 22) dX10_find_13 (by decide) ?_
      refine r_istore (ls' := [_, _, _, _, _, _, _]) dX10_find_22 (Nat.le_of_ble_eq_true rfl) rfl rfl ?_
      refine r_iload dX10_find_24 rfl rfl ?_
      refine r_if_neN (by omega) (r := 43) dX10_find_26 (by decide) rfl (fun c_26 => ?_) (fun c_26 => ?_)
      · refine r_iconst dX10_find_43 kc_0 rfl ?_
        refine r_istore (ls' := [_, _, _, _, _, _, _]) dX10_find_44 (Nat.le_of_ble_eq_true rfl) rfl rfl ?_
        refine r_aload_n dX10_find_46 rfl (zRv_ref _) rfl ?_
        refine r_iload dX10_find_47 rfl rfl ?_
        refine r_iconst dX10_find_49 kc_3 rfl ?_
        refine r_icmp_neN (by omega) (by omega) (r := 57) dX10_find_50 (by decide) rfl (fun c_50 => ?_) (fun c_50 => ?_)
        · exact absurd rfl c_50
        · skip -- go
          refine r_iconst dX10_find_53 kc_0 rfl ?_
          refine r_goto (r := 76) dX10_find_54 (by decide) ?_
          refine m_puti hm 44 lfX10_363 rfl rfl rfl dX10_find_76 rfl ?_
          exact tail sg 3 0 false _ wB.rf (by decide) (by rw [hc]; rfl) (by rw [hc])
      · exact absurd c_26 (by decide)
  | some x =>
    obtain ⟨k0, D, wt⟩ := x
    rw [hL] at hb
    obtain ⟨i, R, g1, g2, g3, g4, rfl, g6⟩ := hb
    obtain ⟨-, -, ⟨og, -, -, s5⟩, -⟩ := hS k0 R g1
    obtain ⟨d1, d2, d3, d4, -⟩ := s5 i D g2
    have hc : calV T (ldD T Rs) V e p = (if D.2.1 = 2 then (match evR T (ldD T Rs) (wantP p) (emU T V e p) (whU T V e p) D e with
      | none => (3, stdV T V e p)
      | some u => if u.1 = wantP p then (2, u.2) else (3, stdV T V e p)) else (1, if D.2.1 = 0 then inhV T V e p else iniV p)) := by unfold calV; rw [hL]; rfl
    rcases (by omega : D.2.1 = 0 ∨ D.2.1 = 1 ∨ D.2.1 = 2) with hk | hk | hk
    · rw [hk] at d2
      have d2' : ma sg 29 (4 * k0 + i) = nI 1 := d2
      rw [hk, if_neg (by decide), if_pos rfl] at hc
      refine r_iload_n dX10_find_7 rfl rfl ?_
      refine r_iconst dX10_find_8 kc_m1 rfl ?_
      refine r_icmp_ne (r := 16) dX10_find_9 (by decide) rfl (fun c_9 => ?_) (fun c_9 => ?_)
      · refine r_aload_n dX10_find_16 rfl (zRv_ref _) rfl ?_
        refine m_geta hm 41 29 lfX10_97 rfl (by decide) dX10_find_17 rfl ?_
        refine r_iload_n dX10_find_20 rfl rfl ?_
        refine m_ialdv hm 29 _ (by decide) (by decide) rfl rfl (by show _ < 64; omega) (by first | (simp only [zGS, zMS, Nat.reduceEqDiff, OfNat.ofNat_ne_ofNat, false_and, and_false, true_and, and_true, and_self, if_true, if_false, ite_true, ite_false, reduceIte, reduceCtorEq]; first | done | assumption | rfl) | assumption | exact z2_eq | exact z1_eq | (simp [zGS, zMS]; first | done | assumption) | rfl) dX10_find_21 rfl ?_
        refine r_istore (ls' := [_, _, _, _, _, _, _]) dX10_find_22 (Nat.le_of_ble_eq_true rfl) rfl rfl ?_
        refine r_iload dX10_find_24 rfl rfl ?_
        refine r_if_neN (by omega) (r := 43) dX10_find_26 (by decide) rfl (fun c_26 => ?_) (fun c_26 => ?_)
        · refine r_iconst dX10_find_43 kc_0 rfl ?_
          refine r_istore (ls' := [_, _, _, _, _, _, _]) dX10_find_44 (Nat.le_of_ble_eq_true rfl) rfl rfl ?_
          refine r_aload_n dX10_find_46 rfl (zRv_ref _) rfl ?_
          refine r_iload dX10_find_47 rfl rfl ?_
          refine r_iconst dX10_find_49 kc_3 rfl ?_
          refine r_icmp_neN (by omega) (by omega) (r := 57) dX10_find_50 (by decide) rfl (fun c_50 => ?_) (fun c_50 => ?_)
          · refine r_iload dX10_find_57 rfl rfl ?_
            refine r_if_leN (by omega) (r := 66) dX10_find_59 (by decide) rfl (fun c_59 => ?_) (fun c_59 => ?_)
            · exact absurd c_59 (by decide)
            · skip -- go
              refine r_iconst dX10_find_62 kc_1 rfl ?_
              refine r_goto (r := 76) dX10_find_63 (by decide) ?_
              refine m_puti hm 44 lfX10_363 rfl rfl rfl dX10_find_76 rfl ?_
              exact tail sg 1 1 false _ wB.rf (by decide) (by rw [hc]; rfl) (by rw [hc])
          · exact absurd c_50 (by decide)
        · exact absurd c_26 (by decide)
      · exact absurd c_9 (nI_neg (by omega))
    · rw [hk] at d2
      have d2' : ma sg 29 (4 * k0 + i) = nI 2 := d2
      rw [hk, if_neg (by decide), if_neg (by decide)] at hc
      refine r_iload_n dX10_find_7 rfl rfl ?_
      refine r_iconst dX10_find_8 kc_m1 rfl ?_
      refine r_icmp_ne (r := 16) dX10_find_9 (by decide) rfl (fun c_9 => ?_) (fun c_9 => ?_)
      · refine r_aload_n dX10_find_16 rfl (zRv_ref _) rfl ?_
        refine m_geta hm 41 29 lfX10_97 rfl (by decide) dX10_find_17 rfl ?_
        refine r_iload_n dX10_find_20 rfl rfl ?_
        refine m_ialdv hm 29 _ (by decide) (by decide) rfl rfl (by show _ < 64; omega) (by first | (simp only [zGS, zMS, Nat.reduceEqDiff, OfNat.ofNat_ne_ofNat, false_and, and_false, true_and, and_true, and_self, if_true, if_false, ite_true, ite_false, reduceIte, reduceCtorEq]; first | done | assumption | rfl) | assumption | exact z2_eq | exact z1_eq | (simp [zGS, zMS]; first | done | assumption) | rfl) dX10_find_21 rfl ?_
        refine r_istore (ls' := [_, _, _, _, _, _, _]) dX10_find_22 (Nat.le_of_ble_eq_true rfl) rfl rfl ?_
        refine r_iload dX10_find_24 rfl rfl ?_
        refine r_if_neN (by omega) (r := 43) dX10_find_26 (by decide) rfl (fun c_26 => ?_) (fun c_26 => ?_)
        · refine r_iconst dX10_find_43 kc_0 rfl ?_
          refine r_istore (ls' := [_, _, _, _, _, _, _]) dX10_find_44 (Nat.le_of_ble_eq_true rfl) rfl rfl ?_
          refine r_aload_n dX10_find_46 rfl (zRv_ref _) rfl ?_
          refine r_iload dX10_find_47 rfl rfl ?_
          refine r_iconst dX10_find_49 kc_3 rfl ?_
          refine r_icmp_neN (by omega) (by omega) (r := 57) dX10_find_50 (by decide) rfl (fun c_50 => ?_) (fun c_50 => ?_)
          · refine r_iload dX10_find_57 rfl rfl ?_
            refine r_if_leN (by omega) (r := 66) dX10_find_59 (by decide) rfl (fun c_59 => ?_) (fun c_59 => ?_)
            · exact absurd c_59 (by decide)
            · skip -- go
              refine r_iconst dX10_find_62 kc_1 rfl ?_
              refine r_goto (r := 76) dX10_find_63 (by decide) ?_
              refine m_puti hm 44 lfX10_363 rfl rfl rfl dX10_find_76 rfl ?_
              exact tail sg 2 1 false _ wB.rf (by decide) (by rw [hc]; rfl) (by rw [hc])
          · exact absurd c_50 (by decide)
        · exact absurd c_26 (by decide)
      · exact absurd c_9 (nI_neg (by omega))
    · rw [hk] at d2
      have d2' : ma sg 29 (4 * k0 + i) = nI 0 := d2
      rw [hk, if_pos rfl] at hc
      have hwk := q_work E mo hm w (d - 1) e p k0 i (by omega) T Rs B V hVf sg hI hS hV he hp R D g1 g2 g3 hk
      refine r_iload_n dX10_find_7 rfl rfl ?_
      refine r_iconst dX10_find_8 kc_m1 rfl ?_
      refine r_icmp_ne (r := 16) dX10_find_9 (by decide) rfl (fun c_9 => ?_) (fun c_9 => ?_)
      · refine r_aload_n dX10_find_16 rfl (zRv_ref _) rfl ?_
        refine m_geta hm 41 29 lfX10_97 rfl (by decide) dX10_find_17 rfl ?_
        refine r_iload_n dX10_find_20 rfl rfl ?_
        refine m_ialdv hm 29 _ (by decide) (by decide) rfl rfl (by show _ < 64; omega) (by first | (simp only [zGS, zMS, Nat.reduceEqDiff, OfNat.ofNat_ne_ofNat, false_and, and_false, true_and, and_true, and_self, if_true, if_false, ite_true, ite_false, reduceIte, reduceCtorEq]; first | done | assumption | rfl) | assumption | exact z2_eq | exact z1_eq | (simp [zGS, zMS]; first | done | assumption) | rfl) dX10_find_21 rfl ?_
        refine r_istore (ls' := [_, _, _, _, _, _, _]) dX10_find_22 (Nat.le_of_ble_eq_true rfl) rfl rfl ?_
        refine r_iload dX10_find_24 rfl rfl ?_
        refine r_if_neN (by omega) (r := 43) dX10_find_26 (by decide) rfl (fun c_26 => ?_) (fun c_26 => ?_)
        · exact absurd rfl c_26
        · refine r_aload_n dX10_find_29 rfl (zRv_ref _) rfl ?_
          refine r_iload_n dX10_find_30 rfl rfl ?_
          refine r_iload_n dX10_find_31 rfl rfl ?_
          refine r_iload_n dX10_find_32 rfl rfl ?_
          refine r_callV MX10_work 3 [_, _, _] lvX10_360 (Or.inr (Or.inl ⟨hm, rfl⟩)) (hwk) rfl rfl (by first | exact Nat.le_of_ble_eq_true rfl | (simp [zcat_rf, Value.category]; done)) (by omega) (Nat.le_of_eq (Nat.zero_add _)) (Nat.le_of_eq (Nat.zero_add _)) dX10_find_33 rfl (fun v_ w_ sg_ hq_ => ?_)
          obtain ⟨rfl, hwb, hwr⟩ := hq_
          obtain ⟨s2, hs2⟩ : ∃ y, y = sg_ := ⟨_, rfl⟩
          subst hs2
          cases hev : evR T (ldD T Rs) (wantP p) (emU T V e p) (whU T V e p) D e with
          | none =>
            rw [hev] at hwr hc
            have hv1 : v_ = some (.int (zb false)) := hwr
            subst hv1
            refine r_if_eqB (r := 43) dX10_find_36 (by decide) rfl (fun c_36 => ?_) (fun c_36 => ?_)
            · refine r_iconst dX10_find_43 kc_0 rfl ?_
              refine r_istore (ls' := [_, _, _, _, _, _, _]) dX10_find_44 (Nat.le_of_ble_eq_true rfl) rfl rfl ?_
              refine r_aload_n dX10_find_46 rfl (zRv_ref _) rfl ?_
              refine r_iload dX10_find_47 rfl rfl ?_
              refine r_iconst dX10_find_49 kc_3 rfl ?_
              refine r_icmp_neN (by omega) (by omega) (r := 57) dX10_find_50 (by decide) rfl (fun c_50 => ?_) (fun c_50 => ?_)
              · refine r_iload dX10_find_57 rfl rfl ?_
                refine r_if_leN (by omega) (r := 66) dX10_find_59 (by decide) rfl (fun c_59 => ?_) (fun c_59 => ?_)
                · refine r_iload dX10_find_66 rfl rfl ?_
                  refine r_if_eqN (by omega) (r := 75) dX10_find_68 (by decide) rfl (fun c_68 => ?_) (fun c_68 => ?_)
                  · refine r_iconst dX10_find_75 kc_3 rfl ?_
                    refine m_puti hm 44 lfX10_363 rfl rfl rfl dX10_find_76 rfl ?_
                    exact tail s2 0 3 false _ hwb (by decide) (by rw [hc]; rfl) (by rw [hc])
                  · exact absurd c_68 (by decide)
                · exact absurd c_59 (by decide)
              · exact absurd c_50 (by decide)
            · cases c_36
          | some u =>
            rw [hev] at hwr hc
            obtain ⟨rfl, h32⟩ := hwr
            simp only [] at hc
            by_cases hu : u.1 = wantP p
            · rw [if_pos hu] at hc
              rw [decide_eq_true hu]
              refine r_if_eqB (r := 43) dX10_find_36 (by decide) rfl (fun c_36 => ?_) (fun c_36 => ?_)
              · cases c_36
              · refine r_iconst dX10_find_39 kc_1 rfl ?_
                refine r_goto (r := 44) dX10_find_40 (by decide) ?_
                refine r_istore (ls' := [_, _, _, _, _, _, _]) dX10_find_44 (Nat.le_of_ble_eq_true rfl) rfl rfl ?_
                refine r_aload_n dX10_find_46 rfl (zRv_ref _) rfl ?_
                refine r_iload dX10_find_47 rfl rfl ?_
                refine r_iconst dX10_find_49 kc_3 rfl ?_
                refine r_icmp_neN (by omega) (by omega) (r := 57) dX10_find_50 (by decide) rfl (fun c_50 => ?_) (fun c_50 => ?_)
                · refine r_iload dX10_find_57 rfl rfl ?_
                  refine r_if_leN (by omega) (r := 66) dX10_find_59 (by decide) rfl (fun c_59 => ?_) (fun c_59 => ?_)
                  · refine r_iload dX10_find_66 rfl rfl ?_
                    refine r_if_eqN (by omega) (r := 75) dX10_find_68 (by decide) rfl (fun c_68 => ?_) (fun c_68 => ?_)
                    · exact absurd c_68 (by decide)
                    · refine r_iconst dX10_find_71 kc_2 rfl ?_
                      refine r_goto (r := 76) dX10_find_72 (by decide) ?_
                      refine m_puti hm 44 lfX10_363 rfl rfl rfl dX10_find_76 rfl ?_
                      exact tail s2 0 2 true _ hwb (by decide) (by rw [hc]; exact h32) (by rw [hc])
                  · exact absurd c_59 (by decide)
                · exact absurd c_50 (by decide)
            · rw [if_neg hu] at hc
              rw [decide_eq_false hu]
              refine r_if_eqB (r := 43) dX10_find_36 (by decide) rfl (fun c_36 => ?_) (fun c_36 => ?_)
              · refine r_iconst dX10_find_43 kc_0 rfl ?_
                refine r_istore (ls' := [_, _, _, _, _, _, _]) dX10_find_44 (Nat.le_of_ble_eq_true rfl) rfl rfl ?_
                refine r_aload_n dX10_find_46 rfl (zRv_ref _) rfl ?_
                refine r_iload dX10_find_47 rfl rfl ?_
                refine r_iconst dX10_find_49 kc_3 rfl ?_
                refine r_icmp_neN (by omega) (by omega) (r := 57) dX10_find_50 (by decide) rfl (fun c_50 => ?_) (fun c_50 => ?_)
                · refine r_iload dX10_find_57 rfl rfl ?_
                  refine r_if_leN (by omega) (r := 66) dX10_find_59 (by decide) rfl (fun c_59 => ?_) (fun c_59 => ?_)
                  · refine r_iload dX10_find_66 rfl rfl ?_
                    refine r_if_eqN (by omega) (r := 75) dX10_find_68 (by decide) rfl (fun c_68 => ?_) (fun c_68 => ?_)
                    · refine r_iconst dX10_find_75 kc_3 rfl ?_
                      refine m_puti hm 44 lfX10_363 rfl rfl rfl dX10_find_76 rfl ?_
                      exact tail s2 0 3 false _ hwb (by decide) (by rw [hc]; rfl) (by rw [hc])
                    · exact absurd c_68 (by decide)
                  · exact absurd c_59 (by decide)
                · exact absurd c_50 (by decide)
              · cases c_36
      · exact absurd c_9 (nI_neg (by omega))
