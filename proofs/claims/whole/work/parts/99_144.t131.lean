/-! ===== the model: fitting, linked ===== -/
theorem shr_k : ∀ p, p < 24 → ((nI p &&& 31).toBitVec.smod 32).toNat = p := by decide +kernel
theorem shr_b {S p : Nat} (hS : S < 2147483648) (hp : p < 24) : (nI S >>> (nI p &&& 31)) &&& nI 1 = zb (S.testBit p) := by
  rw [pk_shrN hS _ p (shr_k p hp)]
  have h1 : S / 2 ^ p < 2147483648 := Nat.lt_of_le_of_lt (Nat.div_le_self _ _) hS
  rw [nI_and h1 (by decide), Nat.and_one_is_mod, Nat.testBit_eq_decide_div_mod_eq]
  rcases Nat.mod_two_eq_zero_or_one (S / 2 ^ p) with h | h
  · rw [h]; rfl
  · rw [h]; rfl
def anyN (f : Nat → Bool) : Nat → Bool
  | 0 => false
  | n + 1 => anyN f n || f n
theorem anyN_congr {f g : Nat → Bool} : ∀ {n : Nat}, (∀ i, i < n → f i = g i) → anyN f n = anyN g n
  | 0, _ => rfl
  | n + 1, h => by
    show (anyN f n || f n) = (anyN g n || g n)
    rw [anyN_congr (fun i hi => h i (by omega)), h n (by omega)]
theorem anyN_false {f : Nat → Bool} : ∀ {n : Nat}, (∀ i, i < n → f i = false) → anyN f n = false
  | 0, _ => rfl
  | n + 1, h => by
    show (anyN f n || f n) = false
    rw [anyN_false (fun i hi => h i (by omega)), h n (by omega)]
    rfl
theorem bmeet_or (a b S : Nat) : bmeet (a ||| b) S = (bmeet a S || bmeet b S) := by
  unfold bmeet
  rw [Nat.and_or_distrib_right]
  by_cases h1 : a &&& S = 0
  · by_cases h2 : b &&& S = 0
    · rw [h1, h2]; rfl
    · rw [h1, Nat.zero_or, decide_eq_false h2]; rfl
  · rw [decide_eq_false h1, decide_eq_false (fun q => h1 (Nat.or_eq_zero_iff.mp q).1)]
    rfl
theorem bmeet_0 (S : Nat) : bmeet 0 S = false := by unfold bmeet; rw [Nat.zero_and]; rfl
theorem bmeet_c (a b : Nat) : bmeet a b = bmeet b a := by unfold bmeet; rw [Nat.and_comm]
theorem bmeet_pw (i S : Nat) : bmeet (2 ^ i) S = S.testBit i := by rw [bmeet_c]; exact bmeet_pow
theorem bmeet_bset (f : Nat → Bool) (S : Nat) : ∀ n, bmeet (bset f n) S = anyN (fun i => f i && S.testBit i) n
  | 0 => bmeet_0 S
  | n + 1 => by
    show bmeet (if f n = true then bset f n ||| 2 ^ n else bset f n) S = (anyN (fun i => f i && S.testBit i) n || (f n && S.testBit n))
    rw [← bmeet_bset f S n]
    split
    · rename_i h
      rw [bmeet_or, bmeet_pw, h, Bool.true_and]
    · rename_i h
      have h2 : f n = false := by cases hf : f n with
        | true => exact absurd hf h
        | false => rfl
      rw [h2, Bool.false_and, Bool.or_false]
theorem bmeet_blast (f : Nat → Bool) (S : Nat) : ∀ n, bmeet (blast f n) S = anyN (fun i => (f i && decide (bcnt f i + 1 = bcnt f n)) && S.testBit i) n
  | 0 => bmeet_0 S
  | n + 1 => by
    show bmeet (if f n = true then 2 ^ n else blast f n) S = (anyN (fun i => (f i && decide (bcnt f i + 1 = bcnt f (n + 1))) && S.testBit i) n || ((f n && decide (bcnt f n + 1 = bcnt f (n + 1))) && S.testBit n))
    cases h : f n with
    | true =>
      have e1 : bcnt f (n + 1) = bcnt f n + 1 := by show bcnt f n + (if f n = true then 1 else 0) = _; rw [if_pos h]
      rw [if_pos rfl, bmeet_pw, e1, decide_eq_true rfl, anyN_false, Bool.false_or]
      · rfl
      · intro i hi
        cases hf : f i with
        | false => rfl
        | true =>
          have := (bcnt_last hf hi).2
          rw [decide_eq_false (by omega)]
          rfl
    | false =>
      have e1 : bcnt f (n + 1) = bcnt f n := by show bcnt f n + (if f n = true then 1 else 0) = _; rw [h]; rfl
      rw [if_neg (by decide), bmeet_blast f S n, e1]
      exact (Bool.or_false _).symm
/-! which compound -/
def cmpA (sg : ZM) (c n : Nat) (l : List PRow) : Prop := c + 1 < 130 ∧ n + l.length ≤ 130 ∧ ma sg 12 c = nI n ∧ ma sg 12 (c + 1) = nI (n + l.length) ∧ ∀ i q, l[i]? = some q → ma sg 13 (n + i) = nI q.1 ∧ ma sg 14 (n + i) = nI q.2.1 ∧ ma sg 15 (n + i) = q.2.2.1 ∧ ma sg 16 (n + i) = q.2.2.2
theorem rft_4 (E : ZE) (mo : Nat) (hm : E.2.2.2.2 = some mo) (w : ZW) (sg : ZM) (d c n : Nat) (hd : 3 ≤ d) (T : List PEl) (h : mTree sg T) (l : List PRow) (x : PComp) (hc : cmpA sg c n l) (hR : compR l x) (hx : okC x) : ∀ (m e : Nat), e + m = T.length → RW E MX10_fitting 4 [some (.ref mo), some (.int (nI c)), some (.int (nI (bset (fun e => fitC T e x) e))), some (.int (nI e))] [] w sg d 0 0 (PN E (fun v w' sg' => v = some (.int (nI (bset (fun e => fitC T e x) T.length))) ∧ w = w' ∧ sg = sg')) := by
  intro m
  obtain ⟨c1, c2, c3, c4, c5⟩ := hc
  have hw := h.1
  have h1 := h.2.1
  have h24 := hw.1
  induction m with
  | zero =>
    intro e he
    have he2 : e = T.length := by omega
    subst he2
    refine r_iload_n dX10_fitting_4 rfl rfl ?_
    refine r_aload_n dX10_fitting_5 rfl (zRv_ref _) rfl ?_
    refine m_getiv hm 1 lfX10_137 rfl (by first | (simp only [zGS, zMS, Nat.reduceEqDiff, OfNat.ofNat_ne_ofNat, false_and, and_false, true_and, and_true, and_self, if_true, if_false, ite_true, ite_false, reduceIte, reduceCtorEq]; first | done | assumption | rfl) | assumption | exact z2_eq | exact z1_eq | (simp [zGS, zMS]; first | done | assumption) | rfl) dX10_fitting_6 rfl ?_
    refine r_icmp_geN (by omega) (by omega) (r := 37) dX10_fitting_9 (by decide) rfl (fun c_9 => ?_) (fun c_9 => ?_)
    · refine r_iload_n dX10_fitting_37 rfl rfl ?_
      refine r_iret rfl dX10_fitting_38 ?_
      exact ⟨rfl, rfl, rfl⟩
    · exact absurd c_9 (by omega)
  | succ m ih =>
    intro e he
    have he3 : e < T.length := by omega
    obtain ⟨r1, r2, -⟩ := compR_ok hw he3 hR hx
    have hf := q_fitsN E mo hm w sg (d - 1) c e n (by omega) T he3 h c1 l r1 c2 c3 c4 c5
    rw [r2] at hf
    have ih2 := ih (e + 1) (by omega)
    have hb : bset (fun e => fitC T e x) (e + 1) = if fitC T e x = true then bset (fun e => fitC T e x) e ||| 2 ^ e else bset (fun e => fitC T e x) e := rfl
    rw [hb] at ih2
    have hl1 : bset (fun e => fitC T e x) e < 2147483648 := Nat.lt_of_lt_of_le (bset_lt _ e) (Nat.le_trans (Nat.pow_le_pow_right (by decide) (show e ≤ 24 by omega)) (by decide))
    have hl2 : 2 ^ e < 2147483648 := Nat.lt_of_lt_of_le (Nat.pow_lt_pow_right (by decide) (show e < 25 by omega)) (by decide)
    cases hh : fitC T e x with
    | true =>
      rw [hh] at hf ih2
      refine r_iload_n dX10_fitting_4 rfl rfl ?_
      refine r_aload_n dX10_fitting_5 rfl (zRv_ref _) rfl ?_
      refine m_getiv hm 1 lfX10_137 rfl (by first | (simp only [zGS, zMS, Nat.reduceEqDiff, OfNat.ofNat_ne_ofNat, false_and, and_false, true_and, and_true, and_self, if_true, if_false, ite_true, ite_false, reduceIte, reduceCtorEq]; first | done | assumption | rfl) | assumption | exact z2_eq | exact z1_eq | (simp [zGS, zMS]; first | done | assumption) | rfl) dX10_fitting_6 rfl ?_
      refine r_icmp_geN (by omega) (by omega) (r := 37) dX10_fitting_9 (by decide) rfl (fun c_9 => ?_) (fun c_9 => ?_)
      · exact absurd c_9 (by omega)
      · refine r_aload_n dX10_fitting_12 rfl (zRv_ref _) rfl ?_
        refine r_iload_n dX10_fitting_13 rfl rfl ?_
        refine r_iload_n dX10_fitting_14 rfl rfl ?_
        refine r_callV MX10_fits 2 [_, _] lvX10_291 (Or.inr (Or.inl ⟨hm, rfl⟩)) (hf) rfl rfl (by first | exact Nat.le_of_ble_eq_true rfl | (simp [zcat_rf, Value.category]; done)) (by omega) (Nat.le_of_eq (Nat.zero_add _)) (Nat.le_of_eq (Nat.zero_add _)) dX10_fitting_15 rfl (fun v_ w_ sg_ hq_ => ?_)
        obtain ⟨rfl, rfl, rfl⟩ := hq_
        refine r_if_eqB (r := 29) dX10_fitting_18 (by decide) rfl (fun c_18 => ?_) (fun c_18 => ?_)
        · cases c_18
        · refine r_iload_n dX10_fitting_21 rfl rfl ?_
          refine r_iconst dX10_fitting_22 kc_1 rfl ?_
          refine r_iload_n dX10_fitting_23 rfl rfl ?_
          refine r_ishl dX10_fitting_24 rfl ?_
          rw [shl1 e (by omega)]
          refine r_ior dX10_fitting_25 rfl ?_
          rw [nI_or hl1 hl2]
          refine r_goto (r := 30) dX10_fitting_26 (by decide) ?_
          refine r_istore_n (ls' := [_, _, _, _]) dX10_fitting_30 (Nat.le_of_ble_eq_true rfl) rfl rfl ?_
          refine r_iinc (ls' := [_, _, _, _]) dX10_fitting_31 (Nat.le_of_ble_eq_true rfl) rfl (zinc1 _) rfl rfl ?_
          refine r_goto (r := 4) dX10_fitting_34 (by decide) ?_
          exact ih2
    | false =>
      rw [hh] at hf ih2
      refine r_iload_n dX10_fitting_4 rfl rfl ?_
      refine r_aload_n dX10_fitting_5 rfl (zRv_ref _) rfl ?_
      refine m_getiv hm 1 lfX10_137 rfl (by first | (simp only [zGS, zMS, Nat.reduceEqDiff, OfNat.ofNat_ne_ofNat, false_and, and_false, true_and, and_true, and_self, if_true, if_false, ite_true, ite_false, reduceIte, reduceCtorEq]; first | done | assumption | rfl) | assumption | exact z2_eq | exact z1_eq | (simp [zGS, zMS]; first | done | assumption) | rfl) dX10_fitting_6 rfl ?_
      refine r_icmp_geN (by omega) (by omega) (r := 37) dX10_fitting_9 (by decide) rfl (fun c_9 => ?_) (fun c_9 => ?_)
      · exact absurd c_9 (by omega)
      · refine r_aload_n dX10_fitting_12 rfl (zRv_ref _) rfl ?_
        refine r_iload_n dX10_fitting_13 rfl rfl ?_
        refine r_iload_n dX10_fitting_14 rfl rfl ?_
        refine r_callV MX10_fits 2 [_, _] lvX10_291 (Or.inr (Or.inl ⟨hm, rfl⟩)) (hf) rfl rfl (by first | exact Nat.le_of_ble_eq_true rfl | (simp [zcat_rf, Value.category]; done)) (by omega) (Nat.le_of_eq (Nat.zero_add _)) (Nat.le_of_eq (Nat.zero_add _)) dX10_fitting_15 rfl (fun v_ w_ sg_ hq_ => ?_)
        obtain ⟨rfl, rfl, rfl⟩ := hq_
        refine r_if_eqB (r := 29) dX10_fitting_18 (by decide) rfl (fun c_18 => ?_) (fun c_18 => ?_)
        · refine r_iload_n dX10_fitting_29 rfl rfl ?_
          refine r_istore_n (ls' := [_, _, _, _]) dX10_fitting_30 (Nat.le_of_ble_eq_true rfl) rfl rfl ?_
          refine r_iinc (ls' := [_, _, _, _]) dX10_fitting_31 (Nat.le_of_ble_eq_true rfl) rfl (zinc1 _) rfl rfl ?_
          refine r_goto (r := 4) dX10_fitting_34 (by decide) ?_
          exact ih2
        · cases c_18
theorem q_fitting (E : ZE) (mo : Nat) (hm : E.2.2.2.2 = some mo) (w : ZW) (sg : ZM) (d c n : Nat) (hd : 3 ≤ d) (T : List PEl) (h : mTree sg T) (l : List PRow) (x : PComp) (hc : cmpA sg c n l) (hR : compR l x) (hx : okC x) : CallQ E MX10_fitting [.ref mo, .int (nI c)] w sg d 0 0 (fun v w' sg' => v = some (.int (nI (bset (fun e => fitC T e x) T.length))) ∧ w = w' ∧ sg = sg') := by
  have h0 := rft_4 E mo hm w sg d c n hd T h l x hc hR hx T.length 0 (Nat.zero_add _)
  refine CallQ.of rfl (by simp [Value.category]) (Nat.le_of_ble_eq_true rfl) ?_
  refine r_iconst dX10_fitting_0 kc_0 rfl ?_
  refine r_istore_n (ls' := [_, _, _, _]) dX10_fitting_1 (Nat.le_of_ble_eq_true rfl) rfl rfl ?_
  refine r_iconst dX10_fitting_2 kc_0 rfl ?_
  refine r_istore_n (ls' := [_, _, _, _]) dX10_fitting_3 (Nat.le_of_ble_eq_true rfl) rfl rfl ?_
  exact h0
/-! linked, one element -/
def rootT (T : List PEl) : Prop := ∀ e, 0 < e → e < T.length → ∃ p, tP T e = some p
theorem parI_s {T : List PEl} {e p : Nat} (h : tP T e = some p) : parI T e = nI p := by unfold parI; rw [h]
theorem parI_n {T : List PEl} {e : Nat} (h : tP T e = none) : parI T e = -1 := by unfold parI; rw [h]
theorem lk_65 (E : ZE) (mo : Nat) (hm : E.2.2.2.2 = some mo) (w : ZW) (sg : ZM) (d S e : Nat) (T : List PEl) (h : mTree sg T) (hS : S < 2147483648) (x3 : Value) (x7 : Option Value) (P : ZPhi) : ∀ (f y : Nat) (b : Bool), y ≤ f → y < T.length → (∀ x6, RW E MX10_linked 111 [some (.ref mo), some (.int (nI S)), some (.int (nI 32)), some x3, some (.int (nI e)), some (.int (zb (b || bmeet (abvF T f y) S))), some x6, x7] [] w sg d 0 0 P) → RW E MX10_linked 65 [some (.ref mo), some (.int (nI S)), some (.int (nI 32)), some x3, some (.int (nI e)), some (.int (zb b)), some (.int (parI T y)), x7] [] w sg d 0 0 P := by
  obtain ⟨hw, h1, h2⟩ := h
  have h24 := hw.1
  intro f
  induction f with
  | zero =>
    intro y b hy hy2 K
    have hn : tP T y = none := by
      cases hq : tP T y with
      | none => rfl
      | some p => have := hw.2.1 y p hq; omega
    have K2 := K (.int (-1))
    rw [show abvF T 0 y = 0 from rfl, bmeet_0, Bool.or_false] at K2
    rw [parI_n hn]
    refine r_iload dX10_linked_65 rfl rfl ?_
    refine r_iconst dX10_linked_67 kc_m1 rfl ?_
    refine r_icmp_eq (r := 111) dX10_linked_68 (by decide) rfl (fun c_68 => ?_) (fun c_68 => ?_)
    · exact K2
    · exact absurd rfl c_68
  | succ f ih =>
    intro y b hy hy2 K
    cases hq : tP T y with
    | none =>
      have K2 := K (.int (-1))
      have e0 : abvF T (f + 1) y = 0 := by unfold abvF; rw [hq]
      rw [e0, bmeet_0, Bool.or_false] at K2
      rw [parI_n hq]
      refine r_iload dX10_linked_65 rfl rfl ?_
      refine r_iconst dX10_linked_67 kc_m1 rfl ?_
      refine r_icmp_eq (r := 111) dX10_linked_68 (by decide) rfl (fun c_68 => ?_) (fun c_68 => ?_)
      · exact K2
      · exact absurd rfl c_68
    | some p =>
      have hp := hw.2.1 y p hq
      have e0 : abvF T (f + 1) y = abvF T f p ||| 2 ^ p := by
        show (match tP T y with
          | none => 0
          | some p => abvF T f p ||| 2 ^ p) = _
        rw [hq]
      have a1 := (h2 p (by omega)).1
      have hsb := shr_b hS (show p < 24 by omega)
      have ihp := ih p (b || S.testBit p) (by omega) (by omega) (fun x6 => by
        have := K x6
        rw [e0, bmeet_or, bmeet_pw] at this
        rw [Bool.or_assoc, Bool.or_comm (S.testBit p)]
        exact this)
      rw [parI_s hq]
      cases b with
      | true =>
        refine r_iload dX10_linked_65 rfl rfl ?_
        refine r_iconst dX10_linked_67 kc_m1 rfl ?_
        refine r_icmp_eq (r := 111) dX10_linked_68 (by decide) rfl (fun c_68 => ?_) (fun c_68 => ?_)
        · exact absurd c_68 (nI_neg (by omega))
        · refine r_iload_n dX10_linked_71 rfl rfl ?_
          refine r_bipush dX10_linked_72 kb_32 rfl ?_
          refine r_icmp_neN (by omega) (by omega) (r := 111) dX10_linked_74 (by decide) rfl (fun c_74 => ?_) (fun c_74 => ?_)
          · exact absurd rfl c_74
          · refine r_iload dX10_linked_77 rfl rfl ?_
            refine r_if_neB (r := 92) dX10_linked_79 (by decide) rfl (fun c_79 => ?_) (fun c_79 => ?_)
            · refine r_iconst dX10_linked_92 kc_1 rfl ?_
              refine r_goto (r := 97) dX10_linked_93 (by decide) ?_
              refine r_istore (ls' := [_, _, _, _, _, _, _, _]) dX10_linked_97 (Nat.le_of_ble_eq_true rfl) rfl rfl ?_
              refine r_aload_n dX10_linked_99 rfl (zRv_ref _) rfl ?_
              refine m_geta hm 2 1 lfX10_7 rfl (by decide) dX10_linked_100 rfl ?_
              refine r_iload dX10_linked_103 rfl rfl ?_
              refine m_ialdv hm 1 _ (by decide) (by decide) rfl rfl (by show _ < 24; omega) (by first | (simp only [zGS, zMS, Nat.reduceEqDiff, OfNat.ofNat_ne_ofNat, false_and, and_false, true_and, and_true, and_self, if_true, if_false, ite_true, ite_false, reduceIte, reduceCtorEq]; first | done | assumption | rfl) | assumption | exact z2_eq | exact z1_eq | (simp [zGS, zMS]; first | done | assumption) | rfl) dX10_linked_105 rfl ?_
              refine r_istore (ls' := [_, _, _, _, _, _, _, _]) dX10_linked_106 (Nat.le_of_ble_eq_true rfl) rfl rfl ?_
              refine r_goto (r := 65) dX10_linked_108 (by decide) ?_
              exact ihp
            · cases c_79
      | false =>
        refine r_iload dX10_linked_65 rfl rfl ?_
        refine r_iconst dX10_linked_67 kc_m1 rfl ?_
        refine r_icmp_eq (r := 111) dX10_linked_68 (by decide) rfl (fun c_68 => ?_) (fun c_68 => ?_)
        · exact absurd c_68 (nI_neg (by omega))
        · refine r_iload_n dX10_linked_71 rfl rfl ?_
          refine r_bipush dX10_linked_72 kb_32 rfl ?_
          refine r_icmp_neN (by omega) (by omega) (r := 111) dX10_linked_74 (by decide) rfl (fun c_74 => ?_) (fun c_74 => ?_)
          · exact absurd rfl c_74
          · refine r_iload dX10_linked_77 rfl rfl ?_
            refine r_if_neB (r := 92) dX10_linked_79 (by decide) rfl (fun c_79 => ?_) (fun c_79 => ?_)
            · cases c_79
            · refine r_iload_n dX10_linked_82 rfl rfl ?_
              refine r_iload dX10_linked_83 rfl rfl ?_
              refine r_ishr dX10_linked_85 rfl ?_
              refine r_iconst dX10_linked_86 kc_1 rfl ?_
              refine r_iand dX10_linked_87 rfl ?_
              rw [hsb]
              refine r_iconst dX10_linked_88 kc_1 rfl ?_
              refine r_icmp_ne (r := 96) dX10_linked_89 (by decide) rfl (fun c_89 => ?_) (fun c_89 => ?_)
              · refine r_iconst dX10_linked_96 kc_0 rfl ?_
                refine r_istore (ls' := [_, _, _, _, _, _, _, _]) dX10_linked_97 (Nat.le_of_ble_eq_true rfl) rfl rfl ?_
                refine r_aload_n dX10_linked_99 rfl (zRv_ref _) rfl ?_
                refine m_geta hm 2 1 lfX10_7 rfl (by decide) dX10_linked_100 rfl ?_
                refine r_iload dX10_linked_103 rfl rfl ?_
                refine m_ialdv hm 1 _ (by decide) (by decide) rfl rfl (by show _ < 24; omega) (by first | (simp only [zGS, zMS, Nat.reduceEqDiff, OfNat.ofNat_ne_ofNat, false_and, and_false, true_and, and_true, and_self, if_true, if_false, ite_true, ite_false, reduceIte, reduceCtorEq]; first | done | assumption | rfl) | assumption | exact z2_eq | exact z1_eq | (simp [zGS, zMS]; first | done | assumption) | rfl) dX10_linked_105 rfl ?_
                refine r_istore (ls' := [_, _, _, _, _, _, _, _]) dX10_linked_106 (Nat.le_of_ble_eq_true rfl) rfl rfl ?_
                refine r_goto (r := 65) dX10_linked_108 (by decide) ?_
                have e9 : S.testBit p = false := by cases hh : S.testBit p with
                  | false => rfl
                  | true => rw [hh] at c_89; exact absurd rfl c_89
                rw [e9] at ihp
                exact ihp
              · refine r_iconst dX10_linked_92 kc_1 rfl ?_
                refine r_goto (r := 97) dX10_linked_93 (by decide) ?_
                refine r_istore (ls' := [_, _, _, _, _, _, _, _]) dX10_linked_97 (Nat.le_of_ble_eq_true rfl) rfl rfl ?_
                refine r_aload_n dX10_linked_99 rfl (zRv_ref _) rfl ?_
                refine m_geta hm 2 1 lfX10_7 rfl (by decide) dX10_linked_100 rfl ?_
                refine r_iload dX10_linked_103 rfl rfl ?_
                refine m_ialdv hm 1 _ (by decide) (by decide) rfl rfl (by show _ < 24; omega) (by first | (simp only [zGS, zMS, Nat.reduceEqDiff, OfNat.ofNat_ne_ofNat, false_and, and_false, true_and, and_true, and_self, if_true, if_false, ite_true, ite_false, reduceIte, reduceCtorEq]; first | done | assumption | rfl) | assumption | exact z2_eq | exact z1_eq | (simp [zGS, zMS]; first | done | assumption) | rfl) dX10_linked_105 rfl ?_
                refine r_istore (ls' := [_, _, _, _, _, _, _, _]) dX10_linked_106 (Nat.le_of_ble_eq_true rfl) rfl rfl ?_
                refine r_goto (r := 65) dX10_linked_108 (by decide) ?_
                have e9 : S.testBit p = true := by cases hh : S.testBit p with
                  | true => rfl
                  | false => rw [hh] at c_89; exact absurd c_89 (by decide)
                rw [e9] at ihp
                exact ihp
theorem idx_kid {T : List PEl} {p i : Nat} (h : isKid T p i = true) : idxT T i = bcnt (isKid T p) i + 1 := by
  have h2 : tP T i = some p := of_decide_eq_true h
  unfold idxT
  rw [h2]
def bsdB (T : List PEl) (c p e i : Nat) : Bool := isKid T p i && (decide (c = 126) || decide (idxT T i = idxT T e - 1))
theorem lk_114 (E : ZE) (mo : Nat) (hm : E.2.2.2.2 = some mo) (w : ZW) (sg : ZM) (d S c e p : Nat) (T : List PEl) (h : mTree sg T) (hS : S < 2147483648) (hc : c = 43 ∨ c = 126) (he : e < T.length) (hp : tP T e = some p) (x3 : Value) (P : ZPhi) (K : ∀ x6 x7, RW E MX10_linked 215 [some (.ref mo), some (.int (nI S)), some (.int (nI c)), some x3, some (.int (nI e)), some (.int (zb (anyN (fun i => bsdB T c p e i && S.testBit i) e))), some x6, x7] [] w sg d 0 0 P) : ∀ (m b : Nat) (x7 : Option Value), b + m = e → RW E MX10_linked 114 [some (.ref mo), some (.int (nI S)), some (.int (nI c)), some x3, some (.int (nI e)), some (.int (zb (anyN (fun i => bsdB T c p e i && S.testBit i) b))), some (.int (nI b)), x7] [] w sg d 0 0 P := by
  obtain ⟨hw, h1, h2⟩ := h
  have h24 := hw.1
  have hpe := hw.2.1 e p hp
  obtain ⟨a1, -, -, -, a5, -⟩ := h2 e he
  rw [parI_s hp] at a1
  have hie := idxT_pos T e
  have hie2 := idxT_sm hw he
  intro m
  induction m with
  | zero =>
    intro b x7 hb
    have hb2 : b = e := by omega
    subst hb2
    refine r_iload dX10_linked_114 rfl rfl ?_
    refine r_iload dX10_linked_116 rfl rfl ?_
    refine r_icmp_geN (by omega) (by omega) (r := 215) dX10_linked_118 (by decide) rfl (fun c_118 => ?_) (fun c_118 => ?_)
    · exact K _ _
    · exact absurd c_118 (by omega)
  | succ m ih =>
    intro b x7 hb
    obtain ⟨b1, -, -, -, b5, -⟩ := h2 b (by omega)
    have hib2 := idxT_sm hw (show b < T.length by omega)
    have hs : anyN (fun i => bsdB T c p e i && S.testBit i) (b + 1) = (anyN (fun i => bsdB T c p e i && S.testBit i) b || (bsdB T c p e b && S.testBit b)) := rfl
    have hsb := shr_b hS (show b < 24 by omega)
    have ih2 := fun x7 => ih (b + 1) x7 (by omega)
    rw [hs] at ih2
    -- from 182 on
    have tl : RW E MX10_linked 182 [some (.ref mo), some (.int (nI S)), some (.int (nI c)), some x3, some (.int (nI e)), some (.int (zb (anyN (fun i => bsdB T c p e i && S.testBit i) b))), some (.int (nI b)), some (.int (zb (bsdB T c p e b)))] [] w sg d 0 0 P := by
      have ih3 := ih2 (some (.int (zb (bsdB T c p e b))))
      cases hA : anyN (fun i => bsdB T c p e i && S.testBit i) b with
      | true =>
        rw [hA] at ih3
        refine r_iload dX10_linked_182 rfl rfl ?_
        refine r_if_neB (r := 202) dX10_linked_184 (by decide) rfl (fun c_184 => ?_) (fun c_184 => ?_)
        · refine r_iconst dX10_linked_202 kc_1 rfl ?_
          refine r_goto (r := 207) dX10_linked_203 (by decide) ?_
          refine r_istore (ls' := [_, _, _, _, _, _, _, _]) dX10_linked_207 (Nat.le_of_ble_eq_true rfl) rfl rfl ?_
          refine r_iinc (ls' := [_, _, _, _, _, _, _, _]) dX10_linked_209 (Nat.le_of_ble_eq_true rfl) rfl (zinc1 _) rfl rfl ?_
          refine r_goto (r := 114) dX10_linked_212 (by decide) ?_
          exact ih3
        · cases c_184
      | false =>
        rw [hA] at ih3
        cases hB : bsdB T c p e b with
        | false =>
          rw [hB] at ih3
          refine r_iload dX10_linked_182 rfl rfl ?_
          refine r_if_neB (r := 202) dX10_linked_184 (by decide) rfl (fun c_184 => ?_) (fun c_184 => ?_)
          · cases c_184
          · refine r_iload dX10_linked_187 rfl rfl ?_
            refine r_if_eqB (r := 206) dX10_linked_189 (by decide) rfl (fun c_189 => ?_) (fun c_189 => ?_)
            · refine r_iconst dX10_linked_206 kc_0 rfl ?_
              refine r_istore (ls' := [_, _, _, _, _, _, _, _]) dX10_linked_207 (Nat.le_of_ble_eq_true rfl) rfl rfl ?_
              refine r_iinc (ls' := [_, _, _, _, _, _, _, _]) dX10_linked_209 (Nat.le_of_ble_eq_true rfl) rfl (zinc1 _) rfl rfl ?_
              refine r_goto (r := 114) dX10_linked_212 (by decide) ?_
              exact ih3
            · cases c_189
        | true =>
          rw [hB] at ih3
          refine r_iload dX10_linked_182 rfl rfl ?_
          refine r_if_neB (r := 202) dX10_linked_184 (by decide) rfl (fun c_184 => ?_) (fun c_184 => ?_)
          · cases c_184
          · refine r_iload dX10_linked_187 rfl rfl ?_
            refine r_if_eqB (r := 206) dX10_linked_189 (by decide) rfl (fun c_189 => ?_) (fun c_189 => ?_)
            · cases c_189
            · refine r_iload_n dX10_linked_192 rfl rfl ?_
              refine r_iload dX10_linked_193 rfl rfl ?_
              refine r_ishr dX10_linked_195 rfl ?_
              refine r_iconst dX10_linked_196 kc_1 rfl ?_
              refine r_iand dX10_linked_197 rfl ?_
              rw [hsb]
              refine r_iconst dX10_linked_198 kc_1 rfl ?_
              refine r_icmp_ne (r := 206) dX10_linked_199 (by decide) rfl (fun c_199 => ?_) (fun c_199 => ?_)
              · refine r_iconst dX10_linked_206 kc_0 rfl ?_
                refine r_istore (ls' := [_, _, _, _, _, _, _, _]) dX10_linked_207 (Nat.le_of_ble_eq_true rfl) rfl rfl ?_
                refine r_iinc (ls' := [_, _, _, _, _, _, _, _]) dX10_linked_209 (Nat.le_of_ble_eq_true rfl) rfl (zinc1 _) rfl rfl ?_
                refine r_goto (r := 114) dX10_linked_212 (by decide) ?_
                have e9 : S.testBit b = false := by cases hh : S.testBit b with
                  | false => rfl
                  | true => rw [hh] at c_199; exact absurd rfl c_199
                rw [e9] at ih3
                exact ih3
              · refine r_iconst dX10_linked_202 kc_1 rfl ?_
                refine r_goto (r := 207) dX10_linked_203 (by decide) ?_
                refine r_istore (ls' := [_, _, _, _, _, _, _, _]) dX10_linked_207 (Nat.le_of_ble_eq_true rfl) rfl rfl ?_
                refine r_iinc (ls' := [_, _, _, _, _, _, _, _]) dX10_linked_209 (Nat.le_of_ble_eq_true rfl) rfl (zinc1 _) rfl rfl ?_
                refine r_goto (r := 114) dX10_linked_212 (by decide) ?_
                have e9 : S.testBit b = true := by cases hh : S.testBit b with
                  | true => rfl
                  | false => rw [hh] at c_199; exact absurd c_199 (by decide)
                rw [e9] at ih3
                exact ih3
    -- whether beside
    cases hk : isKid T p b with
    | false =>
      have hB : bsdB T c p e b = false := by unfold bsdB; rw [hk]; rfl
      rw [hB] at tl
      have hne : ¬ parI T b = nI p := fun q => by
        cases hq : tP T b with
        | none => rw [parI_n hq] at q; exact nI_neg (by omega) q.symm
        | some p2 =>
          rw [parI_s hq] at q
          have hp2 := hw.2.1 b p2 hq
          have := (nI_eq (by omega) (by omega)).mp q
          subst this
          have : isKid T p2 b = true := decide_eq_true hq
          rw [hk] at this
          cases this
      rcases hc with rfl | rfl
      · skip
        refine r_iload dX10_linked_114 rfl rfl ?_
        refine r_iload dX10_linked_116 rfl rfl ?_
        refine r_icmp_geN (by omega) (by omega) (r := 215) dX10_linked_118 (by decide) rfl (fun c_118 => ?_) (fun c_118 => ?_)
        · exact absurd c_118 (by omega)
        · refine r_iload_n dX10_linked_121 rfl rfl ?_
          refine r_bipush dX10_linked_122 kb_43 rfl ?_
          refine r_icmp_eqN (by omega) (by omega) (r := 133) dX10_linked_124 (by decide) rfl (fun c_124 => ?_) (fun c_124 => ?_)
          · refine r_aload_n dX10_linked_133 rfl (zRv_ref _) rfl ?_
            refine m_geta hm 2 1 lfX10_7 rfl (by decide) dX10_linked_134 rfl ?_
            refine r_iload dX10_linked_137 rfl rfl ?_
            refine m_ialdv hm 1 _ (by decide) (by decide) rfl rfl (by show _ < 24; omega) (by first | (simp only [zGS, zMS, Nat.reduceEqDiff, OfNat.ofNat_ne_ofNat, false_and, and_false, true_and, and_true, and_self, if_true, if_false, ite_true, ite_false, reduceIte, reduceCtorEq]; first | done | assumption | rfl) | assumption | exact z2_eq | exact z1_eq | (simp [zGS, zMS]; first | done | assumption) | rfl) dX10_linked_139 rfl ?_
            refine r_aload_n dX10_linked_140 rfl (zRv_ref _) rfl ?_
            refine m_geta hm 2 1 lfX10_7 rfl (by decide) dX10_linked_141 rfl ?_
            refine r_iload dX10_linked_144 rfl rfl ?_
            refine m_ialdv hm 1 _ (by decide) (by decide) rfl rfl (by show _ < 24; omega) (by first | (simp only [zGS, zMS, Nat.reduceEqDiff, OfNat.ofNat_ne_ofNat, false_and, and_false, true_and, and_true, and_self, if_true, if_false, ite_true, ite_false, reduceIte, reduceCtorEq]; first | done | assumption | rfl) | assumption | exact z2_eq | exact z1_eq | (simp [zGS, zMS]; first | done | assumption) | rfl) dX10_linked_146 rfl ?_
            refine r_icmp_ne (r := 179) dX10_linked_147 (by decide) rfl (fun c_147 => ?_) (fun c_147 => ?_)
            · refine r_iconst dX10_linked_179 kc_0 rfl ?_
              refine r_istore (ls' := [_, _, _, _, _, _, _, _]) dX10_linked_180 (Nat.le_of_ble_eq_true rfl) rfl rfl ?_
              exact tl
            · exact absurd c_147 hne
          · exact absurd rfl c_124
      · skip
        refine r_iload dX10_linked_114 rfl rfl ?_
        refine r_iload dX10_linked_116 rfl rfl ?_
        refine r_icmp_geN (by omega) (by omega) (r := 215) dX10_linked_118 (by decide) rfl (fun c_118 => ?_) (fun c_118 => ?_)
        · exact absurd c_118 (by omega)
        · refine r_iload_n dX10_linked_121 rfl rfl ?_
          refine r_bipush dX10_linked_122 kb_43 rfl ?_
          refine r_icmp_eqN (by omega) (by omega) (r := 133) dX10_linked_124 (by decide) rfl (fun c_124 => ?_) (fun c_124 => ?_)
          · exact absurd c_124 (by decide)
          · refine r_iload_n dX10_linked_127 rfl rfl ?_
            refine r_bipush dX10_linked_128 kb_126 rfl ?_
            refine r_icmp_neN (by omega) (by omega) (r := 215) dX10_linked_130 (by decide) rfl (fun c_130 => ?_) (fun c_130 => ?_)
            · exact absurd rfl c_130
            · refine r_aload_n dX10_linked_133 rfl (zRv_ref _) rfl ?_
              refine m_geta hm 2 1 lfX10_7 rfl (by decide) dX10_linked_134 rfl ?_
              refine r_iload dX10_linked_137 rfl rfl ?_
              refine m_ialdv hm 1 _ (by decide) (by decide) rfl rfl (by show _ < 24; omega) (by first | (simp only [zGS, zMS, Nat.reduceEqDiff, OfNat.ofNat_ne_ofNat, false_and, and_false, true_and, and_true, and_self, if_true, if_false, ite_true, ite_false, reduceIte, reduceCtorEq]; first | done | assumption | rfl) | assumption | exact z2_eq | exact z1_eq | (simp [zGS, zMS]; first | done | assumption) | rfl) dX10_linked_139 rfl ?_
              refine r_aload_n dX10_linked_140 rfl (zRv_ref _) rfl ?_
              refine m_geta hm 2 1 lfX10_7 rfl (by decide) dX10_linked_141 rfl ?_
              refine r_iload dX10_linked_144 rfl rfl ?_
              refine m_ialdv hm 1 _ (by decide) (by decide) rfl rfl (by show _ < 24; omega) (by first | (simp only [zGS, zMS, Nat.reduceEqDiff, OfNat.ofNat_ne_ofNat, false_and, and_false, true_and, and_true, and_self, if_true, if_false, ite_true, ite_false, reduceIte, reduceCtorEq]; first | done | assumption | rfl) | assumption | exact z2_eq | exact z1_eq | (simp [zGS, zMS]; first | done | assumption) | rfl) dX10_linked_146 rfl ?_
              refine r_icmp_ne (r := 179) dX10_linked_147 (by decide) rfl (fun c_147 => ?_) (fun c_147 => ?_)
              · refine r_iconst dX10_linked_179 kc_0 rfl ?_
                refine r_istore (ls' := [_, _, _, _, _, _, _, _]) dX10_linked_180 (Nat.le_of_ble_eq_true rfl) rfl rfl ?_
                exact tl
              · exact absurd c_147 hne
    | true =>
      have hq : tP T b = some p := of_decide_eq_true hk
      rw [parI_s hq] at b1
      rcases hc with rfl | rfl
      · have hB : bsdB T 43 p e b = decide (idxT T b = idxT T e - 1) := by unfold bsdB; rw [hk]; rfl
        rw [hB] at tl
        refine r_iload dX10_linked_114 rfl rfl ?_
        refine r_iload dX10_linked_116 rfl rfl ?_
        refine r_icmp_geN (by omega) (by omega) (r := 215) dX10_linked_118 (by decide) rfl (fun c_118 => ?_) (fun c_118 => ?_)
        · exact absurd c_118 (by omega)
        · refine r_iload_n dX10_linked_121 rfl rfl ?_
          refine r_bipush dX10_linked_122 kb_43 rfl ?_
          refine r_icmp_eqN (by omega) (by omega) (r := 133) dX10_linked_124 (by decide) rfl (fun c_124 => ?_) (fun c_124 => ?_)
          · refine r_aload_n dX10_linked_133 rfl (zRv_ref _) rfl ?_
            refine m_geta hm 2 1 lfX10_7 rfl (by decide) dX10_linked_134 rfl ?_
            refine r_iload dX10_linked_137 rfl rfl ?_
            refine m_ialdv hm 1 _ (by decide) (by decide) rfl rfl (by show _ < 24; omega) (by first | (simp only [zGS, zMS, Nat.reduceEqDiff, OfNat.ofNat_ne_ofNat, false_and, and_false, true_and, and_true, and_self, if_true, if_false, ite_true, ite_false, reduceIte, reduceCtorEq]; first | done | assumption | rfl) | assumption | exact z2_eq | exact z1_eq | (simp [zGS, zMS]; first | done | assumption) | rfl) dX10_linked_139 rfl ?_
            refine r_aload_n dX10_linked_140 rfl (zRv_ref _) rfl ?_
            refine m_geta hm 2 1 lfX10_7 rfl (by decide) dX10_linked_141 rfl ?_
            refine r_iload dX10_linked_144 rfl rfl ?_
            refine m_ialdv hm 1 _ (by decide) (by decide) rfl rfl (by show _ < 24; omega) (by first | (simp only [zGS, zMS, Nat.reduceEqDiff, OfNat.ofNat_ne_ofNat, false_and, and_false, true_and, and_true, and_self, if_true, if_false, ite_true, ite_false, reduceIte, reduceCtorEq]; first | done | assumption | rfl) | assumption | exact z2_eq | exact z1_eq | (simp [zGS, zMS]; first | done | assumption) | rfl) dX10_linked_146 rfl ?_
            refine r_icmp_ne (r := 179) dX10_linked_147 (by decide) rfl (fun c_147 => ?_) (fun c_147 => ?_)
            · exact absurd rfl c_147
            · refine r_iload_n dX10_linked_150 rfl rfl ?_
              refine r_bipush dX10_linked_151 kb_126 rfl ?_
              refine r_icmp_eqN (by omega) (by omega) (r := 175) dX10_linked_153 (by decide) rfl (fun c_153 => ?_) (fun c_153 => ?_)
              · exact absurd c_153 (by decide)
              · refine r_aload_n dX10_linked_156 rfl (zRv_ref _) rfl ?_
                refine m_geta hm 6 5 lfX10_22 rfl (by decide) dX10_linked_157 rfl ?_
                refine r_iload dX10_linked_160 rfl rfl ?_
                refine m_ialdv hm 5 _ (by decide) (by decide) rfl rfl (by show _ < 24; omega) (by first | (simp only [zGS, zMS, Nat.reduceEqDiff, OfNat.ofNat_ne_ofNat, false_and, and_false, true_and, and_true, and_self, if_true, if_false, ite_true, ite_false, reduceIte, reduceCtorEq]; first | done | assumption | rfl) | assumption | exact z2_eq | exact z1_eq | (simp [zGS, zMS]; first | done | assumption) | rfl) dX10_linked_162 rfl ?_
                refine r_aload_n dX10_linked_163 rfl (zRv_ref _) rfl ?_
                refine m_geta hm 6 5 lfX10_22 rfl (by decide) dX10_linked_164 rfl ?_
                refine r_iload dX10_linked_167 rfl rfl ?_
                refine m_ialdv hm 5 _ (by decide) (by decide) rfl rfl (by show _ < 24; omega) (by first | (simp only [zGS, zMS, Nat.reduceEqDiff, OfNat.ofNat_ne_ofNat, false_and, and_false, true_and, and_true, and_self, if_true, if_false, ite_true, ite_false, reduceIte, reduceCtorEq]; first | done | assumption | rfl) | assumption | exact z2_eq | exact z1_eq | (simp [zGS, zMS]; first | done | assumption) | rfl) dX10_linked_169 rfl ?_
                refine r_iconst dX10_linked_170 kc_1 rfl ?_
                refine r_isubN (by omega) dX10_linked_171 rfl ?_
                refine r_icmp_neN (by omega) (by omega) (r := 179) dX10_linked_172 (by decide) rfl (fun c_172 => ?_) (fun c_172 => ?_)
                · refine r_iconst dX10_linked_179 kc_0 rfl ?_
                  refine r_istore (ls' := [_, _, _, _, _, _, _, _]) dX10_linked_180 (Nat.le_of_ble_eq_true rfl) rfl rfl ?_
                  rw [decide_eq_false c_172] at tl
                  exact tl
                · refine r_iconst dX10_linked_175 kc_1 rfl ?_
                  refine r_goto (r := 180) dX10_linked_176 (by decide) ?_
                  refine r_istore (ls' := [_, _, _, _, _, _, _, _]) dX10_linked_180 (Nat.le_of_ble_eq_true rfl) rfl rfl ?_
                  rw [decide_eq_true c_172] at tl
                  exact tl
          · exact absurd rfl c_124
      · have hB : bsdB T 126 p e b = true := by unfold bsdB; rw [hk]; rfl
        rw [hB] at tl
        refine r_iload dX10_linked_114 rfl rfl ?_
        refine r_iload dX10_linked_116 rfl rfl ?_
        refine r_icmp_geN (by omega) (by omega) (r := 215) dX10_linked_118 (by decide) rfl (fun c_118 => ?_) (fun c_118 => ?_)
        · exact absurd c_118 (by omega)
        · refine r_iload_n dX10_linked_121 rfl rfl ?_
          refine r_bipush dX10_linked_122 kb_43 rfl ?_
          refine r_icmp_eqN (by omega) (by omega) (r := 133) dX10_linked_124 (by decide) rfl (fun c_124 => ?_) (fun c_124 => ?_)
          · exact absurd c_124 (by decide)
          · refine r_iload_n dX10_linked_127 rfl rfl ?_
            refine r_bipush dX10_linked_128 kb_126 rfl ?_
            refine r_icmp_neN (by omega) (by omega) (r := 215) dX10_linked_130 (by decide) rfl (fun c_130 => ?_) (fun c_130 => ?_)
            · exact absurd rfl c_130
            · refine r_aload_n dX10_linked_133 rfl (zRv_ref _) rfl ?_
              refine m_geta hm 2 1 lfX10_7 rfl (by decide) dX10_linked_134 rfl ?_
              refine r_iload dX10_linked_137 rfl rfl ?_
              refine m_ialdv hm 1 _ (by decide) (by decide) rfl rfl (by show _ < 24; omega) (by first | (simp only [zGS, zMS, Nat.reduceEqDiff, OfNat.ofNat_ne_ofNat, false_and, and_false, true_and, and_true, and_self, if_true, if_false, ite_true, ite_false, reduceIte, reduceCtorEq]; first | done | assumption | rfl) | assumption | exact z2_eq | exact z1_eq | (simp [zGS, zMS]; first | done | assumption) | rfl) dX10_linked_139 rfl ?_
              refine r_aload_n dX10_linked_140 rfl (zRv_ref _) rfl ?_
              refine m_geta hm 2 1 lfX10_7 rfl (by decide) dX10_linked_141 rfl ?_
              refine r_iload dX10_linked_144 rfl rfl ?_
              refine m_ialdv hm 1 _ (by decide) (by decide) rfl rfl (by show _ < 24; omega) (by first | (simp only [zGS, zMS, Nat.reduceEqDiff, OfNat.ofNat_ne_ofNat, false_and, and_false, true_and, and_true, and_self, if_true, if_false, ite_true, ite_false, reduceIte, reduceCtorEq]; first | done | assumption | rfl) | assumption | exact z2_eq | exact z1_eq | (simp [zGS, zMS]; first | done | assumption) | rfl) dX10_linked_146 rfl ?_
              refine r_icmp_ne (r := 179) dX10_linked_147 (by decide) rfl (fun c_147 => ?_) (fun c_147 => ?_)
              · exact absurd rfl c_147
              · refine r_iload_n dX10_linked_150 rfl rfl ?_
                refine r_bipush dX10_linked_151 kb_126 rfl ?_
                refine r_icmp_eqN (by omega) (by omega) (r := 175) dX10_linked_153 (by decide) rfl (fun c_153 => ?_) (fun c_153 => ?_)
                · refine r_iconst dX10_linked_175 kc_1 rfl ?_
                  refine r_goto (r := 180) dX10_linked_176 (by decide) ?_
                  refine r_istore (ls' := [_, _, _, _, _, _, _, _]) dX10_linked_180 (Nat.le_of_ble_eq_true rfl) rfl rfl ?_
                  exact tl
                · exact absurd rfl c_153
