/-! ===== the model: winnerOf ===== -/
/-- one name's leader -/
def offN (wt : Int32) (k n : Nat) : List PDecl → PLd → PLd
  | [], o => o
  | D :: ds, o => offN wt k n ds (if n = D.1 then offO o k D wt else o)
theorem offD_n {wt : Int32} {k n : Nat} : ∀ {ds : List PDecl} {L : Nat → PLd}, offD wt k ds L n = offN wt k n ds (L n)
  | [], L => rfl
  | D :: ds, L => by
    show offD wt k ds (fun n => if n = D.1 then offO (L n) k D wt else L n) n = offN wt k n ds (if n = D.1 then offO (L n) k D wt else L n)
    rw [offD_n]
theorem offN_snoc {wt : Int32} {k n : Nat} {D : PDecl} : ∀ {ds : List PDecl} {o : PLd}, offN wt k n (ds ++ [D]) o = (if n = D.1 then offO (offN wt k n ds o) k D wt else offN wt k n ds o)
  | [], o => rfl
  | D0 :: ds, o => by
    show offN wt k n (ds ++ [D]) (if n = D0.1 then offO o k D0 wt else o) = _
    rw [offN_snoc]
    rfl
def ldA (T : List PEl) (Rs : List PRule) (e n r i : Nat) : PLd := match Rs[r]? with
  | some R => if hvI T e R.1 (-1) = -1 then leadN T Rs r e n else offN (hvI T e R.1 (-1)) r n (R.2.take i) (leadN T Rs r e n)
  | none => leadN T Rs r e n
theorem ldA_0 {T : List PEl} {Rs : List PRule} {e n r : Nat} : ldA T Rs e n r 0 = leadN T Rs r e n := by
  unfold ldA
  cases Rs[r]? with
  | none => rfl
  | some R =>
    simp only []
    split
    · rfl
    · rfl
theorem ldA_s {T : List PEl} {Rs : List PRule} {e n r i : Nat} {R : PRule} (hR : Rs[r]? = some R) : ldA T Rs e n r (i + 1) = (match R.2[i]? with
    | none => ldA T Rs e n r i
    | some D => if hvI T e R.1 (-1) = -1 then ldA T Rs e n r i else if n = D.1 then offO (ldA T Rs e n r i) r D (hvI T e R.1 (-1)) else ldA T Rs e n r i) := by
  unfold ldA
  rw [hR]
  simp only []
  rw [List.take_add_one]
  cases hD : R.2[i]? with
  | none =>
    rw [show (none : Option PDecl).toList = [] from rfl, List.append_nil]
  | some D =>
    simp only []
    rw [show (some D).toList = [D] from rfl, offN_snoc]
    split
    · rfl
    · rfl
theorem ldA_4 {T : List PEl} {Rs : List PRule} {e n r : Nat} {R : PRule} (hR : Rs[r]? = some R) (hl : R.2.length ≤ 4) : ldA T Rs e n r 4 = ldA T Rs e n (r + 1) 0 := by
  rw [ldA_0]
  have h1 : leadN T Rs (r + 1) e n = (match Rs[r]? with
    | some R => entR T R r e (leadN T Rs r e)
    | none => leadN T Rs r e) n := rfl
  rw [h1]
  unfold ldA
  rw [hR]
  simp only []
  unfold entR
  rw [List.take_of_length_le hl]
  split
  · rfl
  · rw [offD_n]
def ldB (T : List PEl) (Rs : List PRule) (e n d : Nat) : PLd := ldA T Rs e n (d / 4) (d % 4)
theorem ldB_s {T : List PEl} {Rs : List PRule} {e n d : Nat} {R : PRule} (hR : Rs[d / 4]? = some R) (hl : R.2.length ≤ 4) : ldB T Rs e n (d + 1) = (match R.2[d % 4]? with
    | none => ldB T Rs e n d
    | some D => if hvI T e R.1 (-1) = -1 then ldB T Rs e n d else if n = D.1 then offO (ldB T Rs e n d) (d / 4) D (hvI T e R.1 (-1)) else ldB T Rs e n d) := by
  have h0 : ldB T Rs e n (d + 1) = ldA T Rs e n (d / 4) (d % 4 + 1) := by
    unfold ldB
    by_cases c : d % 4 = 3
    · rw [c, show (d + 1) / 4 = d / 4 + 1 by omega, show (d + 1) % 4 = 0 by omega, ← ldA_4 hR hl]
    · rw [show (d + 1) / 4 = d / 4 by omega, show (d + 1) % 4 = d % 4 + 1 by omega]
  rw [h0, ldA_s hR]
  rfl
theorem ldB_0 {T : List PEl} {Rs : List PRule} {e n : Nat} : ldB T Rs e n 0 = none := by
  show ldA T Rs e n 0 0 = none
  rw [ldA_0]
  rfl
theorem ldB_e {T : List PEl} {Rs : List PRule} {e n : Nat} : ldB T Rs e n (4 * Rs.length) = ldD T Rs e n := by
  unfold ldB
  rw [show 4 * Rs.length / 4 = Rs.length by omega, show 4 * Rs.length % 4 = 0 by omega, ldA_0]
/-- the best so far -/
def bsR (T : List PEl) (Rs : List PRule) (e : Nat) (o : PLd) (b : Int32) : Prop := match o with
  | none => b = -1
  | some (k, D, wt) => ∃ i R, Rs[k]? = some R ∧ R.2[i]? = some D ∧ i < 4 ∧ k < 16 ∧ b = nI (4 * k + i) ∧ wt = hvI T e R.1 (-1)
theorem q_rank (E : ZE) (mo : Nat) (hm : E.2.2.2.2 = some mo) (w : ZW) (sg : ZM) (d r i : Nat) (hr : r < 16) (hi : i < 4) (T : List PEl) (R : PRule) (D : PDecl) (h : svR sg T r R) (hD : R.2[i]? = some D) : CallQ E MX10_rank [.ref mo, .int (nI (4 * r + i))] w sg d 0 0 (fun v w' sg' => v = some (.int (nI D.2.2.1)) ∧ w = w' ∧ sg = sg') := by
  obtain ⟨-, -, ⟨og, h1, h2, h3⟩, -⟩ := h
  obtain ⟨-, -, -, -, b, h4, h5⟩ := h3 i D hD
  have h2' : ma sg 9 ((4 * r + i) / 4) = nI og := by rw [show (4 * r + i) / 4 = r by omega]; exact h2
  refine CallQ.of rfl (by simp [Value.category]) (Nat.le_of_ble_eq_true rfl) ?_
  rw [h5]
  cases b with
  | true =>
    rw [if_pos rfl]
    refine r_aload_n dX10_rank_0 rfl (zRv_ref _) rfl ?_
    refine m_geta hm 42 30 lfX10_100 rfl (by decide) dX10_rank_1 rfl ?_
    refine r_iload_n dX10_rank_4 rfl rfl ?_
    refine m_zaldv hm 30 _ (by decide) (by decide) rfl rfl (by show _ < 64; omega) (by first | (simp only [zGS, zMS, Nat.reduceEqDiff, OfNat.ofNat_ne_ofNat, false_and, and_false, true_and, and_true, and_self, if_true, if_false, ite_true, ite_false, reduceIte, reduceCtorEq]; first | done | assumption | rfl) | assumption | exact z2_eq | exact z1_eq | (simp [zGS, zMS]; first | done | assumption) | rfl) dX10_rank_5 rfl ?_
    refine r_if_eqB (r := 22) dX10_rank_6 (by decide) rfl (fun c_6 => ?_) (fun c_6 => ?_)
    · cases c_6
    · refine r_iconst dX10_rank_9 kc_5 rfl ?_
      refine r_aload_n dX10_rank_10 rfl (zRv_ref _) rfl ?_
      refine m_geta hm 11 9 lfX10_35 rfl (by decide) dX10_rank_11 rfl ?_
      refine r_iload_n dX10_rank_14 rfl rfl ?_
      refine r_iconst dX10_rank_15 kc_4 rfl ?_
      refine r_idivN (by omega) (by omega) (by omega) dX10_rank_16 rfl ?_
      refine m_ialdv hm 9 _ (by decide) (by decide) rfl rfl (by show _ < 16; omega) (by first | (simp only [zGS, zMS, Nat.reduceEqDiff, OfNat.ofNat_ne_ofNat, false_and, and_false, true_and, and_true, and_self, if_true, if_false, ite_true, ite_false, reduceIte, reduceCtorEq]; first | done | assumption | rfl) | assumption | exact z2_eq | exact z1_eq | (simp [zGS, zMS]; first | done | assumption) | rfl) dX10_rank_17 rfl ?_
      refine r_isubN (by omega) dX10_rank_18 rfl ?_
      refine r_goto (r := 30) dX10_rank_19 (by decide) ?_
      refine r_iret rfl dX10_rank_30 ?_
      exact ⟨rfl, rfl, rfl⟩
  | false =>
    rw [if_neg (by decide)]
    refine r_aload_n dX10_rank_0 rfl (zRv_ref _) rfl ?_
    refine m_geta hm 42 30 lfX10_100 rfl (by decide) dX10_rank_1 rfl ?_
    refine r_iload_n dX10_rank_4 rfl rfl ?_
    refine m_zaldv hm 30 _ (by decide) (by decide) rfl rfl (by show _ < 64; omega) (by first | (simp only [zGS, zMS, Nat.reduceEqDiff, OfNat.ofNat_ne_ofNat, false_and, and_false, true_and, and_true, and_self, if_true, if_false, ite_true, ite_false, reduceIte, reduceCtorEq]; first | done | assumption | rfl) | assumption | exact z2_eq | exact z1_eq | (simp [zGS, zMS]; first | done | assumption) | rfl) dX10_rank_5 rfl ?_
    refine r_if_eqB (r := 22) dX10_rank_6 (by decide) rfl (fun c_6 => ?_) (fun c_6 => ?_)
    · refine r_aload_n dX10_rank_22 rfl (zRv_ref _) rfl ?_
      refine m_geta hm 11 9 lfX10_35 rfl (by decide) dX10_rank_23 rfl ?_
      refine r_iload_n dX10_rank_26 rfl rfl ?_
      refine r_iconst dX10_rank_27 kc_4 rfl ?_
      refine r_idivN (by omega) (by omega) (by omega) dX10_rank_28 rfl ?_
      refine m_ialdv hm 9 _ (by decide) (by decide) rfl rfl (by show _ < 16; omega) (by first | (simp only [zGS, zMS, Nat.reduceEqDiff, OfNat.ofNat_ne_ofNat, false_and, and_false, true_and, and_true, and_self, if_true, if_false, ite_true, ite_false, reduceIte, reduceCtorEq]; first | done | assumption | rfl) | assumption | exact z2_eq | exact z1_eq | (simp [zGS, zMS]; first | done | assumption) | rfl) dX10_rank_29 rfl ?_
      refine r_iret rfl dX10_rank_30 ?_
      exact ⟨rfl, rfl, rfl⟩
    · cases c_6
/-- from 66 on -/
theorem wn_66f (E : ZE) (mo : Nat) (hm : E.2.2.2.2 = some mo) (w : ZW) (sg : ZM) (d e n q : Nat) (hq : q < 64) (b : Int32) (x5 x6 x7 x8 : Option Value) (P : ZPhi) (K : ∀ x5 x6 x7 x8, RW E MX10_winnerOf 5 [some (.ref mo), some (.int (nI e)), some (.int (nI n)), some (.int b), some (.int (nI (q + 1))), some x5, some x6, some x7, some x8] [] w sg d 0 0 P) : RW E MX10_winnerOf 66 [some (.ref mo), some (.int (nI e)), some (.int (nI n)), some (.int b), some (.int (nI q)), x5, x6, x7, x8] [.int (nI 0)] w sg d 0 0 P := by
  refine r_istore (ls' := [_, _, _, _, _, _, _, _, _]) dX10_winnerOf_66 (Nat.le_of_ble_eq_true rfl) rfl rfl ?_
  refine r_iload dX10_winnerOf_68 rfl rfl ?_
  refine r_if_eqN (by omega) (r := 82) dX10_winnerOf_70 (by decide) rfl (fun c_70 => ?_) (fun c_70 => ?_)
  · refine r_iconst dX10_winnerOf_82 kc_0 rfl ?_
    refine r_istore (ls' := [_, _, _, _, _, _, _, _, _]) dX10_winnerOf_83 (Nat.le_of_ble_eq_true rfl) rfl rfl ?_
    refine r_iload dX10_winnerOf_85 rfl rfl ?_
    refine r_if_eqN (by omega) (r := 129) dX10_winnerOf_87 (by decide) rfl (fun c_87 => ?_) (fun c_87 => ?_)
    · refine r_iconst dX10_winnerOf_129 kc_0 rfl ?_
      refine r_istore (ls' := [_, _, _, _, _, _, _, _, _]) dX10_winnerOf_130 (Nat.le_of_ble_eq_true rfl) rfl rfl ?_
      refine r_iload dX10_winnerOf_132 rfl rfl ?_
      refine r_if_neN (by omega) (r := 175) dX10_winnerOf_134 (by decide) rfl (fun c_134 => ?_) (fun c_134 => ?_)
      · exact absurd rfl c_134
      · refine r_iload dX10_winnerOf_137 rfl rfl ?_
        refine r_if_eqN (by omega) (r := 179) dX10_winnerOf_139 (by decide) rfl (fun c_139 => ?_) (fun c_139 => ?_)
        · refine r_iconst dX10_winnerOf_179 kc_0 rfl ?_
          refine r_istore (ls' := [_, _, _, _, _, _, _, _, _]) dX10_winnerOf_180 (Nat.le_of_ble_eq_true rfl) rfl rfl ?_
          refine r_iload dX10_winnerOf_182 rfl rfl ?_
          refine r_if_eqN (by omega) (r := 192) dX10_winnerOf_184 (by decide) rfl (fun c_184 => ?_) (fun c_184 => ?_)
          · refine r_iload_n dX10_winnerOf_192 rfl rfl ?_
            refine r_istore_n (ls' := [_, _, _, _, _, _, _, _, _]) dX10_winnerOf_193 (Nat.le_of_ble_eq_true rfl) rfl rfl ?_
            refine r_iinc (ls' := [_, _, _, _, _, _, _, _, _]) dX10_winnerOf_194 (Nat.le_of_ble_eq_true rfl) rfl (zinc1 _) rfl rfl ?_
            refine r_goto (r := 5) dX10_winnerOf_197 (by decide) ?_
            exact K _ _ _ _
          · exact absurd rfl c_184
        · exact absurd rfl c_139
    · exact absurd rfl c_87
  · exact absurd rfl c_70
theorem wn_66n (E : ZE) (mo : Nat) (hm : E.2.2.2.2 = some mo) (w : ZW) (sg : ZM) (d e n q : Nat) (hq : q < 64) (x5 x6 x7 x8 : Option Value) (P : ZPhi) (K : ∀ x5 x6 x7 x8, RW E MX10_winnerOf 5 [some (.ref mo), some (.int (nI e)), some (.int (nI n)), some (.int (nI q)), some (.int (nI (q + 1))), some x5, some x6, some x7, some x8] [] w sg d 0 0 P) : RW E MX10_winnerOf 66 [some (.ref mo), some (.int (nI e)), some (.int (nI n)), some (.int (-1)), some (.int (nI q)), x5, x6, x7, x8] [.int (nI 1)] w sg d 0 0 P := by
  refine r_istore (ls' := [_, _, _, _, _, _, _, _, _]) dX10_winnerOf_66 (Nat.le_of_ble_eq_true rfl) rfl rfl ?_
  refine r_iload dX10_winnerOf_68 rfl rfl ?_
  refine r_if_eqN (by omega) (r := 82) dX10_winnerOf_70 (by decide) rfl (fun c_70 => ?_) (fun c_70 => ?_)
  · exact absurd c_70 (by decide)
  · refine r_iload_n dX10_winnerOf_73 rfl rfl ?_
    refine r_iconst dX10_winnerOf_74 kc_m1 rfl ?_
    refine r_icmp_ne (r := 82) dX10_winnerOf_75 (by decide) rfl (fun c_75 => ?_) (fun c_75 => ?_)
    · exact absurd rfl c_75
    · refine r_iconst dX10_winnerOf_78 kc_1 rfl ?_
      refine r_goto (r := 83) dX10_winnerOf_79 (by decide) ?_
      refine r_istore (ls' := [_, _, _, _, _, _, _, _, _]) dX10_winnerOf_83 (Nat.le_of_ble_eq_true rfl) rfl rfl ?_
      refine r_iload dX10_winnerOf_85 rfl rfl ?_
      refine r_if_eqN (by omega) (r := 129) dX10_winnerOf_87 (by decide) rfl (fun c_87 => ?_) (fun c_87 => ?_)
      · exact absurd c_87 (by decide)
      · refine r_iload dX10_winnerOf_90 rfl rfl ?_
        refine r_if_neN (by omega) (r := 129) dX10_winnerOf_92 (by decide) rfl (fun c_92 => ?_) (fun c_92 => ?_)
        · refine r_iconst dX10_winnerOf_129 kc_0 rfl ?_
          refine r_istore (ls' := [_, _, _, _, _, _, _, _, _]) dX10_winnerOf_130 (Nat.le_of_ble_eq_true rfl) rfl rfl ?_
          refine r_iload dX10_winnerOf_132 rfl rfl ?_
          refine r_if_neN (by omega) (r := 175) dX10_winnerOf_134 (by decide) rfl (fun c_134 => ?_) (fun c_134 => ?_)
          · refine r_iconst dX10_winnerOf_175 kc_1 rfl ?_
            refine r_goto (r := 180) dX10_winnerOf_176 (by decide) ?_
            refine r_istore (ls' := [_, _, _, _, _, _, _, _, _]) dX10_winnerOf_180 (Nat.le_of_ble_eq_true rfl) rfl rfl ?_
            refine r_iload dX10_winnerOf_182 rfl rfl ?_
            refine r_if_eqN (by omega) (r := 192) dX10_winnerOf_184 (by decide) rfl (fun c_184 => ?_) (fun c_184 => ?_)
            · exact absurd c_184 (by decide)
            · refine r_iload dX10_winnerOf_187 rfl rfl ?_
              refine r_goto (r := 193) dX10_winnerOf_189 (by decide) ?_
              refine r_istore_n (ls' := [_, _, _, _, _, _, _, _, _]) dX10_winnerOf_193 (Nat.le_of_ble_eq_true rfl) rfl rfl ?_
              refine r_iinc (ls' := [_, _, _, _, _, _, _, _, _]) dX10_winnerOf_194 (Nat.le_of_ble_eq_true rfl) rfl (zinc1 _) rfl rfl ?_
              refine r_goto (r := 5) dX10_winnerOf_197 (by decide) ?_
              exact K _ _ _ _
          · exact absurd c_134 (by decide)
        · exact absurd c_92 (by decide)
theorem wn_66s (E : ZE) (mo : Nat) (hm : E.2.2.2.2 = some mo) (w : ZW) (sg : ZM) (d e n q q0 rd rb : Nat) (hd : 1 ≤ d) (he : e < 24) (hq : q < 64) (hq0 : q0 < 64) (wd wb : Int32) (h1 : ma sg 26 (24 * (q / 4) + e) = wd) (h2 : ma sg 26 (24 * (q0 / 4) + e) = wb) (hrd : rd < 100) (hrb : rb < 100) (r1 : CallQ E MX10_rank [.ref mo, .int (nI q)] w sg (d - 1) 0 0 (fun v w' sg' => v = some (.int (nI rd)) ∧ w = w' ∧ sg = sg')) (r2 : CallQ E MX10_rank [.ref mo, .int (nI q0)] w sg (d - 1) 0 0 (fun v w' sg' => v = some (.int (nI rb)) ∧ w = w' ∧ sg = sg')) (x5 x6 x7 x8 : Option Value) (P : ZPhi) (K : ∀ x5 x6 x7 x8, RW E MX10_winnerOf 5 [some (.ref mo), some (.int (nI e)), some (.int (nI n)), some (.int (if rb < rd ∨ (rd = rb ∧ ¬ wd < wb) then nI q else nI q0)), some (.int (nI (q + 1))), some x5, some x6, some x7, some x8] [] w sg d 0 0 P) : RW E MX10_winnerOf 66 [some (.ref mo), some (.int (nI e)), some (.int (nI n)), some (.int (nI q0)), some (.int (nI q)), x5, x6, x7, x8] [.int (nI 1)] w sg d 0 0 P := by
  refine r_istore (ls' := [_, _, _, _, _, _, _, _, _]) dX10_winnerOf_66 (Nat.le_of_ble_eq_true rfl) rfl rfl ?_
  refine r_iload dX10_winnerOf_68 rfl rfl ?_
  refine r_if_eqN (by omega) (r := 82) dX10_winnerOf_70 (by decide) rfl (fun c_70 => ?_) (fun c_70 => ?_)
  · exact absurd c_70 (by decide)
  · refine r_iload_n dX10_winnerOf_73 rfl rfl ?_
    refine r_iconst dX10_winnerOf_74 kc_m1 rfl ?_
    refine r_icmp_ne (r := 82) dX10_winnerOf_75 (by decide) rfl (fun c_75 => ?_) (fun c_75 => ?_)
    · refine r_iconst dX10_winnerOf_82 kc_0 rfl ?_
      refine r_istore (ls' := [_, _, _, _, _, _, _, _, _]) dX10_winnerOf_83 (Nat.le_of_ble_eq_true rfl) rfl rfl ?_
      refine r_iload dX10_winnerOf_85 rfl rfl ?_
      refine r_if_eqN (by omega) (r := 129) dX10_winnerOf_87 (by decide) rfl (fun c_87 => ?_) (fun c_87 => ?_)
      · exact absurd c_87 (by decide)
      · refine r_iload dX10_winnerOf_90 rfl rfl ?_
        refine r_if_neN (by omega) (r := 129) dX10_winnerOf_92 (by decide) rfl (fun c_92 => ?_) (fun c_92 => ?_)
        · exact absurd rfl c_92
        · refine r_aload_n dX10_winnerOf_95 rfl (zRv_ref _) rfl ?_
          refine m_geta hm 38 26 lfX10_88 rfl (by decide) dX10_winnerOf_96 rfl ?_
          refine r_bipush dX10_winnerOf_99 kb_24 rfl ?_
          refine r_iload dX10_winnerOf_101 rfl rfl ?_
          refine r_iconst dX10_winnerOf_103 kc_4 rfl ?_
          refine r_idivN (by omega) (by omega) (by omega) dX10_winnerOf_104 rfl ?_
          refine r_imulN dX10_winnerOf_105 rfl ?_
          refine r_iload_n dX10_winnerOf_106 rfl rfl ?_
          refine r_iaddN dX10_winnerOf_107 rfl ?_
          refine m_ialdv hm 26 _ (by decide) (by decide) rfl rfl (by show _ < 384; omega) (by first | (simp only [zGS, zMS, Nat.reduceEqDiff, OfNat.ofNat_ne_ofNat, false_and, and_false, true_and, and_true, and_self, if_true, if_false, ite_true, ite_false, reduceIte, reduceCtorEq]; first | done | assumption | rfl) | assumption | exact z2_eq | exact z1_eq | (simp [zGS, zMS]; first | done | assumption) | rfl) dX10_winnerOf_108 rfl ?_
          refine r_aload_n dX10_winnerOf_109 rfl (zRv_ref _) rfl ?_
          refine m_geta hm 38 26 lfX10_88 rfl (by decide) dX10_winnerOf_110 rfl ?_
          refine r_bipush dX10_winnerOf_113 kb_24 rfl ?_
          refine r_iload_n dX10_winnerOf_115 rfl rfl ?_
          refine r_iconst dX10_winnerOf_116 kc_4 rfl ?_
          refine r_idivN (by omega) (by omega) (by omega) dX10_winnerOf_117 rfl ?_
          refine r_imulN dX10_winnerOf_118 rfl ?_
          refine r_iload_n dX10_winnerOf_119 rfl rfl ?_
          refine r_iaddN dX10_winnerOf_120 rfl ?_
          refine m_ialdv hm 26 _ (by decide) (by decide) rfl rfl (by show _ < 384; omega) (by first | (simp only [zGS, zMS, Nat.reduceEqDiff, OfNat.ofNat_ne_ofNat, false_and, and_false, true_and, and_true, and_self, if_true, if_false, ite_true, ite_false, reduceIte, reduceCtorEq]; first | done | assumption | rfl) | assumption | exact z2_eq | exact z1_eq | (simp [zGS, zMS]; first | done | assumption) | rfl) dX10_winnerOf_121 rfl ?_
          refine r_icmp_lt (r := 129) dX10_winnerOf_122 (by decide) rfl (fun c_122 => ?_) (fun c_122 => ?_)
          · refine r_iconst dX10_winnerOf_129 kc_0 rfl ?_
            refine r_istore (ls' := [_, _, _, _, _, _, _, _, _]) dX10_winnerOf_130 (Nat.le_of_ble_eq_true rfl) rfl rfl ?_
            refine r_iload dX10_winnerOf_132 rfl rfl ?_
            refine r_if_neN (by omega) (r := 175) dX10_winnerOf_134 (by decide) rfl (fun c_134 => ?_) (fun c_134 => ?_)
            · exact absurd rfl c_134
            · refine r_iload dX10_winnerOf_137 rfl rfl ?_
              refine r_if_eqN (by omega) (r := 179) dX10_winnerOf_139 (by decide) rfl (fun c_139 => ?_) (fun c_139 => ?_)
              · exact absurd c_139 (by decide)
              · refine r_aload_n dX10_winnerOf_142 rfl (zRv_ref _) rfl ?_
                refine r_iload dX10_winnerOf_143 rfl rfl ?_
                refine r_callV MX10_rank 1 [_] lvX10_310 (Or.inr (Or.inl ⟨hm, rfl⟩)) (r1) rfl rfl (by first | exact Nat.le_of_ble_eq_true rfl | (simp [zcat_rf, Value.category]; done)) (by omega) (Nat.le_of_eq (Nat.zero_add _)) (Nat.le_of_eq (Nat.zero_add _)) dX10_winnerOf_145 rfl (fun v_ w_ sg_ hq_ => ?_)
                obtain ⟨rfl, rfl, rfl⟩ := hq_
                refine r_aload_n dX10_winnerOf_148 rfl (zRv_ref _) rfl ?_
                refine r_iload_n dX10_winnerOf_149 rfl rfl ?_
                refine r_callV MX10_rank 1 [_] lvX10_310 (Or.inr (Or.inl ⟨hm, rfl⟩)) (r2) rfl rfl (by first | exact Nat.le_of_ble_eq_true rfl | (simp [zcat_rf, Value.category]; done)) (by omega) (Nat.le_of_eq (Nat.zero_add _)) (Nat.le_of_eq (Nat.zero_add _)) dX10_winnerOf_150 rfl (fun v_ w_ sg_ hq_ => ?_)
                obtain ⟨rfl, rfl, rfl⟩ := hq_
                refine r_icmp_gtN (by omega) (by omega) (r := 175) dX10_winnerOf_153 (by decide) rfl (fun c_153 => ?_) (fun c_153 => ?_)
                · refine r_iconst dX10_winnerOf_175 kc_1 rfl ?_
                  refine r_goto (r := 180) dX10_winnerOf_176 (by decide) ?_
                  refine r_istore (ls' := [_, _, _, _, _, _, _, _, _]) dX10_winnerOf_180 (Nat.le_of_ble_eq_true rfl) rfl rfl ?_
                  refine r_iload dX10_winnerOf_182 rfl rfl ?_
                  refine r_if_eqN (by omega) (r := 192) dX10_winnerOf_184 (by decide) rfl (fun c_184 => ?_) (fun c_184 => ?_)
                  · exact absurd c_184 (by decide)
                  · refine r_iload dX10_winnerOf_187 rfl rfl ?_
                    refine r_goto (r := 193) dX10_winnerOf_189 (by decide) ?_
                    refine r_istore_n (ls' := [_, _, _, _, _, _, _, _, _]) dX10_winnerOf_193 (Nat.le_of_ble_eq_true rfl) rfl rfl ?_
                    refine r_iinc (ls' := [_, _, _, _, _, _, _, _, _]) dX10_winnerOf_194 (Nat.le_of_ble_eq_true rfl) rfl (zinc1 _) rfl rfl ?_
                    refine r_goto (r := 5) dX10_winnerOf_197 (by decide) ?_
                    rw [if_pos (Or.inl (by omega))] at K
                    exact K _ _ _ _
                · refine r_aload_n dX10_winnerOf_156 rfl (zRv_ref _) rfl ?_
                  refine r_iload dX10_winnerOf_157 rfl rfl ?_
                  refine r_callV MX10_rank 1 [_] lvX10_310 (Or.inr (Or.inl ⟨hm, rfl⟩)) (r1) rfl rfl (by first | exact Nat.le_of_ble_eq_true rfl | (simp [zcat_rf, Value.category]; done)) (by omega) (Nat.le_of_eq (Nat.zero_add _)) (Nat.le_of_eq (Nat.zero_add _)) dX10_winnerOf_159 rfl (fun v_ w_ sg_ hq_ => ?_)
                  obtain ⟨rfl, rfl, rfl⟩ := hq_
                  refine r_aload_n dX10_winnerOf_162 rfl (zRv_ref _) rfl ?_
                  refine r_iload_n dX10_winnerOf_163 rfl rfl ?_
                  refine r_callV MX10_rank 1 [_] lvX10_310 (Or.inr (Or.inl ⟨hm, rfl⟩)) (r2) rfl rfl (by first | exact Nat.le_of_ble_eq_true rfl | (simp [zcat_rf, Value.category]; done)) (by omega) (Nat.le_of_eq (Nat.zero_add _)) (Nat.le_of_eq (Nat.zero_add _)) dX10_winnerOf_164 rfl (fun v_ w_ sg_ hq_ => ?_)
                  obtain ⟨rfl, rfl, rfl⟩ := hq_
                  refine r_icmp_neN (by omega) (by omega) (r := 179) dX10_winnerOf_167 (by decide) rfl (fun c_167 => ?_) (fun c_167 => ?_)
                  · refine r_iconst dX10_winnerOf_179 kc_0 rfl ?_
                    refine r_istore (ls' := [_, _, _, _, _, _, _, _, _]) dX10_winnerOf_180 (Nat.le_of_ble_eq_true rfl) rfl rfl ?_
                    refine r_iload dX10_winnerOf_182 rfl rfl ?_
                    refine r_if_eqN (by omega) (r := 192) dX10_winnerOf_184 (by decide) rfl (fun c_184 => ?_) (fun c_184 => ?_)
                    · refine r_iload_n dX10_winnerOf_192 rfl rfl ?_
                      refine r_istore_n (ls' := [_, _, _, _, _, _, _, _, _]) dX10_winnerOf_193 (Nat.le_of_ble_eq_true rfl) rfl rfl ?_
                      refine r_iinc (ls' := [_, _, _, _, _, _, _, _, _]) dX10_winnerOf_194 (Nat.le_of_ble_eq_true rfl) rfl (zinc1 _) rfl rfl ?_
                      refine r_goto (r := 5) dX10_winnerOf_197 (by decide) ?_
                      rw [if_neg (fun z => z.elim (fun y => by omega) (fun y => c_167 y.1))] at K
                      exact K _ _ _ _
                    · exact absurd rfl c_184
                  · refine r_iload dX10_winnerOf_170 rfl rfl ?_
                    refine r_if_eqN (by omega) (r := 179) dX10_winnerOf_172 (by decide) rfl (fun c_172 => ?_) (fun c_172 => ?_)
                    · skip -- go
                      refine r_iconst dX10_winnerOf_179 kc_0 rfl ?_
                      refine r_istore (ls' := [_, _, _, _, _, _, _, _, _]) dX10_winnerOf_180 (Nat.le_of_ble_eq_true rfl) rfl rfl ?_
                      refine r_iload dX10_winnerOf_182 rfl rfl ?_
                      refine r_if_eqN (by omega) (r := 192) dX10_winnerOf_184 (by decide) rfl (fun c_184 => ?_) (fun c_184 => ?_)
                      · refine r_iload_n dX10_winnerOf_192 rfl rfl ?_
                        refine r_istore_n (ls' := [_, _, _, _, _, _, _, _, _]) dX10_winnerOf_193 (Nat.le_of_ble_eq_true rfl) rfl rfl ?_
                        refine r_iinc (ls' := [_, _, _, _, _, _, _, _, _]) dX10_winnerOf_194 (Nat.le_of_ble_eq_true rfl) rfl (zinc1 _) rfl rfl ?_
                        refine r_goto (r := 5) dX10_winnerOf_197 (by decide) ?_
                        rw [if_neg (fun z => z.elim (fun y => by omega) (fun y => y.2 c_122))] at K
                        exact K _ _ _ _
                      · exact absurd rfl c_184
                    · exact absurd rfl c_172
          · refine r_iconst dX10_winnerOf_125 kc_1 rfl ?_
            refine r_goto (r := 130) dX10_winnerOf_126 (by decide) ?_
            refine r_istore (ls' := [_, _, _, _, _, _, _, _, _]) dX10_winnerOf_130 (Nat.le_of_ble_eq_true rfl) rfl rfl ?_
            refine r_iload dX10_winnerOf_132 rfl rfl ?_
            refine r_if_neN (by omega) (r := 175) dX10_winnerOf_134 (by decide) rfl (fun c_134 => ?_) (fun c_134 => ?_)
            · exact absurd rfl c_134
            · refine r_iload dX10_winnerOf_137 rfl rfl ?_
              refine r_if_eqN (by omega) (r := 179) dX10_winnerOf_139 (by decide) rfl (fun c_139 => ?_) (fun c_139 => ?_)
              · exact absurd c_139 (by decide)
              · refine r_aload_n dX10_winnerOf_142 rfl (zRv_ref _) rfl ?_
                refine r_iload dX10_winnerOf_143 rfl rfl ?_
                refine r_callV MX10_rank 1 [_] lvX10_310 (Or.inr (Or.inl ⟨hm, rfl⟩)) (r1) rfl rfl (by first | exact Nat.le_of_ble_eq_true rfl | (simp [zcat_rf, Value.category]; done)) (by omega) (Nat.le_of_eq (Nat.zero_add _)) (Nat.le_of_eq (Nat.zero_add _)) dX10_winnerOf_145 rfl (fun v_ w_ sg_ hq_ => ?_)
                obtain ⟨rfl, rfl, rfl⟩ := hq_
                refine r_aload_n dX10_winnerOf_148 rfl (zRv_ref _) rfl ?_
                refine r_iload_n dX10_winnerOf_149 rfl rfl ?_
                refine r_callV MX10_rank 1 [_] lvX10_310 (Or.inr (Or.inl ⟨hm, rfl⟩)) (r2) rfl rfl (by first | exact Nat.le_of_ble_eq_true rfl | (simp [zcat_rf, Value.category]; done)) (by omega) (Nat.le_of_eq (Nat.zero_add _)) (Nat.le_of_eq (Nat.zero_add _)) dX10_winnerOf_150 rfl (fun v_ w_ sg_ hq_ => ?_)
                obtain ⟨rfl, rfl, rfl⟩ := hq_
                refine r_icmp_gtN (by omega) (by omega) (r := 175) dX10_winnerOf_153 (by decide) rfl (fun c_153 => ?_) (fun c_153 => ?_)
                · refine r_iconst dX10_winnerOf_175 kc_1 rfl ?_
                  refine r_goto (r := 180) dX10_winnerOf_176 (by decide) ?_
                  refine r_istore (ls' := [_, _, _, _, _, _, _, _, _]) dX10_winnerOf_180 (Nat.le_of_ble_eq_true rfl) rfl rfl ?_
                  refine r_iload dX10_winnerOf_182 rfl rfl ?_
                  refine r_if_eqN (by omega) (r := 192) dX10_winnerOf_184 (by decide) rfl (fun c_184 => ?_) (fun c_184 => ?_)
                  · exact absurd c_184 (by decide)
                  · refine r_iload dX10_winnerOf_187 rfl rfl ?_
                    refine r_goto (r := 193) dX10_winnerOf_189 (by decide) ?_
                    refine r_istore_n (ls' := [_, _, _, _, _, _, _, _, _]) dX10_winnerOf_193 (Nat.le_of_ble_eq_true rfl) rfl rfl ?_
                    refine r_iinc (ls' := [_, _, _, _, _, _, _, _, _]) dX10_winnerOf_194 (Nat.le_of_ble_eq_true rfl) rfl (zinc1 _) rfl rfl ?_
                    refine r_goto (r := 5) dX10_winnerOf_197 (by decide) ?_
                    rw [if_pos (Or.inl (by omega))] at K
                    exact K _ _ _ _
                · refine r_aload_n dX10_winnerOf_156 rfl (zRv_ref _) rfl ?_
                  refine r_iload dX10_winnerOf_157 rfl rfl ?_
                  refine r_callV MX10_rank 1 [_] lvX10_310 (Or.inr (Or.inl ⟨hm, rfl⟩)) (r1) rfl rfl (by first | exact Nat.le_of_ble_eq_true rfl | (simp [zcat_rf, Value.category]; done)) (by omega) (Nat.le_of_eq (Nat.zero_add _)) (Nat.le_of_eq (Nat.zero_add _)) dX10_winnerOf_159 rfl (fun v_ w_ sg_ hq_ => ?_)
                  obtain ⟨rfl, rfl, rfl⟩ := hq_
                  refine r_aload_n dX10_winnerOf_162 rfl (zRv_ref _) rfl ?_
                  refine r_iload_n dX10_winnerOf_163 rfl rfl ?_
                  refine r_callV MX10_rank 1 [_] lvX10_310 (Or.inr (Or.inl ⟨hm, rfl⟩)) (r2) rfl rfl (by first | exact Nat.le_of_ble_eq_true rfl | (simp [zcat_rf, Value.category]; done)) (by omega) (Nat.le_of_eq (Nat.zero_add _)) (Nat.le_of_eq (Nat.zero_add _)) dX10_winnerOf_164 rfl (fun v_ w_ sg_ hq_ => ?_)
                  obtain ⟨rfl, rfl, rfl⟩ := hq_
                  refine r_icmp_neN (by omega) (by omega) (r := 179) dX10_winnerOf_167 (by decide) rfl (fun c_167 => ?_) (fun c_167 => ?_)
                  · refine r_iconst dX10_winnerOf_179 kc_0 rfl ?_
                    refine r_istore (ls' := [_, _, _, _, _, _, _, _, _]) dX10_winnerOf_180 (Nat.le_of_ble_eq_true rfl) rfl rfl ?_
                    refine r_iload dX10_winnerOf_182 rfl rfl ?_
                    refine r_if_eqN (by omega) (r := 192) dX10_winnerOf_184 (by decide) rfl (fun c_184 => ?_) (fun c_184 => ?_)
                    · refine r_iload_n dX10_winnerOf_192 rfl rfl ?_
                      refine r_istore_n (ls' := [_, _, _, _, _, _, _, _, _]) dX10_winnerOf_193 (Nat.le_of_ble_eq_true rfl) rfl rfl ?_
                      refine r_iinc (ls' := [_, _, _, _, _, _, _, _, _]) dX10_winnerOf_194 (Nat.le_of_ble_eq_true rfl) rfl (zinc1 _) rfl rfl ?_
                      refine r_goto (r := 5) dX10_winnerOf_197 (by decide) ?_
                      rw [if_neg (fun z => z.elim (fun y => by omega) (fun y => c_167 y.1))] at K
                      exact K _ _ _ _
                    · exact absurd rfl c_184
                  · refine r_iload dX10_winnerOf_170 rfl rfl ?_
                    refine r_if_eqN (by omega) (r := 179) dX10_winnerOf_172 (by decide) rfl (fun c_172 => ?_) (fun c_172 => ?_)
                    · exact absurd c_172 (by decide)
                    · refine r_iconst dX10_winnerOf_175 kc_1 rfl ?_
                      refine r_goto (r := 180) dX10_winnerOf_176 (by decide) ?_
                      refine r_istore (ls' := [_, _, _, _, _, _, _, _, _]) dX10_winnerOf_180 (Nat.le_of_ble_eq_true rfl) rfl rfl ?_
                      refine r_iload dX10_winnerOf_182 rfl rfl ?_
                      refine r_if_eqN (by omega) (r := 192) dX10_winnerOf_184 (by decide) rfl (fun c_184 => ?_) (fun c_184 => ?_)
                      · exact absurd c_184 (by decide)
                      · refine r_iload dX10_winnerOf_187 rfl rfl ?_
                        refine r_goto (r := 193) dX10_winnerOf_189 (by decide) ?_
                        refine r_istore_n (ls' := [_, _, _, _, _, _, _, _, _]) dX10_winnerOf_193 (Nat.le_of_ble_eq_true rfl) rfl rfl ?_
                        refine r_iinc (ls' := [_, _, _, _, _, _, _, _, _]) dX10_winnerOf_194 (Nat.le_of_ble_eq_true rfl) rfl (zinc1 _) rfl rfl ?_
                        refine r_goto (r := 5) dX10_winnerOf_197 (by decide) ?_
                        rw [if_pos (Or.inr ⟨c_167, c_122⟩)] at K
                        exact K _ _ _ _
    · exact absurd c_75 (nI_neg (by omega))
theorem wn_5 (E : ZE) (mo : Nat) (hm : E.2.2.2.2 = some mo) (w : ZW) (sg : ZM) (d e n : Nat) (hd : 1 ≤ d) (T : List PEl) (Rs : List PRule) (hn : n < 10) (he : e < T.length) (h24 : T.length ≤ 24) (hl : Rs.length ≤ 16) (h8 : mi sg 8 = nI Rs.length) (hS : svT sg T Rs) : ∀ (m q : Nat) (b : Int32) (x5 x6 x7 x8 : Option Value), q + m = 4 * Rs.length → bsR T Rs e (ldB T Rs e n q) b → RW E MX10_winnerOf 5 [some (.ref mo), some (.int (nI e)), some (.int (nI n)), some (.int b), some (.int (nI q)), x5, x6, x7, x8] [] w sg d 0 0 (PN E (fun v w' sg' => (∃ b, v = some (.int b) ∧ bsR T Rs e (ldD T Rs e n) b) ∧ w = w' ∧ sg = sg')) := by
  intro m
  induction m with
  | zero =>
    intro q b x5 x6 x7 x8 hq hb
    have hq2 : q = 4 * Rs.length := by omega
    subst hq2
    rw [ldB_e] at hb
    refine r_iload dX10_winnerOf_5 rfl rfl ?_
    refine r_iconst dX10_winnerOf_7 kc_4 rfl ?_
    refine r_aload_n dX10_winnerOf_8 rfl (zRv_ref _) rfl ?_
    refine m_getiv hm 8 lfX10_274 rfl (by first | (simp only [zGS, zMS, Nat.reduceEqDiff, OfNat.ofNat_ne_ofNat, false_and, and_false, true_and, and_true, and_self, if_true, if_false, ite_true, ite_false, reduceIte, reduceCtorEq]; first | done | assumption | rfl) | assumption | exact z2_eq | exact z1_eq | (simp [zGS, zMS]; first | done | assumption) | rfl) dX10_winnerOf_9 rfl ?_
    refine r_imulN dX10_winnerOf_12 rfl ?_
    refine r_icmp_geN (by omega) (by omega) (r := 200) dX10_winnerOf_13 (by decide) rfl (fun c_13 => ?_) (fun c_13 => ?_)
    · refine r_iload_n dX10_winnerOf_200 rfl rfl ?_
      refine r_iret rfl dX10_winnerOf_201 ?_
      exact ⟨⟨b, rfl, hb⟩, rfl, rfl⟩
    · exact absurd c_13 (by omega)
  | succ m ih =>
    intro q b x5 x6 x7 x8 hq hb
    have hr : q / 4 < Rs.length := by omega
    have hqq : 4 * (q / 4) + q % 4 = q := by omega
    obtain ⟨R, hR⟩ : ∃ R, Rs[q / 4]? = some R := ⟨Rs[q / 4], List.getElem?_eq_getElem hr⟩
    have hs := hS _ R hR
    obtain ⟨s1, s2, ⟨og, s3, s4, s5⟩, s6⟩ := id hs
    have hst := ldB_s (T := T) (e := e) (n := n) hR s2
    have ih2 := fun b (hb : bsR T Rs e (ldB T Rs e n (q + 1)) b) x5 x6 x7 x8 => ih (q + 1) b (some x5) (some x6) (some x7) (some x8) (by omega) hb
    have no : bsR T Rs e (ldB T Rs e n (q + 1)) b → ∀ x5 x6 x7 x8, RW E MX10_winnerOf 66 [some (.ref mo), some (.int (nI e)), some (.int (nI n)), some (.int b), some (.int (nI q)), x5, x6, x7, x8] [.int (nI 0)] w sg d 0 0 (PN E (fun v w' sg' => (∃ b, v = some (.int b) ∧ bsR T Rs e (ldD T Rs e n) b) ∧ w = w' ∧ sg = sg')) := fun hb2 x5 x6 x7 x8 => wn_66f E mo hm w sg d e n q (by omega) b x5 x6 x7 x8 _ (fun x5 x6 x7 x8 => ih2 b hb2 x5 x6 x7 x8)
    cases hD : R.2[q % 4]? with
    | none =>
      have hlen := List.getElem?_eq_none_iff.mp hD
      rw [hD] at hst
      rw [hst] at no
      have n66 := no hb
      refine r_iload dX10_winnerOf_5 rfl rfl ?_
      refine r_iconst dX10_winnerOf_7 kc_4 rfl ?_
      refine r_aload_n dX10_winnerOf_8 rfl (zRv_ref _) rfl ?_
      refine m_getiv hm 8 lfX10_274 rfl (by first | (simp only [zGS, zMS, Nat.reduceEqDiff, OfNat.ofNat_ne_ofNat, false_and, and_false, true_and, and_true, and_self, if_true, if_false, ite_true, ite_false, reduceIte, reduceCtorEq]; first | done | assumption | rfl) | assumption | exact z2_eq | exact z1_eq | (simp [zGS, zMS]; first | done | assumption) | rfl) dX10_winnerOf_9 rfl ?_
      refine r_imulN dX10_winnerOf_12 rfl ?_
      refine r_icmp_geN (by omega) (by omega) (r := 200) dX10_winnerOf_13 (by decide) rfl (fun c_13 => ?_) (fun c_13 => ?_)
      · exact absurd c_13 (by omega)
      · refine r_iload dX10_winnerOf_16 rfl rfl ?_
        refine r_iconst dX10_winnerOf_18 kc_4 rfl ?_
        refine r_iremN (by omega) (by omega) (by omega) dX10_winnerOf_19 rfl ?_
        refine r_aload_n dX10_winnerOf_20 rfl (zRv_ref _) rfl ?_
        refine m_geta hm 39 27 lfX10_91 rfl (by decide) dX10_winnerOf_21 rfl ?_
        refine r_iload dX10_winnerOf_24 rfl rfl ?_
        refine r_iconst dX10_winnerOf_26 kc_4 rfl ?_
        refine r_idivN (by omega) (by omega) (by omega) dX10_winnerOf_27 rfl ?_
        refine m_ialdv hm 27 _ (by decide) (by decide) rfl rfl (by show _ < 16; omega) (by first | (simp only [zGS, zMS, Nat.reduceEqDiff, OfNat.ofNat_ne_ofNat, false_and, and_false, true_and, and_true, and_self, if_true, if_false, ite_true, ite_false, reduceIte, reduceCtorEq]; first | done | assumption | rfl) | assumption | exact z2_eq | exact z1_eq | (simp [zGS, zMS]; first | done | assumption) | rfl) dX10_winnerOf_28 rfl ?_
        refine r_icmp_geN (by omega) (by omega) (r := 65) dX10_winnerOf_29 (by decide) rfl (fun c_29 => ?_) (fun c_29 => ?_)
        · refine r_iconst dX10_winnerOf_65 kc_0 rfl ?_
          exact n66 _ _ _ _
        · exact absurd c_29 (by omega)
    | some D =>
      have hlen := (List.getElem?_eq_some_iff.mp hD).1
      rw [hD] at hst
      simp only [] at hst
      obtain ⟨d1, d2, d3, d4, bb, d5, d6⟩ := s5 _ D hD
      rw [hqq] at d1 d2 d5
      have w1 := s6 e he
      by_cases hw : hvI T e R.1 (-1) = -1
      · rw [if_pos hw] at hst
        rw [hst] at no
        have n66 := no hb
        rw [hw] at w1
        refine r_iload dX10_winnerOf_5 rfl rfl ?_
        refine r_iconst dX10_winnerOf_7 kc_4 rfl ?_
        refine r_aload_n dX10_winnerOf_8 rfl (zRv_ref _) rfl ?_
        refine m_getiv hm 8 lfX10_274 rfl (by first | (simp only [zGS, zMS, Nat.reduceEqDiff, OfNat.ofNat_ne_ofNat, false_and, and_false, true_and, and_true, and_self, if_true, if_false, ite_true, ite_false, reduceIte, reduceCtorEq]; first | done | assumption | rfl) | assumption | exact z2_eq | exact z1_eq | (simp [zGS, zMS]; first | done | assumption) | rfl) dX10_winnerOf_9 rfl ?_
        refine r_imulN dX10_winnerOf_12 rfl ?_
        refine r_icmp_geN (by omega) (by omega) (r := 200) dX10_winnerOf_13 (by decide) rfl (fun c_13 => ?_) (fun c_13 => ?_)
        · exact absurd c_13 (by omega)
        · refine r_iload dX10_winnerOf_16 rfl rfl ?_
          refine r_iconst dX10_winnerOf_18 kc_4 rfl ?_
          refine r_iremN (by omega) (by omega) (by omega) dX10_winnerOf_19 rfl ?_
          refine r_aload_n dX10_winnerOf_20 rfl (zRv_ref _) rfl ?_
          refine m_geta hm 39 27 lfX10_91 rfl (by decide) dX10_winnerOf_21 rfl ?_
          refine r_iload dX10_winnerOf_24 rfl rfl ?_
          refine r_iconst dX10_winnerOf_26 kc_4 rfl ?_
          refine r_idivN (by omega) (by omega) (by omega) dX10_winnerOf_27 rfl ?_
          refine m_ialdv hm 27 _ (by decide) (by decide) rfl rfl (by show _ < 16; omega) (by first | (simp only [zGS, zMS, Nat.reduceEqDiff, OfNat.ofNat_ne_ofNat, false_and, and_false, true_and, and_true, and_self, if_true, if_false, ite_true, ite_false, reduceIte, reduceCtorEq]; first | done | assumption | rfl) | assumption | exact z2_eq | exact z1_eq | (simp [zGS, zMS]; first | done | assumption) | rfl) dX10_winnerOf_28 rfl ?_
          refine r_icmp_geN (by omega) (by omega) (r := 65) dX10_winnerOf_29 (by decide) rfl (fun c_29 => ?_) (fun c_29 => ?_)
          · exact absurd c_29 (by omega)
          · refine r_aload_n dX10_winnerOf_32 rfl (zRv_ref _) rfl ?_
            refine m_geta hm 40 28 lfX10_94 rfl (by decide) dX10_winnerOf_33 rfl ?_
            refine r_iload dX10_winnerOf_36 rfl rfl ?_
            refine m_ialdv hm 28 _ (by decide) (by decide) rfl rfl (by show _ < 64; omega) (by first | (simp only [zGS, zMS, Nat.reduceEqDiff, OfNat.ofNat_ne_ofNat, false_and, and_false, true_and, and_true, and_self, if_true, if_false, ite_true, ite_false, reduceIte, reduceCtorEq]; first | done | assumption | rfl) | assumption | exact z2_eq | exact z1_eq | (simp [zGS, zMS]; first | done | assumption) | rfl) dX10_winnerOf_38 rfl ?_
            refine r_iload_n dX10_winnerOf_39 rfl rfl ?_
            refine r_icmp_neN (by omega) (by omega) (r := 65) dX10_winnerOf_40 (by decide) rfl (fun c_40 => ?_) (fun c_40 => ?_)
            · refine r_iconst dX10_winnerOf_65 kc_0 rfl ?_
              exact n66 _ _ _ _
            · refine r_aload_n dX10_winnerOf_43 rfl (zRv_ref _) rfl ?_
              refine m_geta hm 38 26 lfX10_88 rfl (by decide) dX10_winnerOf_44 rfl ?_
              refine r_bipush dX10_winnerOf_47 kb_24 rfl ?_
              refine r_iload dX10_winnerOf_49 rfl rfl ?_
              refine r_iconst dX10_winnerOf_51 kc_4 rfl ?_
              refine r_idivN (by omega) (by omega) (by omega) dX10_winnerOf_52 rfl ?_
              refine r_imulN dX10_winnerOf_53 rfl ?_
              refine r_iload_n dX10_winnerOf_54 rfl rfl ?_
              refine r_iaddN dX10_winnerOf_55 rfl ?_
              refine m_ialdv hm 26 _ (by decide) (by decide) rfl rfl (by show _ < 384; omega) (by first | (simp only [zGS, zMS, Nat.reduceEqDiff, OfNat.ofNat_ne_ofNat, false_and, and_false, true_and, and_true, and_self, if_true, if_false, ite_true, ite_false, reduceIte, reduceCtorEq]; first | done | assumption | rfl) | assumption | exact z2_eq | exact z1_eq | (simp [zGS, zMS]; first | done | assumption) | rfl) dX10_winnerOf_56 rfl ?_
              refine r_iconst dX10_winnerOf_57 kc_m1 rfl ?_
              refine r_icmp_eq (r := 65) dX10_winnerOf_58 (by decide) rfl (fun c_58 => ?_) (fun c_58 => ?_)
              · refine r_iconst dX10_winnerOf_65 kc_0 rfl ?_
                exact n66 _ _ _ _
              · exact absurd rfl c_58
      · rw [if_neg hw] at hst
        by_cases hnn : n = D.1
        · rw [if_pos hnn] at hst
          have y66 : ∀ x5 x6 x7 x8, RW E MX10_winnerOf 66 [some (.ref mo), some (.int (nI e)), some (.int (nI n)), some (.int b), some (.int (nI q)), x5, x6, x7, x8] [.int (nI 1)] w sg d 0 0 (PN E (fun v w' sg' => (∃ b, v = some (.int b) ∧ bsR T Rs e (ldD T Rs e n) b) ∧ w = w' ∧ sg = sg')) := fun x5 x6 x7 x8 => by
            have hnew : bsR T Rs e (some (q / 4, D, hvI T e R.1 (-1))) (nI q) := ⟨q % 4, R, hR, hD, by omega, by omega, by rw [hqq], rfl⟩
            cases hL : ldB T Rs e n q with
            | none =>
              rw [hL] at hb hst
              have hb1 : b = -1 := hb
              subst hb1
              exact wn_66n E mo hm w sg d e n q (by omega) x5 x6 x7 x8 _ (fun x5 x6 x7 x8 => ih2 _ (by rw [hst]; exact hnew) x5 x6 x7 x8)
            | some L =>
              obtain ⟨k0, D0, w0⟩ := L
              rw [hL] at hb hst
              obtain ⟨i0, R0, g1, g2, g3, g4, rfl, rfl⟩ := id hb
              have hs0 := hS _ R0 g1
              have w2 := hs0.2.2.2 e he
              have rk1 := q_rank E mo hm w sg (d - 1) (q / 4) (q % 4) (by omega) (by omega) T R D hs hD
              rw [hqq] at rk1
              have rk2 := q_rank E mo hm w sg (d - 1) k0 i0 g4 g3 T R0 D0 hs0 g2
              have hk0 : (4 * k0 + i0) / 4 = k0 := by omega
              obtain ⟨og0, t3, -, t5⟩ := hs0.2.2.1
              obtain ⟨-, -, -, -, b0, -, t6⟩ := t5 _ D0 g2
              have rb1 : D.2.2.1 < 100 := by rw [d6]; split <;> omega
              have rb2 : D0.2.2.1 < 100 := by rw [t6]; split <;> omega
              refine wn_66s E mo hm w sg d e n q (4 * k0 + i0) D.2.2.1 D0.2.2.1 hd (by omega) (by omega) (by omega) (hvI T e R.1 (-1)) (hvI T e R0.1 (-1)) w1 (by rw [hk0]; exact w2) rb1 rb2 rk1 rk2 x5 x6 x7 x8 _ (fun x5 x6 x7 x8 => ih2 _ ?_ x5 x6 x7 x8)
              rw [hst]
              unfold offO
              simp only []
              by_cases hP : D0.2.2.1 < D.2.2.1 ∨ (D.2.2.1 = D0.2.2.1 ∧ ¬ hvI T e R.1 (-1) < hvI T e R0.1 (-1))
              · rw [if_pos hP, if_pos hP]
                exact hnew
              · rw [if_neg hP, if_neg hP]
                exact hb
          refine r_iload dX10_winnerOf_5 rfl rfl ?_
          refine r_iconst dX10_winnerOf_7 kc_4 rfl ?_
          refine r_aload_n dX10_winnerOf_8 rfl (zRv_ref _) rfl ?_
          refine m_getiv hm 8 lfX10_274 rfl (by first | (simp only [zGS, zMS, Nat.reduceEqDiff, OfNat.ofNat_ne_ofNat, false_and, and_false, true_and, and_true, and_self, if_true, if_false, ite_true, ite_false, reduceIte, reduceCtorEq]; first | done | assumption | rfl) | assumption | exact z2_eq | exact z1_eq | (simp [zGS, zMS]; first | done | assumption) | rfl) dX10_winnerOf_9 rfl ?_
          refine r_imulN dX10_winnerOf_12 rfl ?_
          refine r_icmp_geN (by omega) (by omega) (r := 200) dX10_winnerOf_13 (by decide) rfl (fun c_13 => ?_) (fun c_13 => ?_)
          · exact absurd c_13 (by omega)
          · refine r_iload dX10_winnerOf_16 rfl rfl ?_
            refine r_iconst dX10_winnerOf_18 kc_4 rfl ?_
            refine r_iremN (by omega) (by omega) (by omega) dX10_winnerOf_19 rfl ?_
            refine r_aload_n dX10_winnerOf_20 rfl (zRv_ref _) rfl ?_
            refine m_geta hm 39 27 lfX10_91 rfl (by decide) dX10_winnerOf_21 rfl ?_
            refine r_iload dX10_winnerOf_24 rfl rfl ?_
            refine r_iconst dX10_winnerOf_26 kc_4 rfl ?_
            refine r_idivN (by omega) (by omega) (by omega) dX10_winnerOf_27 rfl ?_
            refine m_ialdv hm 27 _ (by decide) (by decide) rfl rfl (by show _ < 16; omega) (by first | (simp only [zGS, zMS, Nat.reduceEqDiff, OfNat.ofNat_ne_ofNat, false_and, and_false, true_and, and_true, and_self, if_true, if_false, ite_true, ite_false, reduceIte, reduceCtorEq]; first | done | assumption | rfl) | assumption | exact z2_eq | exact z1_eq | (simp [zGS, zMS]; first | done | assumption) | rfl) dX10_winnerOf_28 rfl ?_
            refine r_icmp_geN (by omega) (by omega) (r := 65) dX10_winnerOf_29 (by decide) rfl (fun c_29 => ?_) (fun c_29 => ?_)
            · exact absurd c_29 (by omega)
            · refine r_aload_n dX10_winnerOf_32 rfl (zRv_ref _) rfl ?_
              refine m_geta hm 40 28 lfX10_94 rfl (by decide) dX10_winnerOf_33 rfl ?_
              refine r_iload dX10_winnerOf_36 rfl rfl ?_
              refine m_ialdv hm 28 _ (by decide) (by decide) rfl rfl (by show _ < 64; omega) (by first | (simp only [zGS, zMS, Nat.reduceEqDiff, OfNat.ofNat_ne_ofNat, false_and, and_false, true_and, and_true, and_self, if_true, if_false, ite_true, ite_false, reduceIte, reduceCtorEq]; first | done | assumption | rfl) | assumption | exact z2_eq | exact z1_eq | (simp [zGS, zMS]; first | done | assumption) | rfl) dX10_winnerOf_38 rfl ?_
              refine r_iload_n dX10_winnerOf_39 rfl rfl ?_
              refine r_icmp_neN (by omega) (by omega) (r := 65) dX10_winnerOf_40 (by decide) rfl (fun c_40 => ?_) (fun c_40 => ?_)
              · exact absurd hnn.symm c_40
              · refine r_aload_n dX10_winnerOf_43 rfl (zRv_ref _) rfl ?_
                refine m_geta hm 38 26 lfX10_88 rfl (by decide) dX10_winnerOf_44 rfl ?_
                refine r_bipush dX10_winnerOf_47 kb_24 rfl ?_
                refine r_iload dX10_winnerOf_49 rfl rfl ?_
                refine r_iconst dX10_winnerOf_51 kc_4 rfl ?_
                refine r_idivN (by omega) (by omega) (by omega) dX10_winnerOf_52 rfl ?_
                refine r_imulN dX10_winnerOf_53 rfl ?_
                refine r_iload_n dX10_winnerOf_54 rfl rfl ?_
                refine r_iaddN dX10_winnerOf_55 rfl ?_
                refine m_ialdv hm 26 _ (by decide) (by decide) rfl rfl (by show _ < 384; omega) (by first | (simp only [zGS, zMS, Nat.reduceEqDiff, OfNat.ofNat_ne_ofNat, false_and, and_false, true_and, and_true, and_self, if_true, if_false, ite_true, ite_false, reduceIte, reduceCtorEq]; first | done | assumption | rfl) | assumption | exact z2_eq | exact z1_eq | (simp [zGS, zMS]; first | done | assumption) | rfl) dX10_winnerOf_56 rfl ?_
                refine r_iconst dX10_winnerOf_57 kc_m1 rfl ?_
                refine r_icmp_eq (r := 65) dX10_winnerOf_58 (by decide) rfl (fun c_58 => ?_) (fun c_58 => ?_)
                · exact absurd c_58 hw
                · refine r_iconst dX10_winnerOf_61 kc_1 rfl ?_
                  refine r_goto (r := 66) dX10_winnerOf_62 (by decide) ?_
                  exact y66 _ _ _ _
        · rw [if_neg hnn] at hst
          rw [hst] at no
          have n66 := no hb
          refine r_iload dX10_winnerOf_5 rfl rfl ?_
          refine r_iconst dX10_winnerOf_7 kc_4 rfl ?_
          refine r_aload_n dX10_winnerOf_8 rfl (zRv_ref _) rfl ?_
          refine m_getiv hm 8 lfX10_274 rfl (by first | (simp only [zGS, zMS, Nat.reduceEqDiff, OfNat.ofNat_ne_ofNat, false_and, and_false, true_and, and_true, and_self, if_true, if_false, ite_true, ite_false, reduceIte, reduceCtorEq]; first | done | assumption | rfl) | assumption | exact z2_eq | exact z1_eq | (simp [zGS, zMS]; first | done | assumption) | rfl) dX10_winnerOf_9 rfl ?_
          refine r_imulN dX10_winnerOf_12 rfl ?_
          refine r_icmp_geN (by omega) (by omega) (r := 200) dX10_winnerOf_13 (by decide) rfl (fun c_13 => ?_) (fun c_13 => ?_)
          · exact absurd c_13 (by omega)
          · refine r_iload dX10_winnerOf_16 rfl rfl ?_
            refine r_iconst dX10_winnerOf_18 kc_4 rfl ?_
            refine r_iremN (by omega) (by omega) (by omega) dX10_winnerOf_19 rfl ?_
            refine r_aload_n dX10_winnerOf_20 rfl (zRv_ref _) rfl ?_
            refine m_geta hm 39 27 lfX10_91 rfl (by decide) dX10_winnerOf_21 rfl ?_
            refine r_iload dX10_winnerOf_24 rfl rfl ?_
            refine r_iconst dX10_winnerOf_26 kc_4 rfl ?_
            refine r_idivN (by omega) (by omega) (by omega) dX10_winnerOf_27 rfl ?_
            refine m_ialdv hm 27 _ (by decide) (by decide) rfl rfl (by show _ < 16; omega) (by first | (simp only [zGS, zMS, Nat.reduceEqDiff, OfNat.ofNat_ne_ofNat, false_and, and_false, true_and, and_true, and_self, if_true, if_false, ite_true, ite_false, reduceIte, reduceCtorEq]; first | done | assumption | rfl) | assumption | exact z2_eq | exact z1_eq | (simp [zGS, zMS]; first | done | assumption) | rfl) dX10_winnerOf_28 rfl ?_
            refine r_icmp_geN (by omega) (by omega) (r := 65) dX10_winnerOf_29 (by decide) rfl (fun c_29 => ?_) (fun c_29 => ?_)
            · exact absurd c_29 (by omega)
            · refine r_aload_n dX10_winnerOf_32 rfl (zRv_ref _) rfl ?_
              refine m_geta hm 40 28 lfX10_94 rfl (by decide) dX10_winnerOf_33 rfl ?_
              refine r_iload dX10_winnerOf_36 rfl rfl ?_
              refine m_ialdv hm 28 _ (by decide) (by decide) rfl rfl (by show _ < 64; omega) (by first | (simp only [zGS, zMS, Nat.reduceEqDiff, OfNat.ofNat_ne_ofNat, false_and, and_false, true_and, and_true, and_self, if_true, if_false, ite_true, ite_false, reduceIte, reduceCtorEq]; first | done | assumption | rfl) | assumption | exact z2_eq | exact z1_eq | (simp [zGS, zMS]; first | done | assumption) | rfl) dX10_winnerOf_38 rfl ?_
              refine r_iload_n dX10_winnerOf_39 rfl rfl ?_
              refine r_icmp_neN (by omega) (by omega) (r := 65) dX10_winnerOf_40 (by decide) rfl (fun c_40 => ?_) (fun c_40 => ?_)
              · refine r_iconst dX10_winnerOf_65 kc_0 rfl ?_
                exact n66 _ _ _ _
              · exact absurd c_40.symm hnn
theorem q_winnerOf (E : ZE) (mo : Nat) (hm : E.2.2.2.2 = some mo) (w : ZW) (sg : ZM) (d e n : Nat) (hd : 1 ≤ d) (T : List PEl) (Rs : List PRule) (hn : n < 10) (he : e < T.length) (h24 : T.length ≤ 24) (hl : Rs.length ≤ 16) (h8 : mi sg 8 = nI Rs.length) (hS : svT sg T Rs) : CallQ E MX10_winnerOf [.ref mo, .int (nI e), .int (nI n)] w sg d 0 0 (fun v w' sg' => (∃ b, v = some (.int b) ∧ bsR T Rs e (ldD T Rs e n) b) ∧ w = w' ∧ sg = sg') := by
  have h0 := wn_5 E mo hm w sg d e n hd T Rs hn he h24 hl h8 hS (4 * Rs.length) 0 (-1) none none none none (Nat.zero_add _) (by rw [ldB_0]; rfl)
  refine CallQ.of rfl (by simp [Value.category]) (Nat.le_of_ble_eq_true rfl) ?_
  refine r_iconst dX10_winnerOf_0 kc_m1 rfl ?_
  refine r_istore_n (ls' := [_, _, _, _, _, _, _, _, _]) dX10_winnerOf_1 (Nat.le_of_ble_eq_true rfl) rfl rfl ?_
  refine r_iconst dX10_winnerOf_2 kc_0 rfl ?_
  refine r_istore (ls' := [_, _, _, _, _, _, _, _, _]) dX10_winnerOf_3 (Nat.le_of_ble_eq_true rfl) rfl rfl ?_
  exact h0
/-! ===== the model: winner ===== -/
def mwiQ (T : List PEl) (Rs : List PRule) (B : List Nat) (e n : Int32) (w : ZW) : ZQ := fun v w' sg' => w = w' ∧ mdI sg' T Rs B ∧ ((inI e T.length = false ∧ mi sg' 0 = nI 1 ∧ ∃ x, v = some (.int x)) ∨ (inI e T.length = true ∧ inI n 10 = false ∧ mi sg' 0 = nI 2 ∧ ∃ x, v = some (.int x)) ∨ (inI e T.length = true ∧ inI n 10 = true ∧ mi sg' 0 = nI 0 ∧ v = some (.int (winD T Rs e n))))
theorem q_winner (E : ZE) (mo : Nat) (hm : E.2.2.2.2 = some mo) (w : ZW) (sg : ZM) (d : Nat) (hd : 17 ≤ d) (T : List PEl) (Rs : List PRule) (B : List Nat) (e n : Int32) (h : mdI sg T Rs B) (hr : rootT T) : CallQ E MX10_winner [.ref mo, .int e, .int n] w sg d 0 0 (mwiQ T Rs B e n w) := by
  have h1 : mi sg 1 = nI T.length := h.1.2.1
  have h24 := h.1.1.1
  have hl : Rs.length ≤ 16 := h.2.1
  have hou := q_outE E w sg (d - 1) T.length e (nI T.length - nI 1) (by omega) rfl
  have hou2 := q_outE E w sg (d - 1) 10 n (nI 9) (by decide) (by decide)
  refine CallQ.of rfl (by simp [Value.category]) (Nat.le_of_ble_eq_true rfl) ?_
  cases he : inI e T.length with
  | false =>
    rw [he] at hou
    refine r_aload_n dX10_winner_0 rfl (zRv_ref _) rfl ?_
    refine r_iload_n dX10_winner_1 rfl rfl ?_
    refine r_iconst dX10_winner_2 kc_0 rfl ?_
    refine r_aload_n dX10_winner_3 rfl (zRv_ref _) rfl ?_
    refine m_getiv hm 1 lfX10_137 rfl (by first | (simp only [zGS, zMS, Nat.reduceEqDiff, OfNat.ofNat_ne_ofNat, false_and, and_false, true_and, and_true, and_self, if_true, if_false, ite_true, ite_false, reduceIte, reduceCtorEq]; first | done | assumption | rfl) | assumption | exact z2_eq | exact z1_eq | (simp [zGS, zMS]; first | done | assumption) | rfl) dX10_winner_4 rfl ?_
    refine r_iconst dX10_winner_7 kc_1 rfl ?_
    refine r_isub dX10_winner_8 rfl ?_
    refine r_callS MX10_outside 3 [_, _, _] lsX10_140 (hou) rfl rfl (by first | exact Nat.le_of_ble_eq_true rfl | (simp [zcat_rf, Value.category]; done)) (by omega) (Nat.le_of_eq (Nat.zero_add _)) (Nat.le_of_eq (Nat.zero_add _)) dX10_winner_9 rfl (fun v_ w_ sg_ hq_ => ?_)
    obtain ⟨rfl, rfl, rfl⟩ := hq_
    refine r_if_eqB (r := 19) dX10_winner_12 (by decide) rfl (fun c_12 => ?_) (fun c_12 => ?_)
    · cases c_12
    · refine r_iconst dX10_winner_15 kc_1 rfl ?_
      refine r_goto (r := 34) dX10_winner_16 (by decide) ?_
      refine m_puti hm 0 lfX10_133 rfl rfl rfl dX10_winner_34 rfl ?_
      refine r_aload_n dX10_winner_37 rfl (zRv_ref _) rfl ?_
      refine m_getiv hm 0 lfX10_133 rfl (by first | (simp only [zGS, zMS, Nat.reduceEqDiff, OfNat.ofNat_ne_ofNat, false_and, and_false, true_and, and_true, and_self, if_true, if_false, ite_true, ite_false, reduceIte, reduceCtorEq]; first | done | assumption | rfl) | assumption | exact z2_eq | exact z1_eq | (simp [zGS, zMS]; first | done | assumption) | rfl) dX10_winner_38 rfl ?_
      refine r_if_leN (by omega) (r := 46) dX10_winner_41 (by decide) rfl (fun c_41 => ?_) (fun c_41 => ?_)
      · exact absurd c_41 (by decide)
      · refine r_iconst dX10_winner_44 kc_0 rfl ?_
        refine r_iret rfl dX10_winner_45 ?_
        exact ⟨rfl, h.code _, Or.inl ⟨he, by rw [mi_msi, if_pos rfl], _, rfl⟩⟩
  | true =>
    rw [he] at hou
    cases hn : inI n 10 with
    | false =>
      rw [hn] at hou2
      refine r_aload_n dX10_winner_0 rfl (zRv_ref _) rfl ?_
      refine r_iload_n dX10_winner_1 rfl rfl ?_
      refine r_iconst dX10_winner_2 kc_0 rfl ?_
      refine r_aload_n dX10_winner_3 rfl (zRv_ref _) rfl ?_
      refine m_getiv hm 1 lfX10_137 rfl (by first | (simp only [zGS, zMS, Nat.reduceEqDiff, OfNat.ofNat_ne_ofNat, false_and, and_false, true_and, and_true, and_self, if_true, if_false, ite_true, ite_false, reduceIte, reduceCtorEq]; first | done | assumption | rfl) | assumption | exact z2_eq | exact z1_eq | (simp [zGS, zMS]; first | done | assumption) | rfl) dX10_winner_4 rfl ?_
      refine r_iconst dX10_winner_7 kc_1 rfl ?_
      refine r_isub dX10_winner_8 rfl ?_
      refine r_callS MX10_outside 3 [_, _, _] lsX10_140 (hou) rfl rfl (by first | exact Nat.le_of_ble_eq_true rfl | (simp [zcat_rf, Value.category]; done)) (by omega) (Nat.le_of_eq (Nat.zero_add _)) (Nat.le_of_eq (Nat.zero_add _)) dX10_winner_9 rfl (fun v_ w_ sg_ hq_ => ?_)
      obtain ⟨rfl, rfl, rfl⟩ := hq_
      refine r_if_eqB (r := 19) dX10_winner_12 (by decide) rfl (fun c_12 => ?_) (fun c_12 => ?_)
      · refine r_iload_n dX10_winner_19 rfl rfl ?_
        refine r_iconst dX10_winner_20 kc_0 rfl ?_
        refine r_bipush dX10_winner_21 kb_9 rfl ?_
        refine r_callS MX10_outside 3 [_, _, _] lsX10_140 (hou2) rfl rfl (by first | exact Nat.le_of_ble_eq_true rfl | (simp [zcat_rf, Value.category]; done)) (by omega) (Nat.le_of_eq (Nat.zero_add _)) (Nat.le_of_eq (Nat.zero_add _)) dX10_winner_23 rfl (fun v_ w_ sg_ hq_ => ?_)
        obtain ⟨rfl, rfl, rfl⟩ := hq_
        refine r_if_eqB (r := 33) dX10_winner_26 (by decide) rfl (fun c_26 => ?_) (fun c_26 => ?_)
        · cases c_26
        · refine r_iconst dX10_winner_29 kc_2 rfl ?_
          refine r_goto (r := 34) dX10_winner_30 (by decide) ?_
          refine m_puti hm 0 lfX10_133 rfl rfl rfl dX10_winner_34 rfl ?_
          refine r_aload_n dX10_winner_37 rfl (zRv_ref _) rfl ?_
          refine m_getiv hm 0 lfX10_133 rfl (by first | (simp only [zGS, zMS, Nat.reduceEqDiff, OfNat.ofNat_ne_ofNat, false_and, and_false, true_and, and_true, and_self, if_true, if_false, ite_true, ite_false, reduceIte, reduceCtorEq]; first | done | assumption | rfl) | assumption | exact z2_eq | exact z1_eq | (simp [zGS, zMS]; first | done | assumption) | rfl) dX10_winner_38 rfl ?_
          refine r_if_leN (by omega) (r := 46) dX10_winner_41 (by decide) rfl (fun c_41 => ?_) (fun c_41 => ?_)
          · exact absurd c_41 (by decide)
          · refine r_iconst dX10_winner_44 kc_0 rfl ?_
            refine r_iret rfl dX10_winner_45 ?_
            exact ⟨rfl, h.code _, Or.inr (Or.inl ⟨he, hn, by rw [mi_msi, if_pos rfl], _, rfl⟩)⟩
      · cases c_12
    | true =>
      rw [hn] at hou2
      obtain ⟨i, hi, rfl⟩ := inI_nat (by omega) he
      obtain ⟨j, hj, rfl⟩ := inI_nat (by decide) hn
      have h0 := h.code (nI 0)
      have hsv := q_survey E mo hm w (msi sg 0 (nI 0)) (d - 1) (by omega) T hr Rs B h0
      have hwd : winD T Rs (nI i) (nI j) = (match ldD T Rs i j with
        | none => -1
        | some (k, _, _) => nI k) := by unfold winD; rw [ixD_n (by omega), ixD_n (by omega)]; rfl
      refine r_aload_n dX10_winner_0 rfl (zRv_ref _) rfl ?_
      refine r_iload_n dX10_winner_1 rfl rfl ?_
      refine r_iconst dX10_winner_2 kc_0 rfl ?_
      refine r_aload_n dX10_winner_3 rfl (zRv_ref _) rfl ?_
      refine m_getiv hm 1 lfX10_137 rfl (by first | (simp only [zGS, zMS, Nat.reduceEqDiff, OfNat.ofNat_ne_ofNat, false_and, and_false, true_and, and_true, and_self, if_true, if_false, ite_true, ite_false, reduceIte, reduceCtorEq]; first | done | assumption | rfl) | assumption | exact z2_eq | exact z1_eq | (simp [zGS, zMS]; first | done | assumption) | rfl) dX10_winner_4 rfl ?_
      refine r_iconst dX10_winner_7 kc_1 rfl ?_
      refine r_isub dX10_winner_8 rfl ?_
      refine r_callS MX10_outside 3 [_, _, _] lsX10_140 (hou) rfl rfl (by first | exact Nat.le_of_ble_eq_true rfl | (simp [zcat_rf, Value.category]; done)) (by omega) (Nat.le_of_eq (Nat.zero_add _)) (Nat.le_of_eq (Nat.zero_add _)) dX10_winner_9 rfl (fun v_ w_ sg_ hq_ => ?_)
      obtain ⟨rfl, rfl, rfl⟩ := hq_
      refine r_if_eqB (r := 19) dX10_winner_12 (by decide) rfl (fun c_12 => ?_) (fun c_12 => ?_)
      · refine r_iload_n dX10_winner_19 rfl rfl ?_
        refine r_iconst dX10_winner_20 kc_0 rfl ?_
        refine r_bipush dX10_winner_21 kb_9 rfl ?_
        refine r_callS MX10_outside 3 [_, _, _] lsX10_140 (hou2) rfl rfl (by first | exact Nat.le_of_ble_eq_true rfl | (simp [zcat_rf, Value.category]; done)) (by omega) (Nat.le_of_eq (Nat.zero_add _)) (Nat.le_of_eq (Nat.zero_add _)) dX10_winner_23 rfl (fun v_ w_ sg_ hq_ => ?_)
        obtain ⟨rfl, rfl, rfl⟩ := hq_
        refine r_if_eqB (r := 33) dX10_winner_26 (by decide) rfl (fun c_26 => ?_) (fun c_26 => ?_)
        · refine r_iconst dX10_winner_33 kc_0 rfl ?_
          refine m_puti hm 0 lfX10_133 rfl rfl rfl dX10_winner_34 rfl ?_
          refine r_aload_n dX10_winner_37 rfl (zRv_ref _) rfl ?_
          refine m_getiv hm 0 lfX10_133 rfl (by first | (simp only [zGS, zMS, Nat.reduceEqDiff, OfNat.ofNat_ne_ofNat, false_and, and_false, true_and, and_true, and_self, if_true, if_false, ite_true, ite_false, reduceIte, reduceCtorEq]; first | done | assumption | rfl) | assumption | exact z2_eq | exact z1_eq | (simp [zGS, zMS]; first | done | assumption) | rfl) dX10_winner_38 rfl ?_
          refine r_if_leN (by omega) (r := 46) dX10_winner_41 (by decide) rfl (fun c_41 => ?_) (fun c_41 => ?_)
          · refine r_aload_n dX10_winner_46 rfl (zRv_ref _) rfl ?_
            refine r_callV MX10_survey 0 [] lvX10_313 (Or.inr (Or.inl ⟨hm, rfl⟩)) (hsv) rfl rfl (by first | exact Nat.le_of_ble_eq_true rfl | (simp [zcat_rf, Value.category]; done)) (by omega) (Nat.le_of_eq (Nat.zero_add _)) (Nat.le_of_eq (Nat.zero_add _)) dX10_winner_47 rfl (fun v_ w_ sg_ hq_ => ?_)
            obtain ⟨rfl, rfl, ks, hS⟩ := hq_
            obtain ⟨sg1, hsg1⟩ : ∃ y, y = sg_ := ⟨_, rfl⟩
            subst hsg1
            have hI1 := ks.I h0
            have h00 : mi sg1 0 = nI 0 := by rw [ks.1 0 (by decide), mi_msi, if_pos rfl]
            refine r_aload_n dX10_winner_50 rfl (zRv_ref _) rfl ?_
            refine r_iload_n dX10_winner_51 rfl rfl ?_
            refine r_iload_n dX10_winner_52 rfl rfl ?_
            refine r_callV MX10_winnerOf 2 [_, _] lvX10_316 (Or.inr (Or.inl ⟨hm, rfl⟩)) (q_winnerOf E mo hm w sg1 (d - 1) i j (by omega) T Rs hj hi h24 hl hI1.2.2.1 hS) rfl rfl (by first | exact Nat.le_of_ble_eq_true rfl | (simp [zcat_rf, Value.category]; done)) (by omega) (Nat.le_of_eq (Nat.zero_add _)) (Nat.le_of_eq (Nat.zero_add _)) dX10_winner_53 rfl (fun v_ w_ sg_ hq_ => ?_)
            obtain ⟨⟨b, rfl, hb⟩, rfl, rfl⟩ := hq_
            refine r_istore_n (ls' := [_, _, _, _]) dX10_winner_56 (Nat.le_of_ble_eq_true rfl) rfl rfl ?_
            cases hL : ldD T Rs i j with
            | none =>
              rw [hL] at hb hwd
              have hb1 : b = -1 := hb
              subst hb1
              refine r_iload_n dX10_winner_57 rfl rfl ?_
              refine r_iconst dX10_winner_58 kc_m1 rfl ?_
              refine r_icmp_ne (r := 66) dX10_winner_59 (by decide) rfl (fun c_59 => ?_) (fun c_59 => ?_)
              · exact absurd rfl c_59
              · refine r_iconst dX10_winner_62 kc_m1 rfl ?_
                refine r_goto (r := 69) dX10_winner_63 (by decide) ?_
                refine r_iret rfl dX10_winner_69 ?_
                exact ⟨rfl, hI1, Or.inr (Or.inr ⟨he, hn, h00, by rw [hwd]⟩)⟩
            | some L =>
              obtain ⟨k0, D0, w0⟩ := L
              rw [hL] at hb hwd
              obtain ⟨i0, R0, g1, g2, g3, g4, rfl, -⟩ := hb
              refine r_iload_n dX10_winner_57 rfl rfl ?_
              refine r_iconst dX10_winner_58 kc_m1 rfl ?_
              refine r_icmp_ne (r := 66) dX10_winner_59 (by decide) rfl (fun c_59 => ?_) (fun c_59 => ?_)
              · refine r_iload_n dX10_winner_66 rfl rfl ?_
                refine r_iconst dX10_winner_67 kc_4 rfl ?_
                refine r_idivN (by omega) (by omega) (by omega) dX10_winner_68 rfl ?_
                refine r_iret rfl dX10_winner_69 ?_
                refine ⟨rfl, hI1, Or.inr (Or.inr ⟨he, hn, h00, ?_⟩)⟩
                rw [hwd, show (4 * k0 + i0) / 4 = k0 by omega]
              · exact absurd c_59 (nI_neg (by omega))
          · exact absurd c_41 (by decide)
        · cases c_26
      · cases c_12
