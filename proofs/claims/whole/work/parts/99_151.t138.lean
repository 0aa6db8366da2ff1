/-! ===== the model: both ===== -/
theorem zk01 {k : Nat} (h : k ≤ 1) : k = 0 ∨ k = 1 := by omega
theorem bo_102 (E : ZE) (mo : Nat) (hm : E.2.2.2.2 = some mo) (w : ZW) (sg : ZM) (d H s k1 k2 : Nat) (hd : 1 ≤ d) (hs : 9 ≤ s ∧ s ≤ 12) (a b : UInt32) (st : List PVal) (h1 : k1 ≤ 1) (h2 : k2 ≤ 1) (h56 : mi sg 56 = zb false) (h45 : mi sg 45 = nI (H + st.length + 2)) (hA : stA sg H ((k2, b) :: (k1, a) :: st)) (hl : H + st.length + 2 < 3000) (x : Bool) (hn : x = true → (s = 9 → vf_n32 (FP.fadd a b)) ∧ (s = 10 → vf_n32 (FP.fsub a b)) ∧ (s = 11 → vf_n32 (FP.fmul a b)) ∧ (s = 12 → vf_n32 (FP.fdiv a b))) : RW E MX10_both 102 [some (.ref mo), some (.int (nI s)), some (.int (nI (H + st.length + 1))), some (.int (nI (H + st.length))), some (.int (zb x)), none, none, none] [] w sg d 0 0 (PN E (fun r w' sg' => r = none ∧ w = w' ∧ stO sg sg' H (if x = true then pushS (if s = 11 then (if k1 = 0 then k2 else k1) else k1) (if s = 9 then FP.fadd a b else if s = 10 then FP.fsub a b else if s = 11 then FP.fmul a b else FP.fdiv a b) st else none))) := by
  obtain ⟨g1, g2, g3, g4, g5⟩ := hA
  rw [List.length_cons] at g1 g2
  have hw : ∀ y : Bool, wkK sg (msi sg 56 (zb y)) H := fun y => ⟨fun j p q => by rw [mi_msi, if_neg q], fun j i p => rfl, fun j i p => rfl⟩
  cases x with
  | false =>
    rw [if_neg (by decide)]
    refine r_aload_n dX10_both_102 rfl (zRv_ref _) rfl ?_
    refine r_aload_n dX10_both_103 rfl (zRv_ref _) rfl ?_
    refine m_getiv hm 56 lfX10_319 rfl (by first | (simp only [zGS, zMS, Nat.reduceEqDiff, OfNat.ofNat_ne_ofNat, false_and, and_false, true_and, and_true, and_self, if_true, if_false, ite_true, ite_false, reduceIte, reduceCtorEq]; first | done | assumption | rfl) | assumption | exact z2_eq | exact z1_eq | (simp [zGS, zMS]; first | done | assumption) | rfl) dX10_both_104 rfl ?_
    refine r_if_neB (r := 115) dX10_both_107 (by decide) rfl (fun c_107 => ?_) (fun c_107 => ?_)
    · cases c_107
    · refine r_iload dX10_both_110 rfl rfl ?_
      refine r_if_neB (r := 119) dX10_both_112 (by decide) rfl (fun c_112 => ?_) (fun c_112 => ?_)
      · cases c_112
      · refine r_iconst dX10_both_115 kc_1 rfl ?_
        refine r_goto (r := 120) dX10_both_116 (by decide) ?_
        refine m_putz hm 56 (by first | exact Or.inl rfl | exact Or.inr rfl | exact zb01 _ | assumption) lfX10_319 rfl rfl rfl dX10_both_120 rfl ?_
        refine r_iload dX10_both_123 rfl rfl ?_
        refine r_if_neB (r := 129) dX10_both_125 (by decide) rfl (fun c_125 => ?_) (fun c_125 => ?_)
        · cases c_125
        · refine r_vret rfl dX10_both_128 ?_
          exact ⟨rfl, rfl, hw true, by rw [mi_msi, if_pos rfl]; rfl⟩
  | true =>
    rw [if_pos rfl]
    have hn := hn rfl
    have e56 : mi (msi (msi sg 56 (zb false)) 45 (nI (H + st.length))) 56 = zb false := by rw [mi_msi, if_neg (by decide), mi_msi, if_pos rfl]
    have e45 : mi (msi (msi sg 56 (zb false)) 45 (nI (H + st.length))) 45 = nI (H + st.length) := by rw [mi_msi, if_pos rfl]
    have hw2 : wkK sg (msi (msi sg 56 (zb false)) 45 (nI (H + st.length))) H := ⟨fun j p q => by rw [mi_msi, if_neg p, mi_msi, if_neg q], fun j i p => rfl, fun j i p => rfl⟩
    have fin : ∀ (kd : Nat) (v : UInt32), kd ≤ 1 → vf_n32 v → CallQ E MX10_push [.ref mo, .float v, .int (zb (decide (kd = 0)))] w (msi (msi sg 56 (zb false)) 45 (nI (H + st.length))) (d - 1) 0 0 (fun r w' sg' => r = none ∧ w = w' ∧ stO sg sg' H (pushS kd v st)) := fun kd v hk hv => by
      refine (p_push E mo hm w _ (d - 1) H kd hk v hv _ rfl st e56 e45 (g5.fr (fun i _ => ⟨rfl, rfl⟩)) (by omega)).mono ?_
      rintro r w' sg' ⟨q1, q2, q3, q4⟩
      exact ⟨q1, q2, hw2.tr q3, q4⟩
    rcases (by omega : s = 9 ∨ s = 10 ∨ s = 11 ∨ s = 12) with rfl | rfl | rfl | rfl
    · have f9 := fin k1 (FP.fadd a b) h1 (hn.1 rfl)
      refine r_aload_n dX10_both_102 rfl (zRv_ref _) rfl ?_
      refine r_aload_n dX10_both_103 rfl (zRv_ref _) rfl ?_
      refine m_getiv hm 56 lfX10_319 rfl (by first | (simp only [zGS, zMS, Nat.reduceEqDiff, OfNat.ofNat_ne_ofNat, false_and, and_false, true_and, and_true, and_self, if_true, if_false, ite_true, ite_false, reduceIte, reduceCtorEq]; first | done | assumption | rfl) | assumption | exact z2_eq | exact z1_eq | (simp [zGS, zMS]; first | done | assumption) | rfl) dX10_both_104 rfl ?_
      refine r_if_neB (r := 115) dX10_both_107 (by decide) rfl (fun c_107 => ?_) (fun c_107 => ?_)
      · cases c_107
      · refine r_iload dX10_both_110 rfl rfl ?_
        refine r_if_neB (r := 119) dX10_both_112 (by decide) rfl (fun c_112 => ?_) (fun c_112 => ?_)
        · refine r_iconst dX10_both_119 kc_0 rfl ?_
          refine m_putz hm 56 (by first | exact Or.inl rfl | exact Or.inr rfl | exact zb01 _ | assumption) lfX10_319 rfl rfl rfl dX10_both_120 rfl ?_
          refine r_iload dX10_both_123 rfl rfl ?_
          refine r_if_neB (r := 129) dX10_both_125 (by decide) rfl (fun c_125 => ?_) (fun c_125 => ?_)
          · refine r_aload_n dX10_both_129 rfl (zRv_ref _) rfl ?_
            refine r_iload_n dX10_both_130 rfl rfl ?_
            refine m_puti hm 45 lfX10_324 rfl rfl rfl dX10_both_131 rfl ?_
            refine r_aload_n dX10_both_134 rfl (zRv_ref _) rfl ?_
            refine m_geta hm 46 32 lfX10_106 rfl (by decide) dX10_both_135 rfl ?_
            refine r_iload_n dX10_both_138 rfl rfl ?_
            refine m_faldv hm 32 _ (by decide) (by decide) rfl rfl (by show _ < 3000; omega) (by first | (simp only [zGS, zMS, Nat.reduceEqDiff, OfNat.ofNat_ne_ofNat, false_and, and_false, true_and, and_true, and_self, if_true, if_false, ite_true, ite_false, reduceIte, reduceCtorEq]; first | done | assumption | rfl) | assumption | exact z2_eq | exact z1_eq | (simp [zGS, zMS]; first | done | assumption) | rfl) dX10_both_139 rfl ?_
            refine r_fstore (ls' := [_, _, _, _, _, _, _, _]) dX10_both_140 (Nat.le_of_ble_eq_true rfl) rfl rfl ?_
            refine r_aload_n dX10_both_142 rfl (zRv_ref _) rfl ?_
            refine m_geta hm 46 32 lfX10_106 rfl (by decide) dX10_both_143 rfl ?_
            refine r_iload_n dX10_both_146 rfl rfl ?_
            refine m_faldv hm 32 _ (by decide) (by decide) rfl rfl (by show _ < 3000; omega) (by first | (simp only [zGS, zMS, Nat.reduceEqDiff, OfNat.ofNat_ne_ofNat, false_and, and_false, true_and, and_true, and_self, if_true, if_false, ite_true, ite_false, reduceIte, reduceCtorEq]; first | done | assumption | rfl) | assumption | exact z2_eq | exact z1_eq | (simp [zGS, zMS]; first | done | assumption) | rfl) dX10_both_147 rfl ?_
            refine r_fstore (ls' := [_, _, _, _, _, _, _, _]) dX10_both_148 (Nat.le_of_ble_eq_true rfl) rfl rfl ?_
            refine r_iload_n dX10_both_150 rfl rfl ?_
            refine r_bipush dX10_both_151 kb_11 rfl ?_
            refine r_icmp_neN (by omega) (by omega) (r := 182) dX10_both_153 (by decide) rfl (fun c_153 => ?_) (fun c_153 => ?_)
            · refine r_aload_n dX10_both_182 rfl (zRv_ref _) rfl ?_
              refine m_geta hm 47 33 lfX10_109 rfl (by decide) dX10_both_183 rfl ?_
              refine r_iload_n dX10_both_186 rfl rfl ?_
              refine m_zaldv hm 33 _ (by decide) (by decide) rfl rfl (by show _ < 3000; omega) (by first | (simp only [zGS, zMS, Nat.reduceEqDiff, OfNat.ofNat_ne_ofNat, false_and, and_false, true_and, and_true, and_self, if_true, if_false, ite_true, ite_false, reduceIte, reduceCtorEq]; first | done | assumption | rfl) | assumption | exact z2_eq | exact z1_eq | (simp [zGS, zMS]; first | done | assumption) | rfl) dX10_both_187 rfl ?_
              refine r_istore (ls' := [_, _, _, _, _, _, _, _]) dX10_both_188 (Nat.le_of_ble_eq_true rfl) rfl rfl ?_
              refine r_aload_n dX10_both_190 rfl (zRv_ref _) rfl ?_
              refine r_iload_n dX10_both_191 rfl rfl ?_
              refine r_bipush dX10_both_192 kb_9 rfl ?_
              refine r_icmp_neN (by omega) (by omega) (r := 205) dX10_both_194 (by decide) rfl (fun c_194 => ?_) (fun c_194 => ?_)
              · exact absurd rfl c_194
              · refine r_fload dX10_both_197 rfl rfl ?_
                refine r_fload dX10_both_199 rfl rfl ?_
                refine r_fadd dX10_both_201 (hn.1 rfl) rfl ?_
                refine r_goto (r := 238) dX10_both_202 (by decide) ?_
                refine r_iload dX10_both_238 rfl rfl ?_
                refine r_callV MX10_push 2 [_, _] lvX10_331 (Or.inr (Or.inl ⟨hm, rfl⟩)) (f9) rfl rfl (by first | exact Nat.le_of_ble_eq_true rfl | (simp [zcat_rf, Value.category]; done)) (by omega) (Nat.le_of_eq (Nat.zero_add _)) (Nat.le_of_eq (Nat.zero_add _)) dX10_both_240 rfl (fun v_ w_ sg_ hq_ => ?_)
                obtain ⟨rfl, rfl, q3⟩ := hq_
                refine r_vret rfl dX10_both_243 ?_
                exact ⟨rfl, rfl, q3⟩
            · exact absurd c_153 (by decide)
          · cases c_125
        · cases c_112
    · have f9 := fin k1 (FP.fsub a b) h1 (hn.2.1 rfl)
      refine r_aload_n dX10_both_102 rfl (zRv_ref _) rfl ?_
      refine r_aload_n dX10_both_103 rfl (zRv_ref _) rfl ?_
      refine m_getiv hm 56 lfX10_319 rfl (by first | (simp only [zGS, zMS, Nat.reduceEqDiff, OfNat.ofNat_ne_ofNat, false_and, and_false, true_and, and_true, and_self, if_true, if_false, ite_true, ite_false, reduceIte, reduceCtorEq]; first | done | assumption | rfl) | assumption | exact z2_eq | exact z1_eq | (simp [zGS, zMS]; first | done | assumption) | rfl) dX10_both_104 rfl ?_
      refine r_if_neB (r := 115) dX10_both_107 (by decide) rfl (fun c_107 => ?_) (fun c_107 => ?_)
      · cases c_107
      · refine r_iload dX10_both_110 rfl rfl ?_
        refine r_if_neB (r := 119) dX10_both_112 (by decide) rfl (fun c_112 => ?_) (fun c_112 => ?_)
        · refine r_iconst dX10_both_119 kc_0 rfl ?_
          refine m_putz hm 56 (by first | exact Or.inl rfl | exact Or.inr rfl | exact zb01 _ | assumption) lfX10_319 rfl rfl rfl dX10_both_120 rfl ?_
          refine r_iload dX10_both_123 rfl rfl ?_
          refine r_if_neB (r := 129) dX10_both_125 (by decide) rfl (fun c_125 => ?_) (fun c_125 => ?_)
          · refine r_aload_n dX10_both_129 rfl (zRv_ref _) rfl ?_
            refine r_iload_n dX10_both_130 rfl rfl ?_
            refine m_puti hm 45 lfX10_324 rfl rfl rfl dX10_both_131 rfl ?_
            refine r_aload_n dX10_both_134 rfl (zRv_ref _) rfl ?_
            refine m_geta hm 46 32 lfX10_106 rfl (by decide) dX10_both_135 rfl ?_
            refine r_iload_n dX10_both_138 rfl rfl ?_
            refine m_faldv hm 32 _ (by decide) (by decide) rfl rfl (by show _ < 3000; omega) (by first | (simp only [zGS, zMS, Nat.reduceEqDiff, OfNat.ofNat_ne_ofNat, false_and, and_false, true_and, and_true, and_self, if_true, if_false, ite_true, ite_false, reduceIte, reduceCtorEq]; first | done | assumption | rfl) | assumption | exact z2_eq | exact z1_eq | (simp [zGS, zMS]; first | done | assumption) | rfl) dX10_both_139 rfl ?_
            refine r_fstore (ls' := [_, _, _, _, _, _, _, _]) dX10_both_140 (Nat.le_of_ble_eq_true rfl) rfl rfl ?_
            refine r_aload_n dX10_both_142 rfl (zRv_ref _) rfl ?_
            refine m_geta hm 46 32 lfX10_106 rfl (by decide) dX10_both_143 rfl ?_
            refine r_iload_n dX10_both_146 rfl rfl ?_
            refine m_faldv hm 32 _ (by decide) (by decide) rfl rfl (by show _ < 3000; omega) (by first | (simp only [zGS, zMS, Nat.reduceEqDiff, OfNat.ofNat_ne_ofNat, false_and, and_false, true_and, and_true, and_self, if_true, if_false, ite_true, ite_false, reduceIte, reduceCtorEq]; first | done | assumption | rfl) | assumption | exact z2_eq | exact z1_eq | (simp [zGS, zMS]; first | done | assumption) | rfl) dX10_both_147 rfl ?_
            refine r_fstore (ls' := [_, _, _, _, _, _, _, _]) dX10_both_148 (Nat.le_of_ble_eq_true rfl) rfl rfl ?_
            refine r_iload_n dX10_both_150 rfl rfl ?_
            refine r_bipush dX10_both_151 kb_11 rfl ?_
            refine r_icmp_neN (by omega) (by omega) (r := 182) dX10_both_153 (by decide) rfl (fun c_153 => ?_) (fun c_153 => ?_)
            · refine r_aload_n dX10_both_182 rfl (zRv_ref _) rfl ?_
              refine m_geta hm 47 33 lfX10_109 rfl (by decide) dX10_both_183 rfl ?_
              refine r_iload_n dX10_both_186 rfl rfl ?_
              refine m_zaldv hm 33 _ (by decide) (by decide) rfl rfl (by show _ < 3000; omega) (by first | (simp only [zGS, zMS, Nat.reduceEqDiff, OfNat.ofNat_ne_ofNat, false_and, and_false, true_and, and_true, and_self, if_true, if_false, ite_true, ite_false, reduceIte, reduceCtorEq]; first | done | assumption | rfl) | assumption | exact z2_eq | exact z1_eq | (simp [zGS, zMS]; first | done | assumption) | rfl) dX10_both_187 rfl ?_
              refine r_istore (ls' := [_, _, _, _, _, _, _, _]) dX10_both_188 (Nat.le_of_ble_eq_true rfl) rfl rfl ?_
              refine r_aload_n dX10_both_190 rfl (zRv_ref _) rfl ?_
              refine r_iload_n dX10_both_191 rfl rfl ?_
              refine r_bipush dX10_both_192 kb_9 rfl ?_
              refine r_icmp_neN (by omega) (by omega) (r := 205) dX10_both_194 (by decide) rfl (fun c_194 => ?_) (fun c_194 => ?_)
              · refine r_iload_n dX10_both_205 rfl rfl ?_
                refine r_bipush dX10_both_206 kb_10 rfl ?_
                refine r_icmp_neN (by omega) (by omega) (r := 219) dX10_both_208 (by decide) rfl (fun c_208 => ?_) (fun c_208 => ?_)
                · exact absurd rfl c_208
                · refine r_fload dX10_both_211 rfl rfl ?_
                  refine r_fload dX10_both_213 rfl rfl ?_
                  refine r_fsub dX10_both_215 (hn.2.1 rfl) rfl ?_
                  refine r_goto (r := 238) dX10_both_216 (by decide) ?_
                  refine r_iload dX10_both_238 rfl rfl ?_
                  refine r_callV MX10_push 2 [_, _] lvX10_331 (Or.inr (Or.inl ⟨hm, rfl⟩)) (f9) rfl rfl (by first | exact Nat.le_of_ble_eq_true rfl | (simp [zcat_rf, Value.category]; done)) (by omega) (Nat.le_of_eq (Nat.zero_add _)) (Nat.le_of_eq (Nat.zero_add _)) dX10_both_240 rfl (fun v_ w_ sg_ hq_ => ?_)
                  obtain ⟨rfl, rfl, q3⟩ := hq_
                  refine r_vret rfl dX10_both_243 ?_
                  exact ⟨rfl, rfl, q3⟩
              · exact absurd c_194 (by decide)
            · exact absurd c_153 (by decide)
          · cases c_125
        · cases c_112
    · have f9 := fin (if k1 = 0 then k2 else k1) (FP.fmul a b) (by split <;> omega) (hn.2.2.1 rfl)
      rcases zk01 h1 with rfl | rfl <;> rcases zk01 h2 with rfl | rfl
      · skip
        refine r_aload_n dX10_both_102 rfl (zRv_ref _) rfl ?_
        refine r_aload_n dX10_both_103 rfl (zRv_ref _) rfl ?_
        refine m_getiv hm 56 lfX10_319 rfl (by first | (simp only [zGS, zMS, Nat.reduceEqDiff, OfNat.ofNat_ne_ofNat, false_and, and_false, true_and, and_true, and_self, if_true, if_false, ite_true, ite_false, reduceIte, reduceCtorEq]; first | done | assumption | rfl) | assumption | exact z2_eq | exact z1_eq | (simp [zGS, zMS]; first | done | assumption) | rfl) dX10_both_104 rfl ?_
        refine r_if_neB (r := 115) dX10_both_107 (by decide) rfl (fun c_107 => ?_) (fun c_107 => ?_)
        · cases c_107
        · refine r_iload dX10_both_110 rfl rfl ?_
          refine r_if_neB (r := 119) dX10_both_112 (by decide) rfl (fun c_112 => ?_) (fun c_112 => ?_)
          · refine r_iconst dX10_both_119 kc_0 rfl ?_
            refine m_putz hm 56 (by first | exact Or.inl rfl | exact Or.inr rfl | exact zb01 _ | assumption) lfX10_319 rfl rfl rfl dX10_both_120 rfl ?_
            refine r_iload dX10_both_123 rfl rfl ?_
            refine r_if_neB (r := 129) dX10_both_125 (by decide) rfl (fun c_125 => ?_) (fun c_125 => ?_)
            · refine r_aload_n dX10_both_129 rfl (zRv_ref _) rfl ?_
              refine r_iload_n dX10_both_130 rfl rfl ?_
              refine m_puti hm 45 lfX10_324 rfl rfl rfl dX10_both_131 rfl ?_
              refine r_aload_n dX10_both_134 rfl (zRv_ref _) rfl ?_
              refine m_geta hm 46 32 lfX10_106 rfl (by decide) dX10_both_135 rfl ?_
              refine r_iload_n dX10_both_138 rfl rfl ?_
              refine m_faldv hm 32 _ (by decide) (by decide) rfl rfl (by show _ < 3000; omega) (by first | (simp only [zGS, zMS, Nat.reduceEqDiff, OfNat.ofNat_ne_ofNat, false_and, and_false, true_and, and_true, and_self, if_true, if_false, ite_true, ite_false, reduceIte, reduceCtorEq]; first | done | assumption | rfl) | assumption | exact z2_eq | exact z1_eq | (simp [zGS, zMS]; first | done | assumption) | rfl) dX10_both_139 rfl ?_
              refine r_fstore (ls' := [_, _, _, _, _, _, _, _]) dX10_both_140 (Nat.le_of_ble_eq_true rfl) rfl rfl ?_
              refine r_aload_n dX10_both_142 rfl (zRv_ref _) rfl ?_
              refine m_geta hm 46 32 lfX10_106 rfl (by decide) dX10_both_143 rfl ?_
              refine r_iload_n dX10_both_146 rfl rfl ?_
              refine m_faldv hm 32 _ (by decide) (by decide) rfl rfl (by show _ < 3000; omega) (by first | (simp only [zGS, zMS, Nat.reduceEqDiff, OfNat.ofNat_ne_ofNat, false_and, and_false, true_and, and_true, and_self, if_true, if_false, ite_true, ite_false, reduceIte, reduceCtorEq]; first | done | assumption | rfl) | assumption | exact z2_eq | exact z1_eq | (simp [zGS, zMS]; first | done | assumption) | rfl) dX10_both_147 rfl ?_
              refine r_fstore (ls' := [_, _, _, _, _, _, _, _]) dX10_both_148 (Nat.le_of_ble_eq_true rfl) rfl rfl ?_
              refine r_iload_n dX10_both_150 rfl rfl ?_
              refine r_bipush dX10_both_151 kb_11 rfl ?_
              refine r_icmp_neN (by omega) (by omega) (r := 182) dX10_both_153 (by decide) rfl (fun c_153 => ?_) (fun c_153 => ?_)
              · exact absurd rfl c_153
              · refine r_aload_n dX10_both_156 rfl (zRv_ref _) rfl ?_
                refine m_geta hm 47 33 lfX10_109 rfl (by decide) dX10_both_157 rfl ?_
                refine r_iload_n dX10_both_160 rfl rfl ?_
                refine m_zaldv hm 33 _ (by decide) (by decide) rfl rfl (by show _ < 3000; omega) (by first | (simp only [zGS, zMS, Nat.reduceEqDiff, OfNat.ofNat_ne_ofNat, false_and, and_false, true_and, and_true, and_self, if_true, if_false, ite_true, ite_false, reduceIte, reduceCtorEq]; first | done | assumption | rfl) | assumption | exact z2_eq | exact z1_eq | (simp [zGS, zMS]; first | done | assumption) | rfl) dX10_both_161 rfl ?_
                refine r_if_eqB (r := 178) dX10_both_162 (by decide) rfl (fun c_162 => ?_) (fun c_162 => ?_)
                · cases c_162
                · refine r_aload_n dX10_both_165 rfl (zRv_ref _) rfl ?_
                  refine m_geta hm 47 33 lfX10_109 rfl (by decide) dX10_both_166 rfl ?_
                  refine r_iload_n dX10_both_169 rfl rfl ?_
                  refine m_zaldv hm 33 _ (by decide) (by decide) rfl rfl (by show _ < 3000; omega) (by first | (simp only [zGS, zMS, Nat.reduceEqDiff, OfNat.ofNat_ne_ofNat, false_and, and_false, true_and, and_true, and_self, if_true, if_false, ite_true, ite_false, reduceIte, reduceCtorEq]; first | done | assumption | rfl) | assumption | exact z2_eq | exact z1_eq | (simp [zGS, zMS]; first | done | assumption) | rfl) dX10_both_170 rfl ?_
                  refine r_if_eqB (r := 178) dX10_both_171 (by decide) rfl (fun c_171 => ?_) (fun c_171 => ?_)
                  · cases c_171
                  · refine r_iconst dX10_both_174 kc_1 rfl ?_
                    refine r_goto (r := 188) dX10_both_175 (by decide) ?_
                    refine r_istore (ls' := [_, _, _, _, _, _, _, _]) dX10_both_188 (Nat.le_of_ble_eq_true rfl) rfl rfl ?_
                    refine r_aload_n dX10_both_190 rfl (zRv_ref _) rfl ?_
                    refine r_iload_n dX10_both_191 rfl rfl ?_
                    refine r_bipush dX10_both_192 kb_9 rfl ?_
                    refine r_icmp_neN (by omega) (by omega) (r := 205) dX10_both_194 (by decide) rfl (fun c_194 => ?_) (fun c_194 => ?_)
                    · refine r_iload_n dX10_both_205 rfl rfl ?_
                      refine r_bipush dX10_both_206 kb_10 rfl ?_
                      refine r_icmp_neN (by omega) (by omega) (r := 219) dX10_both_208 (by decide) rfl (fun c_208 => ?_) (fun c_208 => ?_)
                      · refine r_iload_n dX10_both_219 rfl rfl ?_
                        refine r_bipush dX10_both_220 kb_11 rfl ?_
                        refine r_icmp_neN (by omega) (by omega) (r := 233) dX10_both_222 (by decide) rfl (fun c_222 => ?_) (fun c_222 => ?_)
                        · exact absurd rfl c_222
                        · refine r_fload dX10_both_225 rfl rfl ?_
                          refine r_fload dX10_both_227 rfl rfl ?_
                          refine r_fmul dX10_both_229 (hn.2.2.1 rfl) rfl ?_
                          refine r_goto (r := 238) dX10_both_230 (by decide) ?_
                          refine r_iload dX10_both_238 rfl rfl ?_
                          refine r_callV MX10_push 2 [_, _] lvX10_331 (Or.inr (Or.inl ⟨hm, rfl⟩)) (f9) rfl rfl (by first | exact Nat.le_of_ble_eq_true rfl | (simp [zcat_rf, Value.category]; done)) (by omega) (Nat.le_of_eq (Nat.zero_add _)) (Nat.le_of_eq (Nat.zero_add _)) dX10_both_240 rfl (fun v_ w_ sg_ hq_ => ?_)
                          obtain ⟨rfl, rfl, q3⟩ := hq_
                          refine r_vret rfl dX10_both_243 ?_
                          exact ⟨rfl, rfl, q3⟩
                      · exact absurd c_208 (by decide)
                    · exact absurd c_194 (by decide)
            · cases c_125
          · cases c_112
      · skip
        refine r_aload_n dX10_both_102 rfl (zRv_ref _) rfl ?_
        refine r_aload_n dX10_both_103 rfl (zRv_ref _) rfl ?_
        refine m_getiv hm 56 lfX10_319 rfl (by first | (simp only [zGS, zMS, Nat.reduceEqDiff, OfNat.ofNat_ne_ofNat, false_and, and_false, true_and, and_true, and_self, if_true, if_false, ite_true, ite_false, reduceIte, reduceCtorEq]; first | done | assumption | rfl) | assumption | exact z2_eq | exact z1_eq | (simp [zGS, zMS]; first | done | assumption) | rfl) dX10_both_104 rfl ?_
        refine r_if_neB (r := 115) dX10_both_107 (by decide) rfl (fun c_107 => ?_) (fun c_107 => ?_)
        · cases c_107
        · refine r_iload dX10_both_110 rfl rfl ?_
          refine r_if_neB (r := 119) dX10_both_112 (by decide) rfl (fun c_112 => ?_) (fun c_112 => ?_)
          · refine r_iconst dX10_both_119 kc_0 rfl ?_
            refine m_putz hm 56 (by first | exact Or.inl rfl | exact Or.inr rfl | exact zb01 _ | assumption) lfX10_319 rfl rfl rfl dX10_both_120 rfl ?_
            refine r_iload dX10_both_123 rfl rfl ?_
            refine r_if_neB (r := 129) dX10_both_125 (by decide) rfl (fun c_125 => ?_) (fun c_125 => ?_)
            · refine r_aload_n dX10_both_129 rfl (zRv_ref _) rfl ?_
              refine r_iload_n dX10_both_130 rfl rfl ?_
              refine m_puti hm 45 lfX10_324 rfl rfl rfl dX10_both_131 rfl ?_
              refine r_aload_n dX10_both_134 rfl (zRv_ref _) rfl ?_
              refine m_geta hm 46 32 lfX10_106 rfl (by decide) dX10_both_135 rfl ?_
              refine r_iload_n dX10_both_138 rfl rfl ?_
              refine m_faldv hm 32 _ (by decide) (by decide) rfl rfl (by show _ < 3000; omega) (by first | (simp only [zGS, zMS, Nat.reduceEqDiff, OfNat.ofNat_ne_ofNat, false_and, and_false, true_and, and_true, and_self, if_true, if_false, ite_true, ite_false, reduceIte, reduceCtorEq]; first | done | assumption | rfl) | assumption | exact z2_eq | exact z1_eq | (simp [zGS, zMS]; first | done | assumption) | rfl) dX10_both_139 rfl ?_
              refine r_fstore (ls' := [_, _, _, _, _, _, _, _]) dX10_both_140 (Nat.le_of_ble_eq_true rfl) rfl rfl ?_
              refine r_aload_n dX10_both_142 rfl (zRv_ref _) rfl ?_
              refine m_geta hm 46 32 lfX10_106 rfl (by decide) dX10_both_143 rfl ?_
              refine r_iload_n dX10_both_146 rfl rfl ?_
              refine m_faldv hm 32 _ (by decide) (by decide) rfl rfl (by show _ < 3000; omega) (by first | (simp only [zGS, zMS, Nat.reduceEqDiff, OfNat.ofNat_ne_ofNat, false_and, and_false, true_and, and_true, and_self, if_true, if_false, ite_true, ite_false, reduceIte, reduceCtorEq]; first | done | assumption | rfl) | assumption | exact z2_eq | exact z1_eq | (simp [zGS, zMS]; first | done | assumption) | rfl) dX10_both_147 rfl ?_
              refine r_fstore (ls' := [_, _, _, _, _, _, _, _]) dX10_both_148 (Nat.le_of_ble_eq_true rfl) rfl rfl ?_
              refine r_iload_n dX10_both_150 rfl rfl ?_
              refine r_bipush dX10_both_151 kb_11 rfl ?_
              refine r_icmp_neN (by omega) (by omega) (r := 182) dX10_both_153 (by decide) rfl (fun c_153 => ?_) (fun c_153 => ?_)
              · exact absurd rfl c_153
              · refine r_aload_n dX10_both_156 rfl (zRv_ref _) rfl ?_
                refine m_geta hm 47 33 lfX10_109 rfl (by decide) dX10_both_157 rfl ?_
                refine r_iload_n dX10_both_160 rfl rfl ?_
                refine m_zaldv hm 33 _ (by decide) (by decide) rfl rfl (by show _ < 3000; omega) (by first | (simp only [zGS, zMS, Nat.reduceEqDiff, OfNat.ofNat_ne_ofNat, false_and, and_false, true_and, and_true, and_self, if_true, if_false, ite_true, ite_false, reduceIte, reduceCtorEq]; first | done | assumption | rfl) | assumption | exact z2_eq | exact z1_eq | (simp [zGS, zMS]; first | done | assumption) | rfl) dX10_both_161 rfl ?_
                refine r_if_eqB (r := 178) dX10_both_162 (by decide) rfl (fun c_162 => ?_) (fun c_162 => ?_)
                · cases c_162
                · refine r_aload_n dX10_both_165 rfl (zRv_ref _) rfl ?_
                  refine m_geta hm 47 33 lfX10_109 rfl (by decide) dX10_both_166 rfl ?_
                  refine r_iload_n dX10_both_169 rfl rfl ?_
                  refine m_zaldv hm 33 _ (by decide) (by decide) rfl rfl (by show _ < 3000; omega) (by first | (simp only [zGS, zMS, Nat.reduceEqDiff, OfNat.ofNat_ne_ofNat, false_and, and_false, true_and, and_true, and_self, if_true, if_false, ite_true, ite_false, reduceIte, reduceCtorEq]; first | done | assumption | rfl) | assumption | exact z2_eq | exact z1_eq | (simp [zGS, zMS]; first | done | assumption) | rfl) dX10_both_170 rfl ?_
                  refine r_if_eqB (r := 178) dX10_both_171 (by decide) rfl (fun c_171 => ?_) (fun c_171 => ?_)
                  · refine r_iconst dX10_both_178 kc_0 rfl ?_
                    refine r_goto (r := 188) dX10_both_179 (by decide) ?_
                    refine r_istore (ls' := [_, _, _, _, _, _, _, _]) dX10_both_188 (Nat.le_of_ble_eq_true rfl) rfl rfl ?_
                    refine r_aload_n dX10_both_190 rfl (zRv_ref _) rfl ?_
                    refine r_iload_n dX10_both_191 rfl rfl ?_
                    refine r_bipush dX10_both_192 kb_9 rfl ?_
                    refine r_icmp_neN (by omega) (by omega) (r := 205) dX10_both_194 (by decide) rfl (fun c_194 => ?_) (fun c_194 => ?_)
                    · refine r_iload_n dX10_both_205 rfl rfl ?_
                      refine r_bipush dX10_both_206 kb_10 rfl ?_
                      refine r_icmp_neN (by omega) (by omega) (r := 219) dX10_both_208 (by decide) rfl (fun c_208 => ?_) (fun c_208 => ?_)
                      · refine r_iload_n dX10_both_219 rfl rfl ?_
                        refine r_bipush dX10_both_220 kb_11 rfl ?_
                        refine r_icmp_neN (by omega) (by omega) (r := 233) dX10_both_222 (by decide) rfl (fun c_222 => ?_) (fun c_222 => ?_)
                        · exact absurd rfl c_222
                        · refine r_fload dX10_both_225 rfl rfl ?_
                          refine r_fload dX10_both_227 rfl rfl ?_
                          refine r_fmul dX10_both_229 (hn.2.2.1 rfl) rfl ?_
                          refine r_goto (r := 238) dX10_both_230 (by decide) ?_
                          refine r_iload dX10_both_238 rfl rfl ?_
                          refine r_callV MX10_push 2 [_, _] lvX10_331 (Or.inr (Or.inl ⟨hm, rfl⟩)) (f9) rfl rfl (by first | exact Nat.le_of_ble_eq_true rfl | (simp [zcat_rf, Value.category]; done)) (by omega) (Nat.le_of_eq (Nat.zero_add _)) (Nat.le_of_eq (Nat.zero_add _)) dX10_both_240 rfl (fun v_ w_ sg_ hq_ => ?_)
                          obtain ⟨rfl, rfl, q3⟩ := hq_
                          refine r_vret rfl dX10_both_243 ?_
                          exact ⟨rfl, rfl, q3⟩
                      · exact absurd c_208 (by decide)
                    · exact absurd c_194 (by decide)
                  · cases c_171
            · cases c_125
          · cases c_112
      · skip
        refine r_aload_n dX10_both_102 rfl (zRv_ref _) rfl ?_
        refine r_aload_n dX10_both_103 rfl (zRv_ref _) rfl ?_
        refine m_getiv hm 56 lfX10_319 rfl (by first | (simp only [zGS, zMS, Nat.reduceEqDiff, OfNat.ofNat_ne_ofNat, false_and, and_false, true_and, and_true, and_self, if_true, if_false, ite_true, ite_false, reduceIte, reduceCtorEq]; first | done | assumption | rfl) | assumption | exact z2_eq | exact z1_eq | (simp [zGS, zMS]; first | done | assumption) | rfl) dX10_both_104 rfl ?_
        refine r_if_neB (r := 115) dX10_both_107 (by decide) rfl (fun c_107 => ?_) (fun c_107 => ?_)
        · cases c_107
        · refine r_iload dX10_both_110 rfl rfl ?_
          refine r_if_neB (r := 119) dX10_both_112 (by decide) rfl (fun c_112 => ?_) (fun c_112 => ?_)
          · refine r_iconst dX10_both_119 kc_0 rfl ?_
            refine m_putz hm 56 (by first | exact Or.inl rfl | exact Or.inr rfl | exact zb01 _ | assumption) lfX10_319 rfl rfl rfl dX10_both_120 rfl ?_
            refine r_iload dX10_both_123 rfl rfl ?_
            refine r_if_neB (r := 129) dX10_both_125 (by decide) rfl (fun c_125 => ?_) (fun c_125 => ?_)
            · refine r_aload_n dX10_both_129 rfl (zRv_ref _) rfl ?_
              refine r_iload_n dX10_both_130 rfl rfl ?_
              refine m_puti hm 45 lfX10_324 rfl rfl rfl dX10_both_131 rfl ?_
              refine r_aload_n dX10_both_134 rfl (zRv_ref _) rfl ?_
              refine m_geta hm 46 32 lfX10_106 rfl (by decide) dX10_both_135 rfl ?_
              refine r_iload_n dX10_both_138 rfl rfl ?_
              refine m_faldv hm 32 _ (by decide) (by decide) rfl rfl (by show _ < 3000; omega) (by first | (simp only [zGS, zMS, Nat.reduceEqDiff, OfNat.ofNat_ne_ofNat, false_and, and_false, true_and, and_true, and_self, if_true, if_false, ite_true, ite_false, reduceIte, reduceCtorEq]; first | done | assumption | rfl) | assumption | exact z2_eq | exact z1_eq | (simp [zGS, zMS]; first | done | assumption) | rfl) dX10_both_139 rfl ?_
              refine r_fstore (ls' := [_, _, _, _, _, _, _, _]) dX10_both_140 (Nat.le_of_ble_eq_true rfl) rfl rfl ?_
              refine r_aload_n dX10_both_142 rfl (zRv_ref _) rfl ?_
              refine m_geta hm 46 32 lfX10_106 rfl (by decide) dX10_both_143 rfl ?_
              refine r_iload_n dX10_both_146 rfl rfl ?_
              refine m_faldv hm 32 _ (by decide) (by decide) rfl rfl (by show _ < 3000; omega) (by first | (simp only [zGS, zMS, Nat.reduceEqDiff, OfNat.ofNat_ne_ofNat, false_and, and_false, true_and, and_true, and_self, if_true, if_false, ite_true, ite_false, reduceIte, reduceCtorEq]; first | done | assumption | rfl) | assumption | exact z2_eq | exact z1_eq | (simp [zGS, zMS]; first | done | assumption) | rfl) dX10_both_147 rfl ?_
              refine r_fstore (ls' := [_, _, _, _, _, _, _, _]) dX10_both_148 (Nat.le_of_ble_eq_true rfl) rfl rfl ?_
              refine r_iload_n dX10_both_150 rfl rfl ?_
              refine r_bipush dX10_both_151 kb_11 rfl ?_
              refine r_icmp_neN (by omega) (by omega) (r := 182) dX10_both_153 (by decide) rfl (fun c_153 => ?_) (fun c_153 => ?_)
              · exact absurd rfl c_153
              · refine r_aload_n dX10_both_156 rfl (zRv_ref _) rfl ?_
                refine m_geta hm 47 33 lfX10_109 rfl (by decide) dX10_both_157 rfl ?_
                refine r_iload_n dX10_both_160 rfl rfl ?_
                refine m_zaldv hm 33 _ (by decide) (by decide) rfl rfl (by show _ < 3000; omega) (by first | (simp only [zGS, zMS, Nat.reduceEqDiff, OfNat.ofNat_ne_ofNat, false_and, and_false, true_and, and_true, and_self, if_true, if_false, ite_true, ite_false, reduceIte, reduceCtorEq]; first | done | assumption | rfl) | assumption | exact z2_eq | exact z1_eq | (simp [zGS, zMS]; first | done | assumption) | rfl) dX10_both_161 rfl ?_
                refine r_if_eqB (r := 178) dX10_both_162 (by decide) rfl (fun c_162 => ?_) (fun c_162 => ?_)
                · refine r_iconst dX10_both_178 kc_0 rfl ?_
                  refine r_goto (r := 188) dX10_both_179 (by decide) ?_
                  refine r_istore (ls' := [_, _, _, _, _, _, _, _]) dX10_both_188 (Nat.le_of_ble_eq_true rfl) rfl rfl ?_
                  refine r_aload_n dX10_both_190 rfl (zRv_ref _) rfl ?_
                  refine r_iload_n dX10_both_191 rfl rfl ?_
                  refine r_bipush dX10_both_192 kb_9 rfl ?_
                  refine r_icmp_neN (by omega) (by omega) (r := 205) dX10_both_194 (by decide) rfl (fun c_194 => ?_) (fun c_194 => ?_)
                  · refine r_iload_n dX10_both_205 rfl rfl ?_
                    refine r_bipush dX10_both_206 kb_10 rfl ?_
                    refine r_icmp_neN (by omega) (by omega) (r := 219) dX10_both_208 (by decide) rfl (fun c_208 => ?_) (fun c_208 => ?_)
                    · refine r_iload_n dX10_both_219 rfl rfl ?_
                      refine r_bipush dX10_both_220 kb_11 rfl ?_
                      refine r_icmp_neN (by omega) (by omega) (r := 233) dX10_both_222 (by decide) rfl (fun c_222 => ?_) (fun c_222 => ?_)
                      · exact absurd rfl c_222
                      · refine r_fload dX10_both_225 rfl rfl ?_
                        refine r_fload dX10_both_227 rfl rfl ?_
                        refine r_fmul dX10_both_229 (hn.2.2.1 rfl) rfl ?_
                        refine r_goto (r := 238) dX10_both_230 (by decide) ?_
                        refine r_iload dX10_both_238 rfl rfl ?_
                        refine r_callV MX10_push 2 [_, _] lvX10_331 (Or.inr (Or.inl ⟨hm, rfl⟩)) (f9) rfl rfl (by first | exact Nat.le_of_ble_eq_true rfl | (simp [zcat_rf, Value.category]; done)) (by omega) (Nat.le_of_eq (Nat.zero_add _)) (Nat.le_of_eq (Nat.zero_add _)) dX10_both_240 rfl (fun v_ w_ sg_ hq_ => ?_)
                        obtain ⟨rfl, rfl, q3⟩ := hq_
                        refine r_vret rfl dX10_both_243 ?_
                        exact ⟨rfl, rfl, q3⟩
                    · exact absurd c_208 (by decide)
                  · exact absurd c_194 (by decide)
                · cases c_162
            · cases c_125
          · cases c_112
      · skip
        refine r_aload_n dX10_both_102 rfl (zRv_ref _) rfl ?_
        refine r_aload_n dX10_both_103 rfl (zRv_ref _) rfl ?_
        refine m_getiv hm 56 lfX10_319 rfl (by first | (simp only [zGS, zMS, Nat.reduceEqDiff, OfNat.ofNat_ne_ofNat, false_and, and_false, true_and, and_true, and_self, if_true, if_false, ite_true, ite_false, reduceIte, reduceCtorEq]; first | done | assumption | rfl) | assumption | exact z2_eq | exact z1_eq | (simp [zGS, zMS]; first | done | assumption) | rfl) dX10_both_104 rfl ?_
        refine r_if_neB (r := 115) dX10_both_107 (by decide) rfl (fun c_107 => ?_) (fun c_107 => ?_)
        · cases c_107
        · refine r_iload dX10_both_110 rfl rfl ?_
          refine r_if_neB (r := 119) dX10_both_112 (by decide) rfl (fun c_112 => ?_) (fun c_112 => ?_)
          · refine r_iconst dX10_both_119 kc_0 rfl ?_
            refine m_putz hm 56 (by first | exact Or.inl rfl | exact Or.inr rfl | exact zb01 _ | assumption) lfX10_319 rfl rfl rfl dX10_both_120 rfl ?_
            refine r_iload dX10_both_123 rfl rfl ?_
            refine r_if_neB (r := 129) dX10_both_125 (by decide) rfl (fun c_125 => ?_) (fun c_125 => ?_)
            · refine r_aload_n dX10_both_129 rfl (zRv_ref _) rfl ?_
              refine r_iload_n dX10_both_130 rfl rfl ?_
              refine m_puti hm 45 lfX10_324 rfl rfl rfl dX10_both_131 rfl ?_
              refine r_aload_n dX10_both_134 rfl (zRv_ref _) rfl ?_
              refine m_geta hm 46 32 lfX10_106 rfl (by decide) dX10_both_135 rfl ?_
              refine r_iload_n dX10_both_138 rfl rfl ?_
              refine m_faldv hm 32 _ (by decide) (by decide) rfl rfl (by show _ < 3000; omega) (by first | (simp only [zGS, zMS, Nat.reduceEqDiff, OfNat.ofNat_ne_ofNat, false_and, and_false, true_and, and_true, and_self, if_true, if_false, ite_true, ite_false, reduceIte, reduceCtorEq]; first | done | assumption | rfl) | assumption | exact z2_eq | exact z1_eq | (simp [zGS, zMS]; first | done | assumption) | rfl) dX10_both_139 rfl ?_
              refine r_fstore (ls' := [_, _, _, _, _, _, _, _]) dX10_both_140 (Nat.le_of_ble_eq_true rfl) rfl rfl ?_
              refine r_aload_n dX10_both_142 rfl (zRv_ref _) rfl ?_
              refine m_geta hm 46 32 lfX10_106 rfl (by decide) dX10_both_143 rfl ?_
              refine r_iload_n dX10_both_146 rfl rfl ?_
              refine m_faldv hm 32 _ (by decide) (by decide) rfl rfl (by show _ < 3000; omega) (by first | (simp only [zGS, zMS, Nat.reduceEqDiff, OfNat.ofNat_ne_ofNat, false_and, and_false, true_and, and_true, and_self, if_true, if_false, ite_true, ite_false, reduceIte, reduceCtorEq]; first | done | assumption | rfl) | assumption | exact z2_eq | exact z1_eq | (simp [zGS, zMS]; first | done | assumption) | rfl) dX10_both_147 rfl ?_
              refine r_fstore (ls' := [_, _, _, _, _, _, _, _]) dX10_both_148 (Nat.le_of_ble_eq_true rfl) rfl rfl ?_
              refine r_iload_n dX10_both_150 rfl rfl ?_
              refine r_bipush dX10_both_151 kb_11 rfl ?_
              refine r_icmp_neN (by omega) (by omega) (r := 182) dX10_both_153 (by decide) rfl (fun c_153 => ?_) (fun c_153 => ?_)
              · exact absurd rfl c_153
              · refine r_aload_n dX10_both_156 rfl (zRv_ref _) rfl ?_
                refine m_geta hm 47 33 lfX10_109 rfl (by decide) dX10_both_157 rfl ?_
                refine r_iload_n dX10_both_160 rfl rfl ?_
                refine m_zaldv hm 33 _ (by decide) (by decide) rfl rfl (by show _ < 3000; omega) (by first | (simp only [zGS, zMS, Nat.reduceEqDiff, OfNat.ofNat_ne_ofNat, false_and, and_false, true_and, and_true, and_self, if_true, if_false, ite_true, ite_false, reduceIte, reduceCtorEq]; first | done | assumption | rfl) | assumption | exact z2_eq | exact z1_eq | (simp [zGS, zMS]; first | done | assumption) | rfl) dX10_both_161 rfl ?_
                refine r_if_eqB (r := 178) dX10_both_162 (by decide) rfl (fun c_162 => ?_) (fun c_162 => ?_)
                · refine r_iconst dX10_both_178 kc_0 rfl ?_
                  refine r_goto (r := 188) dX10_both_179 (by decide) ?_
                  refine r_istore (ls' := [_, _, _, _, _, _, _, _]) dX10_both_188 (Nat.le_of_ble_eq_true rfl) rfl rfl ?_
                  refine r_aload_n dX10_both_190 rfl (zRv_ref _) rfl ?_
                  refine r_iload_n dX10_both_191 rfl rfl ?_
                  refine r_bipush dX10_both_192 kb_9 rfl ?_
                  refine r_icmp_neN (by omega) (by omega) (r := 205) dX10_both_194 (by decide) rfl (fun c_194 => ?_) (fun c_194 => ?_)
                  · refine r_iload_n dX10_both_205 rfl rfl ?_
                    refine r_bipush dX10_both_206 kb_10 rfl ?_
                    refine r_icmp_neN (by omega) (by omega) (r := 219) dX10_both_208 (by decide) rfl (fun c_208 => ?_) (fun c_208 => ?_)
                    · refine r_iload_n dX10_both_219 rfl rfl ?_
                      refine r_bipush dX10_both_220 kb_11 rfl ?_
                      refine r_icmp_neN (by omega) (by omega) (r := 233) dX10_both_222 (by decide) rfl (fun c_222 => ?_) (fun c_222 => ?_)
                      · exact absurd rfl c_222
                      · refine r_fload dX10_both_225 rfl rfl ?_
                        refine r_fload dX10_both_227 rfl rfl ?_
                        refine r_fmul dX10_both_229 (hn.2.2.1 rfl) rfl ?_
                        refine r_goto (r := 238) dX10_both_230 (by decide) ?_
                        refine r_iload dX10_both_238 rfl rfl ?_
                        refine r_callV MX10_push 2 [_, _] lvX10_331 (Or.inr (Or.inl ⟨hm, rfl⟩)) (f9) rfl rfl (by first | exact Nat.le_of_ble_eq_true rfl | (simp [zcat_rf, Value.category]; done)) (by omega) (Nat.le_of_eq (Nat.zero_add _)) (Nat.le_of_eq (Nat.zero_add _)) dX10_both_240 rfl (fun v_ w_ sg_ hq_ => ?_)
                        obtain ⟨rfl, rfl, q3⟩ := hq_
                        refine r_vret rfl dX10_both_243 ?_
                        exact ⟨rfl, rfl, q3⟩
                    · exact absurd c_208 (by decide)
                  · exact absurd c_194 (by decide)
                · cases c_162
            · cases c_125
          · cases c_112
    · have f9 := fin k1 (FP.fdiv a b) h1 (hn.2.2.2 rfl)
      refine r_aload_n dX10_both_102 rfl (zRv_ref _) rfl ?_
      refine r_aload_n dX10_both_103 rfl (zRv_ref _) rfl ?_
      refine m_getiv hm 56 lfX10_319 rfl (by first | (simp only [zGS, zMS, Nat.reduceEqDiff, OfNat.ofNat_ne_ofNat, false_and, and_false, true_and, and_true, and_self, if_true, if_false, ite_true, ite_false, reduceIte, reduceCtorEq]; first | done | assumption | rfl) | assumption | exact z2_eq | exact z1_eq | (simp [zGS, zMS]; first | done | assumption) | rfl) dX10_both_104 rfl ?_
      refine r_if_neB (r := 115) dX10_both_107 (by decide) rfl (fun c_107 => ?_) (fun c_107 => ?_)
      · cases c_107
      · refine r_iload dX10_both_110 rfl rfl ?_
        refine r_if_neB (r := 119) dX10_both_112 (by decide) rfl (fun c_112 => ?_) (fun c_112 => ?_)
        · refine r_iconst dX10_both_119 kc_0 rfl ?_
          refine m_putz hm 56 (by first | exact Or.inl rfl | exact Or.inr rfl | exact zb01 _ | assumption) lfX10_319 rfl rfl rfl dX10_both_120 rfl ?_
          refine r_iload dX10_both_123 rfl rfl ?_
          refine r_if_neB (r := 129) dX10_both_125 (by decide) rfl (fun c_125 => ?_) (fun c_125 => ?_)
          · refine r_aload_n dX10_both_129 rfl (zRv_ref _) rfl ?_
            refine r_iload_n dX10_both_130 rfl rfl ?_
            refine m_puti hm 45 lfX10_324 rfl rfl rfl dX10_both_131 rfl ?_
            refine r_aload_n dX10_both_134 rfl (zRv_ref _) rfl ?_
            refine m_geta hm 46 32 lfX10_106 rfl (by decide) dX10_both_135 rfl ?_
            refine r_iload_n dX10_both_138 rfl rfl ?_
            refine m_faldv hm 32 _ (by decide) (by decide) rfl rfl (by show _ < 3000; omega) (by first | (simp only [zGS, zMS, Nat.reduceEqDiff, OfNat.ofNat_ne_ofNat, false_and, and_false, true_and, and_true, and_self, if_true, if_false, ite_true, ite_false, reduceIte, reduceCtorEq]; first | done | assumption | rfl) | assumption | exact z2_eq | exact z1_eq | (simp [zGS, zMS]; first | done | assumption) | rfl) dX10_both_139 rfl ?_
            refine r_fstore (ls' := [_, _, _, _, _, _, _, _]) dX10_both_140 (Nat.le_of_ble_eq_true rfl) rfl rfl ?_
            refine r_aload_n dX10_both_142 rfl (zRv_ref _) rfl ?_
            refine m_geta hm 46 32 lfX10_106 rfl (by decide) dX10_both_143 rfl ?_
            refine r_iload_n dX10_both_146 rfl rfl ?_
            refine m_faldv hm 32 _ (by decide) (by decide) rfl rfl (by show _ < 3000; omega) (by first | (simp only [zGS, zMS, Nat.reduceEqDiff, OfNat.ofNat_ne_ofNat, false_and, and_false, true_and, and_true, and_self, if_true, if_false, ite_true, ite_false, reduceIte, reduceCtorEq]; first | done | assumption | rfl) | assumption | exact z2_eq | exact z1_eq | (simp [zGS, zMS]; first | done | assumption) | rfl) dX10_both_147 rfl ?_
            refine r_fstore (ls' := [_, _, _, _, _, _, _, _]) dX10_both_148 (Nat.le_of_ble_eq_true rfl) rfl rfl ?_
            refine r_iload_n dX10_both_150 rfl rfl ?_
            refine r_bipush dX10_both_151 kb_11 rfl ?_
            refine r_icmp_neN (by omega) (by omega) (r := 182) dX10_both_153 (by decide) rfl (fun c_153 => ?_) (fun c_153 => ?_)
            · refine r_aload_n dX10_both_182 rfl (zRv_ref _) rfl ?_
              refine m_geta hm 47 33 lfX10_109 rfl (by decide) dX10_both_183 rfl ?_
              refine r_iload_n dX10_both_186 rfl rfl ?_
              refine m_zaldv hm 33 _ (by decide) (by decide) rfl rfl (by show _ < 3000; omega) (by first | (simp only [zGS, zMS, Nat.reduceEqDiff, OfNat.ofNat_ne_ofNat, false_and, and_false, true_and, and_true, and_self, if_true, if_false, ite_true, ite_false, reduceIte, reduceCtorEq]; first | done | assumption | rfl) | assumption | exact z2_eq | exact z1_eq | (simp [zGS, zMS]; first | done | assumption) | rfl) dX10_both_187 rfl ?_
              refine r_istore (ls' := [_, _, _, _, _, _, _, _]) dX10_both_188 (Nat.le_of_ble_eq_true rfl) rfl rfl ?_
              refine r_aload_n dX10_both_190 rfl (zRv_ref _) rfl ?_
              refine r_iload_n dX10_both_191 rfl rfl ?_
              refine r_bipush dX10_both_192 kb_9 rfl ?_
              refine r_icmp_neN (by omega) (by omega) (r := 205) dX10_both_194 (by decide) rfl (fun c_194 => ?_) (fun c_194 => ?_)
              · refine r_iload_n dX10_both_205 rfl rfl ?_
                refine r_bipush dX10_both_206 kb_10 rfl ?_
                refine r_icmp_neN (by omega) (by omega) (r := 219) dX10_both_208 (by decide) rfl (fun c_208 => ?_) (fun c_208 => ?_)
                · refine r_iload_n dX10_both_219 rfl rfl ?_
                  refine r_bipush dX10_both_220 kb_11 rfl ?_
                  refine r_icmp_neN (by omega) (by omega) (r := 233) dX10_both_222 (by decide) rfl (fun c_222 => ?_) (fun c_222 => ?_)
                  · refine r_fload dX10_both_233 rfl rfl ?_
                    refine r_fload dX10_both_235 rfl rfl ?_
                    refine r_fdiv dX10_both_237 (hn.2.2.2 rfl) rfl ?_
                    refine r_iload dX10_both_238 rfl rfl ?_
                    refine r_callV MX10_push 2 [_, _] lvX10_331 (Or.inr (Or.inl ⟨hm, rfl⟩)) (f9) rfl rfl (by first | exact Nat.le_of_ble_eq_true rfl | (simp [zcat_rf, Value.category]; done)) (by omega) (Nat.le_of_eq (Nat.zero_add _)) (Nat.le_of_eq (Nat.zero_add _)) dX10_both_240 rfl (fun v_ w_ sg_ hq_ => ?_)
                    obtain ⟨rfl, rfl, q3⟩ := hq_
                    refine r_vret rfl dX10_both_243 ?_
                    exact ⟨rfl, rfl, q3⟩
                  · exact absurd c_222 (by decide)
                · exact absurd c_208 (by decide)
              · exact absurd c_194 (by decide)
            · exact absurd c_153 (by decide)
          · cases c_125
        · cases c_112
/-- a sign between two -/
theorem p_both (E : ZE) (mo : Nat) (hm : E.2.2.2.2 = some mo) (w : ZW) (sg : ZM) (d H s : Nat) (hd : 2 ≤ d) (hs : 5 ≤ s ∧ s < 9) (st : List PVal) (h56 : mi sg 56 = zb false) (h45 : mi sg 45 = nI (H + st.length)) (hA : stA sg H st) (hl : H + st.length < 3000) (h2 : 2 ≤ st.length) (ho : okStk st) : CallQ E MX10_both [.ref mo, .int (nI (s + 4))] w sg d 0 0 (fun r w' sg' => r = none ∧ w = w' ∧ stO sg sg' H (comS s st)) := by
  match st, h45, hA, hl, h2, ho with
  | (k2, b) :: (k1, a) :: st, h45, hA, hl, h2, ho =>
    have h45' : mi sg 45 = nI (H + st.length + 2) := h45
    have hl' : H + st.length + 2 < 3000 := hl
    obtain ⟨g1, g2, g3, g4, g5⟩ := id hA
    have g1' : mg sg 32 (H + st.length + 1) = b := g1
    have g2' : ma sg 33 (H + st.length + 1) = zb (decide (k2 = 0)) := g2
    have oy := ho (k2, b) List.mem_cons_self
    have oz := ho (k1, a) (List.mem_cons_of_mem _ List.mem_cons_self)
    have q1 : k2 ≤ 1 := oy.1
    have q2 : fFin b := oy.2
    have q3 : k1 ≤ 1 := oz.1
    have q4 : fFin a := oz.2
    have n1 := fadd_n q4 q2
    have n2 := fsub_n q4 q2
    have n3 := fmul_n q4 q2
    have K := fun (x : Bool) hx => bo_102 E mo hm w sg d H (s + 4) k1 k2 (by omega) (by omega) a b st q3 q1 h56 h45' hA hl' x hx
    have e45 : mi sg 45 = nI (H + st.length + 1 + 1) := h45
    refine CallQ.of rfl (by simp [Value.category]) (Nat.le_of_ble_eq_true rfl) ?_
    have hxx : zb (decide (k1 = 0)) = zb (decide (k2 = 0)) ↔ k1 = k2 := by
      rcases zk01 q3 with rfl | rfl <;> rcases zk01 q1 with rfl | rfl <;> decide
    rcases (by omega : s = 5 ∨ s = 6 ∨ s = 7 ∨ s = 8) with rfl | rfl | rfl | rfl
    · have hc : comS 5 ((k2, b) :: (k1, a) :: st) = (if k1 = k2 then pushS k1 (FP.fadd a b) st else none) := rfl
      have K1 := K (decide (k1 = k2)) (fun hx => ⟨fun _ => n1, fun q => absurd q (by decide), fun q => absurd q (by decide), fun q => absurd q (by decide)⟩)
      rw [hc]
      have K2 : RW E MX10_both 102 [some (.ref mo), some (.int (nI 9)), some (.int (nI (H + st.length + 1))), some (.int (nI (H + st.length))), some (.int (zb (decide (k1 = k2)))), none, none, none] [] w sg d 0 0 (PN E (fun r w' sg' => r = none ∧ w = w' ∧ stO sg sg' H (if k1 = k2 then pushS k1 (FP.fadd a b) st else none))) := by
        refine RW.qmono K1 ?_
        rintro v w' sg' ⟨z1, z2, z3⟩
        refine ⟨z1, z2, ?_⟩
        by_cases hk : k1 = k2
        · rw [decide_eq_true hk] at z3
          rw [if_pos hk]
          exact z3
        · rw [decide_eq_false hk] at z3
          rw [if_neg hk]
          exact z3
      refine r_aload_n dX10_both_0 rfl (zRv_ref _) rfl ?_
      refine m_getiv hm 45 lfX10_324 rfl (by first | (simp only [zGS, zMS, Nat.reduceEqDiff, OfNat.ofNat_ne_ofNat, false_and, and_false, true_and, and_true, and_self, if_true, if_false, ite_true, ite_false, reduceIte, reduceCtorEq]; first | done | assumption | rfl) | assumption | exact z2_eq | exact z1_eq | (simp [zGS, zMS]; first | done | assumption) | rfl) dX10_both_1 rfl ?_
      refine r_iconst dX10_both_4 kc_1 rfl ?_
      refine r_isubN (by omega) dX10_both_5 rfl ?_
      rw [Nat.add_sub_cancel]
      refine r_istore_n (ls' := [_, _, _, _, _, _, _, _]) dX10_both_6 (Nat.le_of_ble_eq_true rfl) rfl rfl ?_
      refine r_aload_n dX10_both_7 rfl (zRv_ref _) rfl ?_
      refine m_getiv hm 45 lfX10_324 rfl (by first | (simp only [zGS, zMS, Nat.reduceEqDiff, OfNat.ofNat_ne_ofNat, false_and, and_false, true_and, and_true, and_self, if_true, if_false, ite_true, ite_false, reduceIte, reduceCtorEq]; first | done | assumption | rfl) | assumption | exact z2_eq | exact z1_eq | (simp [zGS, zMS]; first | done | assumption) | rfl) dX10_both_8 rfl ?_
      refine r_iconst dX10_both_11 kc_2 rfl ?_
      refine r_isubN (by omega) dX10_both_12 rfl ?_
      rw [show H + st.length + 1 + 1 - 2 = H + st.length by omega]
      refine r_istore_n (ls' := [_, _, _, _, _, _, _, _]) dX10_both_13 (Nat.le_of_ble_eq_true rfl) rfl rfl ?_
      refine r_iload_n dX10_both_14 rfl rfl ?_
      refine r_bipush dX10_both_15 kb_11 rfl ?_
      refine r_icmp_neN (by omega) (by omega) (r := 46) dX10_both_17 (by decide) rfl (fun c_17 => ?_) (fun c_17 => ?_)
      · refine r_iload_n dX10_both_46 rfl rfl ?_
        refine r_bipush dX10_both_47 kb_12 rfl ?_
        refine r_icmp_neN (by omega) (by omega) (r := 80) dX10_both_49 (by decide) rfl (fun c_49 => ?_) (fun c_49 => ?_)
        · refine r_aload_n dX10_both_80 rfl (zRv_ref _) rfl ?_
          refine m_geta hm 47 33 lfX10_109 rfl (by decide) dX10_both_81 rfl ?_
          refine r_iload_n dX10_both_84 rfl rfl ?_
          refine m_zaldv hm 33 _ (by decide) (by decide) rfl rfl (by show _ < 3000; omega) (by first | (simp only [zGS, zMS, Nat.reduceEqDiff, OfNat.ofNat_ne_ofNat, false_and, and_false, true_and, and_true, and_self, if_true, if_false, ite_true, ite_false, reduceIte, reduceCtorEq]; first | done | assumption | rfl) | assumption | exact z2_eq | exact z1_eq | (simp [zGS, zMS]; first | done | assumption) | rfl) dX10_both_85 rfl ?_
          refine r_aload_n dX10_both_86 rfl (zRv_ref _) rfl ?_
          refine m_geta hm 47 33 lfX10_109 rfl (by decide) dX10_both_87 rfl ?_
          refine r_iload_n dX10_both_90 rfl rfl ?_
          refine m_zaldv hm 33 _ (by decide) (by decide) rfl rfl (by show _ < 3000; omega) (by first | (simp only [zGS, zMS, Nat.reduceEqDiff, OfNat.ofNat_ne_ofNat, false_and, and_false, true_and, and_true, and_self, if_true, if_false, ite_true, ite_false, reduceIte, reduceCtorEq]; first | done | assumption | rfl) | assumption | exact z2_eq | exact z1_eq | (simp [zGS, zMS]; first | done | assumption) | rfl) dX10_both_91 rfl ?_
          refine r_icmp_ne (r := 99) dX10_both_92 (by decide) rfl (fun c_92 => ?_) (fun c_92 => ?_)
          · refine r_iconst dX10_both_99 kc_0 rfl ?_
            refine r_istore (ls' := [_, _, _, _, _, _, _, _]) dX10_both_100 (Nat.le_of_ble_eq_true rfl) rfl rfl ?_
            rw [decide_eq_false (fun e => c_92 (hxx.mpr e))] at K2
            exact K2
          · refine r_iconst dX10_both_95 kc_1 rfl ?_
            refine r_goto (r := 100) dX10_both_96 (by decide) ?_
            refine r_istore (ls' := [_, _, _, _, _, _, _, _]) dX10_both_100 (Nat.le_of_ble_eq_true rfl) rfl rfl ?_
            rw [decide_eq_true (hxx.mp c_92)] at K2
            exact K2
        · exact absurd c_49 (by decide)
      · exact absurd c_17 (by decide)
    · have hc : comS 6 ((k2, b) :: (k1, a) :: st) = (if k1 = k2 then pushS k1 (FP.fsub a b) st else none) := rfl
      have K1 := K (decide (k1 = k2)) (fun hx => ⟨fun q => absurd q (by decide), fun _ => n2, fun q => absurd q (by decide), fun q => absurd q (by decide)⟩)
      rw [hc]
      have K2 : RW E MX10_both 102 [some (.ref mo), some (.int (nI 10)), some (.int (nI (H + st.length + 1))), some (.int (nI (H + st.length))), some (.int (zb (decide (k1 = k2)))), none, none, none] [] w sg d 0 0 (PN E (fun r w' sg' => r = none ∧ w = w' ∧ stO sg sg' H (if k1 = k2 then pushS k1 (FP.fsub a b) st else none))) := by
        refine RW.qmono K1 ?_
        rintro v w' sg' ⟨z1, z2, z3⟩
        refine ⟨z1, z2, ?_⟩
        by_cases hk : k1 = k2
        · rw [decide_eq_true hk] at z3
          rw [if_pos hk]
          exact z3
        · rw [decide_eq_false hk] at z3
          rw [if_neg hk]
          exact z3
      refine r_aload_n dX10_both_0 rfl (zRv_ref _) rfl ?_
      refine m_getiv hm 45 lfX10_324 rfl (by first | (simp only [zGS, zMS, Nat.reduceEqDiff, OfNat.ofNat_ne_ofNat, false_and, and_false, true_and, and_true, and_self, if_true, if_false, ite_true, ite_false, reduceIte, reduceCtorEq]; first | done | assumption | rfl) | assumption | exact z2_eq | exact z1_eq | (simp [zGS, zMS]; first | done | assumption) | rfl) dX10_both_1 rfl ?_
      refine r_iconst dX10_both_4 kc_1 rfl ?_
      refine r_isubN (by omega) dX10_both_5 rfl ?_
      rw [Nat.add_sub_cancel]
      refine r_istore_n (ls' := [_, _, _, _, _, _, _, _]) dX10_both_6 (Nat.le_of_ble_eq_true rfl) rfl rfl ?_
      refine r_aload_n dX10_both_7 rfl (zRv_ref _) rfl ?_
      refine m_getiv hm 45 lfX10_324 rfl (by first | (simp only [zGS, zMS, Nat.reduceEqDiff, OfNat.ofNat_ne_ofNat, false_and, and_false, true_and, and_true, and_self, if_true, if_false, ite_true, ite_false, reduceIte, reduceCtorEq]; first | done | assumption | rfl) | assumption | exact z2_eq | exact z1_eq | (simp [zGS, zMS]; first | done | assumption) | rfl) dX10_both_8 rfl ?_
      refine r_iconst dX10_both_11 kc_2 rfl ?_
      refine r_isubN (by omega) dX10_both_12 rfl ?_
      rw [show H + st.length + 1 + 1 - 2 = H + st.length by omega]
      refine r_istore_n (ls' := [_, _, _, _, _, _, _, _]) dX10_both_13 (Nat.le_of_ble_eq_true rfl) rfl rfl ?_
      refine r_iload_n dX10_both_14 rfl rfl ?_
      refine r_bipush dX10_both_15 kb_11 rfl ?_
      refine r_icmp_neN (by omega) (by omega) (r := 46) dX10_both_17 (by decide) rfl (fun c_17 => ?_) (fun c_17 => ?_)
      · refine r_iload_n dX10_both_46 rfl rfl ?_
        refine r_bipush dX10_both_47 kb_12 rfl ?_
        refine r_icmp_neN (by omega) (by omega) (r := 80) dX10_both_49 (by decide) rfl (fun c_49 => ?_) (fun c_49 => ?_)
        · refine r_aload_n dX10_both_80 rfl (zRv_ref _) rfl ?_
          refine m_geta hm 47 33 lfX10_109 rfl (by decide) dX10_both_81 rfl ?_
          refine r_iload_n dX10_both_84 rfl rfl ?_
          refine m_zaldv hm 33 _ (by decide) (by decide) rfl rfl (by show _ < 3000; omega) (by first | (simp only [zGS, zMS, Nat.reduceEqDiff, OfNat.ofNat_ne_ofNat, false_and, and_false, true_and, and_true, and_self, if_true, if_false, ite_true, ite_false, reduceIte, reduceCtorEq]; first | done | assumption | rfl) | assumption | exact z2_eq | exact z1_eq | (simp [zGS, zMS]; first | done | assumption) | rfl) dX10_both_85 rfl ?_
          refine r_aload_n dX10_both_86 rfl (zRv_ref _) rfl ?_
          refine m_geta hm 47 33 lfX10_109 rfl (by decide) dX10_both_87 rfl ?_
          refine r_iload_n dX10_both_90 rfl rfl ?_
          refine m_zaldv hm 33 _ (by decide) (by decide) rfl rfl (by show _ < 3000; omega) (by first | (simp only [zGS, zMS, Nat.reduceEqDiff, OfNat.ofNat_ne_ofNat, false_and, and_false, true_and, and_true, and_self, if_true, if_false, ite_true, ite_false, reduceIte, reduceCtorEq]; first | done | assumption | rfl) | assumption | exact z2_eq | exact z1_eq | (simp [zGS, zMS]; first | done | assumption) | rfl) dX10_both_91 rfl ?_
          refine r_icmp_ne (r := 99) dX10_both_92 (by decide) rfl (fun c_92 => ?_) (fun c_92 => ?_)
          · refine r_iconst dX10_both_99 kc_0 rfl ?_
            refine r_istore (ls' := [_, _, _, _, _, _, _, _]) dX10_both_100 (Nat.le_of_ble_eq_true rfl) rfl rfl ?_
            rw [decide_eq_false (fun e => c_92 (hxx.mpr e))] at K2
            exact K2
          · refine r_iconst dX10_both_95 kc_1 rfl ?_
            refine r_goto (r := 100) dX10_both_96 (by decide) ?_
            refine r_istore (ls' := [_, _, _, _, _, _, _, _]) dX10_both_100 (Nat.le_of_ble_eq_true rfl) rfl rfl ?_
            rw [decide_eq_true (hxx.mp c_92)] at K2
            exact K2
        · exact absurd c_49 (by decide)
      · exact absurd c_17 (by decide)
    · have hc : comS 7 ((k2, b) :: (k1, a) :: st) = (if k1 = 0 ∨ k2 = 0 then pushS (if k1 = 0 then k2 else k1) (FP.fmul a b) st else none) := rfl
      have K1 := K (decide (k1 = 0 ∨ k2 = 0)) (fun hx => ⟨fun q => absurd q (by decide), fun q => absurd q (by decide), fun _ => n3, fun q => absurd q (by decide)⟩)
      rw [hc]
      have K2 : RW E MX10_both 102 [some (.ref mo), some (.int (nI 11)), some (.int (nI (H + st.length + 1))), some (.int (nI (H + st.length))), some (.int (zb (decide (k1 = 0 ∨ k2 = 0)))), none, none, none] [] w sg d 0 0 (PN E (fun r w' sg' => r = none ∧ w = w' ∧ stO sg sg' H (if k1 = 0 ∨ k2 = 0 then pushS (if k1 = 0 then k2 else k1) (FP.fmul a b) st else none))) := by
        refine RW.qmono K1 ?_
        rintro v w' sg' ⟨z1, z2, z3⟩
        refine ⟨z1, z2, ?_⟩
        by_cases hk : k1 = 0 ∨ k2 = 0
        · rw [decide_eq_true hk] at z3
          rw [if_pos hk]
          exact z3
        · rw [decide_eq_false hk] at z3
          rw [if_neg hk]
          exact z3
      refine r_aload_n dX10_both_0 rfl (zRv_ref _) rfl ?_
      refine m_getiv hm 45 lfX10_324 rfl (by first | (simp only [zGS, zMS, Nat.reduceEqDiff, OfNat.ofNat_ne_ofNat, false_and, and_false, true_and, and_true, and_self, if_true, if_false, ite_true, ite_false, reduceIte, reduceCtorEq]; first | done | assumption | rfl) | assumption | exact z2_eq | exact z1_eq | (simp [zGS, zMS]; first | done | assumption) | rfl) dX10_both_1 rfl ?_
      refine r_iconst dX10_both_4 kc_1 rfl ?_
      refine r_isubN (by omega) dX10_both_5 rfl ?_
      rw [Nat.add_sub_cancel]
      refine r_istore_n (ls' := [_, _, _, _, _, _, _, _]) dX10_both_6 (Nat.le_of_ble_eq_true rfl) rfl rfl ?_
      refine r_aload_n dX10_both_7 rfl (zRv_ref _) rfl ?_
      refine m_getiv hm 45 lfX10_324 rfl (by first | (simp only [zGS, zMS, Nat.reduceEqDiff, OfNat.ofNat_ne_ofNat, false_and, and_false, true_and, and_true, and_self, if_true, if_false, ite_true, ite_false, reduceIte, reduceCtorEq]; first | done | assumption | rfl) | assumption | exact z2_eq | exact z1_eq | (simp [zGS, zMS]; first | done | assumption) | rfl) dX10_both_8 rfl ?_
      refine r_iconst dX10_both_11 kc_2 rfl ?_
      refine r_isubN (by omega) dX10_both_12 rfl ?_
      rw [show H + st.length + 1 + 1 - 2 = H + st.length by omega]
      refine r_istore_n (ls' := [_, _, _, _, _, _, _, _]) dX10_both_13 (Nat.le_of_ble_eq_true rfl) rfl rfl ?_
      refine r_iload_n dX10_both_14 rfl rfl ?_
      refine r_bipush dX10_both_15 kb_11 rfl ?_
      refine r_icmp_neN (by omega) (by omega) (r := 46) dX10_both_17 (by decide) rfl (fun c_17 => ?_) (fun c_17 => ?_)
      · exact absurd rfl c_17
      · refine r_aload_n dX10_both_20 rfl (zRv_ref _) rfl ?_
        refine m_geta hm 47 33 lfX10_109 rfl (by decide) dX10_both_21 rfl ?_
        refine r_iload_n dX10_both_24 rfl rfl ?_
        refine m_zaldv hm 33 _ (by decide) (by decide) rfl rfl (by show _ < 3000; omega) (by first | (simp only [zGS, zMS, Nat.reduceEqDiff, OfNat.ofNat_ne_ofNat, false_and, and_false, true_and, and_true, and_self, if_true, if_false, ite_true, ite_false, reduceIte, reduceCtorEq]; first | done | assumption | rfl) | assumption | exact z2_eq | exact z1_eq | (simp [zGS, zMS]; first | done | assumption) | rfl) dX10_both_25 rfl ?_
        refine r_if_neB (r := 38) dX10_both_26 (by decide) rfl (fun c_26 => ?_) (fun c_26 => ?_)
        · refine r_iconst dX10_both_38 kc_1 rfl ?_
          refine r_goto (r := 100) dX10_both_39 (by decide) ?_
          refine r_istore (ls' := [_, _, _, _, _, _, _, _]) dX10_both_100 (Nat.le_of_ble_eq_true rfl) rfl rfl ?_
          rw [decide_eq_true (Or.inl (of_decide_eq_true c_26))] at K2
          exact K2
        · refine r_aload_n dX10_both_29 rfl (zRv_ref _) rfl ?_
          refine m_geta hm 47 33 lfX10_109 rfl (by decide) dX10_both_30 rfl ?_
          refine r_iload_n dX10_both_33 rfl rfl ?_
          refine m_zaldv hm 33 _ (by decide) (by decide) rfl rfl (by show _ < 3000; omega) (by first | (simp only [zGS, zMS, Nat.reduceEqDiff, OfNat.ofNat_ne_ofNat, false_and, and_false, true_and, and_true, and_self, if_true, if_false, ite_true, ite_false, reduceIte, reduceCtorEq]; first | done | assumption | rfl) | assumption | exact z2_eq | exact z1_eq | (simp [zGS, zMS]; first | done | assumption) | rfl) dX10_both_34 rfl ?_
          refine r_if_eqB (r := 42) dX10_both_35 (by decide) rfl (fun c_35 => ?_) (fun c_35 => ?_)
          · refine r_iconst dX10_both_42 kc_0 rfl ?_
            refine r_goto (r := 100) dX10_both_43 (by decide) ?_
            refine r_istore (ls' := [_, _, _, _, _, _, _, _]) dX10_both_100 (Nat.le_of_ble_eq_true rfl) rfl rfl ?_
            rw [decide_eq_false (fun e => e.elim (of_decide_eq_false c_26) (of_decide_eq_false c_35))] at K2
            exact K2
          · refine r_iconst dX10_both_38 kc_1 rfl ?_
            refine r_goto (r := 100) dX10_both_39 (by decide) ?_
            refine r_istore (ls' := [_, _, _, _, _, _, _, _]) dX10_both_100 (Nat.le_of_ble_eq_true rfl) rfl rfl ?_
            rw [decide_eq_true (Or.inr (of_decide_eq_true c_35))] at K2
            exact K2
    · have hc : comS 8 ((k2, b) :: (k1, a) :: st) = (if k2 = 0 ∧ ¬ FP.fcmp b 0 = some .eq then pushS k1 (FP.fdiv a b) st else none) := rfl
      have K1 := K (decide (k2 = 0 ∧ ¬ FP.fcmp b 0 = some .eq)) (fun hx => ⟨fun q => absurd q (by decide), fun q => absurd q (by decide), fun q => absurd q (by decide), fun _ => fdiv_n q4.n q2 (fun z => (of_decide_eq_true hx).2 (zero_cmp z))⟩)
      rw [hc]
      have K2 : RW E MX10_both 102 [some (.ref mo), some (.int (nI 12)), some (.int (nI (H + st.length + 1))), some (.int (nI (H + st.length))), some (.int (zb (decide (k2 = 0 ∧ ¬ FP.fcmp b 0 = some .eq)))), none, none, none] [] w sg d 0 0 (PN E (fun r w' sg' => r = none ∧ w = w' ∧ stO sg sg' H (if k2 = 0 ∧ ¬ FP.fcmp b 0 = some .eq then pushS k1 (FP.fdiv a b) st else none))) := by
        refine RW.qmono K1 ?_
        rintro v w' sg' ⟨z1, z2, z3⟩
        refine ⟨z1, z2, ?_⟩
        by_cases hk : k2 = 0 ∧ ¬ FP.fcmp b 0 = some .eq
        · rw [decide_eq_true hk] at z3
          rw [if_pos hk]
          exact z3
        · rw [decide_eq_false hk] at z3
          rw [if_neg hk]
          exact z3
      refine r_aload_n dX10_both_0 rfl (zRv_ref _) rfl ?_
      refine m_getiv hm 45 lfX10_324 rfl (by first | (simp only [zGS, zMS, Nat.reduceEqDiff, OfNat.ofNat_ne_ofNat, false_and, and_false, true_and, and_true, and_self, if_true, if_false, ite_true, ite_false, reduceIte, reduceCtorEq]; first | done | assumption | rfl) | assumption | exact z2_eq | exact z1_eq | (simp [zGS, zMS]; first | done | assumption) | rfl) dX10_both_1 rfl ?_
      refine r_iconst dX10_both_4 kc_1 rfl ?_
      refine r_isubN (by omega) dX10_both_5 rfl ?_
      rw [Nat.add_sub_cancel]
      refine r_istore_n (ls' := [_, _, _, _, _, _, _, _]) dX10_both_6 (Nat.le_of_ble_eq_true rfl) rfl rfl ?_
      refine r_aload_n dX10_both_7 rfl (zRv_ref _) rfl ?_
      refine m_getiv hm 45 lfX10_324 rfl (by first | (simp only [zGS, zMS, Nat.reduceEqDiff, OfNat.ofNat_ne_ofNat, false_and, and_false, true_and, and_true, and_self, if_true, if_false, ite_true, ite_false, reduceIte, reduceCtorEq]; first | done | assumption | rfl) | assumption | exact z2_eq | exact z1_eq | (simp [zGS, zMS]; first | done | assumption) | rfl) dX10_both_8 rfl ?_
      refine r_iconst dX10_both_11 kc_2 rfl ?_
      refine r_isubN (by omega) dX10_both_12 rfl ?_
      rw [show H + st.length + 1 + 1 - 2 = H + st.length by omega]
      refine r_istore_n (ls' := [_, _, _, _, _, _, _, _]) dX10_both_13 (Nat.le_of_ble_eq_true rfl) rfl rfl ?_
      refine r_iload_n dX10_both_14 rfl rfl ?_
      refine r_bipush dX10_both_15 kb_11 rfl ?_
      refine r_icmp_neN (by omega) (by omega) (r := 46) dX10_both_17 (by decide) rfl (fun c_17 => ?_) (fun c_17 => ?_)
      · refine r_iload_n dX10_both_46 rfl rfl ?_
        refine r_bipush dX10_both_47 kb_12 rfl ?_
        refine r_icmp_neN (by omega) (by omega) (r := 80) dX10_both_49 (by decide) rfl (fun c_49 => ?_) (fun c_49 => ?_)
        · exact absurd rfl c_49
        · refine r_aload_n dX10_both_52 rfl (zRv_ref _) rfl ?_
          refine m_geta hm 47 33 lfX10_109 rfl (by decide) dX10_both_53 rfl ?_
          refine r_iload_n dX10_both_56 rfl rfl ?_
          refine m_zaldv hm 33 _ (by decide) (by decide) rfl rfl (by show _ < 3000; omega) (by first | (simp only [zGS, zMS, Nat.reduceEqDiff, OfNat.ofNat_ne_ofNat, false_and, and_false, true_and, and_true, and_self, if_true, if_false, ite_true, ite_false, reduceIte, reduceCtorEq]; first | done | assumption | rfl) | assumption | exact z2_eq | exact z1_eq | (simp [zGS, zMS]; first | done | assumption) | rfl) dX10_both_57 rfl ?_
          refine r_if_eqB (r := 76) dX10_both_58 (by decide) rfl (fun c_58 => ?_) (fun c_58 => ?_)
          · refine r_iconst dX10_both_76 kc_0 rfl ?_
            refine r_goto (r := 100) dX10_both_77 (by decide) ?_
            refine r_istore (ls' := [_, _, _, _, _, _, _, _]) dX10_both_100 (Nat.le_of_ble_eq_true rfl) rfl rfl ?_
            rw [decide_eq_false (fun e => of_decide_eq_false c_58 e.1)] at K2
            exact K2
          · refine r_aload_n dX10_both_61 rfl (zRv_ref _) rfl ?_
            refine m_geta hm 46 32 lfX10_106 rfl (by decide) dX10_both_62 rfl ?_
            refine r_iload_n dX10_both_65 rfl rfl ?_
            refine m_faldv hm 32 _ (by decide) (by decide) rfl rfl (by show _ < 3000; omega) (by first | (simp only [zGS, zMS, Nat.reduceEqDiff, OfNat.ofNat_ne_ofNat, false_and, and_false, true_and, and_true, and_self, if_true, if_false, ite_true, ite_false, reduceIte, reduceCtorEq]; first | done | assumption | rfl) | assumption | exact z2_eq | exact z1_eq | (simp [zGS, zMS]; first | done | assumption) | rfl) dX10_both_66 rfl ?_
            refine r_fconst0 dX10_both_67 rfl ?_
            refine r_fcmp dX10_both_68 rfl ?_
            refine r_if_eq (r := 76) dX10_both_69 (by decide) rfl (fun c_69 => ?_) (fun c_69 => ?_)
            · refine r_iconst dX10_both_76 kc_0 rfl ?_
              refine r_goto (r := 100) dX10_both_77 (by decide) ?_
              refine r_istore (ls' := [_, _, _, _, _, _, _, _]) dX10_both_100 (Nat.le_of_ble_eq_true rfl) rfl rfl ?_
              rw [decide_eq_false (fun e => e.2 (cmpE.mp c_69))] at K2
              exact K2
            · refine r_iconst dX10_both_72 kc_1 rfl ?_
              refine r_goto (r := 100) dX10_both_73 (by decide) ?_
              refine r_istore (ls' := [_, _, _, _, _, _, _, _]) dX10_both_100 (Nat.le_of_ble_eq_true rfl) rfl rfl ?_
              rw [decide_eq_true ⟨of_decide_eq_true c_58, fun e => c_69 (cmpE.mpr e)⟩] at K2
              exact K2
      · exact absurd c_17 (by decide)
