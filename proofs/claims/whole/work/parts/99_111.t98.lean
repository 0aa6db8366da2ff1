/-! ===== the model: readCount, its walk ===== -/
theorem cuO.z {sg : ZM} {f m : Nat} {r : List Nat} (h : cuG sg f r) : cuO sg f m (some r) := h
def rcQ (sg : ZM) (f n g : Nat) (r : List Nat) (w : ZW) : ZQ := fun v w' sg' => v = none ∧ w = w' ∧ ∃ X Y o, adP sg sg' n (nI g) (nI 6) X Y ∧ cntOk r X Y o ∧ cuO sg' f 880 o
theorem rc_k (E : ZE) (mo : Nat) (hm : E.2.2.2.2 = some mo) (w : ZW) (sg sg1 : ZM) (d f n g : Nat) (hd : 3 ≤ d) (hn : n < 130) (X Y : Int32) (x4 : Option Value) (r : List Nat) (o : Option (List Nat)) (h21 : mi sg 21 = nI n) (hv : mvC sg sg1) (h : cuO sg1 f 881 o) (hk : cntOk r X Y (bndO o (pCh 41))) : RW E MX10_readCount 82 [some (.ref mo), some (.int (nI g)), some (.int X), some (.int Y), x4] [] w sg1 d 0 0 (PN E (rcQ sg f n g r w)) := by
  refine RW.qmono (rc_82 E mo hm w sg1 d f 880 n g hd (by decide) hn X Y x4 o ((hv.1 21 (by decide) (by decide)).trans h21) h) ?_
  rintro v w' sg' ⟨q1, q2, q3, q4⟩
  exact ⟨q1, q2, X, Y, _, q3.mv hv, hk, q4⟩
theorem rc_64 (E : ZE) (mo : Nat) (hm : E.2.2.2.2 = some mo) (w : ZW) (sg sg1 : ZM) (d f n g : Nat) (hd : 3 ≤ d) (hn : n < 130) (X Y : Int32) (x3 : Value) (mn : Bool) (r : List Nat) (o : Option (List Nat)) (h21 : mi sg 21 = nI n) (hv : mvC sg sg1) (h : cuO sg1 f 881 o) (hk : cntOk r X (if mn = true then -Y else Y) (bndO o (pCh 41))) : RW E MX10_readCount 64 [some (.ref mo), some (.int (nI g)), some (.int X), some x3, some (.int (zb mn))] [.int Y] w sg1 d 0 0 (PN E (rcQ sg f n g r w)) := by
  have h82 := rc_k E mo hm w sg sg1 d f n g hd hn X _ (some (.int (zb mn))) r o h21 hv h hk
  cases mn with
  | true =>
    refine r_istore_n (ls' := [_, _, _, _, _]) dX10_readCount_64 (Nat.le_of_ble_eq_true rfl) rfl rfl ?_
    refine r_iload dX10_readCount_65 rfl rfl ?_
    refine r_if_eqB (r := 75) dX10_readCount_67 (by decide) rfl (fun c_67 => ?_) (fun c_67 => ?_)
    · cases c_67
    · refine r_iload_n dX10_readCount_70 rfl rfl ?_
      refine r_ineg dX10_readCount_71 rfl ?_
      refine r_goto (r := 76) dX10_readCount_72 (by decide) ?_
      refine r_istore_n (ls' := [_, _, _, _, _]) dX10_readCount_76 (Nat.le_of_ble_eq_true rfl) rfl rfl ?_
      refine r_goto (r := 82) dX10_readCount_77 (by decide) ?_
      exact h82
  | false =>
    refine r_istore_n (ls' := [_, _, _, _, _]) dX10_readCount_64 (Nat.le_of_ble_eq_true rfl) rfl rfl ?_
    refine r_iload dX10_readCount_65 rfl rfl ?_
    refine r_if_eqB (r := 75) dX10_readCount_67 (by decide) rfl (fun c_67 => ?_) (fun c_67 => ?_)
    · refine r_iload_n dX10_readCount_75 rfl rfl ?_
      refine r_istore_n (ls' := [_, _, _, _, _]) dX10_readCount_76 (Nat.le_of_ble_eq_true rfl) rfl rfl ?_
      refine r_goto (r := 82) dX10_readCount_77 (by decide) ?_
      exact h82
    · cases c_67
theorem rc_36 (E : ZE) (mo : Nat) (hm : E.2.2.2.2 = some mo) (w : ZW) (sg sg3 : ZM) (d f n g : Nat) (hd : 4 ≤ d) (hn : n < 130) (x : Nat) (x3 : Value) (mn : Bool) (r : List Nat) (o3 : Option (List Nat)) (h21 : mi sg 21 = nI n) (v13 : mvC sg sg3) (c3 : cuO sg3 f 887 o3) (hmn : ∀ r3, o3 = some r3 → mn = decide (hdN r3 = 45)) (hn9 : ∀ Y oF, (o3 = none → oF = none) → (∀ r3, o3 = some r3 → (∀ p r', pSgn x r3 = some (p, r') → p.1 = 3 ∧ nI x = p.2.2 ∧ Y = p.2.1) ∧ oF = rsP (pSgn x r3)) → cntOk r (nI x) Y oF) : RW E MX10_readCount 36 [some (.ref mo), some (.int (nI g)), some (.int (nI x)), some x3, none] [.int (zb mn)] w sg3 d 0 0 (PN E (rcQ sg f n g r w)) := by
  refine r_istore (ls' := [_, _, _, _, _]) dX10_readCount_36 (Nat.le_of_ble_eq_true rfl) rfl rfl ?_
  refine r_aload_n dX10_readCount_38 rfl (zRv_ref _) rfl ?_
  refine r_bipush dX10_readCount_39 kb_43 rfl ?_
  refine r_callV MX10_pass 1 [_] lvX10_176 (Or.inr (Or.inl ⟨hm, rfl⟩)) (o_pass E mo hm w sg3 (d - 1) f 43 886 (by omega) (by decide) _ c3) rfl rfl (by first | exact Nat.le_of_ble_eq_true rfl | (simp [zcat_rf, Value.category]; done)) (by omega) (Nat.le_of_eq (Nat.zero_add _)) (Nat.le_of_eq (Nat.zero_add _)) dX10_readCount_41 rfl (fun v_ w_ sg_ hq_ => ?_)
  obtain ⟨b, rfl, hb, rfl, v4, c4⟩ := hq_
  obtain ⟨sg4, hsg4⟩ : ∃ y, y = sg_ := ⟨_, rfl⟩
  subst hsg4
  refine r_if_neB (r := 56) dX10_readCount_44 (by decide) rfl (fun c_44 => ?_) (fun c_44 => ?_)
  · refine r_aload_n dX10_readCount_56 rfl (zRv_ref _) rfl ?_
    refine r_callV MX10_digit 0 [] lvX10_192 (Or.inr (Or.inl ⟨hm, rfl⟩)) (o_digit E mo hm w sg4 (d - 1) f 885 (by decide) (by omega) _ c4) rfl rfl (by first | exact Nat.le_of_ble_eq_true rfl | (simp [zcat_rf, Value.category]; done)) (by omega) (Nat.le_of_eq (Nat.zero_add _)) (Nat.le_of_eq (Nat.zero_add _)) dX10_readCount_57 rfl (fun v_ w_ sg_ hq_ => ?_)
    obtain ⟨⟨y, rfl, hy9, hy⟩, rfl, v6, c6⟩ := hq_
    obtain ⟨sg6, hsg6⟩ : ∃ y, y = sg_ := ⟨_, rfl⟩
    subst hsg6
    subst c_44
    refine r_goto (r := 64) dX10_readCount_60 (by decide) ?_
    exact rc_64 E mo hm w sg sg6 d f n g (by omega) hn (nI x) (nI y) _ mn r _ h21 ((v13.tr v4).tr v6) (c6.mono (by decide)) (hn9 _ _ (fun q => by rw [q]; rfl) (cnt_p mn hmn hb hy9 hy))
  · refine r_aload_n dX10_readCount_47 rfl (zRv_ref _) rfl ?_
    refine r_bipush dX10_readCount_48 kb_45 rfl ?_
    refine r_callV MX10_pass 1 [_] lvX10_176 (Or.inr (Or.inl ⟨hm, rfl⟩)) (o_pass E mo hm w sg4 (d - 1) f 45 885 (by omega) (by decide) _ c4) rfl rfl (by first | exact Nat.le_of_ble_eq_true rfl | (simp [zcat_rf, Value.category]; done)) (by omega) (Nat.le_of_eq (Nat.zero_add _)) (Nat.le_of_eq (Nat.zero_add _)) dX10_readCount_50 rfl (fun v_ w_ sg_ hq_ => ?_)
    obtain ⟨b2, rfl, hb2, rfl, v5, c5⟩ := hq_
    obtain ⟨sg5, hsg5⟩ : ∃ y, y = sg_ := ⟨_, rfl⟩
    subst hsg5
    refine r_if_eqB (r := 63) dX10_readCount_53 (by decide) rfl (fun c_53 => ?_) (fun c_53 => ?_)
    · refine r_iconst dX10_readCount_63 kc_0 rfl ?_
      subst c_53 c_44
      exact rc_64 E mo hm w sg sg5 d f n g (by omega) hn (nI x) (nI 0) _ mn r _ h21 ((v13.tr v4).tr v5) (c5.mono (by decide)) (hn9 _ _ (fun q => by rw [q]; rfl) (cnt_0 mn hmn hb hb2))
    · refine r_aload_n dX10_readCount_56 rfl (zRv_ref _) rfl ?_
      refine r_callV MX10_digit 0 [] lvX10_192 (Or.inr (Or.inl ⟨hm, rfl⟩)) (o_digit E mo hm w sg5 (d - 1) f 884 (by decide) (by omega) _ c5) rfl rfl (by first | exact Nat.le_of_ble_eq_true rfl | (simp [zcat_rf, Value.category]; done)) (by omega) (Nat.le_of_eq (Nat.zero_add _)) (Nat.le_of_eq (Nat.zero_add _)) dX10_readCount_57 rfl (fun v_ w_ sg_ hq_ => ?_)
      obtain ⟨⟨y, rfl, hy9, hy⟩, rfl, v6, c6⟩ := hq_
      obtain ⟨sg6, hsg6⟩ : ∃ y, y = sg_ := ⟨_, rfl⟩
      subst hsg6
      subst c_53 c_44
      refine r_goto (r := 64) dX10_readCount_60 (by decide) ?_
      exact rc_64 E mo hm w sg sg6 d f n g (by omega) hn (nI x) (nI y) _ mn r _ h21 (((v13.tr v4).tr v5).tr v6) (c6.mono (by decide)) (hn9 _ _ (fun q => by rw [q]; rfl) (cnt_m mn hmn hb hb2 hy9 hy))
theorem p_readCount (E : ZE) (mo : Nat) (hm : E.2.2.2.2 = some mo) (w : ZW) (sg : ZM) (d f n g : Nat) (hd : 4 ≤ d) (hn : n < 130) (r : List Nat) (h21 : mi sg 21 = nI n) (h : cuG sg f r) : CallQ E MX10_readCount [.ref mo, .int (nI g)] w sg d 0 0 (rcQ sg f n g r w) := by
  refine CallQ.of rfl (by simp [Value.category]) (Nat.le_of_ble_eq_true rfl) ?_
  refine r_aload_n dX10_readCount_0 rfl (zRv_ref _) rfl ?_
  refine r_bipush dX10_readCount_1 kb_40 rfl ?_
  refine r_callV MX10_expect 1 [_] lvX10_188 (Or.inr (Or.inl ⟨hm, rfl⟩)) (o_expect E mo hm w sg (d - 1) f 40 889 (by decide) (by omega) (by decide) (some r) (cuO.z h)) rfl rfl (by first | exact Nat.le_of_ble_eq_true rfl | (simp [zcat_rf, Value.category]; done)) (by omega) (Nat.le_of_eq (Nat.zero_add _)) (Nat.le_of_eq (Nat.zero_add _)) dX10_readCount_3 rfl (fun v_ w_ sg_ hq_ => ?_)
  obtain ⟨rfl, rfl, v1, c1⟩ := hq_
  obtain ⟨sg1, hsg1⟩ : ∃ y, y = sg_ := ⟨_, rfl⟩
  subst hsg1
  refine r_aload_n dX10_readCount_6 rfl (zRv_ref _) rfl ?_
  refine r_callV MX10_digit 0 [] lvX10_192 (Or.inr (Or.inl ⟨hm, rfl⟩)) (o_digit E mo hm w sg1 (d - 1) f 888 (by decide) (by omega) _ c1) rfl rfl (by first | exact Nat.le_of_ble_eq_true rfl | (simp [zcat_rf, Value.category]; done)) (by omega) (Nat.le_of_eq (Nat.zero_add _)) (Nat.le_of_eq (Nat.zero_add _)) dX10_readCount_7 rfl (fun v_ w_ sg_ hq_ => ?_)
  obtain ⟨⟨x, rfl, hx9, hx⟩, rfl, v2, c2⟩ := hq_
  obtain ⟨sg2, hsg2⟩ : ∃ y, y = sg_ := ⟨_, rfl⟩
  subst hsg2
  refine r_istore_n (ls' := [_, _, _, _, _]) dX10_readCount_10 (Nat.le_of_ble_eq_true rfl) rfl rfl ?_
  refine r_iload_n dX10_readCount_11 rfl rfl ?_
  refine r_istore_n (ls' := [_, _, _, _, _]) dX10_readCount_12 (Nat.le_of_ble_eq_true rfl) rfl rfl ?_
  refine r_aload_n dX10_readCount_13 rfl (zRv_ref _) rfl ?_
  refine r_bipush dX10_readCount_14 kb_110 rfl ?_
  refine r_callV MX10_pass 1 [_] lvX10_176 (Or.inr (Or.inl ⟨hm, rfl⟩)) (o_pass E mo hm w sg2 (d - 1) f 110 887 (by omega) (by decide) _ c2) rfl rfl (by first | exact Nat.le_of_ble_eq_true rfl | (simp [zcat_rf, Value.category]; done)) (by omega) (Nat.le_of_eq (Nat.zero_add _)) (Nat.le_of_eq (Nat.zero_add _)) dX10_readCount_16 rfl (fun v_ w_ sg_ hq_ => ?_)
  obtain ⟨b, rfl, hb, rfl, v3, c3⟩ := hq_
  obtain ⟨sg3, hsg3⟩ : ∃ y, y = sg_ := ⟨_, rfl⟩
  subst hsg3
  have v13 := (v1.tr v2).tr v3
  refine r_if_eqB (r := 80) dX10_readCount_19 (by decide) rfl (fun c_19 => ?_) (fun c_19 => ?_)
  · refine r_iconst dX10_readCount_80 kc_0 rfl ?_
    refine r_istore_n (ls' := [_, _, _, _, _]) dX10_readCount_81 (Nat.le_of_ble_eq_true rfl) rfl rfl ?_
    subst c_19
    exact rc_k E mo hm w sg sg3 d f n g (by omega) hn (nI 0) (nI x) _ r _ h21 v13 (c3.mono (by decide)) (cnt_a hx hx9 hb)
  · refine r_aload_n dX10_readCount_22 rfl (zRv_ref _) rfl ?_
    refine r_callV MX10_look 0 [] lvX10_172 (Or.inr (Or.inl ⟨hm, rfl⟩)) (o_look E mo hm w sg3 (d - 1) f 887 _ c3) rfl rfl (by first | exact Nat.le_of_ble_eq_true rfl | (simp [zcat_rf, Value.category]; done)) (by omega) (Nat.le_of_eq (Nat.zero_add _)) (Nat.le_of_eq (Nat.zero_add _)) dX10_readCount_23 rfl (fun v_ w_ sg_ hq_ => ?_)
    obtain ⟨c, rfl, hc9, hc, rfl, rfl⟩ := hq_
    subst c_19
    have hn9 : ∀ Y oF, (_ = none → oF = none) → _ → cntOk r (nI x) Y oF := fun Y oF hF hk => cnt_n hx hx9 hb _ oF rfl Y hF hk
    refine r_bipush dX10_readCount_26 kb_45 rfl ?_
    refine r_icmp_neN (by omega) (by omega) (r := 35) dX10_readCount_28 (by decide) rfl (fun c_28 => ?_) (fun c_28 => ?_)
    · refine r_iconst dX10_readCount_35 kc_0 rfl ?_
      refine rc_36 E mo hm w sg sg3 d f n g hd hn x _ false r _ h21 v13 c3 (fun r3 h3 => (decide_eq_false (fun q => c_28 ((hc r3 h3).trans q))).symm) hn9
    · refine r_iconst dX10_readCount_31 kc_1 rfl ?_
      refine r_goto (r := 36) dX10_readCount_32 (by decide) ?_
      refine rc_36 E mo hm w sg sg3 d f n g hd hn x _ true r _ h21 v13 c3 (fun r3 h3 => (decide_eq_true ((hc r3 h3).symm.trans c_28)).symm) hn9
