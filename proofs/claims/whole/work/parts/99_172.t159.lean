/-! ===== the law's own run: the script, the joins of class and model ===== -/
abbrev ML_law : ZMeth := (yL_law, cL_law, 8, some .boolean)
/-- P, if the script of L numbers xs stands at b -/
def PScr (b L : Nat) (xs : Nat → Int32) (P : ZPhi) : ZPhi := fun below args s mc ms t => va_X b L xs s s.heap → P below args s mc ms t
section ZLW
variable {E : ZE} {M : ZMeth} {pc q : Nat} {ls : List (Option Value)} {rest : List Value} {w : ZW} {sg : ZM} {d nc ns : Nat} {P : ZPhi} {b L : Nat} {xs : Nat → Int32} {Q : ZQ}
theorem RW.scr {st : List Value} (h : RW E M pc ls st w sg d nc ns P) : RW E M pc ls st w sg d nc ns (PScr b L xs P) := by
  intro p e R s m args below meth c H locs cells slots mc ms A hZ T hT X
  obtain ⟨t, a1, b1⟩ := h.u hZ T hT X
  exact ⟨t, a1, fun _ => b1⟩
theorem RW.wide {st : List Value} {nc2 ns2 : Nat} (h : RW E M pc ls st w sg d nc ns P) (hc : nc ≤ nc2) (hs : ns ≤ ns2) : RW E M pc ls st w sg d nc2 ns2 P := fun p e R s m args below meth c H locs cells slots mc ms A hZ => h.u ⟨hZ.1, hZ.2.1, hZ.2.2.1, hZ.2.2.2.1, by have := hZ.2.2.2.2.1; omega, by have := hZ.2.2.2.2.2.1; omega, hZ.2.2.2.2.2.2⟩
theorem r_sld {x : Int32} (j : Nat) (hb : b < E.2.1) (hx : x = nI j) (hj : j < L) (hL : L ≤ 240) (hd : decode M.2.1 pc = .ok (.iaload, 1)) (hq : pc + 1 = q) (kk : RW E M q ls (.int (xs j) :: rest) w sg d nc ns (PScr b L xs P)) : RW E M pc ls (.int x :: .ref b :: rest) w sg d nc ns (PScr b L xs P) := by
  intro p e R s m args below meth c H locs cells slots mc ms A h
  subst hq
  subst hx
  rcases Classical.em (va_X b L xs s s.heap) with hX | hX
  · refine va_sld (A := zA E) h.x h.b hX (Nat.lt_of_lt_of_le hb h.X.2.1) (Nat.not_le.mpr hb) h.S (zin hj (by omega)) hd ?_
    rw [zcl (by omega)]
    exact kk.u h
  · intro T hT X
    exact ⟨_, Steps.refl _, fun q => absurd q hX⟩
theorem r_slen (hb : b < E.2.1) (hd : decode M.2.1 pc = .ok (.arraylength, 1)) (hq : pc + 1 = q) (kk : RW E M q ls (.int (nI L) :: rest) w sg d nc ns (PScr b L xs P)) : RW E M pc ls (.ref b :: rest) w sg d nc ns (PScr b L xs P) := by
  intro p e R s m args below meth c H locs cells slots mc ms A h
  subst hq
  rcases Classical.em (va_X b L xs s s.heap) with hX | hX
  · exact va_slen (A := zA E) h.x h.b hX (Nat.lt_of_lt_of_le hb h.X.2.1) (Nat.not_le.mpr hb) h.S hd (kk.u h)
  · intro T hT X
    exact ⟨_, Steps.refl _, fun q => absurd q hX⟩
theorem s_zret {x : Int32} (ty : FieldType) (hr : M.2.2.2 = some ty) (hn : narrow ty (.int x) = .int x) (hd : decode M.2.1 pc = .ok (.ireturn, 1)) (hQ : Q (some (.int x)) w sg) : RW E M pc ls [.int x] w sg d nc ns (PScr b L xs (PN E Q)) := (r_zret ty hr hn hd hQ).scr
end ZLW
theorem and15 (x : Int32) : ∃ k, k < 16 ∧ x &&& nI 15 = nI k := by
  have h : (x &&& nI 15).toBitVec.toNat = x.toBitVec.toNat &&& 15 := by
    rw [Int32.toBitVec_and, BitVec.toNat_and]
    rfl
  have h2 : x.toBitVec.toNat &&& 15 ≤ 15 := Nat.and_le_right
  exact ⟨x.toBitVec.toNat &&& 15, by omega, nI_bvi (by omega) h⟩
theorem lw_gt {L i : Nat} (hL : L ≤ 240) (hi : i ≤ 240) : (nI L - nI 5 < nI i) ↔ L < i + 5 := by
  rcases Nat.lt_or_ge L 5 with c | c
  · refine ⟨fun _ => by omega, fun _ => ?_⟩
    rw [Int32.lt_iff_toInt_lt, nI_toInt (by omega)]
    have h : (nI L - nI 5).toInt < 0 := by
      rcases (by omega : L = 0 ∨ L = 1 ∨ L = 2 ∨ L = 3 ∨ L = 4) with rfl | rfl | rfl | rfl | rfl <;> decide +kernel
    omega
  · rw [pk_sub c, nI_ltI (by omega) (by omega)]
    omega
theorem lcmp_self (y : Int64) : lg_cmp y y = 0 := by
  unfold lg_cmp
  rw [if_neg (by simp), if_pos rfl]
theorem cmpv_eq {o : Option Ordering} (h : o = some .eq) : Op.cmpValue o .l = 0 := by
  rw [h]
  rfl
/-- desk and model hold the same -/
def lwI (w : ZW) (sg : ZM) (x : Nat) (T : List PEl) (Rs : List PRule) (B : List Nat) : Prop := dskI w x T Rs B ∧ mdI sg T Rs B ∧ rootT T
section ZJN
variable {sg sg1 sg2 : ZM} {x : Nat} {T : List PEl} {Rs : List PRule} {B : List Nat} {v : Option Value} {w w1 w2 : ZW} {k y : Int32} {p t i c e n o r : Int32}
theorem weQ.int (h : weQ sg x T Rs B p t i c v w1 sg1) : ∃ k, v = some (.int k) := by
  rcases h.2 with ⟨-, -, q, -⟩ | ⟨-, q, -⟩ | ⟨-, -, q, -⟩ <;> exact ⟨_, q⟩
theorem jn_element (h1 : weQ sg x T Rs B p t i c (some (.int k)) w1 sg1) (h2 : melQ T Rs B p t i c w (some (.int y)) w2 sg2) (hr : rootT T) : mi sg2 0 = k ∧ (k = 0 → zl w1 (x + 54) 0 = y.toInt64) ∧ ∃ T', lwI w1 sg2 x T' Rs B := by
  rcases h1.2 with ⟨a1, a2, a3, a4, a5⟩ | ⟨a1, a3, a5⟩ | ⟨a1, a2, a3, a5⟩
  · rcases h2.2.2 with ⟨b1, -⟩ | ⟨-, b2, -⟩ | ⟨-, -, b3, b4, b5, b6⟩
    · rw [a1] at b1; cases b1
    · exact absurd b2 a2
    · cases a3
      cases b4
      exact ⟨b3, fun _ => a4, _, a5, b5, b6 hr⟩
  · rcases h2.2.2 with ⟨-, b3, b5⟩ | ⟨b1, -⟩ | ⟨b1, -⟩
    · cases a3
      exact ⟨b3, fun q => absurd q (by decide), _, a5, b5, hr⟩
    · rw [a1] at b1; cases b1
    · rw [a1] at b1; cases b1
  · rcases h2.2.2 with ⟨b1, -⟩ | ⟨-, -, b3, b5⟩ | ⟨-, b2, -⟩
    · rw [a1] at b1; cases b1
    · cases a3
      exact ⟨b3, fun q => absurd q (by decide), _, a5, b5, hr⟩
    · exact absurd a2 b2
theorem wrQ.int (h : wrQ sg x T Rs B o v w1 sg1) : ∃ k, v = some (.int k) := by
  rcases h.2 with ⟨_, -, q, -⟩ | ⟨-, q, -⟩ | ⟨-, q, -⟩ <;> exact ⟨_, q⟩
theorem mruQ.int (h : mruQ T Rs B o w v w2 sg2) : ∃ k, v = some (.int k) := h.2.2.2
theorem jn_rule (h1 : wrQ sg x T Rs B o (some (.int k)) w1 sg1) (h2 : mruQ T Rs B o w (some (.int y)) w2 sg2) (hr : rootT T) : mi sg2 0 = k ∧ (k = 0 → zl w1 (x + 54) 0 = y.toInt64) ∧ ∃ Rs' B', lwI w1 sg2 x T Rs' B' := by
  obtain ⟨-, b3, h2, -⟩ := h2
  rcases h1.2 with ⟨R, a1, a3, a4, a5⟩ | ⟨a1, a3, a5⟩ | ⟨a1, a3, a5⟩
  · rw [a1] at b3 h2
    obtain ⟨b4, b5⟩ := h2
    cases a3
    cases b4
    exact ⟨b3, fun _ => a4, _, _, a5, b5, hr⟩
  · rw [a1] at b3 h2
    cases a3
    exact ⟨b3, fun q => absurd q (by decide), _, _, a5, h2, hr⟩
  · rw [a1] at b3 h2
    cases a3
    exact ⟨b3, fun q => absurd q (by decide), _, _, a5, h2, hr⟩
theorem wdrQ.int (h : wdrQ sg x T Rs B r v w1 sg1) : ∃ k, v = some (.int k) := by
  rcases h.2 with ⟨-, q, -⟩ | ⟨-, q, -⟩ <;> exact ⟨_, q⟩
theorem jn_drop (h1 : wdrQ sg x T Rs B r (some (.int k)) w1 sg1) (h2 : mdrQ T Rs B r w v w2 sg2) (hr : rootT T) : mi sg2 0 = k ∧ ∃ Rs', lwI w1 sg2 x T Rs' B := by
  obtain ⟨-, -, h2⟩ := h2
  rcases h1.2 with ⟨a1, a3, a5⟩ | ⟨a1, a3, a5⟩
  · rcases h2 with ⟨-, b3, b5⟩ | ⟨b1, -⟩
    · cases a3
      exact ⟨b3, _, a5, b5, hr⟩
    · rw [a1] at b1; cases b1
  · rcases h2 with ⟨b1, -⟩ | ⟨-, b3, b5⟩
    · rw [a1] at b1; cases b1
    · cases a3
      exact ⟨b3, _, a5, b5, hr⟩
theorem wmQ.int (h : wmQ sg x T Rs B e v w1 sg1) : ∃ k, v = some (.int k) := by
  rcases h.2 with ⟨-, -, q, -⟩ | ⟨-, q, -⟩ | ⟨-, -, q, -⟩ <;> exact ⟨_, q⟩
theorem jn_matches {b : Bool} (h1 : wmQ sg x T Rs B e (some (.int k)) w1 sg1) (h2 : mmtQ T Rs B e w (some (.int (zb b))) w2 sg2) (hr : rootT T) : mi sg2 0 = k ∧ (k = 0 → zl w1 (x + 54) 0 = if b = true then 1 else 0) ∧ lwI w1 sg2 x T Rs [] := by
  obtain ⟨-, b5, -, h2⟩ := h2
  rcases h1.2 with ⟨a1, ⟨ls, a2, a4⟩, a3, a5⟩ | ⟨a1, a3, a5⟩ | ⟨a1, a2, a3, a5⟩
  · rcases h2 with ⟨b1, -⟩ | ⟨-, b2, -⟩ | ⟨-, ls', b2, b3, b4⟩
    · rw [a1] at b1; cases b1
    · rw [a2] at b2; cases b2
    · cases a3
      have e1 : ls' = ls := Option.some.inj (b2.symm.trans a2)
      rw [e1] at b4
      have e2 : zb b = zb (mtD T ls e) := Value.int.inj (Option.some.inj b4)
      have e3 : b = mtD T ls e := by
        revert e2
        generalize mtD T ls e = u
        cases b <;> cases u <;> decide
      rw [e3]
      exact ⟨b3, fun _ => a4, a5, b5, hr⟩
  · rcases h2 with ⟨-, b3⟩ | ⟨b1, -⟩ | ⟨b1, -⟩
    · cases a3
      exact ⟨b3, fun q => absurd q (by decide), a5, b5, hr⟩
    · rw [a1] at b1; cases b1
    · rw [a1] at b1; cases b1
  · rcases h2 with ⟨b1, -⟩ | ⟨-, -, b3⟩ | ⟨-, ls', b2, -⟩
    · rw [a1] at b1; cases b1
    · cases a3
      exact ⟨b3, fun q => absurd q (by decide), a5, b5, hr⟩
    · rw [a2] at b2; cases b2
theorem wwQ.int (h : wwQ sg x T Rs B r e v w1 sg1) : ∃ k, v = some (.int k) := by
  rcases h.2 with ⟨-, q, -⟩ | ⟨-, q, -⟩ <;> exact ⟨_, q⟩
theorem mwtQ.int (h : mwtQ T Rs B r e w v w2 sg2) : ∃ k, v = some (.int k) := by
  rcases h.2.2 with ⟨-, -, -, q⟩ | ⟨-, -, q⟩
  · exact ⟨_, q⟩
  · exact q
theorem jn_weight (h1 : wwQ sg x T Rs B r e (some (.int k)) w1 sg1) (h2 : mwtQ T Rs B r e w (some (.int y)) w2 sg2) (hr : rootT T) : mi sg2 0 = k ∧ (k = 0 → zl w1 (x + 54) 0 = y.toInt64) ∧ lwI w1 sg2 x T Rs B := by
  obtain ⟨-, b5, h2⟩ := h2
  rcases h1.2 with ⟨a1, a3, a4, a5⟩ | ⟨a1, a3, a5⟩
  · rw [Bool.and_eq_true] at a1
    rcases h2 with ⟨-, -, b3, b4⟩ | ⟨b1, -⟩
    · cases a3
      cases b4
      exact ⟨b3, fun _ => a4, a5, b5, hr⟩
    · exact absurd a1 b1
  · rcases h2 with ⟨b1, b2, -⟩ | ⟨-, b3, -⟩
    · rw [b1, b2] at a1; cases a1
    · cases a3
      exact ⟨b3, fun q => absurd q (by decide), a5, b5, hr⟩
theorem wnQ.int (h : wnQ sg x T Rs B e n v w1 sg1) : ∃ k, v = some (.int k) := by
  rcases h.2 with ⟨-, -, q, -⟩ | ⟨-, q, -⟩ | ⟨-, -, q, -⟩ <;> exact ⟨_, q⟩
theorem mwiQ.int (h : mwiQ T Rs B e n w v w2 sg2) : ∃ k, v = some (.int k) := by
  rcases h.2.2 with ⟨-, -, q⟩ | ⟨-, -, -, q⟩ | ⟨-, -, -, q⟩
  · exact q
  · exact q
  · exact ⟨_, q⟩
theorem jn_winner (h1 : wnQ sg x T Rs B e n (some (.int k)) w1 sg1) (h2 : mwiQ T Rs B e n w (some (.int y)) w2 sg2) (hr : rootT T) : mi sg2 0 = k ∧ (k = 0 → zl w1 (x + 54) 0 = y.toInt64) ∧ lwI w1 sg2 x T Rs B := by
  obtain ⟨-, b5, h2⟩ := h2
  rcases h1.2 with ⟨a1, a2, a3, a4, a5⟩ | ⟨a1, a3, a5⟩ | ⟨a1, a2, a3, a5⟩
  · rcases h2 with ⟨b1, -⟩ | ⟨-, b2, -⟩ | ⟨-, -, b3, b4⟩
    · rw [a1] at b1; cases b1
    · rw [a2] at b2; cases b2
    · cases a3
      cases b4
      exact ⟨b3, fun _ => a4, a5, b5, hr⟩
  · rcases h2 with ⟨-, b3, -⟩ | ⟨b1, -⟩ | ⟨b1, -⟩
    · cases a3
      exact ⟨b3, fun q => absurd q (by decide), a5, b5, hr⟩
    · rw [a1] at b1; cases b1
    · rw [a1] at b1; cases b1
  · rcases h2 with ⟨b1, -⟩ | ⟨-, -, b3, -⟩ | ⟨-, b2, -⟩
    · rw [a1] at b1; cases b1
    · cases a3
      exact ⟨b3, fun q => absurd q (by decide), a5, b5, hr⟩
    · rw [a2] at b2; cases b2
theorem whQ.int (h : whQ sg x T Rs B e n v w1 sg1) : ∃ k, v = some (.int k) := by
  rcases h.2 with ⟨-, -, q, -⟩ | ⟨-, q, -⟩ | ⟨-, -, q, -⟩ <;> exact ⟨_, q⟩
theorem mhwQ.int (h : mhwQ T Rs B e n w v w2 sg2) : ∃ k, v = some (.int k) := by
  rcases h.2.2 with ⟨-, -, q⟩ | ⟨-, -, -, q⟩ | ⟨-, -, -, q⟩
  · exact q
  · exact q
  · exact ⟨_, q⟩
theorem jn_how (h1 : whQ sg x T Rs B e n (some (.int k)) w1 sg1) (h2 : mhwQ T Rs B e n w (some (.int y)) w2 sg2) (hr : rootT T) : mi sg2 0 = k ∧ (k = 0 → zl w1 (x + 54) 0 = y.toInt64) ∧ lwI w1 sg2 x T Rs B := by
  obtain ⟨-, b5, h2⟩ := h2
  rcases h1.2 with ⟨a1, a2, a3, a4, a5⟩ | ⟨a1, a3, a5⟩ | ⟨a1, a2, a3, a5⟩
  · rcases h2 with ⟨b1, -⟩ | ⟨-, b2, -⟩ | ⟨-, -, b3, b4⟩
    · rw [a1] at b1; cases b1
    · rw [a2] at b2; cases b2
    · cases a3
      cases b4
      exact ⟨b3, fun _ => a4, a5, b5, hr⟩
  · rcases h2 with ⟨-, b3, -⟩ | ⟨b1, -⟩ | ⟨b1, -⟩
    · cases a3
      exact ⟨b3, fun q => absurd q (by decide), a5, b5, hr⟩
    · rw [a1] at b1; cases b1
    · rw [a1] at b1; cases b1
  · rcases h2 with ⟨b1, -⟩ | ⟨-, -, b3, -⟩ | ⟨-, b2, -⟩
    · rw [a1] at b1; cases b1
    · cases a3
      exact ⟨b3, fun q => absurd q (by decide), a5, b5, hr⟩
    · rw [a2] at b2; cases b2
theorem wvQ.int (h : wvQ sg x T Rs B e n v w1 sg1) : ∃ k, v = some (.int k) := by
  rcases h.2 with ⟨-, -, q, -⟩ | ⟨-, q, -⟩ | ⟨-, -, q, -⟩ <;> exact ⟨_, q⟩
theorem mvlQ.flt (h : mvlQ T Rs B e n w v w2 sg2) : ∃ k, v = some (.float k) := by
  rcases h.2.2 with ⟨-, -, q⟩ | ⟨-, -, -, q⟩ | ⟨-, -, -, q⟩
  · exact q
  · exact q
  · exact ⟨_, q⟩
theorem jn_value {y : UInt32} (h1 : wvQ sg x T Rs B e n (some (.int k)) w1 sg1) (h2 : mvlQ T Rs B e n w (some (.float y)) w2 sg2) (hr : rootT T) : mi sg2 0 = k ∧ (k = 0 → zd w1 (x + 55) 0 = FP.f2d y ∧ fFin y) ∧ lwI w1 sg2 x T Rs B := by
  obtain ⟨-, b5, h2⟩ := h2
  rcases h1.2 with ⟨a1, a2, a3, a4, a5⟩ | ⟨a1, a3, a5⟩ | ⟨a1, a2, a3, a5⟩
  · rcases h2 with ⟨b1, -⟩ | ⟨-, b2, -⟩ | ⟨-, -, b3, b4⟩
    · rw [a1] at b1; cases b1
    · rw [a2] at b2; cases b2
    · cases a3
      cases b4
      exact ⟨b3, fun _ => ⟨a4, valD_fin a5 a1 a2⟩, a5, b5, hr⟩
  · rcases h2 with ⟨-, b3, -⟩ | ⟨b1, -⟩ | ⟨b1, -⟩
    · cases a3
      exact ⟨b3, fun q => absurd q (by decide), a5, b5, hr⟩
    · rw [a1] at b1; cases b1
    · rw [a1] at b1; cases b1
  · rcases h2 with ⟨b1, -⟩ | ⟨-, -, b3, -⟩ | ⟨-, b2, -⟩
    · rw [a1] at b1; cases b1
    · cases a3
      exact ⟨b3, fun q => absurd q (by decide), a5, b5, hr⟩
    · rw [a2] at b2; cases b2
end ZJN
