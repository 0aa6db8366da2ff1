/-! ===== methods that throw ===== -/
abbrev ZX : Type := String → ZW → ZM → Prop
def zXQ (E : ZE) (X : ZX) : String → State → State → Prop := fun C st t => (∃ (w' : ZW) (sg' : ZM), X C w' sg' ∧ ZAR E w' sg' t.heap) ∧ va_F (zA E) st t
/-- method M, called on these arguments in this world, returns as Q says or throws as X says -/
def CallX (E : ZE) (M : ZMeth) (as : List Value) (w : ZW) (sg : ZM) (d nc ns : Nat) (Q : ZQ) (X : ZX) : Prop := vx_Met E.1 M.1 (zws M) (zRoom d nc ns) (zPre E as w sg) (zQ E Q) (zXQ E X) nc ns (zA E)
def PX (E : ZE) (Q : ZQ) (X : ZX) : ZPhi := fun below args s mc ms => vx_MQ below (zQ E Q) (zXQ E X) args s mc ms (zA E)
theorem RW.px {E : ZE} {M : ZMeth} {pc : Nat} {ls : List (Option Value)} {st : List Value} {w : ZW} {sg : ZM} {d nc ns : Nat} {Q : ZQ} {X : ZX} (h : RW E M pc ls st w sg d nc ns (PN E Q)) : RW E M pc ls st w sg d nc ns (PX E Q X) := fun p e R s m args below meth c H locs cells slots mc ms A hZ => vx_ret (h p e R s m args below meth c H locs cells slots mc ms A hZ)
theorem CallX.of {E : ZE} {M : ZMeth} {as : List Value} {w : ZW} {sg : ZM} {d nc ns : Nat} {Q : ZQ} {X : ZX} (hy : (plainName M.1.cls && (zhh M.1).isEmpty) = true) (h1 : ∀ v ∈ as, v.category = 1) (h2 : as.length ≤ M.2.2.1) (body : RW E M 0 (zEnt as M.2.2.1) [] w sg d nc ns (PX E Q X)) : CallX E M as w sg d nc ns Q X := by
  rw [Bool.and_eq_true, List.isEmpty_iff] at hy
  refine vx_ofW (cc := M.2.1) (maxL := M.2.2.1) (ret := M.2.2.2) hy.1 rfl ?_
  intro p e s m args below meth c s₁ B hml hT hv
  have ht : c.exceptionTable.toList = tableOf (zhh M.1) := by
    rw [hy.2]
    cases hl : c.exceptionTable.toList with
    | nil => rfl
    | cons x l => exact absurd (hT x (by rw [hl]; exact List.mem_cons_self)) (fun h => h)
  obtain ⟨rfl, hP, hX⟩ := hv
  have hts := atoms_spec (ws := zws M) B.pre
  rw [lg_entry_eq]
  exact body.u ⟨⟨B.exec, B.bytes, B.returns, hml, B.notSynchronized, findClass_of_methodNamed B.named, fun w hw => hts w (List.mem_cons_of_mem _ hw), (name_of_methodNamed B.named B.method).1, hX, ht⟩, hP, va_S.rf, zEnt_L as _ h1 h2, by show 0 + nc ≤ nc; omega, by show 0 + ns ≤ ns; omega, Nat.le_refl _, Nat.le_refl _, Nat.le_refl _, Nat.le_refl _⟩
abbrev zRE : List String := ["java/lang/RuntimeException", "java/lang/Exception"]
section ZX1
variable {E : ZE} {M : ZMeth} {pc q : Nat} {ls : List (Option Value)} {st : List Value} {w : ZW} {sg : ZM} {d nc ns nc' ns' d' : Nat} {P : ZPhi} {Q Q' : ZQ} {X X' : ZX} {idx a : Nat}
/-- the words of a throw of cls by own -/
def ZLX (own cls : String) (ik ic : Nat) : Prop := (Cond.classLink own ik cls ∈ zWs ∧ Cond.initialized cls ∈ zWs) ∧ (∀ w ∈ (vx_at0 own ic cls zRE).filter goodWord, w ∈ zWs) ∧ (∀ w ∈ (vx_at0 own ic cls zRE).filter (fun w => !goodWord w), w ∈ zFace) ∧ (∀ w ∈ Cond.classLink own ik cls :: Cond.initialized cls :: vx_at0 own ic cls zRE, vx_ot w = true) ∧ Bundle.fit cls = true
theorem zRE_fit : ∀ n ∈ zRE, Bundle.fit n = true := by decide +kernel
/-- new, dup, invokespecial, athrow -/
theorem x_throw (cls : String) {ik ic : Nat} (hz : zhh M.1 = []) (hL : ZLX M.1.cls cls ik ic) (hdd : 6 ≤ d) (hc : 1 ≤ nc) (hs : 6 ≤ ns) (d0 : decode M.2.1 pc = .ok (.new ik, 3)) (d3 : decode M.2.1 (pc + 3) = .ok (.dup, 1)) (d4 : decode M.2.1 (pc + 4) = .ok (.invokespecial ic, 3)) (d7 : decode M.2.1 (pc + 7) = .ok (.athrow, 1)) (hX : ∀ n, X cls (zskip w n) sg) : RW E M pc ls [] w sg d nc ns (PX E Q X) := by
  intro p e R s m args below meth cd H locs cells slots mc ms A h
  obtain ⟨⟨l1, l2⟩, l3, l4, l5, l6⟩ := hL
  have b1 := h.2.2.2.2.1
  have b2 := h.2.2.2.2.2.1
  have b3 := h.2.2.2.2.2.2.1
  have b4 := h.2.2.2.2.2.2.2.1
  have b5 := h.2.2.2.2.2.2.2.2.1
  have b6 := h.2.2.2.2.2.2.2.2.2
  obtain ⟨x1, x2, x3, x4, x5, x6, x7, x8, x9, x10⟩ := h.X
  have hx10 := x10.2.2.2.2.2.2.2.2.2
  have hface := x10.2.2.2.2.2.2.2.2.1
  refine vx_throw0 (names := zRE) h.x h.b hx10 h.own l6 zRE_fit (h.ts _ l1) (h.ts _ l2) ?_ l5 x5 x6 h.S (h.L.1.trans h.ml.symm) d0 d3 d4 d7 (fun x hx => absurd (h.T0 hz x hx) (fun h => h)) (by show 2 + 3 < R.frames; omega) (by show 0 + (13 * (2 + 1) + 42) ≤ R.locals; omega) (by omega) (by omega) h.lk ?_ h.S.2.2 (by omega) (by omega)
  · refine vx_hat (fun w hw => h.ts w (l3 w hw)) l4 (fun w hw => zFc_moved (zFace_fc w hw) (Vm.Alike.refl s.vm) (hface w hw))
  · intro t ht hsz hq
    have hS := h.S
    obtain ⟨n, hn⟩ : ∃ n, t.heap.size = H.size + n := ⟨t.heap.size - H.size, by omega⟩
    exact ⟨⟨zskip w n, sg, hX n, h.P.skip hn hq⟩, Nat.le_trans hS.1 hsz, fun q9 g1 g2 => by rw [hq q9 (Nat.lt_of_lt_of_le g1 hS.1)]; exact hS.2.1 q9 g1 g2⟩
/-- behind a call that may have thrown -/
theorem x_run {rest : List Value} {lsA : Array Slot} {as : Array Value} {p : Program} {e : Env} {R : Room} {s : State} {m : MethodId} {args : Array Value} {below : List Frame} {meth : Method} {c : Code} {H : Heap} {locs : List Loc} {cells slots mc ms k n : Nat} (h : ZS E M ls w sg d nc ns p R s m args meth c H locs cells slots mc ms lsA) (hr : vx_Run p E.1 e R s m args below meth c H locs cells slots k n (F0 m pc lsA st) rest (zQ E Q' as) (zXQ E X') (zA E)) (hc : k + nc' ≤ nc) (hs : n + ns' ≤ ns)
    (kx : ∀ (C : String) (w' : ZW) (sg' : ZM) (H1 : Heap) (locs1 : List Loc) (q9 : Nat) (ce : Cell), X' C w' sg' → ZS E M ls w' sg' d nc' ns' p R s m args meth c H1 locs1 (cells + k) (slots + n) mc ms lsA → H1[q9]? = some ce → ce.vm = .none → s.vm.findClass C = some ce.cls → vx_W p E.1 e R s m args below meth c H1 locs1 (cells + k) (slots + n) (P below args s mc ms) (F0 m pc lsA rest) q9)
    (kk : ∀ v w' sg', Q' v w' sg' → RW E M (pc + 3) ls (v.toList ++ rest) w' sg' d nc' ns' P) : W p E.1 e R s m args below meth c H locs cells slots (P below args s mc ms) (F0 m pc lsA st) := by
  intro T hT X9
  have hS := h.S
  rcases hr T hT X9 with ⟨v, st₀, t, T', L, h0, X', hL, e1, e2, ⟨⟨v', w', sg', hv, hq, hP'⟩, hz, hk⟩, go⟩ | ⟨q9, st₀, t, T', L, C, ce, h0, X', hL, e1, e2, ⟨⟨w', sg', hq, hP'⟩, hz, hk⟩, hcell, hvm, hcl, go⟩
  · cases hv
    rw [h0] at hz hk
    obtain ⟨t2, a1, b1⟩ := (kk v w' sg' hq).u (h.more (by rw [e1]; exact hP') (locs' := locs ++ L) ⟨Nat.le_trans hS.1 (by rw [e1]; exact hz), fun q h1 h2 => by rw [e1, hk q (Nat.lt_of_lt_of_le h1 hS.1) h2]; exact hS.2.1 q h1 h2, fun q hq => by
        rcases List.mem_append.mp hq with h | h
        · exact hS.2.2 q h
        · exact hL q h⟩ hc hs) T' rfl X'
    exact ⟨t2, go t2 a1, b1⟩
  · rw [h0] at hz hk
    have hZ := h.more (nc' := nc') (ns' := ns') (k := k) (n := n) (H' := T'.heap) (by rw [e1]; exact hP') (locs' := locs ++ L) ⟨Nat.le_trans hS.1 (by rw [e1]; exact hz), fun q h1 h2 => by rw [e1, hk q (Nat.lt_of_lt_of_le h1 hS.1) h2]; exact hS.2.1 q h1 h2, fun q hq => by
        rcases List.mem_append.mp hq with h | h
        · exact hS.2.2 q h
        · exact hL q h⟩ hc hs
    obtain ⟨t2, a1, b1⟩ := kx C w' sg' T'.heap (locs ++ L) q9 ce hq hZ (by rw [e1]; exact hcell) hvm hcl T' rfl X'
    exact ⟨t2, go.trans a1, b1⟩
/-- a call of a method that throws, in a method without handlers -/
theorem x_callV (M' : ZMeth) (n : Nat) {b : Nat} (as : List Value) {rest : List Value} (hz : zhh M.1 = []) (hL : ZLV M.1.cls idx M' n) (hb : zRc E w b M'.1.cls) (hC : CallX E M' (.ref b :: as) w sg d' nc' ns' Q' X') (hst : st = as.reverse ++ .ref b :: rest) (hn : as.length = n) (hW : (rest.map fun v => v.category).sum ≤ 8) (hdd : d' + 1 ≤ d) (hc : nc' + a ≤ nc) {a' : Nat} (hs : ns' + a' ≤ ns) (hd : decode M.2.1 pc = .ok (.invokevirtual idx, 3)) (hq : pc + 3 = q) (kx : ∀ C w' sg', X' C w' sg' → X C w' sg') (kk : ∀ v w' sg', Q' v w' sg' → RW E M q ls (v.toList ++ rest) w' sg' d a a' (PX E Q X)) : RW E M pc ls st w sg d nc ns (PX E Q X) := by
  intro p e R s m args below meth cd H locs cells slots mc ms A h
  subst hq
  subst hst
  obtain ⟨⟨w1, w2, w3, w4, w5⟩, hy, hm⟩ := hL
  have hw : ∀ w ∈ wsV M.1.cls idx M'.1.cls M'.1 [.code M'.1 M'.2.1 M'.2.2.1 M'.2.2.2], w ∈ zWs := zmem5 w1 w2 w3 w4 w5
  have hcw := cwV (R := R) (rm := zRoom d' nc' ns') n h.ts (zWs_good (fun w hw' => (List.mem_append.mp hw').elim (fun h1 => hw w (List.mem_append_left _ h1)) (fun h1 => (List.mem_cons.mp h1).elim (fun e => by rw [e]; exact hw _ (List.mem_append_right _ List.mem_cons_self)) (fun h2 => h2)))) (own := M.1.cls) (index := idx) (C := M'.1.cls) (y := M'.1) (bytes := M'.2.1) (maxL := M'.2.2.1) (ret := M'.2.2.2) (ws := zws M') (ws' := zWs) (mc := nc') (ms := ns') rfl rfl rfl ⟨rfl, hy.1, hy.2.1, hy.2.2⟩ ⟨by have := h.2.2.2.2.2.2.2.2.1; show d' + 1 ≤ R.frames; omega, by have := h.2.2.2.2.2.2.2.2.2; show 8 + (M'.2.2.1 + 11) + 60 * d' ≤ R.locals; omega⟩
  have hp := zPre_ok (M' := M') (as := .ref b :: as) h
  have hcl := h.cells
  refine x_run h (vx_runV (As := as) (rest := rest) ⟨h.x, h.b, h.ml, h.own, h.ts⟩ hC hcw ⟨hp.1, zRc_ok hb h, hp.2⟩ rfl hn h.L.1 rfl (lv_room hW) hd ⟨by omega, by omega⟩) hc hs ?_ kk
  intro C w' sg' H1 locs1 q9 ce hX' hZ hcell hvm hcl9
  have b1 := hZ.2.2.2.2.1
  have b2 := hZ.2.2.2.2.2.1
  exact vx_out (fun x hx => absurd (h.T0 hz x hx) (fun h => h)) h.lk hcell hvm hcl9 (fun t ht _ => ⟨⟨w', sg', kx C w' sg' hX', by rw [ht]; exact hZ.P⟩, hZ.S.F ht⟩) hZ.S.2.2 (by omega) (by omega)
end ZX1
