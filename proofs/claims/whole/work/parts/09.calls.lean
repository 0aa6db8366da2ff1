/-! ===== contracts ===== -/
theorem zX.moved {E : ZE} {s U : State} (h : zX E s) (hN : ∀ (a : String) (i : Nat) (x : MethodName) (b : String), va_Nw (.methodLinkNest a i x b) s → va_Nw (.methodLinkNest a i x b) U) (hR : ∀ (own : String) (k : Nat) (tx : String) (a : Nat), vk_R own k tx a s → vk_R own k tx a U) (hvm : s.vm.Alike U.vm) (hz : s.heap.size ≤ U.heap.size) (hq : ∀ q : Nat, q < s.heap.size → ¬ zA E q → U.heap[q]? = s.heap[q]?) : zX E U := by
  obtain ⟨h1, h2, h3, h4, h5, h6, h7, h8, h9, h10⟩ := h
  exact ⟨va_K.moved hvm h1, Nat.le_trans h2 hz, hN _ _ _ _ h3, hN _ _ _ _ h4, vx_Zq.moved hvm (h5.kept hq), vx_Zq.moved hvm (h6.kept hq), va_AO.moved hvm h7, va_AO.moved hvm h8, va_AO.moved hvm h9, zXE.moved h10 hR hvm hq⟩
abbrev ZQ : Type := Option Value → ZW → ZM → Prop
def zQ (E : ZE) (Q : ZQ) : Array Value → State → Outcome → State → Prop := fun _ st o t => (∃ (v : Option Value) (w' : ZW) (sg' : ZM), o = .returned v ∧ Q v w' sg' ∧ ZAR E w' sg' t.heap) ∧ va_F (zA E) st t
def zPre (E : ZE) (as : List Value) (w : ZW) (sg : ZM) : Array Value → State → Prop := va_Pc as (fun U => ZAR E w sg U.heap ∧ zX E U)
def zws (M : ZMeth) : List Cond := .code M.1 M.2.1 M.2.2.1 M.2.2.2 :: zWs
def zRoom (d nc ns : Nat) : Room := { frames := d, cells := nc, slots := ns, locals := 60 * d }
/-- method M, called on these arguments in this world, returns; its answer and world are as Q says -/
def CallQ (E : ZE) (M : ZMeth) (as : List Value) (w : ZW) (sg : ZM) (d nc ns : Nat) (Q : ZQ) : Prop := Met E.1 M.1 (zws M) (zRoom d nc ns) (zPre E as w sg) (zQ E Q) nc ns (zA E)
/-- a body that returns -/
def PN (E : ZE) (Q : ZQ) : ZPhi := fun below args s mc ms => MQ below (zQ E Q) args s mc ms (zA E)
theorem zargs1 : ∀ (vs : List Value) (k : Nat), (∀ v ∈ vs, v.category = 1) → ∀ (i : Nat) (v : Value), vs[i]? = some v → (k + i, v) ∈ lv_args k vs
  | [], _, _, i, v, h => by simp at h
  | u :: vs, k, hc, 0, v, h => by
    rw [List.getElem?_cons_zero] at h
    cases h
    exact List.mem_cons_self
  | u :: vs, k, hc, i + 1, v, h => by
    rw [List.getElem?_cons_succ] at h
    have h1 : ¬ u.category = 2 := by rw [hc u List.mem_cons_self]; decide
    have := zargs1 vs (k + 1) (fun x hx => hc x (List.mem_cons_of_mem _ hx)) i v h
    refine List.mem_cons_of_mem _ ?_
    rw [if_neg h1]
    rw [show k + (i + 1) = k + 1 + i by omega]
    exact this
theorem zsl_len : ∀ (vs : List Value), (∀ v ∈ vs, v.category = 1) → (lg_sl vs).length = vs.length
  | [], _ => rfl
  | u :: vs, hc => by
    have h1 : ¬ u.category = 2 := by rw [hc u List.mem_cons_self]; decide
    have := zsl_len vs (fun x hx => hc x (List.mem_cons_of_mem _ hx))
    simp only [lg_sl, List.flatMap_cons, if_neg h1, List.length_append, List.length_cons, List.length_nil] at this ⊢
    omega
/-- the locals at the entry -/
def zEnt (as : List Value) (n : Nat) : List (Option Value) := as.map some ++ List.replicate (n - as.length) none
theorem zEnt_L (as : List Value) (n : Nat) (h1 : ∀ v ∈ as, v.category = 1) (h2 : as.length ≤ n) : ZL ((lg_sl as ++ List.replicate (n - (lg_sl as).length) Slot.unset).toArray) n (zEnt as n) := by
  have hl := zsl_len as h1
  obtain ⟨g1, g2, g3⟩ := lv_entry as (n := n) (by rw [hl]; exact h2)
  refine ⟨g1, g2, fun i v hv => ?_⟩
  unfold zEnt at hv
  by_cases e : i < as.length
  · rw [List.getElem?_append_left (by rw [List.length_map]; exact e), List.getElem?_map] at hv
    cases hi : as[i]? with
    | none => rw [hi] at hv; cases hv
    | some u =>
      rw [hi] at hv
      cases hv
      have := zargs1 as 0 h1 i v hi
      rw [Nat.zero_add] at this
      exact ⟨g3 (i, v) this, h1 v (List.mem_of_getElem? hi)⟩
  · rw [List.getElem?_append_right (by rw [List.length_map]; omega)] at hv
    have := List.mem_of_getElem? hv
    rw [List.mem_replicate] at this
    cases this.2
/-- a method's contract out of its body -/
theorem CallQ.of {E : ZE} {M : ZMeth} {as : List Value} {w : ZW} {sg : ZM} {d nc ns : Nat} {Q : ZQ} (hy : (plainName M.1.cls && (zhh M.1).isEmpty) = true) (h1 : ∀ v ∈ as, v.category = 1) (h2 : as.length ≤ M.2.2.1) (body : RW E M 0 (zEnt as M.2.2.1) [] w sg d nc ns (PN E Q)) : CallQ E M as w sg d nc ns Q := by
  rw [Bool.and_eq_true, List.isEmpty_iff] at hy
  refine Met.ofW (cc := M.2.1) (maxL := M.2.2.1) (ret := M.2.2.2) hy.1 rfl ?_
  intro p e s m args below meth c s₁ B hml hv
  have ht : c.exceptionTable.toList = tableOf (zhh M.1) := by
    obtain ⟨meth9, c9, h1, h2, -, -, -, -, h7, -⟩ := Cond.code_spec B.named (atoms_spec (ws := zws M) B.pre _ List.mem_cons_self)
    cases Option.some.inj (h1.symm.trans B.method)
    cases Option.some.inj (h2.symm.trans (Stand.of_body B).code)
    rw [hy.2, Array.isEmpty_iff.mp h7]
    rfl
  obtain ⟨rfl, hP, hX⟩ := hv
  have hts := atoms_spec (ws := zws M) B.pre
  rw [lg_entry_eq]
  exact body.u ⟨⟨B.exec, B.bytes, B.returns, hml, B.notSynchronized, findClass_of_methodNamed B.named, fun w hw => hts w (List.mem_cons_of_mem _ hw), (name_of_methodNamed B.named B.method).1, hX, ht⟩, hP, va_S.rf, zEnt_L as _ h1 h2, by show 0 + nc ≤ nc; omega, by show 0 + ns ≤ ns; omega, Nat.le_refl _, Nat.le_refl _, Nat.le_refl _, Nat.le_refl _⟩
section ZR4
variable {E : ZE} {M : ZMeth} {pc q : Nat} {ls : List (Option Value)} {st : List Value} {w : ZW} {sg : ZM} {d nc ns nc' ns' d' : Nat} {P : ZPhi} {Q : ZQ} {idx a : Nat}
theorem r_vret (hr : M.2.2.2 = none) (hd : decode M.2.1 pc = .ok (.return_, 1)) (hQ : Q none w sg) : RW E M pc ls [] w sg d nc ns (PN E Q) := by
  intro p e R s m args below meth cd H locs cells slots mc ms A h
  refine W.widen (k := mc) (n := ms) (by have := h.2.2.2.2.1; omega) (by have := h.2.2.2.2.2.1; omega) ?_
  exact W.vret h.x h.b (h.ret.trans hr) (fun t ht _ => ⟨⟨none, w, sg, rfl, hQ, by rw [ht]; exact h.P⟩, h.S.F ht⟩) h.S.2.2 hd h.lk
theorem r_iret {x : Int32} (hr : M.2.2.2 = some .int) (hd : decode M.2.1 pc = .ok (.ireturn, 1)) (hQ : Q (some (.int x)) w sg) : RW E M pc ls [.int x] w sg d nc ns (PN E Q) := by
  intro p e R s m args below meth cd H locs cells slots mc ms A h
  refine W.widen (k := mc) (n := ms) (by have := h.2.2.2.2.1; omega) (by have := h.2.2.2.2.2.1; omega) ?_
  exact W.iret h.x h.b (h.ret.trans hr) (fun t ht _ => ⟨⟨_, w, sg, rfl, hQ, by rw [ht]; exact h.P⟩, h.S.F ht⟩) h.S.2.2 hd h.lk
theorem r_zret {x : Int32} (ty : FieldType) (hr : M.2.2.2 = some ty) (hn : narrow ty (.int x) = .int x) (hd : decode M.2.1 pc = .ok (.ireturn, 1)) (hQ : Q (some (.int x)) w sg) : RW E M pc ls [.int x] w sg d nc ns (PN E Q) := by
  intro p e R s m args below meth cd H locs cells slots mc ms A h
  refine W.widen (k := mc) (n := ms) (by have := h.2.2.2.2.1; omega) (by have := h.2.2.2.2.2.1; omega) ?_
  exact W.zret h.x h.b (h.ret.trans hr) hn (fun t ht _ => ⟨⟨_, w, sg, rfl, hQ, by rw [ht]; exact h.P⟩, h.S.F ht⟩) h.S.2.2 hd h.lk
theorem r_fret {x : UInt32} (hr : M.2.2.2 = some .float) (hd : decode M.2.1 pc = .ok (.freturn, 1)) (hQ : Q (some (.float x)) w sg) : RW E M pc ls [.float x] w sg d nc ns (PN E Q) := by
  intro p e R s m args below meth cd H locs cells slots mc ms A h
  refine W.widen (k := mc) (n := ms) (by have := h.2.2.2.2.1; omega) (by have := h.2.2.2.2.2.1; omega) ?_
  exact W.fret h.x h.b (h.ret.trans hr) (fun t ht _ => ⟨⟨_, w, sg, rfl, hQ, by rw [ht]; exact h.P⟩, h.S.F ht⟩) h.S.2.2 hd h.lk
theorem r_aret {v : Value} {ty : FieldType} (hr : M.2.2.2 = some ty) (hty : (∃ n, ty = .object n) ∨ ∃ t, ty = .array t) (hv : zRv v) (hd : decode M.2.1 pc = .ok (.areturn, 1)) (hQ : Q (some v) w sg) : RW E M pc ls [v] w sg d nc ns (PN E Q) := by
  intro p e R s m args below meth cd H locs cells slots mc ms A h
  refine W.widen (k := mc) (n := ms) (by have := h.2.2.2.2.1; omega) (by have := h.2.2.2.2.2.1; omega) ?_
  exact W.aret h.x h.b (h.ret.trans hr) hty hv (fun t ht _ => ⟨⟨_, w, sg, rfl, hQ, by rw [ht]; exact h.P⟩, h.S.F ht⟩) h.S.2.2 hd h.lk
/-- behind a call -/
theorem r_run {rest : List Value} {lsA : Array Slot} {as : Array Value} {p : Program} {e : Env} {R : Room} {s : State} {m : MethodId} {args : Array Value} {below : List Frame} {meth : Method} {c : Code} {H : Heap} {locs : List Loc} {cells slots mc ms k n : Nat} (h : ZS E M ls w sg d nc ns p R s m args meth c H locs cells slots mc ms lsA) (hr : va_Run p E.1 e R s m args below meth c H locs cells slots k n (F0 m pc lsA st) rest (zQ E Q as) (zA E)) (hc : k + nc' ≤ nc) (hs : n + ns' ≤ ns)
    (kk : ∀ v w' sg', Q v w' sg' → RW E M (pc + 3) ls (v.toList ++ rest) w' sg' d nc' ns' P) : W p E.1 e R s m args below meth c H locs cells slots (P below args s mc ms) (F0 m pc lsA st) := by
  intro T hT X
  obtain ⟨v, st₀, t, T', L, h0, X', hL, e1, e2, ⟨⟨v', w', sg', hv, hq, hP'⟩, hz, hk⟩, go⟩ := hr T hT X
  cases hv
  rw [h0] at hz hk
  have hS := h.S
  obtain ⟨t2, a1, b1⟩ := (kk v w' sg' hq).u (h.more (by rw [e1]; exact hP') (locs' := locs ++ L) ⟨Nat.le_trans hS.1 (by rw [e1]; exact hz), fun q h1 h2 => by rw [e1, hk q (Nat.lt_of_lt_of_le h1 hS.1) h2]; exact hS.2.1 q h1 h2, fun q hq => by
      rcases List.mem_append.mp hq with h | h
      · exact hS.2.2 q h
      · exact hL q h⟩ hc hs) T' rfl X'
  exact ⟨t2, go t2 a1, b1⟩
/-- the callee's start -/
theorem zPre_ok {M' : ZMeth} {as : List Value} {p : Program} {R : Room} {s : State} {m : MethodId} {args : Array Value} {meth : Method} {c : Code} {H : Heap} {locs : List Loc} {cells slots mc ms : Nat} {A : Array Slot} (h : ZS E M ls w sg d nc ns p R s m args meth c H locs cells slots mc ms A) : PreS s H (zPre E as w sg) as := by
  refine ⟨fun a U g mk hq => ?_, fun U hU hW => ⟨rfl, by rw [hU]; exact h.P, ?_⟩⟩
  · obtain ⟨q1, q2, q3⟩ := hq
    exact ⟨q1, q2, q3.moved (fun _ _ _ _ h9 => va_Nw.same rfl (U := U.calling g mk a) rfl h9) (fun _ _ _ _ h9 => vk_R.same (U := U.calling g mk a) rfl h9) (Vm.Alike.refl U.vm) (Nat.le_refl _) (fun _ _ _ => rfl)⟩
  · exact h.X.moved (fun _ _ _ _ h9 => va_Nw.warmM hW h9) (fun _ _ _ _ h9 => vk_R.warm hW h9) hW.alike (by rw [hU]; exact h.S.1) (fun q h1 h2 => by rw [hU]; exact h.S.2.1 q h1 h2)
/-- whose object it is -/
def zRc (E : ZE) (w : ZW) (b : Nat) (C : String) : Prop := (∃ c, c < 11 ∧ zk w b = c + 1 ∧ (zC c).1 = C) ∨ (E.2.2.2.2 = some b ∧ (zC 10).1 = C) ∨ (∃ i, i < 2 ∧ b = zwK E i ∧ "java/lang/String" = C)
theorem zRc_ok {b : Nat} {C : String} (hb : zRc E w b C) {p : Program} {R : Room} {s : State} {m : MethodId} {args : Array Value} {meth : Method} {c : Code} {H : Heap} {locs : List Loc} {cells slots mc ms : Nat} {A : Array Slot} (h : ZS E M ls w sg d nc ns p R s m args meth c H locs cells slots mc ms A) : ∃ cellB : Cell, H[b]? = some cellB ∧ cellB.vm.isStatics = false ∧ s.vm.findClass C = some cellB.cls := by
  rcases hb with ⟨c, hc, hk, rfl⟩ | ⟨hm, rfl⟩ | ⟨i, hi, rfl, rfl⟩
  · obtain ⟨cell, g1, g2, g3, -⟩ := (h.P.2.2.1 b).1 c hc hk
    exact ⟨cell, g1, by rw [g3]; rfl, by rw [g2]; exact (h.K.1 c _ (zC_at c hc)).2.1⟩
  · obtain ⟨-, -, -, ⟨cell, g1, g2, g3, -⟩, -⟩ := h.P.2.2.2 b hm
    exact ⟨cell, g1, by rw [g3]; rfl, by rw [g2]; exact (h.K.1 10 _ (zC_at 10 (by decide))).2.1⟩
  · exact vk_recv h.XE.1 hi h.S
def zYok (M : ZMeth) (n : Nat) : Prop := M.1.cls ≠ "java/lang/invoke/MethodHandle" ∧ M.1.cls ≠ "java/lang/invoke/VarHandle" ∧ (parseMethodDescriptor M.1.desc).map (fun d => d.parameters.length) = some n
/-- an invokevirtual's link -/
theorem zmem4 {a b c e : Cond} {l : List Cond} (h1 : a ∈ l) (h2 : b ∈ l) (h3 : c ∈ l) (h4 : e ∈ l) : ∀ w ∈ [a, b, c, e], w ∈ l := List.forall_mem_cons.mpr ⟨h1, List.forall_mem_cons.mpr ⟨h2, List.forall_mem_cons.mpr ⟨h3, List.forall_mem_cons.mpr ⟨h4, fun _ h => absurd h List.not_mem_nil⟩⟩⟩⟩
theorem zmem5 {a b c e f : Cond} {l : List Cond} (h1 : a ∈ l) (h2 : b ∈ l) (h3 : c ∈ l) (h4 : e ∈ l) (h5 : f ∈ l) : ∀ w ∈ [a, b, c, e, f], w ∈ l := List.forall_mem_cons.mpr ⟨h1, zmem4 h2 h3 h4 h5⟩
def ZLV (own : String) (idx : Nat) (M : ZMeth) (n : Nat) : Prop := (Cond.methodLink own idx M.1 ∈ zWs ∧ Cond.instanceMethod M.1 ∈ zWs ∧ Cond.selects M.1.cls M.1 M.1 ∈ zWs ∧ Cond.initialized M.1.cls ∈ zWs ∧ Cond.code M.1 M.2.1 M.2.2.1 M.2.2.2 ∈ zWs) ∧ zYok M n ∧ M.2.2.1 ≤ 40
def ZLS (own : String) (idx : Nat) (M : ZMeth) (n : Nat) : Prop := (Cond.methodLink own idx M.1 ∈ zWs ∧ Cond.static M.1 ∈ zWs ∧ Cond.initialized M.1.cls ∈ zWs ∧ Cond.code M.1 M.2.1 M.2.2.1 M.2.2.2 ∈ zWs) ∧ zYok M n ∧ M.2.2.1 ≤ 40
def ZLI (own : String) (idx : Nat) (M : ZMeth) (n : Nat) : Prop := (Cond.methodLink own idx M.1 ∈ zWs ∧ Cond.instanceMethod M.1 ∈ zWs ∧ Cond.initialized M.1.cls ∈ zWs ∧ Cond.code M.1 M.2.1 M.2.2.1 M.2.2.2 ∈ zWs) ∧ zYok M n ∧ M.2.2.1 ≤ 40 ∧ M.1.name = "<init>" ∧ M.2.2.2 = none
theorem r_callV (M' : ZMeth) (n : Nat) {b : Nat} (as : List Value) {rest : List Value} (hL : ZLV M.1.cls idx M' n) (hb : zRc E w b M'.1.cls) (hC : CallQ E M' (.ref b :: as) w sg d' nc' ns' Q) (hst : st = as.reverse ++ .ref b :: rest) (hn : as.length = n) (hW : (rest.map fun v => v.category).sum ≤ 8) (hdd : d' + 1 ≤ d) (hc : nc' + a ≤ nc) {a' : Nat} (hs : ns' + a' ≤ ns) (hd : decode M.2.1 pc = .ok (.invokevirtual idx, 3)) (hq : pc + 3 = q) (kk : ∀ v w' sg', Q v w' sg' → RW E M q ls (v.toList ++ rest) w' sg' d a a' P) : RW E M pc ls st w sg d nc ns P := by
  intro p e R s m args below meth cd H locs cells slots mc ms A h
  subst hq
  subst hst
  obtain ⟨⟨w1, w2, w3, w4, w5⟩, hy, hm⟩ := hL
  have hw : ∀ w ∈ wsV M.1.cls idx M'.1.cls M'.1 [.code M'.1 M'.2.1 M'.2.2.1 M'.2.2.2], w ∈ zWs := zmem5 w1 w2 w3 w4 w5
  have hcw := cwV (R := R) (rm := zRoom d' nc' ns') n h.ts (zWs_good (fun w hw' => (List.mem_append.mp hw').elim (fun h1 => hw w (List.mem_append_left _ h1)) (fun h1 => (List.mem_cons.mp h1).elim (fun e => by rw [e]; exact hw _ (List.mem_append_right _ List.mem_cons_self)) (fun h2 => h2)))) (own := M.1.cls) (index := idx) (C := M'.1.cls) (y := M'.1) (bytes := M'.2.1) (maxL := M'.2.2.1) (ret := M'.2.2.2) (ws := zws M') (ws' := zWs) (mc := nc') (ms := ns') rfl rfl rfl ⟨rfl, hy.1, hy.2.1, hy.2.2⟩ ⟨by have := h.2.2.2.2.2.2.2.2.1; show d' + 1 ≤ R.frames; omega, by have := h.2.2.2.2.2.2.2.2.2; show 8 + (M'.2.2.1 + 11) + 60 * d' ≤ R.locals; omega⟩
  have hp := zPre_ok (M' := M') (as := .ref b :: as) h
  have hcl := h.cells
  exact r_run h (va_runV (As := as) (rest := rest) ⟨h.x, h.b, h.ml, h.own, h.ts⟩ hC hcw ⟨hp.1, zRc_ok hb h, hp.2⟩ rfl hn h.L.1 rfl (lv_room hW) hd ⟨by omega, by omega⟩) hc hs kk
theorem r_callS (M' : ZMeth) (n : Nat) (as : List Value) {rest : List Value} (hL : ZLS M.1.cls idx M' n) (hC : CallQ E M' as w sg d' nc' ns' Q) (hst : st = as.reverse ++ rest) (hn : as.length = n) (hW : (rest.map fun v => v.category).sum ≤ 8) (hdd : d' + 1 ≤ d) (hc : nc' + a ≤ nc) {a' : Nat} (hs : ns' + a' ≤ ns) (hd : decode M.2.1 pc = .ok (.invokestatic idx, 3)) (hq : pc + 3 = q) (kk : ∀ v w' sg', Q v w' sg' → RW E M q ls (v.toList ++ rest) w' sg' d a a' P) : RW E M pc ls st w sg d nc ns P := by
  intro p e R s m args below meth cd H locs cells slots mc ms A h
  subst hq
  subst hst
  obtain ⟨⟨w1, w2, w3, w4⟩, hy, hm⟩ := hL
  have hw : ∀ w ∈ va_wsS M.1.cls idx M'.1 [.code M'.1 M'.2.1 M'.2.2.1 M'.2.2.2], w ∈ zWs := zmem4 w1 w2 w3 w4
  have hcw := va_cwS (R := R) (rm := zRoom d' nc' ns') n h.ts (zWs_good (fun w hw' => (List.mem_append.mp hw').elim (fun h1 => hw w (List.mem_append_left _ h1)) (fun h1 => (List.mem_cons.mp h1).elim (fun e => by rw [e]; exact hw _ (List.mem_append_right _ List.mem_cons_self)) (fun h2 => h2)))) (own := M.1.cls) (index := idx) (y := M'.1) (bytes := M'.2.1) (maxL := M'.2.2.1) (ret := M'.2.2.2) (ws := zws M') (ws' := zWs) (mc := nc') (ms := ns') rfl rfl rfl hy ⟨by have := h.2.2.2.2.2.2.2.2.1; show d' + 1 ≤ R.frames; omega, by have := h.2.2.2.2.2.2.2.2.2; show 8 + (M'.2.2.1 + 11) + 60 * d' ≤ R.locals; omega⟩
  have hp := zPre_ok (M' := M') (as := as) h
  have hcl := h.cells
  exact r_run h (va_runS (As := as) (rest := rest) ⟨h.x, h.b, h.ml, h.own, h.ts⟩ hC hcw ⟨hp.1, hp.2⟩ rfl hn h.L.1 rfl (lv_room hW) hd ⟨by omega, by omega⟩) hc hs kk
theorem r_callI (M' : ZMeth) (n : Nat) {b : Nat} (as : List Value) {rest : List Value} (hL : ZLI M.1.cls idx M' n) (hC : CallQ E M' (.ref b :: as) w sg d' nc' ns' Q) (hst : st = as.reverse ++ .ref b :: rest) (hn : as.length = n) (hW : (rest.map fun v => v.category).sum ≤ 8) (hdd : d' + 1 ≤ d) (hc : nc' + a ≤ nc) {a' : Nat} (hs : ns' + a' ≤ ns) (hd : decode M.2.1 pc = .ok (.invokespecial idx, 3)) (hq : pc + 3 = q) (kk : ∀ v w' sg', Q v w' sg' → RW E M q ls (v.toList ++ rest) w' sg' d a a' P) : RW E M pc ls st w sg d nc ns P := by
  intro p e R s m args below meth cd H locs cells slots mc ms A h
  subst hq
  subst hst
  obtain ⟨⟨w1, w2, w3, w4⟩, hy, hm, hi, hret⟩ := hL
  rw [hret] at w4
  have hw : ∀ w ∈ [Cond.methodLink M.1.cls idx M'.1, .instanceMethod M'.1, .initialized M'.1.cls, .code M'.1 M'.2.1 M'.2.2.1 none], w ∈ zWs := zmem4 w1 w2 w3 w4
  have hws : zws M' = .code M'.1 M'.2.1 M'.2.2.1 none :: zWs := by unfold zws; rw [hret]
  have hcw := cwI (R := R) (rm := zRoom d' nc' ns') n h.ts (own := M.1.cls) (index := idx) (y := M'.1) (bytes := M'.2.1) (maxL := M'.2.2.1) (ws := zws M') (ws' := zWs) (mc := nc') (ms := ns') (zWs_good (fun w hw' => by
    rw [hws] at hw'
    exact (List.mem_cons.mp hw').elim (fun e => by rw [e]; exact hw _ (by simp)) (fun h2 => h2))) hws rfl rfl (h.ts _ (hw _ (by simp))) (h.ts _ (hw _ (by simp))) (h.ts _ (hw _ (by simp))) hi hy ⟨by have := h.2.2.2.2.2.2.2.2.1; show d' + 1 ≤ R.frames; omega, by have := h.2.2.2.2.2.2.2.2.2; show 8 + (M'.2.2.1 + 11) + 60 * d' ≤ R.locals; omega⟩
  have hp := zPre_ok (M' := M') (as := .ref b :: as) h
  have hcl := h.cells
  exact r_run h (va_runI (As := as) (rest := rest) ⟨h.x, h.b, h.ml, h.own, h.ts⟩ hC hcw ⟨hp.1, hp.2⟩ rfl hn h.L.1 rfl (lv_room hW) hd ⟨by omega, by omega⟩) hc hs kk
/-- a static call of a nest mate's method -/
theorem r_callN (M' : ZMeth) (n : Nat) (host : String) (as : List Value) {rest : List Value} (hN : ∀ s, zX E s → va_Nw (.methodLinkNest M.1.cls idx M'.1 host) s) (hw : ∀ w ∈ [Cond.static M'.1, .initialized M'.1.cls, .code M'.1 M'.2.1 M'.2.2.1 M'.2.2.2], w ∈ zWs) (hy : zYok M' n) (hm : M'.2.2.1 ≤ 40) (hC : CallQ E M' as w sg d' nc' ns' Q) (hst : st = as.reverse ++ rest) (hn : as.length = n) (hW : (rest.map fun v => v.category).sum ≤ 8) (hdd : d' + 1 ≤ d) (hc : nc' + a ≤ nc) {a' : Nat} (hs : ns' + a' ≤ ns) (hd : decode M.2.1 pc = .ok (.invokestatic idx, 3)) (hq : pc + 3 = q) (kk : ∀ v w' sg', Q v w' sg' → RW E M q ls (v.toList ++ rest) w' sg' d a a' P) : RW E M pc ls st w sg d nc ns P := by
  intro p e R s m args below meth cd H locs cells slots mc ms A h
  subst hq
  subst hst
  have hcw := va_cnB (R := R) (rm := zRoom d' nc' ns') n h.ts (own := M.1.cls) (host := host) (index := idx) (y := M'.1) (bytes := M'.2.1) (maxL := M'.2.2.1) (ret := M'.2.2.2) (ws := zws M') (ws' := zWs) (mc := nc') (ms := ns') (zWs_good (fun w hw' => (List.mem_cons.mp hw').elim (fun e => by rw [e]; exact hw _ (by simp)) (fun h2 => h2))) rfl rfl rfl (hN s h.X) (h.ts _ (hw _ (by simp))) hy ⟨by have := h.2.2.2.2.2.2.2.2.1; show d' + 1 ≤ R.frames; omega, by have := h.2.2.2.2.2.2.2.2.2; show 8 + (M'.2.2.1 + 11) + 60 * d' ≤ R.locals; omega⟩
  have hp := zPre_ok (M' := M') (as := as) h
  have hcl := h.cells
  exact r_run h (va_runSN (As := as) (rest := rest) ⟨h.x, h.b, h.ml, h.own, h.ts⟩ hC ⟨hcw, h.ts _ (hw _ (by simp)), trivial⟩ ⟨hp.1, hp.2⟩ rfl hn h.L.1 rfl (lv_room hW) hd ⟨by omega, by omega⟩) hc hs kk
/-- Object's constructor -/
theorem r_objI {b : Nat} (hl : Cond.methodLink M.1.cls idx Lib.objectInit ∈ zWs) (hi : Cond.instanceMethod Lib.objectInit ∈ zWs) (hc : Cond.code Lib.objectInit ⟨#[0xb1]⟩ 1 none ∈ zWs) (hdd : 1 ≤ d) (hW : (st.map fun v => v.category).sum ≤ 8) (hd : decode M.2.1 pc = .ok (.invokespecial idx, 3)) (hq : pc + 3 = q) (kk : RW E M q ls st w sg d nc ns P) : RW E M pc ls (.ref b :: st) w sg d nc ns P := by
  intro p e R s m args below meth cd H locs cells slots mc ms A h
  subst hq
  have h9 := h.2.2.2.2.2.2.2.2
  exact W.objInit h.x h.b h.own (h.ts _ hl) (h.ts _ hi) (h.ts _ hc) rfl (h.L.1.trans h.ml.symm) rfl hd (by omega) (by show 2 * 0 + _ + 12 ≤ R.locals; omega) (kk.u h)
end ZR4
/-- a contract that says less -/
theorem CallQ.mono {E : ZE} {M : ZMeth} {as : List Value} {w : ZW} {sg : ZM} {d nc ns : Nat} {Q Q' : ZQ} (h : CallQ E M as w sg d nc ns Q) (hq : ∀ v w' sg', Q v w' sg' → Q' v w' sg') : CallQ E M as w sg d nc ns Q' := by
  intro p e h1 h2 h3 s m args below h4 h5 h6 h7
  obtain ⟨n, o, g1, g2, g3, ⟨⟨v, w', sg', a1, a2, a3⟩, a4⟩, g5⟩ := h p e h1 h2 h3 s m args below h4 h5 h6 h7
  exact ⟨n, o, g1, g2, g3, ⟨⟨v, w', sg', a1, hq v w' sg' a2, a3⟩, a4⟩, g5⟩
