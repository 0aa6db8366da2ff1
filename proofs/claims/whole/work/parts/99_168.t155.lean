/-! ===== the law's own methods: handlers ===== -/
def zwsW (M : ZMeth) : List Cond := .codeWith M.1 M.2.1 M.2.2.1 M.2.2.2 (zhh M.1) :: zWs
def zNX : ZX := fun _ _ _ => False
/-- method M, which may catch, returns as Q says -/
def CallH (E : ZE) (M : ZMeth) (as : List Value) (w : ZW) (sg : ZM) (d nc ns : Nat) (Q : ZQ) : Prop := vx_Met E.1 M.1 (zwsW M) (zRoom d nc ns) (zPre E as w sg) (zQ E Q) (zXQ E zNX) nc ns (zA E)
theorem CallH.of {E : ZE} {M : ZMeth} {as : List Value} {w : ZW} {sg : ZM} {d nc ns : Nat} {Q : ZQ} (hy : plainName M.1.cls = true) (h1 : ∀ v ∈ as, v.category = 1) (h2 : as.length ≤ M.2.2.1) (body : RW E M 0 (zEnt as M.2.2.1) [] w sg d nc ns (PX E Q zNX)) : CallH E M as w sg d nc ns Q := by
  refine vx_ofWH (cc := M.2.1) (maxL := M.2.2.1) (ret := M.2.2.2) (hh := zhh M.1) hy rfl ?_
  intro p e s m args below meth c s₁ B hml hv
  have hts := atoms_spec (ws := zwsW M) B.pre
  have ht : c.exceptionTable.toList = tableOf (zhh M.1) := vx_table (x := M.1) B (hts _ List.mem_cons_self)
  obtain ⟨rfl, hP, hX⟩ := hv
  rw [lg_entry_eq]
  exact body.u ⟨⟨B.exec, B.bytes, B.returns, hml, B.notSynchronized, findClass_of_methodNamed B.named, fun w hw => hts w (List.mem_cons_of_mem _ hw), (name_of_methodNamed B.named B.method).1, hX, ht⟩, hP, va_S.rf, zEnt_L as _ h1 h2, by show 0 + nc ≤ nc; omega, by show 0 + ns ≤ ns; omega, Nat.le_refl _, Nat.le_refl _, Nat.le_refl _, Nat.le_refl _⟩
section ZRW
variable {E : ZE} {M : ZMeth} {pc q : Nat} {ls : List (Option Value)} {st : List Value} {w : ZW} {sg : ZM} {d nc ns nc' ns' d' : Nat} {P : ZPhi} {Q : ZQ} {Q' : ZQ} {X' : ZX} {idx a : Nat}
theorem x_callW (M' : ZMeth) (n : Nat) (as : List Value) {rest : List Value} (hL : ZLSW M.1.cls idx M' n) (hC : CallH E M' as w sg d' nc' ns' Q) (hst : st = as.reverse ++ rest) (hn : as.length = n) (hW : (rest.map fun v => v.category).sum ≤ 8) (hdd : d' + 1 ≤ d) (hc : nc' + a ≤ nc) {a' : Nat} (hs : ns' + a' ≤ ns) (hd : decode M.2.1 pc = .ok (.invokestatic idx, 3)) (hq : pc + 3 = q) (kk : ∀ v w' sg', Q v w' sg' → RW E M q ls (v.toList ++ rest) w' sg' d a a' P) : RW E M pc ls st w sg d nc ns P := by
  intro p e R s m args below meth cd H locs cells slots mc ms A h
  subst hq
  subst hst
  obtain ⟨⟨w1, w2, w3, w4⟩, hy, hm⟩ := hL
  have hw : ∀ w ∈ va_wsS M.1.cls idx M'.1 [.codeWith M'.1 M'.2.1 M'.2.2.1 M'.2.2.2 (zhh M'.1)], w ∈ zWs := zmem4 w1 w2 w3 w4
  have hcw := vx_cwSW (R := R) (rm := zRoom d' nc' ns') n h.ts (zWs_good (fun w hw' => (List.mem_append.mp hw').elim (fun h1 => hw w (List.mem_append_left _ h1)) (fun h1 => (List.mem_cons.mp h1).elim (fun e => by rw [e]; exact hw _ (List.mem_append_right _ List.mem_cons_self)) (fun h2 => h2)))) (own := M.1.cls) (index := idx) (y := M'.1) (bytes := M'.2.1) (maxL := M'.2.2.1) (ret := M'.2.2.2) (hh := zhh M'.1) (ws := zwsW M') (ws' := zWs) (mc := nc') (ms := ns') rfl rfl rfl hy ⟨by have := h.2.2.2.2.2.2.2.2.1; show d' + 1 ≤ R.frames; omega, by have := h.2.2.2.2.2.2.2.2.2; show 8 + (M'.2.2.1 + 11) + 60 * d' ≤ R.locals; omega⟩
  have hp := zPre_ok (M' := M') (as := as) h
  have hcl := h.cells
  exact x_run h (vx_runSX (As := as) (rest := rest) ⟨h.x, h.b, h.ml, h.own, h.ts⟩ hC hcw ⟨hp.1, hp.2⟩ rfl hn h.L.1 rfl (lv_room hW) hd ⟨by omega, by omega⟩) hc hs (fun C w' sg' H1 locs1 q9 ce hX' => hX'.elim) kk
/-- an exception C, thrown by the call at pc, is caught, and the run goes on at its handler -/
def HND (E : ZE) (M : ZMeth) (pc : Nat) (ls : List (Option Value)) (w : ZW) (sg : ZM) (d nc ns : Nat) (P : ZPhi) (C : String) : Prop := ∃ (hpre : List (Nat × Nat × Nat × Nat)) (a0 a1 hp ct : Nat) (hsuf : List (Nat × Nat × Nat × Nat)) (name : String), zhh M.1 = hpre ++ (a0, a1, hp, ct) :: hsuf ∧ (a0 ≤ pc ∧ pc < a1) ∧ ct ≠ 0 ∧ Cond.classLink M.1.cls ct name ∈ zWs ∧ Cond.castable C name ∈ zFace ∧ (∀ z ∈ hpre, z.2.2.2 ≠ 0 ∧ ∃ nm, Cond.classLink M.1.cls z.2.2.2 nm ∈ zWs ∧ ∀ s, zX E s → va_Nc C nm s) ∧ ∀ q, RW E M hp ls [.ref q] w sg d nc ns P
theorem HND.go {C : String} (h : HND E M pc ls w sg d nc ns P C) {rest : List Value} {p : Program} {e : Env} {R : Room} {s : State} {m : MethodId} {args : Array Value} {below : List Frame} {meth : Method} {c : Code} {H : Heap} {locs : List Loc} {cells slots mc ms : Nat} {A : Array Slot} {q9 : Nat} {ce : Cell} (hZ : ZS E M ls w sg d nc ns p R s m args meth c H locs cells slots mc ms A) (hcell : H[q9]? = some ce) (hvm : ce.vm = .none) (hcl : s.vm.findClass C = some ce.cls) : vx_W p E.1 e R s m args below meth c H locs cells slots (P below args s mc ms) (F0 m pc A rest) q9 := by
  obtain ⟨hpre, a0, a1, hp, ct, hsuf, name, h1, h2, h3, h4, h5, h6, h7⟩ := h
  have hface := hZ.XE.2.2.2.2.2.2.2.2.1
  refine vx_catch (name := name) hZ.own (tableOf hpre) ⟨a0, a1, hp, ct⟩ (tableOf hsuf) ?_ ?_ ?_ h3 (hZ.ts _ h4) (zFc_moved (zFace_fc _ h5) (Vm.Alike.refl s.vm) (hface _ h5)) hcell hvm hcl ?_
  · rw [hZ.T, h1]
    unfold tableOf
    rw [List.map_append, List.map_cons]
  · intro z hz
    unfold tableOf at hz
    obtain ⟨y, hy, rfl⟩ := List.mem_map.mp hz
    obtain ⟨g1, nm, g2, g3⟩ := h6 y hy
    exact Or.inr ⟨g1, nm, hZ.ts _ g2, g3 s hZ.X⟩
  · simp [covers, h2.1, h2.2]
  · exact (h7 q9).u hZ
/-- a call of a method that throws, in a method with handlers -/
theorem x_callVH (M' : ZMeth) (n : Nat) {b : Nat} (as : List Value) {rest : List Value} (hL : ZLV M.1.cls idx M' n) (hb : zRc E w b M'.1.cls) (hC : CallX E M' (.ref b :: as) w sg d' nc' ns' Q' X') (hst : st = as.reverse ++ .ref b :: rest) (hn : as.length = n) (hW : (rest.map fun v => v.category).sum ≤ 8) (hdd : d' + 1 ≤ d) (hc : nc' + a ≤ nc) {a' : Nat} (hs : ns' + a' ≤ ns) (hd : decode M.2.1 pc = .ok (.invokevirtual idx, 3)) (hq : pc + 3 = q) (kx : ∀ C w' sg', X' C w' sg' → HND E M pc ls w' sg' d a a' P C) (kk : ∀ v w' sg', Q' v w' sg' → RW E M q ls (v.toList ++ rest) w' sg' d a a' P) : RW E M pc ls st w sg d nc ns P := by
  intro p e R s m args below meth cd H locs cells slots mc ms A h
  subst hq
  subst hst
  obtain ⟨⟨w1, w2, w3, w4, w5⟩, hy, hm⟩ := hL
  have hw : ∀ w ∈ wsV M.1.cls idx M'.1.cls M'.1 [.code M'.1 M'.2.1 M'.2.2.1 M'.2.2.2], w ∈ zWs := zmem5 w1 w2 w3 w4 w5
  have hcw := cwV (R := R) (rm := zRoom d' nc' ns') n h.ts (zWs_good (fun w hw' => (List.mem_append.mp hw').elim (fun h1 => hw w (List.mem_append_left _ h1)) (fun h1 => (List.mem_cons.mp h1).elim (fun e => by rw [e]; exact hw _ (List.mem_append_right _ List.mem_cons_self)) (fun h2 => h2)))) (own := M.1.cls) (index := idx) (C := M'.1.cls) (y := M'.1) (bytes := M'.2.1) (maxL := M'.2.2.1) (ret := M'.2.2.2) (ws := zws M') (ws' := zWs) (mc := nc') (ms := ns') rfl rfl rfl ⟨rfl, hy.1, hy.2.1, hy.2.2⟩ ⟨by have := h.2.2.2.2.2.2.2.2.1; show d' + 1 ≤ R.frames; omega, by have := h.2.2.2.2.2.2.2.2.2; show 8 + (M'.2.2.1 + 11) + 60 * d' ≤ R.locals; omega⟩
  have hp := zPre_ok (M' := M') (as := .ref b :: as) h
  have hcl := h.cells
  refine x_run h (vx_runV (As := as) (rest := rest) ⟨h.x, h.b, h.ml, h.own, h.ts⟩ hC hcw ⟨hp.1, zRc_ok hb h, hp.2⟩ rfl hn h.L.1 rfl (lv_room hW) hd ⟨by omega, by omega⟩) hc hs ?_ kk
  intro C w' sg' H1 locs1 q9 ce hX' hZ hcell hvm hcl9
  exact (kx C w' sg' hX').go hZ hcell hvm hcl9
end ZRW
theorem nc_SI {E : ZE} : ∀ s, zX E s → va_Nc zISE zIAE s := fun s h => by
  obtain ⟨-, -, -, -, -, -, -, -, -, g⟩ := h
  exact g.2.2.2.2.2.1
theorem nc_IS {E : ZE} : ∀ s, zX E s → va_Nc zIAE zISE s := fun s h => by
  obtain ⟨-, -, -, -, -, -, -, -, -, g⟩ := h
  exact g.2.2.2.2.2.2.1
theorem nc_IN {E : ZE} : ∀ s, zX E s → va_Nc zIAE zNSE s := fun s h => by
  obtain ⟨-, -, -, -, -, -, -, -, -, g⟩ := h
  exact g.2.2.2.2.2.2.2.1
