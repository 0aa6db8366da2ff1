theorem zldcwf {p : Program} {l : Launch} {e : Env} {R : Room} {s : State} {m : MethodId} {args : Array Value} {below : List Frame} {meth : Method} {c : Code} {T : State} {locs : List Loc} {cells slots : Nat} (X : Stand p l e R s m args below meth c T locs cells slots) (hexec : p.tables.exec = Jvm.exec) {own : String} {index : Nat} {v : UInt32} (hown : s.vm.findClass own = some m.cls)
    (hconst : (Cond.constantFloat own index v).before args s = true) {g : JFrame} (hg : g.method = m) (hdg : decode c.code g.pc = .ok (.ldc_w index, 3)) :
    ∀ target, Steps p.tables e below (T.setTop { g with pc := g.pc + 3, stack := .float v :: g.stack }) target → Steps p.tables e below (T.setTop g) target := by
  obtain ⟨k, cf, hk, hcf, hcp⟩ := Cond.constantFloat_spec hown hconst
  obtain ⟨k', hk', he⟩ := X.warmed.alike.2.2 _ _ hk
  intro target hrest
  subst hg
  jvm_step X.here [hexec, hdg, ldc_w.wp_float (s := T) (f := g) X.here.top hk' (by rw [he]; exact hcf) hcp]
  exact hrest
def zRv (v : Value) : Prop := v = .null ∨ ∃ a, v = .ref a
theorem zRv_rf (o : Option Nat) : zRv (va_rf o) := va_rf_or o
theorem zRv_ref (a : Nat) : zRv (.ref a) := Or.inr ⟨a, rfl⟩
theorem zRv_null : zRv .null := Or.inl rfl
theorem r_iconst {E : ZE} {M : ZMeth} {pc q : Nat} {ls : List (Option Value)} {st : List Value} {w : ZW} {sg : ZM} {d nc ns : Nat} {P : ZPhi} {n : Int} {v : Int32} (hd : decode M.2.1 pc = .ok (.iconst n, 1)) (hv : Int32.ofInt n = v) (hq : pc + 1 = q) (kk : RW E M q ls (.int v :: st) w sg d nc ns P) : RW E M pc ls (st) w sg d nc ns P := by
  intro p e R s m args below meth c H locs cells slots mc ms A h
  subst hq
  exact lv_iconst h.x h.b hd hv (kk.u h)
theorem r_bipush {E : ZE} {M : ZMeth} {pc q : Nat} {ls : List (Option Value)} {st : List Value} {w : ZW} {sg : ZM} {d nc ns : Nat} {P : ZPhi} {n : Int} {v : Int32} (hd : decode M.2.1 pc = .ok (.bipush n, 2)) (hv : (Int8.ofInt n).toInt32 = v) (hq : pc + 2 = q) (kk : RW E M q ls (.int v :: st) w sg d nc ns P) : RW E M pc ls (st) w sg d nc ns P := by
  intro p e R s m args below meth c H locs cells slots mc ms A h
  subst hq
  exact lv_bipush h.x h.b hd hv (kk.u h)
theorem r_sipush {E : ZE} {M : ZMeth} {pc q : Nat} {ls : List (Option Value)} {st : List Value} {w : ZW} {sg : ZM} {d nc ns : Nat} {P : ZPhi} {n : Int} {v : Int32} (hd : decode M.2.1 pc = .ok (.sipush n, 3)) (hv : (Int16.ofInt n).toInt32 = v) (hq : pc + 3 = q) (kk : RW E M q ls (.int v :: st) w sg d nc ns P) : RW E M pc ls (st) w sg d nc ns P := by
  intro p e R s m args below meth c H locs cells slots mc ms A h
  subst hq
  exact lv_sipush h.x h.b hd hv (kk.u h)
theorem r_lconst {E : ZE} {M : ZMeth} {pc q : Nat} {ls : List (Option Value)} {st : List Value} {w : ZW} {sg : ZM} {d nc ns : Nat} {P : ZPhi} {n : Fin 2} {v : Int64} (hd : decode M.2.1 pc = .ok (.lconst n, 1)) (hv : Int64.ofNat (n : Nat) = v) (hq : pc + 1 = q) (kk : RW E M q ls (.long v :: st) w sg d nc ns P) : RW E M pc ls (st) w sg d nc ns P := by
  intro p e R s m args below meth c H locs cells slots mc ms A h
  subst hq
  exact lv_lconst h.x h.b hd hv (kk.u h)
theorem r_aconst_null {E : ZE} {M : ZMeth} {pc q : Nat} {ls : List (Option Value)} {st : List Value} {w : ZW} {sg : ZM} {d nc ns : Nat} {P : ZPhi}  (hd : decode M.2.1 pc = .ok (.aconst_null, 1))  (hq : pc + 1 = q) (kk : RW E M q ls (.null :: st) w sg d nc ns P) : RW E M pc ls (st) w sg d nc ns P := by
  intro p e R s m args below meth c H locs cells slots mc ms A h
  subst hq
  exact lv_null h.x h.b hd (kk.u h)
theorem r_fconst0 {E : ZE} {M : ZMeth} {pc q : Nat} {ls : List (Option Value)} {st : List Value} {w : ZW} {sg : ZM} {d nc ns : Nat} {P : ZPhi}  (hd : decode M.2.1 pc = .ok (.fconst 0, 1))  (hq : pc + 1 = q) (kk : RW E M q ls (.float FP.fconst0 :: st) w sg d nc ns P) : RW E M pc ls (st) w sg d nc ns P := by
  intro p e R s m args below meth c H locs cells slots mc ms A h
  subst hq
  exact lv_fconst0 h.x h.b hd (kk.u h)
theorem r_iload {E : ZE} {M : ZMeth} {pc q : Nat} {ls : List (Option Value)} {st : List Value} {w : ZW} {sg : ZM} {d nc ns : Nat} {P : ZPhi} {i : Nat} {x : Int32} (hd : decode M.2.1 pc = .ok (.iload i, 2)) (hl : ls[i]? = some (some (.int x))) (hq : pc + 2 = q) (kk : RW E M q ls (.int x :: st) w sg d nc ns P) : RW E M pc ls (st) w sg d nc ns P := by
  intro p e R s m args below meth c H locs cells slots mc ms A h
  subst hq
  exact lv_iload h.x h.b hd (h.at hl) (kk.u h)
theorem r_iload_n {E : ZE} {M : ZMeth} {pc q : Nat} {ls : List (Option Value)} {st : List Value} {w : ZW} {sg : ZM} {d nc ns : Nat} {P : ZPhi} {k : Fin 4} {x : Int32} (hd : decode M.2.1 pc = .ok (.iload_n k, 1)) (hl : ls[(k : Nat)]? = some (some (.int x))) (hq : pc + 1 = q) (kk : RW E M q ls (.int x :: st) w sg d nc ns P) : RW E M pc ls (st) w sg d nc ns P := by
  intro p e R s m args below meth c H locs cells slots mc ms A h
  subst hq
  exact lv_iload_n h.x h.b hd rfl (h.at hl) (kk.u h)
theorem r_fload {E : ZE} {M : ZMeth} {pc q : Nat} {ls : List (Option Value)} {st : List Value} {w : ZW} {sg : ZM} {d nc ns : Nat} {P : ZPhi} {i : Nat} {x : UInt32} (hd : decode M.2.1 pc = .ok (.fload i, 2)) (hl : ls[i]? = some (some (.float x))) (hq : pc + 2 = q) (kk : RW E M q ls (.float x :: st) w sg d nc ns P) : RW E M pc ls (st) w sg d nc ns P := by
  intro p e R s m args below meth c H locs cells slots mc ms A h
  subst hq
  exact lv_fload h.x h.b hd (h.at hl) (kk.u h)
theorem r_fload_n {E : ZE} {M : ZMeth} {pc q : Nat} {ls : List (Option Value)} {st : List Value} {w : ZW} {sg : ZM} {d nc ns : Nat} {P : ZPhi} {k : Fin 4} {x : UInt32} (hd : decode M.2.1 pc = .ok (.fload_n k, 1)) (hl : ls[(k : Nat)]? = some (some (.float x))) (hq : pc + 1 = q) (kk : RW E M q ls (.float x :: st) w sg d nc ns P) : RW E M pc ls (st) w sg d nc ns P := by
  intro p e R s m args below meth c H locs cells slots mc ms A h
  subst hq
  exact lv_fload_n h.x h.b hd rfl (h.at hl) (kk.u h)
theorem r_aload {E : ZE} {M : ZMeth} {pc q : Nat} {ls : List (Option Value)} {st : List Value} {w : ZW} {sg : ZM} {d nc ns : Nat} {P : ZPhi} {i : Nat} {v : Value} (hd : decode M.2.1 pc = .ok (.aload i, 2)) (hl : ls[i]? = some (some v)) (hv : zRv v) (hq : pc + 2 = q) (kk : RW E M q ls (v :: st) w sg d nc ns P) : RW E M pc ls st w sg d nc ns P := by
  intro p e R s m args below meth c H locs cells slots mc ms A h
  subst hq
  rcases hv with rfl | ⟨a, rfl⟩
  · exact lv_aloadN h.x h.b hd (h.at hl) (kk.u h)
  · exact lv_aload h.x h.b hd (h.at hl) (kk.u h)
theorem r_aload_n {E : ZE} {M : ZMeth} {pc q : Nat} {ls : List (Option Value)} {st : List Value} {w : ZW} {sg : ZM} {d nc ns : Nat} {P : ZPhi} {k : Fin 4} {v : Value} (hd : decode M.2.1 pc = .ok (.aload_n k, 1)) (hl : ls[(k : Nat)]? = some (some v)) (hv : zRv v) (hq : pc + 1 = q) (kk : RW E M q ls (v :: st) w sg d nc ns P) : RW E M pc ls st w sg d nc ns P := by
  intro p e R s m args below meth c H locs cells slots mc ms A h
  subst hq
  rcases hv with rfl | ⟨a, rfl⟩
  · exact lv_aload_nN h.x h.b hd rfl (h.at hl) (kk.u h)
  · exact lv_aload_n h.x h.b hd rfl (h.at hl) (kk.u h)
theorem r_istore {E : ZE} {M : ZMeth} {pc q : Nat} {ls ls' : List (Option Value)} {st : List Value} {w : ZW} {sg : ZM} {d nc ns : Nat} {P : ZPhi} {i : Nat} {x : Int32} (hd : decode M.2.1 pc = .ok (.istore i, 2)) (hi : i < M.2.2.1) (hs : ls.set i (some (.int x)) = ls') (hq : pc + 2 = q) (kk : RW E M q ls' st w sg d nc ns P) : RW E M pc ls (.int x :: st) w sg d nc ns P := by
  intro p e R s m args below meth c H locs cells slots mc ms A h
  subst hq
  subst hs
  obtain ⟨A', e', hL⟩ := h.L.set hi (v := .int x) rfl
  intro T hT X
  obtain ⟨t, a, b⟩ := kk.u (h.lf hL) T hT X
  refine ⟨t, ?_, b⟩
  jvm_step X.here [X.here.top, ↓top_set X.here.top, h.x, h.b, hd, e']
  exact a
theorem r_istore_n {E : ZE} {M : ZMeth} {pc q : Nat} {ls ls' : List (Option Value)} {st : List Value} {w : ZW} {sg : ZM} {d nc ns : Nat} {P : ZPhi} {k : Fin 4} {x : Int32} (hd : decode M.2.1 pc = .ok (.istore_n k, 1)) (hi : (k : Nat) < M.2.2.1) (hs : ls.set (k : Nat) (some (.int x)) = ls') (hq : pc + 1 = q) (kk : RW E M q ls' st w sg d nc ns P) : RW E M pc ls (.int x :: st) w sg d nc ns P := by
  intro p e R s m args below meth c H locs cells slots mc ms A h
  subst hq
  subst hs
  obtain ⟨A', e', hL⟩ := h.L.set hi (v := .int x) rfl
  intro T hT X
  obtain ⟨t, a, b⟩ := kk.u (h.lf hL) T hT X
  refine ⟨t, ?_, b⟩
  jvm_step X.here [X.here.top, ↓top_set X.here.top, h.x, h.b, hd, e']
  exact a
theorem r_fstore {E : ZE} {M : ZMeth} {pc q : Nat} {ls ls' : List (Option Value)} {st : List Value} {w : ZW} {sg : ZM} {d nc ns : Nat} {P : ZPhi} {i : Nat} {x : UInt32} (hd : decode M.2.1 pc = .ok (.fstore i, 2)) (hi : i < M.2.2.1) (hs : ls.set i (some (.float x)) = ls') (hq : pc + 2 = q) (kk : RW E M q ls' st w sg d nc ns P) : RW E M pc ls (.float x :: st) w sg d nc ns P := by
  intro p e R s m args below meth c H locs cells slots mc ms A h
  subst hq
  subst hs
  obtain ⟨A', e', hL⟩ := h.L.set hi (v := .float x) rfl
  intro T hT X
  obtain ⟨t, a, b⟩ := kk.u (h.lf hL) T hT X
  refine ⟨t, ?_, b⟩
  jvm_step X.here [X.here.top, ↓top_set X.here.top, h.x, h.b, hd, e']
  exact a
theorem r_fstore_n {E : ZE} {M : ZMeth} {pc q : Nat} {ls ls' : List (Option Value)} {st : List Value} {w : ZW} {sg : ZM} {d nc ns : Nat} {P : ZPhi} {k : Fin 4} {x : UInt32} (hd : decode M.2.1 pc = .ok (.fstore_n k, 1)) (hi : (k : Nat) < M.2.2.1) (hs : ls.set (k : Nat) (some (.float x)) = ls') (hq : pc + 1 = q) (kk : RW E M q ls' st w sg d nc ns P) : RW E M pc ls (.float x :: st) w sg d nc ns P := by
  intro p e R s m args below meth c H locs cells slots mc ms A h
  subst hq
  subst hs
  obtain ⟨A', e', hL⟩ := h.L.set hi (v := .float x) rfl
  intro T hT X
  obtain ⟨t, a, b⟩ := kk.u (h.lf hL) T hT X
  refine ⟨t, ?_, b⟩
  jvm_step X.here [X.here.top, ↓top_set X.here.top, h.x, h.b, hd, e']
  exact a
theorem r_astore {E : ZE} {M : ZMeth} {pc q : Nat} {ls ls' : List (Option Value)} {st : List Value} {w : ZW} {sg : ZM} {d nc ns : Nat} {P : ZPhi} {i : Nat} {v : Value} (hd : decode M.2.1 pc = .ok (.astore i, 2)) (hi : i < M.2.2.1) (hv : zRv v) (hs : ls.set i (some v) = ls') (hq : pc + 2 = q) (kk : RW E M q ls' st w sg d nc ns P) : RW E M pc ls (v :: st) w sg d nc ns P := by
  intro p e R s m args below meth c H locs cells slots mc ms A h
  subst hq
  subst hs
  rcases hv with rfl | ⟨a, rfl⟩
  · obtain ⟨A', e', hL⟩ := h.L.set hi (v := .null) rfl
    intro T hT X
    obtain ⟨t, a, b⟩ := kk.u (h.lf hL) T hT X
    refine ⟨t, ?_, b⟩
    jvm_step X.here [X.here.top, ↓top_set X.here.top, h.x, h.b, hd, e', Value.isRef]
    exact a
  · obtain ⟨A', e', hL⟩ := h.L.set hi (v := .ref a) rfl
    intro T hT X
    obtain ⟨t, a9, b9⟩ := kk.u (h.lf hL) T hT X
    refine ⟨t, ?_, b9⟩
    jvm_step X.here [X.here.top, ↓top_set X.here.top, h.x, h.b, hd, e', Value.isRef]
    exact a9
theorem r_astore_n {E : ZE} {M : ZMeth} {pc q : Nat} {ls ls' : List (Option Value)} {st : List Value} {w : ZW} {sg : ZM} {d nc ns : Nat} {P : ZPhi} {k : Fin 4} {v : Value} (hd : decode M.2.1 pc = .ok (.astore_n k, 1)) (hi : (k : Nat) < M.2.2.1) (hv : zRv v) (hs : ls.set (k : Nat) (some v) = ls') (hq : pc + 1 = q) (kk : RW E M q ls' st w sg d nc ns P) : RW E M pc ls (v :: st) w sg d nc ns P := by
  intro p e R s m args below meth c H locs cells slots mc ms A h
  subst hq
  subst hs
  rcases hv with rfl | ⟨a, rfl⟩
  · obtain ⟨A', e', hL⟩ := h.L.set hi (v := .null) rfl
    intro T hT X
    obtain ⟨t, a, b⟩ := kk.u (h.lf hL) T hT X
    refine ⟨t, ?_, b⟩
    jvm_step X.here [X.here.top, ↓top_set X.here.top, h.x, h.b, hd, e', Value.isRef]
    exact a
  · obtain ⟨A', e', hL⟩ := h.L.set hi (v := .ref a) rfl
    intro T hT X
    obtain ⟨t, a9, b9⟩ := kk.u (h.lf hL) T hT X
    refine ⟨t, ?_, b9⟩
    jvm_step X.here [X.here.top, ↓top_set X.here.top, h.x, h.b, hd, e', Value.isRef]
    exact a9
theorem r_iinc {E : ZE} {M : ZMeth} {pc q : Nat} {ls ls' : List (Option Value)} {st : List Value} {w : ZW} {sg : ZM} {d nc ns : Nat} {P : ZPhi} {i : Nat} {n : Int} {x v : Int32} (hd : decode M.2.1 pc = .ok (.iinc i n, 3)) (hi : i < M.2.2.1) (hl : ls[i]? = some (some (.int x))) (hv : x + Int32.ofInt n = v) (hs : ls.set i (some (.int v)) = ls') (hq : pc + 3 = q) (kk : RW E M q ls' st w sg d nc ns P) : RW E M pc ls st w sg d nc ns P := by
  intro p e R s m args below meth c H locs cells slots mc ms A h
  subst hq
  subst hs
  obtain ⟨A', e', hL⟩ := h.L.set hi (v := .int v) rfl
  have hg := h.at hl
  intro T hT X
  obtain ⟨t, a, b⟩ := kk.u (h.lf hL) T hT X
  refine ⟨t, ?_, b⟩
  rw [← hv] at e'
  jvm_step X.here [X.here.top, ↓top_set X.here.top, h.x, h.b, hd, hg, e']
  exact a
theorem r_iadd {E : ZE} {M : ZMeth} {pc q : Nat} {ls : List (Option Value)} {st : List Value} {w : ZW} {sg : ZM} {d nc ns : Nat} {P : ZPhi} {x y : Int32} (hd : decode M.2.1 pc = .ok (.iadd, 1))  (hq : pc + 1 = q) (kk : RW E M q ls (.int (x + y) :: st) w sg d nc ns P) : RW E M pc ls (.int y :: .int x :: st) w sg d nc ns P := by
  intro p e R s m args below meth c H locs cells slots mc ms A h
  subst hq
  exact lv_iadd h.x h.b hd (kk.u h)
theorem r_isub {E : ZE} {M : ZMeth} {pc q : Nat} {ls : List (Option Value)} {st : List Value} {w : ZW} {sg : ZM} {d nc ns : Nat} {P : ZPhi} {x y : Int32} (hd : decode M.2.1 pc = .ok (.isub, 1))  (hq : pc + 1 = q) (kk : RW E M q ls (.int (x - y) :: st) w sg d nc ns P) : RW E M pc ls (.int y :: .int x :: st) w sg d nc ns P := by
  intro p e R s m args below meth c H locs cells slots mc ms A h
  subst hq
  exact lv_isub h.x h.b hd (kk.u h)
theorem r_imul {E : ZE} {M : ZMeth} {pc q : Nat} {ls : List (Option Value)} {st : List Value} {w : ZW} {sg : ZM} {d nc ns : Nat} {P : ZPhi} {x y : Int32} (hd : decode M.2.1 pc = .ok (.imul, 1))  (hq : pc + 1 = q) (kk : RW E M q ls (.int (x * y) :: st) w sg d nc ns P) : RW E M pc ls (.int y :: .int x :: st) w sg d nc ns P := by
  intro p e R s m args below meth c H locs cells slots mc ms A h
  subst hq
  exact lv_imul h.x h.b hd (kk.u h)
theorem r_iand {E : ZE} {M : ZMeth} {pc q : Nat} {ls : List (Option Value)} {st : List Value} {w : ZW} {sg : ZM} {d nc ns : Nat} {P : ZPhi} {x y : Int32} (hd : decode M.2.1 pc = .ok (.iand, 1))  (hq : pc + 1 = q) (kk : RW E M q ls (.int (x &&& y) :: st) w sg d nc ns P) : RW E M pc ls (.int y :: .int x :: st) w sg d nc ns P := by
  intro p e R s m args below meth c H locs cells slots mc ms A h
  subst hq
  exact lv_iand h.x h.b hd (kk.u h)
theorem r_ior {E : ZE} {M : ZMeth} {pc q : Nat} {ls : List (Option Value)} {st : List Value} {w : ZW} {sg : ZM} {d nc ns : Nat} {P : ZPhi} {x y : Int32} (hd : decode M.2.1 pc = .ok (.ior, 1))  (hq : pc + 1 = q) (kk : RW E M q ls (.int (x ||| y) :: st) w sg d nc ns P) : RW E M pc ls (.int y :: .int x :: st) w sg d nc ns P := by
  intro p e R s m args below meth c H locs cells slots mc ms A h
  subst hq
  exact lv_ior h.x h.b hd (kk.u h)
theorem r_ixor {E : ZE} {M : ZMeth} {pc q : Nat} {ls : List (Option Value)} {st : List Value} {w : ZW} {sg : ZM} {d nc ns : Nat} {P : ZPhi} {x y : Int32} (hd : decode M.2.1 pc = .ok (.ixor, 1))  (hq : pc + 1 = q) (kk : RW E M q ls (.int (x ^^^ y) :: st) w sg d nc ns P) : RW E M pc ls (.int y :: .int x :: st) w sg d nc ns P := by
  intro p e R s m args below meth c H locs cells slots mc ms A h
  subst hq
  exact lv_ixor h.x h.b hd (kk.u h)
theorem r_ishl {E : ZE} {M : ZMeth} {pc q : Nat} {ls : List (Option Value)} {st : List Value} {w : ZW} {sg : ZM} {d nc ns : Nat} {P : ZPhi} {x y : Int32} (hd : decode M.2.1 pc = .ok (.ishl, 1))  (hq : pc + 1 = q) (kk : RW E M q ls (.int (x <<< (y &&& 31)) :: st) w sg d nc ns P) : RW E M pc ls (.int y :: .int x :: st) w sg d nc ns P := by
  intro p e R s m args below meth c H locs cells slots mc ms A h
  subst hq
  exact lv_ishl h.x h.b hd (kk.u h)
theorem r_ishr {E : ZE} {M : ZMeth} {pc q : Nat} {ls : List (Option Value)} {st : List Value} {w : ZW} {sg : ZM} {d nc ns : Nat} {P : ZPhi} {x y : Int32} (hd : decode M.2.1 pc = .ok (.ishr, 1))  (hq : pc + 1 = q) (kk : RW E M q ls (.int (x >>> (y &&& 31)) :: st) w sg d nc ns P) : RW E M pc ls (.int y :: .int x :: st) w sg d nc ns P := by
  intro p e R s m args below meth c H locs cells slots mc ms A h
  subst hq
  exact lv_ishr h.x h.b hd (kk.u h)
theorem r_iushr {E : ZE} {M : ZMeth} {pc q : Nat} {ls : List (Option Value)} {st : List Value} {w : ZW} {sg : ZM} {d nc ns : Nat} {P : ZPhi} {x y v : Int32} (hd : decode M.2.1 pc = .ok (.iushr, 1)) (hv : (x.toUInt32 >>> (y.toUInt32 &&& Int32.toUInt32 31)).toInt32 = v) (hq : pc + 1 = q) (kk : RW E M q ls (.int v :: st) w sg d nc ns P) : RW E M pc ls (.int y :: .int x :: st) w sg d nc ns P := by
  intro p e R s m args below meth c H locs cells slots mc ms A h
  subst hq
  exact lv_iushr h.x h.b hd hv (kk.u h)
theorem r_idiv {E : ZE} {M : ZMeth} {pc q : Nat} {ls : List (Option Value)} {st : List Value} {w : ZW} {sg : ZM} {d nc ns : Nat} {P : ZPhi} {x y : Int32} (hd : decode M.2.1 pc = .ok (.idiv, 1)) (hne : ¬ y = 0) (hq : pc + 1 = q) (kk : RW E M q ls (.int (x / y) :: st) w sg d nc ns P) : RW E M pc ls (.int y :: .int x :: st) w sg d nc ns P := by
  intro p e R s m args below meth c H locs cells slots mc ms A h
  subst hq
  exact lv_idiv h.x h.b hd hne (kk.u h)
theorem r_irem {E : ZE} {M : ZMeth} {pc q : Nat} {ls : List (Option Value)} {st : List Value} {w : ZW} {sg : ZM} {d nc ns : Nat} {P : ZPhi} {x y : Int32} (hd : decode M.2.1 pc = .ok (.irem, 1)) (hne : ¬ y = 0) (hq : pc + 1 = q) (kk : RW E M q ls (.int (x - x / y * y) :: st) w sg d nc ns P) : RW E M pc ls (.int y :: .int x :: st) w sg d nc ns P := by
  intro p e R s m args below meth c H locs cells slots mc ms A h
  subst hq
  exact lv_irem h.x h.b hd hne (kk.u h)
theorem r_ineg {E : ZE} {M : ZMeth} {pc q : Nat} {ls : List (Option Value)} {st : List Value} {w : ZW} {sg : ZM} {d nc ns : Nat} {P : ZPhi} {x : Int32} (hd : decode M.2.1 pc = .ok (.ineg, 1))  (hq : pc + 1 = q) (kk : RW E M q ls (.int (-x) :: st) w sg d nc ns P) : RW E M pc ls (.int x :: st) w sg d nc ns P := by
  intro p e R s m args below meth c H locs cells slots mc ms A h
  subst hq
  exact lv_ineg h.x h.b hd (kk.u h)
theorem r_i2c {E : ZE} {M : ZMeth} {pc q : Nat} {ls : List (Option Value)} {st : List Value} {w : ZW} {sg : ZM} {d nc ns : Nat} {P : ZPhi} {x v : Int32} (hd : decode M.2.1 pc = .ok (.i2c, 1)) (hv : (x.toUInt32 % 65536).toInt32 = v) (hq : pc + 1 = q) (kk : RW E M q ls (.int v :: st) w sg d nc ns P) : RW E M pc ls (.int x :: st) w sg d nc ns P := by
  intro p e R s m args below meth c H locs cells slots mc ms A h
  subst hq
  exact lv_i2c h.x h.b hd hv (kk.u h)
theorem r_i2l {E : ZE} {M : ZMeth} {pc q : Nat} {ls : List (Option Value)} {st : List Value} {w : ZW} {sg : ZM} {d nc ns : Nat} {P : ZPhi} {x : Int32} {v : Int64} (hd : decode M.2.1 pc = .ok (.i2l, 1)) (hv : x.toInt64 = v) (hq : pc + 1 = q) (kk : RW E M q ls (.long v :: st) w sg d nc ns P) : RW E M pc ls (.int x :: st) w sg d nc ns P := by
  intro p e R s m args below meth c H locs cells slots mc ms A h
  subst hq
  exact lv_i2l h.x h.b hd hv (kk.u h)
theorem r_i2f {E : ZE} {M : ZMeth} {pc q : Nat} {ls : List (Option Value)} {st : List Value} {w : ZW} {sg : ZM} {d nc ns : Nat} {P : ZPhi} {x : Int32} (hd : decode M.2.1 pc = .ok (.i2f, 1))  (hq : pc + 1 = q) (kk : RW E M q ls (.float (FP.i2f x) :: st) w sg d nc ns P) : RW E M pc ls (.int x :: st) w sg d nc ns P := by
  intro p e R s m args below meth c H locs cells slots mc ms A h
  subst hq
  exact lv_i2f h.x h.b hd (kk.u h)
theorem r_fadd {E : ZE} {M : ZMeth} {pc q : Nat} {ls : List (Option Value)} {st : List Value} {w : ZW} {sg : ZM} {d nc ns : Nat} {P : ZPhi} {x y : UInt32} (hd : decode M.2.1 pc = .ok (.fadd, 1)) (hne : vf_n32 (FP.fadd x y)) (hq : pc + 1 = q) (kk : RW E M q ls (.float (FP.fadd x y) :: st) w sg d nc ns P) : RW E M pc ls (.float y :: .float x :: st) w sg d nc ns P := by
  intro p e R s m args below meth c H locs cells slots mc ms A h
  subst hq
  exact lv_fadd h.x h.b hd hne (kk.u h)
theorem r_fsub {E : ZE} {M : ZMeth} {pc q : Nat} {ls : List (Option Value)} {st : List Value} {w : ZW} {sg : ZM} {d nc ns : Nat} {P : ZPhi} {x y : UInt32} (hd : decode M.2.1 pc = .ok (.fsub, 1)) (hne : vf_n32 (FP.fsub x y)) (hq : pc + 1 = q) (kk : RW E M q ls (.float (FP.fsub x y) :: st) w sg d nc ns P) : RW E M pc ls (.float y :: .float x :: st) w sg d nc ns P := by
  intro p e R s m args below meth c H locs cells slots mc ms A h
  subst hq
  exact lv_fsub h.x h.b hd hne (kk.u h)
theorem r_fmul {E : ZE} {M : ZMeth} {pc q : Nat} {ls : List (Option Value)} {st : List Value} {w : ZW} {sg : ZM} {d nc ns : Nat} {P : ZPhi} {x y : UInt32} (hd : decode M.2.1 pc = .ok (.fmul, 1)) (hne : vf_n32 (FP.fmul x y)) (hq : pc + 1 = q) (kk : RW E M q ls (.float (FP.fmul x y) :: st) w sg d nc ns P) : RW E M pc ls (.float y :: .float x :: st) w sg d nc ns P := by
  intro p e R s m args below meth c H locs cells slots mc ms A h
  subst hq
  exact lv_fmul h.x h.b hd hne (kk.u h)
theorem r_fdiv {E : ZE} {M : ZMeth} {pc q : Nat} {ls : List (Option Value)} {st : List Value} {w : ZW} {sg : ZM} {d nc ns : Nat} {P : ZPhi} {x y : UInt32} (hd : decode M.2.1 pc = .ok (.fdiv, 1)) (hne : vf_n32 (FP.fdiv x y)) (hq : pc + 1 = q) (kk : RW E M q ls (.float (FP.fdiv x y) :: st) w sg d nc ns P) : RW E M pc ls (.float y :: .float x :: st) w sg d nc ns P := by
  intro p e R s m args below meth c H locs cells slots mc ms A h
  subst hq
  exact lv_fdiv h.x h.b hd hne (kk.u h)
theorem r_fneg {E : ZE} {M : ZMeth} {pc q : Nat} {ls : List (Option Value)} {st : List Value} {w : ZW} {sg : ZM} {d nc ns : Nat} {P : ZPhi} {x : UInt32} (hd : decode M.2.1 pc = .ok (.fneg, 1))  (hq : pc + 1 = q) (kk : RW E M q ls (.float (FP.fneg x) :: st) w sg d nc ns P) : RW E M pc ls (.float x :: st) w sg d nc ns P := by
  intro p e R s m args below meth c H locs cells slots mc ms A h
  subst hq
  exact lv_fneg h.x h.b hd (kk.u h)
theorem r_f2d {E : ZE} {M : ZMeth} {pc q : Nat} {ls : List (Option Value)} {st : List Value} {w : ZW} {sg : ZM} {d nc ns : Nat} {P : ZPhi} {x : UInt32} (hd : decode M.2.1 pc = .ok (.f2d, 1)) (hne : vf_n64 (FP.f2d x)) (hq : pc + 1 = q) (kk : RW E M q ls (.double (FP.f2d x) :: st) w sg d nc ns P) : RW E M pc ls (.float x :: st) w sg d nc ns P := by
  intro p e R s m args below meth c H locs cells slots mc ms A h
  subst hq
  exact lv_f2d h.x h.b hd hne (kk.u h)
theorem r_fcmp {E : ZE} {M : ZMeth} {pc q : Nat} {ls : List (Option Value)} {st : List Value} {w : ZW} {sg : ZM} {d nc ns : Nat} {P : ZPhi} {x y : UInt32} {op : CmpOp} (hd : decode M.2.1 pc = .ok (.fcmp op, 1))  (hq : pc + 1 = q) (kk : RW E M q ls (.int (Op.cmpValue (FP.fcmp x y) op) :: st) w sg d nc ns P) : RW E M pc ls (.float y :: .float x :: st) w sg d nc ns P := by
  intro p e R s m args below meth c H locs cells slots mc ms A h
  subst hq
  exact lv_fcmp h.x h.b hd (kk.u h)
theorem r_dcmp {E : ZE} {M : ZMeth} {pc q : Nat} {ls : List (Option Value)} {st : List Value} {w : ZW} {sg : ZM} {d nc ns : Nat} {P : ZPhi} {x y : UInt64} {op : CmpOp} (hd : decode M.2.1 pc = .ok (.dcmp op, 1))  (hq : pc + 1 = q) (kk : RW E M q ls (.int (Op.cmpValue (FP.dcmp x y) op) :: st) w sg d nc ns P) : RW E M pc ls (.double y :: .double x :: st) w sg d nc ns P := by
  intro p e R s m args below meth c H locs cells slots mc ms A h
  subst hq
  exact lv_dcmp h.x h.b hd (kk.u h)
theorem r_lcmp {E : ZE} {M : ZMeth} {pc q : Nat} {ls : List (Option Value)} {st : List Value} {w : ZW} {sg : ZM} {d nc ns : Nat} {P : ZPhi} {x y : Int64} (hd : decode M.2.1 pc = .ok (.lcmp, 1))  (hq : pc + 1 = q) (kk : RW E M q ls (.int (lg_cmp x y) :: st) w sg d nc ns P) : RW E M pc ls (.long y :: .long x :: st) w sg d nc ns P := by
  intro p e R s m args below meth c H locs cells slots mc ms A h
  subst hq
  exact W.lcmp h.x h.b hd (kk.u h)
theorem r_dup {E : ZE} {M : ZMeth} {pc q : Nat} {ls : List (Option Value)} {st : List Value} {w : ZW} {sg : ZM} {d nc ns : Nat} {P : ZPhi} {v : Value} (hd : decode M.2.1 pc = .ok (.dup, 1)) (hv : v.category = 1) (hq : pc + 1 = q) (kk : RW E M q ls (v :: v :: st) w sg d nc ns P) : RW E M pc ls (v :: st) w sg d nc ns P := by
  intro p e R s m args below meth c H locs cells slots mc ms A h
  subst hq
  exact lv_dup h.x h.b hd hv (kk.u h)
theorem r_pop {E : ZE} {M : ZMeth} {pc q : Nat} {ls : List (Option Value)} {st : List Value} {w : ZW} {sg : ZM} {d nc ns : Nat} {P : ZPhi} {v : Value} (hd : decode M.2.1 pc = .ok (.pop, 1)) (hv : v.category = 1) (hq : pc + 1 = q) (kk : RW E M q ls (st) w sg d nc ns P) : RW E M pc ls (v :: st) w sg d nc ns P := by
  intro p e R s m args below meth c H locs cells slots mc ms A h
  subst hq
  exact lv_pop h.x h.b hd hv (kk.u h)
theorem r_dup2 {E : ZE} {M : ZMeth} {pc q : Nat} {ls : List (Option Value)} {st : List Value} {w : ZW} {sg : ZM} {d nc ns : Nat} {P : ZPhi} {u v : Value} (hd : decode M.2.1 pc = .ok (.dup2, 1)) (hu : u.category = 1) (hv : v.category = 1) (hq : pc + 1 = q) (kk : RW E M q ls (u :: v :: u :: v :: st) w sg d nc ns P) : RW E M pc ls (u :: v :: st) w sg d nc ns P := by
  intro p e R s m args below meth c H locs cells slots mc ms A h
  subst hq
  exact lv_dup2_11 h.x h.b hd hu hv (kk.u h)
theorem r_ldcf {E : ZE} {M : ZMeth} {pc q : Nat} {ls : List (Option Value)} {st : List Value} {w : ZW} {sg : ZM} {d nc ns : Nat} {P : ZPhi} {i : Nat} {v : UInt32} (hd : decode M.2.1 pc = .ok (.ldc i, 2)) (hc : Cond.constantFloat M.1.cls i v ∈ zWs) (hq : pc + 2 = q) (kk : RW E M q ls (.float v :: st) w sg d nc ns P) : RW E M pc ls (st) w sg d nc ns P := by
  intro p e R s m args below meth c H locs cells slots mc ms A h
  subst hq
  exact lv_ldcf h.x h.b h.own (h.ts _ hc) hd (kk.u h)
theorem r_ldci {E : ZE} {M : ZMeth} {pc q : Nat} {ls : List (Option Value)} {st : List Value} {w : ZW} {sg : ZM} {d nc ns : Nat} {P : ZPhi} {i : Nat} {v : Int32} (hd : decode M.2.1 pc = .ok (.ldc i, 2)) (hc : Cond.constant M.1.cls i v ∈ zWs) (hq : pc + 2 = q) (kk : RW E M q ls (.int v :: st) w sg d nc ns P) : RW E M pc ls (st) w sg d nc ns P := by
  intro p e R s m args below meth c H locs cells slots mc ms A h
  subst hq
  exact lv_ldc h.x h.b h.own (h.ts _ hc) hd (kk.u h)
theorem r_ldcwi {E : ZE} {M : ZMeth} {pc q : Nat} {ls : List (Option Value)} {st : List Value} {w : ZW} {sg : ZM} {d nc ns : Nat} {P : ZPhi} {i : Nat} {v : Int32} (hd : decode M.2.1 pc = .ok (.ldc_w i, 3)) (hc : Cond.constant M.1.cls i v ∈ zWs) (hq : pc + 3 = q) (kk : RW E M q ls (.int v :: st) w sg d nc ns P) : RW E M pc ls (st) w sg d nc ns P := by
  intro p e R s m args below meth c H locs cells slots mc ms A h
  subst hq
  exact lv_ldcw h.x h.b h.own (h.ts _ hc) hd (kk.u h)
theorem r_ldcwf {E : ZE} {M : ZMeth} {pc q : Nat} {ls : List (Option Value)} {st : List Value} {w : ZW} {sg : ZM} {d nc ns : Nat} {P : ZPhi} {i : Nat} {v : UInt32} (hd : decode M.2.1 pc = .ok (.ldc_w i, 3)) (hc : Cond.constantFloat M.1.cls i v ∈ zWs) (hq : pc + 3 = q) (kk : RW E M q ls (.float v :: st) w sg d nc ns P) : RW E M pc ls st w sg d nc ns P := by
  intro p e R s m args below meth c H locs cells slots mc ms A h
  subst hq
  intro T hT X
  obtain ⟨t, a, b⟩ := kk.u h T hT X
  exact ⟨t, zldcwf X h.x h.own (h.ts _ hc) rfl (by rw [h.b]; exact hd) t a, b⟩
theorem r_if_eq {E : ZE} {M : ZMeth} {pc q r : Nat} {ls : List (Option Value)} {st : List Value} {w : ZW} {sg : ZM} {d nc ns : Nat} {P : ZPhi} {x : Int32} {off : Int} (hd : decode M.2.1 pc = .ok (.ifCond .eq off, 3)) (hr : (pc : Int) + off = (r : Int)) (hq : pc + 3 = q) (kt : (x = 0) → RW E M r ls st w sg d nc ns P) (kf : ¬ (x = 0) → RW E M q ls st w sg d nc ns P) : RW E M pc ls (.int x :: st) w sg d nc ns P := by
  intro p e R s m args below meth c H locs cells slots mc ms A h
  subst hq
  exact lv_if_eq h.x h.b hd hr (fun c => (kt c).u h) (fun c => (kf c).u h)
theorem r_if_ne {E : ZE} {M : ZMeth} {pc q r : Nat} {ls : List (Option Value)} {st : List Value} {w : ZW} {sg : ZM} {d nc ns : Nat} {P : ZPhi} {x : Int32} {off : Int} (hd : decode M.2.1 pc = .ok (.ifCond .ne off, 3)) (hr : (pc : Int) + off = (r : Int)) (hq : pc + 3 = q) (kt : (¬ x = 0) → RW E M r ls st w sg d nc ns P) (kf : x = 0 → RW E M q ls st w sg d nc ns P) : RW E M pc ls (.int x :: st) w sg d nc ns P := by
  intro p e R s m args below meth c H locs cells slots mc ms A h
  subst hq
  exact lv_if_ne h.x h.b hd hr (fun c => (kt c).u h) (fun c => (kf c).u h)
theorem r_if_lt {E : ZE} {M : ZMeth} {pc q r : Nat} {ls : List (Option Value)} {st : List Value} {w : ZW} {sg : ZM} {d nc ns : Nat} {P : ZPhi} {x : Int32} {off : Int} (hd : decode M.2.1 pc = .ok (.ifCond .lt off, 3)) (hr : (pc : Int) + off = (r : Int)) (hq : pc + 3 = q) (kt : (x < 0) → RW E M r ls st w sg d nc ns P) (kf : ¬ (x < 0) → RW E M q ls st w sg d nc ns P) : RW E M pc ls (.int x :: st) w sg d nc ns P := by
  intro p e R s m args below meth c H locs cells slots mc ms A h
  subst hq
  exact lv_if_lt h.x h.b hd hr (fun c => (kt c).u h) (fun c => (kf c).u h)
theorem r_if_ge {E : ZE} {M : ZMeth} {pc q r : Nat} {ls : List (Option Value)} {st : List Value} {w : ZW} {sg : ZM} {d nc ns : Nat} {P : ZPhi} {x : Int32} {off : Int} (hd : decode M.2.1 pc = .ok (.ifCond .ge off, 3)) (hr : (pc : Int) + off = (r : Int)) (hq : pc + 3 = q) (kt : (0 ≤ x) → RW E M r ls st w sg d nc ns P) (kf : ¬ (0 ≤ x) → RW E M q ls st w sg d nc ns P) : RW E M pc ls (.int x :: st) w sg d nc ns P := by
  intro p e R s m args below meth c H locs cells slots mc ms A h
  subst hq
  exact lv_if_ge h.x h.b hd hr (fun c => (kt c).u h) (fun c => (kf c).u h)
theorem r_if_gt {E : ZE} {M : ZMeth} {pc q r : Nat} {ls : List (Option Value)} {st : List Value} {w : ZW} {sg : ZM} {d nc ns : Nat} {P : ZPhi} {x : Int32} {off : Int} (hd : decode M.2.1 pc = .ok (.ifCond .gt off, 3)) (hr : (pc : Int) + off = (r : Int)) (hq : pc + 3 = q) (kt : (0 < x) → RW E M r ls st w sg d nc ns P) (kf : ¬ (0 < x) → RW E M q ls st w sg d nc ns P) : RW E M pc ls (.int x :: st) w sg d nc ns P := by
  intro p e R s m args below meth c H locs cells slots mc ms A h
  subst hq
  exact lv_if_gt h.x h.b hd hr (fun c => (kt c).u h) (fun c => (kf c).u h)
theorem r_if_le {E : ZE} {M : ZMeth} {pc q r : Nat} {ls : List (Option Value)} {st : List Value} {w : ZW} {sg : ZM} {d nc ns : Nat} {P : ZPhi} {x : Int32} {off : Int} (hd : decode M.2.1 pc = .ok (.ifCond .le off, 3)) (hr : (pc : Int) + off = (r : Int)) (hq : pc + 3 = q) (kt : (x ≤ 0) → RW E M r ls st w sg d nc ns P) (kf : ¬ (x ≤ 0) → RW E M q ls st w sg d nc ns P) : RW E M pc ls (.int x :: st) w sg d nc ns P := by
  intro p e R s m args below meth c H locs cells slots mc ms A h
  subst hq
  exact lv_if_le h.x h.b hd hr (fun c => (kt c).u h) (fun c => (kf c).u h)
theorem r_icmp_eq {E : ZE} {M : ZMeth} {pc q r : Nat} {ls : List (Option Value)} {st : List Value} {w : ZW} {sg : ZM} {d nc ns : Nat} {P : ZPhi} {x y : Int32} {off : Int} (hd : decode M.2.1 pc = .ok (.if_icmp .eq off, 3)) (hr : (pc : Int) + off = (r : Int)) (hq : pc + 3 = q) (kt : (x = y) → RW E M r ls st w sg d nc ns P) (kf : ¬ (x = y) → RW E M q ls st w sg d nc ns P) : RW E M pc ls (.int y :: .int x :: st) w sg d nc ns P := by
  intro p e R s m args below meth c H locs cells slots mc ms A h
  subst hq
  exact lv_icmp_eq h.x h.b hd hr (fun c => (kt c).u h) (fun c => (kf c).u h)
theorem r_icmp_ne {E : ZE} {M : ZMeth} {pc q r : Nat} {ls : List (Option Value)} {st : List Value} {w : ZW} {sg : ZM} {d nc ns : Nat} {P : ZPhi} {x y : Int32} {off : Int} (hd : decode M.2.1 pc = .ok (.if_icmp .ne off, 3)) (hr : (pc : Int) + off = (r : Int)) (hq : pc + 3 = q) (kt : (¬ x = y) → RW E M r ls st w sg d nc ns P) (kf : x = y → RW E M q ls st w sg d nc ns P) : RW E M pc ls (.int y :: .int x :: st) w sg d nc ns P := by
  intro p e R s m args below meth c H locs cells slots mc ms A h
  subst hq
  exact lv_icmp_ne h.x h.b hd hr (fun c => (kt c).u h) (fun c => (kf c).u h)
theorem r_icmp_lt {E : ZE} {M : ZMeth} {pc q r : Nat} {ls : List (Option Value)} {st : List Value} {w : ZW} {sg : ZM} {d nc ns : Nat} {P : ZPhi} {x y : Int32} {off : Int} (hd : decode M.2.1 pc = .ok (.if_icmp .lt off, 3)) (hr : (pc : Int) + off = (r : Int)) (hq : pc + 3 = q) (kt : (x < y) → RW E M r ls st w sg d nc ns P) (kf : ¬ (x < y) → RW E M q ls st w sg d nc ns P) : RW E M pc ls (.int y :: .int x :: st) w sg d nc ns P := by
  intro p e R s m args below meth c H locs cells slots mc ms A h
  subst hq
  exact lv_icmp_lt h.x h.b hd hr (fun c => (kt c).u h) (fun c => (kf c).u h)
theorem r_icmp_ge {E : ZE} {M : ZMeth} {pc q r : Nat} {ls : List (Option Value)} {st : List Value} {w : ZW} {sg : ZM} {d nc ns : Nat} {P : ZPhi} {x y : Int32} {off : Int} (hd : decode M.2.1 pc = .ok (.if_icmp .ge off, 3)) (hr : (pc : Int) + off = (r : Int)) (hq : pc + 3 = q) (kt : (y ≤ x) → RW E M r ls st w sg d nc ns P) (kf : ¬ (y ≤ x) → RW E M q ls st w sg d nc ns P) : RW E M pc ls (.int y :: .int x :: st) w sg d nc ns P := by
  intro p e R s m args below meth c H locs cells slots mc ms A h
  subst hq
  exact lv_icmp_ge h.x h.b hd hr (fun c => (kt c).u h) (fun c => (kf c).u h)
theorem r_icmp_gt {E : ZE} {M : ZMeth} {pc q r : Nat} {ls : List (Option Value)} {st : List Value} {w : ZW} {sg : ZM} {d nc ns : Nat} {P : ZPhi} {x y : Int32} {off : Int} (hd : decode M.2.1 pc = .ok (.if_icmp .gt off, 3)) (hr : (pc : Int) + off = (r : Int)) (hq : pc + 3 = q) (kt : (y < x) → RW E M r ls st w sg d nc ns P) (kf : ¬ (y < x) → RW E M q ls st w sg d nc ns P) : RW E M pc ls (.int y :: .int x :: st) w sg d nc ns P := by
  intro p e R s m args below meth c H locs cells slots mc ms A h
  subst hq
  exact lv_icmp_gt h.x h.b hd hr (fun c => (kt c).u h) (fun c => (kf c).u h)
theorem r_icmp_le {E : ZE} {M : ZMeth} {pc q r : Nat} {ls : List (Option Value)} {st : List Value} {w : ZW} {sg : ZM} {d nc ns : Nat} {P : ZPhi} {x y : Int32} {off : Int} (hd : decode M.2.1 pc = .ok (.if_icmp .le off, 3)) (hr : (pc : Int) + off = (r : Int)) (hq : pc + 3 = q) (kt : (x ≤ y) → RW E M r ls st w sg d nc ns P) (kf : ¬ (x ≤ y) → RW E M q ls st w sg d nc ns P) : RW E M pc ls (.int y :: .int x :: st) w sg d nc ns P := by
  intro p e R s m args below meth c H locs cells slots mc ms A h
  subst hq
  exact lv_icmp_le h.x h.b hd hr (fun c => (kt c).u h) (fun c => (kf c).u h)
theorem r_acmp_eq {E : ZE} {M : ZMeth} {pc q r : Nat} {ls : List (Option Value)} {st : List Value} {w : ZW} {sg : ZM} {d nc ns : Nat} {P : ZPhi} {x y : Option Nat} {off : Int} (hd : decode M.2.1 pc = .ok (.if_acmp .eq off, 3)) (hr : (pc : Int) + off = (r : Int)) (hq : pc + 3 = q) (kt : (x = y) → RW E M r ls st w sg d nc ns P) (kf : ¬ (x = y) → RW E M q ls st w sg d nc ns P) : RW E M pc ls (va_rf y :: va_rf x :: st) w sg d nc ns P := by
  intro p e R s m args below meth c H locs cells slots mc ms A h
  subst hq
  exact lv_acmp_eq h.x h.b hd hr (fun c => (kt c).u h) (fun c => (kf c).u h)
theorem r_ifnull {E : ZE} {M : ZMeth} {pc q r : Nat} {ls : List (Option Value)} {st : List Value} {w : ZW} {sg : ZM} {d nc ns : Nat} {P : ZPhi} {x : Option Nat} {off : Int} (hd : decode M.2.1 pc = .ok (.ifnull off, 3)) (hr : (pc : Int) + off = (r : Int)) (hq : pc + 3 = q) (kn : x = none → RW E M r ls st w sg d nc ns P) (ks : ∀ a, x = some a → RW E M q ls st w sg d nc ns P) : RW E M pc ls (va_rf x :: st) w sg d nc ns P := by
  intro p e R s m args below meth c H locs cells slots mc ms A h
  subst hq
  cases x with
  | none => exact lv_ifnullN h.x h.b hd hr ((kn rfl).u h)
  | some a => exact lv_ifnull h.x h.b hd ((ks a rfl).u h)
theorem r_ifnonnull {E : ZE} {M : ZMeth} {pc q r : Nat} {ls : List (Option Value)} {st : List Value} {w : ZW} {sg : ZM} {d nc ns : Nat} {P : ZPhi} {x : Option Nat} {off : Int} (hd : decode M.2.1 pc = .ok (.ifnonnull off, 3)) (hr : (pc : Int) + off = (r : Int)) (hq : pc + 3 = q) (kn : x = none → RW E M q ls st w sg d nc ns P) (ks : ∀ a, x = some a → RW E M r ls st w sg d nc ns P) : RW E M pc ls (va_rf x :: st) w sg d nc ns P := by
  intro p e R s m args below meth c H locs cells slots mc ms A h
  subst hq
  cases x with
  | none => exact lv_ifnonnullN h.x h.b hd ((kn rfl).u h)
  | some a => exact lv_ifnonnull h.x h.b hd hr ((ks a rfl).u h)
theorem r_goto {E : ZE} {M : ZMeth} {pc r : Nat} {ls : List (Option Value)} {st : List Value} {w : ZW} {sg : ZM} {d nc ns : Nat} {P : ZPhi} {off : Int} (hd : decode M.2.1 pc = .ok (.goto off, 3)) (hr : (pc : Int) + off = (r : Int)) (kk : RW E M r ls st w sg d nc ns P) : RW E M pc ls st w sg d nc ns P := by
  intro p e R s m args below meth c H locs cells slots mc ms A h
  exact lv_goto h.x h.b hd hr (kk.u h)
theorem r_tableIn {E : ZE} {M : ZMeth} {pc r : Nat} {ls : List (Option Value)} {st : List Value} {w : ZW} {sg : ZM} {d nc ns : Nat} {P : ZPhi} {dflt lo hi : Int} {offs : Array Int} {len : Nat} {x : Int32} {off : Int} (hd : decode M.2.1 pc = .ok (.tableswitch dflt lo hi offs, len)) (h1 : ¬ x.toInt < lo) (h2 : ¬ hi < x.toInt) (ho : offs[(x.toInt - lo).toNat]? = some off) (hr : (pc : Int) + off = (r : Int)) (kk : RW E M r ls st w sg d nc ns P) : RW E M pc ls (.int x :: st) w sg d nc ns P := by
  intro p e R s m args below meth c H locs cells slots mc ms A h
  exact lv_tableIn h.x h.b hd h1 h2 ho hr (kk.u h)
theorem r_tableOut {E : ZE} {M : ZMeth} {pc r : Nat} {ls : List (Option Value)} {st : List Value} {w : ZW} {sg : ZM} {d nc ns : Nat} {P : ZPhi} {dflt lo hi : Int} {offs : Array Int} {len : Nat} {x : Int32} (hd : decode M.2.1 pc = .ok (.tableswitch dflt lo hi offs, len)) (h1 : x.toInt < lo ∨ hi < x.toInt) (hr : (pc : Int) + dflt = (r : Int)) (kk : RW E M r ls st w sg d nc ns P) : RW E M pc ls (.int x :: st) w sg d nc ns P := by
  intro p e R s m args below meth c H locs cells slots mc ms A h
  exact lv_tableOut h.x h.b hd h1 hr (kk.u h)
theorem r_lookup {E : ZE} {M : ZMeth} {pc r : Nat} {ls : List (Option Value)} {st : List Value} {w : ZW} {sg : ZM} {d nc ns : Nat} {P : ZPhi} {dflt : Int} {ps : Array (Int × Int)} {len : Nat} {x : Int32} {off : Int} (hd : decode M.2.1 pc = .ok (.lookupswitch dflt ps, len)) (hp : (ps.toList.zip (ps.toList.drop 1)).all (fun (a, next) => a.1 < next.1) = true) (ho : Op.lookupswitch.offset ps.toList dflt x.toInt = off) (hr : (pc : Int) + off = (r : Int)) (kk : RW E M r ls st w sg d nc ns P) : RW E M pc ls (.int x :: st) w sg d nc ns P := by
  intro p e R s m args below meth c H locs cells slots mc ms A h
  exact lv_lookup h.x h.b hd hp ho hr (kk.u h)
