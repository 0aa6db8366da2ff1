/-! ===== making cells; calls; ends ===== -/
theorem zcol_ne {α : Type} {f : Nat → Nat → α} {b y x : Nat} {v : α} (h : y ≠ b) : zcol f b v x y = f x y := if_neg h
theorem zrow_ne {α : Type} {f : Nat → Nat → α} {a x : Nat} {v : α} (h : x ≠ a) : zrow f a v x = f x := by
  funext y
  exact if_neg h
theorem znew_same (w : ZW) (k n b : Nat) (h : b ≠ zsz w) : zsame w (znew w k n) b := by
  refine ⟨fun g => zcol_ne h, fun g => zcol_ne h, fun g => zcol_ne h, if_neg h, zrow_ne h, zrow_ne h, zrow_ne h, zrow_ne h, zrow_ne h⟩
theorem ZAR.push {E : ZE} {w : ZW} {sg : ZM} {H H1 : Heap} {k n : Nat} (hP : ZAR E w sg H) (hz : H1.size = H.size + 1) (oq : ∀ q : Nat, q < H.size → H1[q]? = H[q]?) (hb : E.2.1 ≤ H.size) (hat : zAt E (znew w k n) H1 (zsz w)) : ZAR E (znew w k n) sg H1 := by
  obtain ⟨h1, h2, h3, h4⟩ := hP
  refine ⟨by rw [hz, h1]; rfl, fun b hb' => ?_, fun b => ?_, fun mo hm => ?_⟩
  · rw [zk_znew] at hb'
    rw [zsz_znew]
    by_cases e : b = zsz w
    · subst e; exact ⟨by rw [← h1]; exact hb, Nat.lt_succ_self _⟩
    · rw [if_neg e] at hb'
      exact ⟨(h2 b hb').1, Nat.lt_succ_of_lt (h2 b hb').2⟩
  · by_cases e : b = zsz w
    · subst e; exact hat
    · have hkb : zk (znew w k n) b = zk w b := by rw [zk_znew, if_neg e]
      by_cases h0 : zk w b = 0
      · exact ⟨fun c _ e1 => by omega, fun t _ e1 => by omega⟩
      · exact zAt_kept (h3 b) hkb (znew_same w k n b e) (oq b (by rw [h1]; exact (h2 b h0).2))
  · obtain ⟨g1, g2, g3, g4⟩ := h4 mo hm
    refine ⟨g1, by rw [zsz_znew]; omega, fun b l1 l2 => ?_, zMod_kept g4 (fun q l1 l2 => oq q (by rw [h1]; omega))⟩
    rw [zk_znew, if_neg (by omega)]
    exact g3 b l1 l2
/-- cells that nobody looks at -/
theorem ZAR.skip {E : ZE} {w : ZW} {sg : ZM} {H H1 : Heap} {n : Nat} (hP : ZAR E w sg H) (hz : H1.size = H.size + n) (oq : ∀ q : Nat, q < H.size → H1[q]? = H[q]?) : ZAR E (zskip w n) sg H1 := by
  obtain ⟨h1, h2, h3, h4⟩ := hP
  refine ⟨by rw [hz, h1]; rfl, fun b hb' => ⟨(h2 b hb').1, Nat.lt_of_lt_of_le (h2 b hb').2 (Nat.le_add_right _ _)⟩, fun b => ?_, fun mo hm => ?_⟩
  · by_cases h0 : zk w b = 0
    · exact ⟨fun c _ e1 => by have : zk w b = c + 1 := e1; omega, fun t _ e1 => by have : zk w b = t + 20 := e1; omega⟩
    · exact zAt_kept (h3 b) rfl ⟨fun _ => rfl, fun _ => rfl, fun _ => rfl, rfl, rfl, rfl, rfl, rfl, rfl⟩ (oq b (by rw [h1]; exact (h2 b h0).2))
  · obtain ⟨g1, g2, g3, g4⟩ := h4 mo hm
    exact ⟨g1, Nat.lt_of_lt_of_le g2 (Nat.le_add_right _ _), g3, zMod_kept g4 (fun q l1 l2 => oq q (by rw [h1]; omega))⟩
def zdef (t : Nat) : Value := if t = 0 then .int 0 else if t = 1 then .null else .float 0
theorem zC_def : ∀ c, c < 11 → ∀ k, k < (zC c).2.2 → defaultValue (zFT c k) = zdef (zty c k) := zc11 (by decide +kernel) (by decide +kernel) (by decide +kernel) (by decide +kernel) (by decide +kernel) (by decide +kernel) (by decide +kernel) (by decide +kernel) (by decide +kernel) (by decide +kernel) (by decide +kernel)
theorem znew_V (w : ZW) (k n c j : Nat) : zV (znew w k n) (zsz w) c j = zdef (zty c j) := by
  unfold zV zfv zdef
  rw [zi_znew, zr_znew, zf_znew, if_pos rfl, if_pos rfl, if_pos rfl]
  rfl
theorem zS_push {E : ZE} {H0 H H1 : Heap} {locs : List Loc} (h : va_S (zA E) H0 H locs) (hz : H.size ≤ H1.size) (oq : ∀ q : Nat, q < H.size → H1[q]? = H[q]?) : va_S (zA E) H0 H1 locs :=
  ⟨Nat.le_trans h.1 hz, fun x h1 h2 => (oq x (Nat.lt_of_lt_of_le h1 h.1)).trans (h.2.1 x h1 h2), h.2.2⟩
theorem ZS.base {E : ZE} {M : ZMeth} {ls : List (Option Value)} {w : ZW} {sg : ZM} {d nc ns : Nat} {p : Program} {R : Room} {s : State} {m : MethodId} {args : Array Value} {meth : Method} {c : Code} {H : Heap} {locs : List Loc} {cells slots mc ms : Nat} {A : Array Slot} (h : ZS E M ls w sg d nc ns p R s m args meth c H locs cells slots mc ms A) : E.2.1 ≤ H.size := Nat.le_trans h.X.2.1 h.S.1
/-- a state behind k cells and n slots more -/
theorem ZS.more {E : ZE} {M : ZMeth} {ls : List (Option Value)} {w w' : ZW} {sg sg' : ZM} {d nc nc' ns ns' k n : Nat} {p : Program} {R : Room} {s : State} {m : MethodId} {args : Array Value} {meth : Method} {c : Code} {H H' : Heap} {locs locs' : List Loc} {cells slots mc ms : Nat} {A : Array Slot} (h : ZS E M ls w sg d nc ns p R s m args meth c H locs cells slots mc ms A) (hP : ZAR E w' sg' H') (hS : va_S (zA E) s.heap H' locs') (hc : k + nc' ≤ nc) (hs : n + ns' ≤ ns) : ZS E M ls w' sg' d nc' ns' p R s m args meth c H' locs' (cells + k) (slots + n) mc ms A :=
  ⟨h.1, hP, hS, h.L, by have := h.2.2.2.2.1; omega, by have := h.2.2.2.2.2.1; omega, h.2.2.2.2.2.2⟩
theorem ZS.cells {E : ZE} {M : ZMeth} {ls : List (Option Value)} {w : ZW} {sg : ZM} {d nc ns : Nat} {p : Program} {R : Room} {s : State} {m : MethodId} {args : Array Value} {meth : Method} {c : Code} {H : Heap} {locs : List Loc} {cells slots mc ms : Nat} {A : Array Slot} (h : ZS E M ls w sg d nc ns p R s m args meth c H locs cells slots mc ms A) : cells + nc ≤ R.cells ∧ slots + ns ≤ R.slots := ⟨Nat.le_trans h.2.2.2.2.1 h.2.2.2.2.2.2.1, Nat.le_trans h.2.2.2.2.2.1 h.2.2.2.2.2.2.2.1⟩
/-- less is asked than is there -/
theorem RW.mono {E : ZE} {M : ZMeth} {pc : Nat} {ls ls' : List (Option Value)} {st : List Value} {w : ZW} {sg : ZM} {d d' nc nc' ns ns' : Nat} {P : ZPhi} (kk : RW E M pc ls st w sg d nc ns P) (hd : d ≤ d') (hc : nc ≤ nc') (hs : ns ≤ ns') (hl : ∀ (i : Nat) (v : Value), ls[i]? = some (some v) → ls'[i]? = some (some v)) : RW E M pc ls' st w sg d' nc' ns' P := by
  intro p e R s m args below meth c H locs cells slots mc ms A h
  obtain ⟨a1, a2, a3, a4, a5, a6, a7, a8, a9, a10⟩ := h
  exact kk.u ⟨a1, a2, a3, a4.any hl, by omega, by omega, a7, a8, by omega, by omega⟩
def ZNW (own : String) (idx c : Nat) : Prop := c < 11 ∧ Cond.classLink own idx (zC c).1 ∈ zWs ∧ Cond.instantiable (zC c).1 (zC c).2.2 ∈ zWs ∧ Cond.initialized (zC c).1 ∈ zWs
section ZR3
variable {E : ZE} {M : ZMeth} {pc q : Nat} {ls : List (Option Value)} {st : List Value} {w : ZW} {sg : ZM} {d nc ns nc' ns' : Nat} {P : ZPhi} {idx a : Nat}
theorem r_new (c : Nat) (hn : ZNW M.1.cls idx c) (hc : 1 + nc' ≤ nc) (hs : (zC c).2.2 + ns' ≤ ns) (hd : decode M.2.1 pc = .ok (.new idx, 3)) (hq : pc + 3 = q) (kk : RW E M q ls (.ref (zsz w) :: st) (znew w (c + 1) 0) sg d nc' ns' P) : RW E M pc ls st w sg d nc ns P := by
  intro p e R s m args below meth cd H locs cells slots mc ms A h
  subst hq
  obtain ⟨hc11, hl, hin, hini⟩ := hn
  have hKn := h.K.1 c _ (zC_at c hc11)
  have hsz := h.P.1
  refine W.newcK h.x h.b h.own (h.ts _ hl) (h.ts _ hin) (h.ts _ hini) rfl hd (by have := h.cells; omega) (by have := h.cells; omega) hKn.2.1 hsz fun H1 kC hkC e1 z1 o1 => ?_
  refine kk.u (h.more (h.P.push (by rw [z1, hsz]) (by rw [hsz]; exact o1) h.base ⟨fun c' hc' e' => ?_, fun t ht e' => ?_⟩) (zS_push h.S (by rw [z1, hsz]; exact Nat.le_succ _) (by rw [hsz]; exact o1)) hc hs)
  · rw [zk_znew, if_pos rfl] at e'
    have : c' = c := by omega
    subst this
    refine (u_born (zFT c') h.ts (zC_in c' hc11) hKn hkC e1 (zC_ty c' hc11)).to (fun k hk => ?_)
    rw [znew_V]
    exact zC_def c' hc11 k hk
  · rw [zk_znew, if_pos rfl] at e'
    omega
theorem r_newa (t : Nat) {atype : ArrayType} {x : Int32} (n : Nat) (ht : t < 6) (hT : (ztys E)[t]? = some (E.2.2.2.1 t, newarray.typeOf atype)) (hz : ∀ cA : ClassId, vp_cell cA (n, zarr (znew w (t + 20) n) (zsz w) t) = arrV cA n (fun _ => defaultValue (newarray.typeOf atype))) (hw : Cond.arrayClass (newarray.typeOf atype) ∈ zWs) (hx : x = nI n) (hn : n < 100000) (hc : 1 + nc' ≤ nc) (hs : n + ns' ≤ ns) (hd : decode M.2.1 pc = .ok (.newarray atype, 2)) (hq : pc + 2 = q) (kk : RW E M q ls (.ref (zsz w) :: st) (znew w (t + 20) n) sg d nc' ns' P) : RW E M pc ls (.int x :: st) w sg d nc ns P := by
  intro p e R s m args below meth cd H locs cells slots mc ms A h
  subst hq
  subst hx
  have hsz := h.P.1
  refine va_newaK h.x h.b (h.ts _ hw) rfl hd rfl (nI_pos (by omega)) (zcl (by omega)) (by cases atype <;> simp [componentBytes, newarray.typeOf] <;> omega) (by have := h.cells; omega) (by have := h.cells; omega) hsz fun H1 cA e1 z1 o1 hAr hNm => ?_
  have hcA : cA = E.2.2.2.1 t := by
    have h9 := (h.K.2 t _ hT).2
    have : s.vm.findClass ("[" ++ (newarray.typeOf atype).toString) = some (E.2.2.2.1 t) := by cases atype <;> exact h9
    exact Option.some.inj (hNm.symm.trans this)
  subst hcA
  refine kk.u (h.more (h.P.push (by rw [z1, hsz]) (by rw [hsz]; exact o1) h.base ⟨fun c' hc' e' => ?_, fun t' ht' e' => ?_⟩) (zS_push h.S (by rw [z1, hsz]; exact Nat.le_succ _) (by rw [hsz]; exact o1)) hc hs)
  · rw [zk_znew, if_pos rfl] at e'
    omega
  · rw [zk_znew, if_pos rfl] at e'
    have : t' = t := by omega
    subst this
    show H1[zsz w]? = some (vp_cell _ (zln (znew w (t' + 20) n) (zsz w), _))
    rw [zln_znew, if_pos rfl, hz]
    exact e1
theorem r_anewa (t : Nat) {C : String} {x : Int32} (n : Nat) (ht : t = 6 ∨ t = 7 ∨ t = 8) (hT : (ztys E)[t]? = some (E.2.2.2.1 t, .object C)) (hl : Cond.classLink M.1.cls idx C ∈ zWs) (hov : ∀ s, zX E s → va_AO C s) (hx : x = nI n) (hn : n < 100000) (hc : 1 + nc' ≤ nc) (hs : n + ns' ≤ ns) (hd : decode M.2.1 pc = .ok (.anewarray idx, 3)) (hq : pc + 3 = q) (kk : RW E M q ls (.ref (zsz w) :: st) (znew w (t + 20) n) sg d nc' ns' P) : RW E M pc ls (.int x :: st) w sg d nc ns P := by
  intro p e R s m args below meth cd H locs cells slots mc ms A h
  subst hq
  subst hx
  have hsz := h.P.1
  have ht9 : t < 9 := by omega
  refine W.anew h.x h.b h.own (h.ts _ hl) (va_AO.use (hov _ h.X)) rfl hd rfl (nI_pos (by omega)) (by rw [zcl (by omega)]; omega) (by have := h.cells; omega) (by rw [zcl (by omega)]; have := h.cells; omega) fun cA kA comp f1 f2 f3 f4 => ?_
  rw [zcl (by omega)]
  generalize hH1 : H.push ({ cls := cA, slots := Array.replicate n .null, vm := .none } : Cell) = H1
  have z1 : H1.size = H.size + 1 := by rw [← hH1, Array.size_push]
  have e1 : H1[H.size]? = some (arrV cA n (fun _ => .null)) := by rw [← hH1, Array.getElem?_push_size, ← arrV_new]
  have o1 : ∀ q : Nat, q < H.size → H1[q]? = H[q]? := fun q hq => by rw [← hH1, Array.getElem?_push, if_neg (Nat.ne_of_lt hq)]
  have hcA : cA = E.2.2.2.1 t := by
    obtain ⟨kA', comp', g1, g2, g3, g4⟩ := (h.K.2 t _ hT).2
    exact Option.some.inj (f1.symm.trans g4)
  subst hcA
  rw [hsz] at e1 ⊢
  refine kk.u (h.more (h.P.push z1 o1 h.base ⟨fun c' hc' e' => ?_, fun t' ht' e' => ?_⟩) (zS_push h.S (by rw [z1]; exact Nat.le_succ _) o1) hc hs)
  · rw [zk_znew, if_pos rfl] at e'
    omega
  · rw [zk_znew, if_pos rfl] at e'
    have : t' = t := by omega
    subst this
    show H1[zsz w]? = some (vp_cell _ (zln (znew w (t' + 20) n) (zsz w), zarr (znew w (t' + 20) n) (zsz w) t'))
    rw [zln_znew, if_pos rfl, e1]
    have hz : zarr (znew w (t' + 20) n) (zsz w) t' = .inr (.inr (.inr (.inr (fun _ => none)))) := by
      unfold zarr
      rcases ht with rfl | rfl | rfl <;> (simp; funext y; rw [zq_znew, if_pos rfl])
    rw [hz]
    rfl
end ZR3
