/-! ===== the start: what the Statement gives, as zX says it ===== -/
theorem st_pA {args : Array Value} {s : State} {ty : FieldType} (h : (Cond.arrayClass ty).before args s = true) : ∃ cA, ArrOfT s cA ty ∧ s.vm.findClass ("[" ++ ty.toString) = some cA := by
  obtain ⟨c, k, comp, h1, h2, h3⟩ := Cond.arrayClass_spec h
  exact ⟨c, fun n z => ⟨fun k h => (by cases h), k, h2, comp, h3⟩, h1⟩
theorem st_oA {args : Array Value} {s : State} {C : String} (h : (Cond.arrayOver (.object C)).before args s = true) : ∃ cA, ArrOfT s cA (.object C) ∧ va_RA s cA (.object C) := by
  obtain ⟨comp, c, k, h1, h2, h3, h4, h5⟩ := Cond.arrayOver_spec h
  exact ⟨c, fun N z => ⟨fun k h => (by cases h), k, h3, comp, h4⟩, k, comp, h3, h4, h1, h5⟩
section ZST
variable {args : Array Value} {s : State}
theorem st_w (hts : ∀ w ∈ lw_tbl, w.before args s = true) : ∀ w ∈ tables_1, w.before args s = true := fun w h => hts w (List.mem_append_right _ h)
theorem st_K (hts : ∀ w ∈ lw_tbl, w.before args s = true) : ∃ (dC : Nat → ClassId) (dI : Nat → Nat → Nat), ∀ (k : Nat) (q : vw_C), vwCl[k]? = some q → u_Kn s q.1 q.2.1 q.2.2 (dC k) (dI k) := by
  have h : ∀ k : Nat, ∃ p : ClassId × (Nat → Nat), ∀ q : vw_C, vwCl[k]? = some q → u_Kn s q.1 q.2.1 q.2.2 p.1 p.2 := by
    intro k
    rcases (by omega : k = 0 ∨ k = 1 ∨ k = 2 ∨ k = 3 ∨ k = 4 ∨ k = 5 ∨ k = 6 ∨ k = 7 ∨ k = 8 ∨ k = 9 ∨ k = 10 ∨ 11 ≤ k) with rfl | rfl | rfl | rfl | rfl | rfl | rfl | rfl | rfl | rfl | rfl | hk
    · obtain ⟨c, f, h⟩ := u_known (C := RX0) (T := TX0) (N := 6) (n := 6) hts inX0 (hts _ (List.mem_filter.mp lnX8_59.2.2.1).1)
      refine ⟨(c, f), fun q hq => ?_⟩
      obtain rfl : (RX0, TX0, 6) = q := Option.some.inj hq
      exact h
    · obtain ⟨c, f, h⟩ := u_known (C := RX1) (T := TX1) (N := 6) (n := 6) hts inX1 (hts _ (List.mem_filter.mp lnX7_9.2.2.1).1)
      refine ⟨(c, f), fun q hq => ?_⟩
      obtain rfl : (RX1, TX1, 6) = q := Option.some.inj hq
      exact h
    · obtain ⟨c, f, h⟩ := u_known (C := RX2) (T := TX2) (N := 12) (n := 12) hts inX2 (hts _ (List.mem_filter.mp lnX9_9.2.2.1).1)
      refine ⟨(c, f), fun q hq => ?_⟩
      obtain rfl : (RX2, TX2, 12) = q := Option.some.inj hq
      exact h
    · obtain ⟨c, f, h⟩ := u_known (C := RX3) (T := TX3) (N := 4) (n := 4) hts inX3 (hts _ (List.mem_filter.mp lnX8_95.2.2.1).1)
      refine ⟨(c, f), fun q hq => ?_⟩
      obtain rfl : (RX3, TX3, 4) = q := Option.some.inj hq
      exact h
    · obtain ⟨c, f, h⟩ := u_known (C := RX4) (T := TX4) (N := 10) (n := 10) hts inX4 (hts _ (List.mem_filter.mp lnX9_35.2.2.1).1)
      refine ⟨(c, f), fun q hq => ?_⟩
      obtain rfl : (RX4, TX4, 10) = q := Option.some.inj hq
      exact h
    · obtain ⟨c, f, h⟩ := u_known (C := RX5) (T := TX5) (N := 2) (n := 2) hts inX5 (hts _ (List.mem_filter.mp lnX9_19.2.2.1).1)
      refine ⟨(c, f), fun q hq => ?_⟩
      obtain rfl : (RX5, TX5, 2) = q := Option.some.inj hq
      exact h
    · obtain ⟨c, f, h⟩ := u_known (C := RX6) (T := TX6) (N := 4) (n := 4) hts inX6 (hts _ (List.mem_filter.mp lnX8_49.2.2.1).1)
      refine ⟨(c, f), fun q hq => ?_⟩
      obtain rfl : (RX6, TX6, 4) = q := Option.some.inj hq
      exact h
    · obtain ⟨c, f, h⟩ := u_known (C := RX7) (T := TX7) (N := 7) (n := 7) hts inX7 (hts _ (List.mem_filter.mp lnX2_50.2.2.1).1)
      refine ⟨(c, f), fun q hq => ?_⟩
      obtain rfl : (RX7, TX7, 7) = q := Option.some.inj hq
      exact h
    · obtain ⟨c, f, h⟩ := u_known (C := RX8) (T := TX8) (N := 7) (n := 7) hts inX8 (hts _ (List.mem_filter.mp lnX9_28.2.2.1).1)
      refine ⟨(c, f), fun q hq => ?_⟩
      obtain rfl : (RX8, TX8, 7) = q := Option.some.inj hq
      exact h
    · obtain ⟨c, f, h⟩ := u_known (C := RX9) (T := TX9) (N := 7) (n := 7) hts inX9 (hts _ (List.mem_filter.mp lnL_8.2.2.1).1)
      refine ⟨(c, f), fun q hq => ?_⟩
      obtain rfl : (RX9, TX9, 7) = q := Option.some.inj hq
      exact h
    · obtain ⟨c, f, h⟩ := u_known (C := RX10) (T := TX10) (N := 57) (n := 57) hts inX10 (hts _ (List.mem_filter.mp lnL_46.2.2.1).1)
      refine ⟨(c, f), fun q hq => ?_⟩
      obtain rfl : (RX10, TX10, 57) = q := Option.some.inj hq
      exact h
    · refine ⟨(0, fun _ => 0), fun q hq => ?_⟩
      have h9 : k < 11 := (List.getElem?_eq_some_iff.mp hq).1
      omega
  exact ⟨fun k => (Classical.choose (h k)).1, fun k => (Classical.choose (h k)).2, fun k q hq => Classical.choose_spec (h k) q hq⟩
def ztyL : List FieldType := [.char, .float, .int, .boolean, .long, .double, .object "StyleDesk$Declaration", .object "StyleDesk$Element", .object "StyleDesk$Rule"]
theorem st_T (hts : ∀ w ∈ tables_1, w.before args s = true) : ∃ cl : Nat → ClassId, ∀ (k : Nat) (ty : FieldType), ztyL[k]? = some ty → ArrOfT s (cl k) ty ∧ va_RA s (cl k) ty := by
  have h : ∀ k : Nat, ∃ c : ClassId, ∀ ty : FieldType, ztyL[k]? = some ty → ArrOfT s c ty ∧ va_RA s c ty := by
    intro k
    rcases (by omega : k = 0 ∨ k = 1 ∨ k = 2 ∨ k = 3 ∨ k = 4 ∨ k = 5 ∨ k = 6 ∨ k = 7 ∨ k = 8 ∨ 9 ≤ k) with rfl | rfl | rfl | rfl | rfl | rfl | rfl | rfl | rfl | hk
    · obtain ⟨c, h1, h2⟩ := st_pA (ty := .char) (hts _ (List.mem_of_getElem? (i := 66) (by decide +kernel)))
      refine ⟨c, fun ty e => ?_⟩
      obtain rfl : FieldType.char = ty := Option.some.inj e
      exact ⟨h1, h2⟩
    · obtain ⟨c, h1, h2⟩ := st_pA (ty := .float) (hts _ (List.mem_of_getElem? (i := 68) (by decide +kernel)))
      refine ⟨c, fun ty e => ?_⟩
      obtain rfl : FieldType.float = ty := Option.some.inj e
      exact ⟨h1, h2⟩
    · obtain ⟨c, h1, h2⟩ := st_pA (ty := .int) (hts _ (List.mem_of_getElem? (i := 67) (by decide +kernel)))
      refine ⟨c, fun ty e => ?_⟩
      obtain rfl : FieldType.int = ty := Option.some.inj e
      exact ⟨h1, h2⟩
    · obtain ⟨c, h1, h2⟩ := st_pA (ty := .boolean) (hts _ (List.mem_of_getElem? (i := 1011) (by decide +kernel)))
      refine ⟨c, fun ty e => ?_⟩
      obtain rfl : FieldType.boolean = ty := Option.some.inj e
      exact ⟨h1, h2⟩
    · obtain ⟨c, h1, h2⟩ := st_pA (ty := .long) (hts _ (List.mem_of_getElem? (i := 1275) (by decide +kernel)))
      refine ⟨c, fun ty e => ?_⟩
      obtain rfl : FieldType.long = ty := Option.some.inj e
      exact ⟨h1, h2⟩
    · obtain ⟨c, h1, h2⟩ := st_pA (ty := .double) (hts _ (List.mem_of_getElem? (i := 1276) (by decide +kernel)))
      refine ⟨c, fun ty e => ?_⟩
      obtain rfl : FieldType.double = ty := Option.some.inj e
      exact ⟨h1, h2⟩
    · obtain ⟨c, h1, h2⟩ := st_oA (C := "StyleDesk$Declaration") (hts _ (List.mem_of_getElem? (i := 260) (by decide +kernel)))
      refine ⟨c, fun ty e => ?_⟩
      obtain rfl : FieldType.object "StyleDesk$Declaration" = ty := Option.some.inj e
      exact ⟨h1, h2⟩
    · obtain ⟨c, h1, h2⟩ := st_oA (C := "StyleDesk$Element") (hts _ (List.mem_of_getElem? (i := 35) (by decide +kernel)))
      refine ⟨c, fun ty e => ?_⟩
      obtain rfl : FieldType.object "StyleDesk$Element" = ty := Option.some.inj e
      exact ⟨h1, h2⟩
    · obtain ⟨c, h1, h2⟩ := st_oA (C := "StyleDesk$Rule") (hts _ (List.mem_of_getElem? (i := 37) (by decide +kernel)))
      refine ⟨c, fun ty e => ?_⟩
      obtain rfl : FieldType.object "StyleDesk$Rule" = ty := Option.some.inj e
      exact ⟨h1, h2⟩
    · refine ⟨0, fun q hq => ?_⟩
      have h9 : k < 9 := (List.getElem?_eq_some_iff.mp hq).1
      omega
  exact ⟨fun k => Classical.choose (h k), fun k q hq => Classical.choose_spec (h k) q hq⟩
def st_tm (i : Nat) : Term := if i = 0 then .string "StyleDesk$TextBuffer" 135 else .string "StyleDesk$TextBuffer" 141
theorem st_S {A : Nat → Prop} (h : ∀ c ∈ flatC (Jvm.Cond.and given_1 narrow_1), c.before args s = true) (hA : ∀ a : Nat, a < s.heap.size → ¬ A a) : ∃ adK adV : Nat → Nat, vk_S 2 zwL zwB adK adV A s s.heap ∧ ∀ i : Nat, i < 2 → (st_tm i).eval args s none [] s = some (.ref (adK i)) := by
  refine vk_Sof (tm := st_tm) (fun i hi => ?_) (fun i hi => ?_) (fun i hi => ?_) (fun i hi => ?_) (fun i hi => ?_) (fun i hi j hj => ?_) (fun i j hi hj hij => ?_) hA
  · rcases (by omega : i = 0 ∨ i = 1) with rfl | rfl
    · decide
    · decide
  · rcases (by omega : i = 0 ∨ i = 1) with rfl | rfl
    · exact h _ (by decide +kernel)
    · exact h _ (by decide +kernel)
  · rcases (by omega : i = 0 ∨ i = 1) with rfl | rfl
    · exact h _ (by decide +kernel)
    · exact h _ (by decide +kernel)
  · rcases (by omega : i = 0 ∨ i = 1) with rfl | rfl
    · exact h _ (by decide +kernel)
    · exact h _ (by decide +kernel)
  · rcases (by omega : i = 0 ∨ i = 1) with rfl | rfl
    · exact h _ (by decide +kernel)
    · exact h _ (by decide +kernel)
  · rcases (by omega : i = 0 ∨ i = 1) with rfl | rfl
    · have hj7 : j < 7 := hj
      rcases (by omega : j = 0 ∨ j = 1 ∨ j = 2 ∨ j = 3 ∨ j = 4 ∨ j = 5 ∨ j = 6) with rfl | rfl | rfl | rfl | rfl | rfl | rfl <;> exact h _ (by decide +kernel)
    · have hj7 : j < 7 := hj
      rcases (by omega : j = 0 ∨ j = 1 ∨ j = 2 ∨ j = 3 ∨ j = 4 ∨ j = 5 ∨ j = 6) with rfl | rfl | rfl | rfl | rfl | rfl | rfl <;> exact h _ (by decide +kernel)
  · rcases (by omega : (i = 0 ∧ j = 1) ∨ (i = 1 ∧ j = 0)) with ⟨rfl, rfl⟩ | ⟨rfl, rfl⟩
    · exact Or.inl (h _ (by decide +kernel))
    · exact Or.inr (h _ (by decide +kernel))
def st_c (cl adK adV : Nat → Nat) (k : Nat) : ClassId := if k < 9 then cl k else if k < 110 then adK (k - 100) else adV (k - 110)
theorem st_zX {l : Launch} (hst : l.stackTraces = false) (hts : ∀ w ∈ lw_tbl, w.before args s = true) (hgv : (Jvm.Cond.and given_1 narrow_1).before args s = true) : ∃ (D : va_G) (cls : Nat → ClassId), zX (l, s.heap.size, D, cls, none) s := by
  have hn := flat_of_before _ hgv
  have hw := st_w hts
  have hA : ∀ a : Nat, a < s.heap.size → ¬ (fun q : Nat => s.heap.size ≤ q) a := fun a ha => Nat.not_le.mpr ha
  obtain ⟨dC, dI, hK⟩ := st_K hts
  obtain ⟨cl, hT⟩ := st_T hw
  obtain ⟨adK, adV, hS, hR⟩ := st_S hn hA
  refine ⟨(dC, dI), st_c cl adK adV, ⟨hK, fun k q hq => ?_⟩, Nat.le_refl _, va_Nw.of rfl (hw _ (List.mem_of_getElem? (i := 367) (by decide +kernel))), va_Nw.of rfl (hw _ (List.mem_of_getElem? (i := 572) (by decide +kernel))), vx_Zqof (hw _ (List.mem_of_getElem? (i := 191) (by decide +kernel))) (hw _ (List.mem_of_getElem? (i := 5) (by decide +kernel))) (hn _ (by decide +kernel)) hA, vx_Zqof (hw _ (List.mem_of_getElem? (i := 193) (by decide +kernel))) (hw _ (List.mem_of_getElem? (i := 5) (by decide +kernel))) (hn _ (by decide +kernel)) hA, va_AO.of (hw _ (List.mem_of_getElem? (i := 260) (by decide +kernel))), va_AO.of (hw _ (List.mem_of_getElem? (i := 35) (by decide +kernel))), va_AO.of (hw _ (List.mem_of_getElem? (i := 37) (by decide +kernel))), ⟨fun i hi => ?_, fun i j hi hj e => ?_⟩, vk_R.of (A := args) (hw (.stringRef "StyleDesk$TextBuffer" 135 "inherit") (List.mem_of_getElem? (i := 498) (by decide +kernel))) (hR 0 (by decide)), vk_R.of (A := args) (hw (.stringRef "StyleDesk$TextBuffer" 141 "initial") (List.mem_of_getElem? (i := 551) (by decide +kernel))) (hR 1 (by decide)), va_Zof (hw _ (List.mem_of_getElem? (i := 512) (by decide +kernel))) (hw _ (List.mem_of_getElem? (i := 16) (by decide +kernel))) (va_eqt (hn _ (by decide +kernel))) hA, va_Zqof (hw _ (List.mem_of_getElem? (i := 528) (by decide +kernel))) (hw _ (List.mem_of_getElem? (i := 18) (by decide +kernel))) (hn _ (by decide +kernel)) hA, va_Nc.of (hn _ (by decide +kernel)), va_Nc.of (hn _ (by decide +kernel)), va_Nc.of (hn _ (by decide +kernel)), fun w hw9 => ?_, hst⟩
  · have h9 : k < 9 := (List.getElem?_eq_some_iff.mp hq).1
    rcases (by omega : k = 0 ∨ k = 1 ∨ k = 2 ∨ k = 3 ∨ k = 4 ∨ k = 5 ∨ k = 6 ∨ k = 7 ∨ k = 8) with rfl | rfl | rfl | rfl | rfl | rfl | rfl | rfl | rfl
    · obtain rfl : (cl 0, (.char : FieldType)) = q := Option.some.inj hq
      exact hT 0 _ rfl
    · obtain rfl : (cl 1, (.float : FieldType)) = q := Option.some.inj hq
      exact hT 1 _ rfl
    · obtain rfl : (cl 2, (.int : FieldType)) = q := Option.some.inj hq
      exact hT 2 _ rfl
    · obtain rfl : (cl 3, (.boolean : FieldType)) = q := Option.some.inj hq
      exact hT 3 _ rfl
    · obtain rfl : (cl 4, (.long : FieldType)) = q := Option.some.inj hq
      exact hT 4 _ rfl
    · obtain rfl : (cl 5, (.double : FieldType)) = q := Option.some.inj hq
      exact hT 5 _ rfl
    · obtain rfl : (cl 6, (.object "StyleDesk$Declaration" : FieldType)) = q := Option.some.inj hq
      exact hT 6 _ rfl
    · obtain rfl : (cl 7, (.object "StyleDesk$Element" : FieldType)) = q := Option.some.inj hq
      exact hT 7 _ rfl
    · obtain rfl : (cl 8, (.object "StyleDesk$Rule" : FieldType)) = q := Option.some.inj hq
      exact hT 8 _ rfl
  · rcases (by omega : i = 0 ∨ i = 1) with rfl | rfl
    · exact hS.1 0 (by decide)
    · exact hS.1 1 (by decide)
  · rcases (by omega : i = 0 ∨ i = 1) with rfl | rfl
    · rcases (by omega : j = 0 ∨ j = 1) with rfl | rfl
      · rfl
      · exact hS.2 0 1 (by decide) (by decide) e
    · rcases (by omega : j = 0 ∨ j = 1) with rfl | rfl
      · exact hS.2 1 0 (by decide) (by decide) e
      · rfl
  · refine zFc_moved (A := args) (zFace_fc w hw9) (Vm.Alike.refl s.vm) (hw w ?_)
    simp only [zFace, List.mem_cons, List.not_mem_nil, or_false] at hw9
    rcases hw9 with rfl | rfl | rfl | rfl | rfl | rfl
    · exact List.mem_of_getElem? (i := 167) (by decide +kernel)
    · exact List.mem_of_getElem? (i := 169) (by decide +kernel)
    · exact List.mem_of_getElem? (i := 171) (by decide +kernel)
    · exact List.mem_of_getElem? (i := 166) (by decide +kernel)
    · exact List.mem_of_getElem? (i := 229) (by decide +kernel)
    · exact List.mem_of_getElem? (i := 664) (by decide +kernel)
end ZST
