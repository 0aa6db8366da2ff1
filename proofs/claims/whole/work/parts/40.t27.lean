/-! ===== the two words, as texts ===== -/
def zwC (i : Nat) : List Nat := if i = 0 then [105, 110, 104, 101, 114, 105, 116] else [105, 110, 105, 116, 105, 97, 108]
theorem zwC_len (i : Nat) : (zwC i).length = 7 := by unfold zwC; split <;> rfl
section ZST
variable {E : ZE} {M : ZMeth} {pc q : Nat} {ls : List (Option Value)} {st : List Value} {w : ZW} {sg : ZM} {d nc ns : Nat} {P : ZPhi} {idx a : Nat}
theorem r_ldcT (tx : String) {b : Nat} (hZ : ∀ s, zX E s → vk_R M.1.cls idx tx b s) (hd : decode M.2.1 pc = .ok (.ldc idx, 2)) (hq : pc + 2 = q) (kk : RW E M q ls (.ref b :: st) w sg d nc ns P) : RW E M pc ls st w sg d nc ns P := by
  intro p e R s m args below meth c H locs cells slots mc ms A h
  subst hq
  exact va_ldcS h.x h.b h.own (hZ s h.X) hd (kk.u h)
theorem r_getCS (hl : Cond.fieldLink M.1.cls idx "java/lang/String" "COMPACT_STRINGS" "Z" ∈ zWs) (hd : decode M.2.1 pc = .ok (.getstatic idx, 3)) (hq : pc + 3 = q) (kk : RW E M q ls (.int (nI 1) :: st) w sg d nc ns P) : RW E M pc ls st w sg d nc ns P := by
  intro p e R s m args below meth c H locs cells slots mc ms A h
  subst hq
  exact va_gets h.x h.b h.XE.2.2.2.1 h.S h.own (h.ts _ hl) (fun x hx => hx) hd (kk.u h)
theorem r_getSF (hl : Cond.fieldLink M.1.cls idx "jdk/internal/util/Preconditions" "SIOOBE_FORMATTER" "Ljava/util/function/BiFunction;" ∈ zWs) (hd : decode M.2.1 pc = .ok (.getstatic idx, 3)) (hq : pc + 3 = q) (kk : ∀ v, zRv v → RW E M q ls (v :: st) w sg d nc ns P) : RW E M pc ls st w sg d nc ns P := by
  intro p e R s m args below meth c H locs cells slots mc ms A h
  subst hq
  rcases h.XE.2.2.2.2.1 with hz | ⟨t, hz⟩
  · exact va_gets h.x h.b hz h.S h.own (h.ts _ hl) (fun x hx => hx) hd ((kk _ zRv_null).u h)
  · exact va_gets h.x h.b hz h.S h.own (h.ts _ hl) (fun x hx => hx) hd ((kk _ (zRv_ref t)).u h)
theorem r_getSV {i : Nat} (hi : i < 2) (hl : Cond.fieldLink M.1.cls idx "java/lang/String" "value" "[B" ∈ zWs) (hd : decode M.2.1 pc = .ok (.getfield idx, 3)) (hq : pc + 3 = q) (kk : RW E M q ls (.ref (zwV E i) :: st) w sg d nc ns P) : RW E M pc ls (.ref (zwK E i) :: st) w sg d nc ns P := by
  intro p e R s m args below meth c H locs cells slots mc ms A h
  subst hq
  exact vk_getf h.x h.b (h.XE.1.1 i hi).2.2.1 h.S h.own (h.ts _ hl) (fun x hx => hx) hd (kk.u h)
theorem r_getSC {i : Nat} (hi : i < 2) (hl : Cond.fieldLink M.1.cls idx "java/lang/String" "coder" "B" ∈ zWs) (hd : decode M.2.1 pc = .ok (.getfield idx, 3)) (hq : pc + 3 = q) (kk : RW E M q ls (.int (nI 0) :: st) w sg d nc ns P) : RW E M pc ls (.ref (zwK E i) :: st) w sg d nc ns P := by
  intro p e R s m args below meth c H locs cells slots mc ms A h
  subst hq
  exact vk_getf h.x h.b (h.XE.1.1 i hi).2.1 h.S h.own (h.ts _ hl) (fun x hx => hx) hd (kk.u h)
theorem zwL_7 {i : Nat} (hi : i < 2) : zwL.getD i 0 = 7 := by
  rcases (by omega : i = 0 ∨ i = 1) with rfl | rfl <;> rfl
theorem r_tlen {i : Nat} (hi : i < 2) (hd : decode M.2.1 pc = .ok (.arraylength, 1)) (hq : pc + 1 = q) (kk : RW E M q ls (.int (nI 7) :: st) w sg d nc ns P) : RW E M pc ls (.ref (zwV E i) :: st) w sg d nc ns P := by
  intro p e R s m args below meth c H locs cells slots mc ms A h
  subst hq
  exact va_tlen h.x h.b (h.XE.1.1 i hi).2.2.2 h.S (v := nI 7) (by rw [zwL_7 hi]; rfl) hd (kk.u h)
theorem r_tbald {i k : Nat} {v : Int32} (hi : i < 2) (hk : k < 7) (hv : (zwB.getD i []).getD k 0 = v) (hd : decode M.2.1 pc = .ok (.baload, 1)) (hq : pc + 1 = q) (kk : RW E M q ls (.int v :: st) w sg d nc ns P) : RW E M pc ls (.int (nI k) :: .ref (zwV E i) :: st) w sg d nc ns P := by
  intro p e R s m args below meth c H locs cells slots mc ms A h
  subst hq
  refine va_tb h.x h.b (h.XE.1.1 i hi).2.2.2 h.S (by rw [zwL_7 hi]; exact zin hk (by omega)) (v := .int v) ?_ hd (kk.u h)
  rw [zcl (by omega)]
  exact congrArg Value.int hv
/-- arraycopy from place 0 to place 0, of ints -/
def zsA (w : ZW) (a : Nat) (f : Nat → Int32) : ZW := (zsz w, zk w, zln w, zi w, zr w, zf w, (fun x y => if x = a then f y else za w x y), zq w, zg w, zl w, zd w)
def zsG (w : ZW) (a : Nat) (f : Nat → UInt32) : ZW := (zsz w, zk w, zln w, zi w, zr w, zf w, za w, zq w, (fun x y => if x = a then f y else zg w x y), zl w, zd w)
theorem zsA_same (w : ZW) (a : Nat) (f : Nat → Int32) (b : Nat) (h : b ≠ a) : zsame w (zsA w a f) b := ⟨fun _ => rfl, fun _ => rfl, fun _ => rfl, rfl, funext fun y => if_neg h, rfl, rfl, rfl, rfl⟩
theorem zsG_same (w : ZW) (a : Nat) (f : Nat → UInt32) (b : Nat) (h : b ≠ a) : zsame w (zsG w a f) b := ⟨fun _ => rfl, fun _ => rfl, fun _ => rfl, rfl, rfl, rfl, funext fun y => if_neg h, rfl, rfl⟩
theorem zcpy0 {α : Type} (f g : Nat → α) (n : Nat) : va_cpy f g 0 0 n = fun k => if k < n then f k else g k := by
  funext k
  simp only [va_cpy, Nat.zero_le, true_and, Nat.zero_add, Nat.sub_zero]
theorem ztoI {n : Nat} (h : n < 2147483648) : (nI n).toInt = (n : Int) := by
  have h1 : (nI n).toNatClampNeg = n := zcl h
  have h2 : ¬ nI n < 0 := nI_pos h
  have h3 : (0 : Int) ≤ (nI n).toInt := by
    have := Int32.not_lt.mp h2
    simpa using Int32.le_iff_toInt_le.mp this
  have h4 : (nI n).toNatClampNeg = (nI n).toInt.toNat := rfl
  omega
theorem r_copyi {a0 n : Nat} (hl : Cond.methodLink M.1.cls idx arraycopyName ∈ zWs) (hN : Cond.native arraycopyName ∈ zWs) (hSt : Cond.static arraycopyName ∈ zWs) (hI : Cond.initialized "java/lang/System" ∈ zWs) (hk0 : zk w a0 = 22) (hk : zk w a = 22) (h0 : n ≤ zln w a0) (h1 : n ≤ zln w a) (hn : n < 2147483648) (hdd : 1 ≤ d) (hW : (st.map fun v => v.category).sum ≤ 8) (hd : decode M.2.1 pc = .ok (.invokestatic idx, 3)) (hq : pc + 3 = q) (kk : RW E M q ls st (zsA w a (fun k => if k < n then za w a0 k else za w a k)) sg d nc ns P) : RW E M pc ls (.int (nI n) :: .int (nI 0) :: .ref a :: .int (nI 0) :: .ref a0 :: st) w sg d nc ns P := by
  intro p e R s m args below meth c H locs cells slots mc ms A h
  subst hq
  have hne : zk w a ≠ 0 := by rw [hk]; decide
  have c0 : H[a0]? = some (arrV (E.2.2.2.1 2) (zln w a0) (fun j => .int (za w a0 j))) := (h.P.2.2.1 a0).2 2 (by decide) hk0
  have c1 : H[a]? = some (arrV (E.2.2.2.1 2) (zln w a) (fun j => .int (za w a j))) := (h.P.2.2.1 a).2 2 (by decide) hk
  obtain ⟨-, k0, q0, cm0, q1⟩ := (h.K.2 2 _ rfl).1 (zln w a0) (fun j => .int (za w a0 j))
  obtain ⟨-, k1, q2, cm1, q3⟩ := (h.K.2 2 _ rfl).1 (zln w a) (fun j => .int (za w a j))
  have hz0 : (nI 0).toNatClampNeg = 0 := zcl (by omega)
  have hzn : (nI n).toNatClampNeg = n := zcl hn
  have b9 := h.2.2.2.2.2.2.2.2.1
  have b10 := h.2.2.2.2.2.2.2.2.2
  intro T hT X
  obtain ⟨vm', X', step⟩ := X.arraycopy h.x h.own (h.ts _ hl) (h.ts _ hN) (h.ts _ hSt) (h.ts _ hI) (src := a0) (dst := a) (srcPos := nI 0) (destPos := nI 0) (n := nI n) (by rw [hT]; exact c0) (by rw [hT]; exact c1) (fun _ h => by cases h) (fun _ h => by cases h) (fun h => by cases h) (fun h => by cases h) q0 q2 q1 q3 (by simp [refKind]) (nI_pos (by omega)) (nI_pos (by omega)) (nI_pos hn)
    (by rw [ztoI (by omega), ztoI hn, arrV_size]; omega) (by rw [ztoI (by omega), ztoI hn, arrV_size]; omega)
    (fun vm₁ _ i hi => by
      have e : (arrV (E.2.2.2.1 2) (zln w a0) (fun j => .int (za w a0 j))).slots.getD ((nI 0).toNatClampNeg + i) .null = .int (za w a0 ((nI 0).toNatClampNeg + i)) := by
        rw [Array.getD_eq_getD_getElem?, arrV_read _ _ (by rw [hz0]; rw [hzn] at hi; omega)]
        rfl
      rw [e]
      exact ⟨rfl, trivial⟩)
    (g := F0 m pc A (.int (nI n) :: .int (nI 0) :: .ref a :: .int (nI 0) :: .ref a0 :: st)) rfl (h.L.1.trans h.ml.symm) (rest := st) rfl (by rw [h.b]; exact hd) (by omega) (by show 2 * 0 + _ + _ ≤ _; exact Nat.le_trans (Nat.add_le_add_right (Nat.add_le_add_left hW _) _) (Nat.le_trans (by decide : _ ≤ 60) (by omega)))
  have e1 : copied (arrV (E.2.2.2.1 2) (zln w a0) (fun j => .int (za w a0 j))) (arrV (E.2.2.2.1 2) (zln w a) (fun j => .int (za w a j))) (nI 0) (nI 0) (nI n) = arrV (E.2.2.2.1 2) (zln w a) (fun j => .int (if j < n then za w a0 j else za w a j)) := by
    have := va_copied (fun z => Value.int z) (E.2.2.2.1 2) (E.2.2.2.1 2) (n1 := zln w a) (dp := 0) (za w a0) (za w a) (show 0 + n ≤ zln w a0 by omega)
    rw [zcpy0] at this
    have h9 : copied (arrV (E.2.2.2.1 2) (zln w a0) (fun j => Value.int (za w a0 j))) (arrV (E.2.2.2.1 2) (zln w a) (fun j => Value.int (za w a j))) (nI 0) (nI 0) (nI n) = (arrV (E.2.2.2.1 2) (zln w a) (fun j => Value.int (za w a j))).storeRun (nI 0).toNatClampNeg ((arrV (E.2.2.2.1 2) (zln w a0) (fun j => Value.int (za w a0 j))).stretch (nI 0).toNatClampNeg (nI n).toNatClampNeg) := rfl
    rw [h9, hz0, hzn]
    exact this
  rw [e1] at X' step
  have hheap : ((T.setVm vm').setCell a (arrV (E.2.2.2.1 2) (zln w a) (fun j => .int (if j < n then za w a0 j else za w a j)))).heap = H.setIfInBounds a (arrV (E.2.2.2.1 2) (zln w a) (fun j => .int (if j < n then za w a0 j else za w a j))) := by rw [← hT]; rfl
  have hlt : a < H.size := (Array.getElem?_eq_some_iff.mp c1).1
  have oq : ∀ q : Nat, q ≠ a → (H.setIfInBounds a (arrV (E.2.2.2.1 2) (zln w a) (fun j => .int (if j < n then za w a0 j else za w a j))))[q]? = H[q]? := fun q hq => by simp [Array.getElem?_setIfInBounds, Ne.symm hq]
  have hAa := (h.P.2.1 a hne).1
  have hS := h.S
  obtain ⟨t, a1, b1⟩ := kk.u (h.hp (w' := zsA w a (fun k => if k < n then za w a0 k else za w a k)) (h.P.upd (by simp) oq rfl rfl (zsA_same w a _) hne ⟨fun c' hc' e' => by have e9 : zk w a = c' + 1 := e'; omega, fun t ht e' => by
      have e9 : zk w a = t + 20 := e'
      have : t = 2 := by omega
      subst this
      show (H.setIfInBounds a _)[a]? = some (arrV (E.2.2.2.1 2) (zln w a) (fun q => .int (if a = a then (if q < n then za w a0 q else za w a q) else za w a q)))
      simp [Array.getElem?_setIfInBounds, hlt]⟩)
    ⟨by simp; exact hS.1, fun q g1 g2 => by
      rw [oq q (fun e => g2 (by rw [e]; exact hAa))]
      exact hS.2.1 q g1 g2, fun q hq => by
      rcases List.mem_append.mp hq with h | h
      · exact hS.2.2 q h
      · obtain ⟨z, -, hz⟩ := List.mem_map.mp h
        rw [← hz]
        exact hAa⟩) _ hheap X'
  exact ⟨t, step t a1, b1⟩
theorem r_copyf {a0 n : Nat} (hl : Cond.methodLink M.1.cls idx arraycopyName ∈ zWs) (hN : Cond.native arraycopyName ∈ zWs) (hSt : Cond.static arraycopyName ∈ zWs) (hI : Cond.initialized "java/lang/System" ∈ zWs) (hk0 : zk w a0 = 21) (hk : zk w a = 21) (h0 : n ≤ zln w a0) (h1 : n ≤ zln w a) (hn : n < 2147483648) (hdd : 1 ≤ d) (hW : (st.map fun v => v.category).sum ≤ 8) (hd : decode M.2.1 pc = .ok (.invokestatic idx, 3)) (hq : pc + 3 = q) (kk : RW E M q ls st (zsG w a (fun k => if k < n then zg w a0 k else zg w a k)) sg d nc ns P) : RW E M pc ls (.int (nI n) :: .int (nI 0) :: .ref a :: .int (nI 0) :: .ref a0 :: st) w sg d nc ns P := by
  intro p e R s m args below meth c H locs cells slots mc ms A h
  subst hq
  have hne : zk w a ≠ 0 := by rw [hk]; decide
  have c0 : H[a0]? = some (arrV (E.2.2.2.1 1) (zln w a0) (fun j => .float (zg w a0 j))) := (h.P.2.2.1 a0).2 1 (by decide) hk0
  have c1 : H[a]? = some (arrV (E.2.2.2.1 1) (zln w a) (fun j => .float (zg w a j))) := (h.P.2.2.1 a).2 1 (by decide) hk
  obtain ⟨-, k0, q0, cm0, q1⟩ := (h.K.2 1 _ rfl).1 (zln w a0) (fun j => .float (zg w a0 j))
  obtain ⟨-, k1, q2, cm1, q3⟩ := (h.K.2 1 _ rfl).1 (zln w a) (fun j => .float (zg w a j))
  have hz0 : (nI 0).toNatClampNeg = 0 := zcl (by omega)
  have hzn : (nI n).toNatClampNeg = n := zcl hn
  have b9 := h.2.2.2.2.2.2.2.2.1
  have b10 := h.2.2.2.2.2.2.2.2.2
  intro T hT X
  obtain ⟨vm', X', step⟩ := X.arraycopy h.x h.own (h.ts _ hl) (h.ts _ hN) (h.ts _ hSt) (h.ts _ hI) (src := a0) (dst := a) (srcPos := nI 0) (destPos := nI 0) (n := nI n) (by rw [hT]; exact c0) (by rw [hT]; exact c1) (fun _ h => by cases h) (fun _ h => by cases h) (fun h => by cases h) (fun h => by cases h) q0 q2 q1 q3 (by simp [refKind]) (nI_pos (by omega)) (nI_pos (by omega)) (nI_pos hn)
    (by rw [ztoI (by omega), ztoI hn, arrV_size]; omega) (by rw [ztoI (by omega), ztoI hn, arrV_size]; omega)
    (fun vm₁ _ i hi => by
      have e : (arrV (E.2.2.2.1 1) (zln w a0) (fun j => .float (zg w a0 j))).slots.getD ((nI 0).toNatClampNeg + i) .null = .float (zg w a0 ((nI 0).toNatClampNeg + i)) := by
        rw [Array.getD_eq_getD_getElem?, arrV_read _ _ (by rw [hz0]; rw [hzn] at hi; omega)]
        rfl
      rw [e]
      exact ⟨rfl, trivial⟩)
    (g := F0 m pc A (.int (nI n) :: .int (nI 0) :: .ref a :: .int (nI 0) :: .ref a0 :: st)) rfl (h.L.1.trans h.ml.symm) (rest := st) rfl (by rw [h.b]; exact hd) (by omega) (by show 2 * 0 + _ + _ ≤ _; exact Nat.le_trans (Nat.add_le_add_right (Nat.add_le_add_left hW _) _) (Nat.le_trans (by decide : _ ≤ 60) (by omega)))
  have e1 : copied (arrV (E.2.2.2.1 1) (zln w a0) (fun j => .float (zg w a0 j))) (arrV (E.2.2.2.1 1) (zln w a) (fun j => .float (zg w a j))) (nI 0) (nI 0) (nI n) = arrV (E.2.2.2.1 1) (zln w a) (fun j => .float (if j < n then zg w a0 j else zg w a j)) := by
    have := va_copied (fun z => Value.float z) (E.2.2.2.1 1) (E.2.2.2.1 1) (n1 := zln w a) (dp := 0) (zg w a0) (zg w a) (show 0 + n ≤ zln w a0 by omega)
    rw [zcpy0] at this
    have h9 : copied (arrV (E.2.2.2.1 1) (zln w a0) (fun j => Value.float (zg w a0 j))) (arrV (E.2.2.2.1 1) (zln w a) (fun j => Value.float (zg w a j))) (nI 0) (nI 0) (nI n) = (arrV (E.2.2.2.1 1) (zln w a) (fun j => Value.float (zg w a j))).storeRun (nI 0).toNatClampNeg ((arrV (E.2.2.2.1 1) (zln w a0) (fun j => Value.float (zg w a0 j))).stretch (nI 0).toNatClampNeg (nI n).toNatClampNeg) := rfl
    rw [h9, hz0, hzn]
    exact this
  rw [e1] at X' step
  have hheap : ((T.setVm vm').setCell a (arrV (E.2.2.2.1 1) (zln w a) (fun j => .float (if j < n then zg w a0 j else zg w a j)))).heap = H.setIfInBounds a (arrV (E.2.2.2.1 1) (zln w a) (fun j => .float (if j < n then zg w a0 j else zg w a j))) := by rw [← hT]; rfl
  have hlt : a < H.size := (Array.getElem?_eq_some_iff.mp c1).1
  have oq : ∀ q : Nat, q ≠ a → (H.setIfInBounds a (arrV (E.2.2.2.1 1) (zln w a) (fun j => .float (if j < n then zg w a0 j else zg w a j))))[q]? = H[q]? := fun q hq => by simp [Array.getElem?_setIfInBounds, Ne.symm hq]
  have hAa := (h.P.2.1 a hne).1
  have hS := h.S
  obtain ⟨t, a1, b1⟩ := kk.u (h.hp (w' := zsG w a (fun k => if k < n then zg w a0 k else zg w a k)) (h.P.upd (by simp) oq rfl rfl (zsG_same w a _) hne ⟨fun c' hc' e' => by have e9 : zk w a = c' + 1 := e'; omega, fun t ht e' => by
      have e9 : zk w a = t + 20 := e'
      have : t = 1 := by omega
      subst this
      show (H.setIfInBounds a _)[a]? = some (arrV (E.2.2.2.1 1) (zln w a) (fun q => .float (if a = a then (if q < n then zg w a0 q else zg w a q) else zg w a q)))
      simp [Array.getElem?_setIfInBounds, hlt]⟩)
    ⟨by simp; exact hS.1, fun q g1 g2 => by
      rw [oq q (fun e => g2 (by rw [e]; exact hAa))]
      exact hS.2.1 q g1 g2, fun q hq => by
      rcases List.mem_append.mp hq with h | h
      · exact hS.2.2 q h
      · obtain ⟨z, -, hz⟩ := List.mem_map.mp h
        rw [← hz]
        exact hAa⟩) _ hheap X'
  exact ⟨t, step t a1, b1⟩
end ZST
theorem sp_coder (E : ZE) (w : ZW) (sg : ZM) (d i : Nat) (hi : i < 2) : CallQ E MJ0_coder_7d493 [.ref (zwK E i)] w sg d 0 0 (fun v w' sg' => v = some (.int (nI 0)) ∧ w = w' ∧ sg = sg') := by
  refine CallQ.of rfl (by simp [Value.category]) (Nat.le_of_ble_eq_true rfl) ?_
  refine r_getCS tw_597 dJ0_coder_7d493_0 rfl ?_
  refine r_if_eqN (by omega) (r := 13) dJ0_coder_7d493_3 (by decide) rfl (fun c_3 => ?_) (fun c_3 => ?_)
  · exact absurd c_3 (by decide)
  · refine r_aload_n dJ0_coder_7d493_6 rfl (zRv_ref _) rfl ?_
    refine r_getSC hi tw_1381 dJ0_coder_7d493_7 rfl ?_
    refine r_goto (r := 14) dJ0_coder_7d493_10 (by decide) ?_
    refine r_zret .byte rfl rfl dJ0_coder_7d493_14 ?_
    exact ⟨rfl, rfl, rfl⟩
theorem sp_length (E : ZE) (w : ZW) (sg : ZM) (d i : Nat) (hi : i < 2) (hd : 1 ≤ d) : CallQ E MJ0_length_8abf5 [.ref (zwK E i)] w sg d 0 0 (fun v w' sg' => v = some (.int (nI 7)) ∧ w = w' ∧ sg = sg') := by
  refine CallQ.of rfl (by simp [Value.category]) (Nat.le_of_ble_eq_true rfl) ?_
  refine r_aload_n dJ0_length_8abf5_0 rfl (zRv_ref _) rfl ?_
  refine r_getSV hi tw_1380 dJ0_length_8abf5_1 rfl ?_
  refine r_tlen hi dJ0_length_8abf5_4 rfl ?_
  refine r_aload_n dJ0_length_8abf5_5 rfl (zRv_ref _) rfl ?_
  refine r_callV MJ0_coder_7d493 0 [] lvJ0_335 (Or.inr (Or.inr ⟨_, hi, rfl, rfl⟩)) (sp_coder E w sg (d - 1) i hi) rfl rfl (by first | exact Nat.le_of_ble_eq_true rfl | (simp [zcat_rf, Value.category]; done)) (by omega) (Nat.le_of_eq (Nat.zero_add _)) (Nat.le_of_eq (Nat.zero_add _)) dJ0_length_8abf5_6 rfl (fun v_ w_ sg_ hq_ => ?_)
  obtain ⟨rfl, rfl, rfl⟩ := hq_
  refine r_ishr dJ0_length_8abf5_9 rfl ?_
  refine r_iret rfl dJ0_length_8abf5_10 ?_
  exact ⟨congrArg (fun z => some (Value.int z)) (by decide +kernel), rfl, rfl⟩
theorem sp_latin1 (E : ZE) (w : ZW) (sg : ZM) (d i : Nat) (hi : i < 2) : CallQ E MJ0_isLatin1_aae02 [.ref (zwK E i)] w sg d 0 0 (fun v w' sg' => v = some (.int (zb true)) ∧ w = w' ∧ sg = sg') := by
  refine CallQ.of rfl (by simp [Value.category]) (Nat.le_of_ble_eq_true rfl) ?_
  refine r_getCS tw_597 dJ0_isLatin1_aae02_0 rfl ?_
  refine r_if_eqN (by omega) (r := 17) dJ0_isLatin1_aae02_3 (by decide) rfl (fun c_3 => ?_) (fun c_3 => ?_)
  · exact absurd c_3 (by decide)
  · refine r_aload_n dJ0_isLatin1_aae02_6 rfl (zRv_ref _) rfl ?_
    refine r_getSC hi tw_1381 dJ0_isLatin1_aae02_7 rfl ?_
    refine r_if_neN (by omega) (r := 17) dJ0_isLatin1_aae02_10 (by decide) rfl (fun c_10 => ?_) (fun c_10 => ?_)
    · exact absurd rfl c_10
    · refine r_iconst dJ0_isLatin1_aae02_13 kc_1 rfl ?_
      refine r_goto (r := 18) dJ0_isLatin1_aae02_14 (by decide) ?_
      refine r_zret .boolean rfl rfl dJ0_isLatin1_aae02_18 ?_
      exact ⟨rfl, rfl, rfl⟩
theorem sp_check3 (E : ZE) (w : ZW) (sg : ZM) (d i n : Nat) (v9 : Value) (hv : zRv v9) (hi : i < n) (hn : n < 2147483648) : CallQ E MJ3_checkIndex_8e157 [.int (nI i), .int (nI n), v9] w sg d 0 0 (fun v w' sg' => v = some (.int (nI i)) ∧ w = w' ∧ sg = sg') := by
  refine CallQ.of rfl (by rcases hv with rfl | ⟨t, rfl⟩ <;> simp [Value.category]) (Nat.le_of_ble_eq_true rfl) ?_
  refine r_iload_n dJ3_checkIndex_8e157_0 rfl rfl ?_
  refine r_if_ltN (by omega) (r := 9) dJ3_checkIndex_8e157_1 (by decide) rfl (fun c_1 => ?_) (fun c_1 => ?_)
  · exact absurd c_1 (by omega)
  · refine r_iload_n dJ3_checkIndex_8e157_4 rfl rfl ?_
    refine r_iload_n dJ3_checkIndex_8e157_5 rfl rfl ?_
    refine r_icmp_ltN (by omega) (by omega) (r := 16) dJ3_checkIndex_8e157_6 (by decide) rfl (fun c_6 => ?_) (fun c_6 => ?_)
    · refine r_iload_n dJ3_checkIndex_8e157_16 rfl rfl ?_
      refine r_iret rfl dJ3_checkIndex_8e157_17 ?_
      exact ⟨rfl, rfl, rfl⟩
    · exact absurd c_6 (by omega)
theorem sp_check0 (E : ZE) (w : ZW) (sg : ZM) (d i n : Nat) (hd : 1 ≤ d) (hi : i < n) (hn : n < 2147483648) : CallQ E MJ0_checkIndex_df160 [.int (nI i), .int (nI n)] w sg d 0 0 (fun v w' sg' => v = none ∧ w = w' ∧ sg = sg') := by
  refine CallQ.of rfl (by simp [Value.category]) (Nat.le_of_ble_eq_true rfl) ?_
  refine r_iload_n dJ0_checkIndex_df160_0 rfl rfl ?_
  refine r_iload_n dJ0_checkIndex_df160_1 rfl rfl ?_
  refine r_getSF tw_613 dJ0_checkIndex_df160_2 rfl (fun v9 hv9 => ?_)
  refine r_callS MJ3_checkIndex_8e157 3 [_, _, _] lsJ0_1059 (sp_check3 E w sg (d - 1) i n v9 hv9 hi hn) rfl rfl (by first | exact Nat.le_of_ble_eq_true rfl | (simp [zcat_rf, Value.category]; done)) (by omega) (Nat.le_of_eq (Nat.zero_add _)) (Nat.le_of_eq (Nat.zero_add _)) dJ0_checkIndex_df160_5 rfl (fun v_ w_ sg_ hq_ => ?_)
  obtain ⟨rfl, rfl, rfl⟩ := hq_
  refine r_pop dJ0_checkIndex_df160_8 (by first | rfl | exact zcat_rf _) rfl ?_
  refine r_vret rfl dJ0_checkIndex_df160_9 ?_
  exact ⟨rfl, rfl, rfl⟩
theorem zwB_C {i k : Nat} (hi : i < 2) (hk : k < 7) : (((zwB.getD i []).getD k 0 &&& nI 255).toUInt32 % 65536).toInt32 = nI ((zwC i).getD k 0) ∧ (zwC i).getD k 0 < 128 := by
  have h : ∀ i < 2, ∀ k < 7, (((zwB.getD i []).getD k 0 &&& nI 255).toUInt32 % 65536).toInt32 = nI ((zwC i).getD k 0) ∧ (zwC i).getD k 0 < 128 := by decide +kernel
  exact h i hi k hk
theorem sp_charAt1 (E : ZE) (w : ZW) (sg : ZM) (d i k : Nat) (hi : i < 2) (hd : 2 ≤ d) (hk : k < 7) : CallQ E MJ1_charAt_3b067 [.ref (zwV E i), .int (nI k)] w sg d 0 0 (fun v w' sg' => v = some (.int (nI ((zwC i).getD k 0))) ∧ w = w' ∧ sg = sg') := by
  obtain ⟨e1, e2⟩ := zwB_C hi hk
  refine CallQ.of rfl (by simp [Value.category]) (Nat.le_of_ble_eq_true rfl) ?_
  refine r_iload_n dJ1_charAt_3b067_0 rfl rfl ?_
  refine r_aload_n dJ1_charAt_3b067_1 rfl (zRv_ref _) rfl ?_
  refine r_tlen hi dJ1_charAt_3b067_2 rfl ?_
  refine r_callS MJ0_checkIndex_df160 2 [_, _] lsJ1_9 (sp_check0 E w sg (d - 1) k 7 (by omega) hk (by omega)) rfl rfl (by first | exact Nat.le_of_ble_eq_true rfl | (simp [zcat_rf, Value.category]; done)) (by omega) (Nat.le_of_eq (Nat.zero_add _)) (Nat.le_of_eq (Nat.zero_add _)) dJ1_charAt_3b067_3 rfl (fun v_ w_ sg_ hq_ => ?_)
  obtain ⟨rfl, rfl, rfl⟩ := hq_
  refine r_aload_n dJ1_charAt_3b067_6 rfl (zRv_ref _) rfl ?_
  refine r_iload_n dJ1_charAt_3b067_7 rfl rfl ?_
  refine r_tbald hi hk rfl dJ1_charAt_3b067_8 rfl ?_
  refine r_sipush dJ1_charAt_3b067_9 ks_255 rfl ?_
  refine r_iand dJ1_charAt_3b067_12 rfl ?_
  refine r_i2c dJ1_charAt_3b067_13 e1 rfl ?_
  refine r_zret .char rfl (by first | exact zch_nar (by omega) | assumption | (simp only [*]; exact zch_nar (by omega))) dJ1_charAt_3b067_14 ?_
  exact ⟨rfl, rfl, rfl⟩
theorem sp_charAt (E : ZE) (w : ZW) (sg : ZM) (d i k : Nat) (hi : i < 2) (hd : 3 ≤ d) (hk : k < 7) : CallQ E MJ0_charAt_5068e [.ref (zwK E i), .int (nI k)] w sg d 0 0 (fun v w' sg' => v = some (.int (nI ((zwC i).getD k 0))) ∧ w = w' ∧ sg = sg') := by
  have e2 := (zwB_C hi hk).2
  refine CallQ.of rfl (by simp [Value.category]) (Nat.le_of_ble_eq_true rfl) ?_
  refine r_aload_n dJ0_charAt_5068e_0 rfl (zRv_ref _) rfl ?_
  refine r_callV MJ0_isLatin1_aae02 0 [] lvJ0_492 (Or.inr (Or.inr ⟨_, hi, rfl, rfl⟩)) (sp_latin1 E w sg (d - 1) i hi) rfl rfl (by first | exact Nat.le_of_ble_eq_true rfl | (simp [zcat_rf, Value.category]; done)) (by omega) (Nat.le_of_eq (Nat.zero_add _)) (Nat.le_of_eq (Nat.zero_add _)) dJ0_charAt_5068e_1 rfl (fun v_ w_ sg_ hq_ => ?_)
  obtain ⟨rfl, rfl, rfl⟩ := hq_
  refine r_if_eqB (r := 16) dJ0_charAt_5068e_4 (by decide) rfl (fun c_4 => ?_) (fun c_4 => ?_)
  · exact absurd c_4 (by decide)
  · refine r_aload_n dJ0_charAt_5068e_7 rfl (zRv_ref _) rfl ?_
    refine r_getSV hi tw_1380 dJ0_charAt_5068e_8 rfl ?_
    refine r_iload_n dJ0_charAt_5068e_11 rfl rfl ?_
    refine r_callS MJ1_charAt_3b067 2 [_, _] lsJ0_495 (sp_charAt1 E w sg (d - 1) i k hi (by omega) hk) rfl rfl (by first | exact Nat.le_of_ble_eq_true rfl | (simp [zcat_rf, Value.category]; done)) (by omega) (Nat.le_of_eq (Nat.zero_add _)) (Nat.le_of_eq (Nat.zero_add _)) dJ0_charAt_5068e_12 rfl (fun v_ w_ sg_ hq_ => ?_)
    obtain ⟨rfl, rfl, rfl⟩ := hq_
    refine r_zret .char rfl (by first | exact zch_nar (by omega) | assumption | (simp only [*]; exact zch_nar (by omega))) dJ0_charAt_5068e_15 ?_
    exact ⟨rfl, rfl, rfl⟩
