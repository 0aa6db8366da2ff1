/-! ===== the model's store ===== -/
def mi (sg : ZM) : Nat → Int32 := sg.1
def ma (sg : ZM) : Nat → Nat → Int32 := sg.2.1
def mg (sg : ZM) : Nat → Nat → UInt32 := sg.2.2
def msi (sg : ZM) (k : Nat) (v : Int32) : ZM := (z1 (mi sg) k v, ma sg, mg sg)
def msa (sg : ZM) (a i : Nat) (v : Int32) : ZM := (mi sg, z2 (ma sg) a i v, mg sg)
def msg (sg : ZM) (a i : Nat) (v : UInt32) : ZM := (mi sg, ma sg, z2 (mg sg) a i v)
theorem mi_msi (sg : ZM) (k : Nat) (v : Int32) (x : Nat) : mi (msi sg k v) x = if x = k then v else mi sg x := rfl
theorem ma_msi (sg : ZM) (k : Nat) (v : Int32) : ma (msi sg k v) = ma sg := rfl
theorem mg_msi (sg : ZM) (k : Nat) (v : Int32) : mg (msi sg k v) = mg sg := rfl
theorem mi_msa (sg : ZM) (a i : Nat) (v : Int32) : mi (msa sg a i v) = mi sg := rfl
theorem ma_msa (sg : ZM) (a i : Nat) (v : Int32) (x y : Nat) : ma (msa sg a i v) x y = if x = a ∧ y = i then v else ma sg x y := rfl
theorem mg_msa (sg : ZM) (a i : Nat) (v : Int32) : mg (msa sg a i v) = mg sg := rfl
theorem mi_msg (sg : ZM) (a i : Nat) (v : UInt32) : mi (msg sg a i v) = mi sg := rfl
theorem ma_msg (sg : ZM) (a i : Nat) (v : UInt32) : ma (msg sg a i v) = ma sg := rfl
theorem mg_msg (sg : ZM) (a i : Nat) (v : UInt32) (x y : Nat) : mg (msg sg a i v) x y = if x = a ∧ y = i then v else mg sg x y := rfl
theorem ZAR.updM {E : ZE} {w : ZW} {sg sg' : ZM} {H H1 : Heap} {mo a : Nat} (hP : ZAR E w sg H) (hm : E.2.2.2.2 = some mo) (h1 : mo ≤ a) (h2 : a ≤ mo + zmN) (hz : H1.size = H.size) (oq : ∀ q : Nat, q ≠ a → H1[q]? = H[q]?) (hat : zMod E sg' mo H1) : ZAR E w sg' H1 := by
  obtain ⟨g1, g2, g3, g4⟩ := hP
  obtain ⟨k1, k2, k3, k4⟩ := g4 mo hm
  refine ⟨hz.trans g1, g2, fun b => ?_, fun mo' hm' => ?_⟩
  · by_cases e : b = a
    · subst e
      have h0 := k3 b h1 h2
      exact ⟨fun c _ e1 => by omega, fun t _ e1 => by omega⟩
    · exact zAt_kept (g3 b) rfl ⟨fun _ => rfl, fun _ => rfl, fun _ => rfl, rfl, rfl, rfl, rfl, rfl, rfl⟩ (oq b e)
  · have : mo' = mo := Option.some.inj (hm'.symm.trans hm)
    subst this
    exact ⟨k1, k2, k3, hat⟩
theorem zml_lt (j : Nat) : zml j < 2147483648 := by
  have h : ∀ l : List Nat, (∀ x ∈ l, x < 2147483648) → ∀ j, l.getD j 0 < 2147483648 := by
    intro l hl j
    rw [List.getD_eq_getElem?_getD]
    cases hj : l[j]? with
    | none => decide
    | some x => exact hl x (List.mem_of_getElem? hj)
  exact h _ (by decide) j
section ZRM
variable {E : ZE} {M : ZMeth} {pc q : Nat} {ls : List (Option Value)} {st : List Value} {w : ZW} {sg : ZM} {d nc ns : Nat} {P : ZPhi} {idx mo : Nat}
theorem m_getv (hm : E.2.2.2.2 = some mo) (k : Nat) (hf : ZFL M.1.cls idx 10 k) {v : Value} (hv : zMV sg mo k = v) (hd : decode M.2.1 pc = .ok (.getfield idx, 3)) (hq : pc + 3 = q) (kk : RW E M q ls (v :: st) w sg d nc ns P) : RW E M pc ls (.ref mo :: st) w sg d nc ns P := by
  intro p e R s m args below meth cd H locs cells slots mc ms A h
  subst hq
  subst hv
  obtain ⟨hc, hkN, hl⟩ := hf
  obtain ⟨-, -, -, ⟨cell, q1, q2, q3, q4⟩, -⟩ := h.P.2.2.2 mo hm
  obtain ⟨hS, hfc, kC, hkC, hkind⟩ := h.K.1 10 _ (zC_at 10 hc)
  obtain ⟨cf, kf, fi, f, hi, hsl⟩ := hS k hkN
  have hi' := hi
  rw [zC_own 10 hc k hkN] at hi
  refine W.getf h.x h.b h.own (h.ts _ hl) hi (u_facts hfc hkC (u_lays (ws := zWs) h.ts (zC_in 10 hc) hkN) hi').1 q1 (by rw [q3]; exact fun h => by cases h) (v := zMV sg mo k) ?_ rfl rfl hd (kk.u h)
  rw [hsl, q4 k hkN]
theorem m_geti (hm : E.2.2.2.2 = some mo) (k : Nat) (hf : ZFL M.1.cls idx 10 k) (hz : zmk k = 0) (hd : decode M.2.1 pc = .ok (.getfield idx, 3)) (hq : pc + 3 = q) (kk : RW E M q ls (.int (mi sg k) :: st) w sg d nc ns P) : RW E M pc ls (.ref mo :: st) w sg d nc ns P :=
  m_getv hm k hf (by unfold zMV; rw [hz]; rfl) hd hq kk
theorem m_geta (hm : E.2.2.2.2 = some mo) (k j : Nat) (hf : ZFL M.1.cls idx 10 k) (hz : zmk k = j) (h0 : j ≠ 0) (hd : decode M.2.1 pc = .ok (.getfield idx, 3)) (hq : pc + 3 = q) (kk : RW E M q ls (.ref (mo + j) :: st) w sg d nc ns P) : RW E M pc ls (.ref mo :: st) w sg d nc ns P :=
  m_getv hm k hf (by unfold zMV; rw [hz, if_neg h0]) hd hq kk
theorem m_putv (hm : E.2.2.2.2 = some mo) (k : Nat) {v : Int32} (hf : ZFL M.1.cls idx 10 k) (hz : zmk k = 0) (hfin : ((zC 10).2.1 k).2.2.2 = false) (hn : narrow (zFT 10 k) (.int v) = .int v) (hfit : fits (zFT 10 k) (.int v) = true) (hd : decode M.2.1 pc = .ok (.putfield idx, 3)) (hq : pc + 3 = q) (kk : RW E M q ls st w (msi sg k v) d nc ns P) : RW E M pc ls (.int v :: .ref mo :: st) w sg d nc ns P := by
  intro p e R s m args below meth cd H locs cells slots mc ms A h
  subst hq
  obtain ⟨hc, hkN, hl⟩ := hf
  have hP := h.P
  obtain ⟨b1, b2, b3, ⟨cell, q1, q2, q3, q4⟩, hrw⟩ := hP.2.2.2 mo hm
  have hK := h.K
  have hap := va_apart (own := M.1.cls) h.ts (zC_in 10 hc) (zFT 10) (zC_ty 10 hc) (zC_nm 10 hc) hK (zC_at 10 hc)
  obtain ⟨hS, hfc, kC, hkC, hkind⟩ := hK.1 10 _ (zC_at 10 hc)
  obtain ⟨cf, kf, fi, f, hi, hsl⟩ := hS k hkN
  have hi2 := hi
  rw [zC_own 10 hc k hkN] at hi2
  have hlay := h.ts _ (zC_in 10 hc _ (u_in_lay hkN))
  have hst := (u_facts hfc hkC (u_lays (ws := zWs) h.ts (zC_in 10 hc) hkN) hi).1
  unfold u_lay at hlay
  rw [if_neg (by rw [hfin]; decide)] at hlay
  have h6 := u_store hfc hkC hkind hlay hi (zC_ty 10 hc k hkN) hn hfit
  refine W.putK h.x h.b (f := f) ⟨h.own, h.ts _ hl, ⟨_, _, _, hi2⟩, hst⟩ (by rw [q2]; exact h6) q1 q3 (by rw [hsl]; exact k2_hasslot (q4 k hkN)) rfl rfl hd fun H' e1 e2 e3 => kk.u (h.hp (hP.updM hm (Nat.le_refl _) (Nat.le_add_right _ _) e2 e3 ⟨?_, fun j j1 j2 => ?_⟩) (h.S.put e2 e3 b1))
  · rw [hsl] at e1
    refine t_OB.to (V := updV (zMV sg mo) k (.int v)) ⟨_, e1, q2, q3, t_set q4 hap hkN (.int v)⟩ (fun j hj => ?_)
    simp only [updV, zMV]
    by_cases e : j = k
    · subst e
      rw [if_pos rfl, if_pos hz]
      simp [msi, z1]
    · rw [if_neg e]
      have : (msi sg k v).1 j = sg.1 j := if_neg e
      rw [this]
  · rw [e3 (mo + j) (t_ne (by omega))]
    exact hrw j j1 j2
theorem m_puti (hm : E.2.2.2.2 = some mo) (k : Nat) {v : Int32} (hf : ZFL M.1.cls idx 10 k) (hz : zmk k = 0) (hfin : ((zC 10).2.1 k).2.2.2 = false) (hT : zFT 10 k = .int) (hd : decode M.2.1 pc = .ok (.putfield idx, 3)) (hq : pc + 3 = q) (kk : RW E M q ls st w (msi sg k v) d nc ns P) : RW E M pc ls (.int v :: .ref mo :: st) w sg d nc ns P :=
  m_putv hm k hf hz hfin (by rw [hT]; rfl) (by rw [hT]; rfl) hd hq kk
theorem m_putz (hm : E.2.2.2.2 = some mo) (k : Nat) {v : Int32} (hv : v = 0 ∨ v = 1) (hf : ZFL M.1.cls idx 10 k) (hz : zmk k = 0) (hfin : ((zC 10).2.1 k).2.2.2 = false) (hT : zFT 10 k = .boolean) (hd : decode M.2.1 pc = .ok (.putfield idx, 3)) (hq : pc + 3 = q) (kk : RW E M q ls st w (msi sg k v) d nc ns P) : RW E M pc ls (.int v :: .ref mo :: st) w sg d nc ns P :=
  m_putv hm k hf hz hfin (by rw [hT]; rcases hv with rfl | rfl <;> decide) (by rw [hT]; rcases hv with rfl | rfl <;> decide) hd hq kk
theorem zmrowP {H : Heap} (hm : zMod E sg mo H) (j : Nat) (h1 : 1 ≤ j) (h2 : j ≤ zmN) : va_P E.2.2.1 vwCl [(mo + j, .inl (E.2.2.2.1 (zmt j), zml j, zMrow sg j))] H := by
  intro k q hk
  match k, hk with
  | 0, hk => cases hk; exact hm.2 j h1 h2
  | k + 1, hk => simp at hk
theorem m_iald (hm : E.2.2.2.2 = some mo) {x : Int32} (j i : Nat) (h1 : 1 ≤ j) (h2 : j ≤ zmN) (ht : zmt j = 2) (hx : x = nI i) (hi : i < zml j) (hd : decode M.2.1 pc = .ok (.iaload, 1)) (hq : pc + 1 = q) (kk : RW E M q ls (.int (ma sg j i) :: st) w sg d nc ns P) : RW E M pc ls (.int x :: .ref (mo + j) :: st) w sg d nc ns P := by
  intro p e R s m args below meth c H locs cells slots mc ms A h
  subst hq
  subst hx
  have hP := zmrowP (h.P.2.2.2 mo hm).2.2.2 j h1 h2
  have hi2 : i < 2147483648 := Nat.lt_trans hi (zml_lt j)
  rw [ht, show zMrow sg j = .inl (ma sg j) by unfold zMrow; rw [ht]; rfl] at hP
  rw [← zcl hi2] at kk
  exact va_iald h.x h.b h.K hP 0 2 rfl rfl (zin hi hi2) hd (kk.u h)
theorem m_cald (hm : E.2.2.2.2 = some mo) {x : Int32} (j i : Nat) (h1 : 1 ≤ j) (h2 : j ≤ zmN) (ht : zmt j = 0) (hx : x = nI i) (hi : i < zml j) (hd : decode M.2.1 pc = .ok (.caload, 1)) (hq : pc + 1 = q) (kk : RW E M q ls (.int (ma sg j i) :: st) w sg d nc ns P) : RW E M pc ls (.int x :: .ref (mo + j) :: st) w sg d nc ns P := by
  intro p e R s m args below meth c H locs cells slots mc ms A h
  subst hq
  subst hx
  have hP := zmrowP (h.P.2.2.2 mo hm).2.2.2 j h1 h2
  have hi2 : i < 2147483648 := Nat.lt_trans hi (zml_lt j)
  rw [ht, show zMrow sg j = .inl (ma sg j) by unfold zMrow; rw [ht]; rfl] at hP
  rw [← zcl hi2] at kk
  exact va_cald h.x h.b h.K hP 0 0 rfl rfl (zin hi hi2) hd (kk.u h)
theorem m_zald (hm : E.2.2.2.2 = some mo) {x : Int32} (j i : Nat) (h1 : 1 ≤ j) (h2 : j ≤ zmN) (ht : zmt j = 3) (hx : x = nI i) (hi : i < zml j) (hd : decode M.2.1 pc = .ok (.baload, 1)) (hq : pc + 1 = q) (kk : RW E M q ls (.int (ma sg j i) :: st) w sg d nc ns P) : RW E M pc ls (.int x :: .ref (mo + j) :: st) w sg d nc ns P := by
  intro p e R s m args below meth c H locs cells slots mc ms A h
  subst hq
  subst hx
  have hP := zmrowP (h.P.2.2.2 mo hm).2.2.2 j h1 h2
  have hi2 : i < 2147483648 := Nat.lt_trans hi (zml_lt j)
  rw [ht, show zMrow sg j = .inl (ma sg j) by unfold zMrow; rw [ht]; rfl] at hP
  rw [← zcl hi2] at kk
  exact va_zald h.x h.b h.K hP 0 3 rfl rfl (zin hi hi2) hd (kk.u h)
theorem m_fald (hm : E.2.2.2.2 = some mo) {x : Int32} (j i : Nat) (h1 : 1 ≤ j) (h2 : j ≤ zmN) (ht : zmt j = 1) (hx : x = nI i) (hi : i < zml j) (hd : decode M.2.1 pc = .ok (.faload, 1)) (hq : pc + 1 = q) (kk : RW E M q ls (.float (mg sg j i) :: st) w sg d nc ns P) : RW E M pc ls (.int x :: .ref (mo + j) :: st) w sg d nc ns P := by
  intro p e R s m args below meth c H locs cells slots mc ms A h
  subst hq
  subst hx
  have hP := zmrowP (h.P.2.2.2 mo hm).2.2.2 j h1 h2
  have hi2 : i < 2147483648 := Nat.lt_trans hi (zml_lt j)
  rw [ht, show zMrow sg j = .inr (.inr (.inl (mg sg j))) by unfold zMrow; rw [ht]; rfl] at hP
  rw [← zcl hi2] at kk
  exact va_fald h.x h.b h.K hP 0 1 rfl rfl (zin hi hi2) hd (kk.u h)
theorem m_iast (hm : E.2.2.2.2 = some mo) {x : Int32} {v : Int32} (j i : Nat)  (h1 : 1 ≤ j) (h2 : j ≤ zmN) (ht : zmt j = 2) (hx : x = nI i) (hi : i < zml j) (hd : decode M.2.1 pc = .ok (.iastore, 1)) (hq : pc + 1 = q) (kk : RW E M q ls st w (msa sg j i v) d nc ns P) : RW E M pc ls (.int v :: .int x :: .ref (mo + j) :: st) w sg d nc ns P := by
  intro p e R s m args below meth c H locs cells slots mc ms A h
  subst hq
  subst hx
  obtain ⟨b1, b2, b3, hmd⟩ := h.P.2.2.2 mo hm
  have hi2 : i < 2147483648 := Nat.lt_trans hi (zml_lt j)
  have hr : H[mo + j]? = some (arrV (E.2.2.2.1 2) (zml j) (fun q => .int (ma sg j q))) := by
    have h9 := hmd.2 j h1 h2
    rw [ht, show zMrow sg j = .inl (ma sg j) by unfold zMrow; rw [ht]; rfl] at h9
    exact h9
  refine W.iast h.x h.b hr ((h.K.2 2 _ rfl).1 (zml j) _) (fun q => by cases q) (by show ¬ (nI i < 0 ∨ (arrV _ _ _).slots.size ≤ _); rw [arrV_size]; exact zin hi hi2) rfl rfl hd fun H1 e1 e2 e3 => ?_
  refine kk.u (h.hp (h.P.updM hm (a := mo + j) (Nat.le_add_right _ _) (Nat.add_le_add_left h2 _) e2 e3 ⟨?_, fun k k1 k2 => ?_⟩) (h.S.put e2 e3 (Nat.le_trans b1 (Nat.le_add_right _ _))))
  · exact t_OB.kept hmd.1 (e3 mo (t_ne (by omega)))
  · by_cases ek : k = j
    · subst ek
      have e8 : H1[mo + k]? = some ((arrV (E.2.2.2.1 2) (zml k) (fun q => .int (ma sg k q))).setSlot (nI i).toNatClampNeg (.int v)) := e1
      rw [e8, arrV_store, zcl hi2, ht]
      have hz : zMrow (msa sg k i v) k = .inl (ma (msa sg k i v) k) := by unfold zMrow; rw [ht]; rfl
      rw [hz]
      show some (arrV _ _ _) = some (arrV _ _ (fun q => .int (ma (msa sg k i v) k q)))
      congr 2
      funext q
      simp only [updV, ma_msa]
      by_cases e : q = i
      · subst e; simp
      · simp [e]
    · rw [e3 (mo + k) (t_ne (by omega)), hmd.2 k k1 k2]
      have hz : zMrow (msa sg j i v) k = zMrow sg k := by
        unfold zMrow
        show (if _ then Sum.inr (Sum.inr (Sum.inl (mg (msa sg j i v) k))) else Sum.inl (ma (msa sg j i v) k)) = (if _ then Sum.inr (Sum.inr (Sum.inl (mg sg k))) else Sum.inl (ma sg k))
        have : ma (msa sg j i v) k = ma sg k := by
          funext y
          rw [ma_msa, if_neg (fun e => ek e.1)]
        rw [this]
        rfl
      rw [hz]
theorem m_cast (hm : E.2.2.2.2 = some mo) {x : Int32} {v : Int32} (j i : Nat) (hv : narrow .char (.int v) = .int v) (h1 : 1 ≤ j) (h2 : j ≤ zmN) (ht : zmt j = 0) (hx : x = nI i) (hi : i < zml j) (hd : decode M.2.1 pc = .ok (.castore, 1)) (hq : pc + 1 = q) (kk : RW E M q ls st w (msa sg j i v) d nc ns P) : RW E M pc ls (.int v :: .int x :: .ref (mo + j) :: st) w sg d nc ns P := by
  intro p e R s m args below meth c H locs cells slots mc ms A h
  subst hq
  subst hx
  obtain ⟨b1, b2, b3, hmd⟩ := h.P.2.2.2 mo hm
  have hi2 : i < 2147483648 := Nat.lt_trans hi (zml_lt j)
  have hr : H[mo + j]? = some (arrV (E.2.2.2.1 0) (zml j) (fun q => .int (ma sg j q))) := by
    have h9 := hmd.2 j h1 h2
    rw [ht, show zMrow sg j = .inl (ma sg j) by unfold zMrow; rw [ht]; rfl] at h9
    exact h9
  refine W.cast h.x h.b hr ((h.K.2 0 _ rfl).1 (zml j) _) (fun q => by cases q) (by show ¬ (nI i < 0 ∨ (arrV _ _ _).slots.size ≤ _); rw [arrV_size]; exact zin hi hi2) rfl rfl hd fun H1 e1 e2 e3 => ?_
  refine kk.u (h.hp (h.P.updM hm (a := mo + j) (Nat.le_add_right _ _) (Nat.add_le_add_left h2 _) e2 e3 ⟨?_, fun k k1 k2 => ?_⟩) (h.S.put e2 e3 (Nat.le_trans b1 (Nat.le_add_right _ _))))
  · exact t_OB.kept hmd.1 (e3 mo (t_ne (by omega)))
  · by_cases ek : k = j
    · subst ek
      have e8 : H1[mo + k]? = some ((arrV (E.2.2.2.1 0) (zml k) (fun q => .int (ma sg k q))).setSlot (nI i).toNatClampNeg (.int v)) := by rw [← hv]; exact e1
      rw [e8, arrV_store, zcl hi2, ht]
      have hz : zMrow (msa sg k i v) k = .inl (ma (msa sg k i v) k) := by unfold zMrow; rw [ht]; rfl
      rw [hz]
      show some (arrV _ _ _) = some (arrV _ _ (fun q => .int (ma (msa sg k i v) k q)))
      congr 2
      funext q
      simp only [updV, ma_msa]
      by_cases e : q = i
      · subst e; simp
      · simp [e]
    · rw [e3 (mo + k) (t_ne (by omega)), hmd.2 k k1 k2]
      have hz : zMrow (msa sg j i v) k = zMrow sg k := by
        unfold zMrow
        show (if _ then Sum.inr (Sum.inr (Sum.inl (mg (msa sg j i v) k))) else Sum.inl (ma (msa sg j i v) k)) = (if _ then Sum.inr (Sum.inr (Sum.inl (mg sg k))) else Sum.inl (ma sg k))
        have : ma (msa sg j i v) k = ma sg k := by
          funext y
          rw [ma_msa, if_neg (fun e => ek e.1)]
        rw [this]
        rfl
      rw [hz]
theorem m_zast (hm : E.2.2.2.2 = some mo) {x : Int32} {v : Int32} (j i : Nat) (hv : narrow .boolean (.int v) = .int v) (h1 : 1 ≤ j) (h2 : j ≤ zmN) (ht : zmt j = 3) (hx : x = nI i) (hi : i < zml j) (hd : decode M.2.1 pc = .ok (.bastore, 1)) (hq : pc + 1 = q) (kk : RW E M q ls st w (msa sg j i v) d nc ns P) : RW E M pc ls (.int v :: .int x :: .ref (mo + j) :: st) w sg d nc ns P := by
  intro p e R s m args below meth c H locs cells slots mc ms A h
  subst hq
  subst hx
  obtain ⟨b1, b2, b3, hmd⟩ := h.P.2.2.2 mo hm
  have hi2 : i < 2147483648 := Nat.lt_trans hi (zml_lt j)
  have hr : H[mo + j]? = some (arrV (E.2.2.2.1 3) (zml j) (fun q => .int (ma sg j q))) := by
    have h9 := hmd.2 j h1 h2
    rw [ht, show zMrow sg j = .inl (ma sg j) by unfold zMrow; rw [ht]; rfl] at h9
    exact h9
  refine W.zast h.x h.b hr ((h.K.2 3 _ rfl).1 (zml j) _) (fun q => by cases q) (by show ¬ (nI i < 0 ∨ (arrV _ _ _).slots.size ≤ _); rw [arrV_size]; exact zin hi hi2) rfl rfl hd fun H1 e1 e2 e3 => ?_
  refine kk.u (h.hp (h.P.updM hm (a := mo + j) (Nat.le_add_right _ _) (Nat.add_le_add_left h2 _) e2 e3 ⟨?_, fun k k1 k2 => ?_⟩) (h.S.put e2 e3 (Nat.le_trans b1 (Nat.le_add_right _ _))))
  · exact t_OB.kept hmd.1 (e3 mo (t_ne (by omega)))
  · by_cases ek : k = j
    · subst ek
      have e8 : H1[mo + k]? = some ((arrV (E.2.2.2.1 3) (zml k) (fun q => .int (ma sg k q))).setSlot (nI i).toNatClampNeg (.int v)) := by rw [← hv]; exact e1
      rw [e8, arrV_store, zcl hi2, ht]
      have hz : zMrow (msa sg k i v) k = .inl (ma (msa sg k i v) k) := by unfold zMrow; rw [ht]; rfl
      rw [hz]
      show some (arrV _ _ _) = some (arrV _ _ (fun q => .int (ma (msa sg k i v) k q)))
      congr 2
      funext q
      simp only [updV, ma_msa]
      by_cases e : q = i
      · subst e; simp
      · simp [e]
    · rw [e3 (mo + k) (t_ne (by omega)), hmd.2 k k1 k2]
      have hz : zMrow (msa sg j i v) k = zMrow sg k := by
        unfold zMrow
        show (if _ then Sum.inr (Sum.inr (Sum.inl (mg (msa sg j i v) k))) else Sum.inl (ma (msa sg j i v) k)) = (if _ then Sum.inr (Sum.inr (Sum.inl (mg sg k))) else Sum.inl (ma sg k))
        have : ma (msa sg j i v) k = ma sg k := by
          funext y
          rw [ma_msa, if_neg (fun e => ek e.1)]
        rw [this]
        rfl
      rw [hz]
theorem m_fast (hm : E.2.2.2.2 = some mo) {x : Int32} {v : UInt32} (j i : Nat)  (h1 : 1 ≤ j) (h2 : j ≤ zmN) (ht : zmt j = 1) (hx : x = nI i) (hi : i < zml j) (hd : decode M.2.1 pc = .ok (.fastore, 1)) (hq : pc + 1 = q) (kk : RW E M q ls st w (msg sg j i v) d nc ns P) : RW E M pc ls (.float v :: .int x :: .ref (mo + j) :: st) w sg d nc ns P := by
  intro p e R s m args below meth c H locs cells slots mc ms A h
  subst hq
  subst hx
  obtain ⟨b1, b2, b3, hmd⟩ := h.P.2.2.2 mo hm
  have hi2 : i < 2147483648 := Nat.lt_trans hi (zml_lt j)
  have hr : H[mo + j]? = some (arrV (E.2.2.2.1 1) (zml j) (fun q => .float (mg sg j q))) := by
    have h9 := hmd.2 j h1 h2
    rw [ht, show zMrow sg j = .inr (.inr (.inl (mg sg j))) by unfold zMrow; rw [ht]; rfl] at h9
    exact h9
  refine W.fast h.x h.b hr ((h.K.2 1 _ rfl).1 (zml j) _) (fun q => by cases q) (by show ¬ (nI i < 0 ∨ (arrV _ _ _).slots.size ≤ _); rw [arrV_size]; exact zin hi hi2) rfl rfl hd fun H1 e1 e2 e3 => ?_
  refine kk.u (h.hp (h.P.updM hm (a := mo + j) (Nat.le_add_right _ _) (Nat.add_le_add_left h2 _) e2 e3 ⟨?_, fun k k1 k2 => ?_⟩) (h.S.put e2 e3 (Nat.le_trans b1 (Nat.le_add_right _ _))))
  · exact t_OB.kept hmd.1 (e3 mo (t_ne (by omega)))
  · by_cases ek : k = j
    · subst ek
      have e8 : H1[mo + k]? = some ((arrV (E.2.2.2.1 1) (zml k) (fun q => .float (mg sg k q))).setSlot (nI i).toNatClampNeg (.float v)) := e1
      rw [e8, arrV_store, zcl hi2, ht]
      have hz : zMrow (msg sg k i v) k = .inr (.inr (.inl (mg (msg sg k i v) k))) := by unfold zMrow; rw [ht]; rfl
      rw [hz]
      show some (arrV _ _ _) = some (arrV _ _ (fun q => .float (mg (msg sg k i v) k q)))
      congr 2
      funext q
      simp only [updV, mg_msg]
      by_cases e : q = i
      · subst e; simp
      · simp [e]
    · rw [e3 (mo + k) (t_ne (by omega)), hmd.2 k k1 k2]
      have hz : zMrow (msg sg j i v) k = zMrow sg k := by
        unfold zMrow
        show (if _ then Sum.inr (Sum.inr (Sum.inl (mg (msg sg j i v) k))) else Sum.inl (ma (msg sg j i v) k)) = (if _ then Sum.inr (Sum.inr (Sum.inl (mg sg k))) else Sum.inl (ma sg k))
        have : mg (msg sg j i v) k = mg sg k := by
          funext y
          rw [mg_msg, if_neg (fun e => ek e.1)]
        rw [this]
        rfl
      rw [hz]
end ZRM
