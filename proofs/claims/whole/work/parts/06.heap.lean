set_option maxRecDepth 20000 in
theorem inX0 : ∀ w ∈ u_ws RX0 TX0 6, w ∈ lw_tbl := fun w h => (goodIn_r (big := lw_tbl) _ [471, 473, 475, 477, 479, 481] (by decide +kernel) (by decide +kernel) w h).1
set_option maxRecDepth 20000 in
theorem inX1 : ∀ w ∈ u_ws RX1 TX1 6, w ∈ lw_tbl := fun w h => (goodIn_r (big := lw_tbl) _ [705, 707, 709, 711, 713, 715] (by decide +kernel) (by decide +kernel) w h).1
set_option maxRecDepth 20000 in
theorem inX2 : ∀ w ∈ u_ws RX2 TX2 12, w ∈ lw_tbl := fun w h => (goodIn_r (big := lw_tbl) _ [397, 399, 401, 403, 405, 407, 409, 411, 413, 415, 417, 419] (by decide +kernel) (by decide +kernel) w h).1
set_option maxRecDepth 20000 in
theorem inX3 : ∀ w ∈ u_ws RX3 TX3 4, w ∈ lw_tbl := fun w h => (goodIn_r (big := lw_tbl) _ [507, 509, 511, 513] (by decide +kernel) (by decide +kernel) w h).1
set_option maxRecDepth 20000 in
theorem inX4 : ∀ w ∈ u_ws RX4 TX4 10, w ∈ lw_tbl := fun w h => (goodIn_r (big := lw_tbl) _ [172, 174, 176, 178, 180, 182, 184, 186, 188, 190] (by decide +kernel) (by decide +kernel) w h).1
set_option maxRecDepth 20000 in
theorem inX5 : ∀ w ∈ u_ws RX5 TX5 2, w ∈ lw_tbl := fun w h => (goodIn_r (big := lw_tbl) _ [731, 733] (by decide +kernel) (by decide +kernel) w h).1
set_option maxRecDepth 20000 in
theorem inX6 : ∀ w ∈ u_ws RX6 TX6 4, w ∈ lw_tbl := fun w h => (goodIn_r (big := lw_tbl) _ [559, 561, 563, 565] (by decide +kernel) (by decide +kernel) w h).1
set_option maxRecDepth 20000 in
theorem inX7 : ∀ w ∈ u_ws RX7 TX7 7, w ∈ lw_tbl := fun w h => (goodIn_r (big := lw_tbl) _ [361, 363, 365, 367, 369, 371, 373] (by decide +kernel) (by decide +kernel) w h).1
set_option maxRecDepth 20000 in
theorem inX8 : ∀ w ∈ u_ws RX8 TX8 7, w ∈ lw_tbl := fun w h => (goodIn_r (big := lw_tbl) _ [137, 139, 141, 143, 145, 147, 149] (by decide +kernel) (by decide +kernel) w h).1
set_option maxRecDepth 20000 in
theorem inX9 : ∀ w ∈ u_ws RX9 TX9 7, w ∈ lw_tbl := fun w h => (goodIn_r (big := lw_tbl) _ [200, 202, 204, 206, 208, 210, 212] (by decide +kernel) (by decide +kernel) w h).1
set_option maxRecDepth 20000 in
theorem inX10 : ∀ w ∈ u_ws RX10 TX10 57, w ∈ lw_tbl := fun w h => (goodIn_r (big := lw_tbl) _ [982, 984, 986, 988, 990, 992, 994, 996, 998, 1000, 1002, 1004, 1006, 1008, 1010, 1012, 1014, 1016, 1018, 1020, 1022, 1024, 1026, 1028, 1030, 1032, 1034, 1036, 1038, 1040, 1042, 1044, 1046, 1048, 1050, 1052, 1054, 1056, 1058, 1060, 1062, 1064, 1066, 1068, 1070, 1072, 1074, 1076, 1078, 1080, 1082, 1084, 1086, 1088, 1090, 1092, 1094] (by decide +kernel) (by decide +kernel) w h).1
/-! ===== the heap's rows ===== -/
/-- nothing at b is changed -/
def zsame (w w' : ZW) (b : Nat) : Prop := (∀ f, zi w' f b = zi w f b) ∧ (∀ f, zr w' f b = zr w f b) ∧ (∀ f, zf w' f b = zf w f b) ∧ zln w' b = zln w b ∧ za w' b = za w b ∧ zq w' b = zq w b ∧ zg w' b = zg w b ∧ zl w' b = zl w b ∧ zd w' b = zd w b
theorem zfv_same {w w' : ZW} {b : Nat} (h : zsame w w' b) (f t : Nat) : zfv w' b f t = zfv w b f t := by
  unfold zfv
  rw [h.1 f, h.2.1 f, h.2.2.1 f]
theorem zarr_same {w w' : ZW} {b : Nat} (h : zsame w w' b) (t : Nat) : zarr w' b t = zarr w b t := by
  unfold zarr
  rw [h.2.2.2.2.1, h.2.2.2.2.2.1, h.2.2.2.2.2.2.1, h.2.2.2.2.2.2.2.1, h.2.2.2.2.2.2.2.2]
theorem zOb_kept {E : ZE} {w w' : ZW} {b c : Nat} {H H1 : Heap} (h : zOb E w b c H) (hs : zsame w w' b) (hq : H1[b]? = H[b]?) : zOb E w' b c H1 := by
  refine (t_OB.kept h hq).to (fun k _ => ?_)
  exact (zfv_same hs _ _).symm
theorem zRw_kept {E : ZE} {w w' : ZW} {b t : Nat} {H H1 : Heap} (h : zRw E w b t H) (hs : zsame w w' b) (hq : H1[b]? = H[b]?) : zRw E w' b t H1 := by
  unfold zRw at *
  rw [hq, h, zarr_same hs, hs.2.2.2.1]
theorem zAt_kept {E : ZE} {w w' : ZW} {b : Nat} {H H1 : Heap} (h : zAt E w H b) (hk : zk w' b = zk w b) (hs : zsame w w' b) (hq : H1[b]? = H[b]?) : zAt E w' H1 b :=
  ⟨fun c hc e => zOb_kept (h.1 c hc (hk.symm.trans e)) hs hq, fun t ht e => zRw_kept (h.2 t ht (hk.symm.trans e)) hs hq⟩
theorem zMod_kept {E : ZE} {sg : ZM} {mo : Nat} {H H1 : Heap} (h : zMod E sg mo H) (hq : ∀ q, mo ≤ q → q ≤ mo + zmN → H1[q]? = H[q]?) : zMod E sg mo H1 :=
  ⟨t_OB.kept h.1 (hq mo (Nat.le_refl _) (Nat.le_add_right _ _)), fun k h1 h2 => by rw [hq (mo + k) (Nat.le_add_right _ _) (Nat.add_le_add_left h2 _)]; exact h.2 k h1 h2⟩
/-- a store into the cell a of the class's part -/
theorem ZAR.upd {E : ZE} {w w' : ZW} {sg : ZM} {H H1 : Heap} {a : Nat} (hP : ZAR E w sg H) (hz : H1.size = H.size) (oq : ∀ q : Nat, q ≠ a → H1[q]? = H[q]?) (hsz : zsz w' = zsz w) (hk : zk w' = zk w) (hs : ∀ b, b ≠ a → zsame w w' b) (ha : zk w a ≠ 0) (hat : zAt E w' H1 a) : ZAR E w' sg H1 := by
  obtain ⟨h1, h2, h3, h4⟩ := hP
  refine ⟨hz.trans (h1.trans hsz.symm), fun b hb => by rw [hk] at hb; rw [hsz]; exact h2 b hb, fun b => ?_, fun mo hm => ?_⟩
  · by_cases e : b = a
    · subst e; exact hat
    · exact zAt_kept (h3 b) (by rw [hk]) (hs b e) (oq b e)
  · obtain ⟨g1, g2, g3, g4⟩ := h4 mo hm
    refine ⟨g1, by rw [hsz]; exact g2, fun b l1 l2 => by rw [hk]; exact g3 b l1 l2, zMod_kept g4 (fun q l1 l2 => oq q (fun e => ha ?_))⟩
    rw [← e]
    exact g3 q l1 l2
/-- the classes' facts -/
def zFT (c k : Nat) : FieldType := match c with
  | 0 => tyX0 k
  | 1 => tyX1 k
  | 2 => tyX2 k
  | 3 => tyX3 k
  | 4 => tyX4 k
  | 5 => tyX5 k
  | 6 => tyX6 k
  | 7 => tyX7 k
  | 8 => tyX8 k
  | 9 => tyX9 k
  | _ => tyX10 k
theorem zgood_lays (C : String) (T : u_T) (N : Nat) : ∀ w ∈ u_ws C T N, goodWord w = true := by
  intro w hw
  obtain ⟨k, -, rfl⟩ := List.mem_map.mp hw
  unfold u_lay
  split <;> rfl
theorem zc11 {P : Nat → Prop} (h0 : P 0) (h1 : P 1) (h2 : P 2) (h3 : P 3) (h4 : P 4) (h5 : P 5) (h6 : P 6) (h7 : P 7) (h8 : P 8) (h9 : P 9) (h10 : P 10) : ∀ c, c < 11 → P c := by
  intro c hc
  match c, hc with
  | 0, _ => exact h0
  | 1, _ => exact h1
  | 2, _ => exact h2
  | 3, _ => exact h3
  | 4, _ => exact h4
  | 5, _ => exact h5
  | 6, _ => exact h6
  | 7, _ => exact h7
  | 8, _ => exact h8
  | 9, _ => exact h9
  | 10, _ => exact h10
theorem zC_at : ∀ c, c < 11 → vwCl[c]? = some ((zC c).1, (zC c).2.1, (zC c).2.2) := zc11 rfl rfl rfl rfl rfl rfl rfl rfl rfl rfl rfl
theorem zC_in : ∀ c, c < 11 → ∀ w ∈ u_ws (zC c).1 (zC c).2.1 (zC c).2.2, w ∈ zWs := fun c hc w hw => zWs_mem (zc11 (P := fun c => ∀ w ∈ u_ws (zC c).1 (zC c).2.1 (zC c).2.2, w ∈ lw_tbl) inX0 inX1 inX2 inX3 inX4 inX5 inX6 inX7 inX8 inX9 inX10 c hc w hw) (zgood_lays _ _ _ w hw)
theorem zC_ty : ∀ c, c < 11 → ∀ k, k < (zC c).2.2 → parseFieldDescriptor ((zC c).2.1 k).2.2.1 = some (zFT c k) := zc11 tyX0_ok tyX1_ok tyX2_ok tyX3_ok tyX4_ok tyX5_ok tyX6_ok tyX7_ok tyX8_ok tyX9_ok tyX10_ok
theorem zC_nm : ∀ c, c < 11 → ∀ a, a < (zC c).2.2 → ∀ b, b < (zC c).2.2 → a ≠ b → ((zC c).2.1 a).2.1 ≠ ((zC c).2.1 b).2.1 := zc11 nmX0 nmX1 nmX2 nmX3 nmX4 nmX5 nmX6 nmX7 nmX8 nmX9 nmX10
theorem zC_own : ∀ c, c < 11 → ∀ k, k < (zC c).2.2 → ((zC c).2.1 k).1 = (zC c).1 := zc11 (by decide +kernel) (by decide +kernel) (by decide +kernel) (by decide +kernel) (by decide +kernel) (by decide +kernel) (by decide +kernel) (by decide +kernel) (by decide +kernel) (by decide +kernel) (by decide +kernel)
/-- a field as this class's pool names it -/
def ZFL (own : String) (idx c k : Nat) : Prop := c < 11 ∧ k < (zC c).2.2 ∧ Cond.fieldLink own idx (zC c).1 ((zC c).2.1 k).2.1 ((zC c).2.1 k).2.2.1 ∈ zWs
section ZR1
variable {E : ZE} {M : ZMeth} {pc q : Nat} {ls : List (Option Value)} {st : List Value} {w : ZW} {sg : ZM} {d nc ns : Nat} {P : ZPhi} {idx a : Nat}
theorem r_getv (c k : Nat) (hf : ZFL M.1.cls idx c k) (hk : zk w a = c + 1) {v : Value} (hv : zV w a c k = v) (hd : decode M.2.1 pc = .ok (.getfield idx, 3)) (hq : pc + 3 = q) (kk : RW E M q ls (v :: st) w sg d nc ns P) : RW E M pc ls (.ref a :: st) w sg d nc ns P := by
  intro p e R s m args below meth cd H locs cells slots mc ms A h
  subst hq
  subst hv
  obtain ⟨hc, hkN, hl⟩ := hf
  obtain ⟨cell, q1, q2, q3, q4⟩ := (h.P.2.2.1 a).1 c hc hk
  obtain ⟨hS, hfc, kC, hkC, hkind⟩ := h.K.1 c _ (zC_at c hc)
  obtain ⟨cf, kf, fi, f, hi, hsl⟩ := hS k hkN
  rw [zC_own c hc k hkN] at hi
  have hin := fun w hw => h.ts w (zC_in c hc w hw)
  have hi' := hi
  rw [← zC_own c hc k hkN] at hi'
  refine W.getf h.x h.b h.own (h.ts _ hl) hi (u_facts hfc hkC (u_lays (ws := zWs) h.ts (zC_in c hc) hkN) hi').1 q1 (by rw [q3]; exact fun h => by cases h) (v := zV w a c k) ?_ rfl rfl hd (kk.u h)
  rw [hsl, q4 k hkN]
theorem r_geti (c k fd : Nat) (hf : ZFL M.1.cls idx c k) (hk : zk w a = c + 1) (ht : zty c k = 0) (hfd : 100 * c + 100 + k = fd) (hd : decode M.2.1 pc = .ok (.getfield idx, 3)) (hq : pc + 3 = q) (kk : RW E M q ls (.int (zi w fd a) :: st) w sg d nc ns P) : RW E M pc ls (.ref a :: st) w sg d nc ns P :=
  r_getv c k hf hk (by unfold zV zfv; rw [ht, hfd, if_pos rfl]) hd hq kk
theorem r_getr (c k fd : Nat) (hf : ZFL M.1.cls idx c k) (hk : zk w a = c + 1) (ht : zty c k = 1) (hfd : 100 * c + 100 + k = fd) (hd : decode M.2.1 pc = .ok (.getfield idx, 3)) (hq : pc + 3 = q) (kk : RW E M q ls (va_rf (zr w fd a) :: st) w sg d nc ns P) : RW E M pc ls (.ref a :: st) w sg d nc ns P :=
  r_getv c k hf hk (by unfold zV zfv; rw [ht, hfd]; rfl) hd hq kk
theorem r_gets (c k fd : Nat) {x : Nat} (hf : ZFL M.1.cls idx c k) (hk : zk w a = c + 1) (ht : zty c k = 1) (hfd : 100 * c + 100 + k = fd) (hx : zr w fd a = some x) (hd : decode M.2.1 pc = .ok (.getfield idx, 3)) (hq : pc + 3 = q) (kk : RW E M q ls (.ref x :: st) w sg d nc ns P) : RW E M pc ls (.ref a :: st) w sg d nc ns P :=
  r_getv c k hf hk (by unfold zV zfv; rw [ht, hfd, hx]; rfl) hd hq kk
theorem r_getf (c k fd : Nat) (hf : ZFL M.1.cls idx c k) (hk : zk w a = c + 1) (ht : zty c k = 2) (hfd : 100 * c + 100 + k = fd) (hd : decode M.2.1 pc = .ok (.getfield idx, 3)) (hq : pc + 3 = q) (kk : RW E M q ls (.float (zf w fd a) :: st) w sg d nc ns P) : RW E M pc ls (.ref a :: st) w sg d nc ns P :=
  r_getv c k hf hk (by unfold zV zfv; rw [ht, hfd]; rfl) hd hq kk
/-- a store into a field: what the world becomes is said by its values -/
theorem r_putv (c k : Nat) (hf : ZFL M.1.cls idx c k) (hk : zk w a = c + 1) (hfin : ((zC c).2.1 k).2.2.2 = false ∨ (M.1.name = "<init>" ∧ (zC c).1 = M.1.cls)) {v : Value} (hn : narrow (zFT c k) v = v) (hfit : fits (zFT c k) v = true) {w' : ZW} (h1 : zsz w' = zsz w) (h2 : zk w' = zk w) (h3 : ∀ b, b ≠ a → zsame w w' b) (h4 : ∀ j, j < (zC c).2.2 → zV w' a c j = if j = k then v else zV w a c j) (hd : decode M.2.1 pc = .ok (.putfield idx, 3)) (hq : pc + 3 = q) (kk : RW E M q ls st w' sg d nc ns P) : RW E M pc ls (v :: .ref a :: st) w sg d nc ns P := by
  intro p e R s m args below meth cd H locs cells slots mc ms A h
  subst hq
  obtain ⟨hc, hkN, hl⟩ := hf
  have hP := h.P
  obtain ⟨cell, q1, q2, q3, q4⟩ := (hP.2.2.1 a).1 c hc hk
  have hK := h.K
  have hap := va_apart (own := M.1.cls) h.ts (zC_in c hc) (zFT c) (zC_ty c hc) (zC_nm c hc) hK (zC_at c hc)
  obtain ⟨hS, hfc, kC, hkC, hkind⟩ := hK.1 c _ (zC_at c hc)
  obtain ⟨cf, kf, fi, f, hi, hsl⟩ := hS k hkN
  have hi2 := hi
  rw [zC_own c hc k hkN] at hi2
  have hlay := h.ts _ (zC_in c hc _ (u_in_lay hkN))
  have hst := (u_facts hfc hkC (u_lays (ws := zWs) h.ts (zC_in c hc) hkN) hi).1
  have hne : zk w a ≠ 0 := by rw [hk]; exact Nat.succ_ne_zero _
  have fin : ∀ H' : Heap, H'[a]? = some (cell.setSlot f.slot v) → H'.size = H.size → (∀ q, q ≠ a → H'[q]? = H[q]?) → ZS E M ls w' sg d nc ns p R s m args meth cd H' (locs ++ [⟨a, f.slot⟩]) cells slots mc ms A := by
    intro H' e1 e2 e3
    refine h.hp (hP.upd e2 e3 h1 h2 h3 hne ⟨fun c' hc' e' => ?_, fun t ht e' => ?_⟩) (h.S.put e2 e3 (hP.2.1 a hne).1)
    · have : c' = c := by rw [h2] at e'; omega
      subst this
      rw [hsl] at e1
      refine t_OB.to (V := updV (zV w a c') k v) ⟨_, e1, q2, q3, t_set q4 hap hkN v⟩ (fun j hj => ?_)
      rw [h4 j hj]
      simp only [updV]
    · rw [h2] at e'; omega
  unfold u_lay at hlay
  by_cases hb : ((zC c).2.1 k).2.2.2 = true
  · rw [if_pos hb] at hlay
    obtain ⟨hin, hcls⟩ := hfin.resolve_left (by rw [hb]; decide)
    have hcf : m.cls = cf := by
      obtain ⟨_, _, c', _, _, _, -, -, hf', -, -, -, hown2, -⟩ := Cond.laysFinal_spec hlay
      have e1 : c' = cf := by have := hi.symm.trans hf'; simp at this; exact this.1.symm
      rw [zC_own c hc k hkN, hcls] at hown2
      rw [← e1]; exact Option.some.inj (h.own.symm.trans hown2)
    have h6 := u_fits hfc hkC hkind (Or.inr hlay) hi (zC_ty c hc k hkN) hn hfit
    exact W.putFinK h.x h.b h.own (h.ts _ hl) hi2 hst hcf (h.nm.trans hin) (by rw [q2]; exact h6) q1 q3 (by rw [hsl]; exact k2_hasslot (q4 k hkN)) rfl rfl hd fun H' e1 e2 e3 => kk.u (fin H' e1 e2 e3)
  · rw [if_neg hb] at hlay
    have h6 := u_store hfc hkC hkind hlay hi (zC_ty c hc k hkN) hn hfit
    exact W.putK h.x h.b (f := f) ⟨h.own, h.ts _ hl, ⟨_, _, _, hi2⟩, hst⟩ (by rw [q2]; exact h6) q1 q3 (by rw [hsl]; exact k2_hasslot (q4 k hkN)) rfl rfl hd fun H' e1 e2 e3 => kk.u (fin H' e1 e2 e3)
end ZR1
