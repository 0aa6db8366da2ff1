section ZR2
variable {E : ZE} {M : ZMeth} {pc q : Nat} {ls : List (Option Value)} {st : List Value} {w : ZW} {sg : ZM} {d nc ns : Nat} {P : ZPhi} {idx a : Nat}

def zisR : FieldType → Bool
  | .object _ => true
  | .array _ => true
  | _ => false
theorem zisR_ok {t : FieldType} (h : zisR t = true) (o : Option Nat) : narrow t (va_rf o) = va_rf o ∧ fits t (va_rf o) = true := by
  cases t <;> first | (cases h; done) | (cases o <;> exact ⟨rfl, rfl⟩)
theorem z2_ne {α : Type} {f : Nat → Nat → α} {a b x y : Nat} {v : α} (h : ¬ (x = a ∧ y = b)) : z2 f a b v x y = f x y := if_neg h
theorem z2_eq {α : Type} {f : Nat → Nat → α} {a b : Nat} {v : α} : z2 f a b v a b = v := if_pos ⟨rfl, rfl⟩
theorem z2_row {α : Type} {f : Nat → Nat → α} {a b x : Nat} {v : α} (h : x ≠ a) : z2 f a b v x = f x := by
  funext y
  exact if_neg (fun e => h e.1)
theorem zsi_same (w : ZW) (f a : Nat) (v : Int32) (b : Nat) (h : b ≠ a) : zsame w (zsi w f a v) b := by
  refine ⟨fun g => ?_, fun g => ?_, fun g => ?_, rfl, rfl, rfl, rfl, rfl, rfl⟩ <;> first | rfl | exact z2_ne (fun e => h e.2)
theorem zsi_V (w : ZW) (c k a : Nat) (v : Int32) (ht : zty c k = 0) (j : Nat) : zV (zsi w (100 * c + 100 + k) a v) a c j = if j = k then .int v else zV w a c j := by
  by_cases e : j = k
  · subst e
    rw [if_pos rfl]
    unfold zV zfv
    rw [ht]
    simp [zi_zsi]
  · rw [if_neg e]
    have hn : ¬ (100 * c + 100 + j = 100 * c + 100 + k) := by omega
    unfold zV zfv
    simp [zi_zsi, zr_zsi, zf_zsi, e]
theorem zsr_same (w : ZW) (f a : Nat) (v : Option Nat) (b : Nat) (h : b ≠ a) : zsame w (zsr w f a v) b := by
  refine ⟨fun g => ?_, fun g => ?_, fun g => ?_, rfl, rfl, rfl, rfl, rfl, rfl⟩ <;> first | rfl | exact z2_ne (fun e => h e.2)
theorem zsr_V (w : ZW) (c k a : Nat) (v : Option Nat) (ht : zty c k = 1) (j : Nat) : zV (zsr w (100 * c + 100 + k) a v) a c j = if j = k then va_rf v else zV w a c j := by
  by_cases e : j = k
  · subst e
    rw [if_pos rfl]
    unfold zV zfv
    rw [ht]
    simp [zr_zsr]
  · rw [if_neg e]
    have hn : ¬ (100 * c + 100 + j = 100 * c + 100 + k) := by omega
    unfold zV zfv
    simp [zi_zsr, zr_zsr, zf_zsr, e]
theorem zsf_same (w : ZW) (f a : Nat) (v : UInt32) (b : Nat) (h : b ≠ a) : zsame w (zsf w f a v) b := by
  refine ⟨fun g => ?_, fun g => ?_, fun g => ?_, rfl, rfl, rfl, rfl, rfl, rfl⟩ <;> first | rfl | exact z2_ne (fun e => h e.2)
theorem zsf_V (w : ZW) (c k a : Nat) (v : UInt32) (ht : zty c k = 2) (j : Nat) : zV (zsf w (100 * c + 100 + k) a v) a c j = if j = k then .float v else zV w a c j := by
  by_cases e : j = k
  · subst e
    rw [if_pos rfl]
    unfold zV zfv
    rw [ht]
    simp [zf_zsf]
  · rw [if_neg e]
    have hn : ¬ (100 * c + 100 + j = 100 * c + 100 + k) := by omega
    unfold zV zfv
    simp [zi_zsf, zr_zsf, zf_zsf, e]
theorem r_puti (c k fd : Nat) {v : Int32} (hf : ZFL M.1.cls idx c k) (hk : zk w a = c + 1) (ht : zty c k = 0) (hT : zFT c k = .int) (hfd : 100 * c + 100 + k = fd) (hfin : ((zC c).2.1 k).2.2.2 = false ∨ (M.1.name = "<init>" ∧ (zC c).1 = M.1.cls)) (hd : decode M.2.1 pc = .ok (.putfield idx, 3)) (hq : pc + 3 = q) (kk : RW E M q ls st (zsi w fd a v) sg d nc ns P) : RW E M pc ls (.int v :: .ref a :: st) w sg d nc ns P := by
  subst hfd
  exact r_putv c k hf hk hfin (by rw [hT]; rfl) (by rw [hT]; rfl) (w' := zsi w (100 * c + 100 + k) a v) rfl rfl (zsi_same w _ a v) (fun j _ => zsi_V w c k a v ht j) hd hq kk
theorem r_putz (c k fd : Nat) {v : Int32} (hv : v = 0 ∨ v = 1) (hf : ZFL M.1.cls idx c k) (hk : zk w a = c + 1) (ht : zty c k = 0) (hT : zFT c k = .boolean) (hfd : 100 * c + 100 + k = fd) (hfin : ((zC c).2.1 k).2.2.2 = false ∨ (M.1.name = "<init>" ∧ (zC c).1 = M.1.cls)) (hd : decode M.2.1 pc = .ok (.putfield idx, 3)) (hq : pc + 3 = q) (kk : RW E M q ls st (zsi w fd a v) sg d nc ns P) : RW E M pc ls (.int v :: .ref a :: st) w sg d nc ns P := by
  subst hfd
  exact r_putv c k hf hk hfin (by rw [hT]; rcases hv with rfl | rfl <;> decide) (by rw [hT]; rcases hv with rfl | rfl <;> decide) (w' := zsi w (100 * c + 100 + k) a v) rfl rfl (zsi_same w _ a v) (fun j _ => zsi_V w c k a v ht j) hd hq kk
theorem r_putr (c k fd : Nat) (o : Option Nat) (hf : ZFL M.1.cls idx c k) (hk : zk w a = c + 1) (ht : zty c k = 1) (hT : zisR (zFT c k) = true) (hfd : 100 * c + 100 + k = fd) (hfin : ((zC c).2.1 k).2.2.2 = false ∨ (M.1.name = "<init>" ∧ (zC c).1 = M.1.cls)) (hd : decode M.2.1 pc = .ok (.putfield idx, 3)) (hq : pc + 3 = q) (kk : RW E M q ls st (zsr w fd a o) sg d nc ns P) : RW E M pc ls (va_rf o :: .ref a :: st) w sg d nc ns P := by
  subst hfd
  exact r_putv c k hf hk hfin (zisR_ok hT o).1 (zisR_ok hT o).2 (w' := zsr w (100 * c + 100 + k) a o) rfl rfl (zsr_same w _ a o) (fun j _ => zsr_V w c k a o ht j) hd hq kk
theorem r_puts (c k fd : Nat) {x : Nat} (hf : ZFL M.1.cls idx c k) (hk : zk w a = c + 1) (ht : zty c k = 1) (hT : zisR (zFT c k) = true) (hfd : 100 * c + 100 + k = fd) (hfin : ((zC c).2.1 k).2.2.2 = false ∨ (M.1.name = "<init>" ∧ (zC c).1 = M.1.cls)) (hd : decode M.2.1 pc = .ok (.putfield idx, 3)) (hq : pc + 3 = q) (kk : RW E M q ls st (zsr w fd a (some x)) sg d nc ns P) : RW E M pc ls (.ref x :: .ref a :: st) w sg d nc ns P := r_putr c k fd (some x) hf hk ht hT hfd hfin hd hq kk
theorem r_putn (c k fd : Nat) (hf : ZFL M.1.cls idx c k) (hk : zk w a = c + 1) (ht : zty c k = 1) (hT : zisR (zFT c k) = true) (hfd : 100 * c + 100 + k = fd) (hfin : ((zC c).2.1 k).2.2.2 = false ∨ (M.1.name = "<init>" ∧ (zC c).1 = M.1.cls)) (hd : decode M.2.1 pc = .ok (.putfield idx, 3)) (hq : pc + 3 = q) (kk : RW E M q ls st (zsr w fd a none) sg d nc ns P) : RW E M pc ls (.null :: .ref a :: st) w sg d nc ns P := r_putr c k fd none hf hk ht hT hfd hfin hd hq kk
theorem r_putf (c k fd : Nat) {v : UInt32} (hf : ZFL M.1.cls idx c k) (hk : zk w a = c + 1) (ht : zty c k = 2) (hT : zFT c k = .float) (hfd : 100 * c + 100 + k = fd) (hfin : ((zC c).2.1 k).2.2.2 = false ∨ (M.1.name = "<init>" ∧ (zC c).1 = M.1.cls)) (hd : decode M.2.1 pc = .ok (.putfield idx, 3)) (hq : pc + 3 = q) (kk : RW E M q ls st (zsf w fd a v) sg d nc ns P) : RW E M pc ls (.float v :: .ref a :: st) w sg d nc ns P := by
  subst hfd
  exact r_putv c k hf hk hfin (by rw [hT]; rfl) (by rw [hT]; rfl) (w' := zsf w (100 * c + 100 + k) a v) rfl rfl (zsf_same w _ a v) (fun j _ => zsf_V w c k a v ht j) hd hq kk
theorem zin {j n : Nat} (h : j < n) (h2 : j < 2147483648) : vp_in (nI j) n := by
  rw [vp_in_iff, nI_toInt h2]
  omega
theorem zcl {j : Nat} (h2 : j < 2147483648) : (nI j).toNatClampNeg = j := nI_clamp h2
theorem zrowP {E : ZE} {w : ZW} {a t : Nat} {H : Heap} (h : zRw E w a t H) : va_P E.2.2.1 vwCl [(a, .inl (E.2.2.2.1 t, zln w a, zarr w a t))] H := by
  intro k q hk
  match k, hk with
  | 0, hk => cases hk; exact h
  | k + 1, hk => simp at hk
theorem r_iald {x : Int32} (j : Nat) (hk : zk w a = 22) (hx : x = nI j) (hj : j < zln w a) (hj2 : j < 2147483648) (hd : decode M.2.1 pc = .ok (.iaload, 1)) (hq : pc + 1 = q) (kk : RW E M q ls (.int (za w a j) :: st) w sg d nc ns P) : RW E M pc ls (.int x :: .ref a :: st) w sg d nc ns P := by
  intro p e R s m args below meth c H locs cells slots mc ms A h
  subst hq
  subst hx
  have hP := zrowP ((h.P.2.2.1 a).2 2 (by decide) hk)
  rw [← zcl hj2] at kk
  exact va_iald h.x h.b h.K hP 0 2 rfl rfl (zin hj hj2) hd (kk.u h)
theorem r_cald {x : Int32} (j : Nat) (hk : zk w a = 20) (hx : x = nI j) (hj : j < zln w a) (hj2 : j < 2147483648) (hd : decode M.2.1 pc = .ok (.caload, 1)) (hq : pc + 1 = q) (kk : RW E M q ls (.int (za w a j) :: st) w sg d nc ns P) : RW E M pc ls (.int x :: .ref a :: st) w sg d nc ns P := by
  intro p e R s m args below meth c H locs cells slots mc ms A h
  subst hq
  subst hx
  have hP := zrowP ((h.P.2.2.1 a).2 0 (by decide) hk)
  rw [← zcl hj2] at kk
  exact va_cald h.x h.b h.K hP 0 0 rfl rfl (zin hj hj2) hd (kk.u h)
theorem r_zald {x : Int32} (j : Nat) (hk : zk w a = 23) (hx : x = nI j) (hj : j < zln w a) (hj2 : j < 2147483648) (hd : decode M.2.1 pc = .ok (.baload, 1)) (hq : pc + 1 = q) (kk : RW E M q ls (.int (za w a j) :: st) w sg d nc ns P) : RW E M pc ls (.int x :: .ref a :: st) w sg d nc ns P := by
  intro p e R s m args below meth c H locs cells slots mc ms A h
  subst hq
  subst hx
  have hP := zrowP ((h.P.2.2.1 a).2 3 (by decide) hk)
  rw [← zcl hj2] at kk
  exact va_zald h.x h.b h.K hP 0 3 rfl rfl (zin hj hj2) hd (kk.u h)
theorem r_fald {x : Int32} (j : Nat) (hk : zk w a = 21) (hx : x = nI j) (hj : j < zln w a) (hj2 : j < 2147483648) (hd : decode M.2.1 pc = .ok (.faload, 1)) (hq : pc + 1 = q) (kk : RW E M q ls (.float (zg w a j) :: st) w sg d nc ns P) : RW E M pc ls (.int x :: .ref a :: st) w sg d nc ns P := by
  intro p e R s m args below meth c H locs cells slots mc ms A h
  subst hq
  subst hx
  have hP := zrowP ((h.P.2.2.1 a).2 1 (by decide) hk)
  rw [← zcl hj2] at kk
  exact va_fald h.x h.b h.K hP 0 1 rfl rfl (zin hj hj2) hd (kk.u h)
theorem r_lald {x : Int32} (j : Nat) (hk : zk w a = 24) (hx : x = nI j) (hj : j < zln w a) (hj2 : j < 2147483648) (hd : decode M.2.1 pc = .ok (.laload, 1)) (hq : pc + 1 = q) (kk : RW E M q ls (.long (zl w a j) :: st) w sg d nc ns P) : RW E M pc ls (.int x :: .ref a :: st) w sg d nc ns P := by
  intro p e R s m args below meth c H locs cells slots mc ms A h
  subst hq
  subst hx
  have hP := zrowP ((h.P.2.2.1 a).2 4 (by decide) hk)
  rw [← zcl hj2] at kk
  exact va_lald h.x h.b h.K hP 0 4 rfl rfl (zin hj hj2) hd (kk.u h)
theorem r_dald {x : Int32} (j : Nat) (hk : zk w a = 25) (hx : x = nI j) (hj : j < zln w a) (hj2 : j < 2147483648) (hd : decode M.2.1 pc = .ok (.daload, 1)) (hq : pc + 1 = q) (kk : RW E M q ls (.double (zd w a j) :: st) w sg d nc ns P) : RW E M pc ls (.int x :: .ref a :: st) w sg d nc ns P := by
  intro p e R s m args below meth c H locs cells slots mc ms A h
  subst hq
  subst hx
  have hP := zrowP ((h.P.2.2.1 a).2 5 (by decide) hk)
  rw [← zcl hj2] at kk
  exact va_dald h.x h.b h.K hP 0 5 rfl rfl (zin hj hj2) hd (kk.u h)
theorem r_aald6 {x : Int32} (j : Nat) (hk : zk w a = 26) (hx : x = nI j) (hj : j < zln w a) (hj2 : j < 2147483648) (hd : decode M.2.1 pc = .ok (.aaload, 1)) (hq : pc + 1 = q) (kk : RW E M q ls (va_rf (zq w a j) :: st) w sg d nc ns P) : RW E M pc ls (.int x :: .ref a :: st) w sg d nc ns P := by
  intro p e R s m args below meth c H locs cells slots mc ms A h
  subst hq
  subst hx
  have hP := zrowP ((h.P.2.2.1 a).2 6 (by decide) hk)
  rw [← zcl hj2] at kk
  exact va_aldq h.x h.b h.K hP 0 6 rfl rfl (zin hj hj2) hd (kk.u h)
theorem r_aals6 {x : Int32} (j : Nat) {o : Nat} (ho : zq w a j = some o) (hk : zk w a = 26) (hx : x = nI j) (hj : j < zln w a) (hj2 : j < 2147483648) (hd : decode M.2.1 pc = .ok (.aaload, 1)) (hq : pc + 1 = q) (kk : RW E M q ls (.ref o :: st) w sg d nc ns P) : RW E M pc ls (.int x :: .ref a :: st) w sg d nc ns P :=
  r_aald6 j hk hx hj hj2 hd hq (by rw [ho]; exact kk)
theorem r_aald7 {x : Int32} (j : Nat) (hk : zk w a = 27) (hx : x = nI j) (hj : j < zln w a) (hj2 : j < 2147483648) (hd : decode M.2.1 pc = .ok (.aaload, 1)) (hq : pc + 1 = q) (kk : RW E M q ls (va_rf (zq w a j) :: st) w sg d nc ns P) : RW E M pc ls (.int x :: .ref a :: st) w sg d nc ns P := by
  intro p e R s m args below meth c H locs cells slots mc ms A h
  subst hq
  subst hx
  have hP := zrowP ((h.P.2.2.1 a).2 7 (by decide) hk)
  rw [← zcl hj2] at kk
  exact va_aldq h.x h.b h.K hP 0 7 rfl rfl (zin hj hj2) hd (kk.u h)
theorem r_aals7 {x : Int32} (j : Nat) {o : Nat} (ho : zq w a j = some o) (hk : zk w a = 27) (hx : x = nI j) (hj : j < zln w a) (hj2 : j < 2147483648) (hd : decode M.2.1 pc = .ok (.aaload, 1)) (hq : pc + 1 = q) (kk : RW E M q ls (.ref o :: st) w sg d nc ns P) : RW E M pc ls (.int x :: .ref a :: st) w sg d nc ns P :=
  r_aald7 j hk hx hj hj2 hd hq (by rw [ho]; exact kk)
theorem r_aald8 {x : Int32} (j : Nat) (hk : zk w a = 28) (hx : x = nI j) (hj : j < zln w a) (hj2 : j < 2147483648) (hd : decode M.2.1 pc = .ok (.aaload, 1)) (hq : pc + 1 = q) (kk : RW E M q ls (va_rf (zq w a j) :: st) w sg d nc ns P) : RW E M pc ls (.int x :: .ref a :: st) w sg d nc ns P := by
  intro p e R s m args below meth c H locs cells slots mc ms A h
  subst hq
  subst hx
  have hP := zrowP ((h.P.2.2.1 a).2 8 (by decide) hk)
  rw [← zcl hj2] at kk
  exact va_aldq h.x h.b h.K hP 0 8 rfl rfl (zin hj hj2) hd (kk.u h)
theorem r_aals8 {x : Int32} (j : Nat) {o : Nat} (ho : zq w a j = some o) (hk : zk w a = 28) (hx : x = nI j) (hj : j < zln w a) (hj2 : j < 2147483648) (hd : decode M.2.1 pc = .ok (.aaload, 1)) (hq : pc + 1 = q) (kk : RW E M q ls (.ref o :: st) w sg d nc ns P) : RW E M pc ls (.int x :: .ref a :: st) w sg d nc ns P :=
  r_aald8 j hk hx hj hj2 hd hq (by rw [ho]; exact kk)
theorem r_alen (t : Nat) (ht : t < 9) (hk : zk w a = t + 20) (hd : decode M.2.1 pc = .ok (.arraylength, 1)) (hq : pc + 1 = q) (kk : RW E M q ls (.int (nI (zln w a)) :: st) w sg d nc ns P) : RW E M pc ls (.ref a :: st) w sg d nc ns P := by
  intro p e R s m args below meth c H locs cells slots mc ms A h
  subst hq
  have hP := zrowP ((h.P.2.2.1 a).2 t ht hk)
  obtain ⟨ty, hty⟩ : ∃ ty, (ztys E)[t]? = some (E.2.2.2.1 t, ty) := by
    match t, ht with
    | 0, _ => exact ⟨_, rfl⟩
    | 1, _ => exact ⟨_, rfl⟩
    | 2, _ => exact ⟨_, rfl⟩
    | 3, _ => exact ⟨_, rfl⟩
    | 4, _ => exact ⟨_, rfl⟩
    | 5, _ => exact ⟨_, rfl⟩
    | 6, _ => exact ⟨_, rfl⟩
    | 7, _ => exact ⟨_, rfl⟩
    | 8, _ => exact ⟨_, rfl⟩
  exact va_alen h.x h.b h.K hP 0 t rfl hty rfl hd (kk.u h)
theorem zsa_same (w : ZW) (a i : Nat) (v : Int32) (b : Nat) (h : b ≠ a) : zsame w (zsa w a i v) b := by
  refine ⟨fun g => rfl, fun g => rfl, fun g => rfl, rfl, ?_, ?_, ?_, ?_, ?_⟩ <;> first | rfl | exact z2_row h
theorem zsq_same (w : ZW) (a i : Nat) (v : Option Nat) (b : Nat) (h : b ≠ a) : zsame w (zsq w a i v) b := by
  refine ⟨fun g => rfl, fun g => rfl, fun g => rfl, rfl, ?_, ?_, ?_, ?_, ?_⟩ <;> first | rfl | exact z2_row h
theorem zsg_same (w : ZW) (a i : Nat) (v : UInt32) (b : Nat) (h : b ≠ a) : zsame w (zsg w a i v) b := by
  refine ⟨fun g => rfl, fun g => rfl, fun g => rfl, rfl, ?_, ?_, ?_, ?_, ?_⟩ <;> first | rfl | exact z2_row h
theorem zsl_same (w : ZW) (a i : Nat) (v : Int64) (b : Nat) (h : b ≠ a) : zsame w (zsl w a i v) b := by
  refine ⟨fun g => rfl, fun g => rfl, fun g => rfl, rfl, ?_, ?_, ?_, ?_, ?_⟩ <;> first | rfl | exact z2_row h
theorem zsd_same (w : ZW) (a i : Nat) (v : UInt64) (b : Nat) (h : b ≠ a) : zsame w (zsd w a i v) b := by
  refine ⟨fun g => rfl, fun g => rfl, fun g => rfl, rfl, ?_, ?_, ?_, ?_, ?_⟩ <;> first | rfl | exact z2_row h
theorem r_iast {x : Int32} {v : Int32} (j : Nat)  (hk : zk w a = 22) (hx : x = nI j) (hj : j < zln w a) (hj2 : j < 2147483648) (hd : decode M.2.1 pc = .ok (.iastore, 1)) (hq : pc + 1 = q) (kk : RW E M q ls st (zsa w a j v) sg d nc ns P) : RW E M pc ls (.int v :: .int x :: .ref a :: st) w sg d nc ns P := by
  intro p e R s m args below meth c H locs cells slots mc ms A h
  subst hq
  subst hx
  have hne : zk w a ≠ 0 := by rw [hk]; decide
  have hr := (h.P.2.2.1 a).2 2 (by decide) hk
  refine W.iast h.x h.b hr ((h.K.2 2 _ rfl).1 (zln w a) (fun j => .int (za w a j))) (fun q => by cases q) (by show ¬ (nI j < 0 ∨ (arrV _ _ _).slots.size ≤ _); rw [arrV_size]; exact zin hj hj2) rfl rfl hd fun H1 e1 e2 e3 => ?_
  refine kk.u (h.hp (h.P.upd (w' := zsa w a j v) e2 e3 rfl rfl (zsa_same w a j v) hne ⟨fun c' hc' e' => ?_, fun t ht e' => ?_⟩) (h.S.put e2 e3 (h.P.2.1 a hne).1))
  · have e9 : zk w a = c' + 1 := e'
    omega
  · have e9 : zk w a = t + 20 := e'
    have : t = 2 := by omega
    subst this
    show H1[a]? = some (arrV (E.2.2.2.1 2) (zln w a) (fun q => .int (za (zsa w a j v) a q)))
    have e8 : H1[a]? = some ((arrV (E.2.2.2.1 2) (zln w a) (fun q => .int (za w a q))).setSlot (nI j).toNatClampNeg (.int v)) := e1
    rw [e8, arrV_store, zcl hj2]
    congr 2
    funext q
    simp only [updV, za_zsa]
    by_cases e : q = j
    · subst e; simp
    · simp [e]
theorem r_cast {x : Int32} {v : Int32} (j : Nat) (hv : narrow .char (.int v) = .int v) (hk : zk w a = 20) (hx : x = nI j) (hj : j < zln w a) (hj2 : j < 2147483648) (hd : decode M.2.1 pc = .ok (.castore, 1)) (hq : pc + 1 = q) (kk : RW E M q ls st (zsa w a j v) sg d nc ns P) : RW E M pc ls (.int v :: .int x :: .ref a :: st) w sg d nc ns P := by
  intro p e R s m args below meth c H locs cells slots mc ms A h
  subst hq
  subst hx
  have hne : zk w a ≠ 0 := by rw [hk]; decide
  have hr := (h.P.2.2.1 a).2 0 (by decide) hk
  refine W.cast h.x h.b hr ((h.K.2 0 _ rfl).1 (zln w a) (fun j => .int (za w a j))) (fun q => by cases q) (by show ¬ (nI j < 0 ∨ (arrV _ _ _).slots.size ≤ _); rw [arrV_size]; exact zin hj hj2) rfl rfl hd fun H1 e1 e2 e3 => ?_
  refine kk.u (h.hp (h.P.upd (w' := zsa w a j v) e2 e3 rfl rfl (zsa_same w a j v) hne ⟨fun c' hc' e' => ?_, fun t ht e' => ?_⟩) (h.S.put e2 e3 (h.P.2.1 a hne).1))
  · have e9 : zk w a = c' + 1 := e'
    omega
  · have e9 : zk w a = t + 20 := e'
    have : t = 0 := by omega
    subst this
    show H1[a]? = some (arrV (E.2.2.2.1 0) (zln w a) (fun q => .int (za (zsa w a j v) a q)))
    have e8 : H1[a]? = some ((arrV (E.2.2.2.1 0) (zln w a) (fun q => .int (za w a q))).setSlot (nI j).toNatClampNeg (.int v)) := by rw [← hv]; exact e1
    rw [e8, arrV_store, zcl hj2]
    congr 2
    funext q
    simp only [updV, za_zsa]
    by_cases e : q = j
    · subst e; simp
    · simp [e]
theorem r_zast {x : Int32} {v : Int32} (j : Nat) (hv : narrow .boolean (.int v) = .int v) (hk : zk w a = 23) (hx : x = nI j) (hj : j < zln w a) (hj2 : j < 2147483648) (hd : decode M.2.1 pc = .ok (.bastore, 1)) (hq : pc + 1 = q) (kk : RW E M q ls st (zsa w a j v) sg d nc ns P) : RW E M pc ls (.int v :: .int x :: .ref a :: st) w sg d nc ns P := by
  intro p e R s m args below meth c H locs cells slots mc ms A h
  subst hq
  subst hx
  have hne : zk w a ≠ 0 := by rw [hk]; decide
  have hr := (h.P.2.2.1 a).2 3 (by decide) hk
  refine W.zast h.x h.b hr ((h.K.2 3 _ rfl).1 (zln w a) (fun j => .int (za w a j))) (fun q => by cases q) (by show ¬ (nI j < 0 ∨ (arrV _ _ _).slots.size ≤ _); rw [arrV_size]; exact zin hj hj2) rfl rfl hd fun H1 e1 e2 e3 => ?_
  refine kk.u (h.hp (h.P.upd (w' := zsa w a j v) e2 e3 rfl rfl (zsa_same w a j v) hne ⟨fun c' hc' e' => ?_, fun t ht e' => ?_⟩) (h.S.put e2 e3 (h.P.2.1 a hne).1))
  · have e9 : zk w a = c' + 1 := e'
    omega
  · have e9 : zk w a = t + 20 := e'
    have : t = 3 := by omega
    subst this
    show H1[a]? = some (arrV (E.2.2.2.1 3) (zln w a) (fun q => .int (za (zsa w a j v) a q)))
    have e8 : H1[a]? = some ((arrV (E.2.2.2.1 3) (zln w a) (fun q => .int (za w a q))).setSlot (nI j).toNatClampNeg (.int v)) := by rw [← hv]; exact e1
    rw [e8, arrV_store, zcl hj2]
    congr 2
    funext q
    simp only [updV, za_zsa]
    by_cases e : q = j
    · subst e; simp
    · simp [e]
theorem r_fast {x : Int32} {v : UInt32} (j : Nat)  (hk : zk w a = 21) (hx : x = nI j) (hj : j < zln w a) (hj2 : j < 2147483648) (hd : decode M.2.1 pc = .ok (.fastore, 1)) (hq : pc + 1 = q) (kk : RW E M q ls st (zsg w a j v) sg d nc ns P) : RW E M pc ls (.float v :: .int x :: .ref a :: st) w sg d nc ns P := by
  intro p e R s m args below meth c H locs cells slots mc ms A h
  subst hq
  subst hx
  have hne : zk w a ≠ 0 := by rw [hk]; decide
  have hr := (h.P.2.2.1 a).2 1 (by decide) hk
  refine W.fast h.x h.b hr ((h.K.2 1 _ rfl).1 (zln w a) (fun j => .float (zg w a j))) (fun q => by cases q) (by show ¬ (nI j < 0 ∨ (arrV _ _ _).slots.size ≤ _); rw [arrV_size]; exact zin hj hj2) rfl rfl hd fun H1 e1 e2 e3 => ?_
  refine kk.u (h.hp (h.P.upd (w' := zsg w a j v) e2 e3 rfl rfl (zsg_same w a j v) hne ⟨fun c' hc' e' => ?_, fun t ht e' => ?_⟩) (h.S.put e2 e3 (h.P.2.1 a hne).1))
  · have e9 : zk w a = c' + 1 := e'
    omega
  · have e9 : zk w a = t + 20 := e'
    have : t = 1 := by omega
    subst this
    show H1[a]? = some (arrV (E.2.2.2.1 1) (zln w a) (fun q => .float (zg (zsg w a j v) a q)))
    have e8 : H1[a]? = some ((arrV (E.2.2.2.1 1) (zln w a) (fun q => .float (zg w a q))).setSlot (nI j).toNatClampNeg (.float v)) := e1
    rw [e8, arrV_store, zcl hj2]
    congr 2
    funext q
    simp only [updV, zg_zsg]
    by_cases e : q = j
    · subst e; simp
    · simp [e]
theorem r_last {x : Int32} {v : Int64} (j : Nat)  (hk : zk w a = 24) (hx : x = nI j) (hj : j < zln w a) (hj2 : j < 2147483648) (hd : decode M.2.1 pc = .ok (.lastore, 1)) (hq : pc + 1 = q) (kk : RW E M q ls st (zsl w a j v) sg d nc ns P) : RW E M pc ls (.long v :: .int x :: .ref a :: st) w sg d nc ns P := by
  intro p e R s m args below meth c H locs cells slots mc ms A h
  subst hq
  subst hx
  have hne : zk w a ≠ 0 := by rw [hk]; decide
  have hr := (h.P.2.2.1 a).2 4 (by decide) hk
  refine W.last h.x h.b hr ((h.K.2 4 _ rfl).1 (zln w a) (fun j => .long (zl w a j))) (fun q => by cases q) (by show ¬ (nI j < 0 ∨ (arrV _ _ _).slots.size ≤ _); rw [arrV_size]; exact zin hj hj2) rfl rfl hd fun H1 e1 e2 e3 => ?_
  refine kk.u (h.hp (h.P.upd (w' := zsl w a j v) e2 e3 rfl rfl (zsl_same w a j v) hne ⟨fun c' hc' e' => ?_, fun t ht e' => ?_⟩) (h.S.put e2 e3 (h.P.2.1 a hne).1))
  · have e9 : zk w a = c' + 1 := e'
    omega
  · have e9 : zk w a = t + 20 := e'
    have : t = 4 := by omega
    subst this
    show H1[a]? = some (arrV (E.2.2.2.1 4) (zln w a) (fun q => .long (zl (zsl w a j v) a q)))
    have e8 : H1[a]? = some ((arrV (E.2.2.2.1 4) (zln w a) (fun q => .long (zl w a q))).setSlot (nI j).toNatClampNeg (.long v)) := e1
    rw [e8, arrV_store, zcl hj2]
    congr 2
    funext q
    simp only [updV, zl_zsl]
    by_cases e : q = j
    · subst e; simp
    · simp [e]
theorem r_dast {x : Int32} {v : UInt64} (j : Nat)  (hk : zk w a = 25) (hx : x = nI j) (hj : j < zln w a) (hj2 : j < 2147483648) (hd : decode M.2.1 pc = .ok (.dastore, 1)) (hq : pc + 1 = q) (kk : RW E M q ls st (zsd w a j v) sg d nc ns P) : RW E M pc ls (.double v :: .int x :: .ref a :: st) w sg d nc ns P := by
  intro p e R s m args below meth c H locs cells slots mc ms A h
  subst hq
  subst hx
  have hne : zk w a ≠ 0 := by rw [hk]; decide
  have hr := (h.P.2.2.1 a).2 5 (by decide) hk
  refine W.dast h.x h.b hr ((h.K.2 5 _ rfl).1 (zln w a) (fun j => .double (zd w a j))) (fun q => by cases q) (by show ¬ (nI j < 0 ∨ (arrV _ _ _).slots.size ≤ _); rw [arrV_size]; exact zin hj hj2) rfl rfl hd fun H1 e1 e2 e3 => ?_
  refine kk.u (h.hp (h.P.upd (w' := zsd w a j v) e2 e3 rfl rfl (zsd_same w a j v) hne ⟨fun c' hc' e' => ?_, fun t ht e' => ?_⟩) (h.S.put e2 e3 (h.P.2.1 a hne).1))
  · have e9 : zk w a = c' + 1 := e'
    omega
  · have e9 : zk w a = t + 20 := e'
    have : t = 5 := by omega
    subst this
    show H1[a]? = some (arrV (E.2.2.2.1 5) (zln w a) (fun q => .double (zd (zsd w a j v) a q)))
    have e8 : H1[a]? = some ((arrV (E.2.2.2.1 5) (zln w a) (fun q => .double (zd w a q))).setSlot (nI j).toNatClampNeg (.double v)) := e1
    rw [e8, arrV_store, zcl hj2]
    congr 2
    funext q
    simp only [updV, zd_zsd]
    by_cases e : q = j
    · subst e; simp
    · simp [e]
theorem r_aast6 {x : Int32} {v : Nat} (j : Nat) (hv : zk w v = 2) (hk : zk w a = 26) (hx : x = nI j) (hj : j < zln w a) (hj2 : j < 2147483648) (hd : decode M.2.1 pc = .ok (.aastore, 1)) (hq : pc + 1 = q) (kk : RW E M q ls st (zsq w a j (some v)) sg d nc ns P) : RW E M pc ls (.ref v :: .int x :: .ref a :: st) w sg d nc ns P := by
  intro p e R s m args below meth cd H locs cells slots mc ms A h
  subst hq
  subst hx
  have hne : zk w a ≠ 0 := by rw [hk]; decide
  have hr := (h.P.2.2.1 a).2 6 (by decide) hk
  obtain ⟨cellV, g1, g2, g3, -⟩ := (h.P.2.2.1 v).1 1 (by decide) hv
  have hcls := (h.K.1 1 _ rfl).2
  obtain ⟨kA, comp, k1, k2, k3, -⟩ := (h.K.2 6 _ rfl).2
  have hcomp : comp = E.2.2.1.1 1 := Option.some.inj (k3.symm.trans hcls.1)
  subst hcomp
  obtain ⟨kC, hkC, -⟩ := hcls.2
  refine W.aast h.x h.b hr (fun q h => by cases h) (fun h => by cases h) k1 k2 rfl hkC ⟨fun q => (zin hj hj2) (Or.inl q), by show _ < (arrV _ _ _).slots.size; rw [arrV_size, zcl hj2]; exact hj⟩ g1 (fun q h => by rw [g3] at h; cases h) (by rw [g2]; exact hkC) (by rw [g2]; exact va_assign hcls) rfl rfl hd fun H1 e1 e2 e3 => ?_
  refine kk.u (h.hp (h.P.upd (w' := zsq w a j (some v)) e2 e3 rfl rfl (zsq_same w a j _) hne ⟨fun c' hc' e' => ?_, fun t ht e' => ?_⟩) (h.S.put e2 e3 (h.P.2.1 a hne).1))
  · have e9 : zk w a = c' + 1 := e'
    omega
  · have e9 : zk w a = t + 20 := e'
    have : t = 6 := by omega
    subst this
    show H1[a]? = some (arrV (E.2.2.2.1 6) (zln w a) (fun q => va_rf (zq (zsq w a j (some v)) a q)))
    have e8 : H1[a]? = some ((arrV (E.2.2.2.1 6) (zln w a) (fun q => va_rf (zq w a q))).setSlot (nI j).toNatClampNeg (va_rf (some v))) := e1
    rw [e8, arrV_store, zcl hj2]
    congr 2
    funext q
    simp only [updV, zq_zsq]
    by_cases e : q = j
    · subst e; simp
    · simp [e]
theorem r_aasn6 {x : Int32} (j : Nat) (hk : zk w a = 26) (hx : x = nI j) (hj : j < zln w a) (hj2 : j < 2147483648) (hd : decode M.2.1 pc = .ok (.aastore, 1)) (hq : pc + 1 = q) (kk : RW E M q ls st (zsq w a j none) sg d nc ns P) : RW E M pc ls (.null :: .int x :: .ref a :: st) w sg d nc ns P := by
  intro p e R s m args below meth c H locs cells slots mc ms A h
  subst hq
  subst hx
  have hne : zk w a ≠ 0 := by rw [hk]; decide
  have hr := (h.P.2.2.1 a).2 6 (by decide) hk
  refine va_WaastN (C := "StyleDesk$Declaration") h.x h.b hr ((h.K.2 6 _ rfl).1 (zln w a) (fun j => va_rf (zq w a j))) (fun h => by cases h) (by show ¬ (nI j < 0 ∨ (arrV _ _ _).slots.size ≤ _); rw [arrV_size]; exact zin hj hj2) rfl rfl hd fun H1 e1 e2 e3 => ?_
  refine kk.u (h.hp (h.P.upd (w' := zsq w a j none) e2 e3 rfl rfl (zsq_same w a j _) hne ⟨fun c' hc' e' => ?_, fun t ht e' => ?_⟩) (h.S.put e2 e3 (h.P.2.1 a hne).1))
  · have e9 : zk w a = c' + 1 := e'
    omega
  · have e9 : zk w a = t + 20 := e'
    have : t = 6 := by omega
    subst this
    show H1[a]? = some (arrV (E.2.2.2.1 6) (zln w a) (fun q => va_rf (zq (zsq w a j none) a q)))
    have e8 : H1[a]? = some ((arrV (E.2.2.2.1 6) (zln w a) (fun q => va_rf (zq w a q))).setSlot (nI j).toNatClampNeg (va_rf none)) := e1
    rw [e8, arrV_store, zcl hj2]
    congr 2
    funext q
    simp only [updV, zq_zsq]
    by_cases e : q = j
    · subst e; simp
    · simp [e]
theorem r_aast7 {x : Int32} {v : Nat} (j : Nat) (hv : zk w v = 3) (hk : zk w a = 27) (hx : x = nI j) (hj : j < zln w a) (hj2 : j < 2147483648) (hd : decode M.2.1 pc = .ok (.aastore, 1)) (hq : pc + 1 = q) (kk : RW E M q ls st (zsq w a j (some v)) sg d nc ns P) : RW E M pc ls (.ref v :: .int x :: .ref a :: st) w sg d nc ns P := by
  intro p e R s m args below meth cd H locs cells slots mc ms A h
  subst hq
  subst hx
  have hne : zk w a ≠ 0 := by rw [hk]; decide
  have hr := (h.P.2.2.1 a).2 7 (by decide) hk
  obtain ⟨cellV, g1, g2, g3, -⟩ := (h.P.2.2.1 v).1 2 (by decide) hv
  have hcls := (h.K.1 2 _ rfl).2
  obtain ⟨kA, comp, k1, k2, k3, -⟩ := (h.K.2 7 _ rfl).2
  have hcomp : comp = E.2.2.1.1 2 := Option.some.inj (k3.symm.trans hcls.1)
  subst hcomp
  obtain ⟨kC, hkC, -⟩ := hcls.2
  refine W.aast h.x h.b hr (fun q h => by cases h) (fun h => by cases h) k1 k2 rfl hkC ⟨fun q => (zin hj hj2) (Or.inl q), by show _ < (arrV _ _ _).slots.size; rw [arrV_size, zcl hj2]; exact hj⟩ g1 (fun q h => by rw [g3] at h; cases h) (by rw [g2]; exact hkC) (by rw [g2]; exact va_assign hcls) rfl rfl hd fun H1 e1 e2 e3 => ?_
  refine kk.u (h.hp (h.P.upd (w' := zsq w a j (some v)) e2 e3 rfl rfl (zsq_same w a j _) hne ⟨fun c' hc' e' => ?_, fun t ht e' => ?_⟩) (h.S.put e2 e3 (h.P.2.1 a hne).1))
  · have e9 : zk w a = c' + 1 := e'
    omega
  · have e9 : zk w a = t + 20 := e'
    have : t = 7 := by omega
    subst this
    show H1[a]? = some (arrV (E.2.2.2.1 7) (zln w a) (fun q => va_rf (zq (zsq w a j (some v)) a q)))
    have e8 : H1[a]? = some ((arrV (E.2.2.2.1 7) (zln w a) (fun q => va_rf (zq w a q))).setSlot (nI j).toNatClampNeg (va_rf (some v))) := e1
    rw [e8, arrV_store, zcl hj2]
    congr 2
    funext q
    simp only [updV, zq_zsq]
    by_cases e : q = j
    · subst e; simp
    · simp [e]
theorem r_aasn7 {x : Int32} (j : Nat) (hk : zk w a = 27) (hx : x = nI j) (hj : j < zln w a) (hj2 : j < 2147483648) (hd : decode M.2.1 pc = .ok (.aastore, 1)) (hq : pc + 1 = q) (kk : RW E M q ls st (zsq w a j none) sg d nc ns P) : RW E M pc ls (.null :: .int x :: .ref a :: st) w sg d nc ns P := by
  intro p e R s m args below meth c H locs cells slots mc ms A h
  subst hq
  subst hx
  have hne : zk w a ≠ 0 := by rw [hk]; decide
  have hr := (h.P.2.2.1 a).2 7 (by decide) hk
  refine va_WaastN (C := "StyleDesk$Element") h.x h.b hr ((h.K.2 7 _ rfl).1 (zln w a) (fun j => va_rf (zq w a j))) (fun h => by cases h) (by show ¬ (nI j < 0 ∨ (arrV _ _ _).slots.size ≤ _); rw [arrV_size]; exact zin hj hj2) rfl rfl hd fun H1 e1 e2 e3 => ?_
  refine kk.u (h.hp (h.P.upd (w' := zsq w a j none) e2 e3 rfl rfl (zsq_same w a j _) hne ⟨fun c' hc' e' => ?_, fun t ht e' => ?_⟩) (h.S.put e2 e3 (h.P.2.1 a hne).1))
  · have e9 : zk w a = c' + 1 := e'
    omega
  · have e9 : zk w a = t + 20 := e'
    have : t = 7 := by omega
    subst this
    show H1[a]? = some (arrV (E.2.2.2.1 7) (zln w a) (fun q => va_rf (zq (zsq w a j none) a q)))
    have e8 : H1[a]? = some ((arrV (E.2.2.2.1 7) (zln w a) (fun q => va_rf (zq w a q))).setSlot (nI j).toNatClampNeg (va_rf none)) := e1
    rw [e8, arrV_store, zcl hj2]
    congr 2
    funext q
    simp only [updV, zq_zsq]
    by_cases e : q = j
    · subst e; simp
    · simp [e]
theorem r_aast8 {x : Int32} {v : Nat} (j : Nat) (hv : zk w v = 6) (hk : zk w a = 28) (hx : x = nI j) (hj : j < zln w a) (hj2 : j < 2147483648) (hd : decode M.2.1 pc = .ok (.aastore, 1)) (hq : pc + 1 = q) (kk : RW E M q ls st (zsq w a j (some v)) sg d nc ns P) : RW E M pc ls (.ref v :: .int x :: .ref a :: st) w sg d nc ns P := by
  intro p e R s m args below meth cd H locs cells slots mc ms A h
  subst hq
  subst hx
  have hne : zk w a ≠ 0 := by rw [hk]; decide
  have hr := (h.P.2.2.1 a).2 8 (by decide) hk
  obtain ⟨cellV, g1, g2, g3, -⟩ := (h.P.2.2.1 v).1 5 (by decide) hv
  have hcls := (h.K.1 5 _ rfl).2
  obtain ⟨kA, comp, k1, k2, k3, -⟩ := (h.K.2 8 _ rfl).2
  have hcomp : comp = E.2.2.1.1 5 := Option.some.inj (k3.symm.trans hcls.1)
  subst hcomp
  obtain ⟨kC, hkC, -⟩ := hcls.2
  refine W.aast h.x h.b hr (fun q h => by cases h) (fun h => by cases h) k1 k2 rfl hkC ⟨fun q => (zin hj hj2) (Or.inl q), by show _ < (arrV _ _ _).slots.size; rw [arrV_size, zcl hj2]; exact hj⟩ g1 (fun q h => by rw [g3] at h; cases h) (by rw [g2]; exact hkC) (by rw [g2]; exact va_assign hcls) rfl rfl hd fun H1 e1 e2 e3 => ?_
  refine kk.u (h.hp (h.P.upd (w' := zsq w a j (some v)) e2 e3 rfl rfl (zsq_same w a j _) hne ⟨fun c' hc' e' => ?_, fun t ht e' => ?_⟩) (h.S.put e2 e3 (h.P.2.1 a hne).1))
  · have e9 : zk w a = c' + 1 := e'
    omega
  · have e9 : zk w a = t + 20 := e'
    have : t = 8 := by omega
    subst this
    show H1[a]? = some (arrV (E.2.2.2.1 8) (zln w a) (fun q => va_rf (zq (zsq w a j (some v)) a q)))
    have e8 : H1[a]? = some ((arrV (E.2.2.2.1 8) (zln w a) (fun q => va_rf (zq w a q))).setSlot (nI j).toNatClampNeg (va_rf (some v))) := e1
    rw [e8, arrV_store, zcl hj2]
    congr 2
    funext q
    simp only [updV, zq_zsq]
    by_cases e : q = j
    · subst e; simp
    · simp [e]
theorem r_aasn8 {x : Int32} (j : Nat) (hk : zk w a = 28) (hx : x = nI j) (hj : j < zln w a) (hj2 : j < 2147483648) (hd : decode M.2.1 pc = .ok (.aastore, 1)) (hq : pc + 1 = q) (kk : RW E M q ls st (zsq w a j none) sg d nc ns P) : RW E M pc ls (.null :: .int x :: .ref a :: st) w sg d nc ns P := by
  intro p e R s m args below meth c H locs cells slots mc ms A h
  subst hq
  subst hx
  have hne : zk w a ≠ 0 := by rw [hk]; decide
  have hr := (h.P.2.2.1 a).2 8 (by decide) hk
  refine va_WaastN (C := "StyleDesk$Rule") h.x h.b hr ((h.K.2 8 _ rfl).1 (zln w a) (fun j => va_rf (zq w a j))) (fun h => by cases h) (by show ¬ (nI j < 0 ∨ (arrV _ _ _).slots.size ≤ _); rw [arrV_size]; exact zin hj hj2) rfl rfl hd fun H1 e1 e2 e3 => ?_
  refine kk.u (h.hp (h.P.upd (w' := zsq w a j none) e2 e3 rfl rfl (zsq_same w a j _) hne ⟨fun c' hc' e' => ?_, fun t ht e' => ?_⟩) (h.S.put e2 e3 (h.P.2.1 a hne).1))
  · have e9 : zk w a = c' + 1 := e'
    omega
  · have e9 : zk w a = t + 20 := e'
    have : t = 8 := by omega
    subst this
    show H1[a]? = some (arrV (E.2.2.2.1 8) (zln w a) (fun q => va_rf (zq (zsq w a j none) a q)))
    have e8 : H1[a]? = some ((arrV (E.2.2.2.1 8) (zln w a) (fun q => va_rf (zq w a q))).setSlot (nI j).toNatClampNeg (va_rf none)) := e1
    rw [e8, arrV_store, zcl hj2]
    congr 2
    funext q
    simp only [updV, zq_zsq]
    by_cases e : q = j
    · subst e; simp
    · simp [e]
end ZR2
