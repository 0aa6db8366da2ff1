/-! ===== rows over numbers: what a walk mostly meets ===== -/
def zb (b : Bool) : Int32 := if b then nI 1 else nI 0
theorem zb_t : zb true = nI 1 := rfl
theorem zb_f : zb false = nI 0 := rfl
theorem zb01 (b : Bool) : zb b = 0 ∨ zb b = 1 := by cases b <;> decide
theorem zb_nar (b : Bool) : narrow .boolean (.int (zb b)) = .int (zb b) := by cases b <;> rfl
theorem zch_nar {q : Nat} (h : q < 65536) : narrow .char (.int (nI q)) = .int (nI q) := (pk_charN h).1
theorem zchr {q : Nat} (h : q < 65536) : ((nI q).toUInt32 % 65536).toInt32 = nI q := by
  rw [pk_char, pk_tn (by omega)]
  congr 1
  omega
theorem zcat_rf (o : Option Nat) : (va_rf o).category = 1 := by cases o <;> rfl
theorem zinc1 (k : Nat) : nI k + Int32.ofInt 1 = nI (k + 1) := by
  rw [show Int32.ofInt 1 = 1 by decide]
  exact nI_1 k
theorem zincn (k n : Nat) : nI k + Int32.ofInt (n : Int) = nI (k + n) := by
  rw [show Int32.ofInt (n : Int) = nI n from rfl]
  exact nI_add k n
theorem zdec1 {k : Nat} (h : 1 ≤ k) : nI k + Int32.ofInt (-1) = nI (k - 1) := by
  obtain ⟨j, rfl⟩ : ∃ j, k = j + 1 := ⟨k - 1, by omega⟩
  rw [show Int32.ofInt (-1) = -1 by decide, Nat.add_sub_cancel]
  exact pk_m1 j
theorem nI_m1 {n : Nat} (h : n < 2147483648) : ¬ nI n = -1 := by
  intro e
  have := congrArg Int32.toInt e
  rw [nI_toInt h] at this
  have h2 : (-1 : Int32).toInt = -1 := by decide
  omega
theorem nI_m1' {n : Nat} (h : n < 2147483648) : ¬ (-1 : Int32) = nI n := fun e => nI_m1 h e.symm
theorem zgt0 {x : Nat} (h : x < 2147483648) : 0 < nI x ↔ 0 < x := by
  rw [← nI_0]
  exact nI_ltI (by decide) h
theorem zle0 {x : Nat} (h : x < 2147483648) : nI x ≤ 0 ↔ x = 0 := by
  rw [← nI_0, nI_leI h (by decide)]
  omega
theorem zb0 {b : Bool} : zb b = 0 ↔ b = false := by cases b <;> decide
theorem zbn0 {b : Bool} : ¬ zb b = 0 ↔ b = true := by cases b <;> decide
section ZRN
variable {E : ZE} {M : ZMeth} {pc q r : Nat} {ls : List (Option Value)} {st : List Value} {w : ZW} {sg : ZM} {d nc ns : Nat} {P : ZPhi} {idx a : Nat} {x y : Nat} {off : Int}
theorem r_iaddN (hd : decode M.2.1 pc = .ok (.iadd, 1)) (hq : pc + 1 = q) (kk : RW E M q ls (.int (nI (x + y)) :: st) w sg d nc ns P) : RW E M pc ls (.int (nI y) :: .int (nI x) :: st) w sg d nc ns P := r_iadd hd hq (by rw [nI_add]; exact kk)
theorem r_imulN (hd : decode M.2.1 pc = .ok (.imul, 1)) (hq : pc + 1 = q) (kk : RW E M q ls (.int (nI (x * y)) :: st) w sg d nc ns P) : RW E M pc ls (.int (nI y) :: .int (nI x) :: st) w sg d nc ns P := r_imul hd hq (by rw [pk_mul]; exact kk)
theorem r_isubN (h : y ≤ x) (hd : decode M.2.1 pc = .ok (.isub, 1)) (hq : pc + 1 = q) (kk : RW E M q ls (.int (nI (x - y)) :: st) w sg d nc ns P) : RW E M pc ls (.int (nI y) :: .int (nI x) :: st) w sg d nc ns P := r_isub hd hq (by rw [pk_sub h]; exact kk)
theorem r_idivN (h1 : x < 2147483648) (h2 : 0 < y) (h3 : y < 2147483648) (hd : decode M.2.1 pc = .ok (.idiv, 1)) (hq : pc + 1 = q) (kk : RW E M q ls (.int (nI (x / y)) :: st) w sg d nc ns P) : RW E M pc ls (.int (nI y) :: .int (nI x) :: st) w sg d nc ns P := r_idiv hd (nI_ne0 h2 h3) hq (by rw [pk_div h1 h2 h3]; exact kk)
theorem r_iremN (h1 : x < 2147483648) (h2 : 0 < y) (h3 : y < 2147483648) (hd : decode M.2.1 pc = .ok (.irem, 1)) (hq : pc + 1 = q) (kk : RW E M q ls (.int (nI (x % y)) :: st) w sg d nc ns P) : RW E M pc ls (.int (nI y) :: .int (nI x) :: st) w sg d nc ns P := r_irem hd (nI_ne0 h2 h3) hq (by rw [pk_rem h1 h2 h3]; exact kk)
theorem r_icmp_eqN (h1 : x < 2147483648) (h2 : y < 2147483648) (hd : decode M.2.1 pc = .ok (.if_icmp .eq off, 3)) (hr : (pc : Int) + off = (r : Int)) (hq : pc + 3 = q) (kt : x = y → RW E M r ls st w sg d nc ns P) (kf : ¬ x = y → RW E M q ls st w sg d nc ns P) : RW E M pc ls (.int (nI y) :: .int (nI x) :: st) w sg d nc ns P := r_icmp_eq hd hr hq (fun c => kt ((nI_eq h1 h2).mp c)) (fun c => kf (fun e => c ((nI_eq h1 h2).mpr e)))
theorem r_icmp_neN (h1 : x < 2147483648) (h2 : y < 2147483648) (hd : decode M.2.1 pc = .ok (.if_icmp .ne off, 3)) (hr : (pc : Int) + off = (r : Int)) (hq : pc + 3 = q) (kt : ¬ x = y → RW E M r ls st w sg d nc ns P) (kf : x = y → RW E M q ls st w sg d nc ns P) : RW E M pc ls (.int (nI y) :: .int (nI x) :: st) w sg d nc ns P := r_icmp_ne hd hr hq (fun c => kt (fun e => c ((nI_eq h1 h2).mpr e))) (fun c => kf ((nI_eq h1 h2).mp c))
theorem r_icmp_ltN (h1 : x < 2147483648) (h2 : y < 2147483648) (hd : decode M.2.1 pc = .ok (.if_icmp .lt off, 3)) (hr : (pc : Int) + off = (r : Int)) (hq : pc + 3 = q) (kt : x < y → RW E M r ls st w sg d nc ns P) (kf : y ≤ x → RW E M q ls st w sg d nc ns P) : RW E M pc ls (.int (nI y) :: .int (nI x) :: st) w sg d nc ns P := r_icmp_lt hd hr hq (fun c => kt ((nI_ltI h1 h2).mp c)) (fun c => kf (Nat.not_lt.mp (fun e => c ((nI_ltI h1 h2).mpr e))))
theorem r_icmp_geN (h1 : x < 2147483648) (h2 : y < 2147483648) (hd : decode M.2.1 pc = .ok (.if_icmp .ge off, 3)) (hr : (pc : Int) + off = (r : Int)) (hq : pc + 3 = q) (kt : y ≤ x → RW E M r ls st w sg d nc ns P) (kf : x < y → RW E M q ls st w sg d nc ns P) : RW E M pc ls (.int (nI y) :: .int (nI x) :: st) w sg d nc ns P := r_icmp_ge hd hr hq (fun c => kt ((nI_leI h2 h1).mp c)) (fun c => kf (Nat.not_le.mp (fun e => c ((nI_leI h2 h1).mpr e))))
theorem r_icmp_gtN (h1 : x < 2147483648) (h2 : y < 2147483648) (hd : decode M.2.1 pc = .ok (.if_icmp .gt off, 3)) (hr : (pc : Int) + off = (r : Int)) (hq : pc + 3 = q) (kt : y < x → RW E M r ls st w sg d nc ns P) (kf : x ≤ y → RW E M q ls st w sg d nc ns P) : RW E M pc ls (.int (nI y) :: .int (nI x) :: st) w sg d nc ns P := r_icmp_gt hd hr hq (fun c => kt ((nI_ltI h2 h1).mp c)) (fun c => kf (Nat.not_lt.mp (fun e => c ((nI_ltI h2 h1).mpr e))))
theorem r_icmp_leN (h1 : x < 2147483648) (h2 : y < 2147483648) (hd : decode M.2.1 pc = .ok (.if_icmp .le off, 3)) (hr : (pc : Int) + off = (r : Int)) (hq : pc + 3 = q) (kt : x ≤ y → RW E M r ls st w sg d nc ns P) (kf : y < x → RW E M q ls st w sg d nc ns P) : RW E M pc ls (.int (nI y) :: .int (nI x) :: st) w sg d nc ns P := r_icmp_le hd hr hq (fun c => kt ((nI_leI h1 h2).mp c)) (fun c => kf (Nat.not_le.mp (fun e => c ((nI_leI h1 h2).mpr e))))
theorem nI_eq0 {x : Nat} (h : x < 2147483648) : nI x = 0 ↔ x = 0 := by
  rw [← nI_0]
  exact nI_eq h (by decide)
theorem r_if_eqN (h1 : x < 2147483648) (hd : decode M.2.1 pc = .ok (.ifCond .eq off, 3)) (hr : (pc : Int) + off = (r : Int)) (hq : pc + 3 = q) (kt : x = 0 → RW E M r ls st w sg d nc ns P) (kf : ¬ x = 0 → RW E M q ls st w sg d nc ns P) : RW E M pc ls (.int (nI x) :: st) w sg d nc ns P := r_if_eq hd hr hq (fun c => kt ((nI_eq0 h1).mp c)) (fun c => kf (fun e => c ((nI_eq0 h1).mpr e)))
theorem r_if_neN (h1 : x < 2147483648) (hd : decode M.2.1 pc = .ok (.ifCond .ne off, 3)) (hr : (pc : Int) + off = (r : Int)) (hq : pc + 3 = q) (kt : ¬ x = 0 → RW E M r ls st w sg d nc ns P) (kf : x = 0 → RW E M q ls st w sg d nc ns P) : RW E M pc ls (.int (nI x) :: st) w sg d nc ns P := r_if_ne hd hr hq (fun c => kt (fun e => c ((nI_eq0 h1).mpr e))) (fun c => kf ((nI_eq0 h1).mp c))
theorem r_if_ltN (h1 : x < 2147483648) (hd : decode M.2.1 pc = .ok (.ifCond .lt off, 3)) (hr : (pc : Int) + off = (r : Int)) (hq : pc + 3 = q) (_kt : x < 0 → RW E M r ls st w sg d nc ns P) (kf : 0 ≤ x → RW E M q ls st w sg d nc ns P) : RW E M pc ls (.int (nI x) :: st) w sg d nc ns P := r_if_lt hd hr hq (fun c => absurd c (nI_pos h1)) (fun _ => kf (Nat.zero_le _))
theorem r_if_geN (h1 : x < 2147483648) (hd : decode M.2.1 pc = .ok (.ifCond .ge off, 3)) (hr : (pc : Int) + off = (r : Int)) (hq : pc + 3 = q) (kt : 0 ≤ x → RW E M r ls st w sg d nc ns P) (_kf : x < 0 → RW E M q ls st w sg d nc ns P) : RW E M pc ls (.int (nI x) :: st) w sg d nc ns P := r_if_ge hd hr hq (fun _ => kt (Nat.zero_le _)) (fun c => absurd (nI_pos' h1) c)
theorem r_if_gtN (h1 : x < 2147483648) (hd : decode M.2.1 pc = .ok (.ifCond .gt off, 3)) (hr : (pc : Int) + off = (r : Int)) (hq : pc + 3 = q) (kt : 0 < x → RW E M r ls st w sg d nc ns P) (kf : x = 0 → RW E M q ls st w sg d nc ns P) : RW E M pc ls (.int (nI x) :: st) w sg d nc ns P := r_if_gt hd hr hq (fun c => kt ((zgt0 h1).mp c)) (fun c => kf (Nat.eq_zero_of_not_pos (fun e => c ((zgt0 h1).mpr e))))
theorem r_if_leN (h1 : x < 2147483648) (hd : decode M.2.1 pc = .ok (.ifCond .le off, 3)) (hr : (pc : Int) + off = (r : Int)) (hq : pc + 3 = q) (kt : x = 0 → RW E M r ls st w sg d nc ns P) (kf : 0 < x → RW E M q ls st w sg d nc ns P) : RW E M pc ls (.int (nI x) :: st) w sg d nc ns P := r_if_le hd hr hq (fun c => kt ((zle0 h1).mp c)) (fun c => kf (Nat.pos_of_ne_zero (fun e => c ((zle0 h1).mpr e))))
theorem r_if_eqB {b : Bool} (hd : decode M.2.1 pc = .ok (.ifCond .eq off, 3)) (hr : (pc : Int) + off = (r : Int)) (hq : pc + 3 = q) (kt : b = false → RW E M r ls st w sg d nc ns P) (kf : b = true → RW E M q ls st w sg d nc ns P) : RW E M pc ls (.int (zb b) :: st) w sg d nc ns P := r_if_eq hd hr hq (fun c => kt (zb0.mp c)) (fun c => kf (zbn0.mp c))
theorem r_if_neB {b : Bool} (hd : decode M.2.1 pc = .ok (.ifCond .ne off, 3)) (hr : (pc : Int) + off = (r : Int)) (hq : pc + 3 = q) (kt : b = true → RW E M r ls st w sg d nc ns P) (kf : b = false → RW E M q ls st w sg d nc ns P) : RW E M pc ls (.int (zb b) :: st) w sg d nc ns P := r_if_ne hd hr hq (fun c => kt (zbn0.mp c)) (fun c => kf (zb0.mp c))
theorem r_getiv (c k fd : Nat) {v : Int32} (hf : ZFL M.1.cls idx c k) (hk : zk w a = c + 1) (ht : zty c k = 0) (hfd : 100 * c + 100 + k = fd) (hv : zi w fd a = v) (hd : decode M.2.1 pc = .ok (.getfield idx, 3)) (hq : pc + 3 = q) (kk : RW E M q ls (.int v :: st) w sg d nc ns P) : RW E M pc ls (.ref a :: st) w sg d nc ns P := r_geti c k fd hf hk ht hfd hd hq (by rw [hv]; exact kk)
theorem r_getfv (c k fd : Nat) {v : UInt32} (hf : ZFL M.1.cls idx c k) (hk : zk w a = c + 1) (ht : zty c k = 2) (hfd : 100 * c + 100 + k = fd) (hv : zf w fd a = v) (hd : decode M.2.1 pc = .ok (.getfield idx, 3)) (hq : pc + 3 = q) (kk : RW E M q ls (.float v :: st) w sg d nc ns P) : RW E M pc ls (.ref a :: st) w sg d nc ns P := r_getf c k fd hf hk ht hfd hd hq (by rw [hv]; exact kk)
theorem m_getiv {mo : Nat} (hm : E.2.2.2.2 = some mo) (k : Nat) {v : Int32} (hf : ZFL M.1.cls idx 10 k) (hz : zmk k = 0) (hv : mi sg k = v) (hd : decode M.2.1 pc = .ok (.getfield idx, 3)) (hq : pc + 3 = q) (kk : RW E M q ls (.int v :: st) w sg d nc ns P) : RW E M pc ls (.ref mo :: st) w sg d nc ns P := m_geti hm k hf hz hd hq (by rw [hv]; exact kk)
theorem r_alenv (t : Nat) {n : Nat} (ht : t < 9) (hk : zk w a = t + 20) (hn : zln w a = n) (hd : decode M.2.1 pc = .ok (.arraylength, 1)) (hq : pc + 1 = q) (kk : RW E M q ls (.int (nI n) :: st) w sg d nc ns P) : RW E M pc ls (.ref a :: st) w sg d nc ns P := r_alen t ht hk hd hq (by rw [hn]; exact kk)
theorem r_ialdv {x : Int32} {v : Int32} (j : Nat) (hk : zk w a = 22) (hx : x = nI j) (hj : j < zln w a) (hj2 : j < 2147483648) (hv : za w a j = v) (hd : decode M.2.1 pc = .ok (.iaload, 1)) (hq : pc + 1 = q) (kk : RW E M q ls (.int v :: st) w sg d nc ns P) : RW E M pc ls (.int x :: .ref a :: st) w sg d nc ns P := r_iald j hk hx hj hj2 hd hq (by rw [hv]; exact kk)
theorem r_caldv {x : Int32} {v : Int32} (j : Nat) (hk : zk w a = 20) (hx : x = nI j) (hj : j < zln w a) (hj2 : j < 2147483648) (hv : za w a j = v) (hd : decode M.2.1 pc = .ok (.caload, 1)) (hq : pc + 1 = q) (kk : RW E M q ls (.int v :: st) w sg d nc ns P) : RW E M pc ls (.int x :: .ref a :: st) w sg d nc ns P := r_cald j hk hx hj hj2 hd hq (by rw [hv]; exact kk)
theorem r_zaldv {x : Int32} {v : Int32} (j : Nat) (hk : zk w a = 23) (hx : x = nI j) (hj : j < zln w a) (hj2 : j < 2147483648) (hv : za w a j = v) (hd : decode M.2.1 pc = .ok (.baload, 1)) (hq : pc + 1 = q) (kk : RW E M q ls (.int v :: st) w sg d nc ns P) : RW E M pc ls (.int x :: .ref a :: st) w sg d nc ns P := r_zald j hk hx hj hj2 hd hq (by rw [hv]; exact kk)
theorem r_faldv {x : Int32} {v : UInt32} (j : Nat) (hk : zk w a = 21) (hx : x = nI j) (hj : j < zln w a) (hj2 : j < 2147483648) (hv : zg w a j = v) (hd : decode M.2.1 pc = .ok (.faload, 1)) (hq : pc + 1 = q) (kk : RW E M q ls (.float v :: st) w sg d nc ns P) : RW E M pc ls (.int x :: .ref a :: st) w sg d nc ns P := r_fald j hk hx hj hj2 hd hq (by rw [hv]; exact kk)
theorem r_laldv {x : Int32} {v : Int64} (j : Nat) (hk : zk w a = 24) (hx : x = nI j) (hj : j < zln w a) (hj2 : j < 2147483648) (hv : zl w a j = v) (hd : decode M.2.1 pc = .ok (.laload, 1)) (hq : pc + 1 = q) (kk : RW E M q ls (.long v :: st) w sg d nc ns P) : RW E M pc ls (.int x :: .ref a :: st) w sg d nc ns P := r_lald j hk hx hj hj2 hd hq (by rw [hv]; exact kk)
theorem r_daldv {x : Int32} {v : UInt64} (j : Nat) (hk : zk w a = 25) (hx : x = nI j) (hj : j < zln w a) (hj2 : j < 2147483648) (hv : zd w a j = v) (hd : decode M.2.1 pc = .ok (.daload, 1)) (hq : pc + 1 = q) (kk : RW E M q ls (.double v :: st) w sg d nc ns P) : RW E M pc ls (.int x :: .ref a :: st) w sg d nc ns P := r_dald j hk hx hj hj2 hd hq (by rw [hv]; exact kk)
theorem m_ialdv {mo : Nat} (hm : E.2.2.2.2 = some mo) {x : Int32} {v : Int32} (j i : Nat) (h1 : 1 ≤ j) (h2 : j ≤ zmN) (ht : zmt j = 2) (hx : x = nI i) (hi : i < zml j) (hv : ma sg j i = v) (hd : decode M.2.1 pc = .ok (.iaload, 1)) (hq : pc + 1 = q) (kk : RW E M q ls (.int v :: st) w sg d nc ns P) : RW E M pc ls (.int x :: .ref (mo + j) :: st) w sg d nc ns P := m_iald hm j i h1 h2 ht hx hi hd hq (by rw [hv]; exact kk)
theorem m_caldv {mo : Nat} (hm : E.2.2.2.2 = some mo) {x : Int32} {v : Int32} (j i : Nat) (h1 : 1 ≤ j) (h2 : j ≤ zmN) (ht : zmt j = 0) (hx : x = nI i) (hi : i < zml j) (hv : ma sg j i = v) (hd : decode M.2.1 pc = .ok (.caload, 1)) (hq : pc + 1 = q) (kk : RW E M q ls (.int v :: st) w sg d nc ns P) : RW E M pc ls (.int x :: .ref (mo + j) :: st) w sg d nc ns P := m_cald hm j i h1 h2 ht hx hi hd hq (by rw [hv]; exact kk)
theorem m_zaldv {mo : Nat} (hm : E.2.2.2.2 = some mo) {x : Int32} {v : Int32} (j i : Nat) (h1 : 1 ≤ j) (h2 : j ≤ zmN) (ht : zmt j = 3) (hx : x = nI i) (hi : i < zml j) (hv : ma sg j i = v) (hd : decode M.2.1 pc = .ok (.baload, 1)) (hq : pc + 1 = q) (kk : RW E M q ls (.int v :: st) w sg d nc ns P) : RW E M pc ls (.int x :: .ref (mo + j) :: st) w sg d nc ns P := m_zald hm j i h1 h2 ht hx hi hd hq (by rw [hv]; exact kk)
theorem m_faldv {mo : Nat} (hm : E.2.2.2.2 = some mo) {x : Int32} {v : UInt32} (j i : Nat) (h1 : 1 ≤ j) (h2 : j ≤ zmN) (ht : zmt j = 1) (hx : x = nI i) (hi : i < zml j) (hv : mg sg j i = v) (hd : decode M.2.1 pc = .ok (.faload, 1)) (hq : pc + 1 = q) (kk : RW E M q ls (.float v :: st) w sg d nc ns P) : RW E M pc ls (.int x :: .ref (mo + j) :: st) w sg d nc ns P := m_fald hm j i h1 h2 ht hx hi hd hq (by rw [hv]; exact kk)
theorem znewc0 (cA : ClassId) (w : ZW) (n : Nat) : vp_cell cA (n, zarr (znew w (0 + 20) n) (zsz w) 0) = arrV cA n (fun _ => defaultValue .char) := by
  have hz : zarr (znew w (0 + 20) n) (zsz w) 0 = .inl (fun _ => 0) := by
    unfold zarr
    simp
    funext y
    rw [za_znew, if_pos rfl]
  rw [hz]
  rfl
theorem znewc1 (cA : ClassId) (w : ZW) (n : Nat) : vp_cell cA (n, zarr (znew w (1 + 20) n) (zsz w) 1) = arrV cA n (fun _ => defaultValue .float) := by
  have hz : zarr (znew w (1 + 20) n) (zsz w) 1 = .inr (.inr (.inl (fun _ => 0))) := by
    unfold zarr
    simp
    funext y
    rw [zg_znew, if_pos rfl]
  rw [hz]
  rfl
theorem znewc2 (cA : ClassId) (w : ZW) (n : Nat) : vp_cell cA (n, zarr (znew w (2 + 20) n) (zsz w) 2) = arrV cA n (fun _ => defaultValue .int) := by
  have hz : zarr (znew w (2 + 20) n) (zsz w) 2 = .inl (fun _ => 0) := by
    unfold zarr
    simp
    funext y
    rw [za_znew, if_pos rfl]
  rw [hz]
  rfl
theorem znewc3 (cA : ClassId) (w : ZW) (n : Nat) : vp_cell cA (n, zarr (znew w (3 + 20) n) (zsz w) 3) = arrV cA n (fun _ => defaultValue .boolean) := by
  have hz : zarr (znew w (3 + 20) n) (zsz w) 3 = .inl (fun _ => 0) := by
    unfold zarr
    simp
    funext y
    rw [za_znew, if_pos rfl]
  rw [hz]
  rfl
theorem znewc4 (cA : ClassId) (w : ZW) (n : Nat) : vp_cell cA (n, zarr (znew w (4 + 20) n) (zsz w) 4) = arrV cA n (fun _ => defaultValue .long) := by
  have hz : zarr (znew w (4 + 20) n) (zsz w) 4 = .inr (.inl (fun _ => 0)) := by
    unfold zarr
    simp
    funext y
    rw [zl_znew, if_pos rfl]
  rw [hz]
  rfl
theorem znewc5 (cA : ClassId) (w : ZW) (n : Nat) : vp_cell cA (n, zarr (znew w (5 + 20) n) (zsz w) 5) = arrV cA n (fun _ => defaultValue .double) := by
  have hz : zarr (znew w (5 + 20) n) (zsz w) 5 = .inr (.inr (.inr (.inl (fun _ => 0)))) := by
    unfold zarr
    simp
    funext y
    rw [zd_znew, if_pos rfl]
  rw [hz]
  rfl
theorem r_ifnullR {b : Nat} (hd : decode M.2.1 pc = .ok (.ifnull off, 3)) (hr : (pc : Int) + off = (r : Int)) (hq : pc + 3 = q) (kn : some b = none → RW E M r ls st w sg d nc ns P) (ks : ∀ a, some b = some a → RW E M q ls st w sg d nc ns P) : RW E M pc ls (.ref b :: st) w sg d nc ns P := r_ifnull (x := some b) hd hr hq kn ks
theorem r_ifnonnullR {b : Nat} (hd : decode M.2.1 pc = .ok (.ifnonnull off, 3)) (hr : (pc : Int) + off = (r : Int)) (hq : pc + 3 = q) (kn : some b = none → RW E M q ls st w sg d nc ns P) (ks : ∀ a, some b = some a → RW E M r ls st w sg d nc ns P) : RW E M pc ls (.ref b :: st) w sg d nc ns P := r_ifnonnull (x := some b) hd hr hq kn ks
theorem r_ifnullZ (hd : decode M.2.1 pc = .ok (.ifnull off, 3)) (hr : (pc : Int) + off = (r : Int)) (hq : pc + 3 = q) (kn : (none : Option Nat) = none → RW E M r ls st w sg d nc ns P) (ks : ∀ a, (none : Option Nat) = some a → RW E M q ls st w sg d nc ns P) : RW E M pc ls (.null :: st) w sg d nc ns P := r_ifnull (x := none) hd hr hq kn ks
theorem r_ifnonnullZ (hd : decode M.2.1 pc = .ok (.ifnonnull off, 3)) (hr : (pc : Int) + off = (r : Int)) (hq : pc + 3 = q) (kn : (none : Option Nat) = none → RW E M q ls st w sg d nc ns P) (ks : ∀ a, (none : Option Nat) = some a → RW E M r ls st w sg d nc ns P) : RW E M pc ls (.null :: st) w sg d nc ns P := r_ifnonnull (x := none) hd hr hq kn ks
end ZRN
