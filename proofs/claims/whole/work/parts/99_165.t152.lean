/-! ===== the model's constructor ===== -/
def zmj (k : Nat) : Nat := ([0, 2, 3, 4, 5, 6, 7, 9, 10, 11, 17, 19, 20, 22, 23, 24, 25, 28, 29, 30, 31, 33, 34, 35, 36, 37, 38, 39, 40, 41, 42, 43, 46, 47, 49, 50, 51, 52, 53, 54, 55] : List Nat).getD k 0
def ctA (k i : Nat) : Int32 := if k = 24 then nI ((zwC 1).getD i 0) else if k = 25 then nI ((zwC 0).getD i 0) else 0
/-- n rows of the model at mo are made -/
def ctS (w0 w : ZW) (mo n : Nat) : Prop := zsz w = mo + 1 + n ∧ (∀ b, b < mo → zeq w0 w b) ∧ zk w mo = 11 ∧ (∀ f, zi w f mo = 0) ∧ ∀ k, 1 ≤ k → k ≤ n → zk w (mo + k) = 20 + zmt k ∧ zln w (mo + k) = zml k ∧ zr w (1100 + zmj k) mo = some (mo + k) ∧ (∀ i, za w (mo + k) i = ctA k i) ∧ ∀ i, zg w (mo + k) i = 0
/-- a new row with contents A, set into a field of s -/
def nxA (w w' : ZW) (s k n f : Nat) (A : Nat → Int32) : Prop := zsz w' = zsz w + 1 ∧ (∀ b, b ≠ s → b ≠ zsz w → zeq w w' b) ∧ zk w' s = zk w s ∧ zk w' (zsz w) = k ∧ zln w' (zsz w) = n ∧ zr w' f s = some (zsz w) ∧ (∀ g, g ≠ f → zr w' g s = zr w g s) ∧ (∀ g, zi w' g s = zi w g s) ∧ (∀ i, za w' (zsz w) i = A i) ∧ (∀ i, zg w' (zsz w) i = 0)
theorem nxR.A {w w' : ZW} {s k n f : Nat} (h : nxR w w' s k n f) {A : Nat → Int32} (hA : ∀ i, A i = 0) : nxA w w' s k n f A := by
  obtain ⟨h1, h2, h3, h4, h5, h6, h7, h8, h9, h10, h11⟩ := h
  exact ⟨h1, h2, h3, h4, h5, h6, h7, h8, fun i => (h10 i).trans (hA i).symm, h11⟩
/-- a new row, nowhere yet, with contents A -/
def nxB (w w' : ZW) (k n : Nat) (A : Nat → Int32) : Prop := zsz w' = zsz w + 1 ∧ (∀ b, b ≠ zsz w → zeq w w' b) ∧ zk w' (zsz w) = k ∧ zln w' (zsz w) = n ∧ (∀ i, za w' (zsz w) i = A i) ∧ (∀ i, zg w' (zsz w) i = 0)
theorem nxB_of {w : ZW} {k n : Nat} : nxB w (znew w k n) k n (fun _ => 0) := by
  refine ⟨rfl, fun b h2 => zeq.nw h2, ?_, ?_, fun i => ?_, fun i => ?_⟩
  · rw [zk_znew, if_pos rfl]
  · rw [zln_znew, if_pos rfl]
  · rw [za_znew, if_pos rfl]
  · rw [zg_znew, if_pos rfl]
theorem nxB.sa {w w1 : ZW} {k n i : Nat} {v : Int32} {A : Nat → Int32} (h : nxB w w1 k n A) : nxB w (zsa w1 (zsz w) i v) k n (fun j => if j = i then v else A j) := by
  obtain ⟨h1, h2, h3, h4, h5, h6⟩ := h
  refine ⟨h1, fun b g => (h2 b g).tr (zeq.sa g), h3, h4, fun j => ?_, h6⟩
  rw [za_zsa]
  by_cases c : j = i
  · rw [if_pos ⟨rfl, c⟩]
    exact (if_pos c).symm
  · rw [if_neg (fun q => c q.2), h5]
    exact (if_neg c).symm
theorem nxA_of {w w1 : ZW} {k n s f : Nat} {A A' : Nat → Int32} (b : nxB w w1 k n A) (h : s < zsz w) (hA : A = A') : nxA w (zsr w1 f s (some (zsz w))) s k n f A' := by
  subst hA
  obtain ⟨h1, h2, h3, h4, h5, h6⟩ := b
  have e := h2 s (by omega)
  refine ⟨h1, fun b g2 g3 => (h2 b g3).tr (zeq.sr g2), e.k, h3, h4, z2_eq, fun g hg => ?_, fun g => e.i g, h5, h6⟩
  rw [zr_zsr, if_neg (fun q => hg q.1)]
  exact e.r g
def wdA (c0 c1 c2 c3 c4 c5 c6 : Int32) (i : Nat) : Int32 := if i = 6 then c6 else if i = 5 then c5 else if i = 4 then c4 else if i = 3 then c3 else if i = 2 then c2 else if i = 1 then c1 else if i = 0 then c0 else 0
theorem ctA_24 (i : Nat) : wdA (nI 105) (nI 110) (nI 105) (nI 116) (nI 105) (nI 97) (nI 108) i = ctA 24 i := by
  rcases (by omega : i = 0 ∨ i = 1 ∨ i = 2 ∨ i = 3 ∨ i = 4 ∨ i = 5 ∨ i = 6 ∨ 7 ≤ i) with rfl | rfl | rfl | rfl | rfl | rfl | rfl | h
  · rfl
  · rfl
  · rfl
  · rfl
  · rfl
  · rfl
  · rfl
  · unfold wdA ctA
    rw [if_neg (by omega), if_neg (by omega), if_neg (by omega), if_neg (by omega), if_neg (by omega), if_neg (by omega), if_neg (by omega), if_pos rfl, List.getD_eq_getElem?_getD, List.getElem?_eq_none (by rw [zwC_len]; exact h)]
    rfl
theorem ctA_25 (i : Nat) : wdA (nI 105) (nI 110) (nI 104) (nI 101) (nI 114) (nI 105) (nI 116) i = ctA 25 i := by
  rcases (by omega : i = 0 ∨ i = 1 ∨ i = 2 ∨ i = 3 ∨ i = 4 ∨ i = 5 ∨ i = 6 ∨ 7 ≤ i) with rfl | rfl | rfl | rfl | rfl | rfl | rfl | h
  · rfl
  · rfl
  · rfl
  · rfl
  · rfl
  · rfl
  · rfl
  · unfold wdA ctA
    rw [if_neg (by omega), if_neg (by omega), if_neg (by omega), if_neg (by omega), if_neg (by omega), if_neg (by omega), if_neg (by omega), if_neg (by decide), if_pos rfl, List.getD_eq_getElem?_getD, List.getElem?_eq_none (by rw [zwC_len]; exact h)]
    rfl
theorem zmj_inj : ∀ k : Nat, k < 41 → ∀ k' : Nat, k' < 41 → 1 ≤ k → k < k' → zmj k ≠ zmj k' := by decide +kernel
theorem ctS.next {w0 w w1 : ZW} {mo n f k l : Nat} (h : ctS w0 w mo n) (hn : n < 40) (r : nxA w w1 mo k l f (ctA (n + 1))) (hk : k = 20 + zmt (n + 1)) (hl : l = zml (n + 1)) (hf : f = 1100 + zmj (n + 1)) : ctS w0 w1 mo (n + 1) := by
  subst hk
  subst hl
  subst hf
  obtain ⟨g1, g2, g3, g4, g5⟩ := h
  obtain ⟨r1, r2, r3, r4, r5, r6, r7, r8, r9, r10⟩ := r
  refine ⟨by omega, fun b hb => (g2 b hb).tr (r2 b (by omega) (by omega)), r3.trans g3, fun f => (r8 f).trans (g4 f), fun k h1 h2 => ?_⟩
  rcases Nat.lt_or_ge n k with c | c
  · have e : k = n + 1 := by omega
    subst e
    have e2 : mo + (n + 1) = zsz w := by omega
    rw [e2]
    exact ⟨r4, r5, r6, r9, r10⟩
  · obtain ⟨q1, q2, q3, q4, q5⟩ := g5 k h1 c
    have e := r2 (mo + k) (by omega) (by omega)
    refine ⟨e.k.trans q1, e.ln.trans q2, (r7 _ (fun z => zmj_inj k (by omega) (n + 1) (by omega) h1 (by omega) (by omega))).trans q3, fun i => ?_, fun i => ?_⟩
    · rw [e.a]; exact q4 i
    · rw [e.g]; exact q5 i
theorem cti_0 (E : ZE) (w0 w : ZW) (sg : ZM) (d mo : Nat) (hd : 1 ≤ d) (c0 : ctS w0 w mo 0) (P : ZPhi) (K : ∀ w', ctS w0 w' mo 7 → RW E MX10_init 61 [some (.ref mo)] [] w' sg d 33 8661 P) : RW E MX10_init 0 [some (.ref mo)] [] w sg d 40 10845 P := by
  have z0 := c0.1
  have k0 : zk w mo = 11 := c0.2.2.1
  refine r_aload_n dX10_init_0 rfl (zRv_ref _) rfl ?_
  refine r_objI tw_924 tw_118 tw_119 (by omega) (by first | exact Nat.le_of_ble_eq_true rfl | (simp [zcat_rf, Value.category]; done)) dX10_init_1 rfl ?_
  refine r_aload_n dX10_init_4 rfl (zRv_ref _) rfl ?_
  refine r_bipush dX10_init_5 kb_24 rfl ?_
  refine r_newa (atype := .int) (nc' := 39) (ns' := 10821) 2 24 (by decide) rfl (fun cA => znewc2 cA _ _) tw_153 rfl (by decide) (by decide) (by decide) dX10_init_7 rfl ?_
  refine r_puts 10 2 1102 lfX10_7 (by first | (simp only [zKS]; first | assumption | exact zk_nw (by assumption) (by omega)) | assumption | exact zk_nw (by assumption) (by omega) | exact zk_nself _ _ _ | (simp [zKS, zNS, *]; done)) rfl rfl rfl (Or.inr ⟨rfl, rfl⟩) dX10_init_9 rfl ?_
  refine RW.gen (fun w1 e1 => ?_)
  have c1 : ctS w0 w1 mo 1 := c0.next (by decide) (f := 1102) (k := 22) (l := 24) (by rw [e1]; exact (nxR_of (by omega)).A (fun _ => rfl)) rfl rfl rfl
  clear e1
  have z1 := c1.1
  have k1 : zk w1 mo = 11 := c1.2.2.1
  refine r_aload_n dX10_init_12 rfl (zRv_ref _) rfl ?_
  refine r_bipush dX10_init_13 kb_24 rfl ?_
  refine r_newa (atype := .int) (nc' := 38) (ns' := 10797) 2 24 (by decide) rfl (fun cA => znewc2 cA _ _) tw_153 rfl (by decide) (by decide) (by decide) dX10_init_15 rfl ?_
  refine r_puts 10 3 1103 lfX10_13 (by first | (simp only [zKS]; first | assumption | exact zk_nw (by assumption) (by omega)) | assumption | exact zk_nw (by assumption) (by omega) | exact zk_nself _ _ _ | (simp [zKS, zNS, *]; done)) rfl rfl rfl (Or.inr ⟨rfl, rfl⟩) dX10_init_17 rfl ?_
  refine RW.gen (fun w2 e2 => ?_)
  have c2 : ctS w0 w2 mo 2 := c1.next (by decide) (f := 1103) (k := 22) (l := 24) (by rw [e2]; exact (nxR_of (by omega)).A (fun _ => rfl)) rfl rfl rfl
  clear e2
  have z2 := c2.1
  have k2 : zk w2 mo = 11 := c2.2.2.1
  refine r_aload_n dX10_init_20 rfl (zRv_ref _) rfl ?_
  refine r_bipush dX10_init_21 kb_24 rfl ?_
  refine r_newa (atype := .int) (nc' := 37) (ns' := 10773) 2 24 (by decide) rfl (fun cA => znewc2 cA _ _) tw_153 rfl (by decide) (by decide) (by decide) dX10_init_23 rfl ?_
  refine r_puts 10 4 1104 lfX10_16 (by first | (simp only [zKS]; first | assumption | exact zk_nw (by assumption) (by omega)) | assumption | exact zk_nw (by assumption) (by omega) | exact zk_nself _ _ _ | (simp [zKS, zNS, *]; done)) rfl rfl rfl (Or.inr ⟨rfl, rfl⟩) dX10_init_25 rfl ?_
  refine RW.gen (fun w3 e3 => ?_)
  have c3 : ctS w0 w3 mo 3 := c2.next (by decide) (f := 1104) (k := 22) (l := 24) (by rw [e3]; exact (nxR_of (by omega)).A (fun _ => rfl)) rfl rfl rfl
  clear e3
  have z3 := c3.1
  have k3 : zk w3 mo = 11 := c3.2.2.1
  refine r_aload_n dX10_init_28 rfl (zRv_ref _) rfl ?_
  refine r_bipush dX10_init_29 kb_24 rfl ?_
  refine r_newa (atype := .int) (nc' := 36) (ns' := 10749) 2 24 (by decide) rfl (fun cA => znewc2 cA _ _) tw_153 rfl (by decide) (by decide) (by decide) dX10_init_31 rfl ?_
  refine r_puts 10 5 1105 lfX10_19 (by first | (simp only [zKS]; first | assumption | exact zk_nw (by assumption) (by omega)) | assumption | exact zk_nw (by assumption) (by omega) | exact zk_nself _ _ _ | (simp [zKS, zNS, *]; done)) rfl rfl rfl (Or.inr ⟨rfl, rfl⟩) dX10_init_33 rfl ?_
  refine RW.gen (fun w4 e4 => ?_)
  have c4 : ctS w0 w4 mo 4 := c3.next (by decide) (f := 1105) (k := 22) (l := 24) (by rw [e4]; exact (nxR_of (by omega)).A (fun _ => rfl)) rfl rfl rfl
  clear e4
  have z4 := c4.1
  have k4 : zk w4 mo = 11 := c4.2.2.1
  refine r_aload_n dX10_init_36 rfl (zRv_ref _) rfl ?_
  refine r_bipush dX10_init_37 kb_24 rfl ?_
  refine r_newa (atype := .int) (nc' := 35) (ns' := 10725) 2 24 (by decide) rfl (fun cA => znewc2 cA _ _) tw_153 rfl (by decide) (by decide) (by decide) dX10_init_39 rfl ?_
  refine r_puts 10 6 1106 lfX10_22 (by first | (simp only [zKS]; first | assumption | exact zk_nw (by assumption) (by omega)) | assumption | exact zk_nw (by assumption) (by omega) | exact zk_nself _ _ _ | (simp [zKS, zNS, *]; done)) rfl rfl rfl (Or.inr ⟨rfl, rfl⟩) dX10_init_41 rfl ?_
  refine RW.gen (fun w5 e5 => ?_)
  have c5 : ctS w0 w5 mo 5 := c4.next (by decide) (f := 1106) (k := 22) (l := 24) (by rw [e5]; exact (nxR_of (by omega)).A (fun _ => rfl)) rfl rfl rfl
  clear e5
  have z5 := c5.1
  have k5 : zk w5 mo = 11 := c5.2.2.1
  refine r_aload_n dX10_init_44 rfl (zRv_ref _) rfl ?_
  refine r_bipush dX10_init_45 kb_24 rfl ?_
  refine r_newa (atype := .int) (nc' := 34) (ns' := 10701) 2 24 (by decide) rfl (fun cA => znewc2 cA _ _) tw_153 rfl (by decide) (by decide) (by decide) dX10_init_47 rfl ?_
  refine r_puts 10 7 1107 lfX10_25 (by first | (simp only [zKS]; first | assumption | exact zk_nw (by assumption) (by omega)) | assumption | exact zk_nw (by assumption) (by omega) | exact zk_nself _ _ _ | (simp [zKS, zNS, *]; done)) rfl rfl rfl (Or.inr ⟨rfl, rfl⟩) dX10_init_49 rfl ?_
  refine RW.gen (fun w6 e6 => ?_)
  have c6 : ctS w0 w6 mo 6 := c5.next (by decide) (f := 1107) (k := 22) (l := 24) (by rw [e6]; exact (nxR_of (by omega)).A (fun _ => rfl)) rfl rfl rfl
  clear e6
  have z6 := c6.1
  have k6 : zk w6 mo = 11 := c6.2.2.1
  refine r_aload_n dX10_init_52 rfl (zRv_ref _) rfl ?_
  refine r_sipush dX10_init_53 ks_2040 rfl ?_
  refine r_newa (atype := .char) (nc' := 33) (ns' := 8661) 0 2040 (by decide) rfl (fun cA => znewc0 cA _ _) tw_152 rfl (by decide) (by decide) (by decide) dX10_init_56 rfl ?_
  refine r_puts 10 9 1109 lfX10_28 (by first | (simp only [zKS]; first | assumption | exact zk_nw (by assumption) (by omega)) | assumption | exact zk_nw (by assumption) (by omega) | exact zk_nself _ _ _ | (simp [zKS, zNS, *]; done)) rfl rfl rfl (Or.inr ⟨rfl, rfl⟩) dX10_init_58 rfl ?_
  refine RW.gen (fun w7 e7 => ?_)
  have c7 : ctS w0 w7 mo 7 := c6.next (by decide) (f := 1109) (k := 20) (l := 2040) (by rw [e7]; exact (nxR_of (by omega)).A (fun _ => rfl)) rfl rfl rfl
  clear e7
  have z7 := c7.1
  have k7 : zk w7 mo = 11 := c7.2.2.1
  exact K _ c7
theorem cti_1 (E : ZE) (w0 w : ZW) (sg : ZM) (d mo : Nat) (hd : 1 ≤ d) (c7 : ctS w0 w mo 7) (P : ZPhi) (K : ∀ w', ctS w0 w' mo 14 → RW E MX10_init 120 [some (.ref mo)] [] w' sg d 26 8105 P) : RW E MX10_init 61 [some (.ref mo)] [] w sg d 33 8661 P := by
  have z7 := c7.1
  have k7 : zk w mo = 11 := c7.2.2.1
  refine r_aload_n dX10_init_61 rfl (zRv_ref _) rfl ?_
  refine r_bipush dX10_init_62 kb_17 rfl ?_
  refine r_newa (atype := .int) (nc' := 32) (ns' := 8644) 2 17 (by decide) rfl (fun cA => znewc2 cA _ _) tw_153 rfl (by decide) (by decide) (by decide) dX10_init_64 rfl ?_
  refine r_puts 10 10 1110 lfX10_32 (by first | (simp only [zKS]; first | assumption | exact zk_nw (by assumption) (by omega)) | assumption | exact zk_nw (by assumption) (by omega) | exact zk_nself _ _ _ | (simp [zKS, zNS, *]; done)) rfl rfl rfl (Or.inr ⟨rfl, rfl⟩) dX10_init_66 rfl ?_
  refine RW.gen (fun w8 e8 => ?_)
  have c8 : ctS w0 w8 mo 8 := c7.next (by decide) (f := 1110) (k := 22) (l := 17) (by rw [e8]; exact (nxR_of (by omega)).A (fun _ => rfl)) rfl rfl rfl
  clear e8
  have z8 := c8.1
  have k8 : zk w8 mo = 11 := c8.2.2.1
  refine r_aload_n dX10_init_69 rfl (zRv_ref _) rfl ?_
  refine r_bipush dX10_init_70 kb_16 rfl ?_
  refine r_newa (atype := .int) (nc' := 31) (ns' := 8628) 2 16 (by decide) rfl (fun cA => znewc2 cA _ _) tw_153 rfl (by decide) (by decide) (by decide) dX10_init_72 rfl ?_
  refine r_puts 10 11 1111 lfX10_35 (by first | (simp only [zKS]; first | assumption | exact zk_nw (by assumption) (by omega)) | assumption | exact zk_nw (by assumption) (by omega) | exact zk_nself _ _ _ | (simp [zKS, zNS, *]; done)) rfl rfl rfl (Or.inr ⟨rfl, rfl⟩) dX10_init_74 rfl ?_
  refine RW.gen (fun w9 e9 => ?_)
  have c9 : ctS w0 w9 mo 9 := c8.next (by decide) (f := 1111) (k := 22) (l := 16) (by rw [e9]; exact (nxR_of (by omega)).A (fun _ => rfl)) rfl rfl rfl
  clear e9
  have z9 := c9.1
  have k9 : zk w9 mo = 11 := c9.2.2.1
  refine r_aload_n dX10_init_77 rfl (zRv_ref _) rfl ?_
  refine r_iconst dX10_init_78 kc_3 rfl ?_
  refine r_newa (atype := .int) (nc' := 30) (ns' := 8625) 2 3 (by decide) rfl (fun cA => znewc2 cA _ _) tw_153 rfl (by decide) (by decide) (by decide) dX10_init_79 rfl ?_
  refine r_puts 10 17 1117 lfX10_38 (by first | (simp only [zKS]; first | assumption | exact zk_nw (by assumption) (by omega)) | assumption | exact zk_nw (by assumption) (by omega) | exact zk_nself _ _ _ | (simp [zKS, zNS, *]; done)) rfl rfl rfl (Or.inr ⟨rfl, rfl⟩) dX10_init_81 rfl ?_
  refine RW.gen (fun w10 e10 => ?_)
  have c10 : ctS w0 w10 mo 10 := c9.next (by decide) (f := 1117) (k := 22) (l := 3) (by rw [e10]; exact (nxR_of (by omega)).A (fun _ => rfl)) rfl rfl rfl
  clear e10
  have z10 := c10.1
  have k10 : zk w10 mo = 11 := c10.2.2.1
  refine r_aload_n dX10_init_84 rfl (zRv_ref _) rfl ?_
  refine r_sipush dX10_init_85 ks_130 rfl ?_
  refine r_newa (atype := .char) (nc' := 29) (ns' := 8495) 0 130 (by decide) rfl (fun cA => znewc0 cA _ _) tw_152 rfl (by decide) (by decide) (by decide) dX10_init_88 rfl ?_
  refine r_puts 10 19 1119 lfX10_41 (by first | (simp only [zKS]; first | assumption | exact zk_nw (by assumption) (by omega)) | assumption | exact zk_nw (by assumption) (by omega) | exact zk_nself _ _ _ | (simp [zKS, zNS, *]; done)) rfl rfl rfl (Or.inr ⟨rfl, rfl⟩) dX10_init_90 rfl ?_
  refine RW.gen (fun w11 e11 => ?_)
  have c11 : ctS w0 w11 mo 11 := c10.next (by decide) (f := 1119) (k := 20) (l := 130) (by rw [e11]; exact (nxR_of (by omega)).A (fun _ => rfl)) rfl rfl rfl
  clear e11
  have z11 := c11.1
  have k11 : zk w11 mo = 11 := c11.2.2.1
  refine r_aload_n dX10_init_93 rfl (zRv_ref _) rfl ?_
  refine r_sipush dX10_init_94 ks_130 rfl ?_
  refine r_newa (atype := .int) (nc' := 28) (ns' := 8365) 2 130 (by decide) rfl (fun cA => znewc2 cA _ _) tw_153 rfl (by decide) (by decide) (by decide) dX10_init_97 rfl ?_
  refine r_puts 10 20 1120 lfX10_44 (by first | (simp only [zKS]; first | assumption | exact zk_nw (by assumption) (by omega)) | assumption | exact zk_nw (by assumption) (by omega) | exact zk_nself _ _ _ | (simp [zKS, zNS, *]; done)) rfl rfl rfl (Or.inr ⟨rfl, rfl⟩) dX10_init_99 rfl ?_
  refine RW.gen (fun w12 e12 => ?_)
  have c12 : ctS w0 w12 mo 12 := c11.next (by decide) (f := 1120) (k := 22) (l := 130) (by rw [e12]; exact (nxR_of (by omega)).A (fun _ => rfl)) rfl rfl rfl
  clear e12
  have z12 := c12.1
  have k12 : zk w12 mo = 11 := c12.2.2.1
  refine r_aload_n dX10_init_102 rfl (zRv_ref _) rfl ?_
  refine r_sipush dX10_init_103 ks_130 rfl ?_
  refine r_newa (atype := .int) (nc' := 27) (ns' := 8235) 2 130 (by decide) rfl (fun cA => znewc2 cA _ _) tw_153 rfl (by decide) (by decide) (by decide) dX10_init_106 rfl ?_
  refine r_puts 10 22 1122 lfX10_47 (by first | (simp only [zKS]; first | assumption | exact zk_nw (by assumption) (by omega)) | assumption | exact zk_nw (by assumption) (by omega) | exact zk_nself _ _ _ | (simp [zKS, zNS, *]; done)) rfl rfl rfl (Or.inr ⟨rfl, rfl⟩) dX10_init_108 rfl ?_
  refine RW.gen (fun w13 e13 => ?_)
  have c13 : ctS w0 w13 mo 13 := c12.next (by decide) (f := 1122) (k := 22) (l := 130) (by rw [e13]; exact (nxR_of (by omega)).A (fun _ => rfl)) rfl rfl rfl
  clear e13
  have z13 := c13.1
  have k13 : zk w13 mo = 11 := c13.2.2.1
  refine r_aload_n dX10_init_111 rfl (zRv_ref _) rfl ?_
  refine r_sipush dX10_init_112 ks_130 rfl ?_
  refine r_newa (atype := .int) (nc' := 26) (ns' := 8105) 2 130 (by decide) rfl (fun cA => znewc2 cA _ _) tw_153 rfl (by decide) (by decide) (by decide) dX10_init_115 rfl ?_
  refine r_puts 10 23 1123 lfX10_50 (by first | (simp only [zKS]; first | assumption | exact zk_nw (by assumption) (by omega)) | assumption | exact zk_nw (by assumption) (by omega) | exact zk_nself _ _ _ | (simp [zKS, zNS, *]; done)) rfl rfl rfl (Or.inr ⟨rfl, rfl⟩) dX10_init_117 rfl ?_
  refine RW.gen (fun w14 e14 => ?_)
  have c14 : ctS w0 w14 mo 14 := c13.next (by decide) (f := 1123) (k := 22) (l := 130) (by rw [e14]; exact (nxR_of (by omega)).A (fun _ => rfl)) rfl rfl rfl
  clear e14
  have z14 := c14.1
  have k14 : zk w14 mo = 11 := c14.2.2.1
  exact K _ c14
theorem cti_2 (E : ZE) (w0 w : ZW) (sg : ZM) (d mo : Nat) (hd : 1 ≤ d) (c14 : ctS w0 w mo 14) (P : ZPhi) (K : ∀ w', ctS w0 w' mo 21 → RW E MX10_init 175 [some (.ref mo)] [] w' sg d 19 7698 P) : RW E MX10_init 120 [some (.ref mo)] [] w sg d 26 8105 P := by
  have z14 := c14.1
  have k14 : zk w mo = 11 := c14.2.2.1
  refine r_aload_n dX10_init_120 rfl (zRv_ref _) rfl ?_
  refine r_sipush dX10_init_121 ks_130 rfl ?_
  refine r_newa (atype := .int) (nc' := 25) (ns' := 7975) 2 130 (by decide) rfl (fun cA => znewc2 cA _ _) tw_153 rfl (by decide) (by decide) (by decide) dX10_init_124 rfl ?_
  refine r_puts 10 24 1124 lfX10_53 (by first | (simp only [zKS]; first | assumption | exact zk_nw (by assumption) (by omega)) | assumption | exact zk_nw (by assumption) (by omega) | exact zk_nself _ _ _ | (simp [zKS, zNS, *]; done)) rfl rfl rfl (Or.inr ⟨rfl, rfl⟩) dX10_init_126 rfl ?_
  refine RW.gen (fun w15 e15 => ?_)
  have c15 : ctS w0 w15 mo 15 := c14.next (by decide) (f := 1124) (k := 22) (l := 130) (by rw [e15]; exact (nxR_of (by omega)).A (fun _ => rfl)) rfl rfl rfl
  clear e15
  have z15 := c15.1
  have k15 : zk w15 mo = 11 := c15.2.2.1
  refine r_aload_n dX10_init_129 rfl (zRv_ref _) rfl ?_
  refine r_sipush dX10_init_130 ks_130 rfl ?_
  refine r_newa (atype := .int) (nc' := 24) (ns' := 7845) 2 130 (by decide) rfl (fun cA => znewc2 cA _ _) tw_153 rfl (by decide) (by decide) (by decide) dX10_init_133 rfl ?_
  refine r_puts 10 25 1125 lfX10_56 (by first | (simp only [zKS]; first | assumption | exact zk_nw (by assumption) (by omega)) | assumption | exact zk_nw (by assumption) (by omega) | exact zk_nself _ _ _ | (simp [zKS, zNS, *]; done)) rfl rfl rfl (Or.inr ⟨rfl, rfl⟩) dX10_init_135 rfl ?_
  refine RW.gen (fun w16 e16 => ?_)
  have c16 : ctS w0 w16 mo 16 := c15.next (by decide) (f := 1125) (k := 22) (l := 130) (by rw [e16]; exact (nxR_of (by omega)).A (fun _ => rfl)) rfl rfl rfl
  clear e16
  have z16 := c16.1
  have k16 : zk w16 mo = 11 := c16.2.2.1
  refine r_aload_n dX10_init_138 rfl (zRv_ref _) rfl ?_
  refine r_iconst dX10_init_139 kc_4 rfl ?_
  refine r_newa (atype := .int) (nc' := 23) (ns' := 7841) 2 4 (by decide) rfl (fun cA => znewc2 cA _ _) tw_153 rfl (by decide) (by decide) (by decide) dX10_init_140 rfl ?_
  refine r_puts 10 28 1128 lfX10_59 (by first | (simp only [zKS]; first | assumption | exact zk_nw (by assumption) (by omega)) | assumption | exact zk_nw (by assumption) (by omega) | exact zk_nself _ _ _ | (simp [zKS, zNS, *]; done)) rfl rfl rfl (Or.inr ⟨rfl, rfl⟩) dX10_init_142 rfl ?_
  refine RW.gen (fun w17 e17 => ?_)
  have c17 : ctS w0 w17 mo 17 := c16.next (by decide) (f := 1128) (k := 22) (l := 4) (by rw [e17]; exact (nxR_of (by omega)).A (fun _ => rfl)) rfl rfl rfl
  clear e17
  have z17 := c17.1
  have k17 : zk w17 mo = 11 := c17.2.2.1
  refine r_aload_n dX10_init_145 rfl (zRv_ref _) rfl ?_
  refine r_iconst dX10_init_146 kc_4 rfl ?_
  refine r_newa (atype := .int) (nc' := 22) (ns' := 7837) 2 4 (by decide) rfl (fun cA => znewc2 cA _ _) tw_153 rfl (by decide) (by decide) (by decide) dX10_init_147 rfl ?_
  refine r_puts 10 29 1129 lfX10_62 (by first | (simp only [zKS]; first | assumption | exact zk_nw (by assumption) (by omega)) | assumption | exact zk_nw (by assumption) (by omega) | exact zk_nself _ _ _ | (simp [zKS, zNS, *]; done)) rfl rfl rfl (Or.inr ⟨rfl, rfl⟩) dX10_init_149 rfl ?_
  refine RW.gen (fun w18 e18 => ?_)
  have c18 : ctS w0 w18 mo 18 := c17.next (by decide) (f := 1129) (k := 22) (l := 4) (by rw [e18]; exact (nxR_of (by omega)).A (fun _ => rfl)) rfl rfl rfl
  clear e18
  have z18 := c18.1
  have k18 : zk w18 mo = 11 := c18.2.2.1
  refine r_aload_n dX10_init_152 rfl (zRv_ref _) rfl ?_
  refine r_iconst dX10_init_153 kc_4 rfl ?_
  refine r_newa (atype := .boolean) (nc' := 21) (ns' := 7833) 3 4 (by decide) rfl (fun cA => znewc3 cA _ _) tw_1097 rfl (by decide) (by decide) (by decide) dX10_init_154 rfl ?_
  refine r_puts 10 30 1130 lfX10_65 (by first | (simp only [zKS]; first | assumption | exact zk_nw (by assumption) (by omega)) | assumption | exact zk_nw (by assumption) (by omega) | exact zk_nself _ _ _ | (simp [zKS, zNS, *]; done)) rfl rfl rfl (Or.inr ⟨rfl, rfl⟩) dX10_init_156 rfl ?_
  refine RW.gen (fun w19 e19 => ?_)
  have c19 : ctS w0 w19 mo 19 := c18.next (by decide) (f := 1130) (k := 23) (l := 4) (by rw [e19]; exact (nxR_of (by omega)).A (fun _ => rfl)) rfl rfl rfl
  clear e19
  have z19 := c19.1
  have k19 : zk w19 mo = 11 := c19.2.2.1
  refine r_aload_n dX10_init_159 rfl (zRv_ref _) rfl ?_
  refine r_iconst dX10_init_160 kc_5 rfl ?_
  refine r_newa (atype := .int) (nc' := 20) (ns' := 7828) 2 5 (by decide) rfl (fun cA => znewc2 cA _ _) tw_153 rfl (by decide) (by decide) (by decide) dX10_init_161 rfl ?_
  refine r_puts 10 31 1131 lfX10_69 (by first | (simp only [zKS]; first | assumption | exact zk_nw (by assumption) (by omega)) | assumption | exact zk_nw (by assumption) (by omega) | exact zk_nself _ _ _ | (simp [zKS, zNS, *]; done)) rfl rfl rfl (Or.inr ⟨rfl, rfl⟩) dX10_init_163 rfl ?_
  refine RW.gen (fun w20 e20 => ?_)
  have c20 : ctS w0 w20 mo 20 := c19.next (by decide) (f := 1131) (k := 22) (l := 5) (by rw [e20]; exact (nxR_of (by omega)).A (fun _ => rfl)) rfl rfl rfl
  clear e20
  have z20 := c20.1
  have k20 : zk w20 mo = 11 := c20.2.2.1
  refine r_aload_n dX10_init_166 rfl (zRv_ref _) rfl ?_
  refine r_sipush dX10_init_167 ks_130 rfl ?_
  refine r_newa (atype := .int) (nc' := 19) (ns' := 7698) 2 130 (by decide) rfl (fun cA => znewc2 cA _ _) tw_153 rfl (by decide) (by decide) (by decide) dX10_init_170 rfl ?_
  refine r_puts 10 33 1133 lfX10_72 (by first | (simp only [zKS]; first | assumption | exact zk_nw (by assumption) (by omega)) | assumption | exact zk_nw (by assumption) (by omega) | exact zk_nself _ _ _ | (simp [zKS, zNS, *]; done)) rfl rfl rfl (Or.inr ⟨rfl, rfl⟩) dX10_init_172 rfl ?_
  refine RW.gen (fun w21 e21 => ?_)
  have c21 : ctS w0 w21 mo 21 := c20.next (by decide) (f := 1133) (k := 22) (l := 130) (by rw [e21]; exact (nxR_of (by omega)).A (fun _ => rfl)) rfl rfl rfl
  clear e21
  have z21 := c21.1
  have k21 : zk w21 mo = 11 := c21.2.2.1
  exact K _ c21
theorem cti_3 (E : ZE) (w0 w : ZW) (sg : ZM) (d mo : Nat) (hd : 1 ≤ d) (c21 : ctS w0 w mo 21) (P : ZPhi) (K : ∀ w', ctS w0 w' mo 24 → RW E MX10_init 237 [some (.ref mo)] [] w' sg d 16 7431 P) : RW E MX10_init 175 [some (.ref mo)] [] w sg d 19 7698 P := by
  have z21 := c21.1
  have k21 : zk w mo = 11 := c21.2.2.1
  refine r_aload_n dX10_init_175 rfl (zRv_ref _) rfl ?_
  refine r_sipush dX10_init_176 ks_130 rfl ?_
  refine r_newa (atype := .float) (nc' := 18) (ns' := 7568) 1 130 (by decide) rfl (fun cA => znewc1 cA _ _) tw_154 rfl (by decide) (by decide) (by decide) dX10_init_179 rfl ?_
  refine r_puts 10 34 1134 lfX10_75 (by first | (simp only [zKS]; first | assumption | exact zk_nw (by assumption) (by omega)) | assumption | exact zk_nw (by assumption) (by omega) | exact zk_nself _ _ _ | (simp [zKS, zNS, *]; done)) rfl rfl rfl (Or.inr ⟨rfl, rfl⟩) dX10_init_181 rfl ?_
  refine RW.gen (fun w22 e22 => ?_)
  have c22 : ctS w0 w22 mo 22 := c21.next (by decide) (f := 1134) (k := 21) (l := 130) (by rw [e22]; exact (nxR_of (by omega)).A (fun _ => rfl)) rfl rfl rfl
  clear e22
  have z22 := c22.1
  have k22 : zk w22 mo = 11 := c22.2.2.1
  refine r_aload_n dX10_init_184 rfl (zRv_ref _) rfl ?_
  refine r_sipush dX10_init_185 ks_130 rfl ?_
  refine r_newa (atype := .int) (nc' := 17) (ns' := 7438) 2 130 (by decide) rfl (fun cA => znewc2 cA _ _) tw_153 rfl (by decide) (by decide) (by decide) dX10_init_188 rfl ?_
  refine r_puts 10 35 1135 lfX10_79 (by first | (simp only [zKS]; first | assumption | exact zk_nw (by assumption) (by omega)) | assumption | exact zk_nw (by assumption) (by omega) | exact zk_nself _ _ _ | (simp [zKS, zNS, *]; done)) rfl rfl rfl (Or.inr ⟨rfl, rfl⟩) dX10_init_190 rfl ?_
  refine RW.gen (fun w23 e23 => ?_)
  have c23 : ctS w0 w23 mo 23 := c22.next (by decide) (f := 1135) (k := 22) (l := 130) (by rw [e23]; exact (nxR_of (by omega)).A (fun _ => rfl)) rfl rfl rfl
  clear e23
  have z23 := c23.1
  have k23 : zk w23 mo = 11 := c23.2.2.1
  refine r_aload_n dX10_init_193 rfl (zRv_ref _) rfl ?_
  refine r_bipush dX10_init_194 kb_7 rfl ?_
  refine r_newa (atype := .char) (nc' := 16) (ns' := 7431) 0 7 (by decide) rfl (fun cA => znewc0 cA _ _) tw_152 rfl (by decide) (by decide) (by decide) dX10_init_196 rfl ?_
  refine RW.gen (fun v24_0 ev24_0 => ?_)
  have bv24_0 : nxB w23 v24_0 20 7 (fun _ => 0) := by rw [ev24_0]; exact nxB_of
  clear ev24_0
  have sv24_0 := bv24_0.1
  have xv24_0 : zk v24_0 (zsz w23) = 20 := bv24_0.2.2.1
  have lv24_0 : zln v24_0 (zsz w23) = 7 := bv24_0.2.2.2.1
  have yv24_0 : zk v24_0 mo = 11 := (bv24_0.2.1 mo (by omega)).k.trans k23
  refine r_dup dX10_init_198 (by first | rfl | exact zcat_rf _) rfl ?_
  refine r_iconst dX10_init_199 kc_0 rfl ?_
  refine r_bipush dX10_init_200 kb_105 rfl ?_
  refine r_cast _ (by first | exact zch_nar (by omega) | assumption | (simp only [*]; exact zch_nar (by omega))) (by first | (simp only [zKS]; first | assumption | exact zk_nw (by assumption) (by omega)) | assumption | exact zk_nw (by assumption) (by omega) | exact zk_nself _ _ _ | (simp [zKS, zNS, *]; done)) rfl (by first | (rw [show zln _ _ = _ by assumption]; omega) | (simp only [zKS, *]; omega) | (simp [zKS, *]; omega)) (by omega) dX10_init_202 rfl ?_
  refine RW.gen (fun v24_1 ev24_1 => ?_)
  have bv24_1 := (show nxB w23 v24_1 20 7 _ by rw [ev24_1]; exact bv24_0.sa)
  clear ev24_1
  have sv24_1 := bv24_1.1
  have xv24_1 : zk v24_1 (zsz w23) = 20 := bv24_1.2.2.1
  have lv24_1 : zln v24_1 (zsz w23) = 7 := bv24_1.2.2.2.1
  have yv24_1 : zk v24_1 mo = 11 := (bv24_1.2.1 mo (by omega)).k.trans k23
  refine r_dup dX10_init_203 (by first | rfl | exact zcat_rf _) rfl ?_
  refine r_iconst dX10_init_204 kc_1 rfl ?_
  refine r_bipush dX10_init_205 kb_110 rfl ?_
  refine r_cast _ (by first | exact zch_nar (by omega) | assumption | (simp only [*]; exact zch_nar (by omega))) (by first | (simp only [zKS]; first | assumption | exact zk_nw (by assumption) (by omega)) | assumption | exact zk_nw (by assumption) (by omega) | exact zk_nself _ _ _ | (simp [zKS, zNS, *]; done)) rfl (by first | (rw [show zln _ _ = _ by assumption]; omega) | (simp only [zKS, *]; omega) | (simp [zKS, *]; omega)) (by omega) dX10_init_207 rfl ?_
  refine RW.gen (fun v24_2 ev24_2 => ?_)
  have bv24_2 := (show nxB w23 v24_2 20 7 _ by rw [ev24_2]; exact bv24_1.sa)
  clear ev24_2
  have sv24_2 := bv24_2.1
  have xv24_2 : zk v24_2 (zsz w23) = 20 := bv24_2.2.2.1
  have lv24_2 : zln v24_2 (zsz w23) = 7 := bv24_2.2.2.2.1
  have yv24_2 : zk v24_2 mo = 11 := (bv24_2.2.1 mo (by omega)).k.trans k23
  refine r_dup dX10_init_208 (by first | rfl | exact zcat_rf _) rfl ?_
  refine r_iconst dX10_init_209 kc_2 rfl ?_
  refine r_bipush dX10_init_210 kb_105 rfl ?_
  refine r_cast _ (by first | exact zch_nar (by omega) | assumption | (simp only [*]; exact zch_nar (by omega))) (by first | (simp only [zKS]; first | assumption | exact zk_nw (by assumption) (by omega)) | assumption | exact zk_nw (by assumption) (by omega) | exact zk_nself _ _ _ | (simp [zKS, zNS, *]; done)) rfl (by first | (rw [show zln _ _ = _ by assumption]; omega) | (simp only [zKS, *]; omega) | (simp [zKS, *]; omega)) (by omega) dX10_init_212 rfl ?_
  refine RW.gen (fun v24_3 ev24_3 => ?_)
  have bv24_3 := (show nxB w23 v24_3 20 7 _ by rw [ev24_3]; exact bv24_2.sa)
  clear ev24_3
  have sv24_3 := bv24_3.1
  have xv24_3 : zk v24_3 (zsz w23) = 20 := bv24_3.2.2.1
  have lv24_3 : zln v24_3 (zsz w23) = 7 := bv24_3.2.2.2.1
  have yv24_3 : zk v24_3 mo = 11 := (bv24_3.2.1 mo (by omega)).k.trans k23
  refine r_dup dX10_init_213 (by first | rfl | exact zcat_rf _) rfl ?_
  refine r_iconst dX10_init_214 kc_3 rfl ?_
  refine r_bipush dX10_init_215 kb_116 rfl ?_
  refine r_cast _ (by first | exact zch_nar (by omega) | assumption | (simp only [*]; exact zch_nar (by omega))) (by first | (simp only [zKS]; first | assumption | exact zk_nw (by assumption) (by omega)) | assumption | exact zk_nw (by assumption) (by omega) | exact zk_nself _ _ _ | (simp [zKS, zNS, *]; done)) rfl (by first | (rw [show zln _ _ = _ by assumption]; omega) | (simp only [zKS, *]; omega) | (simp [zKS, *]; omega)) (by omega) dX10_init_217 rfl ?_
  refine RW.gen (fun v24_4 ev24_4 => ?_)
  have bv24_4 := (show nxB w23 v24_4 20 7 _ by rw [ev24_4]; exact bv24_3.sa)
  clear ev24_4
  have sv24_4 := bv24_4.1
  have xv24_4 : zk v24_4 (zsz w23) = 20 := bv24_4.2.2.1
  have lv24_4 : zln v24_4 (zsz w23) = 7 := bv24_4.2.2.2.1
  have yv24_4 : zk v24_4 mo = 11 := (bv24_4.2.1 mo (by omega)).k.trans k23
  refine r_dup dX10_init_218 (by first | rfl | exact zcat_rf _) rfl ?_
  refine r_iconst dX10_init_219 kc_4 rfl ?_
  refine r_bipush dX10_init_220 kb_105 rfl ?_
  refine r_cast _ (by first | exact zch_nar (by omega) | assumption | (simp only [*]; exact zch_nar (by omega))) (by first | (simp only [zKS]; first | assumption | exact zk_nw (by assumption) (by omega)) | assumption | exact zk_nw (by assumption) (by omega) | exact zk_nself _ _ _ | (simp [zKS, zNS, *]; done)) rfl (by first | (rw [show zln _ _ = _ by assumption]; omega) | (simp only [zKS, *]; omega) | (simp [zKS, *]; omega)) (by omega) dX10_init_222 rfl ?_
  refine RW.gen (fun v24_5 ev24_5 => ?_)
  have bv24_5 := (show nxB w23 v24_5 20 7 _ by rw [ev24_5]; exact bv24_4.sa)
  clear ev24_5
  have sv24_5 := bv24_5.1
  have xv24_5 : zk v24_5 (zsz w23) = 20 := bv24_5.2.2.1
  have lv24_5 : zln v24_5 (zsz w23) = 7 := bv24_5.2.2.2.1
  have yv24_5 : zk v24_5 mo = 11 := (bv24_5.2.1 mo (by omega)).k.trans k23
  refine r_dup dX10_init_223 (by first | rfl | exact zcat_rf _) rfl ?_
  refine r_iconst dX10_init_224 kc_5 rfl ?_
  refine r_bipush dX10_init_225 kb_97 rfl ?_
  refine r_cast _ (by first | exact zch_nar (by omega) | assumption | (simp only [*]; exact zch_nar (by omega))) (by first | (simp only [zKS]; first | assumption | exact zk_nw (by assumption) (by omega)) | assumption | exact zk_nw (by assumption) (by omega) | exact zk_nself _ _ _ | (simp [zKS, zNS, *]; done)) rfl (by first | (rw [show zln _ _ = _ by assumption]; omega) | (simp only [zKS, *]; omega) | (simp [zKS, *]; omega)) (by omega) dX10_init_227 rfl ?_
  refine RW.gen (fun v24_6 ev24_6 => ?_)
  have bv24_6 := (show nxB w23 v24_6 20 7 _ by rw [ev24_6]; exact bv24_5.sa)
  clear ev24_6
  have sv24_6 := bv24_6.1
  have xv24_6 : zk v24_6 (zsz w23) = 20 := bv24_6.2.2.1
  have lv24_6 : zln v24_6 (zsz w23) = 7 := bv24_6.2.2.2.1
  have yv24_6 : zk v24_6 mo = 11 := (bv24_6.2.1 mo (by omega)).k.trans k23
  refine r_dup dX10_init_228 (by first | rfl | exact zcat_rf _) rfl ?_
  refine r_bipush dX10_init_229 kb_6 rfl ?_
  refine r_bipush dX10_init_231 kb_108 rfl ?_
  refine r_cast _ (by first | exact zch_nar (by omega) | assumption | (simp only [*]; exact zch_nar (by omega))) (by first | (simp only [zKS]; first | assumption | exact zk_nw (by assumption) (by omega)) | assumption | exact zk_nw (by assumption) (by omega) | exact zk_nself _ _ _ | (simp [zKS, zNS, *]; done)) rfl (by first | (rw [show zln _ _ = _ by assumption]; omega) | (simp only [zKS, *]; omega) | (simp [zKS, *]; omega)) (by omega) dX10_init_233 rfl ?_
  refine RW.gen (fun v24_7 ev24_7 => ?_)
  have bv24_7 := (show nxB w23 v24_7 20 7 _ by rw [ev24_7]; exact bv24_6.sa)
  clear ev24_7
  have sv24_7 := bv24_7.1
  have xv24_7 : zk v24_7 (zsz w23) = 20 := bv24_7.2.2.1
  have lv24_7 : zln v24_7 (zsz w23) = 7 := bv24_7.2.2.2.1
  have yv24_7 : zk v24_7 mo = 11 := (bv24_7.2.1 mo (by omega)).k.trans k23
  refine r_puts 10 36 1136 lfX10_82 (by first | (simp only [zKS]; first | assumption | exact zk_nw (by assumption) (by omega)) | assumption | exact zk_nw (by assumption) (by omega) | exact zk_nself _ _ _ | (simp [zKS, zNS, *]; done)) rfl rfl rfl (Or.inr ⟨rfl, rfl⟩) dX10_init_234 rfl ?_
  refine RW.gen (fun w24 e24 => ?_)
  have c24 : ctS w0 w24 mo 24 := c23.next (by decide) (f := 1136) (k := 20) (l := 7) (by rw [e24]; exact nxA_of bv24_7 (by omega) (funext ctA_24)) rfl rfl rfl
  clear e24
  have z24 := c24.1
  have k24 : zk w24 mo = 11 := c24.2.2.1
  exact K _ c24
theorem cti_4 (E : ZE) (w0 w : ZW) (sg : ZM) (d mo : Nat) (hd : 1 ≤ d) (c24 : ctS w0 w mo 24) (P : ZPhi) (K : ∀ w', ctS w0 w' mo 27 → RW E MX10_init 298 [some (.ref mo)] [] w' sg d 13 7024 P) : RW E MX10_init 237 [some (.ref mo)] [] w sg d 16 7431 P := by
  have z24 := c24.1
  have k24 : zk w mo = 11 := c24.2.2.1
  refine r_aload_n dX10_init_237 rfl (zRv_ref _) rfl ?_
  refine r_bipush dX10_init_238 kb_7 rfl ?_
  refine r_newa (atype := .char) (nc' := 15) (ns' := 7424) 0 7 (by decide) rfl (fun cA => znewc0 cA _ _) tw_152 rfl (by decide) (by decide) (by decide) dX10_init_240 rfl ?_
  refine RW.gen (fun v25_0 ev25_0 => ?_)
  have bv25_0 : nxB w v25_0 20 7 (fun _ => 0) := by rw [ev25_0]; exact nxB_of
  clear ev25_0
  have sv25_0 := bv25_0.1
  have xv25_0 : zk v25_0 (zsz w) = 20 := bv25_0.2.2.1
  have lv25_0 : zln v25_0 (zsz w) = 7 := bv25_0.2.2.2.1
  have yv25_0 : zk v25_0 mo = 11 := (bv25_0.2.1 mo (by omega)).k.trans k24
  refine r_dup dX10_init_242 (by first | rfl | exact zcat_rf _) rfl ?_
  refine r_iconst dX10_init_243 kc_0 rfl ?_
  refine r_bipush dX10_init_244 kb_105 rfl ?_
  refine r_cast _ (by first | exact zch_nar (by omega) | assumption | (simp only [*]; exact zch_nar (by omega))) (by first | (simp only [zKS]; first | assumption | exact zk_nw (by assumption) (by omega)) | assumption | exact zk_nw (by assumption) (by omega) | exact zk_nself _ _ _ | (simp [zKS, zNS, *]; done)) rfl (by first | (rw [show zln _ _ = _ by assumption]; omega) | (simp only [zKS, *]; omega) | (simp [zKS, *]; omega)) (by omega) dX10_init_246 rfl ?_
  refine RW.gen (fun v25_1 ev25_1 => ?_)
  have bv25_1 := (show nxB w v25_1 20 7 _ by rw [ev25_1]; exact bv25_0.sa)
  clear ev25_1
  have sv25_1 := bv25_1.1
  have xv25_1 : zk v25_1 (zsz w) = 20 := bv25_1.2.2.1
  have lv25_1 : zln v25_1 (zsz w) = 7 := bv25_1.2.2.2.1
  have yv25_1 : zk v25_1 mo = 11 := (bv25_1.2.1 mo (by omega)).k.trans k24
  refine r_dup dX10_init_247 (by first | rfl | exact zcat_rf _) rfl ?_
  refine r_iconst dX10_init_248 kc_1 rfl ?_
  refine r_bipush dX10_init_249 kb_110 rfl ?_
  refine r_cast _ (by first | exact zch_nar (by omega) | assumption | (simp only [*]; exact zch_nar (by omega))) (by first | (simp only [zKS]; first | assumption | exact zk_nw (by assumption) (by omega)) | assumption | exact zk_nw (by assumption) (by omega) | exact zk_nself _ _ _ | (simp [zKS, zNS, *]; done)) rfl (by first | (rw [show zln _ _ = _ by assumption]; omega) | (simp only [zKS, *]; omega) | (simp [zKS, *]; omega)) (by omega) dX10_init_251 rfl ?_
  refine RW.gen (fun v25_2 ev25_2 => ?_)
  have bv25_2 := (show nxB w v25_2 20 7 _ by rw [ev25_2]; exact bv25_1.sa)
  clear ev25_2
  have sv25_2 := bv25_2.1
  have xv25_2 : zk v25_2 (zsz w) = 20 := bv25_2.2.2.1
  have lv25_2 : zln v25_2 (zsz w) = 7 := bv25_2.2.2.2.1
  have yv25_2 : zk v25_2 mo = 11 := (bv25_2.2.1 mo (by omega)).k.trans k24
  refine r_dup dX10_init_252 (by first | rfl | exact zcat_rf _) rfl ?_
  refine r_iconst dX10_init_253 kc_2 rfl ?_
  refine r_bipush dX10_init_254 kb_104 rfl ?_
  refine r_cast _ (by first | exact zch_nar (by omega) | assumption | (simp only [*]; exact zch_nar (by omega))) (by first | (simp only [zKS]; first | assumption | exact zk_nw (by assumption) (by omega)) | assumption | exact zk_nw (by assumption) (by omega) | exact zk_nself _ _ _ | (simp [zKS, zNS, *]; done)) rfl (by first | (rw [show zln _ _ = _ by assumption]; omega) | (simp only [zKS, *]; omega) | (simp [zKS, *]; omega)) (by omega) dX10_init_256 rfl ?_
  refine RW.gen (fun v25_3 ev25_3 => ?_)
  have bv25_3 := (show nxB w v25_3 20 7 _ by rw [ev25_3]; exact bv25_2.sa)
  clear ev25_3
  have sv25_3 := bv25_3.1
  have xv25_3 : zk v25_3 (zsz w) = 20 := bv25_3.2.2.1
  have lv25_3 : zln v25_3 (zsz w) = 7 := bv25_3.2.2.2.1
  have yv25_3 : zk v25_3 mo = 11 := (bv25_3.2.1 mo (by omega)).k.trans k24
  refine r_dup dX10_init_257 (by first | rfl | exact zcat_rf _) rfl ?_
  refine r_iconst dX10_init_258 kc_3 rfl ?_
  refine r_bipush dX10_init_259 kb_101 rfl ?_
  refine r_cast _ (by first | exact zch_nar (by omega) | assumption | (simp only [*]; exact zch_nar (by omega))) (by first | (simp only [zKS]; first | assumption | exact zk_nw (by assumption) (by omega)) | assumption | exact zk_nw (by assumption) (by omega) | exact zk_nself _ _ _ | (simp [zKS, zNS, *]; done)) rfl (by first | (rw [show zln _ _ = _ by assumption]; omega) | (simp only [zKS, *]; omega) | (simp [zKS, *]; omega)) (by omega) dX10_init_261 rfl ?_
  refine RW.gen (fun v25_4 ev25_4 => ?_)
  have bv25_4 := (show nxB w v25_4 20 7 _ by rw [ev25_4]; exact bv25_3.sa)
  clear ev25_4
  have sv25_4 := bv25_4.1
  have xv25_4 : zk v25_4 (zsz w) = 20 := bv25_4.2.2.1
  have lv25_4 : zln v25_4 (zsz w) = 7 := bv25_4.2.2.2.1
  have yv25_4 : zk v25_4 mo = 11 := (bv25_4.2.1 mo (by omega)).k.trans k24
  refine r_dup dX10_init_262 (by first | rfl | exact zcat_rf _) rfl ?_
  refine r_iconst dX10_init_263 kc_4 rfl ?_
  refine r_bipush dX10_init_264 kb_114 rfl ?_
  refine r_cast _ (by first | exact zch_nar (by omega) | assumption | (simp only [*]; exact zch_nar (by omega))) (by first | (simp only [zKS]; first | assumption | exact zk_nw (by assumption) (by omega)) | assumption | exact zk_nw (by assumption) (by omega) | exact zk_nself _ _ _ | (simp [zKS, zNS, *]; done)) rfl (by first | (rw [show zln _ _ = _ by assumption]; omega) | (simp only [zKS, *]; omega) | (simp [zKS, *]; omega)) (by omega) dX10_init_266 rfl ?_
  refine RW.gen (fun v25_5 ev25_5 => ?_)
  have bv25_5 := (show nxB w v25_5 20 7 _ by rw [ev25_5]; exact bv25_4.sa)
  clear ev25_5
  have sv25_5 := bv25_5.1
  have xv25_5 : zk v25_5 (zsz w) = 20 := bv25_5.2.2.1
  have lv25_5 : zln v25_5 (zsz w) = 7 := bv25_5.2.2.2.1
  have yv25_5 : zk v25_5 mo = 11 := (bv25_5.2.1 mo (by omega)).k.trans k24
  refine r_dup dX10_init_267 (by first | rfl | exact zcat_rf _) rfl ?_
  refine r_iconst dX10_init_268 kc_5 rfl ?_
  refine r_bipush dX10_init_269 kb_105 rfl ?_
  refine r_cast _ (by first | exact zch_nar (by omega) | assumption | (simp only [*]; exact zch_nar (by omega))) (by first | (simp only [zKS]; first | assumption | exact zk_nw (by assumption) (by omega)) | assumption | exact zk_nw (by assumption) (by omega) | exact zk_nself _ _ _ | (simp [zKS, zNS, *]; done)) rfl (by first | (rw [show zln _ _ = _ by assumption]; omega) | (simp only [zKS, *]; omega) | (simp [zKS, *]; omega)) (by omega) dX10_init_271 rfl ?_
  refine RW.gen (fun v25_6 ev25_6 => ?_)
  have bv25_6 := (show nxB w v25_6 20 7 _ by rw [ev25_6]; exact bv25_5.sa)
  clear ev25_6
  have sv25_6 := bv25_6.1
  have xv25_6 : zk v25_6 (zsz w) = 20 := bv25_6.2.2.1
  have lv25_6 : zln v25_6 (zsz w) = 7 := bv25_6.2.2.2.1
  have yv25_6 : zk v25_6 mo = 11 := (bv25_6.2.1 mo (by omega)).k.trans k24
  refine r_dup dX10_init_272 (by first | rfl | exact zcat_rf _) rfl ?_
  refine r_bipush dX10_init_273 kb_6 rfl ?_
  refine r_bipush dX10_init_275 kb_116 rfl ?_
  refine r_cast _ (by first | exact zch_nar (by omega) | assumption | (simp only [*]; exact zch_nar (by omega))) (by first | (simp only [zKS]; first | assumption | exact zk_nw (by assumption) (by omega)) | assumption | exact zk_nw (by assumption) (by omega) | exact zk_nself _ _ _ | (simp [zKS, zNS, *]; done)) rfl (by first | (rw [show zln _ _ = _ by assumption]; omega) | (simp only [zKS, *]; omega) | (simp [zKS, *]; omega)) (by omega) dX10_init_277 rfl ?_
  refine RW.gen (fun v25_7 ev25_7 => ?_)
  have bv25_7 := (show nxB w v25_7 20 7 _ by rw [ev25_7]; exact bv25_6.sa)
  clear ev25_7
  have sv25_7 := bv25_7.1
  have xv25_7 : zk v25_7 (zsz w) = 20 := bv25_7.2.2.1
  have lv25_7 : zln v25_7 (zsz w) = 7 := bv25_7.2.2.2.1
  have yv25_7 : zk v25_7 mo = 11 := (bv25_7.2.1 mo (by omega)).k.trans k24
  refine r_puts 10 37 1137 lfX10_85 (by first | (simp only [zKS]; first | assumption | exact zk_nw (by assumption) (by omega)) | assumption | exact zk_nw (by assumption) (by omega) | exact zk_nself _ _ _ | (simp [zKS, zNS, *]; done)) rfl rfl rfl (Or.inr ⟨rfl, rfl⟩) dX10_init_278 rfl ?_
  refine RW.gen (fun w25 e25 => ?_)
  have c25 : ctS w0 w25 mo 25 := c24.next (by decide) (f := 1137) (k := 20) (l := 7) (by rw [e25]; exact nxA_of bv25_7 (by omega) (funext ctA_25)) rfl rfl rfl
  clear e25
  have z25 := c25.1
  have k25 : zk w25 mo = 11 := c25.2.2.1
  refine r_aload_n dX10_init_281 rfl (zRv_ref _) rfl ?_
  refine r_sipush dX10_init_282 ks_384 rfl ?_
  refine r_newa (atype := .int) (nc' := 14) (ns' := 7040) 2 384 (by decide) rfl (fun cA => znewc2 cA _ _) tw_153 rfl (by decide) (by decide) (by decide) dX10_init_285 rfl ?_
  refine r_puts 10 38 1138 lfX10_88 (by first | (simp only [zKS]; first | assumption | exact zk_nw (by assumption) (by omega)) | assumption | exact zk_nw (by assumption) (by omega) | exact zk_nself _ _ _ | (simp [zKS, zNS, *]; done)) rfl rfl rfl (Or.inr ⟨rfl, rfl⟩) dX10_init_287 rfl ?_
  refine RW.gen (fun w26 e26 => ?_)
  have c26 : ctS w0 w26 mo 26 := c25.next (by decide) (f := 1138) (k := 22) (l := 384) (by rw [e26]; exact (nxR_of (by omega)).A (fun _ => rfl)) rfl rfl rfl
  clear e26
  have z26 := c26.1
  have k26 : zk w26 mo = 11 := c26.2.2.1
  refine r_aload_n dX10_init_290 rfl (zRv_ref _) rfl ?_
  refine r_bipush dX10_init_291 kb_16 rfl ?_
  refine r_newa (atype := .int) (nc' := 13) (ns' := 7024) 2 16 (by decide) rfl (fun cA => znewc2 cA _ _) tw_153 rfl (by decide) (by decide) (by decide) dX10_init_293 rfl ?_
  refine r_puts 10 39 1139 lfX10_91 (by first | (simp only [zKS]; first | assumption | exact zk_nw (by assumption) (by omega)) | assumption | exact zk_nw (by assumption) (by omega) | exact zk_nself _ _ _ | (simp [zKS, zNS, *]; done)) rfl rfl rfl (Or.inr ⟨rfl, rfl⟩) dX10_init_295 rfl ?_
  refine RW.gen (fun w27 e27 => ?_)
  have c27 : ctS w0 w27 mo 27 := c26.next (by decide) (f := 1139) (k := 22) (l := 16) (by rw [e27]; exact (nxR_of (by omega)).A (fun _ => rfl)) rfl rfl rfl
  clear e27
  have z27 := c27.1
  have k27 : zk w27 mo = 11 := c27.2.2.1
  exact K _ c27
theorem cti_5 (E : ZE) (w0 w : ZW) (sg : ZM) (d mo : Nat) (hd : 1 ≤ d) (c27 : ctS w0 w mo 27) (P : ZPhi) (K : ∀ w', ctS w0 w' mo 34 → RW E MX10_init 357 [some (.ref mo)] [] w' sg d 6 588 P) : RW E MX10_init 298 [some (.ref mo)] [] w sg d 13 7024 P := by
  have z27 := c27.1
  have k27 : zk w mo = 11 := c27.2.2.1
  refine r_aload_n dX10_init_298 rfl (zRv_ref _) rfl ?_
  refine r_bipush dX10_init_299 kb_64 rfl ?_
  refine r_newa (atype := .int) (nc' := 12) (ns' := 6960) 2 64 (by decide) rfl (fun cA => znewc2 cA _ _) tw_153 rfl (by decide) (by decide) (by decide) dX10_init_301 rfl ?_
  refine r_puts 10 40 1140 lfX10_94 (by first | (simp only [zKS]; first | assumption | exact zk_nw (by assumption) (by omega)) | assumption | exact zk_nw (by assumption) (by omega) | exact zk_nself _ _ _ | (simp [zKS, zNS, *]; done)) rfl rfl rfl (Or.inr ⟨rfl, rfl⟩) dX10_init_303 rfl ?_
  refine RW.gen (fun w28 e28 => ?_)
  have c28 : ctS w0 w28 mo 28 := c27.next (by decide) (f := 1140) (k := 22) (l := 64) (by rw [e28]; exact (nxR_of (by omega)).A (fun _ => rfl)) rfl rfl rfl
  clear e28
  have z28 := c28.1
  have k28 : zk w28 mo = 11 := c28.2.2.1
  refine r_aload_n dX10_init_306 rfl (zRv_ref _) rfl ?_
  refine r_bipush dX10_init_307 kb_64 rfl ?_
  refine r_newa (atype := .int) (nc' := 11) (ns' := 6896) 2 64 (by decide) rfl (fun cA => znewc2 cA _ _) tw_153 rfl (by decide) (by decide) (by decide) dX10_init_309 rfl ?_
  refine r_puts 10 41 1141 lfX10_97 (by first | (simp only [zKS]; first | assumption | exact zk_nw (by assumption) (by omega)) | assumption | exact zk_nw (by assumption) (by omega) | exact zk_nself _ _ _ | (simp [zKS, zNS, *]; done)) rfl rfl rfl (Or.inr ⟨rfl, rfl⟩) dX10_init_311 rfl ?_
  refine RW.gen (fun w29 e29 => ?_)
  have c29 : ctS w0 w29 mo 29 := c28.next (by decide) (f := 1141) (k := 22) (l := 64) (by rw [e29]; exact (nxR_of (by omega)).A (fun _ => rfl)) rfl rfl rfl
  clear e29
  have z29 := c29.1
  have k29 : zk w29 mo = 11 := c29.2.2.1
  refine r_aload_n dX10_init_314 rfl (zRv_ref _) rfl ?_
  refine r_bipush dX10_init_315 kb_64 rfl ?_
  refine r_newa (atype := .boolean) (nc' := 10) (ns' := 6832) 3 64 (by decide) rfl (fun cA => znewc3 cA _ _) tw_1097 rfl (by decide) (by decide) (by decide) dX10_init_317 rfl ?_
  refine r_puts 10 42 1142 lfX10_100 (by first | (simp only [zKS]; first | assumption | exact zk_nw (by assumption) (by omega)) | assumption | exact zk_nw (by assumption) (by omega) | exact zk_nself _ _ _ | (simp [zKS, zNS, *]; done)) rfl rfl rfl (Or.inr ⟨rfl, rfl⟩) dX10_init_319 rfl ?_
  refine RW.gen (fun w30 e30 => ?_)
  have c30 : ctS w0 w30 mo 30 := c29.next (by decide) (f := 1142) (k := 23) (l := 64) (by rw [e30]; exact (nxR_of (by omega)).A (fun _ => rfl)) rfl rfl rfl
  clear e30
  have z30 := c30.1
  have k30 : zk w30 mo = 11 := c30.2.2.1
  refine r_aload_n dX10_init_322 rfl (zRv_ref _) rfl ?_
  refine r_sipush dX10_init_323 ks_144 rfl ?_
  refine r_newa (atype := .float) (nc' := 9) (ns' := 6688) 1 144 (by decide) rfl (fun cA => znewc1 cA _ _) tw_154 rfl (by decide) (by decide) (by decide) dX10_init_326 rfl ?_
  refine r_puts 10 43 1143 lfX10_103 (by first | (simp only [zKS]; first | assumption | exact zk_nw (by assumption) (by omega)) | assumption | exact zk_nw (by assumption) (by omega) | exact zk_nself _ _ _ | (simp [zKS, zNS, *]; done)) rfl rfl rfl (Or.inr ⟨rfl, rfl⟩) dX10_init_328 rfl ?_
  refine RW.gen (fun w31 e31 => ?_)
  have c31 : ctS w0 w31 mo 31 := c30.next (by decide) (f := 1143) (k := 21) (l := 144) (by rw [e31]; exact (nxR_of (by omega)).A (fun _ => rfl)) rfl rfl rfl
  clear e31
  have z31 := c31.1
  have k31 : zk w31 mo = 11 := c31.2.2.1
  refine r_aload_n dX10_init_331 rfl (zRv_ref _) rfl ?_
  refine r_sipush dX10_init_332 ks_3000 rfl ?_
  refine r_newa (atype := .float) (nc' := 8) (ns' := 3688) 1 3000 (by decide) rfl (fun cA => znewc1 cA _ _) tw_154 rfl (by decide) (by decide) (by decide) dX10_init_335 rfl ?_
  refine r_puts 10 46 1146 lfX10_106 (by first | (simp only [zKS]; first | assumption | exact zk_nw (by assumption) (by omega)) | assumption | exact zk_nw (by assumption) (by omega) | exact zk_nself _ _ _ | (simp [zKS, zNS, *]; done)) rfl rfl rfl (Or.inr ⟨rfl, rfl⟩) dX10_init_337 rfl ?_
  refine RW.gen (fun w32 e32 => ?_)
  have c32 : ctS w0 w32 mo 32 := c31.next (by decide) (f := 1146) (k := 21) (l := 3000) (by rw [e32]; exact (nxR_of (by omega)).A (fun _ => rfl)) rfl rfl rfl
  clear e32
  have z32 := c32.1
  have k32 : zk w32 mo = 11 := c32.2.2.1
  refine r_aload_n dX10_init_340 rfl (zRv_ref _) rfl ?_
  refine r_sipush dX10_init_341 ks_3000 rfl ?_
  refine r_newa (atype := .boolean) (nc' := 7) (ns' := 688) 3 3000 (by decide) rfl (fun cA => znewc3 cA _ _) tw_1097 rfl (by decide) (by decide) (by decide) dX10_init_344 rfl ?_
  refine r_puts 10 47 1147 lfX10_109 (by first | (simp only [zKS]; first | assumption | exact zk_nw (by assumption) (by omega)) | assumption | exact zk_nw (by assumption) (by omega) | exact zk_nself _ _ _ | (simp [zKS, zNS, *]; done)) rfl rfl rfl (Or.inr ⟨rfl, rfl⟩) dX10_init_346 rfl ?_
  refine RW.gen (fun w33 e33 => ?_)
  have c33 : ctS w0 w33 mo 33 := c32.next (by decide) (f := 1147) (k := 23) (l := 3000) (by rw [e33]; exact (nxR_of (by omega)).A (fun _ => rfl)) rfl rfl rfl
  clear e33
  have z33 := c33.1
  have k33 : zk w33 mo = 11 := c33.2.2.1
  refine r_aload_n dX10_init_349 rfl (zRv_ref _) rfl ?_
  refine r_bipush dX10_init_350 kb_100 rfl ?_
  refine r_newa (atype := .int) (nc' := 6) (ns' := 588) 2 100 (by decide) rfl (fun cA => znewc2 cA _ _) tw_153 rfl (by decide) (by decide) (by decide) dX10_init_352 rfl ?_
  refine r_puts 10 49 1149 lfX10_112 (by first | (simp only [zKS]; first | assumption | exact zk_nw (by assumption) (by omega)) | assumption | exact zk_nw (by assumption) (by omega) | exact zk_nself _ _ _ | (simp [zKS, zNS, *]; done)) rfl rfl rfl (Or.inr ⟨rfl, rfl⟩) dX10_init_354 rfl ?_
  refine RW.gen (fun w34 e34 => ?_)
  have c34 : ctS w0 w34 mo 34 := c33.next (by decide) (f := 1149) (k := 22) (l := 100) (by rw [e34]; exact (nxR_of (by omega)).A (fun _ => rfl)) rfl rfl rfl
  clear e34
  have z34 := c34.1
  have k34 : zk w34 mo = 11 := c34.2.2.1
  exact K _ c34
theorem cti_6 (E : ZE) (w0 w : ZW) (sg : ZM) (d mo : Nat) (hd : 1 ≤ d) (c34 : ctS w0 w mo 34) (P : ZPhi) (K : ∀ w', ctS w0 w' mo 40 → RW E MX10_init 405 [some (.ref mo)] [] w' sg d 0 0 P) : RW E MX10_init 357 [some (.ref mo)] [] w sg d 6 588 P := by
  have z34 := c34.1
  have k34 : zk w mo = 11 := c34.2.2.1
  refine r_aload_n dX10_init_357 rfl (zRv_ref _) rfl ?_
  refine r_bipush dX10_init_358 kb_100 rfl ?_
  refine r_newa (atype := .int) (nc' := 5) (ns' := 488) 2 100 (by decide) rfl (fun cA => znewc2 cA _ _) tw_153 rfl (by decide) (by decide) (by decide) dX10_init_360 rfl ?_
  refine r_puts 10 50 1150 lfX10_115 (by first | (simp only [zKS]; first | assumption | exact zk_nw (by assumption) (by omega)) | assumption | exact zk_nw (by assumption) (by omega) | exact zk_nself _ _ _ | (simp [zKS, zNS, *]; done)) rfl rfl rfl (Or.inr ⟨rfl, rfl⟩) dX10_init_362 rfl ?_
  refine RW.gen (fun w35 e35 => ?_)
  have c35 : ctS w0 w35 mo 35 := c34.next (by decide) (f := 1150) (k := 22) (l := 100) (by rw [e35]; exact (nxR_of (by omega)).A (fun _ => rfl)) rfl rfl rfl
  clear e35
  have z35 := c35.1
  have k35 : zk w35 mo = 11 := c35.2.2.1
  refine r_aload_n dX10_init_365 rfl (zRv_ref _) rfl ?_
  refine r_bipush dX10_init_366 kb_100 rfl ?_
  refine r_newa (atype := .int) (nc' := 4) (ns' := 388) 2 100 (by decide) rfl (fun cA => znewc2 cA _ _) tw_153 rfl (by decide) (by decide) (by decide) dX10_init_368 rfl ?_
  refine r_puts 10 51 1151 lfX10_118 (by first | (simp only [zKS]; first | assumption | exact zk_nw (by assumption) (by omega)) | assumption | exact zk_nw (by assumption) (by omega) | exact zk_nself _ _ _ | (simp [zKS, zNS, *]; done)) rfl rfl rfl (Or.inr ⟨rfl, rfl⟩) dX10_init_370 rfl ?_
  refine RW.gen (fun w36 e36 => ?_)
  have c36 : ctS w0 w36 mo 36 := c35.next (by decide) (f := 1151) (k := 22) (l := 100) (by rw [e36]; exact (nxR_of (by omega)).A (fun _ => rfl)) rfl rfl rfl
  clear e36
  have z36 := c36.1
  have k36 : zk w36 mo = 11 := c36.2.2.1
  refine r_aload_n dX10_init_373 rfl (zRv_ref _) rfl ?_
  refine r_bipush dX10_init_374 kb_100 rfl ?_
  refine r_newa (atype := .int) (nc' := 3) (ns' := 288) 2 100 (by decide) rfl (fun cA => znewc2 cA _ _) tw_153 rfl (by decide) (by decide) (by decide) dX10_init_376 rfl ?_
  refine r_puts 10 52 1152 lfX10_121 (by first | (simp only [zKS]; first | assumption | exact zk_nw (by assumption) (by omega)) | assumption | exact zk_nw (by assumption) (by omega) | exact zk_nself _ _ _ | (simp [zKS, zNS, *]; done)) rfl rfl rfl (Or.inr ⟨rfl, rfl⟩) dX10_init_378 rfl ?_
  refine RW.gen (fun w37 e37 => ?_)
  have c37 : ctS w0 w37 mo 37 := c36.next (by decide) (f := 1152) (k := 22) (l := 100) (by rw [e37]; exact (nxR_of (by omega)).A (fun _ => rfl)) rfl rfl rfl
  clear e37
  have z37 := c37.1
  have k37 : zk w37 mo = 11 := c37.2.2.1
  refine r_aload_n dX10_init_381 rfl (zRv_ref _) rfl ?_
  refine r_bipush dX10_init_382 kb_96 rfl ?_
  refine r_newa (atype := .int) (nc' := 2) (ns' := 192) 2 96 (by decide) rfl (fun cA => znewc2 cA _ _) tw_153 rfl (by decide) (by decide) (by decide) dX10_init_384 rfl ?_
  refine r_puts 10 53 1153 lfX10_124 (by first | (simp only [zKS]; first | assumption | exact zk_nw (by assumption) (by omega)) | assumption | exact zk_nw (by assumption) (by omega) | exact zk_nself _ _ _ | (simp [zKS, zNS, *]; done)) rfl rfl rfl (Or.inr ⟨rfl, rfl⟩) dX10_init_386 rfl ?_
  refine RW.gen (fun w38 e38 => ?_)
  have c38 : ctS w0 w38 mo 38 := c37.next (by decide) (f := 1153) (k := 22) (l := 96) (by rw [e38]; exact (nxR_of (by omega)).A (fun _ => rfl)) rfl rfl rfl
  clear e38
  have z38 := c38.1
  have k38 : zk w38 mo = 11 := c38.2.2.1
  refine r_aload_n dX10_init_389 rfl (zRv_ref _) rfl ?_
  refine r_bipush dX10_init_390 kb_96 rfl ?_
  refine r_newa (atype := .float) (nc' := 1) (ns' := 96) 1 96 (by decide) rfl (fun cA => znewc1 cA _ _) tw_154 rfl (by decide) (by decide) (by decide) dX10_init_392 rfl ?_
  refine r_puts 10 54 1154 lfX10_127 (by first | (simp only [zKS]; first | assumption | exact zk_nw (by assumption) (by omega)) | assumption | exact zk_nw (by assumption) (by omega) | exact zk_nself _ _ _ | (simp [zKS, zNS, *]; done)) rfl rfl rfl (Or.inr ⟨rfl, rfl⟩) dX10_init_394 rfl ?_
  refine RW.gen (fun w39 e39 => ?_)
  have c39 : ctS w0 w39 mo 39 := c38.next (by decide) (f := 1154) (k := 21) (l := 96) (by rw [e39]; exact (nxR_of (by omega)).A (fun _ => rfl)) rfl rfl rfl
  clear e39
  have z39 := c39.1
  have k39 : zk w39 mo = 11 := c39.2.2.1
  refine r_aload_n dX10_init_397 rfl (zRv_ref _) rfl ?_
  refine r_bipush dX10_init_398 kb_96 rfl ?_
  refine r_newa (atype := .boolean) (nc' := 0) (ns' := 0) 3 96 (by decide) rfl (fun cA => znewc3 cA _ _) tw_1097 rfl (by decide) (by decide) (by decide) dX10_init_400 rfl ?_
  refine r_puts 10 55 1155 lfX10_130 (by first | (simp only [zKS]; first | assumption | exact zk_nw (by assumption) (by omega)) | assumption | exact zk_nw (by assumption) (by omega) | exact zk_nself _ _ _ | (simp [zKS, zNS, *]; done)) rfl rfl rfl (Or.inr ⟨rfl, rfl⟩) dX10_init_402 rfl ?_
  refine RW.gen (fun w40 e40 => ?_)
  have c40 : ctS w0 w40 mo 40 := c39.next (by decide) (f := 1155) (k := 23) (l := 96) (by rw [e40]; exact (nxR_of (by omega)).A (fun _ => rfl)) rfl rfl rfl
  clear e40
  have z40 := c40.1
  have k40 : zk w40 mo = 11 := c40.2.2.1
  exact K _ c40
theorem sp_X10_init (E : ZE) (w : ZW) (sg : ZM) (d : Nat) (hd : 1 ≤ d) (mo : Nat) (hz : zsz w = mo + 1) (hk : zk w mo = 11) (hi : ∀ f, zi w f mo = 0) : CallQ E MX10_init [.ref mo] w sg d 40 10845 (fun v w' sg' => v = none ∧ sg = sg' ∧ ctS w w' mo 40) := by
  have c0 : ctS w w mo 0 := ⟨hz, fun _ _ => zeq.rf, hk, hi, fun k h1 h2 => by omega⟩
  have fin : ∀ w', ctS w w' mo 40 → RW E MX10_init 405 [some (.ref mo)] [] w' sg d 0 0 (PN E (fun v w' sg' => v = none ∧ sg = sg' ∧ ctS w w' mo 40)) := fun w' h => by
    refine r_vret rfl dX10_init_405 ?_
    exact ⟨rfl, rfl, h⟩
  refine CallQ.of rfl (by simp [Value.category]) (Nat.le_of_ble_eq_true rfl) ?_
  exact cti_0 E w _ sg d mo hd c0 _ (fun _ h => cti_1 E w _ sg d mo hd h _ (fun _ h => cti_2 E w _ sg d mo hd h _ (fun _ h => cti_3 E w _ sg d mo hd h _ (fun _ h => cti_4 E w _ sg d mo hd h _ (fun _ h => cti_5 E w _ sg d mo hd h _ (fun _ h => cti_6 E w _ sg d mo hd h _ fin))))))
