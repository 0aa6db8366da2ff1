/-! ===== readDeclaration ===== -/
theorem TBm.rst {w : ZW} {tb tx sp nm : Nat} {r : List Nat} {ss : List PStep} (h : TBm w tb tx sp nm r ss) : TBm (zsi w 906 tb (nI 0)) tb tx sp nm r [] ∧ TBu tb sp nm w (zsi w 906 tb (nI 0)) := by
  have hu : TBu tb sp nm w (zsi w 906 tb (nI 0)) := ⟨rfl, rfl, rfl, fun f a e => by rw [zi_zsi, if_neg (fun q => e ⟨q.2, Or.inr q.1⟩)], rfl, rfl, fun _ _ => rfl, rfl, fun _ _ => rfl, rfl, rfl⟩
  obtain ⟨h1, ⟨a, r1, r2, r3, r4, r5⟩, h3⟩ := h
  refine ⟨⟨hu.s h1, ⟨a, ?_, ?_, r3, r4, r5⟩, z2_eq, fun i s hs => by cases hs⟩, hu⟩
  · rw [zi_zsi, if_neg (fun e => absurd e.1 (by decide))]; exact r1
  · rw [zi_zsi, if_neg (fun e => absurd e.1 (by decide))]; exact r2
theorem TBm.nx {w w' : ZW} {tb tx sp nm c : Nat} {r : List Nat} {ss : List PStep} (hb : TBb w tb tx sp nm) (hm : TBm w tb tx sp nm r ss) (hc : zsz w ≤ c) (e : ∀ b, b ≠ c → zeq w w' b) : TBm w' tb tx sp nm r ss := by
  obtain ⟨b1, b2, b3, b4⟩ := hb
  exact hm.fr (e tb (by omega)) (e tx (by omega)) (e sp (by omega)) (e nm (by omega))
theorem rdecl_mk (E : ZE) (sg : ZM) (d : Nat) (hd : 3 ≤ d) (tb tx sp nm n v rk og : Nat) (w0 w : ZW) (r : List Nat) (ss : List PStep) (hs : ss.length < 120) (hb : TBb w0 tb tx sp nm) (hu : TBu tb sp nm w0 w) (hm : TBm w tb tx sp nm r ss) : RW E MX8_readDeclaration 91 [some (.ref tb), some (.int (nI og)), some (.int (nI n)), some (.int (nI v)), some (.int (nI rk))] [] w sg d 3 246 (PN E (zqD tb tx sp nm w0 sg (some ((n, v, rk, ss), r)))) := by
  have hb1 := hu.b hb
  obtain ⟨b1, b2, b3, b4⟩ := id hb1
  have hz := hu.1
  refine r_new (nc' := 2) (ns' := 240) 1 lnX8_124 (by decide) (by decide) dX8_readDeclaration_91 rfl ?_
  refine RW.gen (fun w1 e1 => ?_)
  have z1 : zsz w1 = zsz w + 1 := by rw [e1]; rfl
  have E1 : ∀ b, b ≠ zsz w → zeq w w1 b := fun b hb => by rw [e1]; exact zeq.nw hb
  have k1 : zk w1 (zsz w) = 2 := by rw [e1, zk_znew, if_pos rfl]
  have m1 := hm.nx hb1 (Nat.le_refl _) E1
  have p1 : zr w1 904 tb = some sp := m1.1.2.2.1
  have p2 : zi w1 906 tb = nI ss.length := m1.2.2.1
  have p3 := m1.1.2.2.2.2.2.2.1
  have p4 := m1.1.2.2.2.2.2.2.2.1
  clear e1
  refine r_dup dX8_readDeclaration_94 (by first | rfl | exact zcat_rf _) rfl ?_
  refine r_iload_n dX8_readDeclaration_95 rfl rfl ?_
  refine r_iload_n dX8_readDeclaration_96 rfl rfl ?_
  refine r_iload dX8_readDeclaration_97 rfl rfl ?_
  refine r_aload_n dX8_readDeclaration_99 rfl (zRv_ref _) rfl ?_
  refine r_gets 8 4 904 lfX8_25 (by first | (simp only [zKS]; first | assumption | exact TBm.k (by assumption)) | assumption | exact TBm.k (by assumption) | exact zk_nself _ _ _ | (simp [zKS, zNS, *]; done)) rfl rfl (by first | (simp only [zGS, Nat.reduceEqDiff, OfNat.ofNat_ne_ofNat, false_and, and_false, true_and, and_true, and_self, if_true, if_false, ite_true, ite_false, reduceIte, reduceCtorEq]; first | done | assumption) | assumption | exact z2_eq | (simp [zGS]; first | done | assumption)) dX8_readDeclaration_100 rfl ?_
  refine r_aload_n dX8_readDeclaration_103 rfl (zRv_ref _) rfl ?_
  refine r_getiv 8 6 906 lfX8_33 (by first | (simp only [zKS]; first | assumption | exact TBm.k (by assumption)) | assumption | exact TBm.k (by assumption) | exact zk_nself _ _ _ | (simp [zKS, zNS, *]; done)) rfl rfl (by first | (simp only [zGS, zMS, Nat.reduceEqDiff, OfNat.ofNat_ne_ofNat, false_and, and_false, true_and, and_true, and_self, if_true, if_false, ite_true, ite_false, reduceIte, reduceCtorEq]; first | done | assumption | rfl) | assumption | exact z2_eq | exact z1_eq | (simp [zGS, zMS]; first | done | assumption) | rfl) dX8_readDeclaration_104 rfl ?_
  refine r_callS MJ7_copyOf_59c91 2 (a := 1) (a' := 120) [_, _] lsX8_146 (sp_copyOfI E w1 sg (d - 1) sp ss.length (by omega) p3 (by omega) (by omega) (by omega)) rfl rfl (by first | exact Nat.le_of_ble_eq_true rfl | (simp [zcat_rf, Value.category]; done)) (by omega) (by first | omega | exact Nat.le_of_eq ((Nat.add_comm _ _).trans (Nat.succ_mul _ _).symm)) (by first | omega | exact Nat.le_of_eq ((Nat.add_comm _ _).trans (Nat.succ_mul _ _).symm)) dX8_readDeclaration_107 rfl (fun v_ w_ sg_ hq_ => ?_)
  obtain ⟨rfl, x1, x2, x3, x4, rfl⟩ := hq_
  obtain ⟨w2, hw2⟩ : ∃ x, x = w_ := ⟨_, rfl⟩
  subst hw2
  have z2 := x1.1
  have E2 := x1.2
  have m2 := m1.nx (c := zsz w1) (by unfold TBb; omega) (Nat.le_refl _) E2
  have p5 : zr w2 905 tb = some nm := m2.1.2.2.2.1
  have p6 : zi w2 906 tb = nI ss.length := m2.2.2.1
  have p7 := m2.1.2.2.2.2.2.2.2.2.1
  have p8 := m2.1.2.2.2.2.2.2.2.2.2
  refine r_aload_n dX8_readDeclaration_110 rfl (zRv_ref _) rfl ?_
  refine r_gets 8 5 905 lfX8_29 (by first | (simp only [zKS]; first | assumption | exact TBm.k (by assumption)) | assumption | exact TBm.k (by assumption) | exact zk_nself _ _ _ | (simp [zKS, zNS, *]; done)) rfl rfl (by first | (simp only [zGS, Nat.reduceEqDiff, OfNat.ofNat_ne_ofNat, false_and, and_false, true_and, and_true, and_self, if_true, if_false, ite_true, ite_false, reduceIte, reduceCtorEq]; first | done | assumption) | assumption | exact z2_eq | (simp [zGS]; first | done | assumption)) dX8_readDeclaration_111 rfl ?_
  refine r_aload_n dX8_readDeclaration_114 rfl (zRv_ref _) rfl ?_
  refine r_getiv 8 6 906 lfX8_33 (by first | (simp only [zKS]; first | assumption | exact TBm.k (by assumption)) | assumption | exact TBm.k (by assumption) | exact zk_nself _ _ _ | (simp [zKS, zNS, *]; done)) rfl rfl (by first | (simp only [zGS, zMS, Nat.reduceEqDiff, OfNat.ofNat_ne_ofNat, false_and, and_false, true_and, and_true, and_self, if_true, if_false, ite_true, ite_false, reduceIte, reduceCtorEq]; first | done | assumption | rfl) | assumption | exact z2_eq | exact z1_eq | (simp [zGS, zMS]; first | done | assumption) | rfl) dX8_readDeclaration_115 rfl ?_
  refine r_callS MJ7_copyOf_33ae4 2 (a := 0) (a' := 0) [_, _] lsX8_152 (sp_copyOfF E w2 sg (d - 1) nm ss.length (by omega) p7 (by omega) (by omega) (by omega)) rfl rfl (by first | exact Nat.le_of_ble_eq_true rfl | (simp [zcat_rf, Value.category]; done)) (by omega) (by first | omega | exact Nat.le_of_eq ((Nat.add_comm _ _).trans (Nat.succ_mul _ _).symm)) (by first | omega | exact Nat.le_of_eq ((Nat.add_comm _ _).trans (Nat.succ_mul _ _).symm)) dX8_readDeclaration_118 rfl (fun v_ w_ sg_ hq_ => ?_)
  obtain ⟨rfl, y1, y2, y3, y4, rfl⟩ := hq_
  obtain ⟨w3, hw3⟩ : ∃ x, x = w_ := ⟨_, rfl⟩
  subst hw3
  have z3 := y1.1
  have E3 := y1.2
  have m3 := m2.nx (c := zsz w2) (by unfold TBb; omega) (Nat.le_refl _) E3
  have k3 : zk w3 (zsz w) = 2 := (E3 _ (by omega)).k.trans ((E2 _ (by omega)).k.trans k1)
  refine r_callI MX1_init 5 [_, _, _, _, _] liX8_155 (sp_X1_init E w3 sg (d - 1) (by omega) (zsz w) (zsz w1) (zsz w2) (nI n) (nI v) (nI rk) k3) rfl rfl (by first | exact Nat.le_of_ble_eq_true rfl | (simp [zcat_rf, Value.category]; done)) (by omega) (Nat.le_of_eq (Nat.zero_add _)) (Nat.le_of_eq (Nat.zero_add _)) dX8_readDeclaration_121 rfl (fun v_ w_ sg_ hq_ => ?_)
  obtain ⟨rfl, rfl, rfl⟩ := hq_
  have E4 : ∀ b, b ≠ zsz w → zeq w3 (zsr (zsr (zsr (zsi (zsi (zsi w3 200 (zsz w) (nI n)) 201 (zsz w) (nI v)) 202 (zsz w) (nI rk)) 203 (zsz w) (some (zsz w1))) 204 (zsz w) (some (zsz w2))) 205 (zsz w) none) b := fun b hb => (zeq.si hb).tr ((zeq.si hb).tr ((zeq.si hb).tr ((zeq.sr hb).tr ((zeq.sr hb).tr (zeq.sr hb)))))
  refine r_aret rfl (by first | exact Or.inl ⟨_, rfl⟩ | exact Or.inr ⟨_, rfl⟩) (by first | exact zRv_ref _ | exact zRv_null | exact zRv_rf _ | assumption) dX8_readDeclaration_124 ?_
  refine ⟨rfl, ?_, by rw [hz], ?_, ?_, ?_, ss, m3.fr (E4 tb (by omega)) (E4 tx (by omega)) (E4 sp (by omega)) (E4 nm (by omega))⟩
  · refine ⟨by show zsz w0 ≤ zsz w3; omega, fun b g1 _ g3 g4 g5 => ?_, ?_⟩
    · exact ((hu.v (X := zno)).2.1 b g1 (fun e => e) g3 g4 g5).tr ((E1 b (by omega)).tr ((E2 b (by omega)).tr ((E3 b (by omega)).tr (E4 b (by omega)))))
    · exact ((E4 tb (by omega)).i 901).trans (((E3 tb (by omega)).i 901).trans (((E2 tb (by omega)).i 901).trans (((E1 tb (by omega)).i 901).trans (hu.v (X := zno)).2.2)))
  · have ep := (E3 (zsz w1) (by omega)).tr (E4 (zsz w1) (by omega))
    have eq := E4 (zsz w2) (by omega)
    refine ⟨by omega, by show zsz w0 < zsz w3; omega, ?_, ?_, ?_, ?_, zsz w1, zsz w2, ?_, ?_, ⟨by omega, by show zsz w1 < zsz w3; omega, by omega, by show zsz w2 < zsz w3; omega⟩, ep.k.trans x2, ep.ln.trans x3, eq.k.trans y2, eq.ln.trans y3, fun i s hs => ?_⟩
    · rw [← hz]; exact k3
    · rw [← hz]; simp [zGS]
    · rw [← hz]; simp [zGS]
    · rw [← hz]; simp [zGS]
    · rw [← hz]; simp [zGS]
    · rw [← hz]; simp [zGS]
    · have hi : i < ss.length := (List.getElem?_eq_some_iff.mp hs).1
      obtain ⟨g1, g2⟩ := m1.2.2.2 i s hs
      refine ⟨?_, ?_⟩
      · rw [ep.a, x4 i hi]; exact g1
      · rw [eq.g, y4 i hi, (E2 nm (by omega)).g]; exact g2
  · rw [← hz]; simp [zGS]
  · exact ⟨by show tb < zsz w3; omega, by show tx < zsz w3; omega, by show sp < zsz w3; omega, by show nm < zsz w3; omega⟩
theorem rdecl_end (E : ZE) (sg : ZM) (d : Nat) (hd : 3 ≤ d) (tb tx sp nm n v og : Nat) (hv : v ≤ 2) (hog : og ≤ 5) (w0 w : ZW) (r : List Nat) (ss : List PStep) (hs : ss.length < 120) (hb : TBb w0 tb tx sp nm) (hu : TBu tb sp nm w0 w) (hm : TBm w tb tx sp nm r ss) (x3 x4 : Option Value) : RW E MX8_readDeclaration 65 [some (.ref tb), some (.int (nI og)), some (.int (nI n)), x3, x4] [.int (nI v)] w sg d 3 246 (PN E (zqD tb tx sp nm w0 sg (pBang n v og ss r))) := by
  have hk := hm.1.1
  unfold pBang
  cases e1 : pCh 33 r with
  | none =>
    refine r_istore_n (ls' := [_, _, _, _, _]) dX8_readDeclaration_65 (Nat.le_of_ble_eq_true rfl) rfl rfl ?_
    refine r_iload_n dX8_readDeclaration_66 rfl rfl ?_
    refine r_iconst dX8_readDeclaration_67 kc_m1 rfl ?_
    refine r_icmp_ne (r := 73) dX8_readDeclaration_68 (by decide) rfl (fun c_68 => ?_) (fun c_68 => ?_)
    · refine r_aload_n dX8_readDeclaration_73 rfl (zRv_ref _) rfl ?_
      refine r_bipush dX8_readDeclaration_74 kb_33 rfl ?_
      refine r_callV MX8_take 1 [_] lvX8_44 (Or.inl ⟨8, by decide, (by first | (simp only [zKS]; first | assumption | exact TBm.k (by assumption)) | assumption | exact TBm.k (by assumption) | exact zk_nself _ _ _ | (simp [zKS, zNS, *]; done)), rfl⟩) (sp_take E w sg (d - 1) tb tx sp nm 33 (by decide) r ss hm) rfl rfl (by first | exact Nat.le_of_ble_eq_true rfl | (simp [zcat_rf, Value.category]; done)) (by omega) (Nat.le_of_eq (Nat.zero_add _)) (Nat.le_of_eq (Nat.zero_add _)) dX8_readDeclaration_76 rfl (fun v_ w_ sg_ hq_ => ?_)
      obtain ⟨rfl, hu1, rfl, hm1⟩ := hq_
      rw [e1] at hm1 ⊢
      refine r_if_eqB (r := 88) dX8_readDeclaration_79 (by decide) rfl (fun c_79 => ?_) (fun c_79 => ?_)
      · refine r_iload_n dX8_readDeclaration_88 rfl rfl ?_
        refine r_istore (ls' := [_, _, _, _, _]) dX8_readDeclaration_89 (Nat.le_of_ble_eq_true rfl) rfl rfl ?_
        exact rdecl_mk E sg d hd tb tx sp nm n v og og w0 _ r ss hs hb (hu.tr hu1) hm1
      · exact absurd c_79 (by simp)
    · exact absurd c_68 (nI_m1 (by omega))
  | some r4 =>
    refine r_istore_n (ls' := [_, _, _, _, _]) dX8_readDeclaration_65 (Nat.le_of_ble_eq_true rfl) rfl rfl ?_
    refine r_iload_n dX8_readDeclaration_66 rfl rfl ?_
    refine r_iconst dX8_readDeclaration_67 kc_m1 rfl ?_
    refine r_icmp_ne (r := 73) dX8_readDeclaration_68 (by decide) rfl (fun c_68 => ?_) (fun c_68 => ?_)
    · refine r_aload_n dX8_readDeclaration_73 rfl (zRv_ref _) rfl ?_
      refine r_bipush dX8_readDeclaration_74 kb_33 rfl ?_
      refine r_callV MX8_take 1 [_] lvX8_44 (Or.inl ⟨8, by decide, (by first | (simp only [zKS]; first | assumption | exact TBm.k (by assumption)) | assumption | exact TBm.k (by assumption) | exact zk_nself _ _ _ | (simp [zKS, zNS, *]; done)), rfl⟩) (sp_take E w sg (d - 1) tb tx sp nm 33 (by decide) r ss hm) rfl rfl (by first | exact Nat.le_of_ble_eq_true rfl | (simp [zcat_rf, Value.category]; done)) (by omega) (Nat.le_of_eq (Nat.zero_add _)) (Nat.le_of_eq (Nat.zero_add _)) dX8_readDeclaration_76 rfl (fun v_ w_ sg_ hq_ => ?_)
      obtain ⟨rfl, hu1, rfl, hm1⟩ := hq_
      rw [e1] at hm1 ⊢
      refine r_if_eqB (r := 88) dX8_readDeclaration_79 (by decide) rfl (fun c_79 => ?_) (fun c_79 => ?_)
      · exact absurd c_79 (by simp)
      · refine r_iconst dX8_readDeclaration_82 kc_5 rfl ?_
        refine r_iload_n dX8_readDeclaration_83 rfl rfl ?_
        refine r_isubN (by omega) dX8_readDeclaration_84 rfl ?_
        refine r_goto (r := 89) dX8_readDeclaration_85 (by decide) ?_
        refine r_istore (ls' := [_, _, _, _, _]) dX8_readDeclaration_89 (Nat.le_of_ble_eq_true rfl) rfl rfl ?_
        exact rdecl_mk E sg d hd tb tx sp nm n v (5 - og) og w0 _ r4 ss hs hb (hu.tr hu1) hm1
    · exact absurd c_68 (nI_m1 (by omega))
theorem pFac7_thin {r r' : List Nat} {s : List PStep} (h : pSum (pFac 7) r = some (s, r')) : s.length + r'.length ≤ r.length := pSum_thin (pFac_thin 7) r s r' h
theorem sp_decl (E : ZE) (sg : ZM) (d : Nat) (hd : 30 ≤ d) (tb tx sp nm og : Nat) (hog : og ≤ 5) (w : ZW) (r : List Nat) (hn : TBn w tb tx sp nm r) : CallQ E MX8_readDeclaration [.ref tb, .int (nI og)] w sg d 3 246 (zqD tb tx sp nm w sg (pDecl og r)) := by
  obtain ⟨hb, ss, hm⟩ := hn
  refine CallQ.of rfl (by simp [Value.category]) (Nat.le_of_ble_eq_true rfl) ?_
  cases e1 : pName r with
  | none =>
    have e9 : pDecl og r = none := by simp [pDecl, e1]
    rw [e9]
    refine r_aload_n dX8_readDeclaration_0 rfl (zRv_ref _) rfl ?_
    refine r_callV MX8_readName 0 [] lvX8_132 (Or.inl ⟨8, by decide, (by first | (simp only [zKS]; first | assumption | exact TBm.k (by assumption)) | assumption | exact TBm.k (by assumption) | exact zk_nself _ _ _ | (simp [zKS, zNS, *]; done)), rfl⟩) (sp_name E w sg (d - 1) (by omega) tb tx sp nm r ss hm) rfl rfl (by first | exact Nat.le_of_ble_eq_true rfl | (simp [zcat_rf, Value.category]; done)) (by omega) (Nat.le_of_eq (Nat.zero_add _)) (Nat.le_of_eq (Nat.zero_add _)) dX8_readDeclaration_1 rfl (fun v_ w_ sg_ hq_ => ?_)
    rw [e1] at hq_
    obtain ⟨rfl, hu1, rfl, hx1⟩ := hq_
    refine r_istore_n (ls' := [_, _, _, _, _]) dX8_readDeclaration_4 (Nat.le_of_ble_eq_true rfl) rfl rfl ?_
    refine r_iload_n dX8_readDeclaration_5 rfl rfl ?_
    refine r_iconst dX8_readDeclaration_6 kc_m1 rfl ?_
    refine r_icmp_eq (r := 19) dX8_readDeclaration_7 (by decide) rfl (fun c_7 => ?_) (fun c_7 => ?_)
    · refine r_aconst_null dX8_readDeclaration_19 rfl ?_
      refine r_aret rfl (by first | exact Or.inl ⟨_, rfl⟩ | exact Or.inr ⟨_, rfl⟩) (by first | exact zRv_ref _ | exact zRv_null | exact zRv_rf _ | assumption) dX8_readDeclaration_20 ?_
      exact ⟨rfl, hu1.v, rfl, hu1.b hb, hx1⟩
    · exact absurd rfl c_7
  | some q =>
    obtain ⟨n, r1⟩ := q
    have hn9 : n < 10 := by
      unfold pName at e1
      split at e1
      · cases e1
      · rename_i c r9
        repeat' split at e1
        all_goals first | (cases e1; omega) | (cases e1; done) | (rename_i x9 e2; cases e1; have := (pNamed_len e2).2; omega)
    have hm0 := hm
    cases e2 : pCh 58 r1 with
    | none =>
      have e9 : pDecl og r = none := by simp [pDecl, e1, e2]
      rw [e9]
      refine r_aload_n dX8_readDeclaration_0 rfl (zRv_ref _) rfl ?_
      refine r_callV MX8_readName 0 [] lvX8_132 (Or.inl ⟨8, by decide, (by first | (simp only [zKS]; first | assumption | exact TBm.k (by assumption)) | assumption | exact TBm.k (by assumption) | exact zk_nself _ _ _ | (simp [zKS, zNS, *]; done)), rfl⟩) (sp_name E w sg (d - 1) (by omega) tb tx sp nm r ss hm) rfl rfl (by first | exact Nat.le_of_ble_eq_true rfl | (simp [zcat_rf, Value.category]; done)) (by omega) (Nat.le_of_eq (Nat.zero_add _)) (Nat.le_of_eq (Nat.zero_add _)) dX8_readDeclaration_1 rfl (fun v_ w_ sg_ hq_ => ?_)
      rw [e1] at hq_
      obtain ⟨rfl, hu1, rfl, hm1⟩ := hq_
      refine r_istore_n (ls' := [_, _, _, _, _]) dX8_readDeclaration_4 (Nat.le_of_ble_eq_true rfl) rfl rfl ?_
      refine r_iload_n dX8_readDeclaration_5 rfl rfl ?_
      refine r_iconst dX8_readDeclaration_6 kc_m1 rfl ?_
      refine r_icmp_eq (r := 19) dX8_readDeclaration_7 (by decide) rfl (fun c_7 => ?_) (fun c_7 => ?_)
      · exact absurd c_7 (nI_m1 (by omega))
      · refine r_aload_n dX8_readDeclaration_10 rfl (zRv_ref _) rfl ?_
        refine r_bipush dX8_readDeclaration_11 kb_58 rfl ?_
        refine r_callV MX8_take 1 [_] lvX8_44 (Or.inl ⟨8, by decide, (by first | (simp only [zKS]; first | assumption | exact TBm.k (by assumption)) | assumption | exact TBm.k (by assumption) | exact zk_nself _ _ _ | (simp [zKS, zNS, *]; done)), rfl⟩) (sp_take E _ sg (d - 1) tb tx sp nm 58 (by decide) r1 ss hm1) rfl rfl (by first | exact Nat.le_of_ble_eq_true rfl | (simp [zcat_rf, Value.category]; done)) (by omega) (Nat.le_of_eq (Nat.zero_add _)) (Nat.le_of_eq (Nat.zero_add _)) dX8_readDeclaration_13 rfl (fun v_ w_ sg_ hq_ => ?_)
        obtain ⟨rfl, hu2, rfl, hm2⟩ := hq_
        rw [e2] at hm2 ⊢
        refine r_if_neB (r := 21) dX8_readDeclaration_16 (by decide) rfl (fun c_16 => ?_) (fun c_16 => ?_)
        · exact absurd c_16 (by simp)
        · refine r_aconst_null dX8_readDeclaration_19 rfl ?_
          refine r_aret rfl (by first | exact Or.inl ⟨_, rfl⟩ | exact Or.inr ⟨_, rfl⟩) (by first | exact zRv_ref _ | exact zRv_null | exact zRv_rf _ | assumption) dX8_readDeclaration_20 ?_
          exact ⟨rfl, (hu1.tr hu2).v, rfl, (hu1.tr hu2).b hb, hm2.x⟩
    | some r2 =>
      have l1 := pCh_len e2
      cases e3 : pWord 0 r2 with
      | some r3 =>
        have e9 : pDecl og r = pBang n 0 og [] r3 := by simp [pDecl, e1, e2, pValue, e3]
        rw [e9]
        refine r_aload_n dX8_readDeclaration_0 rfl (zRv_ref _) rfl ?_
        refine r_callV MX8_readName 0 [] lvX8_132 (Or.inl ⟨8, by decide, (by first | (simp only [zKS]; first | assumption | exact TBm.k (by assumption)) | assumption | exact TBm.k (by assumption) | exact zk_nself _ _ _ | (simp [zKS, zNS, *]; done)), rfl⟩) (sp_name E w sg (d - 1) (by omega) tb tx sp nm r ss hm) rfl rfl (by first | exact Nat.le_of_ble_eq_true rfl | (simp [zcat_rf, Value.category]; done)) (by omega) (Nat.le_of_eq (Nat.zero_add _)) (Nat.le_of_eq (Nat.zero_add _)) dX8_readDeclaration_1 rfl (fun v_ w_ sg_ hq_ => ?_)
        rw [e1] at hq_
        obtain ⟨rfl, hu1, rfl, hm1⟩ := hq_
        refine r_istore_n (ls' := [_, _, _, _, _]) dX8_readDeclaration_4 (Nat.le_of_ble_eq_true rfl) rfl rfl ?_
        refine r_iload_n dX8_readDeclaration_5 rfl rfl ?_
        refine r_iconst dX8_readDeclaration_6 kc_m1 rfl ?_
        refine r_icmp_eq (r := 19) dX8_readDeclaration_7 (by decide) rfl (fun c_7 => ?_) (fun c_7 => ?_)
        · exact absurd c_7 (nI_m1 (by omega))
        · refine r_aload_n dX8_readDeclaration_10 rfl (zRv_ref _) rfl ?_
          refine r_bipush dX8_readDeclaration_11 kb_58 rfl ?_
          refine r_callV MX8_take 1 [_] lvX8_44 (Or.inl ⟨8, by decide, (by first | (simp only [zKS]; first | assumption | exact TBm.k (by assumption)) | assumption | exact TBm.k (by assumption) | exact zk_nself _ _ _ | (simp [zKS, zNS, *]; done)), rfl⟩) (sp_take E _ sg (d - 1) tb tx sp nm 58 (by decide) r1 ss hm1) rfl rfl (by first | exact Nat.le_of_ble_eq_true rfl | (simp [zcat_rf, Value.category]; done)) (by omega) (Nat.le_of_eq (Nat.zero_add _)) (Nat.le_of_eq (Nat.zero_add _)) dX8_readDeclaration_13 rfl (fun v_ w_ sg_ hq_ => ?_)
          obtain ⟨rfl, hu2, rfl, hm2⟩ := hq_
          rw [e2] at hm2 ⊢
          refine r_if_neB (r := 21) dX8_readDeclaration_16 (by decide) rfl (fun c_16 => ?_) (fun c_16 => ?_)
          · refine r_aload_n dX8_readDeclaration_21 rfl (zRv_ref _) rfl ?_
            refine r_iconst dX8_readDeclaration_22 kc_0 rfl ?_
            refine r_puti 8 6 906 lfX8_33 (by first | (simp only [zKS]; first | assumption | exact TBm.k (by assumption)) | assumption | exact TBm.k (by assumption) | exact zk_nself _ _ _ | (simp [zKS, zNS, *]; done)) rfl rfl rfl (Or.inl rfl) dX8_readDeclaration_23 rfl ?_
            obtain ⟨hm3, hu3⟩ := TBm.rst hm2
            refine r_aload_n dX8_readDeclaration_26 rfl (zRv_ref _) rfl ?_
            refine r_ldcT "inherit" (fun s h9 => h9.2.2.2.2.2.2.2.2.2.2.1) dX8_readDeclaration_27 rfl ?_
            refine r_callV MX8_takeWord 1 [_] lvX8_137 (Or.inl ⟨8, by decide, (by first | (simp only [zKS]; first | assumption | exact TBm.k (by assumption)) | assumption | exact TBm.k (by assumption) | exact zk_nself _ _ _ | (simp [zKS, zNS, *]; done)), rfl⟩) (sp_takeWord E sg (d - 1) (by omega) tb tx sp nm 0 (by decide) _ r2 [] hm3) rfl rfl (by first | exact Nat.le_of_ble_eq_true rfl | (simp [zcat_rf, Value.category]; done)) (by omega) (Nat.le_of_eq (Nat.zero_add _)) (Nat.le_of_eq (Nat.zero_add _)) dX8_readDeclaration_29 rfl (fun v_ w_ sg_ hq_ => ?_)
            obtain ⟨rfl, hu4, rfl, hm4⟩ := hq_
            rw [e3] at hm4 ⊢
            refine r_if_eqB (r := 39) dX8_readDeclaration_32 (by decide) rfl (fun c_32 => ?_) (fun c_32 => ?_)
            · exact absurd c_32 (by simp)
            · refine r_iconst dX8_readDeclaration_35 kc_0 rfl ?_
              refine r_goto (r := 65) dX8_readDeclaration_36 (by decide) ?_
              exact rdecl_end E sg d (by omega) tb tx sp nm n 0 og (by decide) hog w _ r3 [] (by decide) hb (hu1.tr (hu2.tr (hu3.tr hu4))) hm4 _ _
          · exact absurd c_16 (by simp)
      | none =>
        cases e4 : pWord 1 r2 with
        | some r3 =>
          have e9 : pDecl og r = pBang n 1 og [] r3 := by simp [pDecl, e1, e2, pValue, e3, e4]
          rw [e9]
          refine r_aload_n dX8_readDeclaration_0 rfl (zRv_ref _) rfl ?_
          refine r_callV MX8_readName 0 [] lvX8_132 (Or.inl ⟨8, by decide, (by first | (simp only [zKS]; first | assumption | exact TBm.k (by assumption)) | assumption | exact TBm.k (by assumption) | exact zk_nself _ _ _ | (simp [zKS, zNS, *]; done)), rfl⟩) (sp_name E w sg (d - 1) (by omega) tb tx sp nm r ss hm) rfl rfl (by first | exact Nat.le_of_ble_eq_true rfl | (simp [zcat_rf, Value.category]; done)) (by omega) (Nat.le_of_eq (Nat.zero_add _)) (Nat.le_of_eq (Nat.zero_add _)) dX8_readDeclaration_1 rfl (fun v_ w_ sg_ hq_ => ?_)
          rw [e1] at hq_
          obtain ⟨rfl, hu1, rfl, hm1⟩ := hq_
          refine r_istore_n (ls' := [_, _, _, _, _]) dX8_readDeclaration_4 (Nat.le_of_ble_eq_true rfl) rfl rfl ?_
          refine r_iload_n dX8_readDeclaration_5 rfl rfl ?_
          refine r_iconst dX8_readDeclaration_6 kc_m1 rfl ?_
          refine r_icmp_eq (r := 19) dX8_readDeclaration_7 (by decide) rfl (fun c_7 => ?_) (fun c_7 => ?_)
          · exact absurd c_7 (nI_m1 (by omega))
          · refine r_aload_n dX8_readDeclaration_10 rfl (zRv_ref _) rfl ?_
            refine r_bipush dX8_readDeclaration_11 kb_58 rfl ?_
            refine r_callV MX8_take 1 [_] lvX8_44 (Or.inl ⟨8, by decide, (by first | (simp only [zKS]; first | assumption | exact TBm.k (by assumption)) | assumption | exact TBm.k (by assumption) | exact zk_nself _ _ _ | (simp [zKS, zNS, *]; done)), rfl⟩) (sp_take E _ sg (d - 1) tb tx sp nm 58 (by decide) r1 ss hm1) rfl rfl (by first | exact Nat.le_of_ble_eq_true rfl | (simp [zcat_rf, Value.category]; done)) (by omega) (Nat.le_of_eq (Nat.zero_add _)) (Nat.le_of_eq (Nat.zero_add _)) dX8_readDeclaration_13 rfl (fun v_ w_ sg_ hq_ => ?_)
            obtain ⟨rfl, hu2, rfl, hm2⟩ := hq_
            rw [e2] at hm2 ⊢
            refine r_if_neB (r := 21) dX8_readDeclaration_16 (by decide) rfl (fun c_16 => ?_) (fun c_16 => ?_)
            · refine r_aload_n dX8_readDeclaration_21 rfl (zRv_ref _) rfl ?_
              refine r_iconst dX8_readDeclaration_22 kc_0 rfl ?_
              refine r_puti 8 6 906 lfX8_33 (by first | (simp only [zKS]; first | assumption | exact TBm.k (by assumption)) | assumption | exact TBm.k (by assumption) | exact zk_nself _ _ _ | (simp [zKS, zNS, *]; done)) rfl rfl rfl (Or.inl rfl) dX8_readDeclaration_23 rfl ?_
              obtain ⟨hm3, hu3⟩ := TBm.rst hm2
              refine r_aload_n dX8_readDeclaration_26 rfl (zRv_ref _) rfl ?_
              refine r_ldcT "inherit" (fun s h9 => h9.2.2.2.2.2.2.2.2.2.2.1) dX8_readDeclaration_27 rfl ?_
              refine r_callV MX8_takeWord 1 [_] lvX8_137 (Or.inl ⟨8, by decide, (by first | (simp only [zKS]; first | assumption | exact TBm.k (by assumption)) | assumption | exact TBm.k (by assumption) | exact zk_nself _ _ _ | (simp [zKS, zNS, *]; done)), rfl⟩) (sp_takeWord E sg (d - 1) (by omega) tb tx sp nm 0 (by decide) _ r2 [] hm3) rfl rfl (by first | exact Nat.le_of_ble_eq_true rfl | (simp [zcat_rf, Value.category]; done)) (by omega) (Nat.le_of_eq (Nat.zero_add _)) (Nat.le_of_eq (Nat.zero_add _)) dX8_readDeclaration_29 rfl (fun v_ w_ sg_ hq_ => ?_)
              obtain ⟨rfl, hu4, rfl, hm4⟩ := hq_
              rw [e3] at hm4 ⊢
              refine r_if_eqB (r := 39) dX8_readDeclaration_32 (by decide) rfl (fun c_32 => ?_) (fun c_32 => ?_)
              · refine r_aload_n dX8_readDeclaration_39 rfl (zRv_ref _) rfl ?_
                refine r_ldcT "initial" (fun s h9 => h9.2.2.2.2.2.2.2.2.2.2.2.1) dX8_readDeclaration_40 rfl ?_
                refine r_callV MX8_takeWord 1 [_] lvX8_137 (Or.inl ⟨8, by decide, (by first | (simp only [zKS]; first | assumption | exact TBm.k (by assumption)) | assumption | exact TBm.k (by assumption) | exact zk_nself _ _ _ | (simp [zKS, zNS, *]; done)), rfl⟩) (sp_takeWord E sg (d - 1) (by omega) tb tx sp nm 1 (by decide) _ r2 [] hm4) rfl rfl (by first | exact Nat.le_of_ble_eq_true rfl | (simp [zcat_rf, Value.category]; done)) (by omega) (Nat.le_of_eq (Nat.zero_add _)) (Nat.le_of_eq (Nat.zero_add _)) dX8_readDeclaration_42 rfl (fun v_ w_ sg_ hq_ => ?_)
                obtain ⟨rfl, hu5, rfl, hm5⟩ := hq_
                rw [e4] at hm5 ⊢
                refine r_if_eqB (r := 52) dX8_readDeclaration_45 (by decide) rfl (fun c_45 => ?_) (fun c_45 => ?_)
                · exact absurd c_45 (by simp)
                · refine r_iconst dX8_readDeclaration_48 kc_1 rfl ?_
                  refine r_goto (r := 65) dX8_readDeclaration_49 (by decide) ?_
                  exact rdecl_end E sg d (by omega) tb tx sp nm n 1 og (by decide) hog w _ r3 [] (by decide) hb (hu1.tr (hu2.tr (hu3.tr (hu4.tr hu5)))) hm5 _ _
              · exact absurd c_32 (by simp)
            · exact absurd c_16 (by simp)
        | none =>
          cases e5 : pSum (pFac 7) r2 with
          | some q =>
            obtain ⟨s, r3⟩ := q
            have l2 := pFac7_thin e5
            have e9 : pDecl og r = pBang n 2 og s r3 := by simp [pDecl, e1, e2, pValue, e3, e4, e5]
            rw [e9]
            refine r_aload_n dX8_readDeclaration_0 rfl (zRv_ref _) rfl ?_
            refine r_callV MX8_readName 0 [] lvX8_132 (Or.inl ⟨8, by decide, (by first | (simp only [zKS]; first | assumption | exact TBm.k (by assumption)) | assumption | exact TBm.k (by assumption) | exact zk_nself _ _ _ | (simp [zKS, zNS, *]; done)), rfl⟩) (sp_name E w sg (d - 1) (by omega) tb tx sp nm r ss hm) rfl rfl (by first | exact Nat.le_of_ble_eq_true rfl | (simp [zcat_rf, Value.category]; done)) (by omega) (Nat.le_of_eq (Nat.zero_add _)) (Nat.le_of_eq (Nat.zero_add _)) dX8_readDeclaration_1 rfl (fun v_ w_ sg_ hq_ => ?_)
            rw [e1] at hq_
            obtain ⟨rfl, hu1, rfl, hm1⟩ := hq_
            have l3 := hm1.len
            refine r_istore_n (ls' := [_, _, _, _, _]) dX8_readDeclaration_4 (Nat.le_of_ble_eq_true rfl) rfl rfl ?_
            refine r_iload_n dX8_readDeclaration_5 rfl rfl ?_
            refine r_iconst dX8_readDeclaration_6 kc_m1 rfl ?_
            refine r_icmp_eq (r := 19) dX8_readDeclaration_7 (by decide) rfl (fun c_7 => ?_) (fun c_7 => ?_)
            · exact absurd c_7 (nI_m1 (by omega))
            · refine r_aload_n dX8_readDeclaration_10 rfl (zRv_ref _) rfl ?_
              refine r_bipush dX8_readDeclaration_11 kb_58 rfl ?_
              refine r_callV MX8_take 1 [_] lvX8_44 (Or.inl ⟨8, by decide, (by first | (simp only [zKS]; first | assumption | exact TBm.k (by assumption)) | assumption | exact TBm.k (by assumption) | exact zk_nself _ _ _ | (simp [zKS, zNS, *]; done)), rfl⟩) (sp_take E _ sg (d - 1) tb tx sp nm 58 (by decide) r1 ss hm1) rfl rfl (by first | exact Nat.le_of_ble_eq_true rfl | (simp [zcat_rf, Value.category]; done)) (by omega) (Nat.le_of_eq (Nat.zero_add _)) (Nat.le_of_eq (Nat.zero_add _)) dX8_readDeclaration_13 rfl (fun v_ w_ sg_ hq_ => ?_)
              obtain ⟨rfl, hu2, rfl, hm2⟩ := hq_
              rw [e2] at hm2 ⊢
              refine r_if_neB (r := 21) dX8_readDeclaration_16 (by decide) rfl (fun c_16 => ?_) (fun c_16 => ?_)
              · refine r_aload_n dX8_readDeclaration_21 rfl (zRv_ref _) rfl ?_
                refine r_iconst dX8_readDeclaration_22 kc_0 rfl ?_
                refine r_puti 8 6 906 lfX8_33 (by first | (simp only [zKS]; first | assumption | exact TBm.k (by assumption)) | assumption | exact TBm.k (by assumption) | exact zk_nself _ _ _ | (simp [zKS, zNS, *]; done)) rfl rfl rfl (Or.inl rfl) dX8_readDeclaration_23 rfl ?_
                obtain ⟨hm3, hu3⟩ := TBm.rst hm2
                refine r_aload_n dX8_readDeclaration_26 rfl (zRv_ref _) rfl ?_
                refine r_ldcT "inherit" (fun s h9 => h9.2.2.2.2.2.2.2.2.2.2.1) dX8_readDeclaration_27 rfl ?_
                refine r_callV MX8_takeWord 1 [_] lvX8_137 (Or.inl ⟨8, by decide, (by first | (simp only [zKS]; first | assumption | exact TBm.k (by assumption)) | assumption | exact TBm.k (by assumption) | exact zk_nself _ _ _ | (simp [zKS, zNS, *]; done)), rfl⟩) (sp_takeWord E sg (d - 1) (by omega) tb tx sp nm 0 (by decide) _ r2 [] hm3) rfl rfl (by first | exact Nat.le_of_ble_eq_true rfl | (simp [zcat_rf, Value.category]; done)) (by omega) (Nat.le_of_eq (Nat.zero_add _)) (Nat.le_of_eq (Nat.zero_add _)) dX8_readDeclaration_29 rfl (fun v_ w_ sg_ hq_ => ?_)
                obtain ⟨rfl, hu4, rfl, hm4⟩ := hq_
                rw [e3] at hm4 ⊢
                refine r_if_eqB (r := 39) dX8_readDeclaration_32 (by decide) rfl (fun c_32 => ?_) (fun c_32 => ?_)
                · refine r_aload_n dX8_readDeclaration_39 rfl (zRv_ref _) rfl ?_
                  refine r_ldcT "initial" (fun s h9 => h9.2.2.2.2.2.2.2.2.2.2.2.1) dX8_readDeclaration_40 rfl ?_
                  refine r_callV MX8_takeWord 1 [_] lvX8_137 (Or.inl ⟨8, by decide, (by first | (simp only [zKS]; first | assumption | exact TBm.k (by assumption)) | assumption | exact TBm.k (by assumption) | exact zk_nself _ _ _ | (simp [zKS, zNS, *]; done)), rfl⟩) (sp_takeWord E sg (d - 1) (by omega) tb tx sp nm 1 (by decide) _ r2 [] hm4) rfl rfl (by first | exact Nat.le_of_ble_eq_true rfl | (simp [zcat_rf, Value.category]; done)) (by omega) (Nat.le_of_eq (Nat.zero_add _)) (Nat.le_of_eq (Nat.zero_add _)) dX8_readDeclaration_42 rfl (fun v_ w_ sg_ hq_ => ?_)
                  obtain ⟨rfl, hu5, rfl, hm5⟩ := hq_
                  rw [e4] at hm5 ⊢
                  refine r_if_eqB (r := 52) dX8_readDeclaration_45 (by decide) rfl (fun c_45 => ?_) (fun c_45 => ?_)
                  · refine r_aload_n dX8_readDeclaration_52 rfl (zRv_ref _) rfl ?_
                    refine r_iconst dX8_readDeclaration_53 kc_0 rfl ?_
                    refine r_callV MX8_readSum 1 [_] lvX8_143 (Or.inl ⟨8, by decide, (by first | (simp only [zKS]; first | assumption | exact TBm.k (by assumption)) | assumption | exact TBm.k (by assumption) | exact zk_nself _ _ _ | (simp [zKS, zNS, *]; done)), rfl⟩) (sp_X8_readSum E sg tb tx sp nm 7 (sp_X8_readFactor E sg tb tx sp nm 7 (Nat.le_refl _)) (d - 1) _ r2 [] (by omega) hm5 (by simp only [Option.getD_some, Option.getD_none, List.length_nil] at *; omega)) rfl rfl (by first | exact Nat.le_of_ble_eq_true rfl | (simp [zcat_rf, Value.category]; done)) (by omega) (Nat.le_of_eq (Nat.zero_add _)) (Nat.le_of_eq (Nat.zero_add _)) dX8_readDeclaration_54 rfl (fun v_ w_ sg_ hq_ => ?_)
                    rw [e5] at hq_
                    obtain ⟨rfl, hu6, rfl, hm6⟩ := hq_
                    refine r_if_eqB (r := 64) dX8_readDeclaration_57 (by decide) rfl (fun c_57 => ?_) (fun c_57 => ?_)
                    · exact absurd c_57 (by simp)
                    · refine r_iconst dX8_readDeclaration_60 kc_2 rfl ?_
                      refine r_goto (r := 65) dX8_readDeclaration_61 (by decide) ?_
                      exact rdecl_end E sg d (by omega) tb tx sp nm n 2 og (by decide) hog w _ r3 s (by omega) hb (hu1.tr (hu2.tr (hu3.tr (hu4.tr (hu5.tr hu6))))) hm6 _ _
                  · exact absurd c_45 (by simp)
                · exact absurd c_32 (by simp)
              · exact absurd c_16 (by simp)
          | none =>
            have e9 : pDecl og r = none := by simp [pDecl, e1, e2, pValue, e3, e4, e5]
            rw [e9]
            refine r_aload_n dX8_readDeclaration_0 rfl (zRv_ref _) rfl ?_
            refine r_callV MX8_readName 0 [] lvX8_132 (Or.inl ⟨8, by decide, (by first | (simp only [zKS]; first | assumption | exact TBm.k (by assumption)) | assumption | exact TBm.k (by assumption) | exact zk_nself _ _ _ | (simp [zKS, zNS, *]; done)), rfl⟩) (sp_name E w sg (d - 1) (by omega) tb tx sp nm r ss hm) rfl rfl (by first | exact Nat.le_of_ble_eq_true rfl | (simp [zcat_rf, Value.category]; done)) (by omega) (Nat.le_of_eq (Nat.zero_add _)) (Nat.le_of_eq (Nat.zero_add _)) dX8_readDeclaration_1 rfl (fun v_ w_ sg_ hq_ => ?_)
            rw [e1] at hq_
            obtain ⟨rfl, hu1, rfl, hm1⟩ := hq_
            have l3 := hm1.len
            refine r_istore_n (ls' := [_, _, _, _, _]) dX8_readDeclaration_4 (Nat.le_of_ble_eq_true rfl) rfl rfl ?_
            refine r_iload_n dX8_readDeclaration_5 rfl rfl ?_
            refine r_iconst dX8_readDeclaration_6 kc_m1 rfl ?_
            refine r_icmp_eq (r := 19) dX8_readDeclaration_7 (by decide) rfl (fun c_7 => ?_) (fun c_7 => ?_)
            · exact absurd c_7 (nI_m1 (by omega))
            · refine r_aload_n dX8_readDeclaration_10 rfl (zRv_ref _) rfl ?_
              refine r_bipush dX8_readDeclaration_11 kb_58 rfl ?_
              refine r_callV MX8_take 1 [_] lvX8_44 (Or.inl ⟨8, by decide, (by first | (simp only [zKS]; first | assumption | exact TBm.k (by assumption)) | assumption | exact TBm.k (by assumption) | exact zk_nself _ _ _ | (simp [zKS, zNS, *]; done)), rfl⟩) (sp_take E _ sg (d - 1) tb tx sp nm 58 (by decide) r1 ss hm1) rfl rfl (by first | exact Nat.le_of_ble_eq_true rfl | (simp [zcat_rf, Value.category]; done)) (by omega) (Nat.le_of_eq (Nat.zero_add _)) (Nat.le_of_eq (Nat.zero_add _)) dX8_readDeclaration_13 rfl (fun v_ w_ sg_ hq_ => ?_)
              obtain ⟨rfl, hu2, rfl, hm2⟩ := hq_
              rw [e2] at hm2 ⊢
              refine r_if_neB (r := 21) dX8_readDeclaration_16 (by decide) rfl (fun c_16 => ?_) (fun c_16 => ?_)
              · refine r_aload_n dX8_readDeclaration_21 rfl (zRv_ref _) rfl ?_
                refine r_iconst dX8_readDeclaration_22 kc_0 rfl ?_
                refine r_puti 8 6 906 lfX8_33 (by first | (simp only [zKS]; first | assumption | exact TBm.k (by assumption)) | assumption | exact TBm.k (by assumption) | exact zk_nself _ _ _ | (simp [zKS, zNS, *]; done)) rfl rfl rfl (Or.inl rfl) dX8_readDeclaration_23 rfl ?_
                obtain ⟨hm3, hu3⟩ := TBm.rst hm2
                refine r_aload_n dX8_readDeclaration_26 rfl (zRv_ref _) rfl ?_
                refine r_ldcT "inherit" (fun s h9 => h9.2.2.2.2.2.2.2.2.2.2.1) dX8_readDeclaration_27 rfl ?_
                refine r_callV MX8_takeWord 1 [_] lvX8_137 (Or.inl ⟨8, by decide, (by first | (simp only [zKS]; first | assumption | exact TBm.k (by assumption)) | assumption | exact TBm.k (by assumption) | exact zk_nself _ _ _ | (simp [zKS, zNS, *]; done)), rfl⟩) (sp_takeWord E sg (d - 1) (by omega) tb tx sp nm 0 (by decide) _ r2 [] hm3) rfl rfl (by first | exact Nat.le_of_ble_eq_true rfl | (simp [zcat_rf, Value.category]; done)) (by omega) (Nat.le_of_eq (Nat.zero_add _)) (Nat.le_of_eq (Nat.zero_add _)) dX8_readDeclaration_29 rfl (fun v_ w_ sg_ hq_ => ?_)
                obtain ⟨rfl, hu4, rfl, hm4⟩ := hq_
                rw [e3] at hm4 ⊢
                refine r_if_eqB (r := 39) dX8_readDeclaration_32 (by decide) rfl (fun c_32 => ?_) (fun c_32 => ?_)
                · refine r_aload_n dX8_readDeclaration_39 rfl (zRv_ref _) rfl ?_
                  refine r_ldcT "initial" (fun s h9 => h9.2.2.2.2.2.2.2.2.2.2.2.1) dX8_readDeclaration_40 rfl ?_
                  refine r_callV MX8_takeWord 1 [_] lvX8_137 (Or.inl ⟨8, by decide, (by first | (simp only [zKS]; first | assumption | exact TBm.k (by assumption)) | assumption | exact TBm.k (by assumption) | exact zk_nself _ _ _ | (simp [zKS, zNS, *]; done)), rfl⟩) (sp_takeWord E sg (d - 1) (by omega) tb tx sp nm 1 (by decide) _ r2 [] hm4) rfl rfl (by first | exact Nat.le_of_ble_eq_true rfl | (simp [zcat_rf, Value.category]; done)) (by omega) (Nat.le_of_eq (Nat.zero_add _)) (Nat.le_of_eq (Nat.zero_add _)) dX8_readDeclaration_42 rfl (fun v_ w_ sg_ hq_ => ?_)
                  obtain ⟨rfl, hu5, rfl, hm5⟩ := hq_
                  rw [e4] at hm5 ⊢
                  refine r_if_eqB (r := 52) dX8_readDeclaration_45 (by decide) rfl (fun c_45 => ?_) (fun c_45 => ?_)
                  · refine r_aload_n dX8_readDeclaration_52 rfl (zRv_ref _) rfl ?_
                    refine r_iconst dX8_readDeclaration_53 kc_0 rfl ?_
                    refine r_callV MX8_readSum 1 [_] lvX8_143 (Or.inl ⟨8, by decide, (by first | (simp only [zKS]; first | assumption | exact TBm.k (by assumption)) | assumption | exact TBm.k (by assumption) | exact zk_nself _ _ _ | (simp [zKS, zNS, *]; done)), rfl⟩) (sp_X8_readSum E sg tb tx sp nm 7 (sp_X8_readFactor E sg tb tx sp nm 7 (Nat.le_refl _)) (d - 1) _ r2 [] (by omega) hm5 (by simp only [Option.getD_some, Option.getD_none, List.length_nil] at *; omega)) rfl rfl (by first | exact Nat.le_of_ble_eq_true rfl | (simp [zcat_rf, Value.category]; done)) (by omega) (Nat.le_of_eq (Nat.zero_add _)) (Nat.le_of_eq (Nat.zero_add _)) dX8_readDeclaration_54 rfl (fun v_ w_ sg_ hq_ => ?_)
                    rw [e5] at hq_
                    obtain ⟨rfl, hu6, rfl, hx6⟩ := hq_
                    refine r_if_eqB (r := 64) dX8_readDeclaration_57 (by decide) rfl (fun c_57 => ?_) (fun c_57 => ?_)
                    · refine r_iconst dX8_readDeclaration_64 kc_m1 rfl ?_
                      refine r_istore_n (ls' := [_, _, _, _, _]) dX8_readDeclaration_65 (Nat.le_of_ble_eq_true rfl) rfl rfl ?_
                      refine r_iload_n dX8_readDeclaration_66 rfl rfl ?_
                      refine r_iconst dX8_readDeclaration_67 kc_m1 rfl ?_
                      refine r_icmp_ne (r := 73) dX8_readDeclaration_68 (by decide) rfl (fun c_68 => ?_) (fun c_68 => ?_)
                      · exact absurd c_68 (by simp)
                      · refine r_aconst_null dX8_readDeclaration_71 rfl ?_
                        refine r_aret rfl (by first | exact Or.inl ⟨_, rfl⟩ | exact Or.inr ⟨_, rfl⟩) (by first | exact zRv_ref _ | exact zRv_null | exact zRv_rf _ | assumption) dX8_readDeclaration_72 ?_
                        exact ⟨rfl, (hu1.tr (hu2.tr (hu3.tr (hu4.tr (hu5.tr hu6))))).v, rfl, (hu1.tr (hu2.tr (hu3.tr (hu4.tr (hu5.tr hu6))))).b hb, hx6⟩
                    · exact absurd c_57 (by simp)
                  · exact absurd c_45 (by simp)
                · exact absurd c_32 (by simp)
              · exact absurd c_16 (by simp)
