/-! ===== Reckoner.settleAt, its walk ===== -/
theorem seQ.rf {w : ZW} {x nr : Nat} {T : List PEl} {A : Nat → Nat} {DC : Nat → PDecl → Prop} {RG : Nat → Nat → Prop} {L : Nat → Nat → PLd} {V : Nat → Nat → UInt32} (h : cchE w x nr T A DC RG L V) : seQ w w x nr T A DC RG L V := ⟨ech.rf, h, fun _ => rfl, fun _ _ _ _ q => q⟩
theorem X0.x1 {x n : Nat} {A : Nat → Nat} : ∀ a, X0 x A n a → X1 x A n a := fun a h => by
  rcases h with h | ⟨e, h1, h2⟩
  · exact Or.inl ⟨h.1, h.2.1⟩
  · exact Or.inr ⟨e, h1, by omega, by omega⟩
theorem seQ.x0 {w0 w w' : ZW} {x nr : Nat} {T : List PEl} {A : Nat → Nat} {DC : Nat → PDecl → Prop} {RG : Nat → Nat → Prop} {L : Nat → Nat → PLd} {V : Nat → Nat → UInt32} {wanted oc : Nat} {em whole : UInt32} {K : PKn} (h : seQ w0 w x nr T A DC RG L V) (e : ech (X0 x A T.length) w w') (hp : passE w' x nr T A DC RG L K wanted em whole oc) (hK : okK K) : seQ w0 w' x nr T A DC RG L V := by
  obtain ⟨g1, ⟨⟨g2, g3, -⟩, g6, g7⟩, g9, g8⟩ := h
  have hn8 : ¬ X0 x A T.length (x + 8) := fun q => by
    rcases q with q | ⟨i, h4, h5⟩
    · exact q.2.2 rfl
    · have := g2.1.1 i h4; omega
  have hs : ∀ e, e < T.length → ∀ p, p < 6 → za w' (A e + 6) p = za w (A e + 6) p ∧ zg w' (A e + 5) p = zg w (A e + 5) p := fun i hi p hp => ⟨by rw [(e.2.2.2 (A i + 6) (g2.1.nX0 (j := 6) hi (by decide))).a], by rw [(e.2.2.2 (A i + 5) (g2.1.nX0 (j := 5) hi (by decide))).g]⟩
  have hmo : ∀ e, e < T.length → ∀ p, p < 6 → stdE w A T L V e p → stdE w' A T L V e p := fun i hi p hp q => ⟨(hs i hi p hp).1.trans q.1, (hs i hi p hp).2.trans q.2⟩
  exact ⟨g1.tr e X0.x1, ⟨⟨hp.1.1, hp.1.2.1, K, hp.1.2.2, hK⟩, hp.2.1, fun i hi p hp => (g7 i hi p hp).elim (fun q => Or.inl ((hs i hi p hp).1.trans q)) (fun q => Or.inr (hmo i hi p hp q))⟩, fun i => by rw [(e.2.2.2 (x + 8) hn8).q]; exact g9 i, fun i hi p hp q => hmo i hi p hp (g8 i hi p hp q)⟩
def saQ (w0 : ZW) (sg : ZM) (x nr : Nat) (T : List PEl) (A : Nat → Nat) (DC : Nat → PDecl → Prop) (RG : Nat → Nat → Prop) (L : Nat → Nat → PLd) (V : Nat → Nat → UInt32) (e p : Nat) : ZQ := fun v w' sg' => v = none ∧ sg = sg' ∧ seQ w0 w' x nr T A DC RG L V ∧ stdE w' A T L V e p
theorem rsa_2 (E : ZE) (sg : ZM) (d x nr : Nat) (T : List PEl) (A : Nat → Nat) (DC : Nat → PDecl → Prop) (RG : Nat → Nat → Prop) (L : Nat → Nat → PLd) (V : Nat → Nat → UInt32) (hV : isV T L V) (w0 w : ZW) (e p : Nat) (he : e < T.length) (hp : p < 6) (hs : seQ w0 w x nr T A DC RG L V) (x4 x5 x6 : Option Value) (how : Nat) (v : UInt32) (h1 : how = (calV T L V e p).1) (h2 : v = (calV T L V e p).2) : RW E MX4_settleAt 185 [some (.ref (x + 7)), some (.ref (A e)), some (.int (nI p)), some (.ref (A e + 1)), x4, x5, x6, some (.float v), some (.int (nI how))] [] w sg d 0 0 (PN E (saQ w0 sg x nr T A DC RG L V e p)) := by
  have hst := hs.2.1.1.1.2.2.2.2.1 e he
  obtain ⟨⟨s1, s2, s3, s4, s5, s6, s7, s8⟩, ⟨t1, t2, t3, t4, t5, t6, t7⟩, m1, m2, m3, m4, m5, m6, m7⟩ := hst
  refine r_aload_n dX4_settleAt_185 rfl (by first | exact zRv_ref _ | exact zRv_null | exact zRv_rf _ | assumption) rfl ?_
  refine r_gets 7 4 804 lfX4_43 (by first | (simp only [zKS]; first | assumption) | assumption | exact zk_nself _ _ _ | (simp [zKS, zNS, *]; done)) rfl rfl (by first | (simp only [zGS, Nat.reduceEqDiff, OfNat.ofNat_ne_ofNat, false_and, and_false, true_and, and_true, and_self, if_true, if_false, ite_true, ite_false, reduceIte, reduceCtorEq]; first | done | assumption) | assumption | exact z2_eq | (simp [zGS]; first | done | assumption)) dX4_settleAt_186 rfl ?_
  refine r_iload_n dX4_settleAt_189 rfl rfl ?_
  refine r_iload dX4_settleAt_190 rfl rfl ?_
  refine r_iast p t5 rfl (by show p < zln w (A e + 1 + 5); omega) (by omega) dX4_settleAt_192 rfl ?_
  refine r_aload_n dX4_settleAt_193 rfl (by first | exact zRv_ref _ | exact zRv_null | exact zRv_rf _ | assumption) rfl ?_
  refine r_gets 7 3 803 lfX4_53 (by first | (simp only [zKS]; first | assumption) | assumption | exact zk_nself _ _ _ | (simp [zKS, zNS, *]; done)) rfl rfl (by first | (simp only [zGS, Nat.reduceEqDiff, OfNat.ofNat_ne_ofNat, false_and, and_false, true_and, and_true, and_self, if_true, if_false, ite_true, ite_false, reduceIte, reduceCtorEq]; first | done | assumption) | assumption | exact z2_eq | (simp [zGS]; first | done | assumption)) dX4_settleAt_194 rfl ?_
  refine r_iload_n dX4_settleAt_197 rfl rfl ?_
  refine r_fload dX4_settleAt_198 rfl rfl ?_
  refine r_fast p t4 rfl (by show p < zln w (A e + 1 + 4); omega) (by omega) dX4_settleAt_200 rfl ?_
  refine r_vret rfl dX4_settleAt_201 ?_
  have q := setW_q (how := how) (v := v) hs he hp h1 (h2.trans (hV.1 e he p hp).symm)
  exact ⟨rfl, rfl, q.1, q.2⟩
