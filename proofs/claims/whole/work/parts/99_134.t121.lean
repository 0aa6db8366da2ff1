/-! ===== the model: readSum ===== -/
theorem hd_cons {r : List Nat} {c : Nat} (hc : 1 ≤ c) (h : hdN r = c) : ∃ r1, r = c :: r1 := by
  cases r with
  | nil => have h9 : 0 = c := h; omega
  | cons x r => exact ⟨r, by rw [show x = c from h]⟩
def FacS (E : ZE) (mo : Nat) (w : ZW) (d f : Nat) (sg0 : ZM) (N : Nat) (P : ZPhi) (k : Nat) : Prop := ∀ (dp j : Nat) (W0 r : List Nat) (sg : ZM) (out : List PStep) (x5 : Option Value), dp + k = 7 → j ≤ dp → r.length ≤ 120 → lowB 3 W0 → ssI sg0 sg N f out (List.replicate j 8 ++ W0) r → (stB (pFac k r) → sBad E mo w d f sg0 N P) → (∀ (sg' : ZM) (s : Option Value) (l : List PStep) (r' : List Nat), pFac k r = some (l, r') → ssI sg0 sg' N f (out ++ l.map cvS ++ (List.replicate j 8).map z0S) W0 r' → RW E MX10_readSum 9 [some (.ref mo), some (.int (nI W0.length)), some (.int (nI (dp - j))), some (.int (zb false)), some (.int (zb true)), s] [] w sg' d 0 0 P) → RW E MX10_readSum 9 [some (.ref mo), some (.int (nI (List.replicate j 8 ++ W0).length)), some (.int (nI dp)), some (.int (zb true)), some (.int (zb true)), x5] [] w sg d 0 0 P
theorem sm_pl (E : ZE) (mo : Nat) (hm : E.2.2.2.2 = some mo) (w : ZW) (sg0 : ZM) (d f N k dp : Nat) (hd : 4 ≤ d) (P : ZPhi) (hF : FacS E mo w d f sg0 N P k) (hdp : dp + k = 7) (C : List Nat) (hC : lowB 2 C) (pre : List PStep) : ∀ (n : Nat) (acc : List PStep) (Pp r : List Nat) (sg : ZM) (out : List PStep) (x5 : Option Value), n ≤ 120 → r.length ≤ n → (∀ x ∈ Pp, strN x = 2) → ssI sg0 sg N f out (Pp ++ C) r → out ++ Pp.map z0S = pre ++ acc.map cvS → (stB (pProdL (pFac k) n acc r) → sBad E mo w d f sg0 N P) → (∀ (sg' : ZM) (s : Option Value) (out' : List PStep) (Pp' : List Nat) (acc' : List PStep) (r' : List Nat), pProdL (pFac k) n acc r = some (acc', r') → hdN r' ≠ 42 → hdN r' ≠ 47 → (∀ x ∈ Pp', strN x = 2) → ssI sg0 sg' N f out' (Pp' ++ C) r' → out' ++ Pp'.map z0S = pre ++ acc'.map cvS → RW E MX10_readSum 9 [some (.ref mo), some (.int (nI (Pp' ++ C).length)), some (.int (nI dp)), some (.int (zb false)), some (.int (zb true)), s] [] w sg' d 0 0 P) → RW E MX10_readSum 9 [some (.ref mo), some (.int (nI (Pp ++ C).length)), some (.int (nI dp)), some (.int (zb false)), some (.int (zb true)), x5] [] w sg d 0 0 P := by
  intro n
  induction n with
  | zero =>
    intro acc Pp r sg out x5 hn hr hP h hrel Kb K
    have hr0 : r = [] := List.length_eq_zero_iff.mp (by omega)
    subst hr0
    exact K sg x5 out Pp acc [] rfl (by decide) (by decide) hP h hrel
  | succ n ih =>
    intro acc Pp r sg out x5 hn hr hP h hrel Kb K
    by_cases hq : hdN r = 42 ∨ hdN r = 47
    · obtain ⟨c, x, y, hcy, hcx, hrc⟩ : ∃ c x y, ((c = 42 ∧ y = 7) ∨ (c = 47 ∧ y = 8)) ∧ ((c = 42 ∧ x = 11 ∧ 2 = 2) ∨ (c = 47 ∧ x = 12 ∧ 2 = 2)) ∧ hdN r = c := by
        rcases hq with q | q
        · exact ⟨42, 11, 7, Or.inl ⟨rfl, rfl⟩, Or.inl ⟨rfl, rfl, rfl⟩, q⟩
        · exact ⟨47, 12, 8, Or.inr ⟨rfl, rfl⟩, Or.inr ⟨rfl, rfl, rfl⟩, q⟩
      obtain ⟨r1, rfl⟩ := hd_cons (by omega) hrc
      have hlen : (c :: r1).length = r1.length + 1 := List.length_cons
      obtain ⟨e1, e2⟩ := pr_app (s := 2) hC (Pd := Pp) (fun z hz => Nat.le_of_eq (hP z hz).symm)
      have hxs : strN x = 2 ∧ cvS (y, 0) = z0S x := by rcases hcy with ⟨rfl, rfl⟩ | ⟨rfl, rfl⟩ <;> rcases hcx with ⟨q, rfl, -⟩ | ⟨q, rfl, -⟩ <;> first | exact absurd q (by decide) | exact ⟨by decide, rfl⟩
      refine sm_op E mo hm w sg0 sg d f N c x 2 (by omega) _ _ r1 out x5 P (by rcases hcx with q | q <;> simp [q]) h (fun sg1 s1 h1 => ?_)
      rw [e1, e2] at h1
      rw [e2]
      refine hF dp 0 (x :: C) r1 sg1 _ _ hdp (Nat.zero_le _) (by omega) (show strN x < 3 by rw [hxs.1]; decide) h1 (fun q => Kb (st_pl hcy q)) (fun sg2 s2 l r2 hl h2 => ?_)
      have hth := pFac_thin k r1 l r2 hl
      have hgo : pProdL (pFac k) (n + 1) acc (c :: r1) = pProdL (pFac k) n (acc ++ l ++ [(y, 0)]) r2 := by rw [pl_go hcy, hl]
      rw [hgo] at Kb K
      have h2' : ssI sg0 sg2 N f (out ++ Pp.map z0S ++ l.map cvS) ([x] ++ C) r2 := by
        have h3 : ssI sg0 sg2 N f (out ++ Pp.map z0S ++ l.map cvS ++ []) (x :: C) r2 := h2
        rw [List.append_nil] at h3
        exact h3
      refine ih (acc ++ l ++ [(y, 0)]) [x] r2 sg2 _ s2 (by omega) (by omega) (fun z hz => by rw [List.mem_singleton.mp hz]; exact hxs.1) h2' ?_ Kb K
      rw [hrel, List.map_append, List.map_append, List.append_assoc, List.append_assoc, List.append_assoc]
      show pre ++ (acc.map cvS ++ (l.map cvS ++ [z0S x])) = pre ++ (acc.map cvS ++ (l.map cvS ++ [cvS (y, 0)]))
      rw [hxs.2]
    · have n1 : hdN r ≠ 42 := fun e => hq (Or.inl e)
      have n2 : hdN r ≠ 47 := fun e => hq (Or.inr e)
      exact K sg x5 out Pp acc r (pl_stop n1 n2) n1 n2 hP h hrel
theorem sm_prod (E : ZE) (mo : Nat) (hm : E.2.2.2.2 = some mo) (w : ZW) (sg0 : ZM) (d f N k dp : Nat) (hd : 4 ≤ d) (P : ZPhi) (hF : FacS E mo w d f sg0 N P k) (hdp : dp + k = 7) (C : List Nat) (hC : lowB 2 C) (r : List Nat) (hr : r.length ≤ 120) (sg : ZM) (out : List PStep) (x5 : Option Value) (h : ssI sg0 sg N f out C r) (Kb : stB (pProd (pFac k) r) → sBad E mo w d f sg0 N P) (K : ∀ (sg' : ZM) (s : Option Value) (out' : List PStep) (Pp' : List Nat) (acc' : List PStep) (r' : List Nat), pProd (pFac k) r = some (acc', r') → hdN r' ≠ 42 → hdN r' ≠ 47 → (∀ x ∈ Pp', strN x = 2) → ssI sg0 sg' N f out' (Pp' ++ C) r' → out' ++ Pp'.map z0S = out ++ acc'.map cvS → RW E MX10_readSum 9 [some (.ref mo), some (.int (nI (Pp' ++ C).length)), some (.int (nI dp)), some (.int (zb false)), some (.int (zb true)), s] [] w sg' d 0 0 P) : RW E MX10_readSum 9 [some (.ref mo), some (.int (nI C.length)), some (.int (nI dp)), some (.int (zb true)), some (.int (zb true)), x5] [] w sg d 0 0 P := by
  refine hF dp 0 C r sg out x5 hdp (Nat.zero_le _) hr (hC.mono (by decide)) h (fun q => Kb (st_pr q)) (fun sg1 s1 l r1 hl h1 => ?_)
  have hth := pFac_thin k r l r1 hl
  have hgo : pProd (pFac k) r = pProdL (pFac k) 120 l r1 := by unfold pProd; rw [hl]
  rw [hgo] at Kb K
  have h1' : ssI sg0 sg1 N f (out ++ l.map cvS) ([] ++ C) r1 := by
    have h3 : ssI sg0 sg1 N f (out ++ l.map cvS ++ []) C r1 := h1
    rw [List.append_nil] at h3
    exact h3
  exact sm_pl E mo hm w sg0 d f N k dp hd P hF hdp C hC out 120 l [] r1 sg1 _ s1 (Nat.le_refl _) (by omega) (fun z hz => by cases hz) h1' (List.append_nil _) Kb K
theorem sm_sl (E : ZE) (mo : Nat) (hm : E.2.2.2.2 = some mo) (w : ZW) (sg0 : ZM) (d f N k dp : Nat) (hd : 4 ≤ d) (P : ZPhi) (hF : FacS E mo w d f sg0 N P k) (hdp : dp + k = 7) (B : List Nat) (hB : lowB 1 B) (pre : List PStep) : ∀ (n : Nat) (acc : List PStep) (Pd r : List Nat) (sg : ZM) (out : List PStep) (x5 : Option Value), n ≤ 120 → r.length ≤ n → (∀ x ∈ Pd, 1 ≤ strN x) → hdN r ≠ 42 → hdN r ≠ 47 → ssI sg0 sg N f out (Pd ++ B) r → out ++ Pd.map z0S = pre ++ acc.map cvS → (stB (pSumL (pFac k) n acc r) → sBad E mo w d f sg0 N P) → (∀ (sg' : ZM) (s : Option Value) (out' : List PStep) (Pd' : List Nat) (acc' : List PStep) (r' : List Nat), pSumL (pFac k) n acc r = some (acc', r') → hdN r' ≠ 42 → hdN r' ≠ 47 → hdN r' ≠ 43 → hdN r' ≠ 45 → (∀ x ∈ Pd', 1 ≤ strN x) → ssI sg0 sg' N f out' (Pd' ++ B) r' → out' ++ Pd'.map z0S = pre ++ acc'.map cvS → RW E MX10_readSum 9 [some (.ref mo), some (.int (nI (Pd' ++ B).length)), some (.int (nI dp)), some (.int (zb false)), some (.int (zb true)), s] [] w sg' d 0 0 P) → RW E MX10_readSum 9 [some (.ref mo), some (.int (nI (Pd ++ B).length)), some (.int (nI dp)), some (.int (zb false)), some (.int (zb true)), x5] [] w sg d 0 0 P := by
  intro n
  induction n with
  | zero =>
    intro acc Pd r sg out x5 hn hr hP m1 m2 h hrel Kb K
    have hr0 : r = [] := List.length_eq_zero_iff.mp (by omega)
    subst hr0
    exact K sg x5 out Pd acc [] rfl m1 m2 (by decide) (by decide) hP h hrel
  | succ n ih =>
    intro acc Pd r sg out x5 hn hr hP m1 m2 h hrel Kb K
    by_cases hq : hdN r = 43 ∨ hdN r = 45
    · obtain ⟨c, x, y, hcy, hcx, hrc⟩ : ∃ c x y, ((c = 43 ∧ y = 5) ∨ (c = 45 ∧ y = 6)) ∧ ((c = 43 ∧ x = 9 ∧ 1 = 1) ∨ (c = 45 ∧ x = 10 ∧ 1 = 1)) ∧ hdN r = c := by
        rcases hq with q | q
        · exact ⟨43, 9, 5, Or.inl ⟨rfl, rfl⟩, Or.inl ⟨rfl, rfl, rfl⟩, q⟩
        · exact ⟨45, 10, 6, Or.inr ⟨rfl, rfl⟩, Or.inr ⟨rfl, rfl, rfl⟩, q⟩
      obtain ⟨r1, rfl⟩ := hd_cons (by omega) hrc
      have hlen : (c :: r1).length = r1.length + 1 := List.length_cons
      obtain ⟨e1, e2⟩ := pr_app (s := 1) hB (Pd := Pd) hP
      have hxs : strN x = 1 ∧ cvS (y, 0) = z0S x := by rcases hcy with ⟨rfl, rfl⟩ | ⟨rfl, rfl⟩ <;> rcases hcx with ⟨q, rfl, -⟩ | ⟨q, rfl, -⟩ <;> first | exact absurd q (by decide) | exact ⟨by decide, rfl⟩
      refine sm_op E mo hm w sg0 sg d f N c x 1 (by omega) _ _ r1 out x5 P (by rcases hcx with q | q <;> simp [q]) h (fun sg1 s1 h1 => ?_)
      rw [e1, e2] at h1
      rw [e2]
      refine sm_prod E mo hm w sg0 d f N k dp hd P hF hdp (x :: B) (show strN x < 2 by rw [hxs.1]; decide) r1 (by omega) sg1 _ _ h1 (fun q => Kb (st_sl hcy q)) (fun sg2 s2 out2 Pp2 l r2 hl z1 z2 hP2 h2 hrel2 => ?_)
      have hth := pProd_thin (pFac_thin k) r1 l r2 hl
      have hgo : pSumL (pFac k) (n + 1) acc (c :: r1) = pSumL (pFac k) n (acc ++ l ++ [(y, 0)]) r2 := by rw [sl_go hcy, hl]
      rw [hgo] at Kb K
      have eP : Pp2 ++ x :: B = (Pp2 ++ [x]) ++ B := by rw [List.append_assoc]; rfl
      rw [eP] at h2 ⊢
      refine ih (acc ++ l ++ [(y, 0)]) (Pp2 ++ [x]) r2 sg2 out2 s2 (by omega) (by omega) (fun z hz => ?_) z1 z2 h2 ?_ Kb K
      · rcases List.mem_append.mp hz with q | q
        · rw [hP2 z q]; decide
        · rw [List.mem_singleton.mp q, hxs.1]; decide
      · rw [List.map_append, ← List.append_assoc, hrel2, hrel, List.map_append, List.map_append, List.append_assoc, List.append_assoc, List.append_assoc]
        show pre ++ (acc.map cvS ++ (l.map cvS ++ [z0S x])) = pre ++ (acc.map cvS ++ (l.map cvS ++ [cvS (y, 0)]))
        rw [hxs.2]
    · have n1 : hdN r ≠ 43 := fun e => hq (Or.inl e)
      have n2 : hdN r ≠ 45 := fun e => hq (Or.inr e)
      exact K sg x5 out Pd acc r (sl_stop n1 n2) m1 m2 n1 n2 hP h hrel
theorem sm_sum (E : ZE) (mo : Nat) (hm : E.2.2.2.2 = some mo) (w : ZW) (sg0 : ZM) (d f N k dp : Nat) (hd : 4 ≤ d) (P : ZPhi) (hF : FacS E mo w d f sg0 N P k) (hdp : dp + k = 7) (B : List Nat) (hB : lowB 1 B) (r : List Nat) (hr : r.length ≤ 120) (sg : ZM) (out : List PStep) (x5 : Option Value) (h : ssI sg0 sg N f out B r) (Kb : stB (pSum (pFac k) r) → sBad E mo w d f sg0 N P) (K : ∀ (sg' : ZM) (s : Option Value) (out' : List PStep) (Pd' : List Nat) (acc' : List PStep) (r' : List Nat), pSum (pFac k) r = some (acc', r') → hdN r' ≠ 42 → hdN r' ≠ 47 → hdN r' ≠ 43 → hdN r' ≠ 45 → (∀ x ∈ Pd', 1 ≤ strN x) → ssI sg0 sg' N f out' (Pd' ++ B) r' → out' ++ Pd'.map z0S = out ++ acc'.map cvS → RW E MX10_readSum 9 [some (.ref mo), some (.int (nI (Pd' ++ B).length)), some (.int (nI dp)), some (.int (zb false)), some (.int (zb true)), s] [] w sg' d 0 0 P) : RW E MX10_readSum 9 [some (.ref mo), some (.int (nI B.length)), some (.int (nI dp)), some (.int (zb true)), some (.int (zb true)), x5] [] w sg d 0 0 P := by
  refine sm_prod E mo hm w sg0 d f N k dp hd P hF hdp B (hB.mono (by decide)) r hr sg out x5 h (fun q => Kb (st_sm q)) (fun sg1 s1 out1 Pp1 l r1 hl z1 z2 hP1 h1 hrel1 => ?_)
  have hth := pProd_thin (pFac_thin k) r l r1 hl
  have hgo : pSum (pFac k) r = pSumL (pFac k) 120 l r1 := by unfold pSum; rw [hl]
  rw [hgo] at Kb K
  exact sm_sl E mo hm w sg0 d f N k dp hd P hF hdp B hB out 120 l Pp1 r1 sg1 out1 s1 (Nat.le_refl _) (by omega) (fun z hz => by rw [hP1 z hz]; decide) z1 z2 h1 hrel1 Kb K
theorem sm_fac (E : ZE) (mo : Nat) (hm : E.2.2.2.2 = some mo) (w : ZW) (sg0 : ZM) (d f N : Nat) (hd : 4 ≤ d) (P : ZPhi) : ∀ k, 1 ≤ k → FacS E mo w d f sg0 N P k
  | 0, h => absurd h (by decide)
  | k + 1, _ => by
    intro dp j W0 r sg out x5 hdp hj hr hW h Kb K
    obtain ⟨e1, e2⟩ := ng_p hW j
    have e3 := ng_n hW j
    by_cases c45 : hdN r = 45
    · obtain ⟨r1, rfl⟩ := hd_cons (by decide) c45
      have hlen : (45 :: r1).length = r1.length + 1 := List.length_cons
      refine sm_open E mo hm w sg0 sg d f N 45 8 dp (by omega) _ r1 out x5 P (by omega) (Or.inl ⟨rfl, rfl⟩) h (fun q => Kb ?_) (fun q sg1 s1 h1 => ?_)
      · have hk0 : k = 0 := by omega
        subst hk0
        rw [pf_neg]
        exact Or.inl rfl
      · refine sm_fac E mo hm w sg0 d f N hd P k (by omega) (dp + 1) (j + 1) W0 r1 sg1 out _ (by omega) (by omega) (by omega) hW h1 (fun q => Kb (st_neg q)) (fun sg2 s2 l r2 hl h2 => ?_)
        rw [Nat.add_sub_add_right]
        refine K sg2 s2 (l ++ [(4, 0)]) r2 (by rw [pf_neg, hl]) ?_
        have e : out ++ (l ++ [(4, 0)]).map cvS ++ (List.replicate j 8).map z0S = out ++ l.map cvS ++ (List.replicate (j + 1) 8).map z0S := by
          rw [List.map_append, List.append_assoc, List.append_assoc, List.append_assoc]
          rfl
        rw [e]
        exact h2
    · by_cases c40 : hdN r = 40
      · obtain ⟨r1, rfl⟩ := hd_cons (by decide) c40
        have hlen : (40 :: r1).length = r1.length + 1 := List.length_cons
        refine sm_open E mo hm w sg0 sg d f N 40 20 dp (by omega) _ r1 out x5 P (by omega) (Or.inr ⟨rfl, rfl⟩) h (fun q => Kb ?_) (fun q sg1 s1 h1 => ?_)
        · have hk0 : k = 0 := by omega
          subst hk0
          rw [pf_par]
          exact Or.inl rfl
        · refine sm_sum E mo hm w sg0 d f N k (dp + 1) hd P (sm_fac E mo hm w sg0 d f N hd P k (by omega)) (by omega) (20 :: (List.replicate j 8 ++ W0)) (show strN 20 < 1 by decide) r1 (by omega) sg1 out _ h1 (fun q => Kb (st_par q)) (fun sg2 s2 out2 Pd2 l r2 hl m1 m2 m3 m4 hP2 h2 hrel => ?_)
          cases h41 : pCh 41 r2 with
          | none =>
            have n5 : hdN r2 ≠ 41 := fun e => by
              obtain ⟨r3, rfl⟩ := hd_cons (by decide) e
              rw [ch_eq] at h41
              cases h41
            refine sm_stop E mo hm w sg2 d f (by omega) _ r2 _ _ P h2.2.1 (by have := h2.2.2.2; omega) h2.2.2.1 m3 m4 m1 m2 (Or.inl n5) (fun s => ?_)
            refine Kb (Or.inl ?_) sg2 _ (some r2) out2 _ _ _ _ h2.1 h2.2.1 (by have := h2.2.2.2; omega) (cuO.z h2.2.2.1) (Or.inr (by simp))
            rw [pf_par, hl]
            simp only []
            rw [h41]
          | some r3 =>
            have e41 := pCh_eq h41
            subst e41
            refine sm_close E mo hm w sg0 sg2 d f N (dp + 1) (by omega) _ Pd2 (List.replicate j 8 ++ W0) r3 out2 _ P rfl hP2 h2 (by omega) (fun sg3 s3 h3 => ?_)
            rw [e1, e2] at h3
            rw [e2, e3, show dp + 1 - (1 + j) = dp - j by omega]
            refine K sg3 _ l r3 (by rw [pf_par, hl]; simp only []; rw [ch_eq]) ?_
            rw [hrel] at h3
            exact h3
      · refine sm_atom E mo hm w sg0 sg d f N dp hd _ r out x5 P h c45 c40 (by omega) (fun q => Kb (by rw [pf_atm c45 c40]; exact q)) (fun sg1 s1 l r1 hl h1 => ?_)
        rw [e1, e2] at h1
        rw [e2, e3]
        exact K sg1 _ l r1 (by rw [pf_atm c45 c40]; exact hl) h1
def rsQ (sg : ZM) (f N : Nat) (r : List Nat) (w : ZW) : ZQ := fun v w' sg' => v = none ∧ w = w' ∧ ∃ out o, smG sg sg' N out ∧ cuO sg' f 650 o ∧ ((o = none ∧ stB (pSum (pFac 7) r)) ∨ ∃ l r', o = some r' ∧ pSum (pFac 7) r = some (l, r') ∧ out = l.map cvS ∧ out.length + r'.length ≤ r.length)
theorem sm_285b (E : ZE) (mo : Nat) (hm : E.2.2.2.2 = some mo) (w : ZW) (sg : ZM) (d f : Nat) (hd : 2 ≤ d) (W : List Nat) (o : Option (List Nat)) (x2 x3 x4 : Value) (x5 : Option Value) (Q : ZQ) (h2 : wtG sg W) (hW : W.length ≤ 130) (h : cuO sg f 700 o) (hb : o = none ∨ 20 ∈ W) (K : ∀ sg', mvC sg sg' → cuO sg' f 700 none → Q none w sg') : RW E MX10_readSum 285 [some (.ref mo), some (.int (nI W.length)), some x2, some x3, some x4, x5] [] w sg d 0 0 (PN E Q) := by
  have hio := q_isOpen E mo hm w sg (d - 1) W hW h2
  by_cases hq : 20 ∈ W
  · rw [decide_eq_true hq] at hio
    refine r_aload_n dX10_readSum_285 rfl (zRv_ref _) rfl ?_
    refine r_aload_n dX10_readSum_286 rfl (zRv_ref _) rfl ?_
    refine r_iload_n dX10_readSum_287 rfl rfl ?_
    refine r_callV MX10_isOpen 1 [_] lvX10_252 (Or.inr (Or.inl ⟨hm, rfl⟩)) (hio) rfl rfl (by first | exact Nat.le_of_ble_eq_true rfl | (simp [zcat_rf, Value.category]; done)) (by omega) (Nat.le_of_eq (Nat.zero_add _)) (Nat.le_of_eq (Nat.zero_add _)) dX10_readSum_288 rfl (fun v_ w_ sg_ hq_ => ?_)
    obtain ⟨rfl, rfl, rfl⟩ := hq_
    refine r_if_neB (r := 298) dX10_readSum_291 (by decide) rfl (fun c_291 => ?_) (fun c_291 => ?_)
    · refine r_iconst dX10_readSum_298 kc_0 rfl ?_
      refine r_callV MX10_must 1 [_] lvX10_180 (Or.inr (Or.inl ⟨hm, rfl⟩)) (o_must E mo hm w sg (d - 1) f 700 (by decide) false o h) rfl rfl (by first | exact Nat.le_of_ble_eq_true rfl | (simp [zcat_rf, Value.category]; done)) (by omega) (Nat.le_of_eq (Nat.zero_add _)) (Nat.le_of_eq (Nat.zero_add _)) dX10_readSum_299 rfl (fun v_ w_ sg_ hq_ => ?_)
      obtain ⟨rfl, rfl, v1, c1⟩ := hq_
      obtain ⟨sg1, hsg1⟩ : ∃ y, y = sg_ := ⟨_, rfl⟩
      subst hsg1
      have c1' : cuO sg1 f 700 none := by cases o <;> exact c1
      have g1 : mi sg1 15 = zb false := c1'.g
      refine r_aload_n dX10_readSum_302 rfl (zRv_ref _) rfl ?_
      refine m_getiv hm 15 lfX10_153 rfl (by first | (simp only [zGS, zMS, Nat.reduceEqDiff, OfNat.ofNat_ne_ofNat, false_and, and_false, true_and, and_true, and_self, if_true, if_false, ite_true, ite_false, reduceIte, reduceCtorEq]; first | done | assumption | rfl) | assumption | exact z2_eq | exact z1_eq | (simp [zGS, zMS]; first | done | assumption) | rfl) dX10_readSum_303 rfl ?_
      refine r_if_eqB (r := 316) dX10_readSum_306 (by decide) rfl (fun c_306 => ?_) (fun c_306 => ?_)
      · refine r_vret rfl dX10_readSum_316 ?_
        exact K sg1 v1 c1'
      · cases c_306
    · cases c_291
  · rw [decide_eq_false hq] at hio
    have ho : o = none := hb.elim id (fun q => absurd q hq)
    subst ho
    refine r_aload_n dX10_readSum_285 rfl (zRv_ref _) rfl ?_
    refine r_aload_n dX10_readSum_286 rfl (zRv_ref _) rfl ?_
    refine r_iload_n dX10_readSum_287 rfl rfl ?_
    refine r_callV MX10_isOpen 1 [_] lvX10_252 (Or.inr (Or.inl ⟨hm, rfl⟩)) (hio) rfl rfl (by first | exact Nat.le_of_ble_eq_true rfl | (simp [zcat_rf, Value.category]; done)) (by omega) (Nat.le_of_eq (Nat.zero_add _)) (Nat.le_of_eq (Nat.zero_add _)) dX10_readSum_288 rfl (fun v_ w_ sg_ hq_ => ?_)
    obtain ⟨rfl, rfl, rfl⟩ := hq_
    refine r_if_neB (r := 298) dX10_readSum_291 (by decide) rfl (fun c_291 => ?_) (fun c_291 => ?_)
    · cases c_291
    · refine r_iconst dX10_readSum_294 kc_1 rfl ?_
      refine r_goto (r := 299) dX10_readSum_295 (by decide) ?_
      refine r_callV MX10_must 1 [_] lvX10_180 (Or.inr (Or.inl ⟨hm, rfl⟩)) (o_must E mo hm w sg (d - 1) f 700 (by decide) true none h) rfl rfl (by first | exact Nat.le_of_ble_eq_true rfl | (simp [zcat_rf, Value.category]; done)) (by omega) (Nat.le_of_eq (Nat.zero_add _)) (Nat.le_of_eq (Nat.zero_add _)) dX10_readSum_299 rfl (fun v_ w_ sg_ hq_ => ?_)
      obtain ⟨rfl, rfl, v1, c1⟩ := hq_
      obtain ⟨sg1, hsg1⟩ : ∃ y, y = sg_ := ⟨_, rfl⟩
      subst hsg1
      have c1' : cuO sg1 f 700 none := c1
      have g1 : mi sg1 15 = zb false := c1'.g
      refine r_aload_n dX10_readSum_302 rfl (zRv_ref _) rfl ?_
      refine m_getiv hm 15 lfX10_153 rfl (by first | (simp only [zGS, zMS, Nat.reduceEqDiff, OfNat.ofNat_ne_ofNat, false_and, and_false, true_and, and_true, and_self, if_true, if_false, ite_true, ite_false, reduceIte, reduceCtorEq]; first | done | assumption | rfl) | assumption | exact z2_eq | exact z1_eq | (simp [zGS, zMS]; first | done | assumption) | rfl) dX10_readSum_303 rfl ?_
      refine r_if_eqB (r := 316) dX10_readSum_306 (by decide) rfl (fun c_306 => ?_) (fun c_306 => ?_)
      · refine r_vret rfl dX10_readSum_316 ?_
        exact K sg1 v1 c1'
      · cases c_306
theorem p_readSum (E : ZE) (mo : Nat) (hm : E.2.2.2.2 = some mo) (w : ZW) (sg : ZM) (d f N : Nat) (hd : 4 ≤ d) (r : List Nat) (hr : r.length ≤ 120) (hN : N + r.length ≤ 125) (h32 : mi sg 32 = nI N) (h : cuG sg f r) : CallQ E MX10_readSum [.ref mo] w sg d 0 0 (rsQ sg f N r w) := by
  have hbad : stB (pSum (pFac 7) r) → sBad E mo w d f sg N (PN E (rsQ sg f N r w)) := fun q sg' W' o' out' x2 x3 x4 x5 a1 a2 a3 a4 a5 => sm_285b E mo hm w sg' d f (by omega) W' o' x2 x3 x4 x5 _ a2 a3 a4 a5 (fun sg2 b1 b2 => ⟨rfl, rfl, out', none, a1.mv b1, b2.mono (by decide), Or.inl ⟨rfl, q⟩⟩)
  have hI : ssI sg sg N f [] [] r := ⟨smG.rf h32, trivial, h, by show N + 0 + 0 + r.length ≤ 125; omega⟩
  refine CallQ.of rfl (by simp [Value.category]) (Nat.le_of_ble_eq_true rfl) ?_
  refine r_iconst dX10_readSum_0 kc_0 rfl ?_
  refine r_istore_n (ls' := [_, _, _, _, _, _]) dX10_readSum_1 (Nat.le_of_ble_eq_true rfl) rfl rfl ?_
  refine r_iconst dX10_readSum_2 kc_0 rfl ?_
  refine r_istore_n (ls' := [_, _, _, _, _, _]) dX10_readSum_3 (Nat.le_of_ble_eq_true rfl) rfl rfl ?_
  refine r_iconst dX10_readSum_4 kc_1 rfl ?_
  refine r_istore_n (ls' := [_, _, _, _, _, _]) dX10_readSum_5 (Nat.le_of_ble_eq_true rfl) rfl rfl ?_
  refine r_iconst dX10_readSum_6 kc_1 rfl ?_
  refine r_istore (ls' := [_, _, _, _, _, _]) dX10_readSum_7 (Nat.le_of_ble_eq_true rfl) rfl rfl ?_
  refine sm_sum E mo hm w sg d f N 7 0 hd _ (sm_fac E mo hm w sg d f N hd _ 7 (by decide)) rfl [] trivial r hr sg [] _ hI hbad (fun sg2 s2 out2 Pd2 l r2 hl m1 m2 m3 m4 hP2 h2 hrel => ?_)
  obtain ⟨g1, g2, g3, g4⟩ := h2
  rw [List.append_nil] at g2 g4 ⊢
  have hno : ¬ 20 ∈ Pd2 := fun q => absurd (hP2 20 q) (by decide)
  have hrel2 : out2 ++ Pd2.map z0S = l.map cvS := hrel
  have hth := pSum_thin (pFac_thin 7) r l r2 hl
  refine sm_stop E mo hm w sg2 d f (by omega) Pd2 r2 _ _ _ g2 (by omega) g3 m3 m4 m1 m2 (Or.inr hno) (fun s => ?_)
  have hio := q_isOpen E mo hm w sg2 (d - 1) Pd2 (by omega) g2
  rw [decide_eq_false hno] at hio
  obtain ⟨e1, e2⟩ := pr_app (s := 1) (B := []) trivial hP2
  rw [List.append_nil] at e1 e2
  refine r_aload_n dX10_readSum_285 rfl (zRv_ref _) rfl ?_
  refine r_aload_n dX10_readSum_286 rfl (zRv_ref _) rfl ?_
  refine r_iload_n dX10_readSum_287 rfl rfl ?_
  refine r_callV MX10_isOpen 1 [_] lvX10_252 (Or.inr (Or.inl ⟨hm, rfl⟩)) (hio) rfl rfl (by first | exact Nat.le_of_ble_eq_true rfl | (simp [zcat_rf, Value.category]; done)) (by omega) (Nat.le_of_eq (Nat.zero_add _)) (Nat.le_of_eq (Nat.zero_add _)) dX10_readSum_288 rfl (fun v_ w_ sg_ hq_ => ?_)
  obtain ⟨rfl, rfl, rfl⟩ := hq_
  refine r_if_neB (r := 298) dX10_readSum_291 (by decide) rfl (fun c_291 => ?_) (fun c_291 => ?_)
  · cases c_291
  · refine r_iconst dX10_readSum_294 kc_1 rfl ?_
    refine r_goto (r := 299) dX10_readSum_295 (by decide) ?_
    refine r_callV MX10_must 1 [_] lvX10_180 (Or.inr (Or.inl ⟨hm, rfl⟩)) (o_must E mo hm w sg2 (d - 1) f 700 (by decide) true (some r2) (cuO.z g3)) rfl rfl (by first | exact Nat.le_of_ble_eq_true rfl | (simp [zcat_rf, Value.category]; done)) (by omega) (Nat.le_of_eq (Nat.zero_add _)) (Nat.le_of_eq (Nat.zero_add _)) dX10_readSum_299 rfl (fun v_ w_ sg_ hq_ => ?_)
    obtain ⟨rfl, rfl, v3, c3⟩ := hq_
    obtain ⟨sg3, hsg3⟩ : ∃ y, y = sg_ := ⟨_, rfl⟩
    subst hsg3
    have g5 : mi sg3 15 = zb true := (cuO.z (m := 0) (r := r2) c3).g
    have hp := q_pour E mo hm w sg3 (d - 1) 1 (N + out2.length) (by omega) (by decide) Pd2 (g2.mv v3) (g1.mv v3).2.1 (by omega)
    rw [e1] at hp
    refine r_aload_n dX10_readSum_302 rfl (zRv_ref _) rfl ?_
    refine m_getiv hm 15 lfX10_153 rfl (by first | (simp only [zGS, zMS, Nat.reduceEqDiff, OfNat.ofNat_ne_ofNat, false_and, and_false, true_and, and_true, and_self, if_true, if_false, ite_true, ite_false, reduceIte, reduceCtorEq]; first | done | assumption | rfl) | assumption | exact z2_eq | exact z1_eq | (simp [zGS, zMS]; first | done | assumption) | rfl) dX10_readSum_303 rfl ?_
    refine r_if_eqB (r := 316) dX10_readSum_306 (by decide) rfl (fun c_306 => ?_) (fun c_306 => ?_)
    · cases c_306
    · refine r_aload_n dX10_readSum_309 rfl (zRv_ref _) rfl ?_
      refine r_iload_n dX10_readSum_310 rfl rfl ?_
      refine r_iconst dX10_readSum_311 kc_1 rfl ?_
      refine r_callV MX10_pour 2 [_, _] lvX10_248 (Or.inr (Or.inl ⟨hm, rfl⟩)) (hp) rfl rfl (by first | exact Nat.le_of_ble_eq_true rfl | (simp [zcat_rf, Value.category]; done)) (by omega) (Nat.le_of_eq (Nat.zero_add _)) (Nat.le_of_eq (Nat.zero_add _)) dX10_readSum_312 rfl (fun v_ w_ sg_ hq_ => ?_)
      obtain ⟨rfl, rfl, p4⟩ := hq_
      refine r_pop dX10_readSum_315 (by first | rfl | exact zcat_rf _) rfl ?_
      refine r_vret rfl dX10_readSum_316 ?_
      refine ⟨rfl, rfl, _, some r2, (g1.mv v3).ad p4, (cuO.z (m := 650) (r := r2) c3).ds p4, Or.inr ⟨l, r2, rfl, hl, hrel2, ?_⟩⟩
      rw [hrel2, List.length_map]
      exact hth
