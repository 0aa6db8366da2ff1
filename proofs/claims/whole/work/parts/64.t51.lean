/-! ===== Reckoner.workOut: slots opened and closed ===== -/
theorem goodK_put {T : List PEl} {L : Nat → Nat → PLd} {wanted : Nat} {em whole : UInt32} {P : Nat → Prop} {K : PKn} {e n : Nat} {v : PVal} (h : goodK T L wanted em whole P K) (hv : ∀ D, slotD L e n = some D → (v.1 ≤ 1 → ∃ f, ev T L wanted em whole f D e = some v) ∧ (v.1 = 2 → ∀ f, ev T L wanted em whole f D e = none)) : goodK T L wanted em whole P (putK K e n v) := fun e' n' D h1 h2 h3 => by
  unfold putK
  by_cases q : e' = e ∧ n' = n
  · rw [if_pos q]
    obtain ⟨rfl, rfl⟩ := q
    exact hv D h3
  · rw [if_neg q]
    exact h e' n' D h1 h2 h3
theorem okK_put {K : PKn} {e n : Nat} {v : PVal} (h : okK K) (h1 : v.1 ≤ 4) (h2 : v.1 ≤ 1 → fFin v.2) : okK (putK K e n v) := fun e' n' => by
  unfold putK
  by_cases q : e' = e ∧ n' = n
  · rw [if_pos q]; exact ⟨h1, h2⟩
  · rw [if_neg q]; exact h e' n'
theorem layA.inj {x n : Nat} {A : Nat → Nat} {RG : Nat → Nat → Prop} (h : layA x n A RG) {i j a b : Nat} (hi : i < n) (hj : j < n) (ha : a < 9) (hb : b < 9) (e : A i + a = A j + b) : i = j ∧ a = b := by
  rcases Nat.lt_trichotomy i j with q | q | q
  · have := h.2.1 i j q hj; omega
  · subst q; exact ⟨rfl, by omega⟩
  · have := h.2.1 j i q hi; omega
/-- one slot's kind and amount written, the open slots' number set -/
def sltW (w : ZW) (k s n : Nat) (kd : Int32) (amt : UInt32) (oc : Nat) : ZW := zsi (zsg (zsa w (s + 6) n kd) (s + 7) n amt) 509 k (nI oc)
theorem sltW_e {w : ZW} {x : Nat} {A : Nat → Nat} {N e n oc : Nat} {kd : Int32} {amt : UInt32} (he : e < N) : ech (X0 x A N) w (sltW w (x + 7) (A e + 1) n kd amt oc) := by
  refine ((ech.sa (X := X0 x A N) ?_).tr (ech.sg (X := X0 x A N) ?_) (fun _ q => q)).tr (ech.si (X := X0 x A N) ?_) (fun _ q => q)
  · exact Or.inr ⟨e, he, Or.inl rfl⟩
  · exact Or.inr ⟨e, he, Or.inr rfl⟩
  · exact Or.inl ⟨by omega, by omega⟩
theorem sltW_p {w : ZW} {x nr : Nat} {T : List PEl} {A : Nat → Nat} {DC : Nat → PDecl → Prop} {RG : Nat → Nat → Prop} {L : Nat → Nat → PLd} {K : PKn} {wanted : Nat} {em whole : UInt32} {oc oc' e n : Nat} {v : PVal} (h : passE w x nr T A DC RG L K wanted em whole oc) (he : e < T.length) (hn : n < 4) : passE (sltW w (x + 7) (A e + 1) n (nI v.1) v.2 oc') x nr T A DC RG L (putK K e n v) wanted em whole oc' := by
  obtain ⟨⟨h1, h2, h3⟩, h4, h5, h6, h7, h8⟩ := h
  have hlay := h1.1
  have ex := sltW_e (w := w) (x := x) (A := A) (N := T.length) (e := e) (n := n) (oc := oc') (kd := nI v.1) (amt := v.2) he
  refine ⟨⟨h1.w ex, h2.w h1 ex, fun e' he' i hi => ?_⟩, h4, ?_, h6, h7, z2_eq⟩
  · obtain ⟨q1, q2⟩ := h3 e' he' i hi
    have hl1 := hlay.1 e' he'
    refine ⟨?_, ?_⟩
    · show za (zsi (zsg (zsa w (A e + 1 + 6) n (nI v.1)) (A e + 1 + 7) n v.2) 509 (x + 7) (nI oc')) (A e' + 7) i = _
      rw [za_zsi, za_zsg, za_zsa]
      unfold putK
      by_cases q : e' = e ∧ i = n
      · rw [if_pos q, if_pos ⟨by rw [q.1], q.2⟩]
      · rw [if_neg q, if_neg (fun g => q ⟨(hlay.inj (a := 7) (b := 7) he' he (by decide) (by decide) g.1).1, g.2⟩)]
        exact q1
    · show zg (zsi (zsg (zsa w (A e + 1 + 6) n (nI v.1)) (A e + 1 + 7) n v.2) 509 (x + 7) (nI oc')) (A e' + 8) i = _
      rw [zg_zsi, zg_zsg]
      unfold putK
      by_cases q : e' = e ∧ i = n
      · rw [if_pos q, if_pos ⟨by rw [q.1], q.2⟩]
      · rw [if_neg q, if_neg (fun g => q ⟨(hlay.inj (a := 8) (b := 8) he' he (by decide) (by decide) g.1).1, g.2⟩)]
        exact q2
  · show zi (zsi (zsg (zsa w (A e + 1 + 6) n (nI v.1)) (A e + 1 + 7) n v.2) 509 (x + 7) (nI oc')) 501 (x + 7) = _
    rw [zi_zsi, if_neg (fun q => absurd q.1 (by decide))]
    exact h5
theorem opnW_e {w : ZW} {x : Nat} {A : Nat → Nat} {N e n oc : Nat} (he : e < N) : ech (X0 x A N) w (opnW w (x + 7) (A e + 1) oc n (A e)) := by
  refine (((ech.sa (X := X0 x A N) ?_).tr (ech.sq (X := X0 x A N) ?_) (fun _ q => q)).tr (ech.sa (X := X0 x A N) ?_) (fun _ q => q)).tr (ech.si (X := X0 x A N) ?_) (fun _ q => q)
  · exact Or.inr ⟨e, he, Or.inl rfl⟩
  · exact Or.inl ⟨by omega, by omega⟩
  · exact Or.inl ⟨by omega, by omega⟩
  · exact Or.inl ⟨by omega, by omega⟩
theorem opnW_p {w : ZW} {x nr : Nat} {T : List PEl} {A : Nat → Nat} {DC : Nat → PDecl → Prop} {RG : Nat → Nat → Prop} {L : Nat → Nat → PLd} {K : PKn} {wanted : Nat} {em whole : UInt32} {e n : Nat} {os : List (Nat × Nat)} (h : passE w x nr T A DC RG L K wanted em whole os.length) (ho : osAt w (x + 7) A os) (he : e < T.length) (hn : n < 4) : passE (opnW w (x + 7) (A e + 1) os.length (6 + n) (A e)) x nr T A DC RG L (putK K e n (3, (K e n).2)) wanted em whole (os.length + 1) ∧ osAt (opnW w (x + 7) (A e + 1) os.length (6 + n) (A e)) (x + 7) A ((e, n) :: os) := by
  obtain ⟨⟨h1, h2, h3⟩, h4, h5, h6, h7, h8⟩ := h
  have hlay := h1.1
  have hle := hlay.1 e he
  have ex := opnW_e (w := w) (x := x) (A := A) (N := T.length) (e := e) (n := 6 + n) (oc := os.length) he
  refine ⟨⟨⟨h1.w ex, h2.w h1 ex, fun e' he' i hi => ?_⟩, h4, ?_, h6, h7, z2_eq⟩, ?_, ?_, ho.fr (fun i hi => ⟨?_, ?_⟩)⟩
  · obtain ⟨q1, q2⟩ := h3 e' he' i hi
    have hl1 := hlay.1 e' he'
    refine ⟨?_, ?_⟩
    · show za (zsi (zsa (zsq (zsa w (A e + 1 + 6) (6 + n - 6) (nI 3)) (x + 7 + 4) os.length (some (A e))) (x + 7 + 5) os.length (nI (6 + n))) 509 (x + 7) (nI (os.length + 1))) (A e' + 7) i = _
      rw [za_zsi, za_zsa, if_neg (fun g => by omega), za_zsq, za_zsa, show 6 + n - 6 = n by omega]
      unfold putK
      by_cases q : e' = e ∧ i = n
      · rw [if_pos q, if_pos ⟨by rw [q.1], q.2⟩]
      · rw [if_neg q, if_neg (fun g => q ⟨(hlay.inj (a := 7) (b := 7) he' he (by decide) (by decide) g.1).1, g.2⟩)]
        exact q1
    · show zg w (A e' + 8) i = _
      unfold putK
      by_cases q : e' = e ∧ i = n
      · rw [if_pos q]; rw [q.1, q.2] at q2 ⊢; exact q2
      · rw [if_neg q]; exact q2
  · show zi (zsi (zsa (zsq (zsa w (A e + 1 + 6) (6 + n - 6) (nI 3)) (x + 7 + 4) os.length (some (A e))) (x + 7 + 5) os.length (nI (6 + n))) 509 (x + 7) (nI (os.length + 1))) 501 (x + 7) = _
    rw [zi_zsi, if_neg (fun q => absurd q.1 (by decide))]
    exact h5
  · show zq (zsi (zsa (zsq (zsa w (A e + 1 + 6) (6 + n - 6) (nI 3)) (x + 7 + 4) os.length (some (A e))) (x + 7 + 5) os.length (nI (6 + n))) 509 (x + 7) (nI (os.length + 1))) (x + 7 + 4) os.length = _
    rw [zq_zsi, zq_zsa, zq_zsq, if_pos ⟨rfl, rfl⟩]
  · show za (zsi (zsa (zsq (zsa w (A e + 1 + 6) (6 + n - 6) (nI 3)) (x + 7 + 4) os.length (some (A e))) (x + 7 + 5) os.length (nI (6 + n))) 509 (x + 7) (nI (os.length + 1))) (x + 7 + 5) os.length = _
    rw [za_zsi, za_zsa, if_pos ⟨rfl, rfl⟩]
  · show zq (zsi (zsa (zsq (zsa w (A e + 1 + 6) (6 + n - 6) (nI 3)) (x + 7 + 4) os.length (some (A e))) (x + 7 + 5) os.length (nI (6 + n))) 509 (x + 7) (nI (os.length + 1))) (x + 7 + 4) i = _
    rw [zq_zsi, zq_zsa, zq_zsq, if_neg (fun q => by omega)]
    rfl
  · show za (zsi (zsa (zsq (zsa w (A e + 1 + 6) (6 + n - 6) (nI 3)) (x + 7 + 4) os.length (some (A e))) (x + 7 + 5) os.length (nI (6 + n))) 509 (x + 7) (nI (os.length + 1))) (x + 7 + 5) i = _
    rw [za_zsi, za_zsa, if_neg (fun q => by omega), za_zsq, za_zsa, if_neg (fun q => by omega)]
/-- those that are open lead to the one on top -/
def chO (T : List PEl) (L : Nat → Nat → PLd) (wanted : Nat) (em whole : UInt32) : List (Nat × Nat) → Prop
  | [] => True
  | q :: os => (∀ r ∈ os, ∀ D D', slotD L r.1 r.2 = some D → slotD L q.1 q.2 = some D' → lead2 T L wanted em whole D r.1 D' q.1) ∧ chO T L wanted em whole os
/-- what workOut's second loop keeps -/
def woI (w : ZW) (x nr : Nat) (T : List PEl) (A : Nat → Nat) (DC : Nat → PDecl → Prop) (RG : Nat → Nat → Prop) (L : Nat → Nat → PLd) (wanted : Nat) (em whole : UInt32) (Q : Nat → Bool) (K : PKn) (os : List (Nat × Nat)) (t : Nat) : Prop := passE w x nr T A DC RG L K wanted em whole os.length ∧ okK K ∧ goodK T L wanted em whole (fun e => Q e = true) K ∧ osAt w (x + 7) A os ∧ (∀ q ∈ os, Q q.1 = true ∧ q.2 < 4 ∧ (K q.1 q.2).1 = 3 ∧ ∃ D, slotD L q.1 q.2 = some D) ∧ (∀ e n, Q e = true → n < 4 → (K e n).1 = 3 → (e, n) ∈ os) ∧ os.Nodup ∧ chO T L wanted em whole os ∧ t + 2 * unkN Q K + os.length ≤ 192 ∧ unkN Q K + os.length ≤ 96
