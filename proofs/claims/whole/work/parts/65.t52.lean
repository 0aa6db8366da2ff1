/-! ===== Reckoner.workOut: steps of its second loop ===== -/
theorem woI.s {w w' : ZW} {x nr : Nat} {T : List PEl} {A : Nat → Nat} {DC : Nat → PDecl → Prop} {RG : Nat → Nat → Prop} {L : Nat → Nat → PLd} {wanted : Nat} {em whole : UInt32} {Q : Nat → Bool} {K : PKn} {os : List (Nat × Nat)} {t : Nat} (h : woI w x nr T A DC RG L wanted em whole Q K os t) (e : rkS (x + 7) w w') : woI w' x nr T A DC RG L wanted em whole Q K os t := by
  obtain ⟨h1, h2, h3, h4, h5⟩ := h
  exact ⟨h1.s e, h2, h3, h4.fr (fun i _ => ⟨by rw [e.2.2.2.2.2.2.2.1], by rw [e.2.2.2.2.2.2.1 _ (by omega)]⟩), h5⟩
theorem woI.opn {w : ZW} {x nr : Nat} {T : List PEl} {A : Nat → Nat} {DC : Nat → PDecl → Prop} {RG : Nat → Nat → Prop} {L : Nat → Nat → PLd} {wanted : Nat} {em whole : UInt32} {Q : Nat → Bool} {K : PKn} {os : List (Nat × Nat)} {t e n : Nat} {D : PDecl} (h : woI w x nr T A DC RG L wanted em whole Q K os t) (hQ : Q e = true) (he : e < T.length) (hn : n < 4) (h4 : (K e n).1 = 4) (hD : slotD L e n = some D) (hc : ∀ r ∈ os, ∀ Dr, slotD L r.1 r.2 = some Dr → lead2 T L wanted em whole Dr r.1 D e) : woI (opnW w (x + 7) (A e + 1) os.length (6 + n) (A e)) x nr T A DC RG L wanted em whole Q (putK K e n (3, (K e n).2)) ((e, n) :: os) (t + 1) := by
  obtain ⟨h1, h2, h3, ho, h5, h6, h7, h8, h9, h10⟩ := h
  have h24 := h1.1.1.2.2.1.1.1
  obtain ⟨p1, p2⟩ := opnW_p h1 ho he hn
  have hu := unkN_put (Q := Q) (K := K) (e := e) (n := n) (v := (3, (K e n).2)) (by show (3 : Nat) ≠ 4; decide) hQ (by omega) hn h4
  have hnin : (e, n) ∉ os := fun q => by
    have := (h5 (e, n) q).2.2.1
    rw [show (K e n).1 = 4 from h4] at this
    cases this
  refine ⟨p1, okK_put h2 (by show (3 : Nat) ≤ 4; decide) (fun q => absurd (show (3 : Nat) ≤ 1 from q) (by decide)), goodK_put h3 (fun D' _ => ⟨fun q => absurd (show (3 : Nat) ≤ 1 from q) (by decide), fun q => absurd (show (3 : Nat) = 2 from q) (by decide)⟩), p2, fun q hq => ?_, fun e' n' q1 q2 q3 => ?_, List.nodup_cons.mpr ⟨hnin, h7⟩, ⟨fun r hr D1 D2 g1 g2 => ?_, h8⟩, ?_, ?_⟩
  · rcases List.mem_cons.mp hq with rfl | hq
    · exact ⟨hQ, hn, by unfold putK; rw [if_pos ⟨rfl, rfl⟩], D, hD⟩
    · obtain ⟨g1, g2, g3, g4⟩ := h5 q hq
      refine ⟨g1, g2, ?_, g4⟩
      unfold putK
      by_cases g : q.1 = e ∧ q.2 = n
      · rw [if_pos g]
      · rw [if_neg g]; exact g3
  · unfold putK at q3
    by_cases g : e' = e ∧ n' = n
    · rw [g.1, g.2]; exact List.mem_cons_self
    · rw [if_neg g] at q3
      exact List.mem_cons_of_mem _ (h6 e' n' q1 q2 q3)
  · dsimp only at g2
    rw [hD] at g2
    cases g2
    exact hc r hr D1 g1
  · rw [List.length_cons]; omega
  · rw [List.length_cons]; omega
theorem woI.cls {w : ZW} {x nr : Nat} {T : List PEl} {A : Nat → Nat} {DC : Nat → PDecl → Prop} {RG : Nat → Nat → Prop} {L : Nat → Nat → PLd} {wanted : Nat} {em whole : UInt32} {Q : Nat → Bool} {K : PKn} {os : List (Nat × Nat)} {t e n : Nat} {v : PVal} (h : woI w x nr T A DC RG L wanted em whole Q K ((e, n) :: os) t) (he : e < T.length) (hv2 : v.1 ≤ 2) (hvf : v.1 ≤ 1 → fFin v.2) (hv : ∀ D, slotD L e n = some D → (v.1 ≤ 1 → ∃ f, ev T L wanted em whole f D e = some v) ∧ (v.1 = 2 → ∀ f, ev T L wanted em whole f D e = none)) : woI (sltW w (x + 7) (A e + 1) n (nI v.1) v.2 os.length) x nr T A DC RG L wanted em whole Q (putK K e n v) os (t + 1) := by
  obtain ⟨h1, h2, h3, ho, h5, h6, h7, h8, h9, h10⟩ := h
  obtain ⟨hn1, hn2⟩ := List.nodup_cons.mp h7
  obtain ⟨a1, a2, a3, a4⟩ := h5 (e, n) List.mem_cons_self
  have hle := h1.1.1.1.1 e he
  have hu := unkN_keep (Q := Q) (K := K) (e := e) (n := n) (v := v) (by omega) (by have : (K e n).1 = 3 := a3; omega)
  have hlen : ((e, n) :: os).length = os.length + 1 := rfl
  refine ⟨sltW_p h1 he a2, okK_put h2 (by omega) hvf, goodK_put h3 hv, ho.2.2.fr (fun i hi => ⟨rfl, ?_⟩), fun q hq => ?_, fun e' n' q1 q2 q3 => ?_, hn2, h8.2, by omega, by omega⟩
  · show za (zsi (zsg (zsa w (A e + 1 + 6) n (nI v.1)) (A e + 1 + 7) n v.2) 509 (x + 7) (nI os.length)) (x + 7 + 5) i = _
    rw [za_zsi, za_zsg, za_zsa, if_neg (fun q => by omega)]
  · obtain ⟨g1, g2, g3, g4⟩ := h5 q (List.mem_cons_of_mem _ hq)
    refine ⟨g1, g2, ?_, g4⟩
    unfold putK
    rw [if_neg (fun g => hn1 (by rw [show (e, n) = q by rw [← g.1, ← g.2]]; exact hq))]
    exact g3
  · unfold putK at q3
    by_cases g : e' = e ∧ n' = n
    · rw [if_pos g] at q3; omega
    · rw [if_neg g] at q3
      rcases List.mem_cons.mp (h6 e' n' q1 q2 q3) with q | q
      · cases q; exact absurd ⟨rfl, rfl⟩ g
      · exact q
theorem pasS_fin {T : List PEl} {L : Nat → Nat → PLd} {K : PKn} (hK : okK K) {wanted : Nat} {em whole : UInt32} (hem : fFin em) (hwh : fFin whole) {pl : Nat} : ∀ (ss : List PStep) (st st' : List PVal), (∀ s ∈ ss, okSt s) → okStk st → hgt ss st.length = some 1 → pasS T L K wanted em whole pl ss st = .inr (some st') → okStk st' ∧ st'.length = 1
  | [], st, st', _, ho, hh, h => by
    cases h
    exact ⟨ho, Option.some.inj hh⟩
  | s :: ss, st, st', h13, ho, hh, h => by
    unfold pasS at h
    unfold hgt at hh
    have hs := h13 s List.mem_cons_self
    have h13' := fun x hx => h13 x (List.mem_cons_of_mem _ hx)
    by_cases g : 9 ≤ s.1
    · rw [if_pos g] at h
      rw [if_pos (Or.inr g)] at hh
      split at hh
      · split at h
        · cases h
        · split at h
          · cases h
          · split at h
            · cases h
            · rename_i e D' hf h4 x9 st2 hp
              have hk1 : (K e (s.1 - 9)).1 ≤ 1 := by
                unfold pushS at hp
                split at hp
                · rename_i g2
                  rw [Bool.and_eq_true, decide_eq_true_eq] at g2
                  exact g2.1
                · cases hp
              obtain ⟨o1, o2⟩ := pushS_ok hp ((hK e (s.1 - 9)).2 hk1).n ho
              exact pasS_fin hK hem hwh ss _ st' h13' o1 (by rw [o2]; exact hh) h
      · cases hh
    · rw [if_neg g] at h
      split at h
      · cases h
      · rename_i st2 hp
        obtain ⟨o1, o2⟩ := stepS_ok hp hs (by omega) hem hwh ho
        refine pasS_fin hK hem hwh ss _ st' h13' o1 ?_ h
        rcases o2 with ⟨q1, q2⟩ | ⟨q1, q2⟩ | ⟨q1, q2⟩
        · rw [if_pos (Or.inl q1)] at hh
          split at hh
          · rw [q2]; exact hh
          · cases hh
        · rw [if_neg (by omega), if_pos q1] at hh
          split at hh
          · rw [q2]; exact hh
          · cases hh
        · rw [if_neg (by omega), if_neg (by omega)] at hh
          split at hh
          · rw [show st2.length = st.length - 1 by omega]; exact hh
          · cases hh
