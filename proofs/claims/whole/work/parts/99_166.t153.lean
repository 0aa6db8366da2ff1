/-! ===== from the model's object to the model's store ===== -/
def zE2 (E : ZE) (mo : Nat) : ZE := (E.1, E.2.1, E.2.2.1, E.2.2.2.1, some mo)
def zW2 (w : ZW) (mo : Nat) : ZW := (zsz w, fun a => if mo ≤ a ∧ a ≤ mo + 40 then 0 else zk w a, zln w, zi w, zr w, zf w, za w, zq w, zg w, zl w, zd w)
def zM2 (w : ZW) (mo : Nat) : ZM := (fun j => zi w (1100 + j) mo, fun k => za w (mo + k), fun k => zg w (mo + k))
theorem zmk_tab : ∀ j : Nat, j < 57 → (zmk j = 0 ∧ zty 10 j = 0) ∨ (zmk j ≠ 0 ∧ zty 10 j = 1 ∧ zmj (zmk j) = j ∧ 1 ≤ zmk j ∧ zmk j ≤ 40) := by decide +kernel
theorem zmk_out {j : Nat} (h : 57 ≤ j) : zmk j = 0 ∧ zty 10 j = 0 := by
  constructor
  · unfold zmk
    rw [List.getD_eq_getElem?_getD, List.getElem?_eq_none (by simpa using h)]
    rfl
  · show (([0, 0, 1, 1, 1, 1, 1, 1, 0, 1, 1, 1, 0, 0, 0, 0, 0, 1, 0, 1, 1, 0, 1, 1, 1, 1, 0, 0, 1, 1, 1, 1, 0, 1, 1, 1, 1, 1, 1, 1, 1, 1, 1, 1, 0, 0, 1, 1, 0, 1, 1, 1, 1, 1, 1, 1, 0] : List Nat).getD j 0) = 0
    rw [List.getD_eq_getElem?_getD, List.getElem?_eq_none (by simpa using h)]
    rfl
theorem zmt_lt : ∀ k : Nat, k < 41 → zmt k < 4 := by decide +kernel
theorem zk_W2 {w : ZW} {mo a : Nat} (h : ¬ (mo ≤ a ∧ a ≤ mo + 40)) : zk (zW2 w mo) a = zk w a := if_neg h
theorem zk_W20 {w : ZW} {mo a : Nat} (h : mo ≤ a ∧ a ≤ mo + 40) : zk (zW2 w mo) a = 0 := if_pos h
theorem zk_W2n {w : ZW} {mo a : Nat} (h : zk (zW2 w mo) a ≠ 0) : zk (zW2 w mo) a = zk w a := zk_W2 (fun q => h (zk_W20 q))
theorem ZAR.conv {E : ZE} {w0 w : ZW} {sg : ZM} {mo : Nat} {H : Heap} (hc : ctS w0 w mo 40) (h : ZAR E w sg H) : ZAR (zE2 E mo) (zW2 w mo) (zM2 w mo) H := by
  obtain ⟨h1, h2, h3, h4⟩ := h
  obtain ⟨g1, g2, g3, g4, g5⟩ := hc
  have hmo : E.2.1 ≤ mo := (h2 mo (by rw [g3]; decide)).1
  refine ⟨h1, fun a ha => ?_, fun a => ⟨fun c hc9 hk => ?_, fun t ht hk => ?_⟩, fun m hm => ?_⟩
  · rw [zk_W2n ha] at ha
    exact h2 a ha
  · rw [zk_W2n (by omega)] at hk
    exact (h3 a).1 c hc9 hk
  · rw [zk_W2n (by omega)] at hk
    exact (h3 a).2 t ht hk
  · have hm2 : mo = m := Option.some.inj hm
    subst hm2
    refine ⟨hmo, by show mo + 40 < zsz w; omega, fun a q1 q2 => zk_W20 ⟨q1, q2⟩, ?_, fun k k1 k2 => ?_⟩
    · have hob : t_OB mo (E.2.2.1.1 10) 57 (E.2.2.1.2 10) H (zV w mo 10) := (h3 mo).1 10 (by decide) g3
      have e : zMV (zM2 w mo) mo = zV w mo 10 := funext (fun j => by
        unfold zMV zV zfv
        rcases Nat.lt_or_ge j 57 with c | c
        · rcases zmk_tab j c with ⟨q1, q2⟩ | ⟨q1, q2, q3, q4, q5⟩
          · rw [if_pos q1, q2, if_pos rfl]
            rfl
          · rw [if_neg q1, q2, if_neg (by decide), if_pos rfl]
            have := (g5 (zmk j) q4 q5).2.2.1
            rw [q3] at this
            show _ = va_rf (zr w (100 * 10 + 100 + j) mo)
            rw [show 100 * 10 + 100 + j = 1100 + j by omega, this]
            rfl
        · obtain ⟨q1, q2⟩ := zmk_out c
          rw [if_pos q1, q2, if_pos rfl]
          rfl)
      rw [e]
      exact hob
    · obtain ⟨q1, q2, q3, q4, q5⟩ := g5 k k1 k2
      have ht := zmt_lt k (by show k < 40 + 1; unfold zmN at k2; omega)
      have hrw : H[mo + k]? = some (vp_cell (E.2.2.2.1 (zmt k)) (zln w (mo + k), zarr w (mo + k) (zmt k))) := (h3 (mo + k)).2 (zmt k) (by omega) (by rw [q1]; omega)
      rw [hrw, q2]
      have e : zarr w (mo + k) (zmt k) = zMrow (zM2 w mo) k := by
        unfold zarr zMrow
        rcases (by omega : zmt k = 0 ∨ zmt k = 1 ∨ zmt k = 2 ∨ zmt k = 3) with c | c | c | c <;> rw [c] <;> rfl
      rw [e]
      rfl
theorem RW.conv {E : ZE} {M : ZMeth} {pc : Nat} {ls : List (Option Value)} {st : List Value} {w0 w : ZW} {sg : ZM} {mo d nc ns : Nat} {P : ZPhi} (hc : ctS w0 w mo 40) (kk : RW (zE2 E mo) M pc ls st (zW2 w mo) (zM2 w mo) d nc ns P) : RW E M pc ls st w sg d nc ns P := fun p e R s m args below meth c H locs cells slots mc ms A h => kk p e R s m args below meth c H locs cells slots mc ms A ⟨h.1, h.2.1.conv hc, h.2.2⟩
theorem mdI_0 {w0 w : ZW} {mo : Nat} (hc : ctS w0 w mo 40) : mdI (zM2 w mo) [] [] [] := by
  obtain ⟨g1, g2, g3, g4, g5⟩ := hc
  have hA : ∀ k i, 1 ≤ k → k ≤ 40 → ma (zM2 w mo) k i = ctA k i := fun k i q1 q2 => (g5 k q1 q2).2.2.2.1 i
  have h0 : ∀ j, mi (zM2 w mo) j = 0 := fun j => g4 (1100 + j)
  refine ⟨⟨⟨Nat.zero_le _, fun e p q => (by cases q), fun e => ⟨(by decide : 0 < 128), (by decide : 0 < 128), (by decide : 0 < 256)⟩⟩, h0 1, fun e he => absurd he (Nat.not_lt_zero e)⟩, Nat.zero_le _, h0 8, fun k R q => (by cases q), ⟨hA 8 16 (by decide) (by decide), Nat.zero_le _, fun i c q => (by cases q), fun c q => (by cases q)⟩, fun i hi => ⟨0, by decide, hA 7 i (by decide) (by decide)⟩, fun i hi k hk => ?_⟩
  rcases (by omega : i = 0 ∨ i = 1) with rfl | rfl
  · exact hA 25 k (by decide) (by decide)
  · exact hA 24 k (by decide) (by decide)
