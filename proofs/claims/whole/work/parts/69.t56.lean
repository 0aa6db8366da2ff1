/-! ===== constructors ===== -/
theorem sp_X5_init (E : ZE) (w : ZW) (sg : ZM) (d : Nat) (hd : 1 ≤ d) (b s q : Nat) (hk : zk w b = 6) : CallQ E MX5_init [.ref b, .ref s, .ref q] w sg d 0 0 (fun v w' sg' => v = none ∧ w' = zsr (zsr w 600 b (some s)) 601 b (some q) ∧ sg = sg') := by
  refine CallQ.of rfl (by simp [Value.category]) (Nat.le_of_ble_eq_true rfl) ?_
  refine r_aload_n dX5_init_0 rfl (zRv_ref _) rfl ?_
  refine r_objI tw_727 tw_118 tw_119 (by omega) (by first | exact Nat.le_of_ble_eq_true rfl | (simp [zcat_rf, Value.category]; done)) dX5_init_1 rfl ?_
  refine r_aload_n dX5_init_4 rfl (zRv_ref _) rfl ?_
  refine r_aload_n dX5_init_5 rfl (by first | exact zRv_ref _ | exact zRv_null | exact zRv_rf _ | assumption) rfl ?_
  refine r_puts 5 0 600 lfX5_9 (by first | (simp only [zKS]; first | assumption) | assumption | exact zk_nself _ _ _ | (simp [zKS, zNS, *]; done)) rfl rfl rfl (Or.inr ⟨rfl, rfl⟩) dX5_init_6 rfl ?_
  refine r_aload_n dX5_init_9 rfl (zRv_ref _) rfl ?_
  refine r_aload_n dX5_init_10 rfl (by first | exact zRv_ref _ | exact zRv_null | exact zRv_rf _ | assumption) rfl ?_
  refine r_puts 5 1 601 lfX5_15 (by first | (simp only [zKS]; first | assumption) | assumption | exact zk_nself _ _ _ | (simp [zKS, zNS, *]; done)) rfl rfl rfl (Or.inr ⟨rfl, rfl⟩) dX5_init_11 rfl ?_
  refine r_vret rfl dX5_init_14 ?_
  exact ⟨rfl, rfl, rfl⟩
/-- a new row behind the last cell, set into a field of s: what of it is needed -/
def nxR (w w' : ZW) (s k n f : Nat) : Prop := zsz w' = zsz w + 1 ∧ (∀ b, b ≠ s → b ≠ zsz w → zeq w w' b) ∧ zk w' s = zk w s ∧ zk w' (zsz w) = k ∧ zln w' (zsz w) = n ∧ zr w' f s = some (zsz w) ∧ (∀ g, g ≠ f → zr w' g s = zr w g s) ∧ (∀ g, zi w' g s = zi w g s) ∧ (∀ i, zq w' (zsz w) i = none) ∧ (∀ i, za w' (zsz w) i = 0) ∧ (∀ i, zg w' (zsz w) i = 0)
theorem nxR_of {w : ZW} {s k n f : Nat} (h : s < zsz w) : nxR w (zsr (znew w k n) f s (some (zsz w))) s k n f := by
  have h1 : s ≠ zsz w := by omega
  refine ⟨rfl, fun b h2 h3 => (zeq.nw h3).tr (zeq.sr h2), ?_, ?_, ?_, z2_eq, fun g hg => ?_, fun g => ?_, fun i => ?_, fun i => ?_, fun i => ?_⟩
  · show zk (znew w k n) s = _; rw [zk_znew, if_neg h1]
  · show zk (znew w k n) (zsz w) = _; rw [zk_znew, if_pos rfl]
  · show zln (znew w k n) (zsz w) = _; rw [zln_znew, if_pos rfl]
  · rw [zr_zsr, if_neg (fun q => hg q.1), zr_znew, if_neg h1]
  · show zi (znew w k n) g s = _; rw [zi_znew, if_neg h1]
  · show zq (znew w k n) (zsz w) i = _; rw [zq_znew, if_pos rfl]
  · show za (znew w k n) (zsz w) i = _; rw [za_znew, if_pos rfl]
  · show zg (znew w k n) (zsz w) i = _; rw [zg_znew, if_pos rfl]
