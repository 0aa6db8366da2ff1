/-! ===== a byte of a word ===== -/
def byteR (x : Int32) (i : Nat) : Int32 := (x.toUInt32 >>> ((nI 8 * nI i).toUInt32 &&& Int32.toUInt32 31)).toInt32 &&& nI 255
theorem sp_byteOf (E : ZE) (w : ZW) (sg : ZM) (d : Nat) (x : Int32) (i : Nat) (hi : i < 4) : CallQ E MX8_byteOf [.int x, .int (nI i)] w sg d 0 0 (fun v w' sg' => v = some (.int (byteR x i)) ∧ w = w' ∧ sg = sg') := by
  refine CallQ.of rfl (by simp [Value.category]) (Nat.le_of_ble_eq_true rfl) ?_
  have h4 : i = 0 ∨ i = 1 ∨ i = 2 ∨ i = 3 := by omega
  rcases h4 with rfl | rfl | rfl | rfl
  all_goals
    refine r_iload_n dX8_byteOf_0 rfl rfl ?_
    refine r_bipush dX8_byteOf_1 kb_8 rfl ?_
    refine r_iload_n dX8_byteOf_3 rfl rfl ?_
    refine r_imulN dX8_byteOf_4 rfl ?_
    refine r_iushr dX8_byteOf_5 rfl rfl ?_
    refine r_sipush dX8_byteOf_6 ks_255 rfl ?_
    refine r_iand dX8_byteOf_9 rfl ?_
    refine r_iret rfl dX8_byteOf_10 ?_
    exact ⟨by first | rfl | simp [byteR], rfl, rfl⟩
