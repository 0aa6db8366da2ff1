/-! ===== writing into the law's rows ===== -/
theorem zOut.sl {w : ZW} {o i : Nat} {v : Int64} (h : zOut w o) (a : Nat) : zOut (zsl w a i v) o := h
theorem zOut.sd {w : ZW} {o i : Nat} {v : UInt64} (h : zOut w o) (a : Nat) : zOut (zsd w a i v) o := h
theorem zeq.sl {w : ZW} {a i b : Nat} {v : Int64} (h : b ≠ a) : zeq w (zsl w a i v) b := ⟨rfl, zsl_same w a i v b h⟩
theorem zeq.sd {w : ZW} {a i b : Nat} {v : UInt64} (h : b ≠ a) : zeq w (zsd w a i v) b := ⟨rfl, zsd_same w a i v b h⟩
theorem dskI.o {w : ZW} {x : Nat} {T : List PEl} {Rs : List PRule} {B : List Nat} (h : dskI w x T Rs B) : zOut w (x + 54) := h.1.2.2.2
theorem dskI.sl {w : ZW} {x i : Nat} {v : Int64} {T : List PEl} {Rs : List PRule} {B : List Nat} (h : dskI w x T Rs B) : dskI (zsl w (x + 54) i v) x T Rs B := h.out (Nat.le_refl _) (fun b _ q => zeq.sl (by omega)) (h.o.sl _)
theorem dskI.sd {w : ZW} {x i : Nat} {v : UInt64} {T : List PEl} {Rs : List PRule} {B : List Nat} (h : dskI w x T Rs B) : dskI (zsd w (x + 55) i v) x T Rs B := h.out (Nat.le_refl _) (fun b _ q => zeq.sd (by omega)) (h.o.sd _)
