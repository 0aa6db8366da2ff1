/-! The judgement RW: a method's run from a program counter on, over a world of numbers (w: the class's cells by kind and field; sg: the model's store), told without the machine's own words. -/
abbrev ZE : Type := Launch × Nat × va_G × (Nat → ClassId) × Option Nat
/-- size, kind, length, int fields, reference fields, float fields, int rows, reference rows, float rows, long rows, double rows -/
abbrev ZW : Type := Nat × (Nat → Nat) × (Nat → Nat) × (Nat → Nat → Int32) × (Nat → Nat → Option Nat) × (Nat → Nat → UInt32) × (Nat → Nat → Int32) × (Nat → Nat → Option Nat) × (Nat → Nat → UInt32) × (Nat → Nat → Int64) × (Nat → Nat → UInt64)
/-- the model's store: int fields by slot, int rows and float rows by the row's number -/
abbrev ZM : Type := (Nat → Int32) × (Nat → Nat → Int32) × (Nat → Nat → UInt32)
abbrev ZMeth : Type := MethodName × ByteArray × Nat × Option FieldType
abbrev ZPhi : Type := List Frame → Array Value → State → Nat → Nat → State → Prop
def zsz (w : ZW) : Nat := w.1
def zk (w : ZW) : Nat → Nat := w.2.1
def zln (w : ZW) : Nat → Nat := w.2.2.1
def zi (w : ZW) : Nat → Nat → Int32 := w.2.2.2.1
def zr (w : ZW) : Nat → Nat → Option Nat := w.2.2.2.2.1
def zf (w : ZW) : Nat → Nat → UInt32 := w.2.2.2.2.2.1
def za (w : ZW) : Nat → Nat → Int32 := w.2.2.2.2.2.2.1
def zq (w : ZW) : Nat → Nat → Option Nat := w.2.2.2.2.2.2.2.1
def zg (w : ZW) : Nat → Nat → UInt32 := w.2.2.2.2.2.2.2.2.1
def zl (w : ZW) : Nat → Nat → Int64 := w.2.2.2.2.2.2.2.2.2.1
def zd (w : ZW) : Nat → Nat → UInt64 := w.2.2.2.2.2.2.2.2.2.2
/-- one place of a table of tables -/
def z2 {α : Type} (f : Nat → Nat → α) (a b : Nat) (v : α) : Nat → Nat → α := fun x y => if x = a ∧ y = b then v else f x y
/-- one place -/
def z1 {α : Type} (f : Nat → α) (a : Nat) (v : α) : Nat → α := fun x => if x = a then v else f x
/-- a column (by its second place), a row (by its first) -/
def zcol {α : Type} (f : Nat → Nat → α) (b : Nat) (v : α) : Nat → Nat → α := fun x y => if y = b then v else f x y
def zrow {α : Type} (f : Nat → Nat → α) (a : Nat) (v : α) : Nat → Nat → α := fun x y => if x = a then v else f x y
def zsi (w : ZW) (f a : Nat) (v : Int32) : ZW := (zsz w, zk w, zln w, z2 (zi w) f a v, zr w, zf w, za w, zq w, zg w, zl w, zd w)
def zsr (w : ZW) (f a : Nat) (v : Option Nat) : ZW := (zsz w, zk w, zln w, zi w, z2 (zr w) f a v, zf w, za w, zq w, zg w, zl w, zd w)
def zsf (w : ZW) (f a : Nat) (v : UInt32) : ZW := (zsz w, zk w, zln w, zi w, zr w, z2 (zf w) f a v, za w, zq w, zg w, zl w, zd w)
def zsa (w : ZW) (a i : Nat) (v : Int32) : ZW := (zsz w, zk w, zln w, zi w, zr w, zf w, z2 (za w) a i v, zq w, zg w, zl w, zd w)
def zsq (w : ZW) (a i : Nat) (v : Option Nat) : ZW := (zsz w, zk w, zln w, zi w, zr w, zf w, za w, z2 (zq w) a i v, zg w, zl w, zd w)
def zsg (w : ZW) (a i : Nat) (v : UInt32) : ZW := (zsz w, zk w, zln w, zi w, zr w, zf w, za w, zq w, z2 (zg w) a i v, zl w, zd w)
def zsl (w : ZW) (a i : Nat) (v : Int64) : ZW := (zsz w, zk w, zln w, zi w, zr w, zf w, za w, zq w, zg w, z2 (zl w) a i v, zd w)
def zsd (w : ZW) (a i : Nat) (v : UInt64) : ZW := (zsz w, zk w, zln w, zi w, zr w, zf w, za w, zq w, zg w, zl w, z2 (zd w) a i v)
/-- a new cell of kind k and length n, at the heap's end, all in it as it is made -/
def znew (w : ZW) (k n : Nat) : ZW := (zsz w + 1, z1 (zk w) (zsz w) k, z1 (zln w) (zsz w) n, zcol (zi w) (zsz w) 0, zcol (zr w) (zsz w) none, zcol (zf w) (zsz w) 0, zrow (za w) (zsz w) 0, zrow (zq w) (zsz w) none, zrow (zg w) (zsz w) 0, zrow (zl w) (zsz w) 0, zrow (zd w) (zsz w) 0)
/-- n cells more that nobody looks at -/
def zskip (w : ZW) (n : Nat) : ZW := (zsz w + n, zk w, zln w, zi w, zr w, zf w, za w, zq w, zg w, zl w, zd w)
theorem zsz_zsi (w : ZW) (f a : Nat) (v : Int32) : zsz (zsi w f a v) = zsz w := rfl
theorem zk_zsi (w : ZW) (f a : Nat) (v : Int32) : zk (zsi w f a v) = zk w := rfl
theorem zln_zsi (w : ZW) (f a : Nat) (v : Int32) : zln (zsi w f a v) = zln w := rfl
theorem zi_zsi (w : ZW) (f a : Nat) (v : Int32) (x y : Nat) : zi (zsi w f a v) x y = if x = f ∧ y = a then v else zi w x y := rfl
theorem zr_zsi (w : ZW) (f a : Nat) (v : Int32) : zr (zsi w f a v) = zr w := rfl
theorem zf_zsi (w : ZW) (f a : Nat) (v : Int32) : zf (zsi w f a v) = zf w := rfl
theorem za_zsi (w : ZW) (f a : Nat) (v : Int32) : za (zsi w f a v) = za w := rfl
theorem zq_zsi (w : ZW) (f a : Nat) (v : Int32) : zq (zsi w f a v) = zq w := rfl
theorem zg_zsi (w : ZW) (f a : Nat) (v : Int32) : zg (zsi w f a v) = zg w := rfl
theorem zl_zsi (w : ZW) (f a : Nat) (v : Int32) : zl (zsi w f a v) = zl w := rfl
theorem zd_zsi (w : ZW) (f a : Nat) (v : Int32) : zd (zsi w f a v) = zd w := rfl
theorem zsz_zsr (w : ZW) (f a : Nat) (v : Option Nat) : zsz (zsr w f a v) = zsz w := rfl
theorem zk_zsr (w : ZW) (f a : Nat) (v : Option Nat) : zk (zsr w f a v) = zk w := rfl
theorem zln_zsr (w : ZW) (f a : Nat) (v : Option Nat) : zln (zsr w f a v) = zln w := rfl
theorem zi_zsr (w : ZW) (f a : Nat) (v : Option Nat) : zi (zsr w f a v) = zi w := rfl
theorem zr_zsr (w : ZW) (f a : Nat) (v : Option Nat) (x y : Nat) : zr (zsr w f a v) x y = if x = f ∧ y = a then v else zr w x y := rfl
theorem zf_zsr (w : ZW) (f a : Nat) (v : Option Nat) : zf (zsr w f a v) = zf w := rfl
theorem za_zsr (w : ZW) (f a : Nat) (v : Option Nat) : za (zsr w f a v) = za w := rfl
theorem zq_zsr (w : ZW) (f a : Nat) (v : Option Nat) : zq (zsr w f a v) = zq w := rfl
theorem zg_zsr (w : ZW) (f a : Nat) (v : Option Nat) : zg (zsr w f a v) = zg w := rfl
theorem zl_zsr (w : ZW) (f a : Nat) (v : Option Nat) : zl (zsr w f a v) = zl w := rfl
theorem zd_zsr (w : ZW) (f a : Nat) (v : Option Nat) : zd (zsr w f a v) = zd w := rfl
theorem zsz_zsf (w : ZW) (f a : Nat) (v : UInt32) : zsz (zsf w f a v) = zsz w := rfl
theorem zk_zsf (w : ZW) (f a : Nat) (v : UInt32) : zk (zsf w f a v) = zk w := rfl
theorem zln_zsf (w : ZW) (f a : Nat) (v : UInt32) : zln (zsf w f a v) = zln w := rfl
theorem zi_zsf (w : ZW) (f a : Nat) (v : UInt32) : zi (zsf w f a v) = zi w := rfl
theorem zr_zsf (w : ZW) (f a : Nat) (v : UInt32) : zr (zsf w f a v) = zr w := rfl
theorem zf_zsf (w : ZW) (f a : Nat) (v : UInt32) (x y : Nat) : zf (zsf w f a v) x y = if x = f ∧ y = a then v else zf w x y := rfl
theorem za_zsf (w : ZW) (f a : Nat) (v : UInt32) : za (zsf w f a v) = za w := rfl
theorem zq_zsf (w : ZW) (f a : Nat) (v : UInt32) : zq (zsf w f a v) = zq w := rfl
theorem zg_zsf (w : ZW) (f a : Nat) (v : UInt32) : zg (zsf w f a v) = zg w := rfl
theorem zl_zsf (w : ZW) (f a : Nat) (v : UInt32) : zl (zsf w f a v) = zl w := rfl
theorem zd_zsf (w : ZW) (f a : Nat) (v : UInt32) : zd (zsf w f a v) = zd w := rfl
theorem zsz_zsa (w : ZW) (a i : Nat) (v : Int32) : zsz (zsa w a i v) = zsz w := rfl
theorem zk_zsa (w : ZW) (a i : Nat) (v : Int32) : zk (zsa w a i v) = zk w := rfl
theorem zln_zsa (w : ZW) (a i : Nat) (v : Int32) : zln (zsa w a i v) = zln w := rfl
theorem zi_zsa (w : ZW) (a i : Nat) (v : Int32) : zi (zsa w a i v) = zi w := rfl
theorem zr_zsa (w : ZW) (a i : Nat) (v : Int32) : zr (zsa w a i v) = zr w := rfl
theorem zf_zsa (w : ZW) (a i : Nat) (v : Int32) : zf (zsa w a i v) = zf w := rfl
theorem za_zsa (w : ZW) (a i : Nat) (v : Int32) (x y : Nat) : za (zsa w a i v) x y = if x = a ∧ y = i then v else za w x y := rfl
theorem zq_zsa (w : ZW) (a i : Nat) (v : Int32) : zq (zsa w a i v) = zq w := rfl
theorem zg_zsa (w : ZW) (a i : Nat) (v : Int32) : zg (zsa w a i v) = zg w := rfl
theorem zl_zsa (w : ZW) (a i : Nat) (v : Int32) : zl (zsa w a i v) = zl w := rfl
theorem zd_zsa (w : ZW) (a i : Nat) (v : Int32) : zd (zsa w a i v) = zd w := rfl
theorem zsz_zsq (w : ZW) (a i : Nat) (v : Option Nat) : zsz (zsq w a i v) = zsz w := rfl
theorem zk_zsq (w : ZW) (a i : Nat) (v : Option Nat) : zk (zsq w a i v) = zk w := rfl
theorem zln_zsq (w : ZW) (a i : Nat) (v : Option Nat) : zln (zsq w a i v) = zln w := rfl
theorem zi_zsq (w : ZW) (a i : Nat) (v : Option Nat) : zi (zsq w a i v) = zi w := rfl
theorem zr_zsq (w : ZW) (a i : Nat) (v : Option Nat) : zr (zsq w a i v) = zr w := rfl
theorem zf_zsq (w : ZW) (a i : Nat) (v : Option Nat) : zf (zsq w a i v) = zf w := rfl
theorem za_zsq (w : ZW) (a i : Nat) (v : Option Nat) : za (zsq w a i v) = za w := rfl
theorem zq_zsq (w : ZW) (a i : Nat) (v : Option Nat) (x y : Nat) : zq (zsq w a i v) x y = if x = a ∧ y = i then v else zq w x y := rfl
theorem zg_zsq (w : ZW) (a i : Nat) (v : Option Nat) : zg (zsq w a i v) = zg w := rfl
theorem zl_zsq (w : ZW) (a i : Nat) (v : Option Nat) : zl (zsq w a i v) = zl w := rfl
theorem zd_zsq (w : ZW) (a i : Nat) (v : Option Nat) : zd (zsq w a i v) = zd w := rfl
theorem zsz_zsg (w : ZW) (a i : Nat) (v : UInt32) : zsz (zsg w a i v) = zsz w := rfl
theorem zk_zsg (w : ZW) (a i : Nat) (v : UInt32) : zk (zsg w a i v) = zk w := rfl
theorem zln_zsg (w : ZW) (a i : Nat) (v : UInt32) : zln (zsg w a i v) = zln w := rfl
theorem zi_zsg (w : ZW) (a i : Nat) (v : UInt32) : zi (zsg w a i v) = zi w := rfl
theorem zr_zsg (w : ZW) (a i : Nat) (v : UInt32) : zr (zsg w a i v) = zr w := rfl
theorem zf_zsg (w : ZW) (a i : Nat) (v : UInt32) : zf (zsg w a i v) = zf w := rfl
theorem za_zsg (w : ZW) (a i : Nat) (v : UInt32) : za (zsg w a i v) = za w := rfl
theorem zq_zsg (w : ZW) (a i : Nat) (v : UInt32) : zq (zsg w a i v) = zq w := rfl
theorem zg_zsg (w : ZW) (a i : Nat) (v : UInt32) (x y : Nat) : zg (zsg w a i v) x y = if x = a ∧ y = i then v else zg w x y := rfl
theorem zl_zsg (w : ZW) (a i : Nat) (v : UInt32) : zl (zsg w a i v) = zl w := rfl
theorem zd_zsg (w : ZW) (a i : Nat) (v : UInt32) : zd (zsg w a i v) = zd w := rfl
theorem zsz_zsl (w : ZW) (a i : Nat) (v : Int64) : zsz (zsl w a i v) = zsz w := rfl
theorem zk_zsl (w : ZW) (a i : Nat) (v : Int64) : zk (zsl w a i v) = zk w := rfl
theorem zln_zsl (w : ZW) (a i : Nat) (v : Int64) : zln (zsl w a i v) = zln w := rfl
theorem zi_zsl (w : ZW) (a i : Nat) (v : Int64) : zi (zsl w a i v) = zi w := rfl
theorem zr_zsl (w : ZW) (a i : Nat) (v : Int64) : zr (zsl w a i v) = zr w := rfl
theorem zf_zsl (w : ZW) (a i : Nat) (v : Int64) : zf (zsl w a i v) = zf w := rfl
theorem za_zsl (w : ZW) (a i : Nat) (v : Int64) : za (zsl w a i v) = za w := rfl
theorem zq_zsl (w : ZW) (a i : Nat) (v : Int64) : zq (zsl w a i v) = zq w := rfl
theorem zg_zsl (w : ZW) (a i : Nat) (v : Int64) : zg (zsl w a i v) = zg w := rfl
theorem zl_zsl (w : ZW) (a i : Nat) (v : Int64) (x y : Nat) : zl (zsl w a i v) x y = if x = a ∧ y = i then v else zl w x y := rfl
theorem zd_zsl (w : ZW) (a i : Nat) (v : Int64) : zd (zsl w a i v) = zd w := rfl
theorem zsz_zsd (w : ZW) (a i : Nat) (v : UInt64) : zsz (zsd w a i v) = zsz w := rfl
theorem zk_zsd (w : ZW) (a i : Nat) (v : UInt64) : zk (zsd w a i v) = zk w := rfl
theorem zln_zsd (w : ZW) (a i : Nat) (v : UInt64) : zln (zsd w a i v) = zln w := rfl
theorem zi_zsd (w : ZW) (a i : Nat) (v : UInt64) : zi (zsd w a i v) = zi w := rfl
theorem zr_zsd (w : ZW) (a i : Nat) (v : UInt64) : zr (zsd w a i v) = zr w := rfl
theorem zf_zsd (w : ZW) (a i : Nat) (v : UInt64) : zf (zsd w a i v) = zf w := rfl
theorem za_zsd (w : ZW) (a i : Nat) (v : UInt64) : za (zsd w a i v) = za w := rfl
theorem zq_zsd (w : ZW) (a i : Nat) (v : UInt64) : zq (zsd w a i v) = zq w := rfl
theorem zg_zsd (w : ZW) (a i : Nat) (v : UInt64) : zg (zsd w a i v) = zg w := rfl
theorem zl_zsd (w : ZW) (a i : Nat) (v : UInt64) : zl (zsd w a i v) = zl w := rfl
theorem zd_zsd (w : ZW) (a i : Nat) (v : UInt64) (x y : Nat) : zd (zsd w a i v) x y = if x = a ∧ y = i then v else zd w x y := rfl
theorem zsz_znew (w : ZW) (k n : Nat) : zsz (znew w k n) = zsz w + 1 := rfl
theorem zk_znew (w : ZW) (k n x : Nat) : zk (znew w k n) x = if x = zsz w then k else zk w x := rfl
theorem zln_znew (w : ZW) (k n x : Nat) : zln (znew w k n) x = if x = zsz w then n else zln w x := rfl
theorem zi_znew (w : ZW) (k n x y : Nat) : zi (znew w k n) x y = if y = zsz w then 0 else zi w x y := rfl
theorem zr_znew (w : ZW) (k n x y : Nat) : zr (znew w k n) x y = if y = zsz w then none else zr w x y := rfl
theorem zf_znew (w : ZW) (k n x y : Nat) : zf (znew w k n) x y = if y = zsz w then 0 else zf w x y := rfl
theorem za_znew (w : ZW) (k n x y : Nat) : za (znew w k n) x y = if x = zsz w then 0 else za w x y := rfl
theorem zq_znew (w : ZW) (k n x y : Nat) : zq (znew w k n) x y = if x = zsz w then none else zq w x y := rfl
theorem zg_znew (w : ZW) (k n x y : Nat) : zg (znew w k n) x y = if x = zsz w then 0 else zg w x y := rfl
theorem zl_znew (w : ZW) (k n x y : Nat) : zl (znew w k n) x y = if x = zsz w then 0 else zl w x y := rfl
theorem zd_znew (w : ZW) (k n x y : Nat) : zd (znew w k n) x y = if x = zsz w then 0 else zd w x y := rfl
theorem zsz_zskip (w : ZW) (n : Nat) : zsz (zskip w n) = zsz w + n := rfl
theorem zk_zskip (w : ZW) (n : Nat) : zk (zskip w n) = zk w := rfl
theorem zln_zskip (w : ZW) (n : Nat) : zln (zskip w n) = zln w := rfl
theorem zi_zskip (w : ZW) (n : Nat) : zi (zskip w n) = zi w := rfl
theorem zr_zskip (w : ZW) (n : Nat) : zr (zskip w n) = zr w := rfl
theorem zf_zskip (w : ZW) (n : Nat) : zf (zskip w n) = zf w := rfl
theorem za_zskip (w : ZW) (n : Nat) : za (zskip w n) = za w := rfl
theorem zq_zskip (w : ZW) (n : Nat) : zq (zskip w n) = zq w := rfl
theorem zg_zskip (w : ZW) (n : Nat) : zg (zskip w n) = zg w := rfl
theorem zl_zskip (w : ZW) (n : Nat) : zl (zskip w n) = zl w := rfl
theorem zd_zskip (w : ZW) (n : Nat) : zd (zskip w n) = zd w := rfl
/-- the words that hold in every method -/
def zWs : List Cond := lw_tbl.filter goodWord
theorem zWs_mem {w : Cond} (h : w ∈ lw_tbl) (g : goodWord w = true) : w ∈ zWs := List.mem_filter.mpr ⟨h, g⟩
theorem zWs_good {ws : List Cond} (h : ∀ w ∈ ws, w ∈ zWs) : GoodIn zWs ws := fun w hw => ⟨h w hw, good_of_word (List.mem_filter.mp (h w hw)).2⟩
def ztys (E : ZE) : List (ClassId × FieldType) := [(E.2.2.2.1 0, .char), (E.2.2.2.1 1, .float), (E.2.2.2.1 2, .int), (E.2.2.2.1 3, .boolean), (E.2.2.2.1 4, .long), (E.2.2.2.1 5, .double), (E.2.2.2.1 6, .object "StyleDesk$Declaration"), (E.2.2.2.1 7, .object "StyleDesk$Element"), (E.2.2.2.1 8, .object "StyleDesk$Rule")]
/-- the class of number c -/
def zC (c : Nat) : vw_C := vwCl.getD c ("", fun _ => ("", "", "", false), 0)
/-- what a field holds, by its sort (0: int, 1: reference, 2: float) and number -/
def zfv (w : ZW) (a f t : Nat) : Value := if t = 0 then .int (zi w f a) else if t = 1 then va_rf (zr w f a) else .float (zf w f a)
def zV (w : ZW) (a c j : Nat) : Value := zfv w a (100 * c + 100 + j) (zty c j)
def zarr (w : ZW) (a t : Nat) : (Nat → Int32) ⊕ (Nat → Int64) ⊕ (Nat → UInt32) ⊕ (Nat → UInt64) ⊕ (Nat → Option Nat) := if t = 0 ∨ t = 2 ∨ t = 3 then .inl (za w a) else if t = 1 then .inr (.inr (.inl (zg w a))) else if t = 4 then .inr (.inl (zl w a)) else if t = 5 then .inr (.inr (.inr (.inl (zd w a)))) else .inr (.inr (.inr (.inr (zq w a))))
/-- object and row at an address -/
def zOb (E : ZE) (w : ZW) (a c : Nat) (H : Heap) : Prop := t_OB a (E.2.2.1.1 c) (zC c).2.2 (E.2.2.1.2 c) H (zV w a c)
def zRw (E : ZE) (w : ZW) (a t : Nat) (H : Heap) : Prop := H[a]? = some (vp_cell (E.2.2.2.1 t) (zln w a, zarr w a t))
def zAt (E : ZE) (w : ZW) (H : Heap) (a : Nat) : Prop := (∀ c, c < 11 → zk w a = c + 1 → zOb E w a c H) ∧ (∀ t, t < 9 → zk w a = t + 20 → zRw E w a t H)
/-- the model's rows, in the order in which they are made: sort and length -/
def zMV (sg : ZM) (mo j : Nat) : Value := if zmk j = 0 then .int (sg.1 j) else .ref (mo + zmk j)
def zMrow (sg : ZM) (k : Nat) : (Nat → Int32) ⊕ (Nat → Int64) ⊕ (Nat → UInt32) ⊕ (Nat → UInt64) ⊕ (Nat → Option Nat) := if zmt k = 1 then .inr (.inr (.inl (sg.2.2 k))) else .inl (sg.2.1 k)
def zMod (E : ZE) (sg : ZM) (mo : Nat) (H : Heap) : Prop := t_OB mo (E.2.2.1.1 10) 57 (E.2.2.1.2 10) H (zMV sg mo) ∧ ∀ k, 1 ≤ k → k ≤ zmN → H[mo + k]? = some (vp_cell (E.2.2.2.1 (zmt k)) (zml k, zMrow sg k))
/-- the heap holds the world -/
def ZAR (E : ZE) (w : ZW) (sg : ZM) (H : Heap) : Prop := H.size = zsz w ∧ (∀ a, zk w a ≠ 0 → E.2.1 ≤ a ∧ a < zsz w) ∧ (∀ a, zAt E w H a) ∧ (∀ mo, E.2.2.2.2 = some mo → E.2.1 ≤ mo ∧ mo + zmN < zsz w ∧ (∀ a, mo ≤ a → a ≤ mo + zmN → zk w a = 0) ∧ zMod E sg mo H)
/-- the cells that may be written -/
def zA (E : ZE) : Nat → Prop := fun q => E.2.1 ≤ q
/-- the two words: their lengths and bytes -/
def zwL : List Nat := [7, 7]
def zwB : List (List Int32) := [[105, 110, 104, 101, 114, 105, 116], [105, 110, 105, 116, 105, 97, 108]]
/-- where the words lie, and their bytes -/
def zwK (E : ZE) (i : Nat) : Nat := E.2.2.2.1 (100 + i)
def zwV (E : ZE) (i : Nat) : Nat := E.2.2.2.1 (110 + i)
abbrev zIAE : String := "java/lang/IllegalArgumentException"
abbrev zISE : String := "java/lang/IllegalStateException"
abbrev zNSE : String := "java/util/NoSuchElementException"
/-- words that the tables say and that no run changes, though they aren't of the good ones -/
def zFc (w : Cond) : Bool := match w with
  | .declares _ => true
  | .castable _ _ => true
  | _ => false
theorem zFc_moved {A A' : Array Value} {s U : State} {w : Cond} (hw : zFc w = true) (hvm : s.vm.Alike U.vm) (h : w.before A s = true) : w.before A' U = true := by
  have e : w.before A (s.setVm U.vm) = true := by
    cases w with
    | declares x => rw [Cond.declares_setVm hvm]; exact h
    | castable a b => rw [Cond.castable_setVm hvm]; exact h
    | _ => simp [zFc] at hw
  have ht : w.onTables = true := by
    cases w with
    | declares x => rfl
    | castable a b => rfl
    | _ => simp [zFc] at hw
  exact va_tabs ht (u := s.setVm U.vm) (U := U) rfl e
def zFace : List Cond := [.declares (Bundle.init0 "java/lang/RuntimeException"), .declares (Bundle.init0 "java/lang/Exception"), .declares (Bundle.init0 "java/lang/Throwable"), .castable zIAE zIAE, .castable zISE zISE, .castable zNSE zNSE]
theorem zFace_fc : ∀ w ∈ zFace, zFc w = true := by
  intro w hw
  simp only [zFace, List.mem_cons, List.not_mem_nil, or_false] at hw
  rcases hw with rfl | rfl | rfl | rfl | rfl | rfl <;> rfl
/-- the words' texts, the statics that their methods read, and which exceptions aren't which -/
def zXE (E : ZE) (s : State) : Prop := vk_S 2 zwL zwB (zwK E) (zwV E) (zA E) s s.heap ∧ vk_R "StyleDesk$TextBuffer" 135 "inherit" (zwK E 0) s ∧ vk_R "StyleDesk$TextBuffer" 141 "initial" (zwK E 1) s ∧ va_Z "java/lang/String" "COMPACT_STRINGS" "Z" (.int 1) (zA E) s s.heap ∧ va_Zq "jdk/internal/util/Preconditions" "SIOOBE_FORMATTER" "Ljava/util/function/BiFunction;" (zA E) s s.heap ∧ va_Nc zISE zIAE s ∧ va_Nc zIAE zISE s ∧ va_Nc zIAE zNSE s ∧ (∀ w ∈ zFace, w.before #[] s = true) ∧ E.1.stackTraces = false
theorem zXE.moved {E : ZE} {s U : State} (h : zXE E s) (hR : ∀ (own : String) (k : Nat) (tx : String) (a : Nat), vk_R own k tx a s → vk_R own k tx a U) (hvm : s.vm.Alike U.vm) (hq : ∀ q : Nat, q < s.heap.size → ¬ zA E q → U.heap[q]? = s.heap[q]?) : zXE E U := by
  obtain ⟨h1, h2, h3, h4, h5, h6, h7, h8, h9, h10⟩ := h
  exact ⟨vk_S.moved hvm (h1.kept hq), hR _ _ _ _ h2, hR _ _ _ _ h3, va_Z.moved hvm (h4.kept hq), va_Zq.moved hvm (h5.kept hq), va_Nc.moved hvm h6, va_Nc.moved hvm h7, va_Nc.moved hvm h8, fun w hw => zFc_moved (zFace_fc w hw) hvm (h9 w hw), h10⟩
/-- what the start gives of the tables and the JDK's statics, once and for all -/
def zX (E : ZE) (s : State) : Prop := va_K E.2.2.1 vwCl (ztys E) s ∧ E.2.1 ≤ s.heap.size ∧ va_Nw (.methodLinkNest "StyleDesk$TextBuffer" 82 ⟨"StyleDesk", "isLetter", "(I)Z"⟩ "StyleDesk") s ∧ va_Nw (.methodLinkNest "StyleDesk$TextBuffer" 174 ⟨"StyleDesk", "isDigit", "(I)Z"⟩ "StyleDesk") s ∧ vx_Zq Bundle.tN "UNASSIGNED_STACK" Bundle.steD (zA E) s s.heap ∧ vx_Zq Bundle.tN "SUPPRESSED_SENTINEL" Bundle.listD (zA E) s s.heap ∧ va_AO "StyleDesk$Declaration" s ∧ va_AO "StyleDesk$Element" s ∧ va_AO "StyleDesk$Rule" s ∧ zXE E s
/-- the handlers of the law's own methods -/
def zhh (y : MethodName) : List (Nat × Nat × Nat × Nat) := if y.cls = "StyleDeskLaw" then (match y.name with
  | "element" => [(0, 14, 17, 13), (0, 14, 21, 15)]
  | "rule" => [(0, 9, 12, 15), (0, 9, 15, 13)]
  | "drop" => [(0, 5, 8, 25)]
  | "matches" => [(0, 16, 19, 25), (0, 16, 22, 13)]
  | "weight" => [(0, 10, 13, 25)]
  | "winner" => [(0, 10, 13, 25), (0, 10, 17, 13)]
  | "value" => [(0, 10, 13, 25), (0, 10, 17, 13)]
  | "how" => [(0, 10, 13, 25), (0, 10, 17, 13)]
  | _ => []) else []
/-- a method's own frame -/
def ZCx (E : ZE) (M : ZMeth) (p : Program) (s : State) (m : MethodId) (args : Array Value) (meth : Method) (c : Code) : Prop :=
  p.tables.exec = Jvm.exec ∧ c.code = M.2.1 ∧ meth.sig.returnType = M.2.2.2 ∧ c.maxLocals = M.2.2.1 ∧ meth.locks = false ∧ s.vm.findClass M.1.cls = some m.cls ∧ (∀ w ∈ zWs, w.before args s = true) ∧ meth.name = M.1.name ∧ zX E s ∧ c.exceptionTable.toList = tableOf (zhh M.1)
def ZL (A : Array Slot) (n : Nat) (ls : List (Option Value)) : Prop := A.size = n ∧ lv_wf A ∧ ∀ (i : Nat) (v : Value), ls[i]? = some (some v) → A[i]? = some (.val v) ∧ v.category = 1
def ZS (E : ZE) (M : ZMeth) (ls : List (Option Value)) (w : ZW) (sg : ZM) (d nc ns : Nat) (p : Program) (R : Room) (s : State) (m : MethodId) (args : Array Value) (meth : Method) (c : Code) (H : Heap) (locs : List Loc) (cells slots mc ms : Nat) (A : Array Slot) : Prop :=
  ZCx E M p s m args meth c ∧ ZAR E w sg H ∧ va_S (zA E) s.heap H locs ∧ ZL A M.2.2.1 ls ∧ cells + nc ≤ mc ∧ slots + ns ≤ ms ∧ mc ≤ R.cells ∧ ms ≤ R.slots ∧ d ≤ R.frames ∧ 60 * d ≤ R.locals
def RW (E : ZE) (M : ZMeth) (pc : Nat) (ls : List (Option Value)) (st : List Value) (w : ZW) (sg : ZM) (d nc ns : Nat) (P : ZPhi) : Prop :=
  ∀ (p : Program) (e : Env) (R : Room) (s : State) (m : MethodId) (args : Array Value) (below : List Frame) (meth : Method) (c : Code) (H : Heap) (locs : List Loc) (cells slots mc ms : Nat) (A : Array Slot),
    ZS E M ls w sg d nc ns p R s m args meth c H locs cells slots mc ms A → W p E.1 e R s m args below meth c H locs cells slots (P below args s mc ms) (F0 m pc A st)
theorem RW.u {E : ZE} {M : ZMeth} {pc : Nat} {ls : List (Option Value)} {st : List Value} {w : ZW} {sg : ZM} {d nc ns : Nat} {P : ZPhi} (kk : RW E M pc ls st w sg d nc ns P) {p : Program} {e : Env} {R : Room} {s : State} {m : MethodId} {args : Array Value} {below : List Frame} {meth : Method} {c : Code} {H : Heap} {locs : List Loc} {cells slots mc ms : Nat} {A : Array Slot} (h : ZS E M ls w sg d nc ns p R s m args meth c H locs cells slots mc ms A) : W p E.1 e R s m args below meth c H locs cells slots (P below args s mc ms) (F0 m pc A st) := kk p e R s m args below meth c H locs cells slots mc ms A h
section ZSP
variable {E : ZE} {M : ZMeth} {ls : List (Option Value)} {w : ZW} {sg : ZM} {d nc ns : Nat} {p : Program} {R : Room} {s : State} {m : MethodId} {args : Array Value} {meth : Method} {c : Code} {H : Heap} {locs : List Loc} {cells slots mc ms : Nat} {A : Array Slot}
theorem ZS.x (h : ZS E M ls w sg d nc ns p R s m args meth c H locs cells slots mc ms A) : p.tables.exec = Jvm.exec := h.1.1
theorem ZS.b (h : ZS E M ls w sg d nc ns p R s m args meth c H locs cells slots mc ms A) : c.code = M.2.1 := h.1.2.1
theorem ZS.ret (h : ZS E M ls w sg d nc ns p R s m args meth c H locs cells slots mc ms A) : meth.sig.returnType = M.2.2.2 := h.1.2.2.1
theorem ZS.ml (h : ZS E M ls w sg d nc ns p R s m args meth c H locs cells slots mc ms A) : c.maxLocals = M.2.2.1 := h.1.2.2.2.1
theorem ZS.lk (h : ZS E M ls w sg d nc ns p R s m args meth c H locs cells slots mc ms A) : meth.locks = false := h.1.2.2.2.2.1
theorem ZS.own (h : ZS E M ls w sg d nc ns p R s m args meth c H locs cells slots mc ms A) : s.vm.findClass M.1.cls = some m.cls := h.1.2.2.2.2.2.1
theorem ZS.ts (h : ZS E M ls w sg d nc ns p R s m args meth c H locs cells slots mc ms A) : ∀ w ∈ zWs, w.before args s = true := h.1.2.2.2.2.2.2.1
theorem ZS.nm (h : ZS E M ls w sg d nc ns p R s m args meth c H locs cells slots mc ms A) : meth.name = M.1.name := h.1.2.2.2.2.2.2.2.1
theorem ZS.K (h : ZS E M ls w sg d nc ns p R s m args meth c H locs cells slots mc ms A) : va_K E.2.2.1 vwCl (ztys E) s := h.1.2.2.2.2.2.2.2.2.1.1
theorem ZS.X (h : ZS E M ls w sg d nc ns p R s m args meth c H locs cells slots mc ms A) : zX E s := h.1.2.2.2.2.2.2.2.2.1
theorem ZS.XE (h : ZS E M ls w sg d nc ns p R s m args meth c H locs cells slots mc ms A) : zXE E s := h.X.2.2.2.2.2.2.2.2.2
theorem ZS.T (h : ZS E M ls w sg d nc ns p R s m args meth c H locs cells slots mc ms A) : c.exceptionTable.toList = tableOf (zhh M.1) := h.1.2.2.2.2.2.2.2.2.2
theorem ZS.T0 (h : ZS E M ls w sg d nc ns p R s m args meth c H locs cells slots mc ms A) (hz : zhh M.1 = []) : ∀ x ∈ c.exceptionTable.toList, False := by
  rw [h.T, hz]
  intro x hx
  cases hx
theorem ZS.P (h : ZS E M ls w sg d nc ns p R s m args meth c H locs cells slots mc ms A) : ZAR E w sg H := h.2.1
theorem ZS.S (h : ZS E M ls w sg d nc ns p R s m args meth c H locs cells slots mc ms A) : va_S (zA E) s.heap H locs := h.2.2.1
theorem ZS.L (h : ZS E M ls w sg d nc ns p R s m args meth c H locs cells slots mc ms A) : ZL A M.2.2.1 ls := h.2.2.2.1
theorem ZS.at (h : ZS E M ls w sg d nc ns p R s m args meth c H locs cells slots mc ms A) {i : Nat} {v : Value} (hv : ls[i]? = some (some v)) : A[i]? = some (.val v) := (h.L.2.2 i v hv).1
theorem ZS.lf (h : ZS E M ls w sg d nc ns p R s m args meth c H locs cells slots mc ms A) {ls' : List (Option Value)} {A' : Array Slot} (hL : ZL A' M.2.2.1 ls') : ZS E M ls' w sg d nc ns p R s m args meth c H locs cells slots mc ms A' := ⟨h.1, h.2.1, h.2.2.1, hL, h.2.2.2.2⟩
theorem ZS.hp (h : ZS E M ls w sg d nc ns p R s m args meth c H locs cells slots mc ms A) {w' : ZW} {sg' : ZM} {H' : Heap} {locs' : List Loc} (hP : ZAR E w' sg' H') (hS : va_S (zA E) s.heap H' locs') : ZS E M ls w' sg' d nc ns p R s m args meth c H' locs' cells slots mc ms A := ⟨h.1, hP, hS, h.2.2.2⟩
end ZSP
theorem ZL.set {A : Array Slot} {n : Nat} {ls : List (Option Value)} (h : ZL A n ls) {i : Nat} (hi : i < n) {v : Value} (hv : v.category = 1) : ∃ A', storeLocals A i v = some A' ∧ ZL A' n (ls.set i (some v)) := by
  obtain ⟨h1, h2, h3⟩ := h
  obtain ⟨A', e0, g0⟩ := lv_store1 (ls := A) (nL := n) (l := []) (i := i) (v := v) ⟨h1, h2, fun q hq => by cases hq⟩ hi hv
  refine ⟨A', e0, g0.1, g0.2.1, fun j u hj => ?_⟩
  by_cases e : j = i
  · subst e
    have hl : j < (ls.set j (some v)).length := (List.getElem?_eq_some_iff.mp hj).1
    rw [List.length_set] at hl
    rw [List.getElem?_set_self hl] at hj
    cases hj
    exact ⟨g0.2.2 (j, v) List.mem_cons_self, hv⟩
  · rw [List.getElem?_set_ne (Ne.symm e)] at hj
    obtain ⟨q1, q2⟩ := h3 j u hj
    obtain ⟨A2, e2, g2⟩ := lv_store1 (ls := A) (nL := n) (l := [(j, u)]) (i := i) (v := v) ⟨h1, h2, fun q hq => by rw [List.mem_singleton] at hq; subst hq; exact q1⟩ hi hv
    have : A2 = A' := Option.some.inj (e2.symm.trans e0)
    subst this
    refine ⟨g2.2.2 (j, u) (List.mem_cons_of_mem _ (List.mem_filter.mpr ⟨List.mem_singleton.mpr rfl, ?_⟩)), q2⟩
    simp [e, q2]
theorem ZL.any {A : Array Slot} {n : Nat} {ls : List (Option Value)} (h : ZL A n ls) {ls' : List (Option Value)} (hs : ∀ (i : Nat) (v : Value), ls'[i]? = some (some v) → ls[i]? = some (some v)) : ZL A n ls' := ⟨h.1, h.2.1, fun i v hv => h.2.2 i v (hs i v hv)⟩
