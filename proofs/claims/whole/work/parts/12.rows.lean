/-! ROWS: the judgement GG, the contracts Ctr, a row an instruction -/
def TB : List Cond := lw_tbl.filter goodWord
theorem TB_of {w : Cond} (h : w ∈ lw_tbl) (g : goodWord w = true) : w ∈ TB := List.mem_filter.mpr ⟨h, g⟩
theorem TB_good : ∀ w ∈ TB, goodWord w = true := fun w h => (List.mem_filter.mp h).2
theorem mt_0 {w : Cond} (h : w ∈ k2_sels lw_privs) (g : goodWord w = true) : w ∈ TB := TB_of (List.mem_append_left _ h) g
theorem mt_1 {w : Cond} (h : w ∈ tables_1_1) (g : goodWord w = true) : w ∈ TB := TB_of (List.mem_append_right _ (List.mem_append_left _ h)) g
theorem mt_2 {w : Cond} (h : w ∈ tables_1_2) (g : goodWord w = true) : w ∈ TB := TB_of (List.mem_append_right _ (List.mem_append_right _ (List.mem_append_left _ h))) g
theorem mt_3 {w : Cond} (h : w ∈ tables_1_3) (g : goodWord w = true) : w ∈ TB := TB_of (List.mem_append_right _ (List.mem_append_right _ (List.mem_append_right _ (List.mem_append_left _ h)))) g
theorem mt_4 {w : Cond} (h : w ∈ tables_1_4) (g : goodWord w = true) : w ∈ TB := TB_of (List.mem_append_right _ (List.mem_append_right _ (List.mem_append_right _ (List.mem_append_right _ (List.mem_append_left _ h))))) g
theorem mt_5 {w : Cond} (h : w ∈ tables_1_5) (g : goodWord w = true) : w ∈ TB := TB_of (List.mem_append_right _ (List.mem_append_right _ (List.mem_append_right _ (List.mem_append_right _ (List.mem_append_right _ h))))) g
def tyl (Y : Nat → ClassId) : List (ClassId × FieldType) := [(Y 0, .int), (Y 1, .long), (Y 2, .boolean), (Y 3, .object RX0), (Y 4, .object RX1), (Y 5, .object RX5)]
def NwOk (U : State) : Prop := va_Nw (.methodLinkNest RX3 38 yX8_commonDivisor RX8) U ∧ va_Nw (.methodLinkNest RX0 16 yX8_commonDivisor RX8) U
theorem NwOk.warm {s U : State} (hW : s.WarmedH U.vm) (h : NwOk s) : NwOk U := ⟨h.1.warmM hW, h.2.warmM hW⟩
theorem NwOk.same {s U : State} (hv : s.vm = U.vm) (h : NwOk s) : NwOk U := ⟨h.1.same rfl hv, h.2.same rfl hv⟩
def wl (Y : Nat → ClassId) (LB : List (Nat × Nat)) (α : Adr) (μ : Mem) : va_W := LB.map fun q => (α q.1 q.2, ec Y α (μ 28 0 0).toNat q.1 q.2 (μ q.1 q.2))
theorem wl_at {Y : Nat → ClassId} {LB : List (Nat × Nat)} {α : Adr} {μ : Mem} {t i : Nat} (h : (t, i) ∈ LB) : ∃ q0 : Nat, (wl Y LB α μ)[q0]? = some (α t i, ec Y α (μ 28 0 0).toNat t i (μ t i)) ∧ LB[q0]? = some (t, i) := by
  obtain ⟨q0, hq⟩ := List.getElem?_of_mem h
  exact ⟨q0, by simp [wl, hq], hq⟩
theorem wl_st {Y : Nat → ClassId} {LB : List (Nat × Nat)} {α : Adr} {μ : Mem} {t i k q0 : Nat} {x : Int} (hnd : LB.Nodup) (ht : t ≠ 28) (hq : LB[q0]? = some (t, i)) : (wl Y LB α μ).set q0 (α t i, ec Y α (μ 28 0 0).toNat t i (up (μ t i) k x)) = wl Y LB α (st μ t i k x) := by
  have h28 : (st μ t i k x) 28 0 0 = μ 28 0 0 := st_nt μ (Ne.symm ht)
  apply List.ext_getElem?
  intro j
  rw [List.getElem?_set]
  by_cases hj : q0 = j
  · subst hj
    have hlt : q0 < LB.length := (List.getElem?_eq_some_iff.mp hq).1
    simp only [wl, List.getElem?_map, hq, h28, List.length_map, hlt, if_true, Option.map_some, st_at]
  · rw [if_neg hj]
    simp only [wl, List.getElem?_map, h28]
    cases hc : LB[j]? with
    | none => rfl
    | some q =>
      have hne : ¬ (q.1 = t ∧ q.2 = i) := by
        rintro ⟨h1, h2⟩
        have hqq : q = (t, i) := by cases q; simp_all
        rw [hqq] at hc
        exact hj ((List.getElem?_inj (List.getElem?_eq_some_iff.mp hq).1 hnd).mp (hq.trans hc.symm))
      simp only [Option.map_some, st_ne μ hne]
def Ar (LB : List (Nat × Nat)) (α : Adr) (sz : Nat) : Nat → Prop := fun q => (∃ w ∈ LB, q = α w.1 w.2) ∨ sz ≤ q
theorem Ar_sub {Y : Nat → ClassId} {LB : List (Nat × Nat)} {α : Adr} {μ : Mem} {A : Nat → Prop} {n k : Nat} (hD : va_D A (wl Y LB α μ)) (hA : ∀ q, n ≤ q → A q) (hn : n ≤ k) : ∀ q, Ar LB α k q → A q := by
  rintro q (⟨w, hw, rfl⟩ | h)
  · obtain ⟨q0, h1, -⟩ := wl_at (Y := Y) (α := α) (μ := μ) (t := w.1) (i := w.2) hw
    exact hD.2 q0 _ h1
  · exact hA q (Nat.le_trans hn h)
theorem Ar_self {Y : Nat → ClassId} {LB : List (Nat × Nat)} {α : Adr} {μ : Mem} {A : Nat → Prop} {k : Nat} (hD : va_D A (wl Y LB α μ)) : va_D (Ar LB α k) (wl Y LB α μ) := by
  refine ⟨hD.1, fun j q hj => Or.inl ?_⟩
  simp only [wl, List.getElem?_map] at hj
  cases hc : LB[j]? with
  | none => rw [hc] at hj; cases hj
  | some w => rw [hc] at hj; cases hj; exact ⟨w, List.mem_of_getElem? hc, rfl⟩
/-- what holds all through a method's body -/
def CX (p : Program) (s : State) (m : MethodId) (args : Array Value) (meth : Method) (c : Code) (cc : ByteArray) (nL : Nat) (own : String) (ret : Option FieldType) (D : va_G) (Y : Nat → ClassId) (LB : List (Nat × Nat)) (A : Nat → Prop) : Prop :=
  p.tables.exec = Jvm.exec ∧ c.code = cc ∧ c.maxLocals = nL ∧ s.vm.findClass own = some m.cls ∧ (∀ w ∈ TB, w.before args s = true) ∧ va_K D vwCl (tyl Y) s ∧ (∀ q, s.heap.size ≤ q → A q) ∧ meth.sig.returnType = ret ∧ meth.locks = false ∧ NwOk s ∧ LB.Nodup
def GG (D : va_G) (Y : Nat → ClassId) (LB : List (Nat × Nat)) (A : Nat → Prop) (p : Program) (l : Launch) (e : Env) (R : Room) (s : State) (m : MethodId) (args : Array Value) (below : List Frame) (meth : Method) (c : Code) (nL : Nat) (Q : State → Prop) (α : Adr) (cells slots : Nat) (lo : List (Nat × Value)) (sk : List Value) (μ : Mem) (pc : Nat) : Prop :=
  ∀ (H : Heap) (locs : List Loc) (ls : Array Slot), va_P D vwCl (wl Y LB α μ) H → va_D A (wl Y LB α μ) → va_S A s.heap H locs → lv_has ls nL lo → W p l e R s m args below meth c H locs cells slots Q (F0 m pc ls sk)
/-- a field's link, with all that the rows ask of it -/
def FL (own : String) (idx ci k : Nat) (ty : FieldType) (fin : Bool) : Prop := ∃ (Cn : String) (T : u_T) (N : Nat) (ty0 : Nat → FieldType), vwCl[ci]? = some (Cn, T, N) ∧ k < N ∧ Cond.fieldLink own idx Cn (T k).2.1 (T k).2.2.1 ∈ TB ∧ (∀ w ∈ u_ws Cn T N, w ∈ TB) ∧ (T k).1 = Cn ∧ parseFieldDescriptor (T k).2.2.1 = some ty ∧ (∀ k, k < N → parseFieldDescriptor (T k).2.2.1 = some (ty0 k)) ∧ (∀ a, a < N → ∀ b, b < N → a ≠ b → (T a).2.1 ≠ (T b).2.1) ∧ (T k).2.2.2 = fin
theorem i_add (x y : Int) : Int32.ofInt (x + y) = Int32.ofInt x + Int32.ofInt y := Int32.ofInt_add x y
theorem i_sub (x y : Int) : Int32.ofInt (x - y) = Int32.ofInt x - Int32.ofInt y := Int32.ofInt_sub x y
theorem i_mul (x y : Int) : Int32.ofInt (x * y) = Int32.ofInt x * Int32.ofInt y := Int32.ofInt_mul x y
theorem l_add (x y : Int) : Int64.ofInt (x + y) = Int64.ofInt x + Int64.ofInt y := Int64.ofInt_add x y
theorem l_sub (x y : Int) : Int64.ofInt (x - y) = Int64.ofInt x - Int64.ofInt y := Int64.ofInt_sub x y
theorem l_mul (x y : Int) : Int64.ofInt (x * y) = Int64.ofInt x * Int64.ofInt y := Int64.ofInt_mul x y
theorem i_eq {x y : Int} : Int32.ofInt x = Int32.ofInt y ↔ w32 x = w32 y := Int32.toInt_inj.symm
theorem i_lt {x y : Int} : Int32.ofInt x < Int32.ofInt y ↔ w32 x < w32 y := Int32.lt_iff_toInt_lt
theorem i_le {x y : Int} : Int32.ofInt x ≤ Int32.ofInt y ↔ w32 x ≤ w32 y := Int32.le_iff_toInt_le
theorem l_eq {x y : Int} : Int64.ofInt x = Int64.ofInt y ↔ w64 x = w64 y := Int64.toInt_inj.symm
theorem l_lt {x y : Int} : Int64.ofInt x < Int64.ofInt y ↔ w64 x < w64 y := Int64.lt_iff_toInt_lt
theorem l_le {x y : Int} : Int64.ofInt x ≤ Int64.ofInt y ↔ w64 x ≤ w64 y := Int64.le_iff_toInt_le
theorem i_0 (x : Int) : Int32.ofInt x = 0 ↔ w32 x = 0 := i_eq (y := 0)
theorem i_lt0 (x : Int) : Int32.ofInt x < 0 ↔ w32 x < 0 := i_lt (y := 0)
theorem i_ge0 (x : Int) : 0 ≤ Int32.ofInt x ↔ 0 ≤ w32 x := i_le (x := 0)
theorem i_gt0 (x : Int) : 0 < Int32.ofInt x ↔ 0 < w32 x := i_lt (x := 0)
theorem i_le0 (x : Int) : Int32.ofInt x ≤ 0 ↔ w32 x ≤ 0 := i_le (y := 0)
theorem l_0 (x : Int) : Int64.ofInt x = 0 ↔ w64 x = 0 := l_eq (y := 0)
theorem i_div (x y : Int) : Int32.ofInt (Int.tdiv (w32 x) (w32 y)) = Int32.ofInt x / Int32.ofInt y := by
  apply Int32.toInt_inj.mp
  rw [Int32.toInt_div, Int32.toInt_ofInt]
  rfl
theorem l_div (x y : Int) : Int64.ofInt (Int.tdiv (w64 x) (w64 y)) = Int64.ofInt x / Int64.ofInt y := by
  apply Int64.toInt_inj.mp
  rw [Int64.toInt_div, Int64.toInt_ofInt]
  rfl
theorem i_rem (x y : Int) : Int32.ofInt (Int.tmod (w32 x) (w32 y)) = Int32.ofInt x - Int32.ofInt x / Int32.ofInt y * Int32.ofInt y := by
  rw [← i_div, ← of_w32 x, ← of_w32 y]
  rw [← i_mul, ← i_sub, Int.tmod_def, Int.mul_comm]
theorem l_rem (x y : Int) : Int64.ofInt (Int.tmod (w64 x) (w64 y)) = Int64.ofInt x - Int64.ofInt x / Int64.ofInt y * Int64.ofInt y := by
  rw [← l_div, ← of_w64 x, ← of_w64 y]
  rw [← l_mul, ← l_sub, Int.tmod_def, Int.mul_comm]
theorem i_2l (x : Int) : (Int32.ofInt x).toInt64 = Int64.ofInt (w32 x) := by
  apply Int64.toInt_inj.mp
  rw [Int32.toInt_toInt64]
  exact (w64_w32 x).symm
theorem l_2i (x : Int) : (Int64.ofInt x).toInt32 = Int32.ofInt x := by
  apply Int32.toInt_inj.mp
  rw [Int64.toInt_toInt32, Int64.toInt_ofInt, Int32.toInt_ofInt]
  exact Int.bmod_bmod_of_dvd (by decide)
def ian (x y : Int) : Int := (Int32.ofInt x &&& Int32.ofInt y).toInt
def ior (x y : Int) : Int := (Int32.ofInt x ||| Int32.ofInt y).toInt
def ixo (x y : Int) : Int := (Int32.ofInt x ^^^ Int32.ofInt y).toInt
def ishl (x y : Int) : Int := (Int32.ofInt x <<< (Int32.ofInt y &&& 31)).toInt
def ishr (x y : Int) : Int := (Int32.ofInt x >>> (Int32.ofInt y &&& 31)).toInt
def iush (x y : Int) : Int := ((Int32.ofInt x).toUInt32 >>> ((Int32.ofInt y).toUInt32 &&& Int32.toUInt32 31)).toInt32.toInt
def i8 (x : Int) : Int := (Int32.ofInt x).toInt8.toInt
def i16 (x : Int) : Int := (Int32.ofInt x).toInt16.toInt
abbrev bb (x : Int) : Prop := x = 0 ∨ x = 1
theorem bb_nar {x : Int} (h : bb x) : narrow .boolean (vi x) = vi x := by
  rcases h with rfl | rfl <;> rfl
theorem bz_nar {x : Int} (h : bb x) : vp_nar .boolean (Int32.ofInt x) = Int32.ofInt x := by
  rcases h with rfl | rfl <;> rfl
theorem i_8 (x : Int) : (Int32.ofInt x).toInt8.toInt32 = Int32.ofInt (i8 x) := by
  apply Int32.toInt_inj.mp
  rw [Int8.toInt_toInt32]
  have h1 := Int8.toInt_lt (Int32.ofInt x).toInt8
  have h2 := Int8.le_toInt (Int32.ofInt x).toInt8
  exact (w32_id (x := (Int32.ofInt x).toInt8.toInt) (by omega) (by omega)).symm
theorem i_16 (x : Int) : (Int32.ofInt x).toInt16.toInt32 = Int32.ofInt (i16 x) := by
  apply Int32.toInt_inj.mp
  rw [Int16.toInt_toInt32]
  have h1 := Int16.toInt_lt (Int32.ofInt x).toInt16
  have h2 := Int16.le_toInt (Int32.ofInt x).toInt16
  exact (w32_id (x := (Int32.ofInt x).toInt16.toInt) (by omega) (by omega)).symm
theorem lc_eq (x y : Int64) : lg_cmp x y = 0 ↔ x = y := by
  unfold lg_cmp
  simp only [gt_iff_lt, Int64.lt_iff_toInt_lt, ← Int64.toInt_inj]
  split
  · constructor
    · intro h; cases h
    · intro h; omega
  · split
    · next h => exact ⟨fun _ => h, fun _ => rfl⟩
    · next h => exact ⟨fun q => (by cases q), fun q => absurd q h⟩
theorem lc_lt (x y : Int64) : lg_cmp x y < 0 ↔ x < y := by
  unfold lg_cmp
  simp only [gt_iff_lt, Int64.lt_iff_toInt_lt, ← Int64.toInt_inj]
  split
  · exact ⟨fun q => absurd q (by decide), fun q => by omega⟩
  · split
    · exact ⟨fun q => absurd q (by decide), fun q => by omega⟩
    · exact ⟨fun _ => by omega, fun _ => by decide⟩
theorem lc_gt (x y : Int64) : 0 < lg_cmp x y ↔ y < x := by
  unfold lg_cmp
  simp only [gt_iff_lt, Int64.lt_iff_toInt_lt, ← Int64.toInt_inj]
  split
  · next h => exact ⟨fun _ => h, fun _ => by decide⟩
  · split
    · exact ⟨fun q => absurd q (by decide), fun q => by omega⟩
    · exact ⟨fun q => absurd q (by decide), fun q => by omega⟩
theorem lc_ge (x y : Int64) : 0 ≤ lg_cmp x y ↔ y ≤ x := lg_cmp_ge x y
theorem lc_le (x y : Int64) : lg_cmp x y ≤ 0 ↔ x ≤ y := by
  unfold lg_cmp
  simp only [gt_iff_lt, Int64.lt_iff_toInt_lt, Int64.le_iff_toInt_le, ← Int64.toInt_inj]
  split
  · exact ⟨fun q => absurd q (by decide), fun q => by omega⟩
  · split
    · exact ⟨fun _ => by omega, fun _ => by decide⟩
    · exact ⟨fun _ => by omega, fun _ => by decide⟩
section ROWS
variable {p : Program} {l : Launch} {e : Env} {R : Room} {s : State} {m : MethodId} {args : Array Value} {below : List Frame} {meth : Method} {c : Code} {Q : State → Prop}
variable {D : va_G} {Y : Nat → ClassId} {LB : List (Nat × Nat)} {A : Nat → Prop} {cc : ByteArray} {nL : Nat} {own : String} {ret : Option FieldType} {α : Adr} {cells slots : Nat} {lo lo' : List (Nat × Value)} {sk : List Value} {μ : Mem} {pc : Nat}
theorem CX.hx (h : CX p s m args meth c cc nL own ret D Y LB A) : p.tables.exec = Jvm.exec := h.1
theorem CX.hb (h : CX p s m args meth c cc nL own ret D Y LB A) : c.code = cc := h.2.1
theorem CX.hml (h : CX p s m args meth c cc nL own ret D Y LB A) : c.maxLocals = nL := h.2.2.1
theorem CX.hown (h : CX p s m args meth c cc nL own ret D Y LB A) : s.vm.findClass own = some m.cls := h.2.2.2.1
theorem CX.hts (h : CX p s m args meth c cc nL own ret D Y LB A) : ∀ w ∈ TB, w.before args s = true := h.2.2.2.2.1
theorem CX.hK (h : CX p s m args meth c cc nL own ret D Y LB A) : va_K D vwCl (tyl Y) s := h.2.2.2.2.2.1
theorem CX.hA (h : CX p s m args meth c cc nL own ret D Y LB A) : ∀ q, s.heap.size ≤ q → A q := h.2.2.2.2.2.2.1
theorem CX.hr (h : CX p s m args meth c cc nL own ret D Y LB A) : meth.sig.returnType = ret := h.2.2.2.2.2.2.2.1
theorem CX.hlk (h : CX p s m args meth c cc nL own ret D Y LB A) : meth.locks = false := h.2.2.2.2.2.2.2.2.1
theorem CX.hnw (h : CX p s m args meth c cc nL own ret D Y LB A) : NwOk s := h.2.2.2.2.2.2.2.2.2.1
theorem CX.hnd (h : CX p s m args meth c cc nL own ret D Y LB A) : LB.Nodup := h.2.2.2.2.2.2.2.2.2.2
theorem g_iconst (C : CX p s m args meth c cc nL own ret D Y LB A) {n : Int} (hd : decode cc pc = .ok (.iconst n, 1)) (k : GG D Y LB A p l e R s m args below meth c nL Q α cells slots lo (vi n :: sk) μ (pc + 1)) : GG D Y LB A p l e R s m args below meth c nL Q α cells slots lo sk μ pc := fun H locs ls hP hD hS hl => lv_iconst C.hx C.hb hd rfl (k H locs ls hP hD hS hl)
theorem g_bipush (C : CX p s m args meth c cc nL own ret D Y LB A) {n : Int} (hv : (Int8.ofInt n).toInt32 = Int32.ofInt n) (hd : decode cc pc = .ok (.bipush n, 2)) (k : GG D Y LB A p l e R s m args below meth c nL Q α cells slots lo (vi n :: sk) μ (pc + 2)) : GG D Y LB A p l e R s m args below meth c nL Q α cells slots lo sk μ pc := fun H locs ls hP hD hS hl => lv_bipush C.hx C.hb hd hv (k H locs ls hP hD hS hl)
theorem g_sipush (C : CX p s m args meth c cc nL own ret D Y LB A) {n : Int} (hv : (Int16.ofInt n).toInt32 = Int32.ofInt n) (hd : decode cc pc = .ok (.sipush n, 3)) (k : GG D Y LB A p l e R s m args below meth c nL Q α cells slots lo (vi n :: sk) μ (pc + 3)) : GG D Y LB A p l e R s m args below meth c nL Q α cells slots lo sk μ pc := fun H locs ls hP hD hS hl => lv_sipush C.hx C.hb hd hv (k H locs ls hP hD hS hl)
theorem g_lconst (C : CX p s m args meth c cc nL own ret D Y LB A) {n : Fin 2} {x : Int} (hv : Int64.ofNat (n : Nat) = Int64.ofInt x) (hd : decode cc pc = .ok (.lconst n, 1)) (k : GG D Y LB A p l e R s m args below meth c nL Q α cells slots lo (vl x :: sk) μ (pc + 1)) : GG D Y LB A p l e R s m args below meth c nL Q α cells slots lo sk μ pc := fun H locs ls hP hD hS hl => lv_lconst C.hx C.hb hd hv (k H locs ls hP hD hS hl)
theorem g_ldc (C : CX p s m args meth c cc nL own ret D Y LB A) {idx : Nat} {x : Int} (hw : Cond.constant own idx (Int32.ofInt x) ∈ TB) (hd : decode cc pc = .ok (.ldc idx, 2)) (k : GG D Y LB A p l e R s m args below meth c nL Q α cells slots lo (vi x :: sk) μ (pc + 2)) : GG D Y LB A p l e R s m args below meth c nL Q α cells slots lo sk μ pc := fun H locs ls hP hD hS hl => lv_ldc C.hx C.hb C.hown (C.hts _ hw) hd (k H locs ls hP hD hS hl)
theorem g_ldcw (C : CX p s m args meth c cc nL own ret D Y LB A) {idx : Nat} {x : Int} (hw : Cond.constant own idx (Int32.ofInt x) ∈ TB) (hd : decode cc pc = .ok (.ldc_w idx, 3)) (k : GG D Y LB A p l e R s m args below meth c nL Q α cells slots lo (vi x :: sk) μ (pc + 3)) : GG D Y LB A p l e R s m args below meth c nL Q α cells slots lo sk μ pc := fun H locs ls hP hD hS hl => lv_ldcw C.hx C.hb C.hown (C.hts _ hw) hd (k H locs ls hP hD hS hl)
theorem g_ldc2 (C : CX p s m args meth c cc nL own ret D Y LB A) {idx : Nat} {x : Int} (hw : Cond.constantLong own idx (Int64.ofInt x) ∈ TB) (hd : decode cc pc = .ok (.ldc2_w idx, 3)) (k : GG D Y LB A p l e R s m args below meth c nL Q α cells slots lo (vl x :: sk) μ (pc + 3)) : GG D Y LB A p l e R s m args below meth c nL Q α cells slots lo sk μ pc := fun H locs ls hP hD hS hl => lv_ldc2 C.hx C.hb C.hown (C.hts _ hw) hd (k H locs ls hP hD hS hl)
theorem g_ild_n (C : CX p s m args meth c cc nL own ret D Y LB A) {kf : Fin 4} {i : Nat} {x : Int} (j : Nat) (hi : (kf : Nat) = i) (hj : lo[j]? = some (i, vi x)) (hd : decode cc pc = .ok (.iload_n kf, 1)) (k : GG D Y LB A p l e R s m args below meth c nL Q α cells slots lo (vi x :: sk) μ (pc + 1)) : GG D Y LB A p l e R s m args below meth c nL Q α cells slots lo sk μ pc := fun H locs ls hP hD hS hl => lv_iload_n C.hx C.hb hd hi (lv_at hl j hj) (k H locs ls hP hD hS hl)
theorem g_ild (C : CX p s m args meth c cc nL own ret D Y LB A) {i : Nat} {x : Int} (j : Nat) (hj : lo[j]? = some (i, vi x)) (hd : decode cc pc = .ok (.iload i, 2)) (k : GG D Y LB A p l e R s m args below meth c nL Q α cells slots lo (vi x :: sk) μ (pc + 2)) : GG D Y LB A p l e R s m args below meth c nL Q α cells slots lo sk μ pc := fun H locs ls hP hD hS hl => lv_iload C.hx C.hb hd (lv_at hl j hj) (k H locs ls hP hD hS hl)
theorem g_lld_n (C : CX p s m args meth c cc nL own ret D Y LB A) {kf : Fin 4} {i : Nat} {x : Int} (j : Nat) (hi : (kf : Nat) = i) (hj : lo[j]? = some (i, vl x)) (hd : decode cc pc = .ok (.lload_n kf, 1)) (k : GG D Y LB A p l e R s m args below meth c nL Q α cells slots lo (vl x :: sk) μ (pc + 1)) : GG D Y LB A p l e R s m args below meth c nL Q α cells slots lo sk μ pc := fun H locs ls hP hD hS hl => lv_lload_n C.hx C.hb hd hi (lv_at hl j hj) (k H locs ls hP hD hS hl)
theorem g_lld (C : CX p s m args meth c cc nL own ret D Y LB A) {i : Nat} {x : Int} (j : Nat) (hj : lo[j]? = some (i, vl x)) (hd : decode cc pc = .ok (.lload i, 2)) (k : GG D Y LB A p l e R s m args below meth c nL Q α cells slots lo (vl x :: sk) μ (pc + 2)) : GG D Y LB A p l e R s m args below meth c nL Q α cells slots lo sk μ pc := fun H locs ls hP hD hS hl => lv_lload C.hx C.hb hd (lv_at hl j hj) (k H locs ls hP hD hS hl)
theorem g_ald_n (C : CX p s m args meth c cc nL own ret D Y LB A) {kf : Fin 4} {i x : Nat} (j : Nat) (hi : (kf : Nat) = i) (hj : lo[j]? = some (i, .ref x)) (hd : decode cc pc = .ok (.aload_n kf, 1)) (k : GG D Y LB A p l e R s m args below meth c nL Q α cells slots lo (.ref x :: sk) μ (pc + 1)) : GG D Y LB A p l e R s m args below meth c nL Q α cells slots lo sk μ pc := fun H locs ls hP hD hS hl => lv_aload_n C.hx C.hb hd hi (lv_at hl j hj) (k H locs ls hP hD hS hl)
theorem g_ald (C : CX p s m args meth c cc nL own ret D Y LB A) {i x : Nat} (j : Nat) (hj : lo[j]? = some (i, .ref x)) (hd : decode cc pc = .ok (.aload i, 2)) (k : GG D Y LB A p l e R s m args below meth c nL Q α cells slots lo (.ref x :: sk) μ (pc + 2)) : GG D Y LB A p l e R s m args below meth c nL Q α cells slots lo sk μ pc := fun H locs ls hP hD hS hl => lv_aload C.hx C.hb hd (lv_at hl j hj) (k H locs ls hP hD hS hl)
theorem g_ist_n (C : CX p s m args meth c cc nL own ret D Y LB A) {kf : Fin 4} {i : Nat} {x : Int} (hi : (kf : Nat) = i) (hn : i < nL) (hlo : (i, vi x) :: lo.filter (fun q => !(q.1 == i) && !(q.1 + 1 == i && q.2.category == 2)) = lo') (hd : decode cc pc = .ok (.istore_n kf, 1)) (k : GG D Y LB A p l e R s m args below meth c nL Q α cells slots lo' sk μ (pc + 1)) : GG D Y LB A p l e R s m args below meth c nL Q α cells slots lo (vi x :: sk) μ pc := fun H locs ls hP hD hS hl => lv_istore_n C.hx C.hb hd hi hl hn hlo (fun ls hl => k H locs ls hP hD hS hl)
theorem g_ist (C : CX p s m args meth c cc nL own ret D Y LB A) {i : Nat} {x : Int} (hn : i < nL) (hlo : (i, vi x) :: lo.filter (fun q => !(q.1 == i) && !(q.1 + 1 == i && q.2.category == 2)) = lo') (hd : decode cc pc = .ok (.istore i, 2)) (k : GG D Y LB A p l e R s m args below meth c nL Q α cells slots lo' sk μ (pc + 2)) : GG D Y LB A p l e R s m args below meth c nL Q α cells slots lo (vi x :: sk) μ pc := fun H locs ls hP hD hS hl => lv_istore C.hx C.hb hd hl hn hlo (fun ls hl => k H locs ls hP hD hS hl)
theorem g_lst_n (C : CX p s m args meth c cc nL own ret D Y LB A) {kf : Fin 4} {i : Nat} {x : Int} (hi : (kf : Nat) = i) (hn : i + 1 < nL) (hlo : (i, vl x) :: lo.filter (fun q => !(q.1 == i) && (!(q.1 == i + 1) && !(q.1 + 1 == i && q.2.category == 2))) = lo') (hd : decode cc pc = .ok (.lstore_n kf, 1)) (k : GG D Y LB A p l e R s m args below meth c nL Q α cells slots lo' sk μ (pc + 1)) : GG D Y LB A p l e R s m args below meth c nL Q α cells slots lo (vl x :: sk) μ pc := fun H locs ls hP hD hS hl => lv_lstore_n C.hx C.hb hd hi hl hn hlo (fun ls hl => k H locs ls hP hD hS hl)
theorem g_lst (C : CX p s m args meth c cc nL own ret D Y LB A) {i : Nat} {x : Int} (hn : i + 1 < nL) (hlo : (i, vl x) :: lo.filter (fun q => !(q.1 == i) && (!(q.1 == i + 1) && !(q.1 + 1 == i && q.2.category == 2))) = lo') (hd : decode cc pc = .ok (.lstore i, 2)) (k : GG D Y LB A p l e R s m args below meth c nL Q α cells slots lo' sk μ (pc + 2)) : GG D Y LB A p l e R s m args below meth c nL Q α cells slots lo (vl x :: sk) μ pc := fun H locs ls hP hD hS hl => lv_lstore C.hx C.hb hd hl hn hlo (fun ls hl => k H locs ls hP hD hS hl)
theorem g_ast_n (C : CX p s m args meth c cc nL own ret D Y LB A) {kf : Fin 4} {i : Nat} {x : Nat} (hi : (kf : Nat) = i) (hn : i < nL) (hlo : (i, Value.ref x) :: lo.filter (fun q => !(q.1 == i) && !(q.1 + 1 == i && q.2.category == 2)) = lo') (hd : decode cc pc = .ok (.astore_n kf, 1)) (k : GG D Y LB A p l e R s m args below meth c nL Q α cells slots lo' sk μ (pc + 1)) : GG D Y LB A p l e R s m args below meth c nL Q α cells slots lo (Value.ref x :: sk) μ pc := fun H locs ls hP hD hS hl => lv_astore_n C.hx C.hb hd hi hl hn hlo (fun ls hl => k H locs ls hP hD hS hl)
theorem g_ast (C : CX p s m args meth c cc nL own ret D Y LB A) {i : Nat} {x : Nat} (hn : i < nL) (hlo : (i, Value.ref x) :: lo.filter (fun q => !(q.1 == i) && !(q.1 + 1 == i && q.2.category == 2)) = lo') (hd : decode cc pc = .ok (.astore i, 2)) (k : GG D Y LB A p l e R s m args below meth c nL Q α cells slots lo' sk μ (pc + 2)) : GG D Y LB A p l e R s m args below meth c nL Q α cells slots lo (Value.ref x :: sk) μ pc := fun H locs ls hP hD hS hl => lv_astore C.hx C.hb hd hl hn hlo (fun ls hl => k H locs ls hP hD hS hl)
theorem g_iinc (C : CX p s m args meth c cc nL own ret D Y LB A) {i : Nat} {n x : Int} (j : Nat) (hj : lo[j]? = some (i, vi x)) (hn : i < nL) (hlo : (i, vi (x + n)) :: lo.filter (fun q => !(q.1 == i) && !(q.1 + 1 == i && q.2.category == 2)) = lo') (hd : decode cc pc = .ok (.iinc i n, 3)) (k : GG D Y LB A p l e R s m args below meth c nL Q α cells slots lo' sk μ (pc + 3)) : GG D Y LB A p l e R s m args below meth c nL Q α cells slots lo sk μ pc := fun H locs ls hP hD hS hl => lv_iinc (v := Int32.ofInt (x + n)) C.hx C.hb hd hl hj (i_add x n).symm hn hlo (fun ls hl => k H locs ls hP hD hS hl)
theorem g_iadd (C : CX p s m args meth c cc nL own ret D Y LB A) {x y : Int}  (hd : decode cc pc = .ok (.iadd, 1)) (k : GG D Y LB A p l e R s m args below meth c nL Q α cells slots lo (vi (x + y) :: sk) μ (pc + 1)) : GG D Y LB A p l e R s m args below meth c nL Q α cells slots lo (vi y :: vi x :: sk) μ pc := fun H locs ls hP hD hS hl => lv_iadd C.hx C.hb hd  (by rw [← i_add]; exact k H locs ls hP hD hS hl)
theorem g_isub (C : CX p s m args meth c cc nL own ret D Y LB A) {x y : Int}  (hd : decode cc pc = .ok (.isub, 1)) (k : GG D Y LB A p l e R s m args below meth c nL Q α cells slots lo (vi (x - y) :: sk) μ (pc + 1)) : GG D Y LB A p l e R s m args below meth c nL Q α cells slots lo (vi y :: vi x :: sk) μ pc := fun H locs ls hP hD hS hl => lv_isub C.hx C.hb hd  (by rw [← i_sub]; exact k H locs ls hP hD hS hl)
theorem g_imul (C : CX p s m args meth c cc nL own ret D Y LB A) {x y : Int}  (hd : decode cc pc = .ok (.imul, 1)) (k : GG D Y LB A p l e R s m args below meth c nL Q α cells slots lo (vi (x * y) :: sk) μ (pc + 1)) : GG D Y LB A p l e R s m args below meth c nL Q α cells slots lo (vi y :: vi x :: sk) μ pc := fun H locs ls hP hD hS hl => lv_imul C.hx C.hb hd  (by rw [← i_mul]; exact k H locs ls hP hD hS hl)
theorem g_ladd (C : CX p s m args meth c cc nL own ret D Y LB A) {x y : Int}  (hd : decode cc pc = .ok (.ladd, 1)) (k : GG D Y LB A p l e R s m args below meth c nL Q α cells slots lo (vl (x + y) :: sk) μ (pc + 1)) : GG D Y LB A p l e R s m args below meth c nL Q α cells slots lo (vl y :: vl x :: sk) μ pc := fun H locs ls hP hD hS hl => lv_ladd C.hx C.hb hd  (by rw [← l_add]; exact k H locs ls hP hD hS hl)
theorem g_lsub (C : CX p s m args meth c cc nL own ret D Y LB A) {x y : Int}  (hd : decode cc pc = .ok (.lsub, 1)) (k : GG D Y LB A p l e R s m args below meth c nL Q α cells slots lo (vl (x - y) :: sk) μ (pc + 1)) : GG D Y LB A p l e R s m args below meth c nL Q α cells slots lo (vl y :: vl x :: sk) μ pc := fun H locs ls hP hD hS hl => lv_lsub C.hx C.hb hd  (by rw [← l_sub]; exact k H locs ls hP hD hS hl)
theorem g_lmul (C : CX p s m args meth c cc nL own ret D Y LB A) {x y : Int}  (hd : decode cc pc = .ok (.lmul, 1)) (k : GG D Y LB A p l e R s m args below meth c nL Q α cells slots lo (vl (x * y) :: sk) μ (pc + 1)) : GG D Y LB A p l e R s m args below meth c nL Q α cells slots lo (vl y :: vl x :: sk) μ pc := fun H locs ls hP hD hS hl => lv_lmul C.hx C.hb hd  (by rw [← l_mul]; exact k H locs ls hP hD hS hl)
theorem g_idiv (C : CX p s m args meth c cc nL own ret D Y LB A) {x y : Int} (h0 : ¬ w32 y = 0) (hd : decode cc pc = .ok (.idiv, 1)) (k : GG D Y LB A p l e R s m args below meth c nL Q α cells slots lo (vi (Int.tdiv (w32 x) (w32 y)) :: sk) μ (pc + 1)) : GG D Y LB A p l e R s m args below meth c nL Q α cells slots lo (vi y :: vi x :: sk) μ pc := fun H locs ls hP hD hS hl => lv_idiv C.hx C.hb hd (fun q => h0 ((i_0 y).mp q)) (by rw [← i_div]; exact k H locs ls hP hD hS hl)
theorem g_ldiv (C : CX p s m args meth c cc nL own ret D Y LB A) {x y : Int} (h0 : ¬ w64 y = 0) (hd : decode cc pc = .ok (.ldiv, 1)) (k : GG D Y LB A p l e R s m args below meth c nL Q α cells slots lo (vl (Int.tdiv (w64 x) (w64 y)) :: sk) μ (pc + 1)) : GG D Y LB A p l e R s m args below meth c nL Q α cells slots lo (vl y :: vl x :: sk) μ pc := fun H locs ls hP hD hS hl => lv_ldiv C.hx C.hb hd (fun q => h0 ((l_0 y).mp q)) (by rw [← l_div]; exact k H locs ls hP hD hS hl)
theorem g_irem (C : CX p s m args meth c cc nL own ret D Y LB A) {x y : Int} (h0 : ¬ w32 y = 0) (hd : decode cc pc = .ok (.irem, 1)) (k : GG D Y LB A p l e R s m args below meth c nL Q α cells slots lo (vi (Int.tmod (w32 x) (w32 y)) :: sk) μ (pc + 1)) : GG D Y LB A p l e R s m args below meth c nL Q α cells slots lo (vi y :: vi x :: sk) μ pc := fun H locs ls hP hD hS hl => lv_irem C.hx C.hb hd (fun q => h0 ((i_0 y).mp q)) (by rw [← i_rem]; exact k H locs ls hP hD hS hl)
theorem g_lrem (C : CX p s m args meth c cc nL own ret D Y LB A) {x y : Int} (h0 : ¬ w64 y = 0) (hd : decode cc pc = .ok (.lrem, 1)) (k : GG D Y LB A p l e R s m args below meth c nL Q α cells slots lo (vl (Int.tmod (w64 x) (w64 y)) :: sk) μ (pc + 1)) : GG D Y LB A p l e R s m args below meth c nL Q α cells slots lo (vl y :: vl x :: sk) μ pc := fun H locs ls hP hD hS hl => lv_lrem C.hx C.hb hd (fun q => h0 ((l_0 y).mp q)) (by rw [← l_rem]; exact k H locs ls hP hD hS hl)
theorem g_iand (C : CX p s m args meth c cc nL own ret D Y LB A) {x y : Int} (hd : decode cc pc = .ok (.iand, 1)) (k : GG D Y LB A p l e R s m args below meth c nL Q α cells slots lo (vi (ian x y) :: sk) μ (pc + 1)) : GG D Y LB A p l e R s m args below meth c nL Q α cells slots lo (vi y :: vi x :: sk) μ pc := fun H locs ls hP hD hS hl => lv_iand C.hx C.hb hd (by have k2 := k H locs ls hP hD hS hl; unfold vi ian at k2; rw [Int32.ofInt_toInt] at k2; exact k2)
theorem g_ior (C : CX p s m args meth c cc nL own ret D Y LB A) {x y : Int} (hd : decode cc pc = .ok (.ior, 1)) (k : GG D Y LB A p l e R s m args below meth c nL Q α cells slots lo (vi (ior x y) :: sk) μ (pc + 1)) : GG D Y LB A p l e R s m args below meth c nL Q α cells slots lo (vi y :: vi x :: sk) μ pc := fun H locs ls hP hD hS hl => lv_ior C.hx C.hb hd (by have k2 := k H locs ls hP hD hS hl; unfold vi ior at k2; rw [Int32.ofInt_toInt] at k2; exact k2)
theorem g_ixor (C : CX p s m args meth c cc nL own ret D Y LB A) {x y : Int} (hd : decode cc pc = .ok (.ixor, 1)) (k : GG D Y LB A p l e R s m args below meth c nL Q α cells slots lo (vi (ixo x y) :: sk) μ (pc + 1)) : GG D Y LB A p l e R s m args below meth c nL Q α cells slots lo (vi y :: vi x :: sk) μ pc := fun H locs ls hP hD hS hl => lv_ixor C.hx C.hb hd (by have k2 := k H locs ls hP hD hS hl; unfold vi ixo at k2; rw [Int32.ofInt_toInt] at k2; exact k2)
theorem g_ishl (C : CX p s m args meth c cc nL own ret D Y LB A) {x y : Int} (hd : decode cc pc = .ok (.ishl, 1)) (k : GG D Y LB A p l e R s m args below meth c nL Q α cells slots lo (vi (ishl x y) :: sk) μ (pc + 1)) : GG D Y LB A p l e R s m args below meth c nL Q α cells slots lo (vi y :: vi x :: sk) μ pc := fun H locs ls hP hD hS hl => lv_ishl C.hx C.hb hd (by have k2 := k H locs ls hP hD hS hl; unfold vi ishl at k2; rw [Int32.ofInt_toInt] at k2; exact k2)
theorem g_ishr (C : CX p s m args meth c cc nL own ret D Y LB A) {x y : Int} (hd : decode cc pc = .ok (.ishr, 1)) (k : GG D Y LB A p l e R s m args below meth c nL Q α cells slots lo (vi (ishr x y) :: sk) μ (pc + 1)) : GG D Y LB A p l e R s m args below meth c nL Q α cells slots lo (vi y :: vi x :: sk) μ pc := fun H locs ls hP hD hS hl => lv_ishr C.hx C.hb hd (by have k2 := k H locs ls hP hD hS hl; unfold vi ishr at k2; rw [Int32.ofInt_toInt] at k2; exact k2)
theorem g_iushr (C : CX p s m args meth c cc nL own ret D Y LB A) {x y : Int} (hd : decode cc pc = .ok (.iushr, 1)) (k : GG D Y LB A p l e R s m args below meth c nL Q α cells slots lo (vi (iush x y) :: sk) μ (pc + 1)) : GG D Y LB A p l e R s m args below meth c nL Q α cells slots lo (vi y :: vi x :: sk) μ pc := fun H locs ls hP hD hS hl => lv_iushr (v := Int32.ofInt (iush x y)) C.hx C.hb hd (Int32.ofInt_toInt _).symm (k H locs ls hP hD hS hl)
theorem g_i2l (C : CX p s m args meth c cc nL own ret D Y LB A) {x : Int} (hd : decode cc pc = .ok (.i2l, 1)) (k : GG D Y LB A p l e R s m args below meth c nL Q α cells slots lo (vl (w32 x) :: sk) μ (pc + 1)) : GG D Y LB A p l e R s m args below meth c nL Q α cells slots lo (vi x :: sk) μ pc := fun H locs ls hP hD hS hl => lv_i2l C.hx C.hb hd (i_2l x) (k H locs ls hP hD hS hl)
theorem g_l2i (C : CX p s m args meth c cc nL own ret D Y LB A) {x : Int} (hd : decode cc pc = .ok (.l2i, 1)) (k : GG D Y LB A p l e R s m args below meth c nL Q α cells slots lo (vi x :: sk) μ (pc + 1)) : GG D Y LB A p l e R s m args below meth c nL Q α cells slots lo (vl x :: sk) μ pc := fun H locs ls hP hD hS hl => lv_l2i C.hx C.hb hd (l_2i x) (k H locs ls hP hD hS hl)
theorem g_i2b (C : CX p s m args meth c cc nL own ret D Y LB A) {x : Int} (hd : decode cc pc = .ok (.i2b, 1)) (k : GG D Y LB A p l e R s m args below meth c nL Q α cells slots lo (vi (i8 x) :: sk) μ (pc + 1)) : GG D Y LB A p l e R s m args below meth c nL Q α cells slots lo (vi x :: sk) μ pc := fun H locs ls hP hD hS hl => lv_i2b (v := Int32.ofInt (i8 x)) C.hx C.hb hd (i_8 x) (k H locs ls hP hD hS hl)
theorem g_i2s (C : CX p s m args meth c cc nL own ret D Y LB A) {x : Int} (hd : decode cc pc = .ok (.i2s, 1)) (k : GG D Y LB A p l e R s m args below meth c nL Q α cells slots lo (vi (i16 x) :: sk) μ (pc + 1)) : GG D Y LB A p l e R s m args below meth c nL Q α cells slots lo (vi x :: sk) μ pc := fun H locs ls hP hD hS hl => lv_i2s (v := Int32.ofInt (i16 x)) C.hx C.hb hd (i_16 x) (k H locs ls hP hD hS hl)
theorem g_dup (C : CX p s m args meth c cc nL own ret D Y LB A) {v : Value} (hv : v.category = 1) (hd : decode cc pc = .ok (.dup, 1)) (k : GG D Y LB A p l e R s m args below meth c nL Q α cells slots lo (v :: v :: sk) μ (pc + 1)) : GG D Y LB A p l e R s m args below meth c nL Q α cells slots lo (v :: sk) μ pc := fun H locs ls hP hD hS hl => lv_dup C.hx C.hb hd hv (k H locs ls hP hD hS hl)
theorem g_pop (C : CX p s m args meth c cc nL own ret D Y LB A) {v : Value} (hv : v.category = 1) (hd : decode cc pc = .ok (.pop, 1)) (k : GG D Y LB A p l e R s m args below meth c nL Q α cells slots lo sk μ (pc + 1)) : GG D Y LB A p l e R s m args below meth c nL Q α cells slots lo (v :: sk) μ pc := fun H locs ls hP hD hS hl => lv_pop C.hx C.hb hd hv (k H locs ls hP hD hS hl)
theorem g_dup2 (C : CX p s m args meth c cc nL own ret D Y LB A) {v w : Value} (hv : v.category = 1) (hw : w.category = 1) (hd : decode cc pc = .ok (.dup2, 1)) (k : GG D Y LB A p l e R s m args below meth c nL Q α cells slots lo (v :: w :: v :: w :: sk) μ (pc + 1)) : GG D Y LB A p l e R s m args below meth c nL Q α cells slots lo (v :: w :: sk) μ pc := fun H locs ls hP hD hS hl => lv_dup2_11 C.hx C.hb hd hv hw (k H locs ls hP hD hS hl)
theorem g_dupx1 (C : CX p s m args meth c cc nL own ret D Y LB A) {v w : Value} (hv : v.category = 1) (hw : w.category = 1) (hd : decode cc pc = .ok (.dup_x1, 1)) (k : GG D Y LB A p l e R s m args below meth c nL Q α cells slots lo (v :: w :: v :: sk) μ (pc + 1)) : GG D Y LB A p l e R s m args below meth c nL Q α cells slots lo (v :: w :: sk) μ pc := fun H locs ls hP hD hS hl => lv_dup_x1 C.hx C.hb hd hv hw (k H locs ls hP hD hS hl)
theorem g_if_eq (C : CX p s m args meth c cc nL own ret D Y LB A) {x : Int} {off : Int} (tgt : Nat) (ht : (pc : Int) + off = (tgt : Int)) (hd : decode cc pc = .ok (.ifCond .eq off, 3)) (kt : w32 x = 0 → GG D Y LB A p l e R s m args below meth c nL Q α cells slots lo sk μ tgt) (kf : ¬ w32 x = 0 → GG D Y LB A p l e R s m args below meth c nL Q α cells slots lo sk μ (pc + 3)) : GG D Y LB A p l e R s m args below meth c nL Q α cells slots lo (vi x :: sk) μ pc := fun H locs ls hP hD hS hl => lv_if_eq C.hx C.hb hd ht (fun q => kt ((i_0 x).mp q) H locs ls hP hD hS hl) (fun q => kf (fun z => q ((i_0 x).mpr z)) H locs ls hP hD hS hl)
theorem g_if_lt (C : CX p s m args meth c cc nL own ret D Y LB A) {x : Int} {off : Int} (tgt : Nat) (ht : (pc : Int) + off = (tgt : Int)) (hd : decode cc pc = .ok (.ifCond .lt off, 3)) (kt : w32 x < 0 → GG D Y LB A p l e R s m args below meth c nL Q α cells slots lo sk μ tgt) (kf : ¬ w32 x < 0 → GG D Y LB A p l e R s m args below meth c nL Q α cells slots lo sk μ (pc + 3)) : GG D Y LB A p l e R s m args below meth c nL Q α cells slots lo (vi x :: sk) μ pc := fun H locs ls hP hD hS hl => lv_if_lt C.hx C.hb hd ht (fun q => kt ((i_lt0 x).mp q) H locs ls hP hD hS hl) (fun q => kf (fun z => q ((i_lt0 x).mpr z)) H locs ls hP hD hS hl)
theorem g_if_ge (C : CX p s m args meth c cc nL own ret D Y LB A) {x : Int} {off : Int} (tgt : Nat) (ht : (pc : Int) + off = (tgt : Int)) (hd : decode cc pc = .ok (.ifCond .ge off, 3)) (kt : 0 ≤ w32 x → GG D Y LB A p l e R s m args below meth c nL Q α cells slots lo sk μ tgt) (kf : ¬ 0 ≤ w32 x → GG D Y LB A p l e R s m args below meth c nL Q α cells slots lo sk μ (pc + 3)) : GG D Y LB A p l e R s m args below meth c nL Q α cells slots lo (vi x :: sk) μ pc := fun H locs ls hP hD hS hl => lv_if_ge C.hx C.hb hd ht (fun q => kt ((i_ge0 x).mp q) H locs ls hP hD hS hl) (fun q => kf (fun z => q ((i_ge0 x).mpr z)) H locs ls hP hD hS hl)
theorem g_if_gt (C : CX p s m args meth c cc nL own ret D Y LB A) {x : Int} {off : Int} (tgt : Nat) (ht : (pc : Int) + off = (tgt : Int)) (hd : decode cc pc = .ok (.ifCond .gt off, 3)) (kt : 0 < w32 x → GG D Y LB A p l e R s m args below meth c nL Q α cells slots lo sk μ tgt) (kf : ¬ 0 < w32 x → GG D Y LB A p l e R s m args below meth c nL Q α cells slots lo sk μ (pc + 3)) : GG D Y LB A p l e R s m args below meth c nL Q α cells slots lo (vi x :: sk) μ pc := fun H locs ls hP hD hS hl => lv_if_gt C.hx C.hb hd ht (fun q => kt ((i_gt0 x).mp q) H locs ls hP hD hS hl) (fun q => kf (fun z => q ((i_gt0 x).mpr z)) H locs ls hP hD hS hl)
theorem g_if_le (C : CX p s m args meth c cc nL own ret D Y LB A) {x : Int} {off : Int} (tgt : Nat) (ht : (pc : Int) + off = (tgt : Int)) (hd : decode cc pc = .ok (.ifCond .le off, 3)) (kt : w32 x ≤ 0 → GG D Y LB A p l e R s m args below meth c nL Q α cells slots lo sk μ tgt) (kf : ¬ w32 x ≤ 0 → GG D Y LB A p l e R s m args below meth c nL Q α cells slots lo sk μ (pc + 3)) : GG D Y LB A p l e R s m args below meth c nL Q α cells slots lo (vi x :: sk) μ pc := fun H locs ls hP hD hS hl => lv_if_le C.hx C.hb hd ht (fun q => kt ((i_le0 x).mp q) H locs ls hP hD hS hl) (fun q => kf (fun z => q ((i_le0 x).mpr z)) H locs ls hP hD hS hl)
theorem g_if_ne (C : CX p s m args meth c cc nL own ret D Y LB A) {x : Int} {off : Int} (tgt : Nat) (ht : (pc : Int) + off = (tgt : Int)) (hd : decode cc pc = .ok (.ifCond .ne off, 3)) (kf : w32 x = 0 → GG D Y LB A p l e R s m args below meth c nL Q α cells slots lo sk μ (pc + 3)) (kt : ¬ w32 x = 0 → GG D Y LB A p l e R s m args below meth c nL Q α cells slots lo sk μ tgt) : GG D Y LB A p l e R s m args below meth c nL Q α cells slots lo (vi x :: sk) μ pc := fun H locs ls hP hD hS hl => lv_if_ne C.hx C.hb hd ht (fun q => kt (fun z => q ((i_0 x).mpr z)) H locs ls hP hD hS hl) (fun q => kf ((i_0 x).mp q) H locs ls hP hD hS hl)
theorem g_ic_eq (C : CX p s m args meth c cc nL own ret D Y LB A) {x y : Int} {off : Int} (tgt : Nat) (ht : (pc : Int) + off = (tgt : Int)) (hd : decode cc pc = .ok (.if_icmp .eq off, 3)) (kt : w32 x = w32 y → GG D Y LB A p l e R s m args below meth c nL Q α cells slots lo sk μ tgt) (kf : ¬ w32 x = w32 y → GG D Y LB A p l e R s m args below meth c nL Q α cells slots lo sk μ (pc + 3)) : GG D Y LB A p l e R s m args below meth c nL Q α cells slots lo (vi y :: vi x :: sk) μ pc := fun H locs ls hP hD hS hl => lv_icmp_eq C.hx C.hb hd ht (fun q => kt ((i_eq (x := x) (y := y)).mp q) H locs ls hP hD hS hl) (fun q => kf (fun z => q ((i_eq (x := x) (y := y)).mpr z)) H locs ls hP hD hS hl)
theorem g_ic_lt (C : CX p s m args meth c cc nL own ret D Y LB A) {x y : Int} {off : Int} (tgt : Nat) (ht : (pc : Int) + off = (tgt : Int)) (hd : decode cc pc = .ok (.if_icmp .lt off, 3)) (kt : w32 x < w32 y → GG D Y LB A p l e R s m args below meth c nL Q α cells slots lo sk μ tgt) (kf : ¬ w32 x < w32 y → GG D Y LB A p l e R s m args below meth c nL Q α cells slots lo sk μ (pc + 3)) : GG D Y LB A p l e R s m args below meth c nL Q α cells slots lo (vi y :: vi x :: sk) μ pc := fun H locs ls hP hD hS hl => lv_icmp_lt C.hx C.hb hd ht (fun q => kt ((i_lt (x := x) (y := y)).mp q) H locs ls hP hD hS hl) (fun q => kf (fun z => q ((i_lt (x := x) (y := y)).mpr z)) H locs ls hP hD hS hl)
theorem g_ic_ge (C : CX p s m args meth c cc nL own ret D Y LB A) {x y : Int} {off : Int} (tgt : Nat) (ht : (pc : Int) + off = (tgt : Int)) (hd : decode cc pc = .ok (.if_icmp .ge off, 3)) (kt : w32 y ≤ w32 x → GG D Y LB A p l e R s m args below meth c nL Q α cells slots lo sk μ tgt) (kf : ¬ w32 y ≤ w32 x → GG D Y LB A p l e R s m args below meth c nL Q α cells slots lo sk μ (pc + 3)) : GG D Y LB A p l e R s m args below meth c nL Q α cells slots lo (vi y :: vi x :: sk) μ pc := fun H locs ls hP hD hS hl => lv_icmp_ge C.hx C.hb hd ht (fun q => kt ((i_le (x := y) (y := x)).mp q) H locs ls hP hD hS hl) (fun q => kf (fun z => q ((i_le (x := y) (y := x)).mpr z)) H locs ls hP hD hS hl)
theorem g_ic_gt (C : CX p s m args meth c cc nL own ret D Y LB A) {x y : Int} {off : Int} (tgt : Nat) (ht : (pc : Int) + off = (tgt : Int)) (hd : decode cc pc = .ok (.if_icmp .gt off, 3)) (kt : w32 y < w32 x → GG D Y LB A p l e R s m args below meth c nL Q α cells slots lo sk μ tgt) (kf : ¬ w32 y < w32 x → GG D Y LB A p l e R s m args below meth c nL Q α cells slots lo sk μ (pc + 3)) : GG D Y LB A p l e R s m args below meth c nL Q α cells slots lo (vi y :: vi x :: sk) μ pc := fun H locs ls hP hD hS hl => lv_icmp_gt C.hx C.hb hd ht (fun q => kt ((i_lt (x := y) (y := x)).mp q) H locs ls hP hD hS hl) (fun q => kf (fun z => q ((i_lt (x := y) (y := x)).mpr z)) H locs ls hP hD hS hl)
theorem g_ic_le (C : CX p s m args meth c cc nL own ret D Y LB A) {x y : Int} {off : Int} (tgt : Nat) (ht : (pc : Int) + off = (tgt : Int)) (hd : decode cc pc = .ok (.if_icmp .le off, 3)) (kt : w32 x ≤ w32 y → GG D Y LB A p l e R s m args below meth c nL Q α cells slots lo sk μ tgt) (kf : ¬ w32 x ≤ w32 y → GG D Y LB A p l e R s m args below meth c nL Q α cells slots lo sk μ (pc + 3)) : GG D Y LB A p l e R s m args below meth c nL Q α cells slots lo (vi y :: vi x :: sk) μ pc := fun H locs ls hP hD hS hl => lv_icmp_le C.hx C.hb hd ht (fun q => kt ((i_le (x := x) (y := y)).mp q) H locs ls hP hD hS hl) (fun q => kf (fun z => q ((i_le (x := x) (y := y)).mpr z)) H locs ls hP hD hS hl)
theorem g_ic_ne (C : CX p s m args meth c cc nL own ret D Y LB A) {x y : Int} {off : Int} (tgt : Nat) (ht : (pc : Int) + off = (tgt : Int)) (hd : decode cc pc = .ok (.if_icmp .ne off, 3)) (kf : w32 x = w32 y → GG D Y LB A p l e R s m args below meth c nL Q α cells slots lo sk μ (pc + 3)) (kt : ¬ w32 x = w32 y → GG D Y LB A p l e R s m args below meth c nL Q α cells slots lo sk μ tgt) : GG D Y LB A p l e R s m args below meth c nL Q α cells slots lo (vi y :: vi x :: sk) μ pc := fun H locs ls hP hD hS hl => lv_icmp_ne C.hx C.hb hd ht (fun q => kt (fun z => q (i_eq.mpr z)) H locs ls hP hD hS hl) (fun q => kf (i_eq.mp q) H locs ls hP hD hS hl)
theorem g_goto (C : CX p s m args meth c cc nL own ret D Y LB A) {off : Int} (tgt : Nat) (ht : (pc : Int) + off = (tgt : Int)) (hd : decode cc pc = .ok (.goto off, 3)) (k : GG D Y LB A p l e R s m args below meth c nL Q α cells slots lo sk μ tgt) : GG D Y LB A p l e R s m args below meth c nL Q α cells slots lo sk μ pc := fun H locs ls hP hD hS hl => lv_goto C.hx C.hb hd ht (k H locs ls hP hD hS hl)
theorem g_lc_eq (C : CX p s m args meth c cc nL own ret D Y LB A) {x y : Int} {off : Int} (tgt : Nat) (ht : ((pc + 1 : Nat) : Int) + off = (tgt : Int)) (hd : decode cc pc = .ok (.lcmp, 1)) (hd2 : decode cc (pc + 1) = .ok (.ifCond .eq off, 3)) (kt : w64 x = w64 y → GG D Y LB A p l e R s m args below meth c nL Q α cells slots lo sk μ tgt) (kf : ¬ w64 x = w64 y → GG D Y LB A p l e R s m args below meth c nL Q α cells slots lo sk μ (pc + 4)) : GG D Y LB A p l e R s m args below meth c nL Q α cells slots lo (vl y :: vl x :: sk) μ pc := fun H locs ls hP hD hS hl => W.lcmp C.hx C.hb hd (lv_if_eq C.hx C.hb hd2 ht (fun q => kt ((l_eq (x := x) (y := y)).mp ((lc_eq _ _).mp q)) H locs ls hP hD hS hl) (fun q => kf (fun z => q ((lc_eq _ _).mpr ((l_eq (x := x) (y := y)).mpr z))) H locs ls hP hD hS hl))
theorem g_lc_lt (C : CX p s m args meth c cc nL own ret D Y LB A) {x y : Int} {off : Int} (tgt : Nat) (ht : ((pc + 1 : Nat) : Int) + off = (tgt : Int)) (hd : decode cc pc = .ok (.lcmp, 1)) (hd2 : decode cc (pc + 1) = .ok (.ifCond .lt off, 3)) (kt : w64 x < w64 y → GG D Y LB A p l e R s m args below meth c nL Q α cells slots lo sk μ tgt) (kf : ¬ w64 x < w64 y → GG D Y LB A p l e R s m args below meth c nL Q α cells slots lo sk μ (pc + 4)) : GG D Y LB A p l e R s m args below meth c nL Q α cells slots lo (vl y :: vl x :: sk) μ pc := fun H locs ls hP hD hS hl => W.lcmp C.hx C.hb hd (lv_if_lt C.hx C.hb hd2 ht (fun q => kt ((l_lt (x := x) (y := y)).mp ((lc_lt _ _).mp q)) H locs ls hP hD hS hl) (fun q => kf (fun z => q ((lc_lt _ _).mpr ((l_lt (x := x) (y := y)).mpr z))) H locs ls hP hD hS hl))
theorem g_lc_ge (C : CX p s m args meth c cc nL own ret D Y LB A) {x y : Int} {off : Int} (tgt : Nat) (ht : ((pc + 1 : Nat) : Int) + off = (tgt : Int)) (hd : decode cc pc = .ok (.lcmp, 1)) (hd2 : decode cc (pc + 1) = .ok (.ifCond .ge off, 3)) (kt : w64 y ≤ w64 x → GG D Y LB A p l e R s m args below meth c nL Q α cells slots lo sk μ tgt) (kf : ¬ w64 y ≤ w64 x → GG D Y LB A p l e R s m args below meth c nL Q α cells slots lo sk μ (pc + 4)) : GG D Y LB A p l e R s m args below meth c nL Q α cells slots lo (vl y :: vl x :: sk) μ pc := fun H locs ls hP hD hS hl => W.lcmp C.hx C.hb hd (lv_if_ge C.hx C.hb hd2 ht (fun q => kt ((l_le (x := y) (y := x)).mp ((lc_ge _ _).mp q)) H locs ls hP hD hS hl) (fun q => kf (fun z => q ((lc_ge _ _).mpr ((l_le (x := y) (y := x)).mpr z))) H locs ls hP hD hS hl))
theorem g_lc_gt (C : CX p s m args meth c cc nL own ret D Y LB A) {x y : Int} {off : Int} (tgt : Nat) (ht : ((pc + 1 : Nat) : Int) + off = (tgt : Int)) (hd : decode cc pc = .ok (.lcmp, 1)) (hd2 : decode cc (pc + 1) = .ok (.ifCond .gt off, 3)) (kt : w64 y < w64 x → GG D Y LB A p l e R s m args below meth c nL Q α cells slots lo sk μ tgt) (kf : ¬ w64 y < w64 x → GG D Y LB A p l e R s m args below meth c nL Q α cells slots lo sk μ (pc + 4)) : GG D Y LB A p l e R s m args below meth c nL Q α cells slots lo (vl y :: vl x :: sk) μ pc := fun H locs ls hP hD hS hl => W.lcmp C.hx C.hb hd (lv_if_gt C.hx C.hb hd2 ht (fun q => kt ((l_lt (x := y) (y := x)).mp ((lc_gt _ _).mp q)) H locs ls hP hD hS hl) (fun q => kf (fun z => q ((lc_gt _ _).mpr ((l_lt (x := y) (y := x)).mpr z))) H locs ls hP hD hS hl))
theorem g_lc_le (C : CX p s m args meth c cc nL own ret D Y LB A) {x y : Int} {off : Int} (tgt : Nat) (ht : ((pc + 1 : Nat) : Int) + off = (tgt : Int)) (hd : decode cc pc = .ok (.lcmp, 1)) (hd2 : decode cc (pc + 1) = .ok (.ifCond .le off, 3)) (kt : w64 x ≤ w64 y → GG D Y LB A p l e R s m args below meth c nL Q α cells slots lo sk μ tgt) (kf : ¬ w64 x ≤ w64 y → GG D Y LB A p l e R s m args below meth c nL Q α cells slots lo sk μ (pc + 4)) : GG D Y LB A p l e R s m args below meth c nL Q α cells slots lo (vl y :: vl x :: sk) μ pc := fun H locs ls hP hD hS hl => W.lcmp C.hx C.hb hd (lv_if_le C.hx C.hb hd2 ht (fun q => kt ((l_le (x := x) (y := y)).mp ((lc_le _ _).mp q)) H locs ls hP hD hS hl) (fun q => kf (fun z => q ((lc_le _ _).mpr ((l_le (x := x) (y := y)).mpr z))) H locs ls hP hD hS hl))
theorem g_lc_ne (C : CX p s m args meth c cc nL own ret D Y LB A) {x y : Int} {off : Int} (tgt : Nat) (ht : ((pc + 1 : Nat) : Int) + off = (tgt : Int)) (hd : decode cc pc = .ok (.lcmp, 1)) (hd2 : decode cc (pc + 1) = .ok (.ifCond .ne off, 3)) (kf : w64 x = w64 y → GG D Y LB A p l e R s m args below meth c nL Q α cells slots lo sk μ (pc + 4)) (kt : ¬ w64 x = w64 y → GG D Y LB A p l e R s m args below meth c nL Q α cells slots lo sk μ tgt) : GG D Y LB A p l e R s m args below meth c nL Q α cells slots lo (vl y :: vl x :: sk) μ pc := fun H locs ls hP hD hS hl => W.lcmp C.hx C.hb hd (lv_if_ne C.hx C.hb hd2 ht (fun q => kt (fun z => q ((lc_eq _ _).mpr (l_eq.mpr z))) H locs ls hP hD hS hl) (fun q => kf (l_eq.mp ((lc_eq _ _).mp q)) H locs ls hP hD hS hl))
end ROWS
