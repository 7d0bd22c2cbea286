/-! ROWS over the heap: fields, arrays, calls, ends -/
section HROWS
variable {p : Program} {l : Launch} {e : Env} {R : Room} {s : State} {m : MethodId} {args : Array Value} {below : List Frame} {meth : Method} {c : Code} {Q : State → Prop}
variable {D : va_G} {Y : Nat → ClassId} {LB : List (Nat × Nat)} {A : Nat → Prop} {cc : ByteArray} {nL : Nat} {own : String} {ret : Option FieldType} {α : Adr} {cells slots : Nat} {lo lo' : List (Nat × Value)} {sk : List Value} {μ : Mem} {pc : Nat}
theorem g_get (C : CX p s m args meth c cc nL own ret D Y LB A) {idx ci k t i : Nat} {ty : FieldType} {fin : Bool} {fs : List Value} {v : Value} (hd : decode cc pc = .ok (.getfield idx, 3)) (hf : FL own idx ci k ty fin) (hin : (t, i) ∈ LB) (he : ec Y α (μ 28 0 0).toNat t i (μ t i) = .inr (ci, fs)) (hv : fs[k]? = some v) (kk : GG D Y LB A p l e R s m args below meth c nL Q α cells slots lo (v :: sk) μ (pc + 3)) : GG D Y LB A p l e R s m args below meth c nL Q α cells slots lo (.ref (α t i) :: sk) μ pc := by
  intro H locs ls hP hD hS hl
  obtain ⟨Cn, T, N, ty0, h1, h2, h3, h4, h5, -⟩ := hf
  obtain ⟨q0, hq, -⟩ := wl_at (Y := Y) (α := α) (μ := μ) hin
  rw [he] at hq
  exact va_get (D := D) C.hx C.hb C.hts h4 C.hown C.hK hP q0 hq h1 k h2 (C.hts _ h3) (fun _ h => by rw [h5] at h; exact h) hv hd (kk H locs ls hP hD hS hl)
theorem g_put (C : CX p s m args meth c cc nL own ret D Y LB A) {idx ci k t i : Nat} {ty : FieldType} {fs : List Value} {v : Value} {x : Int} (hnr : narrow ty v = v) (hft : fits ty v = true) (hd : decode cc pc = .ok (.putfield idx, 3)) (hf : FL own idx ci k ty false) (hin : (t, i) ∈ LB) (he : ec Y α (μ 28 0 0).toNat t i (μ t i) = .inr (ci, fs)) (hk : k < fs.length) (hs : ec Y α (μ 28 0 0).toNat t i (up (μ t i) k x) = .inr (ci, fs.set k v)) (ht : t ≠ 28) (kk : GG D Y LB A p l e R s m args below meth c nL Q α cells slots lo sk (st μ t i k x) (pc + 3)) : GG D Y LB A p l e R s m args below meth c nL Q α cells slots lo (v :: .ref (α t i) :: sk) μ pc := by
  intro H locs ls hP hD hS hl
  obtain ⟨Cn, T, N, ty0, h1, h2, h3, h4, h5, h6, h7, h8, h9⟩ := hf
  obtain ⟨q0, hq, hL⟩ := wl_at (Y := Y) (α := α) (μ := μ) hin
  rw [he] at hq
  refine va_put (D := D) C.hx C.hb C.hts h4 ty0 h7 h8 C.hown C.hK hP hD hS q0 hq h1 k h2 (C.hts _ h3) (fun _ h => by rw [h5] at h; exact h) h9 h6 hnr hft hk hd (fun H1 locs1 hP1 hD1 hS1 => ?_)
  rw [← hs, wl_st C.hnd ht hL] at hP1 hD1
  exact kk H1 locs1 ls hP1 hD1 hS1 hl
theorem g_puti (C : CX p s m args meth c cc nL own ret D Y LB A) {idx ci k t i : Nat} {fs : List Value} {x : Int} (hd : decode cc pc = .ok (.putfield idx, 3)) (hf : FL own idx ci k .int false) (hin : (t, i) ∈ LB) (he : ec Y α (μ 28 0 0).toNat t i (μ t i) = .inr (ci, fs)) (hk : k < fs.length) (hs : ec Y α (μ 28 0 0).toNat t i (up (μ t i) k x) = .inr (ci, fs.set k (vi x))) (ht : t ≠ 28) (kk : GG D Y LB A p l e R s m args below meth c nL Q α cells slots lo sk (st μ t i k x) (pc + 3)) : GG D Y LB A p l e R s m args below meth c nL Q α cells slots lo (vi x :: .ref (α t i) :: sk) μ pc := g_put C rfl rfl hd hf hin he hk hs ht kk
theorem g_putl (C : CX p s m args meth c cc nL own ret D Y LB A) {idx ci k t i : Nat} {fs : List Value} {x : Int} (hd : decode cc pc = .ok (.putfield idx, 3)) (hf : FL own idx ci k .long false) (hin : (t, i) ∈ LB) (he : ec Y α (μ 28 0 0).toNat t i (μ t i) = .inr (ci, fs)) (hk : k < fs.length) (hs : ec Y α (μ 28 0 0).toNat t i (up (μ t i) k x) = .inr (ci, fs.set k (vl x))) (ht : t ≠ 28) (kk : GG D Y LB A p l e R s m args below meth c nL Q α cells slots lo sk (st μ t i k x) (pc + 3)) : GG D Y LB A p l e R s m args below meth c nL Q α cells slots lo (vl x :: .ref (α t i) :: sk) μ pc := g_put C rfl rfl hd hf hin he hk hs ht kk
theorem g_putz (C : CX p s m args meth c cc nL own ret D Y LB A) {idx ci k t i : Nat} {fs : List Value} {x : Int} (hx : bb x) (hd : decode cc pc = .ok (.putfield idx, 3)) (hf : FL own idx ci k .boolean false) (hin : (t, i) ∈ LB) (he : ec Y α (μ 28 0 0).toNat t i (μ t i) = .inr (ci, fs)) (hk : k < fs.length) (hs : ec Y α (μ 28 0 0).toNat t i (up (μ t i) k x) = .inr (ci, fs.set k (vi x))) (ht : t ≠ 28) (kk : GG D Y LB A p l e R s m args below meth c nL Q α cells slots lo sk (st μ t i k x) (pc + 3)) : GG D Y LB A p l e R s m args below meth c nL Q α cells slots lo (vi x :: .ref (α t i) :: sk) μ pc := g_put C (bb_nar hx) (by rcases hx with rfl | rfl <;> rfl) hd hf hin he hk hs ht kk
def va_E_mki (Y : Nat → ClassId) (n : Nat) (f : Nat → Int) (k : Nat) (v : Int) : va_E := .inl (Y 0, n, .inl (upd (fun j => Int32.ofInt (f j)) k (Int32.ofInt v)))
def va_E_mkz (Y : Nat → ClassId) (n : Nat) (f : Nat → Int) (k : Nat) (v : Int) : va_E := .inl (Y 2, n, .inl (upd (fun j => Int32.ofInt (f j)) k (Int32.ofInt v)))
def va_E_mkl (Y : Nat → ClassId) (n : Nat) (f : Nat → Int) (k : Nat) (v : Int) : va_E := .inl (Y 1, n, .inr (.inl (vp_updL (fun j => Int64.ofInt (f j)) k (Int64.ofInt v))))
theorem g_iald (C : CX p s m args meth c cc nL own ret D Y LB A) {t i n : Nat} {x : Int} (hd : decode cc pc = .ok (.iaload, 1)) (hin : (t, i) ∈ LB) (he : ∀ f : Nat → Int, ec Y α (μ 28 0 0).toNat t i f = .inl (Y 0, n, .inl (fun j => Int32.ofInt (f j)))) (hb : inb x n) (kk : GG D Y LB A p l e R s m args below meth c nL Q α cells slots lo (vi (μ t i (ix x)) :: sk) μ (pc + 1)) : GG D Y LB A p l e R s m args below meth c nL Q α cells slots lo (vi x :: .ref (α t i) :: sk) μ pc := by
  intro H locs ls hP hD hS hl
  obtain ⟨q0, hq, -⟩ := wl_at (Y := Y) (α := α) (μ := μ) hin
  rw [he] at hq
  exact va_iald C.hx C.hb C.hK hP q0 0 hq rfl (inb_vp hb) hd (kk H locs ls hP hD hS hl)
theorem g_lald (C : CX p s m args meth c cc nL own ret D Y LB A) {t i n : Nat} {x : Int} (hd : decode cc pc = .ok (.laload, 1)) (hin : (t, i) ∈ LB) (he : ∀ f : Nat → Int, ec Y α (μ 28 0 0).toNat t i f = .inl (Y 1, n, .inr (.inl (fun j => Int64.ofInt (f j))))) (hb : inb x n) (kk : GG D Y LB A p l e R s m args below meth c nL Q α cells slots lo (vl (μ t i (ix x)) :: sk) μ (pc + 1)) : GG D Y LB A p l e R s m args below meth c nL Q α cells slots lo (vi x :: .ref (α t i) :: sk) μ pc := by
  intro H locs ls hP hD hS hl
  obtain ⟨q0, hq, -⟩ := wl_at (Y := Y) (α := α) (μ := μ) hin
  rw [he] at hq
  exact va_lald C.hx C.hb C.hK hP q0 1 hq rfl (inb_vp hb) hd (kk H locs ls hP hD hS hl)
theorem g_zald (C : CX p s m args meth c cc nL own ret D Y LB A) {t i n : Nat} {x : Int} (hd : decode cc pc = .ok (.baload, 1)) (hin : (t, i) ∈ LB) (he : ∀ f : Nat → Int, ec Y α (μ 28 0 0).toNat t i f = .inl (Y 2, n, .inl (fun j => Int32.ofInt (f j)))) (hb : inb x n) (kk : GG D Y LB A p l e R s m args below meth c nL Q α cells slots lo (vi (μ t i (ix x)) :: sk) μ (pc + 1)) : GG D Y LB A p l e R s m args below meth c nL Q α cells slots lo (vi x :: .ref (α t i) :: sk) μ pc := by
  intro H locs ls hP hD hS hl
  obtain ⟨q0, hq, -⟩ := wl_at (Y := Y) (α := α) (μ := μ) hin
  rw [he] at hq
  exact va_zald C.hx C.hb C.hK hP q0 2 hq rfl (inb_vp hb) hd (kk H locs ls hP hD hS hl)
theorem g_iast (C : CX p s m args meth c cc nL own ret D Y LB A) {t i n : Nat} {x v : Int} (hd : decode cc pc = .ok (.iastore, 1)) (hin : (t, i) ∈ LB) (he : ∀ f : Nat → Int, ec Y α (μ 28 0 0).toNat t i f = .inl (Y 0, n, .inl (fun j => Int32.ofInt (f j)))) (ht : t ≠ 28) (hb : inb x n) (kk : GG D Y LB A p l e R s m args below meth c nL Q α cells slots lo sk (st μ t i (ix x) v) (pc + 1)) : GG D Y LB A p l e R s m args below meth c nL Q α cells slots lo (vi v :: vi x :: .ref (α t i) :: sk) μ pc := by
  intro H locs ls hP hD hS hl
  obtain ⟨q0, hq, hL⟩ := wl_at (Y := Y) (α := α) (μ := μ) hin
  have hq' := hq
  rw [he] at hq
  refine va_iast C.hx C.hb C.hK hP hD hS q0 0 hq rfl (inb_vp hb) hd (fun H1 locs1 hP1 hD1 hS1 => ?_)
  have hu : (va_E_mki Y n (μ t i) (ix x) v) = ec Y α (μ 28 0 0).toNat t i (up (μ t i) (ix x) v) := by
    rw [he, va_E_mki]
    congr 4
    funext j
    by_cases hj : j = ix x <;> simp [upd, up, hj]
  have hP1 : va_P D vwCl ((wl Y LB α μ).set q0 (α t i, va_E_mki Y n (μ t i) (ix x) v)) H1 := hP1
  have hD1 : va_D A ((wl Y LB α μ).set q0 (α t i, va_E_mki Y n (μ t i) (ix x) v)) := hD1
  rw [hu, wl_st C.hnd ht hL] at hP1 hD1
  exact kk H1 locs1 ls hP1 hD1 hS1 hl
theorem g_last (C : CX p s m args meth c cc nL own ret D Y LB A) {t i n : Nat} {x v : Int} (hd : decode cc pc = .ok (.lastore, 1)) (hin : (t, i) ∈ LB) (he : ∀ f : Nat → Int, ec Y α (μ 28 0 0).toNat t i f = .inl (Y 1, n, .inr (.inl (fun j => Int64.ofInt (f j))))) (ht : t ≠ 28) (hb : inb x n) (kk : GG D Y LB A p l e R s m args below meth c nL Q α cells slots lo sk (st μ t i (ix x) v) (pc + 1)) : GG D Y LB A p l e R s m args below meth c nL Q α cells slots lo (vl v :: vi x :: .ref (α t i) :: sk) μ pc := by
  intro H locs ls hP hD hS hl
  obtain ⟨q0, hq, hL⟩ := wl_at (Y := Y) (α := α) (μ := μ) hin
  have hq' := hq
  rw [he] at hq
  refine va_last C.hx C.hb C.hK hP hD hS q0 1 hq rfl (inb_vp hb) hd (fun H1 locs1 hP1 hD1 hS1 => ?_)
  have hu : (va_E_mkl Y n (μ t i) (ix x) v) = ec Y α (μ 28 0 0).toNat t i (up (μ t i) (ix x) v) := by
    rw [he, va_E_mkl]
    congr 5
    funext j
    by_cases hj : j = ix x <;> simp [vp_updL, up, hj]
  have hP1 : va_P D vwCl ((wl Y LB α μ).set q0 (α t i, va_E_mkl Y n (μ t i) (ix x) v)) H1 := hP1
  have hD1 : va_D A ((wl Y LB α μ).set q0 (α t i, va_E_mkl Y n (μ t i) (ix x) v)) := hD1
  rw [hu, wl_st C.hnd ht hL] at hP1 hD1
  exact kk H1 locs1 ls hP1 hD1 hS1 hl
theorem g_zast (C : CX p s m args meth c cc nL own ret D Y LB A) {t i n : Nat} {x v : Int} (hz : bb v) (hd : decode cc pc = .ok (.bastore, 1)) (hin : (t, i) ∈ LB) (he : ∀ f : Nat → Int, ec Y α (μ 28 0 0).toNat t i f = .inl (Y 2, n, .inl (fun j => Int32.ofInt (f j)))) (ht : t ≠ 28) (hb : inb x n) (kk : GG D Y LB A p l e R s m args below meth c nL Q α cells slots lo sk (st μ t i (ix x) v) (pc + 1)) : GG D Y LB A p l e R s m args below meth c nL Q α cells slots lo (vi v :: vi x :: .ref (α t i) :: sk) μ pc := by
  intro H locs ls hP hD hS hl
  obtain ⟨q0, hq, hL⟩ := wl_at (Y := Y) (α := α) (μ := μ) hin
  have hq' := hq
  rw [he] at hq
  refine va_zast C.hx C.hb C.hK hP hD hS q0 2 hq rfl (inb_vp hb) hd (fun H1 locs1 hP1 hD1 hS1 => ?_)
  rw [bz_nar hz] at hP1 hD1
  have hu : (va_E_mkz Y n (μ t i) (ix x) v) = ec Y α (μ 28 0 0).toNat t i (up (μ t i) (ix x) v) := by
    rw [he, va_E_mkz]
    congr 4
    funext j
    by_cases hj : j = ix x <;> simp [upd, up, hj]
  have hP1 : va_P D vwCl ((wl Y LB α μ).set q0 (α t i, va_E_mkz Y n (μ t i) (ix x) v)) H1 := hP1
  have hD1 : va_D A ((wl Y LB α μ).set q0 (α t i, va_E_mkz Y n (μ t i) (ix x) v)) := hD1
  rw [hu, wl_st C.hnd ht hL] at hP1 hD1
  exact kk H1 locs1 ls hP1 hD1 hS1 hl
theorem g_alen (C : CX p s m args meth c cc nL own ret D Y LB A) {t i n y : Nat} {q : (Nat → Int) → ((Nat → Int32) ⊕ (Nat → Int64) ⊕ (Nat → UInt32) ⊕ (Nat → UInt64) ⊕ (Nat → Option Nat))} {ty : FieldType} (hd : decode cc pc = .ok (.arraylength, 1)) (hin : (t, i) ∈ LB) (he : ∀ f : Nat → Int, ec Y α (μ 28 0 0).toNat t i f = .inl (Y y, n, q f)) (hy : (tyl Y)[y]? = some (Y y, ty)) (kk : GG D Y LB A p l e R s m args below meth c nL Q α cells slots lo (vi (n : Int) :: sk) μ (pc + 1)) : GG D Y LB A p l e R s m args below meth c nL Q α cells slots lo (.ref (α t i) :: sk) μ pc := by
  intro H locs ls hP hD hS hl
  obtain ⟨q0, hq, -⟩ := wl_at (Y := Y) (α := α) (μ := μ) hin
  rw [he] at hq
  exact va_alen (v := Int32.ofInt (n : Int)) C.hx C.hb C.hK hP q0 y hq hy (Int32.ofInt_eq_ofNat (n := n)).symm hd (kk H locs ls hP hD hS hl)
theorem g_aald (C : CX p s m args meth c cc nL own ret D Y LB A) {t i n y t2 : Nat} {g : Nat → Nat} {Cn : String} {x : Int} (hd : decode cc pc = .ok (.aaload, 1)) (hin : (t, i) ∈ LB) (he : ∀ f : Nat → Int, ec Y α (μ 28 0 0).toNat t i f = .inl (Y y, n, .inr (.inr (.inr (.inr (fun k => if k < n then some (α t2 (g k)) else none)))))) (hy : (tyl Y)[y]? = some (Y y, .object Cn)) (hb : inb x n) (kk : GG D Y LB A p l e R s m args below meth c nL Q α cells slots lo (.ref (α t2 (g (ix x))) :: sk) μ (pc + 1)) : GG D Y LB A p l e R s m args below meth c nL Q α cells slots lo (vi x :: .ref (α t i) :: sk) μ pc := by
  intro H locs ls hP hD hS hl
  obtain ⟨q0, hq, -⟩ := wl_at (Y := Y) (α := α) (μ := μ) hin
  rw [he] at hq
  refine va_aldq C.hx C.hb C.hK hP q0 y hq hy (inb_vp hb) hd ?_
  rw [ix_cl, if_pos (inb_ix hb)]
  exact kk H locs ls hP hD hS hl
theorem i_max (x y : Int) : (if Int32.ofInt x < Int32.ofInt y then Int32.ofInt y else Int32.ofInt x) = Int32.ofInt (if w32 x < w32 y then y else x) := by
  by_cases h : w32 x < w32 y
  · rw [if_pos h, if_pos (i_lt.mpr h)]
  · rw [if_neg h, if_neg (fun q => h (i_lt.mp q))]
theorem g_max (C : CX p s m args meth c cc nL own ret D Y LB A) {idx : Nat} {x y : Int} (h1 : Cond.methodLink own idx Lib.Math.max.name ∈ TB) (h2 : Cond.static Lib.Math.max.name ∈ TB) (h3 : Cond.initialized "java/lang/Math" ∈ TB) (h4 : Cond.code Lib.Math.max.name Lib.Math.max.code 2 (some .int) ∈ TB) (hfr : 1 ≤ R.frames) (hlc : (sk.map fun v => v.category).sum + 13 ≤ R.locals) (hc : cells ≤ R.cells) (hs : slots ≤ R.slots) (hd : decode cc pc = .ok (.invokestatic idx, 3)) (kk : GG D Y LB A p l e R s m args below meth c nL Q α cells slots lo (vi (if w32 x < w32 y then y else x) :: sk) μ (pc + 3)) : GG D Y LB A p l e R s m args below meth c nL Q α cells slots lo (vi y :: vi x :: sk) μ pc := by
  intro H locs ls hP hD hS hl
  refine va_mmax C.hx C.hb (C.hml.trans hl.1.symm) C.hown (C.hts _ h1) (C.hts _ h2) (C.hts _ h3) (C.hts _ h4) hfr hlc hc hs hd ?_
  have hk := kk H locs ls hP hD hS hl
  unfold vi at hk
  by_cases h : w32 x < w32 y
  · rw [if_pos h] at hk
    rw [if_pos (i_lt.mpr h)]
    exact hk
  · rw [if_neg h] at hk
    rw [if_neg (fun q => h (i_lt.mp q))]
    exact hk
theorem g_min (C : CX p s m args meth c cc nL own ret D Y LB A) {idx : Nat} {x y : Int} (h1 : Cond.methodLink own idx Lib.Math.min.name ∈ TB) (h2 : Cond.static Lib.Math.min.name ∈ TB) (h3 : Cond.initialized "java/lang/Math" ∈ TB) (h4 : Cond.code Lib.Math.min.name Lib.Math.min.code 2 (some .int) ∈ TB) (hfr : 1 ≤ R.frames) (hlc : (sk.map fun v => v.category).sum + 13 ≤ R.locals) (hc : cells ≤ R.cells) (hs : slots ≤ R.slots) (hd : decode cc pc = .ok (.invokestatic idx, 3)) (kk : GG D Y LB A p l e R s m args below meth c nL Q α cells slots lo (vi (if w32 y < w32 x then y else x) :: sk) μ (pc + 3)) : GG D Y LB A p l e R s m args below meth c nL Q α cells slots lo (vi y :: vi x :: sk) μ pc := by
  intro H locs ls hP hD hS hl
  refine va_mmin C.hx C.hb (C.hml.trans hl.1.symm) C.hown (C.hts _ h1) (C.hts _ h2) (C.hts _ h3) (C.hts _ h4) hfr hlc hc hs hd ?_
  have hk := kk H locs ls hP hD hS hl
  unfold vi at hk
  by_cases h : w32 y < w32 x
  · rw [if_pos h] at hk
    rw [if_pos (i_lt.mpr h)]
    exact hk
  · rw [if_neg h] at hk
    rw [if_neg (fun q => h (i_lt.mp q))]
    exact hk
/-- a contract: where it starts, where it ends -/
def Pcx (D : va_G) (Y : Nat → ClassId) (LB : List (Nat × Nat)) (as : List Value) (α : Adr) (μ : Mem) (sz : Nat) : Array Value → State → Prop := va_Pc as (fun U => U.heap.size = sz ∧ va_P D vwCl (wl Y LB α μ) U.heap ∧ va_K D vwCl (tyl Y) U ∧ va_D (fun _ => True) (wl Y LB α μ) ∧ NwOk U)
def Qcx (D : va_G) (Y : Nat → ClassId) (LB : List (Nat × Nat)) (α : Adr) (sz : Nat) (r : Option Value) (ok : Adr → Prop) (μ' : Mem) : Array Value → State → Outcome → State → Prop := fun _ st oc t => (oc = .returned r ∧ ∃ α', ok α' ∧ va_P D vwCl (wl Y LB α' μ') t.heap ∧ va_D (Ar LB α sz) (wl Y LB α' μ')) ∧ va_F (Ar LB α sz) st t
def Ctr (l : Launch) (D : va_G) (Y : Nat → ClassId) (LB : List (Nat × Nat)) (y : MethodName) (cc : ByteArray) (nL : Nat) (ret : Option FieldType) (fr lc mc ms : Nat) (as : List Value) (α : Adr) (μ : Mem) (r : Option Value) (ok : Adr → Prop) (μ' : Mem) : Prop :=
  ∀ sz, Met l y (.code y cc nL ret :: TB) { frames := fr, cells := mc, slots := ms, locals := lc } (Pcx D Y LB as α μ sz) (Qcx D Y LB α sz r ok μ') mc ms (Ar LB α sz)
theorem Ctr_of {y : MethodName} {fr lc mc ms : Nat} {as : List Value} {r : Option Value} {ok : Adr → Prop} {μ' : Mem} (hy : plainName y.cls = true) (hown : y.cls = own) (hlo : lv_args 0 as = lo) (hlen : (lg_sl as).length ≤ nL) (hnd : LB.Nodup)
    (body : ∀ (p : Program) (e : Env) (s : State) (m : MethodId) (below : List Frame) (meth : Method) (c : Code) (sz : Nat), CX p s m as.toArray meth c cc nL own ret D Y LB (Ar LB α sz) → GG D Y LB (Ar LB α sz) p l e { frames := fr, cells := mc, slots := ms, locals := lc } s m as.toArray below meth c nL (MQ below (Qcx D Y LB α sz r ok μ') as.toArray s mc ms (Ar LB α sz)) α 0 0 lo [] μ 0) : Ctr l D Y LB y cc nL ret fr lc mc ms as α μ r ok μ' := by
  intro sz
  refine Met.ofW (cc := cc) (maxL := nL) (ret := ret) hy rfl ?_
  intro p e s m args below meth c s₁ B hml hv
  obtain ⟨rfl, hsz, hP, hK, hD0, hN⟩ := hv
  subst hown
  subst hsz
  have hts := atoms_spec (ws := .code y cc nL ret :: TB) B.pre
  have C : CX p s m as.toArray meth c cc nL y.cls ret D Y LB (Ar LB α s.heap.size) := ⟨B.exec, B.bytes, hml, findClass_of_methodNamed B.named, fun w h => hts w (List.mem_cons_of_mem _ h), hK, fun q h => Or.inr h, B.returns, B.notSynchronized, hN, hnd⟩
  have hl := lv_entry as (n := nL) hlen
  rw [lg_entry_eq]
  rw [hlo] at hl
  exact body p e s m below meth c s.heap.size C s.heap [] _ hP (Ar_self hD0) va_S.rf hl
theorem Pcx_blind {as : List Value} {sz : Nat} : FrameBlind (Pcx D Y LB as α μ sz) := by
  intro a U g mk q
  obtain ⟨q0, q1, qP, qK, qD, qN⟩ := q
  exact ⟨q0, q1, qP, va_K.moved (u := U) (U := U.calling g mk a) (Vm.Alike.refl U.vm) qK, qD, qN.same rfl⟩
theorem Pcx_at (C : CX p s m args meth c cc nL own ret D Y LB A) {as : List Value} {H : Heap} (hP : va_P D vwCl (wl Y LB α μ) H) (hD : va_D A (wl Y LB α μ)) : ∀ U : State, U.heap = H → s.WarmedH U.vm → Pcx D Y LB as α μ H.size as.toArray U := fun U hU hW => ⟨rfl, by rw [hU], by rw [hU]; exact hP, va_K.moved hW.alike C.hK, hD.weaken (fun _ _ _ _ => trivial), C.hnw.warm hW⟩
theorem goodTB {y : MethodName} {cc' : ByteArray} {nL' : Nat} {ret' : Option FieldType} (h : Cond.code y cc' nL' ret' ∈ TB) : GoodIn TB (.code y cc' nL' ret' :: TB) := by
  intro w hw
  rcases List.mem_cons.mp hw with rfl | hw
  · exact ⟨h, good_of_word (TB_good _ h)⟩
  · exact ⟨hw, good_of_word (TB_good _ hw)⟩
theorem callx {H : Heap} {locs : List Loc} {ls : Array Slot} {st0 rest : List Value} {mc ms : Nat} {r : Option Value} {ok : Adr → Prop} {μ' : Mem} {a : Array Value} (hA : ∀ q, Ar LB α H.size q → A q)
    (hr : va_Run p l e R s m args below meth c H locs cells slots mc ms (F0 m pc ls st0) rest (Qcx D Y LB α H.size r ok μ' a) (Ar LB α H.size)) (hS : va_S A s.heap H locs)
    (kk : ∀ (α' : Adr) (H1 : Heap) (locs1 : List Loc), ok α' → va_P D vwCl (wl Y LB α' μ') H1 → va_D A (wl Y LB α' μ') → va_S A s.heap H1 locs1 → W p l e R s m args below meth c H1 locs1 (cells + mc) (slots + ms) Q (F0 m (pc + 3) ls (r.toList ++ rest))) : W p l e R s m args below meth c H locs cells slots Q (F0 m pc ls st0) := by
  intro T hT X
  obtain ⟨v, st₀, t, T', L, h0, X', hL, e1, e2, ⟨⟨hv, α', hok, hP1, hD1⟩, hz, hk⟩, st⟩ := hr T hT X
  cases hv
  rw [h0] at hz hk
  obtain ⟨t2, a1, b1⟩ := kk α' T'.heap (locs ++ L) hok (by rw [e1]; exact hP1) (hD1.weaken (fun _ _ _ h => hA _ h))
    ⟨Nat.le_trans hS.1 (by rw [e1]; exact hz), fun q h1 h2 => by rw [e1, hk q (Nat.lt_of_lt_of_le h1 hS.1) (fun z => h2 (hA q z))]; exact hS.2.1 q h1 h2, fun q hq => by
      rcases List.mem_append.mp hq with h | h
      · exact hS.2.2 q h
      · exact hA _ (hL q h)⟩ T' rfl X'
  exact ⟨t2, st t2 a1, b1⟩
/-- a call's words: by an object, static, static of a nest mate -/
def CWd (y : MethodName) (cc' : ByteArray) (nL' : Nat) (ret' : Option FieldType) (n : Nat) : Prop := Cond.initialized y.cls ∈ TB ∧ Cond.code y cc' nL' ret' ∈ TB ∧ (y.cls ≠ "java/lang/invoke/MethodHandle" ∧ y.cls ≠ "java/lang/invoke/VarHandle" ∧ (parseMethodDescriptor y.desc).map (fun d => d.parameters.length) = some n)
theorem cwB (C : CX p s m args meth c cc nL own ret D Y LB A) {idx n fr lc mc ms nL' : Nat} {y : MethodName} {cc' : ByteArray} {ret' : Option FieldType} (h : CWd y cc' nL' ret' n) (hl : Cond.methodLink own idx y ∈ TB) (hR : fr + 1 ≤ R.frames ∧ 8 + (nL' + 11) + lc ≤ R.locals) : CallB R s args own idx y cc' nL' ret' (.code y cc' nL' ret' :: TB) { frames := fr, cells := mc, slots := ms, locals := lc } mc ms n :=
  callB_of n C.hts (goodTB h.2.1) rfl rfl rfl (C.hts _ h.1) (C.hts _ hl) h.2.2 hR

theorem g_callV (C : CX p s m args meth c cc nL own ret D Y LB A) {idx n fr lc mc ms nL' : Nat} {y : MethodName} {cc' : ByteArray} {ret' : Option FieldType} {As rest : List Value} {r : Option Value} {ok : Adr → Prop} {μ1 : Mem} {t i ci : Nat} {q : vw_C} {fs : List Value} (hd : decode cc pc = .ok (.invokevirtual idx, 3)) (hw : CWd y cc' nL' ret' n) (hl1 : Cond.methodLink own idx y ∈ TB) (hl2 : Cond.instanceMethod y ∈ TB) (hl3 : Cond.selects y.cls y y ∈ TB) (hin : (t, i) ∈ LB) (he : ec Y α (μ 28 0 0).toNat t i (μ t i) = .inr (ci, fs)) (hc : vwCl[ci]? = some q) (hq : q.1 = y.cls) (hM : Ctr l D Y LB y cc' nL' ret' fr lc mc ms (.ref (α t i) :: As) α μ r ok μ1) (hn : As.length = n) (hsk : sk = As.reverse ++ .ref (α t i) :: rest) (hcat : (rest.map fun v => v.category).sum ≤ 8) (hR : fr + 1 ≤ R.frames ∧ 8 + (nL' + 11) + lc ≤ R.locals) (hf : cells + mc ≤ R.cells ∧ slots + ms ≤ R.slots) (kk : ∀ α', ok α' → GG D Y LB A p l e R s m args below meth c nL Q α' (cells + mc) (slots + ms) lo (r.toList ++ rest) μ1 (pc + 3)) : GG D Y LB A p l e R s m args below meth c nL Q α cells slots lo sk μ pc := by
  intro H locs ls hP hD hS hl
  subst hsk
  have hA := Ar_sub (k := H.size) hD C.hA hS.1
  obtain ⟨q0, hq0, -⟩ := wl_at (Y := Y) (α := α) (μ := μ) hin
  rw [he] at hq0
  refine callx hA (va_runV (n := n) (C := y.cls) (As := As) (rest := rest) ⟨C.hx, C.hb, C.hml, C.hown, C.hts⟩ (hM H.size) ⟨cwB C hw hl1 hR, C.hts _ hl2, C.hts _ hl3⟩ ⟨Pcx_blind, by rw [← hq]; exact va_recv C.hK hP hc hq0, Pcx_at C hP hD⟩ rfl hn hl.1 rfl (lv_room hcat) hd hf) hS (fun α' H1 locs1 hok hP1 hD1 hS1 => kk α' hok H1 locs1 ls hP1 hD1 hS1 hl)
theorem g_callS (C : CX p s m args meth c cc nL own ret D Y LB A) {idx n fr lc mc ms nL' : Nat} {y : MethodName} {cc' : ByteArray} {ret' : Option FieldType} {As rest : List Value} {r : Option Value} {ok : Adr → Prop} {μ1 : Mem} (hd : decode cc pc = .ok (.invokestatic idx, 3)) (hw : CWd y cc' nL' ret' n) (hl1 : Cond.methodLink own idx y ∈ TB) (hl2 : Cond.static y ∈ TB) (hM : Ctr l D Y LB y cc' nL' ret' fr lc mc ms As α μ r ok μ1) (hn : As.length = n) (hsk : sk = As.reverse ++ rest) (hcat : (rest.map fun v => v.category).sum ≤ 8) (hR : fr + 1 ≤ R.frames ∧ 8 + (nL' + 11) + lc ≤ R.locals) (hf : cells + mc ≤ R.cells ∧ slots + ms ≤ R.slots) (kk : ∀ α', ok α' → GG D Y LB A p l e R s m args below meth c nL Q α' (cells + mc) (slots + ms) lo (r.toList ++ rest) μ1 (pc + 3)) : GG D Y LB A p l e R s m args below meth c nL Q α cells slots lo sk μ pc := by
  intro H locs ls hP hD hS hl
  subst hsk
  have hA := Ar_sub (k := H.size) hD C.hA hS.1
  refine callx hA (va_runS (n := n) (As := As) (rest := rest) ⟨C.hx, C.hb, C.hml, C.hown, C.hts⟩ (hM H.size) ⟨cwB C hw hl1 hR, C.hts _ hl2⟩ ⟨Pcx_blind, Pcx_at C hP hD⟩ rfl hn hl.1 rfl (lv_room hcat) hd hf) hS (fun α' H1 locs1 hok hP1 hD1 hS1 => kk α' hok H1 locs1 ls hP1 hD1 hS1 hl)
theorem g_callN (C : CX p s m args meth c cc nL own ret D Y LB A) {idx n fr lc mc ms nL' : Nat} {y : MethodName} {cc' : ByteArray} {ret' : Option FieldType} {As rest : List Value} {r : Option Value} {ok : Adr → Prop} {μ1 : Mem} {host : String} (hd : decode cc pc = .ok (.invokestatic idx, 3)) (hw : CWd y cc' nL' ret' n) (hl1 : va_Nw (.methodLinkNest own idx y host) s) (hl2 : Cond.static y ∈ TB) (hM : Ctr l D Y LB y cc' nL' ret' fr lc mc ms As α μ r ok μ1) (hn : As.length = n) (hsk : sk = As.reverse ++ rest) (hcat : (rest.map fun v => v.category).sum ≤ 8) (hR : fr + 1 ≤ R.frames ∧ 8 + (nL' + 11) + lc ≤ R.locals) (hf : cells + mc ≤ R.cells ∧ slots + ms ≤ R.slots) (kk : ∀ α', ok α' → GG D Y LB A p l e R s m args below meth c nL Q α' (cells + mc) (slots + ms) lo (r.toList ++ rest) μ1 (pc + 3)) : GG D Y LB A p l e R s m args below meth c nL Q α cells slots lo sk μ pc := by
  intro H locs ls hP hD hS hl
  subst hsk
  have hA := Ar_sub (k := H.size) hD C.hA hS.1
  refine callx hA (va_runSN (n := n) (As := As) (rest := rest) ⟨C.hx, C.hb, C.hml, C.hown, C.hts⟩ (hM H.size) ⟨va_cnB n C.hts (goodTB hw.2.1) rfl rfl rfl hl1 (C.hts _ hw.1) hw.2.2 hR, C.hts _ hl2, trivial⟩ ⟨Pcx_blind, Pcx_at C hP hD⟩ rfl hn hl.1 rfl (lv_room hcat) hd hf) hS (fun α' H1 locs1 hok hP1 hD1 hS1 => kk α' hok H1 locs1 ls hP1 hD1 hS1 hl)
theorem g_iret {α0 : Adr} {sz : Nat} {ok : Adr → Prop} {μ' : Mem} {x r : Int} (C : CX p s m args meth c cc nL own (some .int) D Y LB (Ar LB α0 sz)) (hok : ok α) (hd : decode cc pc = .ok (.ireturn, 1)) (hf : some (x, μ) = some (r, μ')) : GG D Y LB (Ar LB α0 sz) p l e R s m args below meth c nL (MQ below (Qcx D Y LB α0 sz (some (vi r)) ok μ') args s cells slots (Ar LB α0 sz)) α cells slots lo [vi x] μ pc := by
  cases hf
  intro H locs ls hP hD hS hl
  exact W.iret C.hx C.hb C.hr (fun t ht hW => ⟨⟨rfl, α, hok, by rw [ht]; exact hP, hD⟩, hS.F ht⟩) hS.2.2 hd C.hlk
theorem g_lret {α0 : Adr} {sz : Nat} {ok : Adr → Prop} {μ' : Mem} {x r : Int} (C : CX p s m args meth c cc nL own (some .long) D Y LB (Ar LB α0 sz)) (hok : ok α) (hd : decode cc pc = .ok (.lreturn, 1)) (hf : some (x, μ) = some (r, μ')) : GG D Y LB (Ar LB α0 sz) p l e R s m args below meth c nL (MQ below (Qcx D Y LB α0 sz (some (vl r)) ok μ') args s cells slots (Ar LB α0 sz)) α cells slots lo [vl x] μ pc := by
  cases hf
  intro H locs ls hP hD hS hl
  exact W.lret C.hx C.hb C.hr (fun t ht hW => ⟨⟨rfl, α, hok, by rw [ht]; exact hP, hD⟩, hS.F ht⟩) hS.2.2 hd C.hlk
theorem g_zret {α0 : Adr} {sz : Nat} {ok : Adr → Prop} {μ' : Mem} {x r : Int} (C : CX p s m args meth c cc nL own (some .boolean) D Y LB (Ar LB α0 sz)) (hok : ok α) (hz : bb x) (hd : decode cc pc = .ok (.ireturn, 1)) (hf : some (x, μ) = some (r, μ')) : GG D Y LB (Ar LB α0 sz) p l e R s m args below meth c nL (MQ below (Qcx D Y LB α0 sz (some (vi r)) ok μ') args s cells slots (Ar LB α0 sz)) α cells slots lo [vi x] μ pc := by
  cases hf
  intro H locs ls hP hD hS hl
  exact W.zret C.hx C.hb C.hr (bb_nar hz) (fun t ht hW => ⟨⟨rfl, α, hok, by rw [ht]; exact hP, hD⟩, hS.F ht⟩) hS.2.2 hd C.hlk
theorem g_vret {α0 : Adr} {sz : Nat} {ok : Adr → Prop} {μ' : Mem} {r : Int} (C : CX p s m args meth c cc nL own none D Y LB (Ar LB α0 sz)) (hok : ok α) (hd : decode cc pc = .ok (.return_, 1)) (hf : some ((0 : Int), μ) = some (r, μ')) : GG D Y LB (Ar LB α0 sz) p l e R s m args below meth c nL (MQ below (Qcx D Y LB α0 sz none ok μ') args s cells slots (Ar LB α0 sz)) α cells slots lo [] μ pc := by
  cases hf
  intro H locs ls hP hD hS hl
  exact W.vret C.hx C.hb C.hr (fun t ht hW => ⟨⟨rfl, α, hok, by rw [ht]; exact hP, hD⟩, hS.F ht⟩) hS.2.2 hd C.hlk
theorem g_sub (C : CX p s m args meth c cc nL own ret D Y LB A) (ks : List Nat) (hl' : lv_pick lo ks = lo') (kk : GG D Y LB A p l e R s m args below meth c nL Q α cells slots lo' sk μ pc) : GG D Y LB A p l e R s m args below meth c nL Q α cells slots lo sk μ pc := fun H locs ls hP hD hS hl => kk H locs ls hP hD hS (lv_sub hl ks hl')
theorem g_tabIn (C : CX p s m args meth c cc nL own ret D Y LB A) {dflt lw hi : Int} {offs : Array Int} {len : Nat} {x off : Int} (tgt : Nat) (hd : decode cc pc = .ok (.tableswitch dflt lw hi offs, len)) (h1 : ¬ w32 x < lw) (h2 : ¬ hi < w32 x) (ho : offs[(w32 x - lw).toNat]? = some off) (ht : (pc : Int) + off = (tgt : Int)) (kk : GG D Y LB A p l e R s m args below meth c nL Q α cells slots lo sk μ tgt) : GG D Y LB A p l e R s m args below meth c nL Q α cells slots lo (vi x :: sk) μ pc := fun H locs ls hP hD hS hl => lv_tableIn C.hx C.hb hd h1 h2 ho ht (kk H locs ls hP hD hS hl)
theorem g_tabOut (C : CX p s m args meth c cc nL own ret D Y LB A) {dflt lw hi : Int} {offs : Array Int} {len : Nat} {x : Int} (tgt : Nat) (hd : decode cc pc = .ok (.tableswitch dflt lw hi offs, len)) (h : w32 x < lw ∨ hi < w32 x) (ht : (pc : Int) + dflt = (tgt : Int)) (kk : GG D Y LB A p l e R s m args below meth c nL Q α cells slots lo sk μ tgt) : GG D Y LB A p l e R s m args below meth c nL Q α cells slots lo (vi x :: sk) μ pc := fun H locs ls hP hD hS hl => lv_tableOut C.hx C.hb hd h ht (kk H locs ls hP hD hS hl)
end HROWS
