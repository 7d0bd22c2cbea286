/-! CONSTRUCTORS: worlds in the making -/
def NC (U : State) : Prop := NwOk U ∧ (va_Nw (.methodLinkNest RX8 15 yX0_init RX8) U ∧ va_Nw (.methodLinkNest RX8 34 yX3_init RX8) U ∧ va_Nw (.methodLinkNest RX8 41 yX6_init RX8) U ∧ va_Nw (.methodLinkNest RX8 58 yX5_init RX8) U ∧ va_Nw (.methodLinkNest RX4 32 yX0_init RX8) U ∧ va_Nw (.methodLinkNest RX6 11 yX2_init RX8) U ∧ va_Nw (.methodLinkNest RX7 37 yX1_init RX8) U) ∧ va_AO RX0 U ∧ va_AO RX1 U ∧ va_AO RX5 U
theorem NC.warm {s U : State} (hW : s.WarmedH U.vm) (h : NC s) : NC U := by
  obtain ⟨h0, ⟨h1, h2, h3, h4, h5, h6, h7⟩, a, b, c⟩ := h
  exact ⟨h0.warm hW, ⟨h1.warmM hW, h2.warmM hW, h3.warmM hW, h4.warmM hW, h5.warmM hW, h6.warmM hW, h7.warmM hW⟩, a.moved hW.alike, b.moved hW.alike, c.moved hW.alike⟩
theorem NC.same {s U : State} (hv : s.vm = U.vm) (h : NC s) : NC U := by
  obtain ⟨h0, ⟨h1, h2, h3, h4, h5, h6, h7⟩, a, b, c⟩ := h
  have ha : s.vm.Alike U.vm := by rw [hv]; exact Vm.Alike.refl _
  exact ⟨h0.same hv, ⟨h1.same rfl hv, h2.same rfl hv, h3.same rfl hv, h4.same rfl hv, h5.same rfl hv, h6.same rfl hv, h7.same rfl hv⟩, a.moved ha, b.moved ha, c.moved ha⟩
theorem va_P_iff {D : va_G} {cl : List vw_C} {w : va_W} {H : Heap} : va_P D cl w H ↔ ∀ q ∈ w, va_at D cl q H := ⟨fun h q hq => by
  obtain ⟨k, hk⟩ := List.getElem?_of_mem hq
  exact h k q hk, fun h k q hk => h q (List.mem_of_getElem? hk)⟩
theorem va_D_iff {A : Nat → Prop} {w : va_W} : va_D A w ↔ (w.map (fun q => q.1)).Nodup ∧ ∀ q ∈ w, A q.1 := by
  constructor
  · intro h
    refine ⟨?_, fun q hq => ?_⟩
    · rw [List.nodup_iff_pairwise_ne, List.pairwise_iff_getElem]
      intro i j hi hj hij he
      simp only [List.length_map] at hi hj
      simp only [List.getElem_map] at he
      have := h.1 i j w[i] w[j] (List.getElem?_eq_getElem hi) (List.getElem?_eq_getElem hj) he
      omega
    · obtain ⟨k, hk⟩ := List.getElem?_of_mem hq
      exact h.2 k q hk
  · intro h
    refine ⟨fun i j p q hi hj he => ?_, fun k q hk => h.2 q (List.mem_of_getElem? hk)⟩
    have h1 : (w.map (fun q => q.1))[i]? = some p.1 := by rw [List.getElem?_map, hi]; rfl
    have h2 : (w.map (fun q => q.1))[j]? = some q.1 := by rw [List.getElem?_map, hj]; rfl
    exact (List.getElem?_inj (List.getElem?_eq_some_iff.mp h1).1 h.1).mp (by rw [h1, h2, he])
theorem va_P_perm {D : va_G} {cl : List vw_C} {w w' : va_W} {H : Heap} (hp : w.Perm w') (h : va_P D cl w H) : va_P D cl w' H := va_P_iff.mpr fun q hq => va_P_iff.mp h q (hp.mem_iff.mpr hq)
theorem va_D_perm {A : Nat → Prop} {w w' : va_W} (hp : w.Perm w') (h : va_D A w) : va_D A w' := va_D_iff.mpr ⟨((hp.map _).nodup_iff).mp (va_D_iff.mp h).1, fun q hq => (va_D_iff.mp h).2 q (hp.mem_iff.mpr hq)⟩
def Ah (h0 sz : Nat) : Nat → Prop := fun q => q = h0 ∨ sz ≤ q
def CY (p : Program) (s : State) (m : MethodId) (args : Array Value) (meth : Method) (c : Code) (cc : ByteArray) (nL : Nat) (own : String) (D : va_G) (Y : Nat → ClassId) (A : Nat → Prop) : Prop :=
  CX p s m args meth c cc nL own none D Y [] A ∧ meth.name = "<init>" ∧ NC s
def GC (D : va_G) (A : Nat → Prop) (p : Program) (l : Launch) (e : Env) (R : Room) (s : State) (m : MethodId) (args : Array Value) (below : List Frame) (meth : Method) (c : Code) (nL : Nat) (Q : State → Prop) (cells slots : Nat) (lo : List (Nat × Value)) (sk : List Value) (w : va_W) (pc : Nat) : Prop :=
  ∀ (H : Heap) (locs : List Loc) (ls : Array Slot), va_P D vwCl w H → va_D A w → va_S A s.heap H locs → lv_has ls nL lo → W p l e R s m args below meth c H locs cells slots Q (F0 m pc ls sk)
def Pci (D : va_G) (Y : Nat → ClassId) (ci : Nat) (fs : List Value) (h0 sz : Nat) : Array Value → State → Prop := va_Pc [.ref h0] (fun U => U.heap.size = sz ∧ va_P D vwCl [(h0, .inr (ci, fs))] U.heap ∧ va_K D vwCl (tyl Y) U ∧ va_D (fun _ => True) [(h0, (.inr (ci, fs) : va_E))] ∧ NC U)
def Qci (D : va_G) (Y : Nat → ClassId) (LB : List (Nat × Nat)) (t0 : Nat) (μ : Mem) (h0 sz : Nat) : Array Value → State → Outcome → State → Prop := fun _ st oc t => (oc = .returned none ∧ ∃ α : Adr, α t0 0 = h0 ∧ va_P D vwCl (wl Y LB α μ) t.heap ∧ va_D (Ah h0 sz) (wl Y LB α μ)) ∧ va_F (Ah h0 sz) st t
def CtI (l : Launch) (D : va_G) (Y : Nat → ClassId) (y : MethodName) (cc : ByteArray) (nL fr lc mc ms ci : Nat) (fs : List Value) (LB : List (Nat × Nat)) (t0 : Nat) (μ : Mem) : Prop :=
  ∀ h0 sz, Met l y (.code y cc nL none :: TB) { frames := fr, cells := mc, slots := ms, locals := lc } (Pci D Y ci fs h0 sz) (Qci D Y LB t0 μ h0 sz) mc ms (Ah h0 sz)
section CONS
variable {p : Program} {l : Launch} {e : Env} {R : Room} {s : State} {m : MethodId} {args : Array Value} {below : List Frame} {meth : Method} {c : Code} {Q : State → Prop}
variable {D : va_G} {Y : Nat → ClassId} {A : Nat → Prop} {cc : ByteArray} {nL : Nat} {own : String} {cells slots : Nat} {lo lo' : List (Nat × Value)} {sk : List Value} {w w' r : va_W} {a : Nat × va_E} {pc : Nat}
theorem CtI_of {y : MethodName} {fr lc mc ms ci t0 : Nat} {fs : List Value} {LB : List (Nat × Nat)} {μ : Mem} (hy : plainName y.cls = true) (hown : y.cls = own) (hyn : y.name = "<init>") (hlen : 1 ≤ nL)
    (body : ∀ (p : Program) (e : Env) (s : State) (m : MethodId) (below : List Frame) (meth : Method) (c : Code) (h0 sz : Nat), CY p s m [Value.ref h0].toArray meth c cc nL own D Y (Ah h0 sz) → GC D (Ah h0 sz) p l e { frames := fr, cells := mc, slots := ms, locals := lc } s m [Value.ref h0].toArray below meth c nL (MQ below (Qci D Y LB t0 μ h0 sz) [Value.ref h0].toArray s mc ms (Ah h0 sz)) 0 0 [(0, .ref h0)] [] [(h0, .inr (ci, fs))] 0) : CtI l D Y y cc nL fr lc mc ms ci fs LB t0 μ := by
  intro h0 sz
  refine Met.ofW (cc := cc) (maxL := nL) (ret := none) hy rfl ?_
  intro p e s m args below meth c s₁ B hml hv
  obtain ⟨rfl, hsz, hP, hK, hD0, hN⟩ := hv
  subst hown
  subst hsz
  have hts := atoms_spec (ws := .code y cc nL none :: TB) B.pre
  have C : CY p s m [Value.ref h0].toArray meth c cc nL y.cls D Y (Ah h0 s.heap.size) := ⟨⟨B.exec, B.bytes, hml, findClass_of_methodNamed B.named, fun w h => hts w (List.mem_cons_of_mem _ h), hK, fun q h => Or.inr h, B.returns, B.notSynchronized, hN.1, List.nodup_nil⟩, ((name_of_methodNamed B.named B.method).1).trans hyn, hN⟩
  have hl := lv_entry [Value.ref h0] (n := nL) hlen
  rw [lg_entry_eq]
  exact body p e s m below meth c h0 s.heap.size C s.heap [] _ hP (va_D_iff.mpr ⟨by simp, fun q hq => Or.inl (by rw [List.mem_singleton.mp hq])⟩) va_S.rf hl
theorem k_cast (hw : w = w') (k : GC D A p l e R s m args below meth c nL Q cells slots lo sk w' pc) : GC D A p l e R s m args below meth c nL Q cells slots lo sk w pc := by rw [hw]; exact k
theorem k_perm (hp : w.Perm w') (k : GC D A p l e R s m args below meth c nL Q cells slots lo sk w' pc) : GC D A p l e R s m args below meth c nL Q cells slots lo sk w pc := fun H locs ls hP hD hS hl => k H locs ls (va_P_perm hp hP) (va_D_perm hp hD) hS hl
theorem k_lo (ks : List Nat) (hl' : lv_pick lo ks = lo') (kk : GC D A p l e R s m args below meth c nL Q cells slots lo' sk w pc) : GC D A p l e R s m args below meth c nL Q cells slots lo sk w pc := fun H locs ls hP hD hS hl => kk H locs ls hP hD hS (lv_sub hl ks hl')
theorem k_iconst (C : CY p s m args meth c cc nL own D Y A) {n : Int} (hd : decode cc pc = .ok (.iconst n, 1)) (k : GC D A p l e R s m args below meth c nL Q cells slots lo (vi n :: sk) w (pc + 1)) : GC D A p l e R s m args below meth c nL Q cells slots lo sk w pc := fun H locs ls hP hD hS hl => lv_iconst C.1.hx C.1.hb hd rfl (k H locs ls hP hD hS hl)
theorem k_bipush (C : CY p s m args meth c cc nL own D Y A) {n : Int} (hv : (Int8.ofInt n).toInt32 = Int32.ofInt n) (hd : decode cc pc = .ok (.bipush n, 2)) (k : GC D A p l e R s m args below meth c nL Q cells slots lo (vi n :: sk) w (pc + 2)) : GC D A p l e R s m args below meth c nL Q cells slots lo sk w pc := fun H locs ls hP hD hS hl => lv_bipush C.1.hx C.1.hb hd hv (k H locs ls hP hD hS hl)
theorem k_sipush (C : CY p s m args meth c cc nL own D Y A) {n : Int} (hv : (Int16.ofInt n).toInt32 = Int32.ofInt n) (hd : decode cc pc = .ok (.sipush n, 3)) (k : GC D A p l e R s m args below meth c nL Q cells slots lo (vi n :: sk) w (pc + 3)) : GC D A p l e R s m args below meth c nL Q cells slots lo sk w pc := fun H locs ls hP hD hS hl => lv_sipush C.1.hx C.1.hb hd hv (k H locs ls hP hD hS hl)
theorem k_lconst (C : CY p s m args meth c cc nL own D Y A) {n : Fin 2} {x : Int} (hv : Int64.ofNat (n : Nat) = Int64.ofInt x) (hd : decode cc pc = .ok (.lconst n, 1)) (k : GC D A p l e R s m args below meth c nL Q cells slots lo (vl x :: sk) w (pc + 1)) : GC D A p l e R s m args below meth c nL Q cells slots lo sk w pc := fun H locs ls hP hD hS hl => lv_lconst C.1.hx C.1.hb hd hv (k H locs ls hP hD hS hl)
theorem k_ild_n (C : CY p s m args meth c cc nL own D Y A) {kf : Fin 4} {i : Nat} {x : Int} (j : Nat) (hi : (kf : Nat) = i) (hj : lo[j]? = some (i, vi x)) (hd : decode cc pc = .ok (.iload_n kf, 1)) (k : GC D A p l e R s m args below meth c nL Q cells slots lo (vi x :: sk) w (pc + 1)) : GC D A p l e R s m args below meth c nL Q cells slots lo sk w pc := fun H locs ls hP hD hS hl => lv_iload_n C.1.hx C.1.hb hd hi (lv_at hl j hj) (k H locs ls hP hD hS hl)
theorem k_ald_n (C : CY p s m args meth c cc nL own D Y A) {kf : Fin 4} {i x : Nat} (j : Nat) (hi : (kf : Nat) = i) (hj : lo[j]? = some (i, .ref x)) (hd : decode cc pc = .ok (.aload_n kf, 1)) (k : GC D A p l e R s m args below meth c nL Q cells slots lo (.ref x :: sk) w (pc + 1)) : GC D A p l e R s m args below meth c nL Q cells slots lo sk w pc := fun H locs ls hP hD hS hl => lv_aload_n C.1.hx C.1.hb hd hi (lv_at hl j hj) (k H locs ls hP hD hS hl)
theorem k_ist_n (C : CY p s m args meth c cc nL own D Y A) {kf : Fin 4} {i : Nat} {x : Int} (hi : (kf : Nat) = i) (hn : i < nL) (hlo : (i, vi x) :: lo.filter (fun q => !(q.1 == i) && !(q.1 + 1 == i && q.2.category == 2)) = lo') (hd : decode cc pc = .ok (.istore_n kf, 1)) (k : GC D A p l e R s m args below meth c nL Q cells slots lo' sk w (pc + 1)) : GC D A p l e R s m args below meth c nL Q cells slots lo (vi x :: sk) w pc := fun H locs ls hP hD hS hl => lv_istore_n C.1.hx C.1.hb hd hi hl hn hlo (fun ls hl => k H locs ls hP hD hS hl)
theorem k_iinc (C : CY p s m args meth c cc nL own D Y A) {i : Nat} {n x : Int} (j : Nat) (hj : lo[j]? = some (i, vi x)) (hn : i < nL) (hlo : (i, vi (x + n)) :: lo.filter (fun q => !(q.1 == i) && !(q.1 + 1 == i && q.2.category == 2)) = lo') (hd : decode cc pc = .ok (.iinc i n, 3)) (k : GC D A p l e R s m args below meth c nL Q cells slots lo' sk w (pc + 3)) : GC D A p l e R s m args below meth c nL Q cells slots lo sk w pc := fun H locs ls hP hD hS hl => lv_iinc (v := Int32.ofInt (x + n)) C.1.hx C.1.hb hd hl hj (i_add x n).symm hn hlo (fun ls hl => k H locs ls hP hD hS hl)
theorem k_ic_ge (C : CY p s m args meth c cc nL own D Y A) {x y : Int} {off : Int} (tgt : Nat) (ht : (pc : Int) + off = (tgt : Int)) (hd : decode cc pc = .ok (.if_icmp .ge off, 3)) (kt : w32 y ≤ w32 x → GC D A p l e R s m args below meth c nL Q cells slots lo sk w tgt) (kf : ¬ w32 y ≤ w32 x → GC D A p l e R s m args below meth c nL Q cells slots lo sk w (pc + 3)) : GC D A p l e R s m args below meth c nL Q cells slots lo (vi y :: vi x :: sk) w pc := fun H locs ls hP hD hS hl => lv_icmp_ge C.1.hx C.1.hb hd ht (fun q => kt ((i_le (x := y) (y := x)).mp q) H locs ls hP hD hS hl) (fun q => kf (fun z => q ((i_le (x := y) (y := x)).mpr z)) H locs ls hP hD hS hl)
theorem k_goto (C : CY p s m args meth c cc nL own D Y A) {off : Int} (tgt : Nat) (ht : (pc : Int) + off = (tgt : Int)) (hd : decode cc pc = .ok (.goto off, 3)) (k : GC D A p l e R s m args below meth c nL Q cells slots lo sk w tgt) : GC D A p l e R s m args below meth c nL Q cells slots lo sk w pc := fun H locs ls hP hD hS hl => lv_goto C.1.hx C.1.hb hd ht (k H locs ls hP hD hS hl)
theorem k_obj (C : CY p s m args meth c cc nL own D Y A) {idx q : Nat} (w1 : Cond.methodLink own idx Lib.objectInit ∈ TB) (hd : decode cc pc = .ok (.invokespecial idx, 3)) (hfr : 1 ≤ R.frames) (hlc : (sk.map fun v => v.category).sum + 12 ≤ R.locals) (kk : GC D A p l e R s m args below meth c nL Q cells slots lo sk w (pc + 3)) : GC D A p l e R s m args below meth c nL Q cells slots lo (.ref q :: sk) w pc := fun H locs ls hP hD hS hl => W.objInit C.1.hx C.1.hb C.1.hown (C.1.hts _ w1) (C.1.hts _ m_1_21) (C.1.hts _ m_1_22) rfl (hl.1.trans C.1.hml.symm) rfl hd hfr (by show 2 * 0 + _ + 12 ≤ _; omega) (kk H locs ls hP hD hS hl)
theorem k_put (C : CY p s m args meth c cc nL own D Y A) {idx ci k h0 : Nat} {ty : FieldType} {fin : Bool} {fs fs' : List Value} {v : Value} (hnr : narrow ty v = v) (hft : fits ty v = true) (hf : FL own idx ci k ty fin) (hci : (vwCl[ci]?).map (fun q => q.1) = some own) (hk : k < fs.length) (hs : fs.set k v = fs') (hd : decode cc pc = .ok (.putfield idx, 3)) (kk : GC D A p l e R s m args below meth c nL Q cells slots lo sk ((h0, .inr (ci, fs')) :: r) (pc + 3)) : GC D A p l e R s m args below meth c nL Q cells slots lo (v :: .ref h0 :: sk) ((h0, .inr (ci, fs)) :: r) pc := by
  intro H locs ls hP hD hS hl
  obtain ⟨Cn, T, N, ty0, h1, h2, h3, h4, h5, h6, h7, h8, h9⟩ := hf
  subst hs
  have hco : Cn = own := by rw [h1] at hci; exact Option.some.inj hci
  cases fin with
  | false => exact va_put (D := D) C.1.hx C.1.hb C.1.hts h4 ty0 h7 h8 C.1.hown C.1.hK hP hD hS 0 rfl h1 k h2 (C.1.hts _ h3) (fun _ h => by rw [h5] at h; exact h) h9 h6 hnr hft hk hd (fun H1 locs1 hP1 hD1 hS1 => kk H1 locs1 ls hP1 hD1 hS1 hl)
  | true => exact va_putF (D := D) C.1.hx C.1.hb C.1.hts h4 ty0 h7 h8 C.1.hown C.1.hK hP hD hS 0 rfl h1 k h2 (C.1.hts _ h3) (fun _ h => by rw [h5] at h; exact h) h9 C.2.1 (h5.trans hco) h6 hnr hft hk hd (fun H1 locs1 hP1 hD1 hS1 => kk H1 locs1 ls hP1 hD1 hS1 hl)
theorem k_get (C : CY p s m args meth c cc nL own D Y A) {idx ci k h0 : Nat} {ty : FieldType} {fin : Bool} {fs : List Value} {v : Value} (q0 : Nat) (he : w[q0]? = some (h0, .inr (ci, fs))) (hf : FL own idx ci k ty fin) (hv : fs[k]? = some v) (hd : decode cc pc = .ok (.getfield idx, 3)) (kk : GC D A p l e R s m args below meth c nL Q cells slots lo (v :: sk) w (pc + 3)) : GC D A p l e R s m args below meth c nL Q cells slots lo (.ref h0 :: sk) w pc := by
  intro H locs ls hP hD hS hl
  obtain ⟨Cn, T, N, ty0, h1, h2, h3, h4, h5, -⟩ := hf
  exact va_get (D := D) C.1.hx C.1.hb C.1.hts h4 C.1.hown C.1.hK hP q0 he h1 k h2 (C.1.hts _ h3) (fun _ h => by rw [h5] at h; exact h) hv hd (kk H locs ls hP hD hS hl)
theorem k_newi (C : CY p s m args meth c cc nL own D Y A) {n : Int} (N : Nat) (hn : ix n = N) (h0 : 0 ≤ w32 n) (hN : N ≤ 100000) (hc : cells + 1 ≤ R.cells) (hs : slots + N ≤ R.slots) (hd : decode cc pc = .ok (.newarray .int, 2)) (kk : ∀ q, GC D A p l e R s m args below meth c nL Q (cells + 1) (slots + N) lo (.ref q :: sk) (a :: (r ++ [(q, .inl (Y 0, N, .inl (fun _ => Int32.ofInt 0)))])) (pc + 2)) : GC D A p l e R s m args below meth c nL Q cells slots lo (vi n :: sk) (a :: r) pc := by
  intro H locs ls hP hD hS hl
  refine va_newa (atype := .int) (ty := .int) (N' := N) (a0 := (N, .inl (fun _ => Int32.ofInt 0))) C.1.hx C.1.hb (C.1.hts _ m_1_127) rfl C.1.hK hP hD hS C.1.hA (fun _ => rfl) (fun q => by have := (i_lt0 n).mp q; omega) hn (by show _ * 4 ≤ _; omega) hc hs hd (fun q1 cA H1 hK1 hP1 hD1 hS1 => ?_)
  have hcA : cA = Y 0 := Option.some.inj ((show s.vm.findClass _ = some cA from (hK1.2 6 (cA, .int) rfl).2).symm.trans (C.1.hK.2 0 (Y 0, .int) rfl).2)
  subst hcA
  exact kk q1 H1 locs ls hP1 hD1 hS1 hl
theorem k_newl (C : CY p s m args meth c cc nL own D Y A) {n : Int} (N : Nat) (hn : ix n = N) (h0 : 0 ≤ w32 n) (hN : N ≤ 100000) (hc : cells + 1 ≤ R.cells) (hs : slots + N ≤ R.slots) (hd : decode cc pc = .ok (.newarray .long, 2)) (kk : ∀ q, GC D A p l e R s m args below meth c nL Q (cells + 1) (slots + N) lo (.ref q :: sk) (a :: (r ++ [(q, .inl (Y 1, N, .inr (.inl (fun _ => Int64.ofInt 0))))])) (pc + 2)) : GC D A p l e R s m args below meth c nL Q cells slots lo (vi n :: sk) (a :: r) pc := by
  intro H locs ls hP hD hS hl
  refine va_newa (atype := .long) (ty := .long) (N' := N) (a0 := (N, .inr (.inl (fun _ => Int64.ofInt 0)))) C.1.hx C.1.hb (C.1.hts _ m_1_54) rfl C.1.hK hP hD hS C.1.hA (fun _ => rfl) (fun q => by have := (i_lt0 n).mp q; omega) hn (by show _ * 8 ≤ _; omega) hc hs hd (fun q1 cA H1 hK1 hP1 hD1 hS1 => ?_)
  have hcA : cA = Y 1 := Option.some.inj ((show s.vm.findClass _ = some cA from (hK1.2 6 (cA, .long) rfl).2).symm.trans (C.1.hK.2 1 (Y 1, .long) rfl).2)
  subst hcA
  exact kk q1 H1 locs ls hP1 hD1 hS1 hl
theorem k_newz (C : CY p s m args meth c cc nL own D Y A) {n : Int} (N : Nat) (hn : ix n = N) (h0 : 0 ≤ w32 n) (hN : N ≤ 100000) (hc : cells + 1 ≤ R.cells) (hs : slots + N ≤ R.slots) (hd : decode cc pc = .ok (.newarray .boolean, 2)) (kk : ∀ q, GC D A p l e R s m args below meth c nL Q (cells + 1) (slots + N) lo (.ref q :: sk) (a :: (r ++ [(q, .inl (Y 2, N, .inl (fun _ => Int32.ofInt 0)))])) (pc + 2)) : GC D A p l e R s m args below meth c nL Q cells slots lo (vi n :: sk) (a :: r) pc := by
  intro H locs ls hP hD hS hl
  refine va_newa (atype := .boolean) (ty := .boolean) (N' := N) (a0 := (N, .inl (fun _ => Int32.ofInt 0))) C.1.hx C.1.hb (C.1.hts _ m_2_17) rfl C.1.hK hP hD hS C.1.hA (fun _ => rfl) (fun q => by have := (i_lt0 n).mp q; omega) hn (by show _ * 1 ≤ _; omega) hc hs hd (fun q1 cA H1 hK1 hP1 hD1 hS1 => ?_)
  have hcA : cA = Y 2 := Option.some.inj ((show s.vm.findClass _ = some cA from (hK1.2 6 (cA, .boolean) rfl).2).symm.trans (C.1.hK.2 2 (Y 2, .boolean) rfl).2)
  subst hcA
  exact kk q1 H1 locs ls hP1 hD1 hS1 hl
theorem k_newq (C : CY p s m args meth c cc nL own D Y A) {n : Int} {idx : Nat} (N y : Nat) (Cn : String) (hy : (tyl Y)[y]? = some (Y y, .object Cn)) (hao : va_AO Cn s) (w1 : Cond.classLink own idx Cn ∈ TB) (hn : ix n = N) (h0 : 0 ≤ w32 n) (hN : N ≤ 100000) (hc : cells + 1 ≤ R.cells) (hs : slots + N ≤ R.slots) (hd : decode cc pc = .ok (.anewarray idx, 3)) (kk : ∀ q, GC D A p l e R s m args below meth c nL Q (cells + 1) (slots + N) lo (.ref q :: sk) (a :: (r ++ [(q, .inl (Y y, N, .inr (.inr (.inr (.inr (fun _ => none))))))])) (pc + 3)) : GC D A p l e R s m args below meth c nL Q cells slots lo (vi n :: sk) (a :: r) pc := by
  intro H locs ls hP hD hS hl
  refine va_newq (N' := N) C.1.hx C.1.hb C.1.hown (C.1.hts _ w1) hao C.1.hK hP hD hS C.1.hA (fun q => by have := (i_lt0 n).mp q; omega) hn (by omega) hc hs hd (fun q1 cA H1 hK1 hP1 hD1 hS1 => ?_)
  have hcA : cA = Y y := by
    obtain ⟨_, _, -, -, -, e1⟩ := (hK1.2 6 (cA, .object Cn) rfl).2
    obtain ⟨_, _, -, -, -, e2⟩ := (C.1.hK.2 y (Y y, .object Cn) hy).2
    exact Option.some.inj (e1.symm.trans e2)
  subst hcA
  exact kk q1 H1 locs ls hP1 hD1 hS1 hl
theorem k_astq (C : CY p s m args meth c cc nL own D Y A) {y n v ar ci : Nat} {Cn : String} {T : u_T} {N : Nat} {f : Nat → Option Nat} {vs : List Value} {x : Int} (qk : Nat) (hy : (tyl Y)[y]? = some (Y y, .object Cn)) (hcl : vwCl[ci]? = some (Cn, T, N)) (hv : (a :: (ar, (.inl (Y y, n, .inr (.inr (.inr (.inr f)))) : va_E)) :: r)[qk]? = some (v, .inr (ci, vs))) (hx : inb x n) (hd : decode cc pc = .ok (.aastore, 1)) (kk : GC D A p l e R s m args below meth c nL Q cells slots lo sk (a :: (ar, .inl (Y y, n, .inr (.inr (.inr (.inr (va_up f (ix x) (some v))))))) :: r) (pc + 1)) : GC D A p l e R s m args below meth c nL Q cells slots lo (.ref v :: vi x :: .ref ar :: sk) (a :: (ar, .inl (Y y, n, .inr (.inr (.inr (.inr f))))) :: r) pc := by
  intro H locs ls hP hD hS hl
  exact va_astq (r := (Cn, T, N)) C.1.hx C.1.hb C.1.hK hP hD hS 1 y qk ci rfl hy hv hcl (inb_vp hx) hd (fun H1 locs1 hP1 hD1 hS1 => kk H1 locs1 ls hP1 hD1 hS1 hl)
theorem k_vret {h0 sz t0 mc ms : Nat} {LB : List (Nat × Nat)} {μ : Mem} (C : CY p s m args meth c cc nL own D Y (Ah h0 sz)) (α : Adr) (hα : α t0 0 = h0) (hw : w.Perm (wl Y LB α μ)) (hc : cells = mc) (hs : slots = ms) (hd : decode cc pc = .ok (.return_, 1)) : GC D (Ah h0 sz) p l e R s m args below meth c nL (MQ below (Qci D Y LB t0 μ h0 sz) args s mc ms (Ah h0 sz)) cells slots lo [] w pc := by
  intro H locs ls hP hD hS hl
  subst hc
  subst hs
  exact W.vret C.1.hx C.1.hb C.1.hr (fun t ht hW => ⟨⟨rfl, α, hα, by rw [ht]; exact va_P_perm hw hP, va_D_perm hw hD⟩, hS.F ht⟩) hS.2.2 hd C.1.hlk
theorem Pci_blind {ci h0 sz : Nat} {fs : List Value} : FrameBlind (Pci D Y ci fs h0 sz) := by
  intro a U g mk q
  obtain ⟨q0, q1, qP, qK, qD, qN⟩ := q
  exact ⟨q0, q1, qP, va_K.moved (u := U) (U := U.calling g mk a) (Vm.Alike.refl U.vm) qK, qD, qN.same rfl⟩
theorem mkx {H : Heap} {locs : List Loc} {ls : Array Slot} {st0 rest : List Value} {mc ms t0 q ci : Nat} {fs : List Value} {LB : List (Nat × Nat)} {μ : Mem} {aa : Array Value} (hA : ∀ x, s.heap.size ≤ x → A x) (hP : va_P D vwCl (w ++ [(q, .inr (ci, fs))]) H) (hD : va_D A (w ++ [(q, (.inr (ci, fs) : va_E))])) (hS : va_S A s.heap H locs)
    (hr : va_Run p l e R s m args below meth c H locs cells slots mc ms (F0 m pc ls st0) rest (Qci D Y LB t0 μ q H.size aa) (Ah q H.size))
    (kk : ∀ (α : Adr) (H1 : Heap) (locs1 : List Loc), α t0 0 = q → va_P D vwCl (w ++ wl Y LB α μ) H1 → va_D A (w ++ wl Y LB α μ) → va_S A s.heap H1 locs1 → W p l e R s m args below meth c H1 locs1 (cells + mc) (slots + ms) Q (F0 m (pc + 3) ls rest)) : W p l e R s m args below meth c H locs cells slots Q (F0 m pc ls st0) := by
  intro T hT X
  obtain ⟨v, st₀, t, T', L, h0, X', hL, e1, e2, ⟨⟨hv, α, hα, hP1, hD1⟩, hz, hk⟩, st⟩ := hr T hT X
  cases hv
  rw [h0] at hz hk
  have hAq : A q := (va_D_iff.mp hD).2 (q, .inr (ci, fs)) (by simp)
  have hAA : ∀ x, Ah q H.size x → A x := by
    rintro x (rfl | h)
    · exact hAq
    · exact hA x (Nat.le_trans hS.1 h)
  have hnq : ∀ x ∈ w, x.1 ≠ q := by
    intro x hx he
    have hn := (va_D_iff.mp hD).1
    rw [List.map_append] at hn
    exact (List.nodup_append.mp hn).2.2 x.1 (List.mem_map.mpr ⟨x, hx, rfl⟩) q (by simp) he
  have hap : ∀ x ∈ w, x.1 < H.size ∧ ¬ Ah q H.size x.1 := by
    intro x hx
    have hl := (va_P_iff.mp hP x (List.mem_append_left _ hx)).lt
    refine ⟨hl, ?_⟩
    rintro (h | h)
    · exact hnq x hx h
    · omega
  obtain ⟨t2, a1, b1⟩ := kk α T'.heap (locs ++ L) hα
    (va_P_iff.mpr fun x hx => by
      rcases List.mem_append.mp hx with h | h
      · exact (va_P_iff.mp hP x (List.mem_append_left _ h)).kept (by rw [e1]; exact hk _ (hap x h).1 (hap x h).2)
      · rw [e1]; exact va_P_iff.mp hP1 x h)
    (va_D_iff.mpr ⟨by
      rw [List.map_append]
      refine List.nodup_append.mpr ⟨?_, (va_D_iff.mp hD1).1, ?_⟩
      · have hn := (va_D_iff.mp hD).1
        rw [List.map_append] at hn
        exact (List.nodup_append.mp hn).1
      · intro x hx y hy he
        obtain ⟨x', hx', rfl⟩ := List.mem_map.mp hx
        obtain ⟨y', hy', rfl⟩ := List.mem_map.mp hy
        have := (va_D_iff.mp hD1).2 y' hy'
        rw [← he] at this
        exact (hap x' hx').2 this, fun x hx => by
      rcases List.mem_append.mp hx with h | h
      · exact (va_D_iff.mp hD).2 x (List.mem_append_left _ h)
      · exact hAA _ ((va_D_iff.mp hD1).2 x h)⟩)
    ⟨Nat.le_trans hS.1 (by rw [e1]; exact hz), fun x h1 h2 => by rw [e1, hk x (Nat.lt_of_lt_of_le h1 hS.1) (fun z => h2 (hAA x z))]; exact hS.2.1 x h1 h2, fun x hx => by
      rcases List.mem_append.mp hx with h | h
      · exact hS.2.2 x h
      · exact hAA _ (hL x h)⟩ T' rfl X'
  exact ⟨t2, st t2 a1, b1⟩
theorem k_mk0 (hx : p.tables.exec = Jvm.exec) (hb : c.code = cc) (hml : c.maxLocals = nL) (hown : s.vm.findClass own = some m.cls) (hts : ∀ w ∈ TB, w.before args s = true) (hK : va_K D vwCl (tyl Y) s) (hA : ∀ q, s.heap.size ≤ q → A q) (hN : NC s) {idx idx2 ci N t0 fr lc mc ms nL' : Nat} {Cn : String} {T : u_T} {ty0 : Nat → FieldType} {fs : List Value} {y : MethodName} {cc' : ByteArray} {LB : List (Nat × Nat)} {μ : Mem} (hcl : vwCl[ci]? = some (Cn, T, N)) (huw : ∀ w ∈ u_ws Cn T N, w ∈ TB) (hty : ∀ k, k < N → parseFieldDescriptor (T k).2.2.1 = some (ty0 k)) (w1 : Cond.classLink own idx Cn ∈ TB) (w2 : Cond.instantiable Cn N ∈ TB) (w3 : Cond.initialized Cn ∈ TB) (hfs : ∀ j, j < N → defaultValue (ty0 j) = vp_V fs j) (hM : CtI l D Y y cc' nL' fr lc mc ms ci fs LB t0 μ) (hw : CWd y cc' nL' none 0) (lk : Cond.methodLink own idx2 y ∈ TB ∨ ∃ host, va_Nw (.methodLinkNest own idx2 y host) s) (hyn : y.name = "<init>") (wi : Cond.instanceMethod y ∈ TB) (hcat : (sk.map fun v => v.category).sum ≤ 7) (hR : fr + 1 ≤ R.frames ∧ 8 + (nL' + 11) + lc ≤ R.locals) (hc : cells + 1 + mc ≤ R.cells ∧ slots + N + ms ≤ R.slots) (d1 : decode cc pc = .ok (.new idx, 3)) (d2 : decode cc (pc + 3) = .ok (.dup, 1)) (d3 : decode cc (pc + 4) = .ok (.invokespecial idx2, 3)) (kk : ∀ (q : Nat) (α : Adr), α t0 0 = q → GC D A p l e R s m args below meth c nL Q (cells + 1 + mc) (slots + N + ms) lo (.ref q :: sk) (w ++ wl Y LB α μ) (pc + 7)) : GC D A p l e R s m args below meth c nL Q cells slots lo sk w pc := by
  intro H locs ls hP hD hS hl
  refine va_new (ci := ci) (fs := fs) (C := Cn) (T := T) (N := N) hx hb hts huw ty0 hty hown (hts _ w1) (hts _ w2) (hts _ w3) hK hP hD hS hA hcl hfs (by omega) (by omega) d1 (fun q H1 hP1 hD1 hS1 => ?_)
  refine lv_dup hx hb d2 rfl ?_
  have hPc : ∀ U : State, U.heap = H1 → s.WarmedH U.vm → Pci D Y ci fs q H1.size [Value.ref q].toArray U := fun U hU hW => ⟨rfl, by rw [hU], by rw [hU]; exact va_P_iff.mpr fun x hx => va_P_iff.mp hP1 x (List.mem_append_right _ hx), va_K.moved hW.alike hK, va_D_iff.mpr ⟨by simp, fun _ _ => trivial⟩, hN.warm hW⟩
  have hcat' : ((Value.ref q :: sk).map fun v => v.category).sum ≤ 8 := by
    rw [List.map_cons, List.sum_cons]
    show 1 + _ ≤ 8
    omega
  refine mkx (ci := ci) (fs := fs) hA hP1 hD1 hS1 (LB := LB) (t0 := t0) (μ := μ) (q := q) (rest := .ref q :: sk) (mc := mc) (ms := ms) (aa := [Value.ref q].toArray) ?_ (fun α H2 locs2 h1 h2 h3 h4 => kk q α h1 H2 locs2 ls h2 h3 h4 hl)
  rcases lk with lk | ⟨host, lk⟩
  · exact va_runI (n := 0) (As := []) (rest := .ref q :: sk) ⟨hx, hb, hml, hown, hts⟩ (hM q H1.size) ⟨callB_of 0 hts (goodTB hw.2.1) rfl rfl rfl (hts _ hw.1) (hts _ lk) hw.2.2 hR, hyn, hts _ wi⟩ ⟨Pci_blind, hPc⟩ rfl rfl hl.1 rfl (lv_room hcat') d3 hc
  · exact va_runIN (n := 0) (As := []) (rest := .ref q :: sk) ⟨hx, hb, hml, hown, hts⟩ (hM q H1.size) ⟨va_cnB 0 hts (goodTB hw.2.1) rfl rfl rfl lk (hts _ hw.1) hw.2.2 hR, hyn, hts _ wi⟩ ⟨Pci_blind, hPc⟩ rfl rfl hl.1 rfl (lv_room hcat') d3 hc
theorem k_mk (C : CY p s m args meth c cc nL own D Y A) {idx idx2 ci N t0 fr lc mc ms nL' : Nat} {Cn : String} {T : u_T} {ty0 : Nat → FieldType} {fs : List Value} {y : MethodName} {cc' : ByteArray} {LB : List (Nat × Nat)} {μ : Mem} (hcl : vwCl[ci]? = some (Cn, T, N)) (huw : ∀ w ∈ u_ws Cn T N, w ∈ TB) (hty : ∀ k, k < N → parseFieldDescriptor (T k).2.2.1 = some (ty0 k)) (w1 : Cond.classLink own idx Cn ∈ TB) (w2 : Cond.instantiable Cn N ∈ TB) (w3 : Cond.initialized Cn ∈ TB) (hfs : ∀ j, j < N → defaultValue (ty0 j) = vp_V fs j) (hM : CtI l D Y y cc' nL' fr lc mc ms ci fs LB t0 μ) (hw : CWd y cc' nL' none 0) (lk : Cond.methodLink own idx2 y ∈ TB ∨ ∃ host, va_Nw (.methodLinkNest own idx2 y host) s) (hyn : y.name = "<init>") (wi : Cond.instanceMethod y ∈ TB) (hcat : (sk.map fun v => v.category).sum ≤ 7) (hR : fr + 1 ≤ R.frames ∧ 8 + (nL' + 11) + lc ≤ R.locals) (hc : cells + 1 + mc ≤ R.cells ∧ slots + N + ms ≤ R.slots) (d1 : decode cc pc = .ok (.new idx, 3)) (d2 : decode cc (pc + 3) = .ok (.dup, 1)) (d3 : decode cc (pc + 4) = .ok (.invokespecial idx2, 3)) (kk : ∀ (q : Nat) (α : Adr), α t0 0 = q → GC D A p l e R s m args below meth c nL Q (cells + 1 + mc) (slots + N + ms) lo (.ref q :: sk) (a :: (r ++ wl Y LB α μ)) (pc + 7)) : GC D A p l e R s m args below meth c nL Q cells slots lo sk (a :: r) pc :=
  k_mk0 C.1.hx C.1.hb C.1.hml C.1.hown C.1.hts C.1.hK C.1.hA C.2.2 hcl huw hty w1 w2 w3 hfs hM hw lk hyn wi hcat hR hc d1 d2 d3 (fun q α h => kk q α h)
end CONS
