/-! CALLS of contracts that leave the addresses as they are; the JDK's fill -/
theorem jn_some {β γ : Type} {j : β} {b : β → γ} {x : γ} (h : jn j b = x) : ∃ j', j' = j ∧ b j' = x := ⟨j, rfl, h⟩
theorem inb_ix3 {x : Int} (h : inb x 10) : ix x + 3 < 13 := by have := inb_ix h; omega
section CROWS
variable {p : Program} {l : Launch} {e : Env} {R : Room} {s : State} {m : MethodId} {args : Array Value} {below : List Frame} {meth : Method} {c : Code} {Q : State → Prop}
variable {D : va_G} {Y : Nat → ClassId} {LB : List (Nat × Nat)} {A : Nat → Prop} {cc : ByteArray} {nL : Nat} {own : String} {ret : Option FieldType} {α : Adr} {cells slots : Nat} {lo lo' : List (Nat × Value)} {sk : List Value} {μ : Mem} {pc : Nat}
theorem g_aaldI (C : CX p s m args meth c cc nL own ret D Y LB A) {t i n y t2 : Nat} {Cn : String} {x : Int} (hd : decode cc pc = .ok (.aaload, 1)) (hin : (t, i) ∈ LB) (he : ∀ f : Nat → Int, ec Y α (μ 28 0 0).toNat t i f = .inl (Y y, n, .inr (.inr (.inr (.inr (fun k => if k < n then some (α t2 k) else none)))))) (hy : (tyl Y)[y]? = some (Y y, .object Cn)) (hb : inb x n) (kk : GG D Y LB A p l e R s m args below meth c nL Q α cells slots lo (.ref (α t2 (ix x)) :: sk) μ (pc + 1)) : GG D Y LB A p l e R s m args below meth c nL Q α cells slots lo (vi x :: .ref (α t i) :: sk) μ pc := g_aald (g := fun k => k) C hd hin he hy hb kk
theorem g_aald3 (C : CX p s m args meth c cc nL own ret D Y LB A) {t i n y t2 : Nat} {Cn : String} {x : Int} (hd : decode cc pc = .ok (.aaload, 1)) (hin : (t, i) ∈ LB) (he : ∀ f : Nat → Int, ec Y α (μ 28 0 0).toNat t i f = .inl (Y y, n, .inr (.inr (.inr (.inr (fun k => if k < n then some (α t2 (k + 3)) else none)))))) (hy : (tyl Y)[y]? = some (Y y, .object Cn)) (hb : inb x n) (kk : GG D Y LB A p l e R s m args below meth c nL Q α cells slots lo (.ref (α t2 ((ix x) + 3)) :: sk) μ (pc + 1)) : GG D Y LB A p l e R s m args below meth c nL Q α cells slots lo (vi x :: .ref (α t i) :: sk) μ pc := g_aald (g := fun k => (k + 3)) C hd hin he hy hb kk
theorem g_callVp (C : CX p s m args meth c cc nL own ret D Y LB A) (hcr : cells ≤ R.cells ∧ slots ≤ R.slots) {idx n fr lc nL' : Nat} {y : MethodName} {cc' : ByteArray} {ret' : Option FieldType} {As rest : List Value} {r : Option Value} {μ1 : Mem} {t i ci : Nat} {q : vw_C} {fs : List Value} (hd : decode cc pc = .ok (.invokevirtual idx, 3)) (hw : CWd y cc' nL' ret' n) (hl1 : Cond.methodLink own idx y ∈ TB) (hl2 : Cond.instanceMethod y ∈ TB) (hl3 : Cond.selects y.cls y y ∈ TB) (hin : (t, i) ∈ LB) (he : ec Y α (μ 28 0 0).toNat t i (μ t i) = .inr (ci, fs)) (hc : vwCl[ci]? = some q) (hq : q.1 = y.cls) (hM : Ctr l D Y LB y cc' nL' ret' fr lc 0 0 (.ref (α t i) :: As) α μ r (fun a => a = α) μ1) (hn : As.length = n) (hsk : sk = As.reverse ++ .ref (α t i) :: rest) (hcat : (rest.map fun v => v.category).sum ≤ 8) (hR : fr + 1 ≤ R.frames ∧ 8 + (nL' + 11) + lc ≤ R.locals) (kk : GG D Y LB A p l e R s m args below meth c nL Q α cells slots lo (r.toList ++ rest) μ1 (pc + 3)) : GG D Y LB A p l e R s m args below meth c nL Q α cells slots lo sk μ pc := g_callV C hd hw hl1 hl2 hl3 hin he hc hq hM hn hsk hcat hR hcr (fun α' h => by rw [show α' = α from h]; exact kk)
theorem g_callSp (C : CX p s m args meth c cc nL own ret D Y LB A) (hcr : cells ≤ R.cells ∧ slots ≤ R.slots) {idx n fr lc nL' : Nat} {y : MethodName} {cc' : ByteArray} {ret' : Option FieldType} {As rest : List Value} {r : Option Value} {μ1 : Mem}  (hd : decode cc pc = .ok (.invokestatic idx, 3)) (hw : CWd y cc' nL' ret' n) (hl1 : Cond.methodLink own idx y ∈ TB) (hl2 : Cond.static y ∈ TB) (hM : Ctr l D Y LB y cc' nL' ret' fr lc 0 0 As α μ r (fun a => a = α) μ1) (hn : As.length = n) (hsk : sk = As.reverse ++ rest) (hcat : (rest.map fun v => v.category).sum ≤ 8) (hR : fr + 1 ≤ R.frames ∧ 8 + (nL' + 11) + lc ≤ R.locals) (kk : GG D Y LB A p l e R s m args below meth c nL Q α cells slots lo (r.toList ++ rest) μ1 (pc + 3)) : GG D Y LB A p l e R s m args below meth c nL Q α cells slots lo sk μ pc := g_callS C hd hw hl1 hl2 hM hn hsk hcat hR hcr (fun α' h => by rw [show α' = α from h]; exact kk)
theorem g_callNp (C : CX p s m args meth c cc nL own ret D Y LB A) (hcr : cells ≤ R.cells ∧ slots ≤ R.slots) {idx n fr lc nL' : Nat} {y : MethodName} {cc' : ByteArray} {ret' : Option FieldType} {As rest : List Value} {r : Option Value} {μ1 : Mem} {host : String} (hd : decode cc pc = .ok (.invokestatic idx, 3)) (hw : CWd y cc' nL' ret' n) (hl1 : va_Nw (.methodLinkNest own idx y host) s) (hl2 : Cond.static y ∈ TB) (hM : Ctr l D Y LB y cc' nL' ret' fr lc 0 0 As α μ r (fun a => a = α) μ1) (hn : As.length = n) (hsk : sk = As.reverse ++ rest) (hcat : (rest.map fun v => v.category).sum ≤ 8) (hR : fr + 1 ≤ R.frames ∧ 8 + (nL' + 11) + lc ≤ R.locals) (kk : GG D Y LB A p l e R s m args below meth c nL Q α cells slots lo (r.toList ++ rest) μ1 (pc + 3)) : GG D Y LB A p l e R s m args below meth c nL Q α cells slots lo sk μ pc := g_callN C hd hw hl1 hl2 hM hn hsk hcat hR hcr (fun α' h => by rw [show α' = α from h]; exact kk)
def cpy (μ : Mem) (t i t2 i2 : Nat) (sp dp n : Int) : Mem := fun t' i' => if t' = t2 ∧ i' = i2 then (fun k => if ix dp ≤ k ∧ k < ix dp + ix n then μ t i (ix sp + (k - ix dp)) else μ t2 i2 k) else μ t' i'
theorem wl_cp {Y : Nat → ClassId} {LB : List (Nat × Nat)} {α : Adr} {μ μ1 : Mem} {t i q0 : Nat} {f : Nat → Int} (hnd : LB.Nodup) (h28 : μ1 28 0 0 = μ 28 0 0) (h1 : μ1 t i = f) (h2 : ∀ t' i', ¬ (t' = t ∧ i' = i) → μ1 t' i' = μ t' i') (hq : LB[q0]? = some (t, i)) : (wl Y LB α μ).set q0 (α t i, ec Y α (μ 28 0 0).toNat t i f) = wl Y LB α μ1 := by
  apply List.ext_getElem?
  intro j
  rw [List.getElem?_set]
  by_cases hj : q0 = j
  · subst hj
    have hlt : q0 < LB.length := (List.getElem?_eq_some_iff.mp hq).1
    simp only [wl, List.getElem?_map, hq, h28, List.length_map, hlt, if_true, Option.map_some, h1]
  · rw [if_neg hj]
    simp only [wl, List.getElem?_map, h28]
    cases hc : LB[j]? with
    | none => rfl
    | some q =>
      have hne : ¬ (q.1 = t ∧ q.2 = i) := by
        rintro ⟨h1, h2⟩
        have hqq : q = (t, i) := by cases q; simp_all
        rw [hqq] at hc
        exact hj ((List.getElem?_inj (List.getElem?_eq_some_iff.mp hq).1 hnd).mp (hq.trans hc.symm))
      simp only [Option.map_some, h2 _ _ hne]
theorem g_copy (C : CX p s m args meth c cc nL own ret D Y LB A) {idx t i t2 i2 : Nat} {sp dp n : Int} (w1 : Cond.methodLink own idx arraycopyName ∈ TB) (w2 : Cond.native arraycopyName ∈ TB) (w3 : Cond.static arraycopyName ∈ TB) (w4 : Cond.initialized "java/lang/System" ∈ TB) (hfr : 1 ≤ R.frames) (hlc : (sk.map fun v => v.category).sum + (nativeFrameWords "java/lang/System" "arraycopy" 5 + 11) ≤ R.locals) (hd : decode cc pc = .ok (.invokestatic idx, 3)) (hin : (t, i) ∈ LB) (hin2 : (t2, i2) ∈ LB) (he : ∀ f : Nat → Int, ec Y α (μ 28 0 0).toNat t i f = .inl (Y 1, 40, .inr (.inl (fun j => Int64.ofInt (f j))))) (he2 : ∀ f : Nat → Int, ec Y α (μ 28 0 0).toNat t2 i2 f = .inl (Y 1, 40, .inr (.inl (fun j => Int64.ofInt (f j))))) (h28 : t2 ≠ 28) (hg : (0 ≤ w32 sp ∧ 0 ≤ w32 dp) ∧ 0 ≤ w32 n ∧ ix sp + ix n ≤ 40 ∧ ix dp + ix n ≤ 40) (kk : GG D Y LB A p l e R s m args below meth c nL Q α cells slots lo sk (cpy μ t i t2 i2 sp dp n) (pc + 3)) : GG D Y LB A p l e R s m args below meth c nL Q α cells slots lo (vi n :: vi dp :: .ref (α t2 i2) :: vi sp :: .ref (α t i) :: sk) μ pc := by
  intro H locs ls hP hD hS hl
  obtain ⟨q0, hq, -⟩ := wl_at (Y := Y) (α := α) (μ := μ) hin
  obtain ⟨q1, hq1, hL1⟩ := wl_at (Y := Y) (α := α) (μ := μ) hin2
  rw [he] at hq
  rw [he2] at hq1
  obtain ⟨⟨g1, g2⟩, g3, g4, g5⟩ := hg
  refine va_copyl (ty := .long) C.hx C.hb (C.hml.trans hl.1.symm) C.hown (C.hts _ w1) (C.hts _ w2) (C.hts _ w3) (C.hts _ w4) C.hK hP hD hS q0 q1 1 1 hq hq1 rfl rfl rfl (fun q => by have := (i_lt0 sp).mp q; omega) (fun q => by have := (i_lt0 dp).mp q; omega) (fun q => by have := (i_lt0 n).mp q; omega) (by simp only [ix_cl]; exact g4) (by simp only [ix_cl]; exact g5) (fun _ _ => rfl) hfr hlc hd (fun H1 locs1 hP1 hD1 hS1 => ?_)
  have hu : (.inl (Y 1, 40, .inr (.inl (va_cpy (fun j => Int64.ofInt (μ t i j)) (fun j => Int64.ofInt (μ t2 i2 j)) (ix sp) (ix dp) (ix n)))) : va_E) = ec Y α (μ 28 0 0).toNat t2 i2 (fun k => if ix dp ≤ k ∧ k < ix dp + ix n then μ t i (ix sp + (k - ix dp)) else μ t2 i2 k) := by
    rw [he2]
    congr 5
    funext j
    unfold va_cpy
    split <;> rfl
  have hP1 : va_P D vwCl ((wl Y LB α μ).set q1 (α t2 i2, (.inl (Y 1, 40, .inr (.inl (va_cpy (fun j => Int64.ofInt (μ t i j)) (fun j => Int64.ofInt (μ t2 i2 j)) (ix sp) (ix dp) (ix n)))) : va_E))) H1 := hP1
  have hD1 : va_D A ((wl Y LB α μ).set q1 (α t2 i2, (.inl (Y 1, 40, .inr (.inl (va_cpy (fun j => Int64.ofInt (μ t i j)) (fun j => Int64.ofInt (μ t2 i2 j)) (ix sp) (ix dp) (ix n)))) : va_E))) := hD1
  have hcp := wl_cp (Y := Y) (α := α) (μ := μ) (μ1 := cpy μ t i t2 i2 sp dp n) C.hnd (by unfold cpy; rw [if_neg (fun q => h28 q.1.symm)]) (by unfold cpy; rw [if_pos ⟨rfl, rfl⟩]) (fun t' i' h => by unfold cpy; rw [if_neg h]) hL1
  rw [hu, hcp] at hP1 hD1
  exact kk H1 locs1 ls hP1 hD1 hS1 hl
end CROWS
def f_J7_fill_53178_L (t i n : Nat) (v : Int) : Nat → Int → Mem → Option (Int × Mem)
  | 0, _, _ => none
  | k + 1, x, μ => if w32 (n : Int) ≤ w32 x then some (0, μ) else gd (inb x n) (f_J7_fill_53178_L t i n v k (x + 1) (st μ t i (ix x) v))
def f_J7_fill_53178 (t i n : Nat) (v : Int) (μ : Mem) : Option (Int × Mem) := f_J7_fill_53178_L t i n v FU 0 μ
set_option maxRecDepth 100000 in
theorem c_J7_fill_53178_l {p : Program} {l : Launch} {e : Env} {R : Room} {s : State} {m : MethodId} {args : Array Value} {below : List Frame} {meth : Method} {c : Code} {D : va_G} {Y : Nat → ClassId} {α : Adr} {sz : Nat} {r : Int} {μ' : Mem} {t i n : Nat} {v : Int} (C : CX p s m args meth c cJ7_fill_53178 4 RJ7 none D Y LBx (Ar LBx α sz)) (hin : (t, i) ∈ LBx) (hec : ∀ (Y : Nat → ClassId) (α : Adr) (k : Nat) (f : Nat → Int), ec Y α k t i f = .inl (Y 0, n, .inl (fun j => Int32.ofInt (f j)))) (h28 : t ≠ 28) : ∀ (k : Nat) (x : Int) (μ : Mem), f_J7_fill_53178_L t i n v k x μ = some (r, μ') → GG D Y LBx (Ar LBx α sz) p l e R s m args below meth c 4 (MQ below (Qcx D Y LBx α sz none (fun a => a = α) μ') args s 0 0 (Ar LBx α sz)) α 0 0 [(0, vr α t i), (1, vi v), (2, vi x), (3, vi (n : Int))] [] μ 5 := by
  intro k
  induction k with
  | zero =>
    intro x μ hf
    exact nomatch (show (none : Option (Int × Mem)) = some _ from hf)
  | succ k ih =>
    intro x μ hf
    rw [f_J7_fill_53178_L.eq_2] at hf
    refine g_ild_n C 2 rfl rfl dJ7_fill_53178_5 ?_
    refine g_ild_n C 3 rfl rfl dJ7_fill_53178_6 ?_
    refine g_ic_ge C 20 (by decide) dJ7_fill_53178_7 (fun h => ?_) (fun h => ?_)
    · rw [if_pos h] at hf
      exact g_vret C rfl dJ7_fill_53178_20 hf
    · rw [if_neg h] at hf
      obtain ⟨g1, hf⟩ := gd_some hf
      refine g_ald_n C 0 rfl rfl dJ7_fill_53178_10 ?_
      refine g_ild_n C 2 rfl rfl dJ7_fill_53178_11 ?_
      refine g_ild_n C 1 rfl rfl dJ7_fill_53178_12 ?_
      refine g_iast C dJ7_fill_53178_13 hin (fun f => hec _ _ _ f) h28 g1 ?_
      refine g_iinc (lo' := [(2, vi (x + 1)), (0, vr α t i), (1, vi v), (3, vi (n : Int))]) C 2 rfl (by decide) rfl dJ7_fill_53178_14 ?_
      refine g_goto C 5 (by decide) dJ7_fill_53178_17 ?_
      exact g_sub C [1, 2, 0, 3] rfl (ih _ _ hf)
set_option maxRecDepth 100000 in
theorem c_J7_fill_53178 {l : Launch} {D : va_G} {Y : Nat → ClassId} {α : Adr} {t i n : Nat} {v : Int} {μ : Mem} {r : Int} {μ' : Mem} (hin : (t, i) ∈ LBx) (hec : ∀ (Y : Nat → ClassId) (α : Adr) (k : Nat) (f : Nat → Int), ec Y α k t i f = .inl (Y 0, n, .inl (fun j => Int32.ofInt (f j)))) (h28 : t ≠ 28) (hf : f_J7_fill_53178 t i n v μ = some (r, μ')) : Ctr l D Y LBx yJ7_fill_53178 cJ7_fill_53178 4 none 0 0 0 0 [vr α t i, vi v] α μ none (fun a => a = α) μ' := Ctr_of pn_J7 rfl rfl (Nat.le_of_ble_eq_true rfl) LBx_nd (fun p e s m below meth c sz C => by
  unfold f_J7_fill_53178 at hf
  refine g_iconst C dJ7_fill_53178_0 ?_
  refine g_ist_n (lo' := [(2, vi 0), (0, vr α t i), (1, vi v)]) C rfl (by decide) rfl dJ7_fill_53178_1 ?_
  refine g_ald_n C 1 rfl rfl dJ7_fill_53178_2 ?_
  refine g_alen (y := 0) C dJ7_fill_53178_3 hin (fun f => hec _ _ _ f) rfl ?_
  refine g_ist_n (lo' := [(3, vi (n : Int)), (2, vi 0), (0, vr α t i), (1, vi v)]) C rfl (by decide) rfl dJ7_fill_53178_4 ?_
  exact g_sub C [2, 3, 1, 0] rfl (c_J7_fill_53178_l C hin hec h28 _ _ _ hf))
def f_J7_fill_d0a16_L (t i n : Nat) (v : Int) : Nat → Int → Mem → Option (Int × Mem)
  | 0, _, _ => none
  | k + 1, x, μ => if w32 (n : Int) ≤ w32 x then some (0, μ) else gd (inb x n) (f_J7_fill_d0a16_L t i n v k (x + 1) (st μ t i (ix x) v))
def f_J7_fill_d0a16 (t i n : Nat) (v : Int) (μ : Mem) : Option (Int × Mem) := f_J7_fill_d0a16_L t i n v FU 0 μ
set_option maxRecDepth 100000 in
theorem c_J7_fill_d0a16_l {p : Program} {l : Launch} {e : Env} {R : Room} {s : State} {m : MethodId} {args : Array Value} {below : List Frame} {meth : Method} {c : Code} {D : va_G} {Y : Nat → ClassId} {α : Adr} {sz : Nat} {r : Int} {μ' : Mem} {t i n : Nat} {v : Int} (C : CX p s m args meth c cJ7_fill_d0a16 5 RJ7 none D Y LBx (Ar LBx α sz)) (hin : (t, i) ∈ LBx) (hec : ∀ (Y : Nat → ClassId) (α : Adr) (k : Nat) (f : Nat → Int), ec Y α k t i f = .inl (Y 1, n, .inr (.inl (fun j => Int64.ofInt (f j))))) (h28 : t ≠ 28) : ∀ (k : Nat) (x : Int) (μ : Mem), f_J7_fill_d0a16_L t i n v k x μ = some (r, μ') → GG D Y LBx (Ar LBx α sz) p l e R s m args below meth c 5 (MQ below (Qcx D Y LBx α sz none (fun a => a = α) μ') args s 0 0 (Ar LBx α sz)) α 0 0 [(0, vr α t i), (1, vl v), (3, vi x), (4, vi (n : Int))] [] μ 6 := by
  intro k
  induction k with
  | zero =>
    intro x μ hf
    exact nomatch (show (none : Option (Int × Mem)) = some _ from hf)
  | succ k ih =>
    intro x μ hf
    rw [f_J7_fill_d0a16_L.eq_2] at hf
    refine g_ild_n C 2 rfl rfl dJ7_fill_d0a16_6 ?_
    refine g_ild C 3 rfl dJ7_fill_d0a16_7 ?_
    refine g_ic_ge C 22 (by decide) dJ7_fill_d0a16_9 (fun h => ?_) (fun h => ?_)
    · rw [if_pos h] at hf
      exact g_vret C rfl dJ7_fill_d0a16_22 hf
    · rw [if_neg h] at hf
      obtain ⟨g1, hf⟩ := gd_some hf
      refine g_ald_n C 0 rfl rfl dJ7_fill_d0a16_12 ?_
      refine g_ild_n C 2 rfl rfl dJ7_fill_d0a16_13 ?_
      refine g_lld_n C 1 rfl rfl dJ7_fill_d0a16_14 ?_
      refine g_last C dJ7_fill_d0a16_15 hin (fun f => hec _ _ _ f) h28 g1 ?_
      refine g_iinc (lo' := [(3, vi (x + 1)), (0, vr α t i), (1, vl v), (4, vi (n : Int))]) C 2 rfl (by decide) rfl dJ7_fill_d0a16_16 ?_
      refine g_goto C 6 (by decide) dJ7_fill_d0a16_19 ?_
      exact g_sub C [1, 2, 0, 3] rfl (ih _ _ hf)
set_option maxRecDepth 100000 in
theorem c_J7_fill_d0a16 {l : Launch} {D : va_G} {Y : Nat → ClassId} {α : Adr} {t i n : Nat} {v : Int} {μ : Mem} {r : Int} {μ' : Mem} (hin : (t, i) ∈ LBx) (hec : ∀ (Y : Nat → ClassId) (α : Adr) (k : Nat) (f : Nat → Int), ec Y α k t i f = .inl (Y 1, n, .inr (.inl (fun j => Int64.ofInt (f j))))) (h28 : t ≠ 28) (hf : f_J7_fill_d0a16 t i n v μ = some (r, μ')) : Ctr l D Y LBx yJ7_fill_d0a16 cJ7_fill_d0a16 5 none 0 0 0 0 [vr α t i, vl v] α μ none (fun a => a = α) μ' := Ctr_of pn_J7 rfl rfl (Nat.le_of_ble_eq_true rfl) LBx_nd (fun p e s m below meth c sz C => by
  unfold f_J7_fill_d0a16 at hf
  refine g_iconst C dJ7_fill_d0a16_0 ?_
  refine g_ist_n (lo' := [(3, vi 0), (0, vr α t i), (1, vl v)]) C rfl (by decide) rfl dJ7_fill_d0a16_1 ?_
  refine g_ald_n C 1 rfl rfl dJ7_fill_d0a16_2 ?_
  refine g_alen (y := 1) C dJ7_fill_d0a16_3 hin (fun f => hec _ _ _ f) rfl ?_
  refine g_ist (lo' := [(4, vi (n : Int)), (3, vi 0), (0, vr α t i), (1, vl v)]) C (by decide) rfl dJ7_fill_d0a16_4 ?_
  exact g_sub C [2, 3, 1, 0] rfl (c_J7_fill_d0a16_l C hin hec h28 _ _ _ hf))
