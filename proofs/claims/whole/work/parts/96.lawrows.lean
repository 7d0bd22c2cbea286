/-! THE LAW'S ROWS: two worlds side by side, the script -/
def LB2 : List (Nat × Nat) := LBx ++ LBm
theorem LB2_nd : LB2.Nodup := by decide +kernel
def mA (αx αm : Adr) : Adr := fun t i => if t < 30 then αx t i else αm t i
def mM (μx μm : Mem) : Mem := fun t i => if t < 30 then μx t i else μm t i
theorem wl2 {Y : Nat → ClassId} {αx αm : Adr} {μx μm : Mem} : wl Y LB2 (mA αx αm) (mM μx μm) = wl Y LBx αx μx ++ wl Y LBm αm μm := by
  unfold LB2
  rw [wl_app]
  congr 1
def sc (xs : Nat → Int32) (j : Nat) : Int := (xs j).toInt
theorem sc_vi (xs : Nat → Int32) (j : Nat) : vi (sc xs j) = .int (xs j) := by unfold vi sc; rw [Int32.ofInt_toInt]
theorem sc_I (xs : Nat → Int32) (j : Nat) : I32 (sc xs j) := ⟨Int32.le_toInt _, by have := Int32.toInt_lt (xs j); unfold sc; omega⟩
def lsh (x y : Int) : Int := (Int64.ofInt x <<< ((Int32.ofInt y).toInt64 &&& 63)).toInt
def lan (x y : Int) : Int := (Int64.ofInt x &&& Int64.ofInt y).toInt
def lor_ (x y : Int) : Int := (Int64.ofInt x ||| Int64.ofInt y).toInt
theorem lor_I (x y : Int) : I64 (lor_ x y) := ⟨Int64.le_toInt _, by have := Int64.toInt_lt (Int64.ofInt x ||| Int64.ofInt y); unfold lor_; omega⟩
def Roo (cells slots : Nat) (l : Int) : Prop := (cells : Int) + pc l ≤ 600000 ∧ (slots : Int) + ps l ≤ 7302250
theorem Roo.cr {cells slots : Nat} {l : Int} (h : Roo cells slots l) (hl : l ≤ 20000) : cells ≤ 600000 ∧ slots ≤ 7302250 := by
  obtain ⟨h1, h2⟩ := h
  unfold pc at h1
  unfold ps at h2
  split at h2 <;> constructor <;> omega
theorem Roo.step {cells slots mc ms : Nat} {l l' : Int} (h : Roo cells slots l) (hp : Pot l l' mc ms) : Roo (cells + mc) (slots + ms) l' := by
  obtain ⟨h1, h2⟩ := h
  obtain ⟨h3, h4⟩ := hp
  unfold Roo
  constructor <;> omega
theorem Rel.len {μx μm : Mem} (R : Rel μx μm) : μx 28 0 0 ≤ 20000 := R.2.2.2.2.2.1.2
section LROWS
variable {p : Program} {l : Launch} {e : Env} {R : Room} {s : State} {m : MethodId} {args : Array Value} {below : List Frame} {meth : Method} {c : Code} {Q : State → Prop}
variable {D : va_G} {Y : Nat → ClassId} {LB : List (Nat × Nat)} {A : Nat → Prop} {cc : ByteArray} {nL : Nat} {own : String} {ret : Option FieldType} {α αx αm : Adr} {cells slots : Nat} {lo lo' : List (Nat × Value)} {sk : List Value} {w : va_W} {μ μx μm : Mem} {pc : Nat}
theorem g_lshl (C : CX p s m args meth c cc nL own ret D Y LB A) {x y : Int} (hd : decode cc pc = .ok (.lshl, 1)) (k : GG D Y LB A p l e R s m args below meth c nL Q α cells slots lo (vl (lsh x y) :: sk) μ (pc + 1)) : GG D Y LB A p l e R s m args below meth c nL Q α cells slots lo (vi y :: vl x :: sk) μ pc := fun H locs ls hP hD hS hl => lv_lshl C.hx C.hb hd rfl (by have k2 := k H locs ls hP hD hS hl; unfold vl lsh at k2; rw [Int64.ofInt_toInt] at k2; exact k2)
theorem g_land (C : CX p s m args meth c cc nL own ret D Y LB A) {x y : Int} (hd : decode cc pc = .ok (.land, 1)) (k : GG D Y LB A p l e R s m args below meth c nL Q α cells slots lo (vl (lan x y) :: sk) μ (pc + 1)) : GG D Y LB A p l e R s m args below meth c nL Q α cells slots lo (vl y :: vl x :: sk) μ pc := fun H locs ls hP hD hS hl => lv_land C.hx C.hb hd (by have k2 := k H locs ls hP hD hS hl; unfold vl lan at k2; rw [Int64.ofInt_toInt] at k2; exact k2)
theorem g_lor (C : CX p s m args meth c cc nL own ret D Y LB A) {x y : Int} (hd : decode cc pc = .ok (.lor, 1)) (k : GG D Y LB A p l e R s m args below meth c nL Q α cells slots lo (vl (lor_ x y) :: sk) μ (pc + 1)) : GG D Y LB A p l e R s m args below meth c nL Q α cells slots lo (vl y :: vl x :: sk) μ pc := fun H locs ls hP hD hS hl => lv_lor C.hx C.hb hd (by have k2 := k H locs ls hP hD hS hl; unfold vl lor_ at k2; rw [Int64.ofInt_toInt] at k2; exact k2)
/-- the script, and that a row of six lies ahead -/
def SC (s : State) (A : Nat → Prop) (b L : Nat) (xs : Nat → Int32) (N : Nat) : Prop := va_X b L xs s s.heap ∧ b < s.heap.size ∧ ¬ A b ∧ L ≤ 3072 ∧ N + 6 ≤ L
theorem g_arg (C : CX p s m args meth c cc nL own ret D Y LB A) {b L N : Nat} {xs : Nat → Int32} (S : SC s A b L xs N) (j0 j3 k : Nat) (hk : k ≤ 5) (h0 : lo[j0]? = some (0, .ref b)) (h3 : lo[j3]? = some (3, vi (N : Int))) (d0 : decode cc pc = .ok (.aload_n 0, 1)) (d1 : decode cc (pc + 1) = .ok (.iload_n 3, 1)) (d2 : decode cc (pc + 2) = .ok (.iconst (k : Int), 1)) (d3 : decode cc (pc + 3) = .ok (.iadd, 1)) (d4 : decode cc (pc + 4) = .ok (.iaload, 1)) (kk : GG D Y LB A p l e R s m args below meth c nL Q α cells slots lo (vi (sc xs (N + k)) :: sk) μ (pc + 5)) : GG D Y LB A p l e R s m args below meth c nL Q α cells slots lo sk μ pc := by
  refine g_ald_n C j0 rfl h0 d0 ?_
  refine g_ild_n C j3 rfl h3 d1 ?_
  refine g_iconst C d2 ?_
  refine g_iadd C d3 ?_
  obtain ⟨hX, hbl, hbA, hL, hN⟩ := S
  have hw : w32 ((N : Int) + (k : Int)) = (N : Int) + k := w32_id (by omega) (by omega)
  intro H locs ls hP hD hS hl
  refine va_sld C.hx C.hb hX hbl hbA hS (inb_vp (x := (N : Int) + k) ⟨by rw [hw]; omega, by rw [hw]; omega⟩) d4 ?_
  have k2 := kk H locs ls hP hD hS hl
  rw [sc_vi] at k2
  have hi : (Int32.ofInt ((N : Int) + k)).toNatClampNeg = N + k := by
    rw [ix_cl]
    unfold ix
    rw [hw]
    omega
  rw [hi]
  exact k2
theorem g_arg0 (C : CX p s m args meth c cc nL own ret D Y LB A) {b L N : Nat} {xs : Nat → Int32} (S : SC s A b L xs N) (j0 j3 : Nat) (h0 : lo[j0]? = some (0, .ref b)) (h3 : lo[j3]? = some (3, vi (N : Int))) (d0 : decode cc pc = .ok (.aload_n 0, 1)) (d1 : decode cc (pc + 1) = .ok (.iload_n 3, 1)) (d4 : decode cc (pc + 2) = .ok (.iaload, 1)) (kk : GG D Y LB A p l e R s m args below meth c nL Q α cells slots lo (vi (sc xs N) :: sk) μ (pc + 3)) : GG D Y LB A p l e R s m args below meth c nL Q α cells slots lo sk μ pc := by
  refine g_ald_n C j0 rfl h0 d0 ?_
  refine g_ild_n C j3 rfl h3 d1 ?_
  obtain ⟨hX, hbl, hbA, hL, hN⟩ := S
  have hw : w32 (N : Int) = (N : Int) := w32_id (by omega) (by omega)
  intro H locs ls hP hD hS hl
  refine va_sld C.hx C.hb hX hbl hbA hS (inb_vp (x := (N : Int)) ⟨by rw [hw]; omega, by rw [hw]; omega⟩) d4 ?_
  have k2 := kk H locs ls hP hD hS hl
  rw [sc_vi] at k2
  have hi : (Int32.ofInt (N : Int)).toNatClampNeg = N := by
    rw [ix_cl]
    unfold ix
    rw [hw]
    omega
  rw [hi]
  exact k2
theorem g_slen (C : CX p s m args meth c cc nL own ret D Y LB A) {b L : Nat} {xs : Nat → Int32} (hX : va_X b L xs s s.heap) (hbl : b < s.heap.size) (hbA : ¬ A b) (hd : decode cc pc = .ok (.arraylength, 1)) (kk : GG D Y LB A p l e R s m args below meth c nL Q α cells slots lo (vi (L : Int) :: sk) μ (pc + 1)) : GG D Y LB A p l e R s m args below meth c nL Q α cells slots lo (.ref b :: sk) μ pc := by
  intro H locs ls hP hD hS hl
  refine va_slen C.hx C.hb hX hbl hbA hS hd ?_
  have k2 := kk H locs ls hP hD hS hl
  unfold vi at k2
  rw [Int32.ofInt_eq_ofNat] at k2
  exact k2
theorem callx2 {H : Heap} {locs : List Loc} {ls : Array Slot} {st0 rest : List Value} {mc ms : Nat} {r : Option Value} {ok : Adr → Prop} {μ' : Mem} {aa : Array Value} (hA : ∀ q, s.heap.size ≤ q → A q) (hP : va_P D vwCl (w ++ wl Y LB α μ) H) (hD : va_D A (w ++ wl Y LB α μ)) (hS : va_S A s.heap H locs)
    (hr : va_Run p l e R s m args below meth c H locs cells slots mc ms (F0 m pc ls st0) rest (Qcx D Y LB α H.size r ok μ' aa) (Ar LB α H.size))
    (kk : ∀ (α' : Adr) (H1 : Heap) (locs1 : List Loc), ok α' → va_P D vwCl (w ++ wl Y LB α' μ') H1 → va_D A (w ++ wl Y LB α' μ') → va_S A s.heap H1 locs1 → W p l e R s m args below meth c H1 locs1 (cells + mc) (slots + ms) Q (F0 m (pc + 3) ls (r.toList ++ rest))) : W p l e R s m args below meth c H locs cells slots Q (F0 m pc ls st0) := by
  intro T hT X
  obtain ⟨v, st₀, t, T', L, h0, X', hL, e1, e2, ⟨⟨hv, α', hok, hP1, hD1⟩, hz, hk⟩, st⟩ := hr T hT X
  cases hv
  rw [h0] at hz hk
  have hin : ∀ u ∈ LB, (α u.1 u.2, ec Y α (μ 28 0 0).toNat u.1 u.2 (μ u.1 u.2)) ∈ wl Y LB α μ := fun u hu => List.mem_map.mpr ⟨u, hu, rfl⟩
  have hAA : ∀ x, Ar LB α H.size x → A x := by
    rintro x (⟨u, hu, rfl⟩ | h)
    · exact (va_D_iff.mp hD).2 _ (List.mem_append_right _ (hin u hu))
    · exact hA x (Nat.le_trans hS.1 h)
  have hn := (va_D_iff.mp hD).1
  rw [List.map_append] at hn
  have hap : ∀ x ∈ w, x.1 < H.size ∧ ¬ Ar LB α H.size x.1 := by
    intro x hx
    have hl := (va_P_iff.mp hP x (List.mem_append_left _ hx)).lt
    refine ⟨hl, ?_⟩
    rintro (⟨u, hu, he⟩ | h)
    · exact (List.nodup_append.mp hn).2.2 x.1 (List.mem_map.mpr ⟨x, hx, rfl⟩) _ (List.mem_map.mpr ⟨_, hin u hu, rfl⟩) he
    · omega
  obtain ⟨t2, a1, b1⟩ := kk α' T'.heap (locs ++ L) hok
    (va_P_iff.mpr fun x hx => by
      rcases List.mem_append.mp hx with h | h
      · exact (va_P_iff.mp hP x (List.mem_append_left _ h)).kept (by rw [e1]; exact hk _ (hap x h).1 (hap x h).2)
      · rw [e1]; exact va_P_iff.mp hP1 x h)
    (va_D_iff.mpr ⟨by
      rw [List.map_append]
      refine List.nodup_append.mpr ⟨(List.nodup_append.mp hn).1, (va_D_iff.mp hD1).1, ?_⟩
      intro x hx y hy he
      obtain ⟨x', hx', rfl⟩ := List.mem_map.mp hx
      obtain ⟨y', hy', rfl⟩ := List.mem_map.mp hy
      have := (va_D_iff.mp hD1).2 y' hy'
      rw [← he] at this
      exact (hap x' hx').2 this, fun x hx => by
      rcases List.mem_append.mp hx with h | h
      · exact (va_D_iff.mp hD).2 x (List.mem_append_left _ h)
      · exact hAA _ ((va_D_iff.mp hD1).2 x h)⟩)
    ⟨Nat.le_trans hS.1 (by rw [e1]; exact hz), fun x h1 h2 => by rw [e1, hk x (Nat.lt_of_lt_of_le h1 hS.1) (fun z => h2 (hAA x z))]; exact hS.2.1 x h1 h2, fun x hx => by
      rcases List.mem_append.mp hx with h | h
      · exact hS.2.2 x h
      · exact hAA _ (hL x h)⟩ T' rfl X'
  exact ⟨t2, st t2 a1, b1⟩
theorem runV2 (C : CX p s m args meth c cc nL own ret D Y LB2 A) {H : Heap} {locs : List Loc} {ls : Array Slot} {idx n fr lc mc ms nL' : Nat} {y : MethodName} {cc' : ByteArray} {ret' : Option FieldType} {As rest : List Value} {r : Option Value} {ok : Adr → Prop} {μ1 : Mem} {t i ci : Nat} {q : vw_C} {fs : List Value} (hd : decode cc pc = .ok (.invokevirtual idx, 3)) (hw : CWd y cc' nL' ret' n) (hl1 : Cond.methodLink own idx y ∈ TB) (hl2 : Cond.instanceMethod y ∈ TB) (hl3 : Cond.selects y.cls y y ∈ TB) (hin : (t, i) ∈ LB) (he : ec Y α (μ 28 0 0).toNat t i (μ t i) = .inr (ci, fs)) (hc : vwCl[ci]? = some q) (hq : q.1 = y.cls) (hM : Ctr l D Y LB y cc' nL' ret' fr lc mc ms (.ref (α t i) :: As) α μ r ok μ1) (hn : As.length = n) (hsk : sk = As.reverse ++ .ref (α t i) :: rest) (hcat : (rest.map fun v => v.category).sum ≤ 8) (hR : fr + 1 ≤ R.frames ∧ 8 + (nL' + 11) + lc ≤ R.locals) (hf : cells + mc ≤ R.cells ∧ slots + ms ≤ R.slots) (hP : va_P D vwCl (wl Y LB α μ) H) (hD : va_D A (wl Y LB α μ)) (hl : lv_has ls nL lo) : va_Run p l e R s m args below meth c H locs cells slots mc ms (F0 m pc ls sk) rest (Qcx D Y LB α H.size r ok μ1 (Value.ref (α t i) :: As).toArray) (Ar LB α H.size) := by
  subst hsk
  obtain ⟨q0, hq0, -⟩ := wl_at (Y := Y) (α := α) (μ := μ) hin
  rw [he] at hq0
  exact va_runV (n := n) (C := y.cls) (As := As) (rest := rest) ⟨C.hx, C.hb, C.hml, C.hown, C.hts⟩ (hM H.size) ⟨cwB C hw hl1 hR, C.hts _ hl2, C.hts _ hl3⟩ ⟨Pcx_blind, by rw [← hq]; exact va_recv C.hK hP hc hq0, fun U hU hW => ⟨rfl, by rw [hU], by rw [hU]; exact hP, va_K.moved hW.alike C.hK, hD.weaken (fun _ _ _ _ => trivial), C.hnw.warm hW⟩⟩ rfl hn hl.1 rfl (lv_room hcat) hd hf
theorem g_callX (C : CX p s m args meth c cc nL own ret D Y LB2 A) {idx n fr lc mc ms nL' : Nat} {y : MethodName} {cc' : ByteArray} {ret' : Option FieldType} {As rest : List Value} {r : Option Value} {ok : Adr → Prop} {μ1 : Mem} (hd : decode cc pc = .ok (.invokevirtual idx, 3)) (hw : CWd y cc' nL' ret' n) (hl1 : Cond.methodLink own idx y ∈ TB) (hl2 : Cond.instanceMethod y ∈ TB) (hl3 : Cond.selects y.cls y y ∈ TB) (hq : RX8 = y.cls) (hM : Ctr l D Y LBx y cc' nL' ret' fr lc mc ms (.ref (αx 0 0) :: As) αx μx r ok μ1) (hn : As.length = n) (hsk : sk = As.reverse ++ .ref (αx 0 0) :: rest) (hcat : (rest.map fun v => v.category).sum ≤ 8) (hR : fr + 1 ≤ R.frames ∧ 8 + (nL' + 11) + lc ≤ R.locals) (hf : cells + mc ≤ R.cells ∧ slots + ms ≤ R.slots) (kk : ∀ α', ok α' → GG D Y LB2 A p l e R s m args below meth c nL Q (mA α' αm) (cells + mc) (slots + ms) lo (r.toList ++ rest) (mM μ1 μm) (pc + 3)) : GG D Y LB2 A p l e R s m args below meth c nL Q (mA αx αm) cells slots lo sk (mM μx μm) pc := by
  intro H locs ls hP hD hS hl
  rw [wl2] at hP hD
  have hP2 := va_P_perm List.perm_append_comm hP
  have hD2 := va_D_perm List.perm_append_comm hD
  have hPx : va_P D vwCl (wl Y LBx αx μx) H := va_P_iff.mpr fun x hx => va_P_iff.mp hP x (List.mem_append_left _ hx)
  have hDx : va_D A (wl Y LBx αx μx) := by
    have h := va_D_iff.mp hD
    rw [List.map_append] at h
    exact va_D_iff.mpr ⟨(List.nodup_append.mp h.1).1, fun x hx => h.2 x (List.mem_append_left _ hx)⟩
  refine callx2 C.hA hP2 hD2 hS (runV2 C hd hw hl1 hl2 hl3 in_0 (ec_0 _ _ _ _ _) (q := (RX8, TX8, 9)) rfl hq hM hn hsk hcat hR hf hPx hDx hl) (fun α' H1 locs1 hok hP1 hD1 hS1 => ?_)
  exact kk α' hok H1 locs1 ls (by rw [wl2]; exact va_P_perm List.perm_append_comm hP1) (by rw [wl2]; exact va_D_perm List.perm_append_comm hD1) hS1 hl
theorem g_callM (C : CX p s m args meth c cc nL own ret D Y LB2 A) {idx n fr lc nL' : Nat} {y : MethodName} {cc' : ByteArray} {ret' : Option FieldType} {As rest : List Value} {r : Option Value} {μ1 : Mem} (hd : decode cc pc = .ok (.invokevirtual idx, 3)) (hw : CWd y cc' nL' ret' n) (hl1 : Cond.methodLink own idx y ∈ TB) (hl2 : Cond.instanceMethod y ∈ TB) (hl3 : Cond.selects y.cls y y ∈ TB) (hq : RX9 = y.cls) (hM : Ctr l D Y LBm y cc' nL' ret' fr lc 0 0 (.ref (αm 30 0) :: As) αm μm r (fun a => a = αm) μ1) (hn : As.length = n) (hsk : sk = As.reverse ++ .ref (αm 30 0) :: rest) (hcat : (rest.map fun v => v.category).sum ≤ 8) (hR : fr + 1 ≤ R.frames ∧ 8 + (nL' + 11) + lc ≤ R.locals) (hf : cells ≤ R.cells ∧ slots ≤ R.slots) (kk : GG D Y LB2 A p l e R s m args below meth c nL Q (mA αx αm) cells slots lo (r.toList ++ rest) (mM μx μ1) (pc + 3)) : GG D Y LB2 A p l e R s m args below meth c nL Q (mA αx αm) cells slots lo sk (mM μx μm) pc := by
  intro H locs ls hP hD hS hl
  rw [wl2] at hP hD
  have hPx : va_P D vwCl (wl Y LBm αm μm) H := va_P_iff.mpr fun x hx => va_P_iff.mp hP x (List.mem_append_right _ hx)
  have hDx : va_D A (wl Y LBm αm μm) := by
    have h := va_D_iff.mp hD
    rw [List.map_append] at h
    exact va_D_iff.mpr ⟨(List.nodup_append.mp h.1).2.1, fun x hx => h.2 x (List.mem_append_right _ hx)⟩
  refine callx2 C.hA hP hD hS (runV2 C hd hw hl1 hl2 hl3 in_30 (ec_30 _ _ _ _ _) (q := (RX9, TX9, 37)) rfl hq hM hn hsk hcat hR hf hPx hDx hl) (fun α' H1 locs1 hok hP1 hD1 hS1 => ?_)
  subst hok
  exact kk H1 locs1 ls (by rw [wl2]; exact hP1) (by rw [wl2]; exact hD1) hS1 hl
end LROWS
