/-! ALPHA: the one method that makes cells behind the constructors (makeRoom), and those that call it -/
def agr (α α' : Adr) : Prop := ∀ t i, t ≠ 9 → t ≠ 10 → α' t i = α t i
theorem agr_rfl (α : Adr) : agr α α := fun _ _ _ _ => rfl
theorem ec_agr {Y : Nat → ClassId} {α α' : Adr} {n n' t i : Nat} {f : Nat → Int} (h : agr α α') (t7 : t ≠ 7) (t9 : t ≠ 9) (t10 : t ≠ 10) : ec Y α' n' t i f = ec Y α n t i f := by
  have h1 := fun i => h 1 i (by decide) (by decide)
  have h2 := fun i => h 2 i (by decide) (by decide)
  have h3 := fun i => h 3 i (by decide) (by decide)
  have h4 := fun i => h 4 i (by decide) (by decide)
  have h5 := fun i => h 5 i (by decide) (by decide)
  have h6 := fun i => h 6 i (by decide) (by decide)
  have h7 := fun i => h 7 i (by decide) (by decide)
  have h8 := fun i => h 8 i (by decide) (by decide)
  have h11 := fun i => h 11 i (by decide) (by decide)
  have h12 := fun i => h 12 i (by decide) (by decide)
  have h13 := fun i => h 13 i (by decide) (by decide)
  have h14 := fun i => h 14 i (by decide) (by decide)
  have h15 := fun i => h 15 i (by decide) (by decide)
  have h16 := fun i => h 16 i (by decide) (by decide)
  have h17 := fun i => h 17 i (by decide) (by decide)
  have h18 := fun i => h 18 i (by decide) (by decide)
  have h19 := fun i => h 19 i (by decide) (by decide)
  have h20 := fun i => h 20 i (by decide) (by decide)
  have h21 := fun i => h 21 i (by decide) (by decide)
  have h22 := fun i => h 22 i (by decide) (by decide)
  have h23 := fun i => h 23 i (by decide) (by decide)
  have h24 := fun i => h 24 i (by decide) (by decide)
  have h25 := fun i => h 25 i (by decide) (by decide)
  have h26 := fun i => h 26 i (by decide) (by decide)
  have h27 := fun i => h 27 i (by decide) (by decide)
  have h28 := fun i => h 28 i (by decide) (by decide)
  have h29 := fun i => h 29 i (by decide) (by decide)
  have h30 := fun i => h 30 i (by decide) (by decide)
  have h31 := fun i => h 31 i (by decide) (by decide)
  have h32 := fun i => h 32 i (by decide) (by decide)
  have h33 := fun i => h 33 i (by decide) (by decide)
  have h34 := fun i => h 34 i (by decide) (by decide)
  have h35 := fun i => h 35 i (by decide) (by decide)
  have h36 := fun i => h 36 i (by decide) (by decide)
  have h37 := fun i => h 37 i (by decide) (by decide)
  have h38 := fun i => h 38 i (by decide) (by decide)
  have h39 := fun i => h 39 i (by decide) (by decide)
  have h40 := fun i => h 40 i (by decide) (by decide)
  have h41 := fun i => h 41 i (by decide) (by decide)
  have h42 := fun i => h 42 i (by decide) (by decide)
  have h43 := fun i => h 43 i (by decide) (by decide)
  have h44 := fun i => h 44 i (by decide) (by decide)
  have h45 := fun i => h 45 i (by decide) (by decide)
  have h46 := fun i => h 46 i (by decide) (by decide)
  have h47 := fun i => h 47 i (by decide) (by decide)
  have h48 := fun i => h 48 i (by decide) (by decide)
  have h49 := fun i => h 49 i (by decide) (by decide)
  have h50 := fun i => h 50 i (by decide) (by decide)
  have h51 := fun i => h 51 i (by decide) (by decide)
  have h52 := fun i => h 52 i (by decide) (by decide)
  have h53 := fun i => h 53 i (by decide) (by decide)
  have h54 := fun i => h 54 i (by decide) (by decide)
  unfold ec
  split
  all_goals first | rfl | exact absurd rfl t7 | exact absurd rfl t9 | exact absurd rfl t10 | simp only [vr, h1, h2, h3, h4, h5, h6, h7, h8, h11, h12, h13, h14, h15, h16, h17, h18, h19, h20, h21, h22, h23, h24, h25, h26, h27, h28, h29, h30, h31, h32, h33, h34, h35, h36, h37, h38, h39, h40, h41, h42, h43, h44, h45, h46, h47, h48, h49, h50, h51, h52, h53, h54]
theorem mk_P {D : va_G} {Y : Nat → ClassId} {LB : List (Nat × Nat)} {α : Adr} {μ : Mem} {H : Heap} {ws : va_W} (hP : va_P D vwCl ws H) (h : ∀ w ∈ LB, ∃ k : Nat, ws[k]? = some (α w.1 w.2, ec Y α (μ 28 0 0).toNat w.1 w.2 (μ w.1 w.2))) : va_P D vwCl (wl Y LB α μ) H := by
  intro j q hq
  simp only [wl, List.getElem?_map] at hq
  cases hc : LB[j]? with
  | none => rw [hc] at hq; cases hq
  | some w =>
    rw [hc] at hq
    cases hq
    obtain ⟨k, hk⟩ := h w (List.mem_of_getElem? hc)
    exact hP k _ hk
theorem mk_D {Y : Nat → ClassId} {LB : List (Nat × Nat)} {α : Adr} {μ : Mem} {A : Nat → Prop} (hA : ∀ w ∈ LB, A (α w.1 w.2)) (hi : ∀ w ∈ LB, ∀ w' ∈ LB, α w.1 w.2 = α w'.1 w'.2 → w = w') (hnd : LB.Nodup) : va_D A (wl Y LB α μ) := by
  refine ⟨fun i j x y hx hy hxy => ?_, fun k q hq => ?_⟩
  · simp only [wl, List.getElem?_map] at hx hy
    cases hc : LB[i]? with
    | none => rw [hc] at hx; cases hx
    | some w =>
      cases hc' : LB[j]? with
      | none => rw [hc'] at hy; cases hy
      | some w' =>
        rw [hc] at hx
        rw [hc'] at hy
        cases hx
        cases hy
        have hw := hi w (List.mem_of_getElem? hc) w' (List.mem_of_getElem? hc') hxy
        subst hw
        exact (List.getElem?_inj (List.getElem?_eq_some_iff.mp hc).1 hnd).mp (hc.trans hc'.symm)
  · simp only [wl, List.getElem?_map] at hq
    cases hc : LB[k]? with
    | none => rw [hc] at hq; cases hq
    | some w => rw [hc] at hq; cases hq; exact hA w (List.mem_of_getElem? hc)
theorem wl_inj {Y : Nat → ClassId} {LB : List (Nat × Nat)} {α : Adr} {μ : Mem} {A : Nat → Prop} (hD : va_D A (wl Y LB α μ)) : ∀ w ∈ LB, ∀ w' ∈ LB, α w.1 w.2 = α w'.1 w'.2 → w = w' := by
  intro w hw w' hw' he
  obtain ⟨q, h1, h2⟩ := wl_at (Y := Y) (α := α) (μ := μ) (t := w.1) (i := w.2) hw
  obtain ⟨q', h1', h2'⟩ := wl_at (Y := Y) (α := α) (μ := μ) (t := w'.1) (i := w'.2) hw'
  have := hD.1 q q' _ _ h1 h1' he
  subst this
  exact Option.some.inj (h2.symm.trans h2')
section ALPHA
variable {p : Program} {l : Launch} {e : Env} {R : Room} {s : State} {m : MethodId} {args : Array Value} {below : List Frame} {meth : Method} {c : Code} {Q : State → Prop}
variable {D : va_G} {Y : Nat → ClassId} {LB : List (Nat × Nat)} {A : Nat → Prop} {cc : ByteArray} {nL : Nat} {own : String} {ret : Option FieldType} {α : Adr} {cells slots : Nat} {lo lo' : List (Nat × Value)} {sk sk' : List Value} {μ : Mem} {pc : Nat}
theorem g_wid {k n : Nat} (h1 : cells ≤ k) (h2 : slots ≤ n) (kk : GG D Y LB A p l e R s m args below meth c nL Q α k n lo sk μ pc) : GG D Y LB A p l e R s m args below meth c nL Q α cells slots lo sk μ pc := fun H locs ls hP hD hS hl => W.widen h1 h2 (kk H locs ls hP hD hS hl)
theorem g_re (h1 : lo = lo') (h2 : sk = sk') (kk : GG D Y LB A p l e R s m args below meth c nL Q α cells slots lo' sk' μ pc) : GG D Y LB A p l e R s m args below meth c nL Q α cells slots lo sk μ pc := by rw [h1, h2]; exact kk
end ALPHA
def minR (μ : Mem) : Int := if w32 20000 < w32 (2 * (((μ 28 0 0).toNat : Nat) : Int)) then 20000 else 2 * (((μ 28 0 0).toNat : Nat) : Int)
def newR (μ : Mem) : Int := if w32 (μ 7 0 6) < w32 (minR μ) then minR μ else μ 7 0 6
def nwM (μ : Mem) (n : Int) : Mem := fun t i k => if t = 28 then n else if t = 9 ∨ t = 10 then 0 else μ t i k
def f_X6_makeRoom (μ : Mem) : Option (Int × Mem) := (if w32 (μ 7 0 6) ≤ w32 (((μ 28 0 0).toNat : Nat) : Int) then some (0, μ) else gd (0 ≤ newR μ ∧ newR μ ≤ 20000) (some (0, nwM μ (newR μ))))
/-- what makeRoom asks of the room: nothing if there is enough, else two rows -/
def Gm (mc ms : Nat) (μ : Mem) : Prop := (¬ w32 (μ 7 0 6) ≤ w32 (((μ 28 0 0).toNat : Nat) : Int)) → 2 ≤ mc ∧ (newR μ).toNat + (newR μ).toNat ≤ ms
set_option maxHeartbeats 4000000 in
set_option maxRecDepth 100000 in
theorem c_X6_makeRoom {l : Launch} {D : va_G} {Y : Nat → ClassId} {α : Adr} {mc ms : Nat} {μ : Mem} {r : Int} {μ' : Mem} (hg : Gm mc ms μ) (hf : f_X6_makeRoom μ = some (r, μ')) : Ctr l D Y LBx yX6_makeRoom cX6_makeRoom 2 none 1 21 mc ms [vr α 7 0] α μ none (agr α) μ' := Ctr_of pn_X6 rfl rfl (Nat.le_of_ble_eq_true rfl) LBx_nd (fun p e s m below meth c sz C => by
  unfold f_X6_makeRoom at hf
  refine g_ald_n C 0 rfl rfl dX6_makeRoom_0 ?_
  refine g_get C dX6_makeRoom_1 fl_X6_27 in_7 (ec_7 _ _ _ _ _) rfl ?_
  refine g_alen (y := 0) C dX6_makeRoom_4 in_9 (fun _ => ec_9 _ _ _ _ _) rfl ?_
  refine g_ald_n C 0 rfl rfl dX6_makeRoom_5 ?_
  refine g_get C dX6_makeRoom_6 fl_X6_37 in_7 (ec_7 _ _ _ _ _) rfl ?_
  refine g_ic_ge C 47 (by decide) dX6_makeRoom_9 (fun h => ?_) (fun h => ?_)
  · rw [if_pos h] at hf
    refine g_wid (k := mc) (n := ms) (Nat.zero_le _) (Nat.zero_le _) ?_
    exact g_vret C (agr_rfl α) dX6_makeRoom_47 hf
  · rw [if_neg h] at hf
    obtain ⟨hg1, hg2⟩ := hg h
    obtain ⟨⟨hn0, hn1⟩, hf⟩ := gd_some hf
    refine g_ald_n C 0 rfl rfl dX6_makeRoom_12 ?_
    refine g_get C dX6_makeRoom_13 fl_X6_37 in_7 (ec_7 _ _ _ _ _) rfl ?_
    refine g_iconst C dX6_makeRoom_16 ?_
    refine g_ald_n C 0 rfl rfl dX6_makeRoom_17 ?_
    refine g_get C dX6_makeRoom_18 fl_X6_27 in_7 (ec_7 _ _ _ _ _) rfl ?_
    refine g_alen (y := 0) C dX6_makeRoom_21 in_9 (fun _ => ec_9 _ _ _ _ _) rfl ?_
    refine g_imul C dX6_makeRoom_22 ?_
    refine g_sipush C rfl dX6_makeRoom_23 ?_
    refine g_min C m_3_69 m_3_70 m_1_14 m_3_71 (Nat.le_of_ble_eq_true rfl) (Nat.le_of_ble_eq_true rfl) (Nat.zero_le _) (Nat.zero_le _) dX6_makeRoom_26 ?_
    refine g_max C m_3_72 m_3_73 m_1_14 m_3_74 (Nat.le_of_ble_eq_true rfl) (Nat.le_of_ble_eq_true rfl) (Nat.zero_le _) (Nat.zero_le _) dX6_makeRoom_29 ?_
    refine g_ist_n (lo' := [(1, vi (newR μ)), (0, vr α 7 0)]) C rfl (by decide) rfl dX6_makeRoom_32 ?_
    cases hf
    generalize newR μ = nr at hn0 hn1 hg2 ⊢
    have hnr : (Int32.ofInt nr).toNatClampNeg = nr.toNat := by rw [ix_cl]; unfold ix; rw [w32_id (by omega) (by omega)]
    have hnn : ¬ Int32.ofInt nr < 0 := fun q => by have := (i_lt0 nr).mp q; rw [w32_id (by omega) (by omega)] at this; omega
    intro H locs ls hP hD hS hl
    obtain ⟨q7, hq7, hL7⟩ := wl_at (Y := Y) (α := α) (μ := μ) in_7
    rw [ec_7] at hq7
    have hl7 : q7 < (wl Y LBx α μ).length := (List.getElem?_eq_some_iff.mp hq7).1
    have hinj := wl_inj hD
    obtain ⟨Cn, T, N, ty0, h1, h2, h3, h4, h5, h6, h7, h8, h9⟩ := fl_X6_27
    obtain ⟨Cn', T', N', ty0', h1', h2', h3', h4', h5', h6', h7', h8', h9'⟩ := fl_X6_30
    refine lv_aload_n C.hx C.hb dX6_makeRoom_33 rfl (lv_at hl 1 rfl) ?_
    refine lv_iload_n C.hx C.hb dX6_makeRoom_34 rfl (lv_at hl 0 rfl) ?_
    refine va_newa (atype := .int) (ty := .int) (N' := nr.toNat) (a0 := (nr.toNat, .inl (fun _ => 0))) C.hx C.hb (C.hts _ m_1_127) rfl C.hK hP hD hS C.hA (fun _ => rfl) hnn hnr (by show _ * 4 ≤ _; omega) (by show _ ≤ mc; omega) (by show _ ≤ ms; omega) dX6_makeRoom_35 (fun q1 cA H1 hK1 hP1 hD1 hS1 => ?_)
    have hcA : cA = Y 0 := by
      have e1 := (hK1.2 6 (cA, .int) rfl).2
      have e2 := (C.hK.2 0 (Y 0, .int) rfl).2
      exact Option.some.inj (e1.symm.trans e2)
    subst hcA
    have hA1 : ((wl Y LBx α μ) ++ [(q1, (.inl (Y 0, nr.toNat, .inl (fun _ => 0)) : va_E))])[q7]? = some (α 7 0, .inr (6, [vr α 11 0, vr α 15 0, vr α 8 0, vr α 9 0, vr α 10 0, vi (μ 7 0 5), vi (μ 7 0 6), vi (μ 7 0 7), vl (μ 7 0 8), vl (μ 7 0 9)])) := by rw [List.getElem?_append_left hl7]; exact hq7
    refine va_put (D := D) C.hx C.hb C.hts h4 ty0 h7 h8 C.hown C.hK hP1 hD1 hS1 q7 hA1 h1 3 h2 (C.hts _ h3) (fun _ h => by rw [h5] at h; exact h) h9 h6 rfl rfl (Nat.le_of_ble_eq_true rfl) dX6_makeRoom_37 (fun H2 locs2 hP2 hD2 hS2 => ?_)
    have hP2 : va_P D vwCl (((wl Y LBx α μ) ++ [(q1, (.inl (Y 0, nr.toNat, .inl (fun _ => 0)) : va_E))]).set q7 (α 7 0, .inr (6, [vr α 11 0, vr α 15 0, vr α 8 0, Value.ref q1, vr α 10 0, vi (μ 7 0 5), vi (μ 7 0 6), vi (μ 7 0 7), vl (μ 7 0 8), vl (μ 7 0 9)]))) H2 := hP2
    have hD2 : va_D (Ar LBx α sz) (((wl Y LBx α μ) ++ [(q1, (.inl (Y 0, nr.toNat, .inl (fun _ => 0)) : va_E))]).set q7 (α 7 0, .inr (6, [vr α 11 0, vr α 15 0, vr α 8 0, Value.ref q1, vr α 10 0, vi (μ 7 0 5), vi (μ 7 0 6), vi (μ 7 0 7), vl (μ 7 0 8), vl (μ 7 0 9)]))) := hD2
    refine lv_aload_n C.hx C.hb dX6_makeRoom_40 rfl (lv_at hl 1 rfl) ?_
    refine lv_iload_n C.hx C.hb dX6_makeRoom_41 rfl (lv_at hl 0 rfl) ?_
    refine va_newa (atype := .int) (ty := .int) (N' := nr.toNat) (a0 := (nr.toNat, .inl (fun _ => 0))) C.hx C.hb (C.hts _ m_1_127) rfl C.hK hP2 hD2 hS2 C.hA (fun _ => rfl) hnn hnr (by show _ * 4 ≤ _; omega) (by show _ ≤ mc; omega) (by show _ ≤ ms; omega) dX6_makeRoom_42 (fun q2 cA H3 hK3 hP3 hD3 hS3 => ?_)
    have hcA : cA = Y 0 := by
      have e1 := (hK3.2 6 (cA, .int) rfl).2
      have e2 := (C.hK.2 0 (Y 0, .int) rfl).2
      exact Option.some.inj (e1.symm.trans e2)
    subst hcA
    have hl7b : q7 < (((wl Y LBx α μ) ++ [(q1, (.inl (Y 0, nr.toNat, .inl (fun _ => 0)) : va_E))]).set q7 (α 7 0, .inr (6, [vr α 11 0, vr α 15 0, vr α 8 0, Value.ref q1, vr α 10 0, vi (μ 7 0 5), vi (μ 7 0 6), vi (μ 7 0 7), vl (μ 7 0 8), vl (μ 7 0 9)]))).length := by simp; omega
    have hA3 : ((((wl Y LBx α μ) ++ [(q1, (.inl (Y 0, nr.toNat, .inl (fun _ => 0)) : va_E))]).set q7 (α 7 0, .inr (6, [vr α 11 0, vr α 15 0, vr α 8 0, Value.ref q1, vr α 10 0, vi (μ 7 0 5), vi (μ 7 0 6), vi (μ 7 0 7), vl (μ 7 0 8), vl (μ 7 0 9)]))) ++ [(q2, (.inl (Y 0, nr.toNat, .inl (fun _ => 0)) : va_E))])[q7]? = some (α 7 0, .inr (6, [vr α 11 0, vr α 15 0, vr α 8 0, Value.ref q1, vr α 10 0, vi (μ 7 0 5), vi (μ 7 0 6), vi (μ 7 0 7), vl (μ 7 0 8), vl (μ 7 0 9)])) := by
      rw [List.getElem?_append_left hl7b, List.getElem?_set_self (by simp; omega)]
    refine va_put (D := D) C.hx C.hb C.hts h4' ty0' h7' h8' C.hown C.hK hP3 hD3 hS3 q7 hA3 h1' 4 h2' (C.hts _ h3') (fun _ h => by rw [h5'] at h; exact h) h9' h6' rfl rfl (Nat.le_of_ble_eq_true rfl) dX6_makeRoom_44 (fun H4 locs4 hP4 hD4 hS4 => ?_)
    have hP4 : va_P D vwCl (((((wl Y LBx α μ) ++ [(q1, (.inl (Y 0, nr.toNat, .inl (fun _ => 0)) : va_E))]).set q7 (α 7 0, .inr (6, [vr α 11 0, vr α 15 0, vr α 8 0, Value.ref q1, vr α 10 0, vi (μ 7 0 5), vi (μ 7 0 6), vi (μ 7 0 7), vl (μ 7 0 8), vl (μ 7 0 9)]))) ++ [(q2, (.inl (Y 0, nr.toNat, .inl (fun _ => 0)) : va_E))]).set q7 (α 7 0, .inr (6, [vr α 11 0, vr α 15 0, vr α 8 0, Value.ref q1, Value.ref q2, vi (μ 7 0 5), vi (μ 7 0 6), vi (μ 7 0 7), vl (μ 7 0 8), vl (μ 7 0 9)]))) H4 := hP4
    -- the new world
    have hq1 : ∀ w ∈ LBx, q1 ≠ α w.1 w.2 := by
      intro w hw he
      obtain ⟨k, hk, hkL⟩ := wl_at (Y := Y) (α := α) (μ := μ) (t := w.1) (i := w.2) hw
      have hkl : k < (wl Y LBx α μ).length := (List.getElem?_eq_some_iff.mp hk).1
      have e1 := hD1.1 k (wl Y LBx α μ).length (α w.1 w.2, _) (q1, _) (by rw [List.getElem?_append_left hkl]; exact hk) (by rw [List.getElem?_append_right (Nat.le_refl _), Nat.sub_self]; rfl) he.symm
      omega
    have hlen3 : (((wl Y LBx α μ) ++ [(q1, (.inl (Y 0, nr.toNat, .inl (fun _ => 0)) : va_E))]).set q7 (α 7 0, .inr (6, [vr α 11 0, vr α 15 0, vr α 8 0, Value.ref q1, vr α 10 0, vi (μ 7 0 5), vi (μ 7 0 6), vi (μ 7 0 7), vl (μ 7 0 8), vl (μ 7 0 9)]))).length = (wl Y LBx α μ).length + 1 := by simp
    have hq21 : q2 ≠ q1 := by
      intro he
      have e1 := hD3.1 (wl Y LBx α μ).length ((wl Y LBx α μ).length + 1) (q1, .inl (Y 0, nr.toNat, .inl (fun _ => 0))) (q2, .inl (Y 0, nr.toNat, .inl (fun _ => 0))) (by rw [List.getElem?_append_left (by rw [hlen3]; omega), List.getElem?_set_ne (by omega), List.getElem?_append_right (Nat.le_refl _), Nat.sub_self]; rfl) (by rw [List.getElem?_append_right (by rw [hlen3]; exact Nat.le_refl _), hlen3, Nat.sub_self]; rfl) he.symm
      omega
    have hq2 : ∀ w ∈ LBx, q2 ≠ α w.1 w.2 := by
      intro w hw he
      obtain ⟨k, hk, hkL⟩ := wl_at (Y := Y) (α := α) (μ := μ) (t := w.1) (i := w.2) hw
      have hkl : k < (wl Y LBx α μ).length := (List.getElem?_eq_some_iff.mp hk).1
      obtain ⟨x, hx⟩ : ∃ x : va_E, ((((wl Y LBx α μ) ++ [(q1, (.inl (Y 0, nr.toNat, .inl (fun _ => 0)) : va_E))]).set q7 (α 7 0, .inr (6, [vr α 11 0, vr α 15 0, vr α 8 0, Value.ref q1, vr α 10 0, vi (μ 7 0 5), vi (μ 7 0 6), vi (μ 7 0 7), vl (μ 7 0 8), vl (μ 7 0 9)]))) ++ [(q2, (.inl (Y 0, nr.toNat, .inl (fun _ => 0)) : va_E))])[k]? = some (α w.1 w.2, x) := by
        rw [List.getElem?_append_left (by rw [hlen3]; omega)]
        by_cases hk7 : q7 = k
        · subst hk7
          have hw7 : w = (7, 0) := Option.some.inj (hkL.symm.trans hL7)
          subst hw7
          exact ⟨_, by rw [List.getElem?_set_self (by simp; omega)]⟩
        · exact ⟨_, by rw [List.getElem?_set_ne hk7, List.getElem?_append_left hkl]; exact hk⟩
      have e1 := hD3.1 k ((wl Y LBx α μ).length + 1) _ (q2, .inl (Y 0, nr.toNat, .inl (fun _ => 0))) hx (by rw [List.getElem?_append_right (by rw [hlen3]; exact Nat.le_refl _), hlen3, Nat.sub_self]; rfl) he.symm
      omega
    obtain ⟨α', hα'⟩ : ∃ α' : Adr, α' = fun t i => if t = 9 then q1 else if t = 10 then q2 else α t i := ⟨_, rfl⟩
    have hag : agr α α' := fun t i h9 h10 => by rw [hα']; simp only [if_neg h9, if_neg h10]
    have h99 : ∀ i, α' 9 i = q1 := fun i => by rw [hα']; rfl
    have h10 : ∀ i, α' 10 i = q2 := fun i => by rw [hα']; rfl
    have hn28 : (nwM μ nr 28 0 0).toNat = nr.toNat := rfl
    have hoth : ∀ w : Nat × Nat, w.1 ≠ 9 → w.1 ≠ 10 → α' w.1 w.2 = α w.1 w.2 := fun w h9 h10 => hag w.1 w.2 h9 h10
    have cas : ∀ w ∈ LBx, w.1 = 9 → w = (9, 0) := by decide +kernel
    have cas2 : ∀ w ∈ LBx, w.1 = 10 → w = (10, 0) := by decide +kernel
    have cas3 : ∀ w ∈ LBx, w.1 = 7 → w = (7, 0) := by decide +kernel
    have cas4 : ∀ w ∈ LBx, w.1 ≠ 28 := by decide +kernel
    have hPn : va_P D vwCl (wl Y LBx α' (nwM μ nr)) H4 := by
      refine mk_P hP4 (fun w hw => ?_)
      rw [hn28]
      by_cases w9 : w.1 = 9
      · have := cas w hw w9; subst this
        refine ⟨(wl Y LBx α μ).length, ?_⟩
        rw [List.getElem?_set_ne (by omega), List.getElem?_append_left (by rw [hlen3]; omega), List.getElem?_set_ne (by omega), List.getElem?_append_right (Nat.le_refl _), Nat.sub_self, h99]
        rfl
      by_cases w10 : w.1 = 10
      · have := cas2 w hw w10; subst this
        refine ⟨(wl Y LBx α μ).length + 1, ?_⟩
        rw [List.getElem?_set_ne (by omega), List.getElem?_append_right (by rw [hlen3]; exact Nat.le_refl _), hlen3, Nat.sub_self, h10]
        rfl
      by_cases w7 : w.1 = 7
      · have := cas3 w hw w7; subst this
        refine ⟨q7, ?_⟩
        rw [List.getElem?_set_self (by simp; omega), ec_7]
        simp only [vr, hag 7 0 (by decide) (by decide), hag 11 0 (by decide) (by decide), hag 15 0 (by decide) (by decide), hag 8 0 (by decide) (by decide), h99, h10]
        rfl
      · obtain ⟨k, hk, hkL⟩ := wl_at (Y := Y) (α := α) (μ := μ) (t := w.1) (i := w.2) hw
        have hkl : k < (wl Y LBx α μ).length := (List.getElem?_eq_some_iff.mp hk).1
        have hk7 : q7 ≠ k := by
          intro he
          subst he
          exact w7 (congrArg Prod.fst (Option.some.inj (hkL.symm.trans hL7)))
        refine ⟨k, ?_⟩
        rw [List.getElem?_set_ne hk7, List.getElem?_append_left (by rw [hlen3]; omega), List.getElem?_set_ne hk7, List.getElem?_append_left hkl, hk, hag w.1 w.2 w9 w10, ec_agr (n := (μ 28 0 0).toNat) hag w7 w9 w10]
        have hmu : nwM μ nr w.1 w.2 = μ w.1 w.2 := by funext k2; unfold nwM; rw [if_neg (cas4 w hw), if_neg (by rintro (h | h); exact w9 h; exact w10 h)]
        rw [hmu]
    have hDn : va_D (Ar LBx α sz) (wl Y LBx α' (nwM μ nr)) := by
      refine mk_D (fun w hw => ?_) (fun w hw w' hw' he => ?_) LBx_nd
      · by_cases w9 : w.1 = 9
        · rw [w9, h99]
          exact hD1.2 (wl Y LBx α μ).length (q1, _) (by rw [List.getElem?_append_right (Nat.le_refl _), Nat.sub_self]; rfl)
        by_cases w10 : w.1 = 10
        · rw [w10, h10]
          exact hD3.2 ((wl Y LBx α μ).length + 1) (q2, _) (by rw [List.getElem?_append_right (by rw [hlen3]; exact Nat.le_refl _), hlen3, Nat.sub_self]; rfl)
        · rw [hag w.1 w.2 w9 w10]
          exact Or.inl ⟨w, hw, rfl⟩
      · by_cases w9 : w.1 = 9
        · by_cases v9 : w'.1 = 9
          · rw [cas w hw w9, cas w' hw' v9]
          by_cases v10 : w'.1 = 10
          · rw [w9, v10, h99, h10] at he; exact absurd he.symm hq21
          · rw [w9, h99, hag w'.1 w'.2 v9 v10] at he; exact absurd he (hq1 w' hw')
        by_cases w10 : w.1 = 10
        · by_cases v9 : w'.1 = 9
          · rw [w10, v9, h99, h10] at he; exact absurd he hq21
          by_cases v10 : w'.1 = 10
          · rw [cas2 w hw w10, cas2 w' hw' v10]
          · rw [w10, h10, hag w'.1 w'.2 v9 v10] at he; exact absurd he (hq2 w' hw')
        · rw [hag w.1 w.2 w9 w10] at he
          by_cases v9 : w'.1 = 9
          · rw [v9, h99] at he; exact absurd he.symm (hq1 w hw)
          by_cases v10 : w'.1 = 10
          · rw [v10, h10] at he; exact absurd he.symm (hq2 w hw)
          · rw [hag w'.1 w'.2 v9 v10] at he; exact hinj w hw w' hw' he
    refine W.widen (k := mc) (n := ms) (by omega) (by omega) ?_
    exact W.vret C.hx C.hb C.hr (fun t ht hW => ⟨⟨rfl, α', hag, by rw [ht]; exact hPn, hDn⟩, hS4.F ht⟩) hS4.2.2 dX6_makeRoom_47 C.hlk)
