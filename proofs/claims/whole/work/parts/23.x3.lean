/-! EndTeller$Table.empty -/
def f_X3_empty  (μ : Mem) : Option (Int × Mem) := bn (f_J7_fill_d0a16 6 0 199 0 μ) (fun r1 μ2 => some (0, μ2))
section
variable {p : Program} {l : Launch} {e : Env} {R : Room} {s : State} {m : MethodId} {args : Array Value} {below : List Frame} {meth : Method} {c : Code} {D : va_G} {Y : Nat → ClassId} {α : Adr} {sz : Nat} {r : Int} {μ' : Mem}
set_option maxHeartbeats 4000000 in
set_option maxRecDepth 100000 in
theorem b_X3_empty  {μ : Mem} (C : CX p s m args meth c cX3_empty 1 RX3 none D Y LBx (Ar LBx α sz)) (hfr : 1 ≤ R.frames) (hlc : 24 ≤ R.locals)  (hf : f_X3_empty μ = some (r, μ')) : GG D Y LBx (Ar LBx α sz) p l e R s m args below meth c 1 (MQ below (Qcx D Y LBx α sz none (fun a => a = α) μ') args s 0 0 (Ar LBx α sz)) α 0 0 [(0, vr α 5 0)] [] μ 0 := by
  unfold f_X3_empty at hf
  refine g_ald_n C 0 rfl rfl dX3_empty_0 ?_
  refine g_get C dX3_empty_1 fl_X3_9 in_5 (ec_5 _ _ _ _ _) rfl ?_
  refine g_lconst (x := 0) C rfl dX3_empty_4 ?_
  obtain ⟨r1, μ2, hc3, hf⟩ := bn_some hf
  refine g_callSp (As := [vr α 6 0, vl 0]) (rest := []) C ⟨Nat.zero_le _, Nat.zero_le _⟩ dX3_empty_5 cw_J7_fill_d0a16 m_2_156 m_2_83 (c_J7_fill_d0a16 in_6 (fun _ _ _ _ => ec_6 _ _ _ _ _) (by decide) hc3) rfl rfl (Nat.le_of_ble_eq_true rfl) ⟨Nat.le_trans (Nat.le_of_ble_eq_true rfl) hfr, Nat.le_trans (Nat.le_of_ble_eq_true rfl) hlc⟩ ?_
  exact g_vret C rfl dX3_empty_8 hf
set_option maxHeartbeats 4000000 in
set_option maxRecDepth 100000 in
theorem c_X3_empty {l : Launch} {D : va_G} {Y : Nat → ClassId} {α : Adr}  {μ : Mem} {r : Int} {μ' : Mem}  (hf : f_X3_empty μ = some (r, μ')) : Ctr l D Y LBx yX3_empty cX3_empty 1 none 1 24 0 0 [vr α 5 0] α μ none (fun a => a = α) μ' := Ctr_of pn_X3 rfl rfl (Nat.le_of_ble_eq_true rfl) LBx_nd (fun p e s m below meth c sz C => b_X3_empty C (Nat.le_refl _) (Nat.le_refl _)  hf)
end

/-! EndTeller$Table.add -/
def f_X3_add (a1 : Int) (a2 : Int) (μ : Mem) : Option (Int × Mem) := (if w32 a1 < 0 then some (0, μ) else (if w32 ((199 : Nat) : Int) ≤ w32 a1 then some (0, μ) else gd (inb a1 199) (gd (inb a1 199) (some (0, (st μ 6 0 (ix a1) ((μ 6 0 (ix a1)) + a2)))))))
section
variable {p : Program} {l : Launch} {e : Env} {R : Room} {s : State} {m : MethodId} {args : Array Value} {below : List Frame} {meth : Method} {c : Code} {D : va_G} {Y : Nat → ClassId} {α : Adr} {sz : Nat} {r : Int} {μ' : Mem}
set_option maxHeartbeats 4000000 in
set_option maxRecDepth 100000 in
theorem b_X3_add {a1 : Int} {a2 : Int} {μ : Mem} (C : CX p s m args meth c cX3_add 4 RX3 none D Y LBx (Ar LBx α sz)) (hfr : 0 ≤ R.frames) (hlc : 0 ≤ R.locals)  (hf : f_X3_add a1 a2 μ = some (r, μ')) : GG D Y LBx (Ar LBx α sz) p l e R s m args below meth c 4 (MQ below (Qcx D Y LBx α sz none (fun a => a = α) μ') args s 0 0 (Ar LBx α sz)) α 0 0 [(0, vr α 5 0), (1, vi a1), (2, vl a2)] [] μ 0 := by
  unfold f_X3_add at hf
  refine g_ild_n C 1 rfl rfl dX3_add_0 ?_
  refine g_if_lt C 23 (by decide) dX3_add_1 (fun h1 => ?_) (fun h1 => ?_)
  · rw [if_pos h1] at hf
    exact g_vret C rfl dX3_add_23 hf
  · rw [if_neg h1] at hf
    refine g_ild_n C 1 rfl rfl dX3_add_4 ?_
    refine g_ald_n C 0 rfl rfl dX3_add_5 ?_
    refine g_get C dX3_add_6 fl_X3_9 in_5 (ec_5 _ _ _ _ _) rfl ?_
    refine g_alen (y := 1) C dX3_add_9 in_6 (fun _ => ec_6 _ _ _ _ _) rfl ?_
    refine g_ic_ge C 23 (by decide) dX3_add_10 (fun h2 => ?_) (fun h2 => ?_)
    · rw [if_pos h2] at hf
      exact g_vret C rfl dX3_add_23 hf
    · rw [if_neg h2] at hf
      refine g_ald_n C 0 rfl rfl dX3_add_13 ?_
      refine g_get C dX3_add_14 fl_X3_9 in_5 (ec_5 _ _ _ _ _) rfl ?_
      refine g_ild_n C 1 rfl rfl dX3_add_17 ?_
      refine g_dup2 C rfl rfl dX3_add_18 ?_
      obtain ⟨g3, hf⟩ := gd_some hf
      refine g_lald C dX3_add_19 in_6 (fun _ => ec_6 _ _ _ _ _) g3 ?_
      refine g_lld_n C 2 rfl rfl dX3_add_20 ?_
      refine g_ladd C dX3_add_21 ?_
      obtain ⟨g4, hf⟩ := gd_some hf
      refine g_last C dX3_add_22 in_6 (fun _ => ec_6 _ _ _ _ _) (by decide) g4 ?_
      exact g_vret C rfl dX3_add_23 hf
set_option maxHeartbeats 4000000 in
set_option maxRecDepth 100000 in
theorem c_X3_add {l : Launch} {D : va_G} {Y : Nat → ClassId} {α : Adr} {a1 : Int} {a2 : Int} {μ : Mem} {r : Int} {μ' : Mem}  (hf : f_X3_add a1 a2 μ = some (r, μ')) : Ctr l D Y LBx yX3_add cX3_add 4 none 0 0 0 0 [vr α 5 0, vi a1, vl a2] α μ none (fun a => a = α) μ' := Ctr_of pn_X3 rfl rfl (Nat.le_of_ble_eq_true rfl) LBx_nd (fun p e s m below meth c sz C => b_X3_add C (Nat.le_refl _) (Nat.le_refl _)  hf)
end

/-! EndTeller$Table.addOnce -/
def f_X3_addOnce_L3 (q1 : Nat) (x2 : Int) : Nat → Int → Mem → Option (Int × Mem)
  | 0, _, _ => none
  | n + 1, x4, μ => (if w32 (μ 17 q1 3) ≤ w32 x4 then some (0, μ) else gd (inb x4 8) (gd (inb x4 8) (bn (f_X3_add (μ 18 q1 (ix x4)) (x2 * (w32 (μ 19 q1 (ix x4)))) μ) (fun r4 μ5 => f_X3_addOnce_L3 q1 x2 n (x4 + 1) μ5))))
def f_X3_addOnce (i1 : Nat) (a2 : Int) (μ : Mem) : Option (Int × Mem) := f_X3_addOnce_L3 i1 a2 FU 0 μ
section
variable {p : Program} {l : Launch} {e : Env} {R : Room} {s : State} {m : MethodId} {args : Array Value} {below : List Frame} {meth : Method} {c : Code} {D : va_G} {Y : Nat → ClassId} {α : Adr} {sz : Nat} {r : Int} {μ' : Mem}
set_option maxHeartbeats 4000000 in
set_option maxRecDepth 100000 in
theorem c_X3_addOnce_l3 {q1 : Nat} {x2 : Int} (C : CX p s m args meth c cX3_addOnce 5 RX3 none D Y LBx (Ar LBx α sz)) (hfr : 1 ≤ R.frames) (hlc : 23 ≤ R.locals) (hq1 : q1 < 10)   : ∀ (n : Nat) (x4 : Int) (μ : Mem), f_X3_addOnce_L3 q1 x2 n x4 μ = some (r, μ') → GG D Y LBx (Ar LBx α sz) p l e R s m args below meth c 5 (MQ below (Qcx D Y LBx α sz none (fun a => a = α) μ') args s 0 0 (Ar LBx α sz)) α 0 0 [(0, vr α 5 0), (1, vr α 17 q1), (2, vl x2), (4, vi x4)] [] μ 3 := by
  intro n
  induction n with
  | zero =>
    intro x4 μ hf
    exact nomatch (show (none : Option (Int × Mem)) = some _ from hf)
  | succ n ih =>
    intro x4 μ hf
    rw [f_X3_addOnce_L3.eq_2] at hf
    refine g_ild C 3 rfl dX3_addOnce_3 ?_
    refine g_ald_n C 1 rfl rfl dX3_addOnce_5 ?_
    refine g_get C dX3_addOnce_6 fl_X3_21 (in_17 hq1) (ec_17 _ _ _ _ _) rfl ?_
    refine g_ic_ge C 39 (by decide) dX3_addOnce_9 (fun h1 => ?_) (fun h1 => ?_)
    · rw [if_pos h1] at hf
      exact g_vret C rfl dX3_addOnce_39 hf
    · rw [if_neg h1] at hf
      refine g_ald_n C 0 rfl rfl dX3_addOnce_12 ?_
      refine g_ald_n C 1 rfl rfl dX3_addOnce_13 ?_
      refine g_get C dX3_addOnce_14 fl_X3_27 (in_17 hq1) (ec_17 _ _ _ _ _) rfl ?_
      refine g_ild C 3 rfl dX3_addOnce_17 ?_
      obtain ⟨g2, hf⟩ := gd_some hf
      refine g_iald C dX3_addOnce_19 (in_18 hq1) (fun _ => ec_18 _ _ _ _ _) g2 ?_
      refine g_lld_n C 2 rfl rfl dX3_addOnce_20 ?_
      refine g_ald_n C 1 rfl rfl dX3_addOnce_21 ?_
      refine g_get C dX3_addOnce_22 fl_X3_31 (in_17 hq1) (ec_17 _ _ _ _ _) rfl ?_
      refine g_ild C 3 rfl dX3_addOnce_25 ?_
      obtain ⟨g3, hf⟩ := gd_some hf
      refine g_iald C dX3_addOnce_27 (in_19 hq1) (fun _ => ec_19 _ _ _ _ _) g3 ?_
      refine g_i2l C dX3_addOnce_28 ?_
      refine g_lmul C dX3_addOnce_29 ?_
      obtain ⟨r4, μ5, hc6, hf⟩ := bn_some hf
      refine g_callVp (As := [vi (μ 18 q1 (ix x4)), vl (x2 * (w32 (μ 19 q1 (ix x4))))]) (rest := []) C ⟨Nat.zero_le _, Nat.zero_le _⟩ dX3_addOnce_30 cw_X3_add m_2_208 m_2_158 m_2_159 in_5 (ec_5 _ _ _ _ _) rfl rfl (c_X3_add  hc6) rfl rfl (Nat.le_of_ble_eq_true rfl) ⟨Nat.le_trans (Nat.le_of_ble_eq_true rfl) hfr, Nat.le_trans (Nat.le_of_ble_eq_true rfl) hlc⟩ ?_
      refine g_iinc (lo' := [(4, vi (x4 + 1)), (0, vr α 5 0), (1, vr α 17 q1), (2, vl x2)]) C 3 rfl (by decide) rfl dX3_addOnce_33 ?_
      refine g_goto C 3 (by decide) dX3_addOnce_36 ?_
      exact g_sub C [1, 2, 3, 0] rfl (ih _ _ hf)
set_option maxHeartbeats 4000000 in
set_option maxRecDepth 100000 in
theorem b_X3_addOnce {i1 : Nat} {a2 : Int} {μ : Mem} (C : CX p s m args meth c cX3_addOnce 5 RX3 none D Y LBx (Ar LBx α sz)) (hfr : 1 ≤ R.frames) (hlc : 23 ≤ R.locals) (hi1 : i1 < 10) (hf : f_X3_addOnce i1 a2 μ = some (r, μ')) : GG D Y LBx (Ar LBx α sz) p l e R s m args below meth c 5 (MQ below (Qcx D Y LBx α sz none (fun a => a = α) μ') args s 0 0 (Ar LBx α sz)) α 0 0 [(0, vr α 5 0), (1, vr α 17 i1), (2, vl a2)] [] μ 0 := by
  unfold f_X3_addOnce at hf
  refine g_iconst C dX3_addOnce_0 ?_
  refine g_ist (lo' := [(4, vi 0), (0, vr α 5 0), (1, vr α 17 i1), (2, vl a2)]) C (by decide) rfl dX3_addOnce_1 ?_
  refine g_sub C [1, 2, 3, 0] rfl (c_X3_addOnce_l3 C hfr hlc hi1  _ _ _ hf)
set_option maxHeartbeats 4000000 in
set_option maxRecDepth 100000 in
theorem c_X3_addOnce {l : Launch} {D : va_G} {Y : Nat → ClassId} {α : Adr} {i1 : Nat} {a2 : Int} {μ : Mem} {r : Int} {μ' : Mem} (hi1 : i1 < 10) (hf : f_X3_addOnce i1 a2 μ = some (r, μ')) : Ctr l D Y LBx yX3_addOnce cX3_addOnce 5 none 1 23 0 0 [vr α 5 0, vr α 17 i1, vl a2] α μ none (fun a => a = α) μ' := Ctr_of pn_X3 rfl rfl (Nat.le_of_ble_eq_true rfl) LBx_nd (fun p e s m below meth c sz C => b_X3_addOnce C (Nat.le_refl _) (Nat.le_refl _) hi1 hf)
end

/-! EndTeller$Table.addTwice -/
def f_X3_addTwice_L15 (q1 : Nat) (x2 : Int) (x4 : Int) (k68 : Mem → Option (Int × Mem)) : Nat → Int → Mem → Option (Int × Mem)
  | 0, _, _ => none
  | n + 1, x5, μ => (if w32 (μ 17 q1 3) ≤ w32 x5 then k68  μ else gd (inb x4 8) (gd (inb x5 8) (gd (inb x4 8) (gd (inb x5 8) (bn (f_X3_add ((μ 18 q1 (ix x4)) + (μ 18 q1 (ix x5))) ((x2 * (w32 (μ 19 q1 (ix x4)))) * (w32 (μ 19 q1 (ix x5)))) μ) (fun r7 μ8 => f_X3_addTwice_L15 q1 x2 x4 k68 n (x5 + 1) μ8))))))
def f_X3_addTwice_L3 (q1 : Nat) (x2 : Int) : Nat → Int → Mem → Option (Int × Mem)
  | 0, _, _ => none
  | n + 1, x4, μ => (if w32 (μ 17 q1 3) ≤ w32 x4 then some (0, μ) else f_X3_addTwice_L15 q1 x2 x4 (fun μ10 => f_X3_addTwice_L3 q1 x2 n (x4 + 1) μ10) FU 0 μ)
def f_X3_addTwice (i1 : Nat) (a2 : Int) (μ : Mem) : Option (Int × Mem) := f_X3_addTwice_L3 i1 a2 FU 0 μ
section
variable {p : Program} {l : Launch} {e : Env} {R : Room} {s : State} {m : MethodId} {args : Array Value} {below : List Frame} {meth : Method} {c : Code} {D : va_G} {Y : Nat → ClassId} {α : Adr} {sz : Nat} {r : Int} {μ' : Mem}
set_option maxHeartbeats 4000000 in
set_option maxRecDepth 100000 in
theorem c_X3_addTwice_l15 {q1 : Nat} {x2 : Int} {x4 : Int} {k68 : Mem → Option (Int × Mem)} (C : CX p s m args meth c cX3_addTwice 6 RX3 none D Y LBx (Ar LBx α sz)) (hfr : 1 ≤ R.frames) (hlc : 23 ≤ R.locals) (hq1 : q1 < 10) (hk68 : ∀ (μ : Mem), k68 μ = some (r, μ') → GG D Y LBx (Ar LBx α sz) p l e R s m args below meth c 6 (MQ below (Qcx D Y LBx α sz none (fun a => a = α) μ') args s 0 0 (Ar LBx α sz)) α 0 0 [(0, vr α 5 0), (1, vr α 17 q1), (2, vl x2), (4, vi x4)] [] μ 68)  : ∀ (n : Nat) (x5 : Int) (μ : Mem), f_X3_addTwice_L15 q1 x2 x4 k68 n x5 μ = some (r, μ') → GG D Y LBx (Ar LBx α sz) p l e R s m args below meth c 6 (MQ below (Qcx D Y LBx α sz none (fun a => a = α) μ') args s 0 0 (Ar LBx α sz)) α 0 0 [(0, vr α 5 0), (1, vr α 17 q1), (2, vl x2), (4, vi x4), (5, vi x5)] [] μ 15 := by
  intro n
  induction n with
  | zero =>
    intro x5 μ hf
    exact nomatch (show (none : Option (Int × Mem)) = some _ from hf)
  | succ n ih =>
    intro x5 μ hf
    rw [f_X3_addTwice_L15.eq_2] at hf
    refine g_ild C 4 rfl dX3_addTwice_15 ?_
    refine g_ald_n C 1 rfl rfl dX3_addTwice_17 ?_
    refine g_get C dX3_addTwice_18 fl_X3_21 (in_17 hq1) (ec_17 _ _ _ _ _) rfl ?_
    refine g_ic_ge C 68 (by decide) dX3_addTwice_21 (fun h2 => ?_) (fun h2 => ?_)
    · rw [if_pos h2] at hf
      exact g_sub C [0, 1, 2, 3] rfl (hk68 _ hf)
    · rw [if_neg h2] at hf
      refine g_ald_n C 0 rfl rfl dX3_addTwice_24 ?_
      refine g_ald_n C 1 rfl rfl dX3_addTwice_25 ?_
      refine g_get C dX3_addTwice_26 fl_X3_27 (in_17 hq1) (ec_17 _ _ _ _ _) rfl ?_
      refine g_ild C 3 rfl dX3_addTwice_29 ?_
      obtain ⟨g3, hf⟩ := gd_some hf
      refine g_iald C dX3_addTwice_31 (in_18 hq1) (fun _ => ec_18 _ _ _ _ _) g3 ?_
      refine g_ald_n C 1 rfl rfl dX3_addTwice_32 ?_
      refine g_get C dX3_addTwice_33 fl_X3_27 (in_17 hq1) (ec_17 _ _ _ _ _) rfl ?_
      refine g_ild C 4 rfl dX3_addTwice_36 ?_
      obtain ⟨g4, hf⟩ := gd_some hf
      refine g_iald C dX3_addTwice_38 (in_18 hq1) (fun _ => ec_18 _ _ _ _ _) g4 ?_
      refine g_iadd C dX3_addTwice_39 ?_
      refine g_lld_n C 2 rfl rfl dX3_addTwice_40 ?_
      refine g_ald_n C 1 rfl rfl dX3_addTwice_41 ?_
      refine g_get C dX3_addTwice_42 fl_X3_31 (in_17 hq1) (ec_17 _ _ _ _ _) rfl ?_
      refine g_ild C 3 rfl dX3_addTwice_45 ?_
      obtain ⟨g5, hf⟩ := gd_some hf
      refine g_iald C dX3_addTwice_47 (in_19 hq1) (fun _ => ec_19 _ _ _ _ _) g5 ?_
      refine g_i2l C dX3_addTwice_48 ?_
      refine g_lmul C dX3_addTwice_49 ?_
      refine g_ald_n C 1 rfl rfl dX3_addTwice_50 ?_
      refine g_get C dX3_addTwice_51 fl_X3_31 (in_17 hq1) (ec_17 _ _ _ _ _) rfl ?_
      refine g_ild C 4 rfl dX3_addTwice_54 ?_
      obtain ⟨g6, hf⟩ := gd_some hf
      refine g_iald C dX3_addTwice_56 (in_19 hq1) (fun _ => ec_19 _ _ _ _ _) g6 ?_
      refine g_i2l C dX3_addTwice_57 ?_
      refine g_lmul C dX3_addTwice_58 ?_
      obtain ⟨r7, μ8, hc9, hf⟩ := bn_some hf
      refine g_callVp (As := [vi ((μ 18 q1 (ix x4)) + (μ 18 q1 (ix x5))), vl ((x2 * (w32 (μ 19 q1 (ix x4)))) * (w32 (μ 19 q1 (ix x5))))]) (rest := []) C ⟨Nat.zero_le _, Nat.zero_le _⟩ dX3_addTwice_59 cw_X3_add m_2_208 m_2_158 m_2_159 in_5 (ec_5 _ _ _ _ _) rfl rfl (c_X3_add  hc9) rfl rfl (Nat.le_of_ble_eq_true rfl) ⟨Nat.le_trans (Nat.le_of_ble_eq_true rfl) hfr, Nat.le_trans (Nat.le_of_ble_eq_true rfl) hlc⟩ ?_
      refine g_iinc (lo' := [(5, vi (x5 + 1)), (0, vr α 5 0), (1, vr α 17 q1), (2, vl x2), (4, vi x4)]) C 4 rfl (by decide) rfl dX3_addTwice_62 ?_
      refine g_goto C 15 (by decide) dX3_addTwice_65 ?_
      exact g_sub C [1, 2, 3, 4, 0] rfl (ih _ _ hf)
set_option maxHeartbeats 4000000 in
set_option maxRecDepth 100000 in
theorem c_X3_addTwice_l3 {q1 : Nat} {x2 : Int} (C : CX p s m args meth c cX3_addTwice 6 RX3 none D Y LBx (Ar LBx α sz)) (hfr : 1 ≤ R.frames) (hlc : 23 ≤ R.locals) (hq1 : q1 < 10)   : ∀ (n : Nat) (x4 : Int) (μ : Mem), f_X3_addTwice_L3 q1 x2 n x4 μ = some (r, μ') → GG D Y LBx (Ar LBx α sz) p l e R s m args below meth c 6 (MQ below (Qcx D Y LBx α sz none (fun a => a = α) μ') args s 0 0 (Ar LBx α sz)) α 0 0 [(0, vr α 5 0), (1, vr α 17 q1), (2, vl x2), (4, vi x4)] [] μ 3 := by
  intro n
  induction n with
  | zero =>
    intro x4 μ hf
    exact nomatch (show (none : Option (Int × Mem)) = some _ from hf)
  | succ n ih =>
    intro x4 μ hf
    rw [f_X3_addTwice_L3.eq_2] at hf
    refine g_ild C 3 rfl dX3_addTwice_3 ?_
    refine g_ald_n C 1 rfl rfl dX3_addTwice_5 ?_
    refine g_get C dX3_addTwice_6 fl_X3_21 (in_17 hq1) (ec_17 _ _ _ _ _) rfl ?_
    refine g_ic_ge C 74 (by decide) dX3_addTwice_9 (fun h1 => ?_) (fun h1 => ?_)
    · rw [if_pos h1] at hf
      exact g_vret C rfl dX3_addTwice_74 hf
    · rw [if_neg h1] at hf
      refine g_iconst C dX3_addTwice_12 ?_
      refine g_ist (lo' := [(5, vi 0), (0, vr α 5 0), (1, vr α 17 q1), (2, vl x2), (4, vi x4)]) C (by decide) rfl dX3_addTwice_13 ?_
      refine g_sub C [1, 2, 3, 4, 0] rfl (c_X3_addTwice_l15 C hfr hlc hq1 (fun μ10 hf => ?_) _ _ _ hf)
      refine g_iinc (lo' := [(4, vi (x4 + 1)), (0, vr α 5 0), (1, vr α 17 q1), (2, vl x2)]) C 3 rfl (by decide) rfl dX3_addTwice_68 ?_
      refine g_goto C 3 (by decide) dX3_addTwice_71 ?_
      exact g_sub C [1, 2, 3, 0] rfl (ih _ _ hf)
set_option maxHeartbeats 4000000 in
set_option maxRecDepth 100000 in
theorem b_X3_addTwice {i1 : Nat} {a2 : Int} {μ : Mem} (C : CX p s m args meth c cX3_addTwice 6 RX3 none D Y LBx (Ar LBx α sz)) (hfr : 1 ≤ R.frames) (hlc : 23 ≤ R.locals) (hi1 : i1 < 10) (hf : f_X3_addTwice i1 a2 μ = some (r, μ')) : GG D Y LBx (Ar LBx α sz) p l e R s m args below meth c 6 (MQ below (Qcx D Y LBx α sz none (fun a => a = α) μ') args s 0 0 (Ar LBx α sz)) α 0 0 [(0, vr α 5 0), (1, vr α 17 i1), (2, vl a2)] [] μ 0 := by
  unfold f_X3_addTwice at hf
  refine g_iconst C dX3_addTwice_0 ?_
  refine g_ist (lo' := [(4, vi 0), (0, vr α 5 0), (1, vr α 17 i1), (2, vl a2)]) C (by decide) rfl dX3_addTwice_1 ?_
  refine g_sub C [1, 2, 3, 0] rfl (c_X3_addTwice_l3 C hfr hlc hi1  _ _ _ hf)
set_option maxHeartbeats 4000000 in
set_option maxRecDepth 100000 in
theorem c_X3_addTwice {l : Launch} {D : va_G} {Y : Nat → ClassId} {α : Adr} {i1 : Nat} {a2 : Int} {μ : Mem} {r : Int} {μ' : Mem} (hi1 : i1 < 10) (hf : f_X3_addTwice i1 a2 μ = some (r, μ')) : Ctr l D Y LBx yX3_addTwice cX3_addTwice 6 none 1 23 0 0 [vr α 5 0, vr α 17 i1, vl a2] α μ none (fun a => a = α) μ' := Ctr_of pn_X3 rfl rfl (Nat.le_of_ble_eq_true rfl) LBx_nd (fun p e s m below meth c sz C => b_X3_addTwice C (Nat.le_refl _) (Nat.le_refl _) hi1 hf)
end

/-! EndTeller$Table.makeLess -/
def f_X3_makeLess_L4 (k30 : Int → Mem → Option (Int × Mem)) : Nat → Int → Int → Mem → Option (Int × Mem)
  | 0, _, _, _ => none
  | n + 1, x1, x3, μ => (if w32 ((199 : Nat) : Int) ≤ w32 x3 then k30 x1 μ else gd (inb x3 199) (bn (f_X8_commonDivisor x1 (μ 6 0 (ix x3)) μ) (fun r3 μ4 => f_X3_makeLess_L4 k30 n r3 (x3 + 1) μ4)))
def f_X3_makeLess_L38 (x1 : Int) : Nat → Int → Mem → Option (Int × Mem)
  | 0, _, _ => none
  | n + 1, x3, μ => (if w32 ((199 : Nat) : Int) ≤ w32 x3 then some (0, μ) else gd (inb x3 199) (gd (¬ w64 x1 = 0) (gd (inb x3 199) (f_X3_makeLess_L38 x1 n (x3 + 1) (st μ 6 0 (ix x3) (Int.tdiv (w64 (μ 6 0 (ix x3))) (w64 x1)))))))
def f_X3_makeLess  (μ : Mem) : Option (Int × Mem) := f_X3_makeLess_L4 (fun y7 μ6 => (if w64 y7 ≤ w64 1 then some (0, μ6) else f_X3_makeLess_L38 y7 FU 0 μ6)) FU 0 0 μ
section
variable {p : Program} {l : Launch} {e : Env} {R : Room} {s : State} {m : MethodId} {args : Array Value} {below : List Frame} {meth : Method} {c : Code} {D : va_G} {Y : Nat → ClassId} {α : Adr} {sz : Nat} {r : Int} {μ' : Mem}
set_option maxHeartbeats 4000000 in
set_option maxRecDepth 100000 in
theorem c_X3_makeLess_l4 {k30 : Int → Mem → Option (Int × Mem)} (C : CX p s m args meth c cX3_makeLess 4 RX3 none D Y LBx (Ar LBx α sz)) (hfr : 1 ≤ R.frames) (hlc : 30 ≤ R.locals)  (hk30 : ∀ (y1 : Int) (μ : Mem), k30 y1 μ = some (r, μ') → GG D Y LBx (Ar LBx α sz) p l e R s m args below meth c 4 (MQ below (Qcx D Y LBx α sz none (fun a => a = α) μ') args s 0 0 (Ar LBx α sz)) α 0 0 [(0, vr α 5 0), (1, vl y1)] [] μ 30)  : ∀ (n : Nat) (x1 x3 : Int) (μ : Mem), f_X3_makeLess_L4 k30 n x1 x3 μ = some (r, μ') → GG D Y LBx (Ar LBx α sz) p l e R s m args below meth c 4 (MQ below (Qcx D Y LBx α sz none (fun a => a = α) μ') args s 0 0 (Ar LBx α sz)) α 0 0 [(0, vr α 5 0), (1, vl x1), (3, vi x3)] [] μ 4 := by
  intro n
  induction n with
  | zero =>
    intro x1 x3 μ hf
    exact nomatch (show (none : Option (Int × Mem)) = some _ from hf)
  | succ n ih =>
    intro x1 x3 μ hf
    rw [f_X3_makeLess_L4.eq_2] at hf
    refine g_ild_n C 2 rfl rfl dX3_makeLess_4 ?_
    refine g_ald_n C 0 rfl rfl dX3_makeLess_5 ?_
    refine g_get C dX3_makeLess_6 fl_X3_9 in_5 (ec_5 _ _ _ _ _) rfl ?_
    refine g_alen (y := 1) C dX3_makeLess_9 in_6 (fun _ => ec_6 _ _ _ _ _) rfl ?_
    refine g_ic_ge C 30 (by decide) dX3_makeLess_10 (fun h1 => ?_) (fun h1 => ?_)
    · rw [if_pos h1] at hf
      exact g_sub C [0, 1] rfl (hk30 _ _ hf)
    · rw [if_neg h1] at hf
      refine g_lld_n C 1 rfl rfl dX3_makeLess_13 ?_
      refine g_ald_n C 0 rfl rfl dX3_makeLess_14 ?_
      refine g_get C dX3_makeLess_15 fl_X3_9 in_5 (ec_5 _ _ _ _ _) rfl ?_
      refine g_ild_n C 2 rfl rfl dX3_makeLess_18 ?_
      obtain ⟨g2, hf⟩ := gd_some hf
      refine g_lald C dX3_makeLess_19 in_6 (fun _ => ec_6 _ _ _ _ _) g2 ?_
      obtain ⟨r3, μ4, hc5, hf⟩ := bn_some hf
      refine g_callNp (As := [vl x1, vl (μ 6 0 (ix x3))]) (rest := []) C ⟨Nat.zero_le _, Nat.zero_le _⟩ dX3_makeLess_20 cw_X8_commonDivisor C.hnw.1 m_2_170 (c_X8_commonDivisor  hc5) rfl rfl (Nat.le_of_ble_eq_true rfl) ⟨Nat.le_trans (Nat.le_of_ble_eq_true rfl) hfr, Nat.le_trans (Nat.le_of_ble_eq_true rfl) hlc⟩ ?_
      refine g_lst_n (lo' := [(1, vl r3), (0, vr α 5 0), (3, vi x3)]) C rfl (by decide) rfl dX3_makeLess_23 ?_
      refine g_iinc (lo' := [(3, vi (x3 + 1)), (1, vl r3), (0, vr α 5 0)]) C 2 rfl (by decide) rfl dX3_makeLess_24 ?_
      refine g_goto C 4 (by decide) dX3_makeLess_27 ?_
      exact g_sub C [2, 1, 0] rfl (ih _ _ _ hf)
set_option maxHeartbeats 4000000 in
set_option maxRecDepth 100000 in
theorem c_X3_makeLess_l38 {x1 : Int} (C : CX p s m args meth c cX3_makeLess 4 RX3 none D Y LBx (Ar LBx α sz)) (hfr : 1 ≤ R.frames) (hlc : 30 ≤ R.locals)    : ∀ (n : Nat) (x3 : Int) (μ : Mem), f_X3_makeLess_L38 x1 n x3 μ = some (r, μ') → GG D Y LBx (Ar LBx α sz) p l e R s m args below meth c 4 (MQ below (Qcx D Y LBx α sz none (fun a => a = α) μ') args s 0 0 (Ar LBx α sz)) α 0 0 [(0, vr α 5 0), (1, vl x1), (3, vi x3)] [] μ 38 := by
  intro n
  induction n with
  | zero =>
    intro x3 μ hf
    exact nomatch (show (none : Option (Int × Mem)) = some _ from hf)
  | succ n ih =>
    intro x3 μ hf
    rw [f_X3_makeLess_L38.eq_2] at hf
    refine g_ild_n C 2 rfl rfl dX3_makeLess_38 ?_
    refine g_ald_n C 0 rfl rfl dX3_makeLess_39 ?_
    refine g_get C dX3_makeLess_40 fl_X3_9 in_5 (ec_5 _ _ _ _ _) rfl ?_
    refine g_alen (y := 1) C dX3_makeLess_43 in_6 (fun _ => ec_6 _ _ _ _ _) rfl ?_
    refine g_ic_ge C 63 (by decide) dX3_makeLess_44 (fun h9 => ?_) (fun h9 => ?_)
    · rw [if_pos h9] at hf
      exact g_vret C rfl dX3_makeLess_63 hf
    · rw [if_neg h9] at hf
      refine g_ald_n C 0 rfl rfl dX3_makeLess_47 ?_
      refine g_get C dX3_makeLess_48 fl_X3_9 in_5 (ec_5 _ _ _ _ _) rfl ?_
      refine g_ild_n C 2 rfl rfl dX3_makeLess_51 ?_
      refine g_dup2 C rfl rfl dX3_makeLess_52 ?_
      obtain ⟨g10, hf⟩ := gd_some hf
      refine g_lald C dX3_makeLess_53 in_6 (fun _ => ec_6 _ _ _ _ _) g10 ?_
      refine g_lld_n C 1 rfl rfl dX3_makeLess_54 ?_
      obtain ⟨g11, hf⟩ := gd_some hf
      refine g_ldiv C g11 dX3_makeLess_55 ?_
      obtain ⟨g12, hf⟩ := gd_some hf
      refine g_last C dX3_makeLess_56 in_6 (fun _ => ec_6 _ _ _ _ _) (by decide) g12 ?_
      refine g_iinc (lo' := [(3, vi (x3 + 1)), (0, vr α 5 0), (1, vl x1)]) C 2 rfl (by decide) rfl dX3_makeLess_57 ?_
      refine g_goto C 38 (by decide) dX3_makeLess_60 ?_
      exact g_sub C [1, 2, 0] rfl (ih _ _ hf)
set_option maxHeartbeats 4000000 in
set_option maxRecDepth 100000 in
theorem b_X3_makeLess  {μ : Mem} (C : CX p s m args meth c cX3_makeLess 4 RX3 none D Y LBx (Ar LBx α sz)) (hfr : 1 ≤ R.frames) (hlc : 30 ≤ R.locals)  (hf : f_X3_makeLess μ = some (r, μ')) : GG D Y LBx (Ar LBx α sz) p l e R s m args below meth c 4 (MQ below (Qcx D Y LBx α sz none (fun a => a = α) μ') args s 0 0 (Ar LBx α sz)) α 0 0 [(0, vr α 5 0)] [] μ 0 := by
  unfold f_X3_makeLess at hf
  refine g_lconst (x := 0) C rfl dX3_makeLess_0 ?_
  refine g_lst_n (lo' := [(1, vl 0), (0, vr α 5 0)]) C rfl (by decide) rfl dX3_makeLess_1 ?_
  refine g_iconst C dX3_makeLess_2 ?_
  refine g_ist_n (lo' := [(3, vi 0), (1, vl 0), (0, vr α 5 0)]) C rfl (by decide) rfl dX3_makeLess_3 ?_
  refine g_sub C [2, 1, 0] rfl (c_X3_makeLess_l4 C hfr hlc  (fun y7 μ6 hf => ?_) _ _ _ _ hf)
  refine g_lld_n C 1 rfl rfl dX3_makeLess_30 ?_
  refine g_lconst (x := 1) C rfl dX3_makeLess_31 ?_
  refine g_lc_le C 63 (by decide) dX3_makeLess_32 dX3_makeLess_33 (fun h8 => ?_) (fun h8 => ?_)
  · rw [if_pos h8] at hf
    exact g_vret C rfl dX3_makeLess_63 hf
  · rw [if_neg h8] at hf
    refine g_iconst C dX3_makeLess_36 ?_
    refine g_ist_n (lo' := [(3, vi 0), (0, vr α 5 0), (1, vl y7)]) C rfl (by decide) rfl dX3_makeLess_37 ?_
    refine g_sub C [1, 2, 0] rfl (c_X3_makeLess_l38 C hfr hlc   _ _ _ hf)
set_option maxHeartbeats 4000000 in
set_option maxRecDepth 100000 in
theorem c_X3_makeLess {l : Launch} {D : va_G} {Y : Nat → ClassId} {α : Adr}  {μ : Mem} {r : Int} {μ' : Mem}  (hf : f_X3_makeLess μ = some (r, μ')) : Ctr l D Y LBx yX3_makeLess cX3_makeLess 4 none 1 30 0 0 [vr α 5 0] α μ none (fun a => a = α) μ' := Ctr_of pn_X3 rfl rfl (Nat.le_of_ble_eq_true rfl) LBx_nd (fun p e s m below meth c sz C => b_X3_makeLess C (Nat.le_refl _) (Nat.le_refl _)  hf)
end

/-! EndTeller$Table.fits -/
def f_X3_fits_L4 (k54 : Int → Mem → Option (Int × Mem)) : Nat → Int → Int → Mem → Option (Int × Mem)
  | 0, _, _, _ => none
  | n + 1, x1, x2, μ => (if w32 ((199 : Nat) : Int) ≤ w32 x2 then k54 x1 μ else gd (inb x2 199) (jn (fun y3 => f_X3_fits_L4 k54 n y3 (x2 + 1) μ) (fun j48 => (if w64 (μ 6 0 (ix x2)) = w64 0 then j48 x1 else (if w32 99 < w32 x2 then some (0, μ) else gd (inb x2 199) ((if w64 (μ 6 0 (ix x2)) ≤ w64 1000 then j48 (x1 + 1) else some (0, μ))))))))
def f_X3_fits  (μ : Mem) : Option (Int × Mem) := f_X3_fits_L4 (fun y10 μ9 => (if w32 8 < w32 y10 then some (0, μ9) else some (1, μ9))) FU 0 0 μ
section
variable {p : Program} {l : Launch} {e : Env} {R : Room} {s : State} {m : MethodId} {args : Array Value} {below : List Frame} {meth : Method} {c : Code} {D : va_G} {Y : Nat → ClassId} {α : Adr} {sz : Nat} {r : Int} {μ' : Mem}
set_option maxHeartbeats 4000000 in
set_option maxRecDepth 100000 in
theorem c_X3_fits_l4 {k54 : Int → Mem → Option (Int × Mem)} (C : CX p s m args meth c cX3_fits 3 RX3 (some .boolean) D Y LBx (Ar LBx α sz)) (hfr : 0 ≤ R.frames) (hlc : 0 ≤ R.locals)  (hk54 : ∀ (y1 : Int) (μ : Mem), k54 y1 μ = some (r, μ') → GG D Y LBx (Ar LBx α sz) p l e R s m args below meth c 3 (MQ below (Qcx D Y LBx α sz (some (vi r)) (fun a => a = α) μ') args s 0 0 (Ar LBx α sz)) α 0 0 [(1, vi y1)] [] μ 54)  : ∀ (n : Nat) (x1 x2 : Int) (μ : Mem), f_X3_fits_L4 k54 n x1 x2 μ = some (r, μ') → GG D Y LBx (Ar LBx α sz) p l e R s m args below meth c 3 (MQ below (Qcx D Y LBx α sz (some (vi r)) (fun a => a = α) μ') args s 0 0 (Ar LBx α sz)) α 0 0 [(0, vr α 5 0), (1, vi x1), (2, vi x2)] [] μ 4 := by
  intro n
  induction n with
  | zero =>
    intro x1 x2 μ hf
    exact nomatch (show (none : Option (Int × Mem)) = some _ from hf)
  | succ n ih =>
    intro x1 x2 μ hf
    rw [f_X3_fits_L4.eq_2] at hf
    refine g_ild_n C 2 rfl rfl dX3_fits_4 ?_
    refine g_ald_n C 0 rfl rfl dX3_fits_5 ?_
    refine g_get C dX3_fits_6 fl_X3_9 in_5 (ec_5 _ _ _ _ _) rfl ?_
    refine g_alen (y := 1) C dX3_fits_9 in_6 (fun _ => ec_6 _ _ _ _ _) rfl ?_
    refine g_ic_ge C 54 (by decide) dX3_fits_10 (fun h1 => ?_) (fun h1 => ?_)
    · rw [if_pos h1] at hf
      exact g_sub C [1] rfl (hk54 _ _ hf)
    · rw [if_neg h1] at hf
      refine g_ald_n C 0 rfl rfl dX3_fits_13 ?_
      refine g_get C dX3_fits_14 fl_X3_9 in_5 (ec_5 _ _ _ _ _) rfl ?_
      refine g_ild_n C 2 rfl rfl dX3_fits_17 ?_
      obtain ⟨g2, hf⟩ := gd_some hf
      refine g_lald C dX3_fits_18 in_6 (fun _ => ec_6 _ _ _ _ _) g2 ?_
      refine g_lconst (x := 0) C rfl dX3_fits_19 ?_
      obtain ⟨j48, ej4, hf⟩ := jn_some hf
      have hj48 : ∀ (y3 : Int), j48 y3 = some (r, μ') → GG D Y LBx (Ar LBx α sz) p l e R s m args below meth c 3 (MQ below (Qcx D Y LBx α sz (some (vi r)) (fun a => a = α) μ') args s 0 0 (Ar LBx α sz)) α 0 0 [(0, vr α 5 0), (1, vi y3), (2, vi x2)] [] μ 48 := by
        intro y3 hf
        rw [ej4] at hf
        try dsimp only at hf
        refine g_iinc (lo' := [(2, vi (x2 + 1)), (0, vr α 5 0), (1, vi y3)]) C 2 rfl (by decide) rfl dX3_fits_48 ?_
        refine g_goto C 4 (by decide) dX3_fits_51 ?_
        exact g_sub C [1, 2, 0] rfl (ih _ _ _ hf)
      clear ej4
      refine g_lc_eq C 48 (by decide) dX3_fits_20 dX3_fits_21 (fun h5 => ?_) (fun h5 => ?_)
      · rw [if_pos h5] at hf
        exact g_sub C [0, 1, 2] rfl (hj48 _ hf)
      · rw [if_neg h5] at hf
        refine g_iinc (lo' := [(1, vi (x1 + 1)), (0, vr α 5 0), (2, vi x2)]) C 1 rfl (by decide) rfl dX3_fits_24 ?_
        refine g_ild_n C 2 rfl rfl dX3_fits_27 ?_
        refine g_bipush C rfl dX3_fits_28 ?_
        refine g_ic_gt C 46 (by decide) dX3_fits_30 (fun h6 => ?_) (fun h6 => ?_)
        · rw [if_pos h6] at hf
          refine g_iconst C dX3_fits_46 ?_
          exact g_zret C rfl (Or.inl rfl) dX3_fits_47 hf
        · rw [if_neg h6] at hf
          refine g_ald_n C 1 rfl rfl dX3_fits_33 ?_
          refine g_get C dX3_fits_34 fl_X3_9 in_5 (ec_5 _ _ _ _ _) rfl ?_
          refine g_ild_n C 2 rfl rfl dX3_fits_37 ?_
          obtain ⟨g7, hf⟩ := gd_some hf
          refine g_lald C dX3_fits_38 in_6 (fun _ => ec_6 _ _ _ _ _) g7 ?_
          refine g_ldc2 (x := 1000) C m_2_176 dX3_fits_39 ?_
          refine g_lc_le C 48 (by decide) dX3_fits_42 dX3_fits_43 (fun h8 => ?_) (fun h8 => ?_)
          · rw [if_pos h8] at hf
            exact g_sub C [1, 0, 2] rfl (hj48 _ hf)
          · rw [if_neg h8] at hf
            refine g_iconst C dX3_fits_46 ?_
            exact g_zret C rfl (Or.inl rfl) dX3_fits_47 hf
set_option maxHeartbeats 4000000 in
set_option maxRecDepth 100000 in
theorem b_X3_fits  {μ : Mem} (C : CX p s m args meth c cX3_fits 3 RX3 (some .boolean) D Y LBx (Ar LBx α sz)) (hfr : 0 ≤ R.frames) (hlc : 0 ≤ R.locals)  (hf : f_X3_fits μ = some (r, μ')) : GG D Y LBx (Ar LBx α sz) p l e R s m args below meth c 3 (MQ below (Qcx D Y LBx α sz (some (vi r)) (fun a => a = α) μ') args s 0 0 (Ar LBx α sz)) α 0 0 [(0, vr α 5 0)] [] μ 0 := by
  unfold f_X3_fits at hf
  refine g_iconst C dX3_fits_0 ?_
  refine g_ist_n (lo' := [(1, vi 0), (0, vr α 5 0)]) C rfl (by decide) rfl dX3_fits_1 ?_
  refine g_iconst C dX3_fits_2 ?_
  refine g_ist_n (lo' := [(2, vi 0), (1, vi 0), (0, vr α 5 0)]) C rfl (by decide) rfl dX3_fits_3 ?_
  refine g_sub C [2, 1, 0] rfl (c_X3_fits_l4 C hfr hlc  (fun y10 μ9 hf => ?_) _ _ _ _ hf)
  refine g_ild_n C 0 rfl rfl dX3_fits_54 ?_
  refine g_bipush C rfl dX3_fits_55 ?_
  refine g_ic_gt C 64 (by decide) dX3_fits_57 (fun h11 => ?_) (fun h11 => ?_)
  · rw [if_pos h11] at hf
    refine g_iconst C dX3_fits_64 ?_
    exact g_zret C rfl (Or.inl rfl) dX3_fits_65 hf
  · rw [if_neg h11] at hf
    refine g_iconst C dX3_fits_60 ?_
    refine g_goto C 65 (by decide) dX3_fits_61 ?_
    exact g_zret C rfl (Or.inr rfl) dX3_fits_65 hf
set_option maxHeartbeats 4000000 in
set_option maxRecDepth 100000 in
theorem c_X3_fits {l : Launch} {D : va_G} {Y : Nat → ClassId} {α : Adr}  {μ : Mem} {r : Int} {μ' : Mem}  (hf : f_X3_fits μ = some (r, μ')) : Ctr l D Y LBx yX3_fits cX3_fits 3 (some .boolean) 0 0 0 0 [vr α 5 0] α μ (some (vi r)) (fun a => a = α) μ' := Ctr_of pn_X3 rfl rfl (Nat.le_of_ble_eq_true rfl) LBx_nd (fun p e s m below meth c sz C => b_X3_fits C (Nat.le_refl _) (Nat.le_refl _)  hf)
end
