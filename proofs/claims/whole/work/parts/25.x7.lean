/-! EndTeller$Work.rowsAhead -/
def f_X7_rowsAhead_L4 (x1 : Int) : Nat → Int → Int → Mem → Option (Int × Mem)
  | 0, _, _, _ => none
  | n + 1, x2, x3, μ => (if w32 x1 ≤ w32 x3 then some (x2, μ) else (if w32 (μ 15 0 3) ≤ w32 x3 then some (x2, μ) else gd (inb x3 10) (f_X7_rowsAhead_L4 x1 n (x2 * (μ 17 (ix x3) 3)) (x3 + 1) μ)))
def f_X7_rowsAhead (a1 : Int) (μ : Mem) : Option (Int × Mem) := f_X7_rowsAhead_L4 a1 FU 1 0 μ
section
variable {p : Program} {l : Launch} {e : Env} {R : Room} {s : State} {m : MethodId} {args : Array Value} {below : List Frame} {meth : Method} {c : Code} {D : va_G} {Y : Nat → ClassId} {α : Adr} {sz : Nat} {r : Int} {μ' : Mem}
set_option maxHeartbeats 4000000 in
set_option maxRecDepth 100000 in
theorem c_X7_rowsAhead_l4 {x1 : Int} (C : CX p s m args meth c cX7_rowsAhead 4 RX7 (some .int) D Y LBx (Ar LBx α sz)) (hfr : 0 ≤ R.frames) (hlc : 0 ≤ R.locals)    : ∀ (n : Nat) (x2 x3 : Int) (μ : Mem), f_X7_rowsAhead_L4 x1 n x2 x3 μ = some (r, μ') → GG D Y LBx (Ar LBx α sz) p l e R s m args below meth c 4 (MQ below (Qcx D Y LBx α sz (some (vi r)) (fun a => a = α) μ') args s 0 0 (Ar LBx α sz)) α 0 0 [(0, vr α 15 0), (1, vi x1), (2, vi x2), (3, vi x3)] [] μ 4 := by
  intro n
  induction n with
  | zero =>
    intro x2 x3 μ hf
    exact nomatch (show (none : Option (Int × Mem)) = some _ from hf)
  | succ n ih =>
    intro x2 x3 μ hf
    rw [f_X7_rowsAhead_L4.eq_2] at hf
    refine g_ild_n C 3 rfl rfl dX7_rowsAhead_4 ?_
    refine g_ild_n C 1 rfl rfl dX7_rowsAhead_5 ?_
    refine g_ic_ge C 35 (by decide) dX7_rowsAhead_6 (fun h1 => ?_) (fun h1 => ?_)
    · rw [if_pos h1] at hf
      refine g_ild_n C 2 rfl rfl dX7_rowsAhead_35 ?_
      exact g_iret C rfl dX7_rowsAhead_36 hf
    · rw [if_neg h1] at hf
      refine g_ild_n C 3 rfl rfl dX7_rowsAhead_9 ?_
      refine g_ald_n C 0 rfl rfl dX7_rowsAhead_10 ?_
      refine g_get C dX7_rowsAhead_11 fl_X7_24 in_15 (ec_15 _ _ _ _ _) rfl ?_
      refine g_ic_ge C 35 (by decide) dX7_rowsAhead_14 (fun h2 => ?_) (fun h2 => ?_)
      · rw [if_pos h2] at hf
        refine g_ild_n C 2 rfl rfl dX7_rowsAhead_35 ?_
        exact g_iret C rfl dX7_rowsAhead_36 hf
      · rw [if_neg h2] at hf
        refine g_ild_n C 2 rfl rfl dX7_rowsAhead_17 ?_
        refine g_ald_n C 0 rfl rfl dX7_rowsAhead_18 ?_
        refine g_get C dX7_rowsAhead_19 fl_X7_11 in_15 (ec_15 _ _ _ _ _) rfl ?_
        refine g_ild_n C 3 rfl rfl dX7_rowsAhead_22 ?_
        obtain ⟨g3, hf⟩ := gd_some hf
        refine g_aaldI C dX7_rowsAhead_23 in_16 (fun _ => ec_16 _ _ _ _ _) rfl g3 ?_
        refine g_get C dX7_rowsAhead_24 fl_X7_54 (in_17 (inb_ix g3)) (ec_17 _ _ _ _ _) rfl ?_
        refine g_imul C dX7_rowsAhead_27 ?_
        refine g_ist_n (lo' := [(2, vi (x2 * (μ 17 (ix x3) 3))), (0, vr α 15 0), (1, vi x1), (3, vi x3)]) C rfl (by decide) rfl dX7_rowsAhead_28 ?_
        refine g_iinc (lo' := [(3, vi (x3 + 1)), (2, vi (x2 * (μ 17 (ix x3) 3))), (0, vr α 15 0), (1, vi x1)]) C 3 rfl (by decide) rfl dX7_rowsAhead_29 ?_
        refine g_goto C 4 (by decide) dX7_rowsAhead_32 ?_
        exact g_sub C [2, 3, 1, 0] rfl (ih _ _ _ hf)
set_option maxHeartbeats 4000000 in
set_option maxRecDepth 100000 in
theorem b_X7_rowsAhead {a1 : Int} {μ : Mem} (C : CX p s m args meth c cX7_rowsAhead 4 RX7 (some .int) D Y LBx (Ar LBx α sz)) (hfr : 0 ≤ R.frames) (hlc : 0 ≤ R.locals)  (hf : f_X7_rowsAhead a1 μ = some (r, μ')) : GG D Y LBx (Ar LBx α sz) p l e R s m args below meth c 4 (MQ below (Qcx D Y LBx α sz (some (vi r)) (fun a => a = α) μ') args s 0 0 (Ar LBx α sz)) α 0 0 [(0, vr α 15 0), (1, vi a1)] [] μ 0 := by
  unfold f_X7_rowsAhead at hf
  refine g_iconst C dX7_rowsAhead_0 ?_
  refine g_ist_n (lo' := [(2, vi 1), (0, vr α 15 0), (1, vi a1)]) C rfl (by decide) rfl dX7_rowsAhead_1 ?_
  refine g_iconst C dX7_rowsAhead_2 ?_
  refine g_ist_n (lo' := [(3, vi 0), (2, vi 1), (0, vr α 15 0), (1, vi a1)]) C rfl (by decide) rfl dX7_rowsAhead_3 ?_
  refine g_sub C [2, 3, 1, 0] rfl (c_X7_rowsAhead_l4 C hfr hlc   _ _ _ _ hf)
set_option maxHeartbeats 4000000 in
set_option maxRecDepth 100000 in
theorem c_X7_rowsAhead {l : Launch} {D : va_G} {Y : Nat → ClassId} {α : Adr} {a1 : Int} {μ : Mem} {r : Int} {μ' : Mem}  (hf : f_X7_rowsAhead a1 μ = some (r, μ')) : Ctr l D Y LBx yX7_rowsAhead cX7_rowsAhead 4 (some .int) 0 0 0 0 [vr α 15 0, vi a1] α μ (some (vi r)) (fun a => a = α) μ' := Ctr_of pn_X7 rfl rfl (Nat.le_of_ble_eq_true rfl) LBx_nd (fun p e s m below meth c sz C => b_X7_rowsAhead C (Nat.le_refl _) (Nat.le_refl _)  hf)
end

/-! EndTeller$Work.countWays -/
def f_X7_countWays  (μ : Mem) : Option (Int × Mem) := bn (f_X7_rowsAhead (μ 15 0 3) μ) (fun r1 μ2 => some ((ishl r1 (μ2 15 0 4)), μ2))
section
variable {p : Program} {l : Launch} {e : Env} {R : Room} {s : State} {m : MethodId} {args : Array Value} {below : List Frame} {meth : Method} {c : Code} {D : va_G} {Y : Nat → ClassId} {α : Adr} {sz : Nat} {r : Int} {μ' : Mem}
set_option maxHeartbeats 4000000 in
set_option maxRecDepth 100000 in
theorem b_X7_countWays  {μ : Mem} (C : CX p s m args meth c cX7_countWays 1 RX7 (some .int) D Y LBx (Ar LBx α sz)) (hfr : 1 ≤ R.frames) (hlc : 23 ≤ R.locals)  (hf : f_X7_countWays μ = some (r, μ')) : GG D Y LBx (Ar LBx α sz) p l e R s m args below meth c 1 (MQ below (Qcx D Y LBx α sz (some (vi r)) (fun a => a = α) μ') args s 0 0 (Ar LBx α sz)) α 0 0 [(0, vr α 15 0)] [] μ 0 := by
  unfold f_X7_countWays at hf
  refine g_ald_n C 0 rfl rfl dX7_countWays_0 ?_
  refine g_ald_n C 0 rfl rfl dX7_countWays_1 ?_
  refine g_get C dX7_countWays_2 fl_X7_24 in_15 (ec_15 _ _ _ _ _) rfl ?_
  obtain ⟨r1, μ2, hc3, hf⟩ := bn_some hf
  refine g_callVp (As := [vi (μ 15 0 3)]) (rest := []) C ⟨Nat.zero_le _, Nat.zero_le _⟩ dX7_countWays_5 cw_X7_rowsAhead m_3_44 m_3_45 m_3_46 in_15 (ec_15 _ _ _ _ _) rfl rfl (c_X7_rowsAhead  hc3) rfl rfl (Nat.le_of_ble_eq_true rfl) ⟨Nat.le_trans (Nat.le_of_ble_eq_true rfl) hfr, Nat.le_trans (Nat.le_of_ble_eq_true rfl) hlc⟩ ?_
  refine g_ald_n C 0 rfl rfl dX7_countWays_8 ?_
  refine g_get C dX7_countWays_9 fl_X7_28 in_15 (ec_15 _ _ _ _ _) rfl ?_
  refine g_ishl C dX7_countWays_12 ?_
  exact g_iret C rfl dX7_countWays_13 hf
set_option maxHeartbeats 4000000 in
set_option maxRecDepth 100000 in
theorem c_X7_countWays {l : Launch} {D : va_G} {Y : Nat → ClassId} {α : Adr}  {μ : Mem} {r : Int} {μ' : Mem}  (hf : f_X7_countWays μ = some (r, μ')) : Ctr l D Y LBx yX7_countWays cX7_countWays 1 (some .int) 1 23 0 0 [vr α 15 0] α μ (some (vi r)) (fun a => a = α) μ' := Ctr_of pn_X7 rfl rfl (Nat.le_of_ble_eq_true rfl) LBx_nd (fun p e s m below meth c sz C => b_X7_countWays C (Nat.le_refl _) (Nat.le_refl _)  hf)
end

/-! EndTeller$Work.forget -/
def f_X7_forget  (μ : Mem) : Option (Int × Mem) := some (0, (st (st (st (st μ 15 0 3 0) 15 0 4 0) 15 0 5 30) 15 0 6 (-1)))
section
variable {p : Program} {l : Launch} {e : Env} {R : Room} {s : State} {m : MethodId} {args : Array Value} {below : List Frame} {meth : Method} {c : Code} {D : va_G} {Y : Nat → ClassId} {α : Adr} {sz : Nat} {r : Int} {μ' : Mem}
set_option maxHeartbeats 4000000 in
set_option maxRecDepth 100000 in
theorem b_X7_forget  {μ : Mem} (C : CX p s m args meth c cX7_forget 1 RX7 none D Y LBx (Ar LBx α sz)) (hfr : 0 ≤ R.frames) (hlc : 0 ≤ R.locals)  (hf : f_X7_forget μ = some (r, μ')) : GG D Y LBx (Ar LBx α sz) p l e R s m args below meth c 1 (MQ below (Qcx D Y LBx α sz none (fun a => a = α) μ') args s 0 0 (Ar LBx α sz)) α 0 0 [(0, vr α 15 0)] [] μ 0 := by
  unfold f_X7_forget at hf
  refine g_ald_n C 0 rfl rfl dX7_forget_0 ?_
  refine g_iconst C dX7_forget_1 ?_
  refine g_puti C dX7_forget_2 fl_X7_24 in_15 (ec_15 _ _ _ _ _) (Nat.le_of_ble_eq_true rfl) rfl (by decide) ?_
  refine g_ald_n C 0 rfl rfl dX7_forget_5 ?_
  refine g_iconst C dX7_forget_6 ?_
  refine g_puti C dX7_forget_7 fl_X7_28 in_15 (ec_15 _ _ _ _ _) (Nat.le_of_ble_eq_true rfl) rfl (by decide) ?_
  refine g_ald_n C 0 rfl rfl dX7_forget_10 ?_
  refine g_bipush C rfl dX7_forget_11 ?_
  refine g_puti C dX7_forget_13 fl_X7_31 in_15 (ec_15 _ _ _ _ _) (Nat.le_of_ble_eq_true rfl) rfl (by decide) ?_
  refine g_ald_n C 0 rfl rfl dX7_forget_16 ?_
  refine g_iconst C dX7_forget_17 ?_
  refine g_puti C dX7_forget_18 fl_X7_34 in_15 (ec_15 _ _ _ _ _) (Nat.le_of_ble_eq_true rfl) rfl (by decide) ?_
  exact g_vret C rfl dX7_forget_21 hf
set_option maxHeartbeats 4000000 in
set_option maxRecDepth 100000 in
theorem c_X7_forget {l : Launch} {D : va_G} {Y : Nat → ClassId} {α : Adr}  {μ : Mem} {r : Int} {μ' : Mem}  (hf : f_X7_forget μ = some (r, μ')) : Ctr l D Y LBx yX7_forget cX7_forget 1 none 0 0 0 0 [vr α 15 0] α μ none (fun a => a = α) μ' := Ctr_of pn_X7 rfl rfl (Nat.le_of_ble_eq_true rfl) LBx_nd (fun p e s m below meth c sz C => b_X7_forget C (Nat.le_refl _) (Nat.le_refl _)  hf)
end

/-! EndTeller$Work.hasPart -/
def f_X7_hasPart (a1 : Int) (μ : Mem) : Option (Int × Mem) := (if w32 a1 < 0 then some (0, μ) else (if w32 (μ 15 0 3) ≤ w32 a1 then some (0, μ) else some (1, μ)))
section
variable {p : Program} {l : Launch} {e : Env} {R : Room} {s : State} {m : MethodId} {args : Array Value} {below : List Frame} {meth : Method} {c : Code} {D : va_G} {Y : Nat → ClassId} {α : Adr} {sz : Nat} {r : Int} {μ' : Mem}
set_option maxHeartbeats 4000000 in
set_option maxRecDepth 100000 in
theorem b_X7_hasPart {a1 : Int} {μ : Mem} (C : CX p s m args meth c cX7_hasPart 2 RX7 (some .boolean) D Y LBx (Ar LBx α sz)) (hfr : 0 ≤ R.frames) (hlc : 0 ≤ R.locals)  (hf : f_X7_hasPart a1 μ = some (r, μ')) : GG D Y LBx (Ar LBx α sz) p l e R s m args below meth c 2 (MQ below (Qcx D Y LBx α sz (some (vi r)) (fun a => a = α) μ') args s 0 0 (Ar LBx α sz)) α 0 0 [(0, vr α 15 0), (1, vi a1)] [] μ 0 := by
  unfold f_X7_hasPart at hf
  refine g_ild_n C 1 rfl rfl dX7_hasPart_0 ?_
  refine g_if_lt C 16 (by decide) dX7_hasPart_1 (fun h1 => ?_) (fun h1 => ?_)
  · rw [if_pos h1] at hf
    refine g_iconst C dX7_hasPart_16 ?_
    exact g_zret C rfl (Or.inl rfl) dX7_hasPart_17 hf
  · rw [if_neg h1] at hf
    refine g_ild_n C 1 rfl rfl dX7_hasPart_4 ?_
    refine g_ald_n C 0 rfl rfl dX7_hasPart_5 ?_
    refine g_get C dX7_hasPart_6 fl_X7_24 in_15 (ec_15 _ _ _ _ _) rfl ?_
    refine g_ic_ge C 16 (by decide) dX7_hasPart_9 (fun h2 => ?_) (fun h2 => ?_)
    · rw [if_pos h2] at hf
      refine g_iconst C dX7_hasPart_16 ?_
      exact g_zret C rfl (Or.inl rfl) dX7_hasPart_17 hf
    · rw [if_neg h2] at hf
      refine g_iconst C dX7_hasPart_12 ?_
      refine g_goto C 17 (by decide) dX7_hasPart_13 ?_
      exact g_zret C rfl (Or.inr rfl) dX7_hasPart_17 hf
set_option maxHeartbeats 4000000 in
set_option maxRecDepth 100000 in
theorem c_X7_hasPart {l : Launch} {D : va_G} {Y : Nat → ClassId} {α : Adr} {a1 : Int} {μ : Mem} {r : Int} {μ' : Mem}  (hf : f_X7_hasPart a1 μ = some (r, μ')) : Ctr l D Y LBx yX7_hasPart cX7_hasPart 2 (some .boolean) 0 0 0 0 [vr α 15 0, vi a1] α μ (some (vi r)) (fun a => a = α) μ' := Ctr_of pn_X7 rfl rfl (Nat.le_of_ble_eq_true rfl) LBx_nd (fun p e s m below meth c sz C => b_X7_hasPart C (Nat.le_refl _) (Nat.le_refl _)  hf)
end

/-! EndTeller$Work.addPart -/
def f_X7_addPart (a2 : Int) (μ : Mem) : Option (Int × Mem) := (if w32 10 ≤ w32 (μ 15 0 3) then some (0, μ) else gd (inb (μ 15 0 3) 10) (bn (f_X1_become (ix (μ 15 0 3)) a2 μ) (fun r3 μ4 => some (0, (st μ4 15 0 3 ((μ4 15 0 3) + 1))))))
section
variable {p : Program} {l : Launch} {e : Env} {R : Room} {s : State} {m : MethodId} {args : Array Value} {below : List Frame} {meth : Method} {c : Code} {D : va_G} {Y : Nat → ClassId} {α : Adr} {sz : Nat} {r : Int} {μ' : Mem}
set_option maxHeartbeats 4000000 in
set_option maxRecDepth 100000 in
theorem b_X7_addPart {a2 : Int} {μ : Mem} (C : CX p s m args meth c cX7_addPart 3 RX7 none D Y LBx (Ar LBx α sz)) (hfr : 2 ≤ R.frames) (hlc : 46 ≤ R.locals)  (hf : f_X7_addPart a2 μ = some (r, μ')) : GG D Y LBx (Ar LBx α sz) p l e R s m args below meth c 3 (MQ below (Qcx D Y LBx α sz none (fun a => a = α) μ') args s 0 0 (Ar LBx α sz)) α 0 0 [(0, vr α 15 0), (1, vr α 5 0), (2, vi a2)] [] μ 0 := by
  unfold f_X7_addPart at hf
  refine g_ald_n C 0 rfl rfl dX7_addPart_0 ?_
  refine g_get C dX7_addPart_1 fl_X7_24 in_15 (ec_15 _ _ _ _ _) rfl ?_
  refine g_bipush C rfl dX7_addPart_4 ?_
  refine g_ic_ge C 33 (by decide) dX7_addPart_6 (fun h1 => ?_) (fun h1 => ?_)
  · rw [if_pos h1] at hf
    exact g_vret C rfl dX7_addPart_33 hf
  · rw [if_neg h1] at hf
    refine g_ald_n C 0 rfl rfl dX7_addPart_9 ?_
    refine g_get C dX7_addPart_10 fl_X7_11 in_15 (ec_15 _ _ _ _ _) rfl ?_
    refine g_ald_n C 0 rfl rfl dX7_addPart_13 ?_
    refine g_get C dX7_addPart_14 fl_X7_24 in_15 (ec_15 _ _ _ _ _) rfl ?_
    obtain ⟨g2, hf⟩ := gd_some hf
    refine g_aaldI C dX7_addPart_17 in_16 (fun _ => ec_16 _ _ _ _ _) rfl g2 ?_
    refine g_ald_n C 1 rfl rfl dX7_addPart_18 ?_
    refine g_ild_n C 2 rfl rfl dX7_addPart_19 ?_
    obtain ⟨r3, μ4, hc5, hf⟩ := bn_some hf
    refine g_callVp (As := [vr α 5 0, vi a2]) (rest := []) C ⟨Nat.zero_le _, Nat.zero_le _⟩ dX7_addPart_20 cw_X1_become m_2_181 m_2_182 m_2_183 (in_17 (inb_ix g2)) (ec_17 _ _ _ _ _) rfl rfl (c_X1_become (inb_ix g2) hc5) rfl rfl (Nat.le_of_ble_eq_true rfl) ⟨Nat.le_trans (Nat.le_of_ble_eq_true rfl) hfr, Nat.le_trans (Nat.le_of_ble_eq_true rfl) hlc⟩ ?_
    refine g_ald_n C 0 rfl rfl dX7_addPart_23 ?_
    refine g_dup C rfl dX7_addPart_24 ?_
    refine g_get C dX7_addPart_25 fl_X7_24 in_15 (ec_15 _ _ _ _ _) rfl ?_
    refine g_iconst C dX7_addPart_28 ?_
    refine g_iadd C dX7_addPart_29 ?_
    refine g_puti C dX7_addPart_30 fl_X7_24 in_15 (ec_15 _ _ _ _ _) (Nat.le_of_ble_eq_true rfl) rfl (by decide) ?_
    exact g_vret C rfl dX7_addPart_33 hf
set_option maxHeartbeats 4000000 in
set_option maxRecDepth 100000 in
theorem c_X7_addPart {l : Launch} {D : va_G} {Y : Nat → ClassId} {α : Adr} {a2 : Int} {μ : Mem} {r : Int} {μ' : Mem}  (hf : f_X7_addPart a2 μ = some (r, μ')) : Ctr l D Y LBx yX7_addPart cX7_addPart 3 none 2 46 0 0 [vr α 15 0, vr α 5 0, vi a2] α μ none (fun a => a = α) μ' := Ctr_of pn_X7 rfl rfl (Nat.le_of_ble_eq_true rfl) LBx_nd (fun p e s m below meth c sz C => b_X7_addPart C (Nat.le_refl _) (Nat.le_refl _)  hf)
end

/-! EndTeller$Work.addCause -/
def f_X7_addCause (a1 : Int) (a2 : Int) (μ : Mem) : Option (Int × Mem) := (if w32 4 ≤ w32 (μ 15 0 4) then some (0, μ) else gd (inb (μ 15 0 4) 4) (gd (inb ((st μ 21 0 (ix (μ 15 0 4)) a1) 15 0 4) 4) (some (0, (st (st (st μ 21 0 (ix (μ 15 0 4)) a1) 22 0 (ix ((st μ 21 0 (ix (μ 15 0 4)) a1) 15 0 4)) a2) 15 0 4 (((st (st μ 21 0 (ix (μ 15 0 4)) a1) 22 0 (ix ((st μ 21 0 (ix (μ 15 0 4)) a1) 15 0 4)) a2) 15 0 4) + 1))))))
section
variable {p : Program} {l : Launch} {e : Env} {R : Room} {s : State} {m : MethodId} {args : Array Value} {below : List Frame} {meth : Method} {c : Code} {D : va_G} {Y : Nat → ClassId} {α : Adr} {sz : Nat} {r : Int} {μ' : Mem}
set_option maxHeartbeats 4000000 in
set_option maxRecDepth 100000 in
theorem b_X7_addCause {a1 : Int} {a2 : Int} {μ : Mem} (C : CX p s m args meth c cX7_addCause 3 RX7 none D Y LBx (Ar LBx α sz)) (hfr : 0 ≤ R.frames) (hlc : 0 ≤ R.locals)  (hf : f_X7_addCause a1 a2 μ = some (r, μ')) : GG D Y LBx (Ar LBx α sz) p l e R s m args below meth c 3 (MQ below (Qcx D Y LBx α sz none (fun a => a = α) μ') args s 0 0 (Ar LBx α sz)) α 0 0 [(0, vr α 15 0), (1, vi a1), (2, vi a2)] [] μ 0 := by
  unfold f_X7_addCause at hf
  refine g_ald_n C 0 rfl rfl dX7_addCause_0 ?_
  refine g_get C dX7_addCause_1 fl_X7_28 in_15 (ec_15 _ _ _ _ _) rfl ?_
  refine g_iconst C dX7_addCause_4 ?_
  refine g_ic_ge C 38 (by decide) dX7_addCause_5 (fun h1 => ?_) (fun h1 => ?_)
  · rw [if_pos h1] at hf
    exact g_vret C rfl dX7_addCause_38 hf
  · rw [if_neg h1] at hf
    refine g_ald_n C 0 rfl rfl dX7_addCause_8 ?_
    refine g_get C dX7_addCause_9 fl_X7_17 in_15 (ec_15 _ _ _ _ _) rfl ?_
    refine g_ald_n C 0 rfl rfl dX7_addCause_12 ?_
    refine g_get C dX7_addCause_13 fl_X7_28 in_15 (ec_15 _ _ _ _ _) rfl ?_
    refine g_ild_n C 1 rfl rfl dX7_addCause_16 ?_
    obtain ⟨g2, hf⟩ := gd_some hf
    refine g_iast C dX7_addCause_17 in_21 (fun _ => ec_21 _ _ _ _ _) (by decide) g2 ?_
    refine g_ald_n C 0 rfl rfl dX7_addCause_18 ?_
    refine g_get C dX7_addCause_19 fl_X7_21 in_15 (ec_15 _ _ _ _ _) rfl ?_
    refine g_ald_n C 0 rfl rfl dX7_addCause_22 ?_
    refine g_get C dX7_addCause_23 fl_X7_28 in_15 (ec_15 _ _ _ _ _) rfl ?_
    refine g_ild_n C 2 rfl rfl dX7_addCause_26 ?_
    obtain ⟨g3, hf⟩ := gd_some hf
    refine g_iast C dX7_addCause_27 in_22 (fun _ => ec_22 _ _ _ _ _) (by decide) g3 ?_
    refine g_ald_n C 0 rfl rfl dX7_addCause_28 ?_
    refine g_dup C rfl dX7_addCause_29 ?_
    refine g_get C dX7_addCause_30 fl_X7_28 in_15 (ec_15 _ _ _ _ _) rfl ?_
    refine g_iconst C dX7_addCause_33 ?_
    refine g_iadd C dX7_addCause_34 ?_
    refine g_puti C dX7_addCause_35 fl_X7_28 in_15 (ec_15 _ _ _ _ _) (Nat.le_of_ble_eq_true rfl) rfl (by decide) ?_
    exact g_vret C rfl dX7_addCause_38 hf
set_option maxHeartbeats 4000000 in
set_option maxRecDepth 100000 in
theorem c_X7_addCause {l : Launch} {D : va_G} {Y : Nat → ClassId} {α : Adr} {a1 : Int} {a2 : Int} {μ : Mem} {r : Int} {μ' : Mem}  (hf : f_X7_addCause a1 a2 μ = some (r, μ')) : Ctr l D Y LBx yX7_addCause cX7_addCause 3 none 0 0 0 0 [vr α 15 0, vi a1, vi a2] α μ none (fun a => a = α) μ' := Ctr_of pn_X7 rfl rfl (Nat.le_of_ble_eq_true rfl) LBx_nd (fun p e s m below meth c sz C => b_X7_addCause C (Nat.le_refl _) (Nat.le_refl _)  hf)
end

/-! EndTeller$Work.isStuck -/
def f_X7_isStuck_L2  : Nat → Int → Mem → Option (Int × Mem)
  | 0, _, _ => none
  | n + 1, x1, μ => (if w32 (μ 15 0 3) ≤ w32 x1 then some (0, μ) else gd (inb x1 10) ((if w32 (μ 17 (ix x1) 5) ≤ w32 (μ 15 0 5) then f_X7_isStuck_L2 n (x1 + 1) μ else some (1, μ))))
def f_X7_isStuck  (μ : Mem) : Option (Int × Mem) := f_X7_isStuck_L2 FU 0 μ
section
variable {p : Program} {l : Launch} {e : Env} {R : Room} {s : State} {m : MethodId} {args : Array Value} {below : List Frame} {meth : Method} {c : Code} {D : va_G} {Y : Nat → ClassId} {α : Adr} {sz : Nat} {r : Int} {μ' : Mem}
set_option maxHeartbeats 4000000 in
set_option maxRecDepth 100000 in
theorem c_X7_isStuck_l2  (C : CX p s m args meth c cX7_isStuck 2 RX7 (some .boolean) D Y LBx (Ar LBx α sz)) (hfr : 0 ≤ R.frames) (hlc : 0 ≤ R.locals)    : ∀ (n : Nat) (x1 : Int) (μ : Mem), f_X7_isStuck_L2 n x1 μ = some (r, μ') → GG D Y LBx (Ar LBx α sz) p l e R s m args below meth c 2 (MQ below (Qcx D Y LBx α sz (some (vi r)) (fun a => a = α) μ') args s 0 0 (Ar LBx α sz)) α 0 0 [(0, vr α 15 0), (1, vi x1)] [] μ 2 := by
  intro n
  induction n with
  | zero =>
    intro x1 μ hf
    exact nomatch (show (none : Option (Int × Mem)) = some _ from hf)
  | succ n ih =>
    intro x1 μ hf
    rw [f_X7_isStuck_L2.eq_2] at hf
    refine g_ild_n C 1 rfl rfl dX7_isStuck_2 ?_
    refine g_ald_n C 0 rfl rfl dX7_isStuck_3 ?_
    refine g_get C dX7_isStuck_4 fl_X7_24 in_15 (ec_15 _ _ _ _ _) rfl ?_
    refine g_ic_ge C 34 (by decide) dX7_isStuck_7 (fun h1 => ?_) (fun h1 => ?_)
    · rw [if_pos h1] at hf
      refine g_iconst C dX7_isStuck_34 ?_
      exact g_zret C rfl (Or.inl rfl) dX7_isStuck_35 hf
    · rw [if_neg h1] at hf
      refine g_ald_n C 0 rfl rfl dX7_isStuck_10 ?_
      refine g_get C dX7_isStuck_11 fl_X7_11 in_15 (ec_15 _ _ _ _ _) rfl ?_
      refine g_ild_n C 1 rfl rfl dX7_isStuck_14 ?_
      obtain ⟨g2, hf⟩ := gd_some hf
      refine g_aaldI C dX7_isStuck_15 in_16 (fun _ => ec_16 _ _ _ _ _) rfl g2 ?_
      refine g_get C dX7_isStuck_16 fl_X7_42 (in_17 (inb_ix g2)) (ec_17 _ _ _ _ _) rfl ?_
      refine g_ald_n C 0 rfl rfl dX7_isStuck_19 ?_
      refine g_get C dX7_isStuck_20 fl_X7_31 in_15 (ec_15 _ _ _ _ _) rfl ?_
      refine g_ic_le C 28 (by decide) dX7_isStuck_23 (fun h3 => ?_) (fun h3 => ?_)
      · rw [if_pos h3] at hf
        refine g_iinc (lo' := [(1, vi (x1 + 1)), (0, vr α 15 0)]) C 1 rfl (by decide) rfl dX7_isStuck_28 ?_
        refine g_goto C 2 (by decide) dX7_isStuck_31 ?_
        exact g_sub C [1, 0] rfl (ih _ _ hf)
      · rw [if_neg h3] at hf
        refine g_iconst C dX7_isStuck_26 ?_
        exact g_zret C rfl (Or.inr rfl) dX7_isStuck_27 hf
set_option maxHeartbeats 4000000 in
set_option maxRecDepth 100000 in
theorem b_X7_isStuck  {μ : Mem} (C : CX p s m args meth c cX7_isStuck 2 RX7 (some .boolean) D Y LBx (Ar LBx α sz)) (hfr : 0 ≤ R.frames) (hlc : 0 ≤ R.locals)  (hf : f_X7_isStuck μ = some (r, μ')) : GG D Y LBx (Ar LBx α sz) p l e R s m args below meth c 2 (MQ below (Qcx D Y LBx α sz (some (vi r)) (fun a => a = α) μ') args s 0 0 (Ar LBx α sz)) α 0 0 [(0, vr α 15 0)] [] μ 0 := by
  unfold f_X7_isStuck at hf
  refine g_iconst C dX7_isStuck_0 ?_
  refine g_ist_n (lo' := [(1, vi 0), (0, vr α 15 0)]) C rfl (by decide) rfl dX7_isStuck_1 ?_
  refine g_sub C [1, 0] rfl (c_X7_isStuck_l2 C hfr hlc   _ _ _ hf)
set_option maxHeartbeats 4000000 in
set_option maxRecDepth 100000 in
theorem c_X7_isStuck {l : Launch} {D : va_G} {Y : Nat → ClassId} {α : Adr}  {μ : Mem} {r : Int} {μ' : Mem}  (hf : f_X7_isStuck μ = some (r, μ')) : Ctr l D Y LBx yX7_isStuck cX7_isStuck 2 (some .boolean) 0 0 0 0 [vr α 15 0] α μ (some (vi r)) (fun a => a = α) μ' := Ctr_of pn_X7 rfl rfl (Nat.le_of_ble_eq_true rfl) LBx_nd (fun p e s m below meth c sz C => b_X7_isStuck C (Nat.le_refl _) (Nat.le_refl _)  hf)
end

/-! EndTeller$Work.isGreat -/
def f_X7_isGreat_L4 (k41 : Int → Mem → Option (Int × Mem)) : Nat → Int → Int → Mem → Option (Int × Mem)
  | 0, _, _, _ => none
  | n + 1, x1, x3, μ => (if w32 (μ 15 0 3) ≤ w32 x3 then k41 x1 μ else gd (inb x3 10) ((if w64 (x1 * (w32 (μ 17 (ix x3) 4))) ≤ w64 20000 then f_X7_isGreat_L4 k41 n (x1 * (w32 (μ 17 (ix x3) 4))) (x3 + 1) μ else some (1, μ))))
def f_X7_isGreat_L43 (k67 : Int → Mem → Option (Int × Mem)) : Nat → Int → Int → Mem → Option (Int × Mem)
  | 0, _, _, _ => none
  | n + 1, x1, x3, μ => (if w32 (μ 15 0 4) ≤ w32 x3 then k67 x1 μ else gd (inb x3 4) (f_X7_isGreat_L43 k67 n (x1 * (w32 (μ 22 0 (ix x3)))) (x3 + 1) μ))
def f_X7_isGreat  (μ : Mem) : Option (Int × Mem) := f_X7_isGreat_L4 (fun y5 μ4 => f_X7_isGreat_L43 (fun y9 μ8 => (if w64 y9 ≤ w64 20000 then some (0, μ8) else some (1, μ8))) FU y5 0 μ4) FU 1 0 μ
section
variable {p : Program} {l : Launch} {e : Env} {R : Room} {s : State} {m : MethodId} {args : Array Value} {below : List Frame} {meth : Method} {c : Code} {D : va_G} {Y : Nat → ClassId} {α : Adr} {sz : Nat} {r : Int} {μ' : Mem}
set_option maxHeartbeats 4000000 in
set_option maxRecDepth 100000 in
theorem c_X7_isGreat_l4 {k41 : Int → Mem → Option (Int × Mem)} (C : CX p s m args meth c cX7_isGreat 4 RX7 (some .boolean) D Y LBx (Ar LBx α sz)) (hfr : 0 ≤ R.frames) (hlc : 0 ≤ R.locals)  (hk41 : ∀ (y1 : Int) (μ : Mem), k41 y1 μ = some (r, μ') → GG D Y LBx (Ar LBx α sz) p l e R s m args below meth c 4 (MQ below (Qcx D Y LBx α sz (some (vi r)) (fun a => a = α) μ') args s 0 0 (Ar LBx α sz)) α 0 0 [(0, vr α 15 0), (1, vl y1)] [] μ 41)  : ∀ (n : Nat) (x1 x3 : Int) (μ : Mem), f_X7_isGreat_L4 k41 n x1 x3 μ = some (r, μ') → GG D Y LBx (Ar LBx α sz) p l e R s m args below meth c 4 (MQ below (Qcx D Y LBx α sz (some (vi r)) (fun a => a = α) μ') args s 0 0 (Ar LBx α sz)) α 0 0 [(0, vr α 15 0), (1, vl x1), (3, vi x3)] [] μ 4 := by
  intro n
  induction n with
  | zero =>
    intro x1 x3 μ hf
    exact nomatch (show (none : Option (Int × Mem)) = some _ from hf)
  | succ n ih =>
    intro x1 x3 μ hf
    rw [f_X7_isGreat_L4.eq_2] at hf
    refine g_ild_n C 2 rfl rfl dX7_isGreat_4 ?_
    refine g_ald_n C 0 rfl rfl dX7_isGreat_5 ?_
    refine g_get C dX7_isGreat_6 fl_X7_24 in_15 (ec_15 _ _ _ _ _) rfl ?_
    refine g_ic_ge C 41 (by decide) dX7_isGreat_9 (fun h1 => ?_) (fun h1 => ?_)
    · rw [if_pos h1] at hf
      exact g_sub C [0, 1] rfl (hk41 _ _ hf)
    · rw [if_neg h1] at hf
      refine g_lld_n C 1 rfl rfl dX7_isGreat_12 ?_
      refine g_ald_n C 0 rfl rfl dX7_isGreat_13 ?_
      refine g_get C dX7_isGreat_14 fl_X7_11 in_15 (ec_15 _ _ _ _ _) rfl ?_
      refine g_ild_n C 2 rfl rfl dX7_isGreat_17 ?_
      obtain ⟨g2, hf⟩ := gd_some hf
      refine g_aaldI C dX7_isGreat_18 in_16 (fun _ => ec_16 _ _ _ _ _) rfl g2 ?_
      refine g_get C dX7_isGreat_19 fl_X7_45 (in_17 (inb_ix g2)) (ec_17 _ _ _ _ _) rfl ?_
      refine g_i2l C dX7_isGreat_22 ?_
      refine g_lmul C dX7_isGreat_23 ?_
      refine g_lst_n (lo' := [(1, vl (x1 * (w32 (μ 17 (ix x3) 4)))), (0, vr α 15 0), (3, vi x3)]) C rfl (by decide) rfl dX7_isGreat_24 ?_
      refine g_lld_n C 0 rfl rfl dX7_isGreat_25 ?_
      refine g_ldc2 (x := 20000) C m_3_39 dX7_isGreat_26 ?_
      refine g_lc_le C 35 (by decide) dX7_isGreat_29 dX7_isGreat_30 (fun h3 => ?_) (fun h3 => ?_)
      · rw [if_pos h3] at hf
        refine g_iinc (lo' := [(3, vi (x3 + 1)), (1, vl (x1 * (w32 (μ 17 (ix x3) 4)))), (0, vr α 15 0)]) C 2 rfl (by decide) rfl dX7_isGreat_35 ?_
        refine g_goto C 4 (by decide) dX7_isGreat_38 ?_
        exact g_sub C [2, 1, 0] rfl (ih _ _ _ hf)
      · rw [if_neg h3] at hf
        refine g_iconst C dX7_isGreat_33 ?_
        exact g_zret C rfl (Or.inr rfl) dX7_isGreat_34 hf
set_option maxHeartbeats 4000000 in
set_option maxRecDepth 100000 in
theorem c_X7_isGreat_l43 {k67 : Int → Mem → Option (Int × Mem)} (C : CX p s m args meth c cX7_isGreat 4 RX7 (some .boolean) D Y LBx (Ar LBx α sz)) (hfr : 0 ≤ R.frames) (hlc : 0 ≤ R.locals)  (hk67 : ∀ (y1 : Int) (μ : Mem), k67 y1 μ = some (r, μ') → GG D Y LBx (Ar LBx α sz) p l e R s m args below meth c 4 (MQ below (Qcx D Y LBx α sz (some (vi r)) (fun a => a = α) μ') args s 0 0 (Ar LBx α sz)) α 0 0 [(1, vl y1)] [] μ 67)  : ∀ (n : Nat) (x1 x3 : Int) (μ : Mem), f_X7_isGreat_L43 k67 n x1 x3 μ = some (r, μ') → GG D Y LBx (Ar LBx α sz) p l e R s m args below meth c 4 (MQ below (Qcx D Y LBx α sz (some (vi r)) (fun a => a = α) μ') args s 0 0 (Ar LBx α sz)) α 0 0 [(0, vr α 15 0), (1, vl x1), (3, vi x3)] [] μ 43 := by
  intro n
  induction n with
  | zero =>
    intro x1 x3 μ hf
    exact nomatch (show (none : Option (Int × Mem)) = some _ from hf)
  | succ n ih =>
    intro x1 x3 μ hf
    rw [f_X7_isGreat_L43.eq_2] at hf
    refine g_ild_n C 2 rfl rfl dX7_isGreat_43 ?_
    refine g_ald_n C 0 rfl rfl dX7_isGreat_44 ?_
    refine g_get C dX7_isGreat_45 fl_X7_28 in_15 (ec_15 _ _ _ _ _) rfl ?_
    refine g_ic_ge C 67 (by decide) dX7_isGreat_48 (fun h6 => ?_) (fun h6 => ?_)
    · rw [if_pos h6] at hf
      exact g_sub C [1] rfl (hk67 _ _ hf)
    · rw [if_neg h6] at hf
      refine g_lld_n C 1 rfl rfl dX7_isGreat_51 ?_
      refine g_ald_n C 0 rfl rfl dX7_isGreat_52 ?_
      refine g_get C dX7_isGreat_53 fl_X7_21 in_15 (ec_15 _ _ _ _ _) rfl ?_
      refine g_ild_n C 2 rfl rfl dX7_isGreat_56 ?_
      obtain ⟨g7, hf⟩ := gd_some hf
      refine g_iald C dX7_isGreat_57 in_22 (fun _ => ec_22 _ _ _ _ _) g7 ?_
      refine g_i2l C dX7_isGreat_58 ?_
      refine g_lmul C dX7_isGreat_59 ?_
      refine g_lst_n (lo' := [(1, vl (x1 * (w32 (μ 22 0 (ix x3))))), (0, vr α 15 0), (3, vi x3)]) C rfl (by decide) rfl dX7_isGreat_60 ?_
      refine g_iinc (lo' := [(3, vi (x3 + 1)), (1, vl (x1 * (w32 (μ 22 0 (ix x3))))), (0, vr α 15 0)]) C 2 rfl (by decide) rfl dX7_isGreat_61 ?_
      refine g_goto C 43 (by decide) dX7_isGreat_64 ?_
      exact g_sub C [2, 1, 0] rfl (ih _ _ _ hf)
set_option maxHeartbeats 4000000 in
set_option maxRecDepth 100000 in
theorem b_X7_isGreat  {μ : Mem} (C : CX p s m args meth c cX7_isGreat 4 RX7 (some .boolean) D Y LBx (Ar LBx α sz)) (hfr : 0 ≤ R.frames) (hlc : 0 ≤ R.locals)  (hf : f_X7_isGreat μ = some (r, μ')) : GG D Y LBx (Ar LBx α sz) p l e R s m args below meth c 4 (MQ below (Qcx D Y LBx α sz (some (vi r)) (fun a => a = α) μ') args s 0 0 (Ar LBx α sz)) α 0 0 [(0, vr α 15 0)] [] μ 0 := by
  unfold f_X7_isGreat at hf
  refine g_lconst (x := 1) C rfl dX7_isGreat_0 ?_
  refine g_lst_n (lo' := [(1, vl 1), (0, vr α 15 0)]) C rfl (by decide) rfl dX7_isGreat_1 ?_
  refine g_iconst C dX7_isGreat_2 ?_
  refine g_ist_n (lo' := [(3, vi 0), (1, vl 1), (0, vr α 15 0)]) C rfl (by decide) rfl dX7_isGreat_3 ?_
  refine g_sub C [2, 1, 0] rfl (c_X7_isGreat_l4 C hfr hlc  (fun y5 μ4 hf => ?_) _ _ _ _ hf)
  refine g_iconst C dX7_isGreat_41 ?_
  refine g_ist_n (lo' := [(3, vi 0), (0, vr α 15 0), (1, vl y5)]) C rfl (by decide) rfl dX7_isGreat_42 ?_
  refine g_sub C [1, 2, 0] rfl (c_X7_isGreat_l43 C hfr hlc  (fun y9 μ8 hf => ?_) _ _ _ _ hf)
  refine g_lld_n C 0 rfl rfl dX7_isGreat_67 ?_
  refine g_ldc2 (x := 20000) C m_3_39 dX7_isGreat_68 ?_
  refine g_lc_le C 79 (by decide) dX7_isGreat_71 dX7_isGreat_72 (fun h10 => ?_) (fun h10 => ?_)
  · rw [if_pos h10] at hf
    refine g_iconst C dX7_isGreat_79 ?_
    exact g_zret C rfl (Or.inl rfl) dX7_isGreat_80 hf
  · rw [if_neg h10] at hf
    refine g_iconst C dX7_isGreat_75 ?_
    refine g_goto C 80 (by decide) dX7_isGreat_76 ?_
    exact g_zret C rfl (Or.inr rfl) dX7_isGreat_80 hf
set_option maxHeartbeats 4000000 in
set_option maxRecDepth 100000 in
theorem c_X7_isGreat {l : Launch} {D : va_G} {Y : Nat → ClassId} {α : Adr}  {μ : Mem} {r : Int} {μ' : Mem}  (hf : f_X7_isGreat μ = some (r, μ')) : Ctr l D Y LBx yX7_isGreat cX7_isGreat 4 (some .boolean) 0 0 0 0 [vr α 15 0] α μ (some (vi r)) (fun a => a = α) μ' := Ctr_of pn_X7 rfl rfl (Nat.le_of_ble_eq_true rfl) LBx_nd (fun p e s m below meth c sz C => b_X7_isGreat C (Nat.le_refl _) (Nat.le_refl _)  hf)
end
