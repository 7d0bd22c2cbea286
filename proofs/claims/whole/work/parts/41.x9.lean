/-! EndTellerModel.fixed -/
def f_X9_fixed (a1 : Int) (a2 : Int) (μ : Mem) : Option (Int × Mem) := (if w32 a1 < 0 then bn (f_X9_refuse 5 (st (st μ 30 0 1 0) 30 0 0 0)) (fun r2 μ3 => some (r2, μ3)) else (if w32 99 < w32 a1 then bn (f_X9_refuse 5 (st (st μ 30 0 1 0) 30 0 0 0)) (fun r6 μ7 => some (r6, μ7)) else bn (f_X9_areHands a2 (st (st μ 30 0 1 0) 30 0 0 0)) (fun r9 μ10 => (if w32 r9 = 0 then bn (f_X9_refuse 5 μ10) (fun r13 μ14 => some (r13, μ14)) else bn (f_X9_clearMade  μ10) (fun r16 μ17 => gd (inb a1 300) (bn (f_X9_adds a2 (st μ17 43 0 (ix a1) 1)) (fun r20 μ21 => some (r20, μ21))))))))
section
variable {p : Program} {l : Launch} {e : Env} {R : Room} {s : State} {m : MethodId} {args : Array Value} {below : List Frame} {meth : Method} {c : Code} {D : va_G} {Y : Nat → ClassId} {α : Adr} {sz : Nat} {r : Int} {μ' : Mem}
set_option maxHeartbeats 4000000 in
set_option maxRecDepth 100000 in
theorem b_X9_fixed {a1 : Int} {a2 : Int} {μ : Mem} (C : CX p s m args meth c cX9_fixed 3 RX9 (some .int) D Y LBm (Ar LBm α sz)) (hfr : 2 ≤ R.frames) (hlc : 55 ≤ R.locals)  (hf : f_X9_fixed a1 a2 μ = some (r, μ')) : GG D Y LBm (Ar LBm α sz) p l e R s m args below meth c 3 (MQ below (Qcx D Y LBm α sz (some (vi r)) (fun a => a = α) μ') args s 0 0 (Ar LBm α sz)) α 0 0 [(0, vr α 30 0), (1, vi a1), (2, vi a2)] [] μ 0 := by
  unfold f_X9_fixed at hf
  refine g_ald_n C 0 rfl rfl dX9_fixed_0 ?_
  refine g_iconst C dX9_fixed_1 ?_
  refine g_puti C dX9_fixed_2 fl_X9_95 in_30 (ec_30 _ _ _ _ _) (Nat.le_of_ble_eq_true rfl) rfl (by decide) ?_
  refine g_ald_n C 0 rfl rfl dX9_fixed_5 ?_
  refine g_iconst C dX9_fixed_6 ?_
  refine g_puti C dX9_fixed_7 fl_X9_98 in_30 (ec_30 _ _ _ _ _) (Nat.le_of_ble_eq_true rfl) rfl (by decide) ?_
  refine g_ild_n C 1 rfl rfl dX9_fixed_10 ?_
  refine g_if_lt C 27 (by decide) dX9_fixed_11 (fun h1 => ?_) (fun h1 => ?_)
  · rw [if_pos h1] at hf
    refine g_ald_n C 0 rfl rfl dX9_fixed_27 ?_
    refine g_iconst C dX9_fixed_28 ?_
    obtain ⟨r2, μ3, hc4, hf⟩ := bn_some hf
    refine g_callVp (As := [vi 5]) (rest := []) C ⟨Nat.zero_le _, Nat.zero_le _⟩ dX9_fixed_29 cw_X9_refuse m_4_164 m_4_166 m_0_11 in_30 (ec_30 _ _ _ _ _) rfl rfl (c_X9_refuse  hc4) rfl rfl (Nat.le_of_ble_eq_true rfl) ⟨Nat.le_trans (Nat.le_of_ble_eq_true rfl) hfr, Nat.le_trans (Nat.le_of_ble_eq_true rfl) hlc⟩ ?_
    exact g_iret C rfl dX9_fixed_32 hf
  · rw [if_neg h1] at hf
    refine g_ild_n C 1 rfl rfl dX9_fixed_14 ?_
    refine g_bipush C rfl dX9_fixed_15 ?_
    refine g_ic_gt C 27 (by decide) dX9_fixed_17 (fun h5 => ?_) (fun h5 => ?_)
    · rw [if_pos h5] at hf
      refine g_ald_n C 0 rfl rfl dX9_fixed_27 ?_
      refine g_iconst C dX9_fixed_28 ?_
      obtain ⟨r6, μ7, hc8, hf⟩ := bn_some hf
      refine g_callVp (As := [vi 5]) (rest := []) C ⟨Nat.zero_le _, Nat.zero_le _⟩ dX9_fixed_29 cw_X9_refuse m_4_164 m_4_166 m_0_11 in_30 (ec_30 _ _ _ _ _) rfl rfl (c_X9_refuse  hc8) rfl rfl (Nat.le_of_ble_eq_true rfl) ⟨Nat.le_trans (Nat.le_of_ble_eq_true rfl) hfr, Nat.le_trans (Nat.le_of_ble_eq_true rfl) hlc⟩ ?_
      exact g_iret C rfl dX9_fixed_32 hf
    · rw [if_neg h5] at hf
      refine g_ild_n C 2 rfl rfl dX9_fixed_20 ?_
      obtain ⟨r9, μ10, hc11, hf⟩ := bn_some hf
      refine g_callSp (As := [vi a2]) (rest := []) C ⟨Nat.zero_le _, Nat.zero_le _⟩ dX9_fixed_21 cw_X9_areHands m_4_161 m_4_162 (c_X9_areHands  hc11) rfl rfl (Nat.le_of_ble_eq_true rfl) ⟨Nat.le_trans (Nat.le_of_ble_eq_true rfl) hfr, Nat.le_trans (Nat.le_of_ble_eq_true rfl) hlc⟩ ?_
      refine g_if_ne C 33 (by decide) dX9_fixed_24 (fun h12 => ?_) (fun h12 => ?_)
      · rw [if_pos h12] at hf
        refine g_ald_n C 0 rfl rfl dX9_fixed_27 ?_
        refine g_iconst C dX9_fixed_28 ?_
        obtain ⟨r13, μ14, hc15, hf⟩ := bn_some hf
        refine g_callVp (As := [vi 5]) (rest := []) C ⟨Nat.zero_le _, Nat.zero_le _⟩ dX9_fixed_29 cw_X9_refuse m_4_164 m_4_166 m_0_11 in_30 (ec_30 _ _ _ _ _) rfl rfl (c_X9_refuse  hc15) rfl rfl (Nat.le_of_ble_eq_true rfl) ⟨Nat.le_trans (Nat.le_of_ble_eq_true rfl) hfr, Nat.le_trans (Nat.le_of_ble_eq_true rfl) hlc⟩ ?_
        exact g_iret C rfl dX9_fixed_32 hf
      · rw [if_neg h12] at hf
        refine g_ald_n C 0 rfl rfl dX9_fixed_33 ?_
        obtain ⟨r16, μ17, hc18, hf⟩ := bn_some hf
        refine g_callVp (As := []) (rest := []) C ⟨Nat.zero_le _, Nat.zero_le _⟩ dX9_fixed_34 cw_X9_clearMade m_4_168 m_4_170 m_0_12 in_30 (ec_30 _ _ _ _ _) rfl rfl (c_X9_clearMade  hc18) rfl rfl (Nat.le_of_ble_eq_true rfl) ⟨Nat.le_trans (Nat.le_of_ble_eq_true rfl) hfr, Nat.le_trans (Nat.le_of_ble_eq_true rfl) hlc⟩ ?_
        refine g_ald_n C 0 rfl rfl dX9_fixed_37 ?_
        refine g_get C dX9_fixed_38 fl_X9_58 in_30 (ec_30 _ _ _ _ _) rfl ?_
        refine g_ild_n C 1 rfl rfl dX9_fixed_41 ?_
        refine g_lconst (x := 1) C rfl dX9_fixed_42 ?_
        obtain ⟨g19, hf⟩ := gd_some hf
        refine g_last C dX9_fixed_43 in_43 (fun _ => ec_43 _ _ _ _ _) (by decide) g19 ?_
        refine g_ald_n C 0 rfl rfl dX9_fixed_44 ?_
        refine g_ild_n C 2 rfl rfl dX9_fixed_45 ?_
        obtain ⟨r20, μ21, hc22, hf⟩ := bn_some hf
        refine g_callVp (As := [vi a2]) (rest := []) C ⟨Nat.zero_le _, Nat.zero_le _⟩ dX9_fixed_46 cw_X9_adds m_4_174 m_4_176 m_0_13 in_30 (ec_30 _ _ _ _ _) rfl rfl (c_X9_adds  hc22) rfl rfl (Nat.le_of_ble_eq_true rfl) ⟨Nat.le_trans (Nat.le_of_ble_eq_true rfl) hfr, Nat.le_trans (Nat.le_of_ble_eq_true rfl) hlc⟩ ?_
        exact g_iret C rfl dX9_fixed_49 hf
set_option maxHeartbeats 4000000 in
set_option maxRecDepth 100000 in
theorem c_X9_fixed {l : Launch} {D : va_G} {Y : Nat → ClassId} {α : Adr} {a1 : Int} {a2 : Int} {μ : Mem} {r : Int} {μ' : Mem}  (hf : f_X9_fixed a1 a2 μ = some (r, μ')) : Ctr l D Y LBm yX9_fixed cX9_fixed 3 (some .int) 2 55 0 0 [vr α 30 0, vi a1, vi a2] α μ (some (vi r)) (fun a => a = α) μ' := Ctr_of pn_X9 rfl rfl (Nat.le_of_ble_eq_true rfl) LBm_nd (fun p e s m below meth c sz C => b_X9_fixed C (Nat.le_refl _) (Nat.le_refl _)  hf)
end

/-! EndTellerModel.isPart -/
def f_X9_isPart (a1 : Int) (μ : Mem) : Option (Int × Mem) := (if w32 a1 < 0 then some (0, μ) else (if w32 (μ 30 0 7) ≤ w32 a1 then some (0, μ) else some (1, μ)))
section
variable {p : Program} {l : Launch} {e : Env} {R : Room} {s : State} {m : MethodId} {args : Array Value} {below : List Frame} {meth : Method} {c : Code} {D : va_G} {Y : Nat → ClassId} {α : Adr} {sz : Nat} {r : Int} {μ' : Mem}
set_option maxHeartbeats 4000000 in
set_option maxRecDepth 100000 in
theorem b_X9_isPart {a1 : Int} {μ : Mem} (C : CX p s m args meth c cX9_isPart 2 RX9 (some .boolean) D Y LBm (Ar LBm α sz)) (hfr : 0 ≤ R.frames) (hlc : 0 ≤ R.locals)  (hf : f_X9_isPart a1 μ = some (r, μ')) : GG D Y LBm (Ar LBm α sz) p l e R s m args below meth c 2 (MQ below (Qcx D Y LBm α sz (some (vi r)) (fun a => a = α) μ') args s 0 0 (Ar LBm α sz)) α 0 0 [(0, vr α 30 0), (1, vi a1)] [] μ 0 := by
  unfold f_X9_isPart at hf
  refine g_ild_n C 1 rfl rfl dX9_isPart_0 ?_
  refine g_if_lt C 16 (by decide) dX9_isPart_1 (fun h1 => ?_) (fun h1 => ?_)
  · rw [if_pos h1] at hf
    refine g_iconst C dX9_isPart_16 ?_
    exact g_zret C rfl (Or.inl rfl) dX9_isPart_17 hf
  · rw [if_neg h1] at hf
    refine g_ild_n C 1 rfl rfl dX9_isPart_4 ?_
    refine g_ald_n C 0 rfl rfl dX9_isPart_5 ?_
    refine g_get C dX9_isPart_6 fl_X9_119 in_30 (ec_30 _ _ _ _ _) rfl ?_
    refine g_ic_ge C 16 (by decide) dX9_isPart_9 (fun h2 => ?_) (fun h2 => ?_)
    · rw [if_pos h2] at hf
      refine g_iconst C dX9_isPart_16 ?_
      exact g_zret C rfl (Or.inl rfl) dX9_isPart_17 hf
    · rw [if_neg h2] at hf
      refine g_iconst C dX9_isPart_12 ?_
      refine g_goto C 17 (by decide) dX9_isPart_13 ?_
      exact g_zret C rfl (Or.inr rfl) dX9_isPart_17 hf
set_option maxHeartbeats 4000000 in
set_option maxRecDepth 100000 in
theorem c_X9_isPart {l : Launch} {D : va_G} {Y : Nat → ClassId} {α : Adr} {a1 : Int} {μ : Mem} {r : Int} {μ' : Mem}  (hf : f_X9_isPart a1 μ = some (r, μ')) : Ctr l D Y LBm yX9_isPart cX9_isPart 2 (some .boolean) 0 0 0 0 [vr α 30 0, vi a1] α μ (some (vi r)) (fun a => a = α) μ' := Ctr_of pn_X9 rfl rfl (Nat.le_of_ble_eq_true rfl) LBm_nd (fun p e s m below meth c sz C => b_X9_isPart C (Nat.le_refl _) (Nat.le_refl _)  hf)
end

/-! EndTellerModel.sumOf -/
def f_X9_sumOf_L4 (x1 : Int) : Nat → Int → Int → Mem → Option (Int × Mem)
  | 0, _, _, _ => none
  | n + 1, x2, x3, μ => gd (inb x1 10) ((if w32 (μ 34 0 (ix x1)) ≤ w32 x3 then some (x2, μ) else gd (inb ((8 * x1) + x3) 80) (f_X9_sumOf_L4 x1 n (x2 + (μ 39 0 (ix ((8 * x1) + x3)))) (x3 + 1) μ)))
def f_X9_sumOf (a1 : Int) (μ : Mem) : Option (Int × Mem) := f_X9_sumOf_L4 a1 FU 0 0 μ
section
variable {p : Program} {l : Launch} {e : Env} {R : Room} {s : State} {m : MethodId} {args : Array Value} {below : List Frame} {meth : Method} {c : Code} {D : va_G} {Y : Nat → ClassId} {α : Adr} {sz : Nat} {r : Int} {μ' : Mem}
set_option maxHeartbeats 4000000 in
set_option maxRecDepth 100000 in
theorem c_X9_sumOf_l4 {x1 : Int} (C : CX p s m args meth c cX9_sumOf 4 RX9 (some .int) D Y LBm (Ar LBm α sz)) (hfr : 0 ≤ R.frames) (hlc : 0 ≤ R.locals)    : ∀ (n : Nat) (x2 x3 : Int) (μ : Mem), f_X9_sumOf_L4 x1 n x2 x3 μ = some (r, μ') → GG D Y LBm (Ar LBm α sz) p l e R s m args below meth c 4 (MQ below (Qcx D Y LBm α sz (some (vi r)) (fun a => a = α) μ') args s 0 0 (Ar LBm α sz)) α 0 0 [(0, vr α 30 0), (1, vi x1), (2, vi x2), (3, vi x3)] [] μ 4 := by
  intro n
  induction n with
  | zero =>
    intro x2 x3 μ hf
    exact nomatch (show (none : Option (Int × Mem)) = some _ from hf)
  | succ n ih =>
    intro x2 x3 μ hf
    rw [f_X9_sumOf_L4.eq_2] at hf
    refine g_ild_n C 3 rfl rfl dX9_sumOf_4 ?_
    refine g_ald_n C 0 rfl rfl dX9_sumOf_5 ?_
    refine g_get C dX9_sumOf_6 fl_X9_31 in_30 (ec_30 _ _ _ _ _) rfl ?_
    refine g_ild_n C 1 rfl rfl dX9_sumOf_9 ?_
    obtain ⟨g1, hf⟩ := gd_some hf
    refine g_iald C dX9_sumOf_10 in_34 (fun _ => ec_34 _ _ _ _ _) g1 ?_
    refine g_ic_ge C 34 (by decide) dX9_sumOf_11 (fun h2 => ?_) (fun h2 => ?_)
    · rw [if_pos h2] at hf
      refine g_ild_n C 2 rfl rfl dX9_sumOf_34 ?_
      exact g_iret C rfl dX9_sumOf_35 hf
    · rw [if_neg h2] at hf
      refine g_ild_n C 2 rfl rfl dX9_sumOf_14 ?_
      refine g_ald_n C 0 rfl rfl dX9_sumOf_15 ?_
      refine g_get C dX9_sumOf_16 fl_X9_46 in_30 (ec_30 _ _ _ _ _) rfl ?_
      refine g_bipush C rfl dX9_sumOf_19 ?_
      refine g_ild_n C 1 rfl rfl dX9_sumOf_21 ?_
      refine g_imul C dX9_sumOf_22 ?_
      refine g_ild_n C 3 rfl rfl dX9_sumOf_23 ?_
      refine g_iadd C dX9_sumOf_24 ?_
      obtain ⟨g3, hf⟩ := gd_some hf
      refine g_iald C dX9_sumOf_25 in_39 (fun _ => ec_39 _ _ _ _ _) g3 ?_
      refine g_iadd C dX9_sumOf_26 ?_
      refine g_ist_n (lo' := [(2, vi (x2 + (μ 39 0 (ix ((8 * x1) + x3))))), (0, vr α 30 0), (1, vi x1), (3, vi x3)]) C rfl (by decide) rfl dX9_sumOf_27 ?_
      refine g_iinc (lo' := [(3, vi (x3 + 1)), (2, vi (x2 + (μ 39 0 (ix ((8 * x1) + x3))))), (0, vr α 30 0), (1, vi x1)]) C 3 rfl (by decide) rfl dX9_sumOf_28 ?_
      refine g_goto C 4 (by decide) dX9_sumOf_31 ?_
      exact g_sub C [2, 3, 1, 0] rfl (ih _ _ _ hf)
set_option maxHeartbeats 4000000 in
set_option maxRecDepth 100000 in
theorem b_X9_sumOf {a1 : Int} {μ : Mem} (C : CX p s m args meth c cX9_sumOf 4 RX9 (some .int) D Y LBm (Ar LBm α sz)) (hfr : 0 ≤ R.frames) (hlc : 0 ≤ R.locals)  (hf : f_X9_sumOf a1 μ = some (r, μ')) : GG D Y LBm (Ar LBm α sz) p l e R s m args below meth c 4 (MQ below (Qcx D Y LBm α sz (some (vi r)) (fun a => a = α) μ') args s 0 0 (Ar LBm α sz)) α 0 0 [(0, vr α 30 0), (1, vi a1)] [] μ 0 := by
  unfold f_X9_sumOf at hf
  refine g_iconst C dX9_sumOf_0 ?_
  refine g_ist_n (lo' := [(2, vi 0), (0, vr α 30 0), (1, vi a1)]) C rfl (by decide) rfl dX9_sumOf_1 ?_
  refine g_iconst C dX9_sumOf_2 ?_
  refine g_ist_n (lo' := [(3, vi 0), (2, vi 0), (0, vr α 30 0), (1, vi a1)]) C rfl (by decide) rfl dX9_sumOf_3 ?_
  refine g_sub C [2, 3, 1, 0] rfl (c_X9_sumOf_l4 C hfr hlc   _ _ _ _ hf)
set_option maxHeartbeats 4000000 in
set_option maxRecDepth 100000 in
theorem c_X9_sumOf {l : Launch} {D : va_G} {Y : Nat → ClassId} {α : Adr} {a1 : Int} {μ : Mem} {r : Int} {μ' : Mem}  (hf : f_X9_sumOf a1 μ = some (r, μ')) : Ctr l D Y LBm yX9_sumOf cX9_sumOf 4 (some .int) 0 0 0 0 [vr α 30 0, vi a1] α μ (some (vi r)) (fun a => a = α) μ' := Ctr_of pn_X9 rfl rfl (Nat.le_of_ble_eq_true rfl) LBm_nd (fun p e s m below meth c sz C => b_X9_sumOf C (Nat.le_refl _) (Nat.le_refl _)  hf)
end

/-! EndTellerModel.either -/
def f_X9_either_L77 (x1 : Int) (x2 : Int) (x3 : Int) (x4 : Int) (x5 : Int) (k137 : Mem → Option (Int × Mem)) : Nat → Int → Mem → Option (Int × Mem)
  | 0, _, _ => none
  | n + 1, x6, μ => gd (inb x1 10) ((if w32 (μ 34 0 (ix x1)) ≤ w32 x6 then k137  μ else gd (inb ((8 * x1) + x6) 80) (gd (inb (μ 38 0 (ix ((8 * x1) + x6))) 300) (gd (inb ((8 * x1) + x6) 80) (bn (f_X9_sumOf x2 μ) (fun r46 μ47 => gd (inb (μ 38 0 (ix ((8 * x1) + x6))) 300) (f_X9_either_L77 x1 x2 x3 x4 x5 k137 n (x6 + 1) (st μ47 43 0 (ix (μ 38 0 (ix ((8 * x1) + x6)))) ((μ 43 0 (ix (μ 38 0 (ix ((8 * x1) + x6))))) + (((w32 x3) * (w32 (μ 39 0 (ix ((8 * x1) + x6))))) * (w32 r46)))))))))))
def f_X9_either_L140 (x1 : Int) (x2 : Int) (x4 : Int) (x5 : Int) : Nat → Int → Mem → Option (Int × Mem)
  | 0, _, _ => none
  | n + 1, x6, μ => gd (inb x2 10) ((if w32 (μ 34 0 (ix x2)) ≤ w32 x6 then bn (f_X9_adds x5 μ) (fun r53 μ54 => some (r53, μ54)) else gd (inb ((8 * x2) + x6) 80) (gd (inb (μ 38 0 (ix ((8 * x2) + x6))) 300) (gd (inb ((8 * x2) + x6) 80) (bn (f_X9_sumOf x1 μ) (fun r59 μ60 => gd (inb (μ 38 0 (ix ((8 * x2) + x6))) 300) (f_X9_either_L140 x1 x2 x4 x5 n (x6 + 1) (st μ60 43 0 (ix (μ 38 0 (ix ((8 * x2) + x6)))) ((μ 43 0 (ix (μ 38 0 (ix ((8 * x2) + x6))))) + (((w32 x4) * (w32 (μ 39 0 (ix ((8 * x2) + x6))))) * (w32 r59)))))))))))
def f_X9_either (a1 : Int) (a2 : Int) (a3 : Int) (a4 : Int) (a5 : Int) (μ : Mem) : Option (Int × Mem) := bn (f_X9_isPart a1 (st (st μ 30 0 1 0) 30 0 0 0)) (fun r1 μ2 => (if w32 r1 = 0 then bn (f_X9_refuse 2 μ2) (fun r5 μ6 => some (r5, μ6)) else bn (f_X9_isPart a2 μ2) (fun r8 μ9 => (if w32 r8 = 0 then bn (f_X9_refuse 2 μ9) (fun r12 μ13 => some (r12, μ13)) else (if w32 a3 < w32 1 then bn (f_X9_refuse 5 μ9) (fun r16 μ17 => some (r16, μ17)) else (if w32 99 < w32 a3 then bn (f_X9_refuse 5 μ9) (fun r20 μ21 => some (r20, μ21)) else (if w32 a4 < w32 1 then bn (f_X9_refuse 5 μ9) (fun r24 μ25 => some (r24, μ25)) else (if w32 99 < w32 a4 then bn (f_X9_refuse 5 μ9) (fun r28 μ29 => some (r28, μ29)) else bn (f_X9_areHands a5 μ9) (fun r31 μ32 => (if w32 r31 = 0 then bn (f_X9_refuse 5 μ32) (fun r35 μ36 => some (r35, μ36)) else bn (f_X9_clearMade  μ32) (fun r38 μ39 => f_X9_either_L77 a1 a2 a3 a4 a5 (fun μ50 => f_X9_either_L140 a1 a2 a4 a5 FU 0 μ50) FU 0 μ39)))))))))))
section
variable {p : Program} {l : Launch} {e : Env} {R : Room} {s : State} {m : MethodId} {args : Array Value} {below : List Frame} {meth : Method} {c : Code} {D : va_G} {Y : Nat → ClassId} {α : Adr} {sz : Nat} {r : Int} {μ' : Mem}
set_option maxHeartbeats 4000000 in
set_option maxRecDepth 100000 in
theorem c_X9_either_l77 {x1 : Int} {x2 : Int} {x3 : Int} {x4 : Int} {x5 : Int} {k137 : Mem → Option (Int × Mem)} (C : CX p s m args meth c cX9_either 7 RX9 (some .int) D Y LBm (Ar LBm α sz)) (hfr : 2 ≤ R.frames) (hlc : 55 ≤ R.locals)  (hk137 : ∀ (μ : Mem), k137 μ = some (r, μ') → GG D Y LBm (Ar LBm α sz) p l e R s m args below meth c 7 (MQ below (Qcx D Y LBm α sz (some (vi r)) (fun a => a = α) μ') args s 0 0 (Ar LBm α sz)) α 0 0 [(0, vr α 30 0), (1, vi x1), (2, vi x2), (4, vi x4), (5, vi x5)] [] μ 137)  : ∀ (n : Nat) (x6 : Int) (μ : Mem), f_X9_either_L77 x1 x2 x3 x4 x5 k137 n x6 μ = some (r, μ') → GG D Y LBm (Ar LBm α sz) p l e R s m args below meth c 7 (MQ below (Qcx D Y LBm α sz (some (vi r)) (fun a => a = α) μ') args s 0 0 (Ar LBm α sz)) α 0 0 [(0, vr α 30 0), (1, vi x1), (2, vi x2), (3, vi x3), (4, vi x4), (5, vi x5), (6, vi x6)] [] μ 77 := by
  intro n
  induction n with
  | zero =>
    intro x6 μ hf
    exact nomatch (show (none : Option (Int × Mem)) = some _ from hf)
  | succ n ih =>
    intro x6 μ hf
    rw [f_X9_either_L77.eq_2] at hf
    refine g_ild C 6 rfl dX9_either_77 ?_
    refine g_ald_n C 0 rfl rfl dX9_either_79 ?_
    refine g_get C dX9_either_80 fl_X9_31 in_30 (ec_30 _ _ _ _ _) rfl ?_
    refine g_ild_n C 1 rfl rfl dX9_either_83 ?_
    obtain ⟨g41, hf⟩ := gd_some hf
    refine g_iald C dX9_either_84 in_34 (fun _ => ec_34 _ _ _ _ _) g41 ?_
    refine g_ic_ge C 137 (by decide) dX9_either_85 (fun h42 => ?_) (fun h42 => ?_)
    · rw [if_pos h42] at hf
      exact g_sub C [0, 1, 2, 4, 5] rfl (hk137 _ hf)
    · rw [if_neg h42] at hf
      refine g_ald_n C 0 rfl rfl dX9_either_88 ?_
      refine g_get C dX9_either_89 fl_X9_58 in_30 (ec_30 _ _ _ _ _) rfl ?_
      refine g_ald_n C 0 rfl rfl dX9_either_92 ?_
      refine g_get C dX9_either_93 fl_X9_43 in_30 (ec_30 _ _ _ _ _) rfl ?_
      refine g_bipush C rfl dX9_either_96 ?_
      refine g_ild_n C 1 rfl rfl dX9_either_98 ?_
      refine g_imul C dX9_either_99 ?_
      refine g_ild C 6 rfl dX9_either_100 ?_
      refine g_iadd C dX9_either_102 ?_
      obtain ⟨g43, hf⟩ := gd_some hf
      refine g_iald C dX9_either_103 in_38 (fun _ => ec_38 _ _ _ _ _) g43 ?_
      refine g_dup2 C rfl rfl dX9_either_104 ?_
      obtain ⟨g44, hf⟩ := gd_some hf
      refine g_lald C dX9_either_105 in_43 (fun _ => ec_43 _ _ _ _ _) g44 ?_
      refine g_ild_n C 3 rfl rfl dX9_either_106 ?_
      refine g_i2l C dX9_either_107 ?_
      refine g_ald_n C 0 rfl rfl dX9_either_108 ?_
      refine g_get C dX9_either_109 fl_X9_46 in_30 (ec_30 _ _ _ _ _) rfl ?_
      refine g_bipush C rfl dX9_either_112 ?_
      refine g_ild_n C 1 rfl rfl dX9_either_114 ?_
      refine g_imul C dX9_either_115 ?_
      refine g_ild C 6 rfl dX9_either_116 ?_
      refine g_iadd C dX9_either_118 ?_
      obtain ⟨g45, hf⟩ := gd_some hf
      refine g_iald C dX9_either_119 in_39 (fun _ => ec_39 _ _ _ _ _) g45 ?_
      refine g_i2l C dX9_either_120 ?_
      refine g_lmul C dX9_either_121 ?_
      refine g_ald_n C 0 rfl rfl dX9_either_122 ?_
      refine g_ild_n C 2 rfl rfl dX9_either_123 ?_
      obtain ⟨r46, μ47, hc48, hf⟩ := bn_some hf
      refine g_callVp (As := [vi x2]) (rest := [vl ((w32 x3) * (w32 (μ 39 0 (ix ((8 * x1) + x6))))), vl (μ 43 0 (ix (μ 38 0 (ix ((8 * x1) + x6))))), vi (μ 38 0 (ix ((8 * x1) + x6))), vr α 43 0]) C ⟨Nat.zero_le _, Nat.zero_le _⟩ dX9_either_124 cw_X9_sumOf m_4_193 m_4_195 m_0_15 in_30 (ec_30 _ _ _ _ _) rfl rfl (c_X9_sumOf  hc48) rfl rfl (Nat.le_of_ble_eq_true rfl) ⟨Nat.le_trans (Nat.le_of_ble_eq_true rfl) hfr, Nat.le_trans (Nat.le_of_ble_eq_true rfl) hlc⟩ ?_
      refine g_i2l C dX9_either_127 ?_
      refine g_lmul C dX9_either_128 ?_
      refine g_ladd C dX9_either_129 ?_
      obtain ⟨g49, hf⟩ := gd_some hf
      refine g_last C dX9_either_130 in_43 (fun _ => ec_43 _ _ _ _ _) (by decide) g49 ?_
      refine g_iinc (lo' := [(6, vi (x6 + 1)), (0, vr α 30 0), (1, vi x1), (2, vi x2), (3, vi x3), (4, vi x4), (5, vi x5)]) C 6 rfl (by decide) rfl dX9_either_131 ?_
      refine g_goto C 77 (by decide) dX9_either_134 ?_
      exact g_sub C [1, 2, 3, 4, 5, 6, 0] rfl (ih _ _ hf)
set_option maxHeartbeats 4000000 in
set_option maxRecDepth 100000 in
theorem c_X9_either_l140 {x1 : Int} {x2 : Int} {x4 : Int} {x5 : Int} (C : CX p s m args meth c cX9_either 7 RX9 (some .int) D Y LBm (Ar LBm α sz)) (hfr : 2 ≤ R.frames) (hlc : 55 ≤ R.locals)    : ∀ (n : Nat) (x6 : Int) (μ : Mem), f_X9_either_L140 x1 x2 x4 x5 n x6 μ = some (r, μ') → GG D Y LBm (Ar LBm α sz) p l e R s m args below meth c 7 (MQ below (Qcx D Y LBm α sz (some (vi r)) (fun a => a = α) μ') args s 0 0 (Ar LBm α sz)) α 0 0 [(0, vr α 30 0), (1, vi x1), (2, vi x2), (4, vi x4), (5, vi x5), (6, vi x6)] [] μ 140 := by
  intro n
  induction n with
  | zero =>
    intro x6 μ hf
    exact nomatch (show (none : Option (Int × Mem)) = some _ from hf)
  | succ n ih =>
    intro x6 μ hf
    rw [f_X9_either_L140.eq_2] at hf
    refine g_ild C 5 rfl dX9_either_140 ?_
    refine g_ald_n C 0 rfl rfl dX9_either_142 ?_
    refine g_get C dX9_either_143 fl_X9_31 in_30 (ec_30 _ _ _ _ _) rfl ?_
    refine g_ild_n C 2 rfl rfl dX9_either_146 ?_
    obtain ⟨g51, hf⟩ := gd_some hf
    refine g_iald C dX9_either_147 in_34 (fun _ => ec_34 _ _ _ _ _) g51 ?_
    refine g_ic_ge C 201 (by decide) dX9_either_148 (fun h52 => ?_) (fun h52 => ?_)
    · rw [if_pos h52] at hf
      refine g_ald_n C 0 rfl rfl dX9_either_201 ?_
      refine g_ild C 4 rfl dX9_either_202 ?_
      obtain ⟨r53, μ54, hc55, hf⟩ := bn_some hf
      refine g_callVp (As := [vi x5]) (rest := []) C ⟨Nat.zero_le _, Nat.zero_le _⟩ dX9_either_204 cw_X9_adds m_4_174 m_4_176 m_0_13 in_30 (ec_30 _ _ _ _ _) rfl rfl (c_X9_adds  hc55) rfl rfl (Nat.le_of_ble_eq_true rfl) ⟨Nat.le_trans (Nat.le_of_ble_eq_true rfl) hfr, Nat.le_trans (Nat.le_of_ble_eq_true rfl) hlc⟩ ?_
      exact g_iret C rfl dX9_either_207 hf
    · rw [if_neg h52] at hf
      refine g_ald_n C 0 rfl rfl dX9_either_151 ?_
      refine g_get C dX9_either_152 fl_X9_58 in_30 (ec_30 _ _ _ _ _) rfl ?_
      refine g_ald_n C 0 rfl rfl dX9_either_155 ?_
      refine g_get C dX9_either_156 fl_X9_43 in_30 (ec_30 _ _ _ _ _) rfl ?_
      refine g_bipush C rfl dX9_either_159 ?_
      refine g_ild_n C 2 rfl rfl dX9_either_161 ?_
      refine g_imul C dX9_either_162 ?_
      refine g_ild C 5 rfl dX9_either_163 ?_
      refine g_iadd C dX9_either_165 ?_
      obtain ⟨g56, hf⟩ := gd_some hf
      refine g_iald C dX9_either_166 in_38 (fun _ => ec_38 _ _ _ _ _) g56 ?_
      refine g_dup2 C rfl rfl dX9_either_167 ?_
      obtain ⟨g57, hf⟩ := gd_some hf
      refine g_lald C dX9_either_168 in_43 (fun _ => ec_43 _ _ _ _ _) g57 ?_
      refine g_ild C 3 rfl dX9_either_169 ?_
      refine g_i2l C dX9_either_171 ?_
      refine g_ald_n C 0 rfl rfl dX9_either_172 ?_
      refine g_get C dX9_either_173 fl_X9_46 in_30 (ec_30 _ _ _ _ _) rfl ?_
      refine g_bipush C rfl dX9_either_176 ?_
      refine g_ild_n C 2 rfl rfl dX9_either_178 ?_
      refine g_imul C dX9_either_179 ?_
      refine g_ild C 5 rfl dX9_either_180 ?_
      refine g_iadd C dX9_either_182 ?_
      obtain ⟨g58, hf⟩ := gd_some hf
      refine g_iald C dX9_either_183 in_39 (fun _ => ec_39 _ _ _ _ _) g58 ?_
      refine g_i2l C dX9_either_184 ?_
      refine g_lmul C dX9_either_185 ?_
      refine g_ald_n C 0 rfl rfl dX9_either_186 ?_
      refine g_ild_n C 1 rfl rfl dX9_either_187 ?_
      obtain ⟨r59, μ60, hc61, hf⟩ := bn_some hf
      refine g_callVp (As := [vi x1]) (rest := [vl ((w32 x4) * (w32 (μ 39 0 (ix ((8 * x2) + x6))))), vl (μ 43 0 (ix (μ 38 0 (ix ((8 * x2) + x6))))), vi (μ 38 0 (ix ((8 * x2) + x6))), vr α 43 0]) C ⟨Nat.zero_le _, Nat.zero_le _⟩ dX9_either_188 cw_X9_sumOf m_4_193 m_4_195 m_0_15 in_30 (ec_30 _ _ _ _ _) rfl rfl (c_X9_sumOf  hc61) rfl rfl (Nat.le_of_ble_eq_true rfl) ⟨Nat.le_trans (Nat.le_of_ble_eq_true rfl) hfr, Nat.le_trans (Nat.le_of_ble_eq_true rfl) hlc⟩ ?_
      refine g_i2l C dX9_either_191 ?_
      refine g_lmul C dX9_either_192 ?_
      refine g_ladd C dX9_either_193 ?_
      obtain ⟨g62, hf⟩ := gd_some hf
      refine g_last C dX9_either_194 in_43 (fun _ => ec_43 _ _ _ _ _) (by decide) g62 ?_
      refine g_iinc (lo' := [(6, vi (x6 + 1)), (0, vr α 30 0), (1, vi x1), (2, vi x2), (4, vi x4), (5, vi x5)]) C 5 rfl (by decide) rfl dX9_either_195 ?_
      refine g_goto C 140 (by decide) dX9_either_198 ?_
      exact g_sub C [1, 2, 3, 4, 5, 0] rfl (ih _ _ hf)
set_option maxHeartbeats 4000000 in
set_option maxRecDepth 100000 in
theorem b_X9_either {a1 : Int} {a2 : Int} {a3 : Int} {a4 : Int} {a5 : Int} {μ : Mem} (C : CX p s m args meth c cX9_either 7 RX9 (some .int) D Y LBm (Ar LBm α sz)) (hfr : 2 ≤ R.frames) (hlc : 55 ≤ R.locals)  (hf : f_X9_either a1 a2 a3 a4 a5 μ = some (r, μ')) : GG D Y LBm (Ar LBm α sz) p l e R s m args below meth c 7 (MQ below (Qcx D Y LBm α sz (some (vi r)) (fun a => a = α) μ') args s 0 0 (Ar LBm α sz)) α 0 0 [(0, vr α 30 0), (1, vi a1), (2, vi a2), (3, vi a3), (4, vi a4), (5, vi a5)] [] μ 0 := by
  unfold f_X9_either at hf
  refine g_ald_n C 0 rfl rfl dX9_either_0 ?_
  refine g_iconst C dX9_either_1 ?_
  refine g_puti C dX9_either_2 fl_X9_95 in_30 (ec_30 _ _ _ _ _) (Nat.le_of_ble_eq_true rfl) rfl (by decide) ?_
  refine g_ald_n C 0 rfl rfl dX9_either_5 ?_
  refine g_iconst C dX9_either_6 ?_
  refine g_puti C dX9_either_7 fl_X9_98 in_30 (ec_30 _ _ _ _ _) (Nat.le_of_ble_eq_true rfl) rfl (by decide) ?_
  refine g_ald_n C 0 rfl rfl dX9_either_10 ?_
  refine g_ild_n C 1 rfl rfl dX9_either_11 ?_
  obtain ⟨r1, μ2, hc3, hf⟩ := bn_some hf
  refine g_callVp (As := [vi a1]) (rest := []) C ⟨Nat.zero_le _, Nat.zero_le _⟩ dX9_either_12 cw_X9_isPart m_4_189 m_4_191 m_0_14 in_30 (ec_30 _ _ _ _ _) rfl rfl (c_X9_isPart  hc3) rfl rfl (Nat.le_of_ble_eq_true rfl) ⟨Nat.le_trans (Nat.le_of_ble_eq_true rfl) hfr, Nat.le_trans (Nat.le_of_ble_eq_true rfl) hlc⟩ ?_
  refine g_if_eq C 26 (by decide) dX9_either_15 (fun h4 => ?_) (fun h4 => ?_)
  · rw [if_pos h4] at hf
    refine g_ald_n C 0 rfl rfl dX9_either_26 ?_
    refine g_iconst C dX9_either_27 ?_
    obtain ⟨r5, μ6, hc7, hf⟩ := bn_some hf
    refine g_callVp (As := [vi 2]) (rest := []) C ⟨Nat.zero_le _, Nat.zero_le _⟩ dX9_either_28 cw_X9_refuse m_4_164 m_4_166 m_0_11 in_30 (ec_30 _ _ _ _ _) rfl rfl (c_X9_refuse  hc7) rfl rfl (Nat.le_of_ble_eq_true rfl) ⟨Nat.le_trans (Nat.le_of_ble_eq_true rfl) hfr, Nat.le_trans (Nat.le_of_ble_eq_true rfl) hlc⟩ ?_
    exact g_iret C rfl dX9_either_31 hf
  · rw [if_neg h4] at hf
    refine g_ald_n C 0 rfl rfl dX9_either_18 ?_
    refine g_ild_n C 2 rfl rfl dX9_either_19 ?_
    obtain ⟨r8, μ9, hc10, hf⟩ := bn_some hf
    refine g_callVp (As := [vi a2]) (rest := []) C ⟨Nat.zero_le _, Nat.zero_le _⟩ dX9_either_20 cw_X9_isPart m_4_189 m_4_191 m_0_14 in_30 (ec_30 _ _ _ _ _) rfl rfl (c_X9_isPart  hc10) rfl rfl (Nat.le_of_ble_eq_true rfl) ⟨Nat.le_trans (Nat.le_of_ble_eq_true rfl) hfr, Nat.le_trans (Nat.le_of_ble_eq_true rfl) hlc⟩ ?_
    refine g_if_ne C 32 (by decide) dX9_either_23 (fun h11 => ?_) (fun h11 => ?_)
    · rw [if_pos h11] at hf
      refine g_ald_n C 0 rfl rfl dX9_either_26 ?_
      refine g_iconst C dX9_either_27 ?_
      obtain ⟨r12, μ13, hc14, hf⟩ := bn_some hf
      refine g_callVp (As := [vi 2]) (rest := []) C ⟨Nat.zero_le _, Nat.zero_le _⟩ dX9_either_28 cw_X9_refuse m_4_164 m_4_166 m_0_11 in_30 (ec_30 _ _ _ _ _) rfl rfl (c_X9_refuse  hc14) rfl rfl (Nat.le_of_ble_eq_true rfl) ⟨Nat.le_trans (Nat.le_of_ble_eq_true rfl) hfr, Nat.le_trans (Nat.le_of_ble_eq_true rfl) hlc⟩ ?_
      exact g_iret C rfl dX9_either_31 hf
    · rw [if_neg h11] at hf
      refine g_ild_n C 3 rfl rfl dX9_either_32 ?_
      refine g_iconst C dX9_either_33 ?_
      refine g_ic_lt C 64 (by decide) dX9_either_34 (fun h15 => ?_) (fun h15 => ?_)
      · rw [if_pos h15] at hf
        refine g_ald_n C 0 rfl rfl dX9_either_64 ?_
        refine g_iconst C dX9_either_65 ?_
        obtain ⟨r16, μ17, hc18, hf⟩ := bn_some hf
        refine g_callVp (As := [vi 5]) (rest := []) C ⟨Nat.zero_le _, Nat.zero_le _⟩ dX9_either_66 cw_X9_refuse m_4_164 m_4_166 m_0_11 in_30 (ec_30 _ _ _ _ _) rfl rfl (c_X9_refuse  hc18) rfl rfl (Nat.le_of_ble_eq_true rfl) ⟨Nat.le_trans (Nat.le_of_ble_eq_true rfl) hfr, Nat.le_trans (Nat.le_of_ble_eq_true rfl) hlc⟩ ?_
        exact g_iret C rfl dX9_either_69 hf
      · rw [if_neg h15] at hf
        refine g_ild_n C 3 rfl rfl dX9_either_37 ?_
        refine g_bipush C rfl dX9_either_38 ?_
        refine g_ic_gt C 64 (by decide) dX9_either_40 (fun h19 => ?_) (fun h19 => ?_)
        · rw [if_pos h19] at hf
          refine g_ald_n C 0 rfl rfl dX9_either_64 ?_
          refine g_iconst C dX9_either_65 ?_
          obtain ⟨r20, μ21, hc22, hf⟩ := bn_some hf
          refine g_callVp (As := [vi 5]) (rest := []) C ⟨Nat.zero_le _, Nat.zero_le _⟩ dX9_either_66 cw_X9_refuse m_4_164 m_4_166 m_0_11 in_30 (ec_30 _ _ _ _ _) rfl rfl (c_X9_refuse  hc22) rfl rfl (Nat.le_of_ble_eq_true rfl) ⟨Nat.le_trans (Nat.le_of_ble_eq_true rfl) hfr, Nat.le_trans (Nat.le_of_ble_eq_true rfl) hlc⟩ ?_
          exact g_iret C rfl dX9_either_69 hf
        · rw [if_neg h19] at hf
          refine g_ild C 4 rfl dX9_either_43 ?_
          refine g_iconst C dX9_either_45 ?_
          refine g_ic_lt C 64 (by decide) dX9_either_46 (fun h23 => ?_) (fun h23 => ?_)
          · rw [if_pos h23] at hf
            refine g_ald_n C 0 rfl rfl dX9_either_64 ?_
            refine g_iconst C dX9_either_65 ?_
            obtain ⟨r24, μ25, hc26, hf⟩ := bn_some hf
            refine g_callVp (As := [vi 5]) (rest := []) C ⟨Nat.zero_le _, Nat.zero_le _⟩ dX9_either_66 cw_X9_refuse m_4_164 m_4_166 m_0_11 in_30 (ec_30 _ _ _ _ _) rfl rfl (c_X9_refuse  hc26) rfl rfl (Nat.le_of_ble_eq_true rfl) ⟨Nat.le_trans (Nat.le_of_ble_eq_true rfl) hfr, Nat.le_trans (Nat.le_of_ble_eq_true rfl) hlc⟩ ?_
            exact g_iret C rfl dX9_either_69 hf
          · rw [if_neg h23] at hf
            refine g_ild C 4 rfl dX9_either_49 ?_
            refine g_bipush C rfl dX9_either_51 ?_
            refine g_ic_gt C 64 (by decide) dX9_either_53 (fun h27 => ?_) (fun h27 => ?_)
            · rw [if_pos h27] at hf
              refine g_ald_n C 0 rfl rfl dX9_either_64 ?_
              refine g_iconst C dX9_either_65 ?_
              obtain ⟨r28, μ29, hc30, hf⟩ := bn_some hf
              refine g_callVp (As := [vi 5]) (rest := []) C ⟨Nat.zero_le _, Nat.zero_le _⟩ dX9_either_66 cw_X9_refuse m_4_164 m_4_166 m_0_11 in_30 (ec_30 _ _ _ _ _) rfl rfl (c_X9_refuse  hc30) rfl rfl (Nat.le_of_ble_eq_true rfl) ⟨Nat.le_trans (Nat.le_of_ble_eq_true rfl) hfr, Nat.le_trans (Nat.le_of_ble_eq_true rfl) hlc⟩ ?_
              exact g_iret C rfl dX9_either_69 hf
            · rw [if_neg h27] at hf
              refine g_ild C 5 rfl dX9_either_56 ?_
              obtain ⟨r31, μ32, hc33, hf⟩ := bn_some hf
              refine g_callSp (As := [vi a5]) (rest := []) C ⟨Nat.zero_le _, Nat.zero_le _⟩ dX9_either_58 cw_X9_areHands m_4_161 m_4_162 (c_X9_areHands  hc33) rfl rfl (Nat.le_of_ble_eq_true rfl) ⟨Nat.le_trans (Nat.le_of_ble_eq_true rfl) hfr, Nat.le_trans (Nat.le_of_ble_eq_true rfl) hlc⟩ ?_
              refine g_if_ne C 70 (by decide) dX9_either_61 (fun h34 => ?_) (fun h34 => ?_)
              · rw [if_pos h34] at hf
                refine g_ald_n C 0 rfl rfl dX9_either_64 ?_
                refine g_iconst C dX9_either_65 ?_
                obtain ⟨r35, μ36, hc37, hf⟩ := bn_some hf
                refine g_callVp (As := [vi 5]) (rest := []) C ⟨Nat.zero_le _, Nat.zero_le _⟩ dX9_either_66 cw_X9_refuse m_4_164 m_4_166 m_0_11 in_30 (ec_30 _ _ _ _ _) rfl rfl (c_X9_refuse  hc37) rfl rfl (Nat.le_of_ble_eq_true rfl) ⟨Nat.le_trans (Nat.le_of_ble_eq_true rfl) hfr, Nat.le_trans (Nat.le_of_ble_eq_true rfl) hlc⟩ ?_
                exact g_iret C rfl dX9_either_69 hf
              · rw [if_neg h34] at hf
                refine g_ald_n C 0 rfl rfl dX9_either_70 ?_
                obtain ⟨r38, μ39, hc40, hf⟩ := bn_some hf
                refine g_callVp (As := []) (rest := []) C ⟨Nat.zero_le _, Nat.zero_le _⟩ dX9_either_71 cw_X9_clearMade m_4_168 m_4_170 m_0_12 in_30 (ec_30 _ _ _ _ _) rfl rfl (c_X9_clearMade  hc40) rfl rfl (Nat.le_of_ble_eq_true rfl) ⟨Nat.le_trans (Nat.le_of_ble_eq_true rfl) hfr, Nat.le_trans (Nat.le_of_ble_eq_true rfl) hlc⟩ ?_
                refine g_iconst C dX9_either_74 ?_
                refine g_ist (lo' := [(6, vi 0), (0, vr α 30 0), (1, vi a1), (2, vi a2), (3, vi a3), (4, vi a4), (5, vi a5)]) C (by decide) rfl dX9_either_75 ?_
                refine g_sub C [1, 2, 3, 4, 5, 6, 0] rfl (c_X9_either_l77 C hfr hlc  (fun μ50 hf => ?_) _ _ _ hf)
                refine g_iconst C dX9_either_137 ?_
                refine g_ist (lo' := [(6, vi 0), (0, vr α 30 0), (1, vi a1), (2, vi a2), (4, vi a4), (5, vi a5)]) C (by decide) rfl dX9_either_138 ?_
                refine g_sub C [1, 2, 3, 4, 5, 0] rfl (c_X9_either_l140 C hfr hlc   _ _ _ hf)
set_option maxHeartbeats 4000000 in
set_option maxRecDepth 100000 in
theorem c_X9_either {l : Launch} {D : va_G} {Y : Nat → ClassId} {α : Adr} {a1 : Int} {a2 : Int} {a3 : Int} {a4 : Int} {a5 : Int} {μ : Mem} {r : Int} {μ' : Mem}  (hf : f_X9_either a1 a2 a3 a4 a5 μ = some (r, μ')) : Ctr l D Y LBm yX9_either cX9_either 7 (some .int) 2 55 0 0 [vr α 30 0, vi a1, vi a2, vi a3, vi a4, vi a5] α μ (some (vi r)) (fun a => a = α) μ' := Ctr_of pn_X9 rfl rfl (Nat.le_of_ble_eq_true rfl) LBm_nd (fun p e s m below meth c sz C => b_X9_either C (Nat.le_refl _) (Nat.le_refl _)  hf)
end

/-! EndTellerModel.again -/
def f_X9_again_L124 (x1 : Int) (x2 : Int) (x3 : Int) (x4 : Int) (x5 : Int) (x6 : Int) (k194 : Mem → Option (Int × Mem)) : Nat → Int → Mem → Option (Int × Mem)
  | 0, _, _ => none
  | n + 1, x7, μ => gd (inb x1 10) ((if w32 (μ 34 0 (ix x1)) ≤ w32 x7 then k194  μ else gd (inb x6 80) (gd (inb ((8 * x1) + x7) 80) (gd (inb ((μ 38 0 (ix x6)) + (μ 38 0 (ix ((8 * x1) + x7)))) 300) (gd (inb x6 80) (gd (inb ((8 * x1) + x7) 80) (gd (inb ((μ 38 0 (ix x6)) + (μ 38 0 (ix ((8 * x1) + x7)))) 300) (f_X9_again_L124 x1 x2 x3 x4 x5 x6 k194 n (x7 + 1) (st μ 43 0 (ix ((μ 38 0 (ix x6)) + (μ 38 0 (ix ((8 * x1) + x7))))) ((μ 43 0 (ix ((μ 38 0 (ix x6)) + (μ 38 0 (ix ((8 * x1) + x7)))))) + (((w32 x2) * (w32 (μ 39 0 (ix x6)))) * (w32 (μ 39 0 (ix ((8 * x1) + x7)))))))))))))))
def f_X9_again_L66 (x1 : Int) (x2 : Int) (x3 : Int) (x4 : Int) : Nat → Int → Mem → Option (Int × Mem)
  | 0, _, _ => none
  | n + 1, x5, μ => gd (inb x1 10) ((if w32 (μ 34 0 (ix x1)) ≤ w32 x5 then bn (f_X9_adds x4 μ) (fun r36 μ37 => some (r36, μ37)) else gd (inb ((8 * x1) + x5) 80) (gd (inb (μ 38 0 (ix ((8 * x1) + x5))) 300) (gd (inb ((8 * x1) + x5) 80) (bn (f_X9_sumOf x1 μ) (fun r42 μ43 => gd (inb (μ 38 0 (ix ((8 * x1) + x5))) 300) (f_X9_again_L124 x1 x2 x3 x4 x5 ((8 * x1) + x5) (fun μ54 => f_X9_again_L66 x1 x2 x3 x4 n (x5 + 1) μ54) FU 0 (st μ43 43 0 (ix (μ 38 0 (ix ((8 * x1) + x5)))) ((μ 43 0 (ix (μ 38 0 (ix ((8 * x1) + x5))))) + (((w32 (x3 - x2)) * (w32 (μ 39 0 (ix ((8 * x1) + x5))))) * (w32 r42)))))))))))
def f_X9_again (a1 : Int) (a2 : Int) (a3 : Int) (a4 : Int) (μ : Mem) : Option (Int × Mem) := bn (f_X9_isPart a1 (st (st μ 30 0 1 0) 30 0 0 0)) (fun r1 μ2 => (if w32 r1 = 0 then bn (f_X9_refuse 2 μ2) (fun r5 μ6 => some (r5, μ6)) else (if w32 a3 < w32 2 then bn (f_X9_refuse 5 μ2) (fun r9 μ10 => some (r9, μ10)) else (if w32 99 < w32 a3 then bn (f_X9_refuse 5 μ2) (fun r13 μ14 => some (r13, μ14)) else (if w32 a2 < w32 1 then bn (f_X9_refuse 5 μ2) (fun r17 μ18 => some (r17, μ18)) else (if w32 a3 ≤ w32 a2 then bn (f_X9_refuse 5 μ2) (fun r21 μ22 => some (r21, μ22)) else bn (f_X9_areHands a4 μ2) (fun r24 μ25 => (if w32 r24 = 0 then bn (f_X9_refuse 5 μ25) (fun r28 μ29 => some (r28, μ29)) else bn (f_X9_clearMade  μ25) (fun r31 μ32 => f_X9_again_L66 a1 a2 a3 a4 FU 0 μ32)))))))))
section
variable {p : Program} {l : Launch} {e : Env} {R : Room} {s : State} {m : MethodId} {args : Array Value} {below : List Frame} {meth : Method} {c : Code} {D : va_G} {Y : Nat → ClassId} {α : Adr} {sz : Nat} {r : Int} {μ' : Mem}
set_option maxHeartbeats 4000000 in
set_option maxRecDepth 100000 in
theorem c_X9_again_l124 {x1 : Int} {x2 : Int} {x3 : Int} {x4 : Int} {x5 : Int} {x6 : Int} {k194 : Mem → Option (Int × Mem)} (C : CX p s m args meth c cX9_again 8 RX9 (some .int) D Y LBm (Ar LBm α sz)) (hfr : 2 ≤ R.frames) (hlc : 55 ≤ R.locals)  (hk194 : ∀ (μ : Mem), k194 μ = some (r, μ') → GG D Y LBm (Ar LBm α sz) p l e R s m args below meth c 8 (MQ below (Qcx D Y LBm α sz (some (vi r)) (fun a => a = α) μ') args s 0 0 (Ar LBm α sz)) α 0 0 [(0, vr α 30 0), (1, vi x1), (2, vi x2), (3, vi x3), (4, vi x4), (5, vi x5)] [] μ 194)  : ∀ (n : Nat) (x7 : Int) (μ : Mem), f_X9_again_L124 x1 x2 x3 x4 x5 x6 k194 n x7 μ = some (r, μ') → GG D Y LBm (Ar LBm α sz) p l e R s m args below meth c 8 (MQ below (Qcx D Y LBm α sz (some (vi r)) (fun a => a = α) μ') args s 0 0 (Ar LBm α sz)) α 0 0 [(0, vr α 30 0), (1, vi x1), (2, vi x2), (3, vi x3), (4, vi x4), (5, vi x5), (6, vi x6), (7, vi x7)] [] μ 124 := by
  intro n
  induction n with
  | zero =>
    intro x7 μ hf
    exact nomatch (show (none : Option (Int × Mem)) = some _ from hf)
  | succ n ih =>
    intro x7 μ hf
    rw [f_X9_again_L124.eq_2] at hf
    refine g_ild C 7 rfl dX9_again_124 ?_
    refine g_ald_n C 0 rfl rfl dX9_again_126 ?_
    refine g_get C dX9_again_127 fl_X9_31 in_30 (ec_30 _ _ _ _ _) rfl ?_
    refine g_ild_n C 1 rfl rfl dX9_again_130 ?_
    obtain ⟨g46, hf⟩ := gd_some hf
    refine g_iald C dX9_again_131 in_34 (fun _ => ec_34 _ _ _ _ _) g46 ?_
    refine g_ic_ge C 194 (by decide) dX9_again_132 (fun h47 => ?_) (fun h47 => ?_)
    · rw [if_pos h47] at hf
      exact g_sub C [0, 1, 2, 3, 4, 5] rfl (hk194 _ hf)
    · rw [if_neg h47] at hf
      refine g_ald_n C 0 rfl rfl dX9_again_135 ?_
      refine g_get C dX9_again_136 fl_X9_58 in_30 (ec_30 _ _ _ _ _) rfl ?_
      refine g_ald_n C 0 rfl rfl dX9_again_139 ?_
      refine g_get C dX9_again_140 fl_X9_43 in_30 (ec_30 _ _ _ _ _) rfl ?_
      refine g_ild C 6 rfl dX9_again_143 ?_
      obtain ⟨g48, hf⟩ := gd_some hf
      refine g_iald C dX9_again_145 in_38 (fun _ => ec_38 _ _ _ _ _) g48 ?_
      refine g_ald_n C 0 rfl rfl dX9_again_146 ?_
      refine g_get C dX9_again_147 fl_X9_43 in_30 (ec_30 _ _ _ _ _) rfl ?_
      refine g_bipush C rfl dX9_again_150 ?_
      refine g_ild_n C 1 rfl rfl dX9_again_152 ?_
      refine g_imul C dX9_again_153 ?_
      refine g_ild C 7 rfl dX9_again_154 ?_
      refine g_iadd C dX9_again_156 ?_
      obtain ⟨g49, hf⟩ := gd_some hf
      refine g_iald C dX9_again_157 in_38 (fun _ => ec_38 _ _ _ _ _) g49 ?_
      refine g_iadd C dX9_again_158 ?_
      refine g_dup2 C rfl rfl dX9_again_159 ?_
      obtain ⟨g50, hf⟩ := gd_some hf
      refine g_lald C dX9_again_160 in_43 (fun _ => ec_43 _ _ _ _ _) g50 ?_
      refine g_ild_n C 2 rfl rfl dX9_again_161 ?_
      refine g_i2l C dX9_again_162 ?_
      refine g_ald_n C 0 rfl rfl dX9_again_163 ?_
      refine g_get C dX9_again_164 fl_X9_46 in_30 (ec_30 _ _ _ _ _) rfl ?_
      refine g_ild C 6 rfl dX9_again_167 ?_
      obtain ⟨g51, hf⟩ := gd_some hf
      refine g_iald C dX9_again_169 in_39 (fun _ => ec_39 _ _ _ _ _) g51 ?_
      refine g_i2l C dX9_again_170 ?_
      refine g_lmul C dX9_again_171 ?_
      refine g_ald_n C 0 rfl rfl dX9_again_172 ?_
      refine g_get C dX9_again_173 fl_X9_46 in_30 (ec_30 _ _ _ _ _) rfl ?_
      refine g_bipush C rfl dX9_again_176 ?_
      refine g_ild_n C 1 rfl rfl dX9_again_178 ?_
      refine g_imul C dX9_again_179 ?_
      refine g_ild C 7 rfl dX9_again_180 ?_
      refine g_iadd C dX9_again_182 ?_
      obtain ⟨g52, hf⟩ := gd_some hf
      refine g_iald C dX9_again_183 in_39 (fun _ => ec_39 _ _ _ _ _) g52 ?_
      refine g_i2l C dX9_again_184 ?_
      refine g_lmul C dX9_again_185 ?_
      refine g_ladd C dX9_again_186 ?_
      obtain ⟨g53, hf⟩ := gd_some hf
      refine g_last C dX9_again_187 in_43 (fun _ => ec_43 _ _ _ _ _) (by decide) g53 ?_
      refine g_iinc (lo' := [(7, vi (x7 + 1)), (0, vr α 30 0), (1, vi x1), (2, vi x2), (3, vi x3), (4, vi x4), (5, vi x5), (6, vi x6)]) C 7 rfl (by decide) rfl dX9_again_188 ?_
      refine g_goto C 124 (by decide) dX9_again_191 ?_
      exact g_sub C [1, 2, 3, 4, 5, 6, 7, 0] rfl (ih _ _ hf)
set_option maxHeartbeats 4000000 in
set_option maxRecDepth 100000 in
theorem c_X9_again_l66 {x1 : Int} {x2 : Int} {x3 : Int} {x4 : Int} (C : CX p s m args meth c cX9_again 8 RX9 (some .int) D Y LBm (Ar LBm α sz)) (hfr : 2 ≤ R.frames) (hlc : 55 ≤ R.locals)    : ∀ (n : Nat) (x5 : Int) (μ : Mem), f_X9_again_L66 x1 x2 x3 x4 n x5 μ = some (r, μ') → GG D Y LBm (Ar LBm α sz) p l e R s m args below meth c 8 (MQ below (Qcx D Y LBm α sz (some (vi r)) (fun a => a = α) μ') args s 0 0 (Ar LBm α sz)) α 0 0 [(0, vr α 30 0), (1, vi x1), (2, vi x2), (3, vi x3), (4, vi x4), (5, vi x5)] [] μ 66 := by
  intro n
  induction n with
  | zero =>
    intro x5 μ hf
    exact nomatch (show (none : Option (Int × Mem)) = some _ from hf)
  | succ n ih =>
    intro x5 μ hf
    rw [f_X9_again_L66.eq_2] at hf
    refine g_ild C 5 rfl dX9_again_66 ?_
    refine g_ald_n C 0 rfl rfl dX9_again_68 ?_
    refine g_get C dX9_again_69 fl_X9_31 in_30 (ec_30 _ _ _ _ _) rfl ?_
    refine g_ild_n C 1 rfl rfl dX9_again_72 ?_
    obtain ⟨g34, hf⟩ := gd_some hf
    refine g_iald C dX9_again_73 in_34 (fun _ => ec_34 _ _ _ _ _) g34 ?_
    refine g_ic_ge C 200 (by decide) dX9_again_74 (fun h35 => ?_) (fun h35 => ?_)
    · rw [if_pos h35] at hf
      refine g_ald_n C 0 rfl rfl dX9_again_200 ?_
      refine g_ild C 4 rfl dX9_again_201 ?_
      obtain ⟨r36, μ37, hc38, hf⟩ := bn_some hf
      refine g_callVp (As := [vi x4]) (rest := []) C ⟨Nat.zero_le _, Nat.zero_le _⟩ dX9_again_203 cw_X9_adds m_4_174 m_4_176 m_0_13 in_30 (ec_30 _ _ _ _ _) rfl rfl (c_X9_adds  hc38) rfl rfl (Nat.le_of_ble_eq_true rfl) ⟨Nat.le_trans (Nat.le_of_ble_eq_true rfl) hfr, Nat.le_trans (Nat.le_of_ble_eq_true rfl) hlc⟩ ?_
      exact g_iret C rfl dX9_again_206 hf
    · rw [if_neg h35] at hf
      refine g_bipush C rfl dX9_again_77 ?_
      refine g_ild_n C 1 rfl rfl dX9_again_79 ?_
      refine g_imul C dX9_again_80 ?_
      refine g_ild C 5 rfl dX9_again_81 ?_
      refine g_iadd C dX9_again_83 ?_
      refine g_ist (lo' := [(6, vi ((8 * x1) + x5)), (0, vr α 30 0), (1, vi x1), (2, vi x2), (3, vi x3), (4, vi x4), (5, vi x5)]) C (by decide) rfl dX9_again_84 ?_
      refine g_ald_n C 1 rfl rfl dX9_again_86 ?_
      refine g_get C dX9_again_87 fl_X9_58 in_30 (ec_30 _ _ _ _ _) rfl ?_
      refine g_ald_n C 1 rfl rfl dX9_again_90 ?_
      refine g_get C dX9_again_91 fl_X9_43 in_30 (ec_30 _ _ _ _ _) rfl ?_
      refine g_ild C 0 rfl dX9_again_94 ?_
      obtain ⟨g39, hf⟩ := gd_some hf
      refine g_iald C dX9_again_96 in_38 (fun _ => ec_38 _ _ _ _ _) g39 ?_
      refine g_dup2 C rfl rfl dX9_again_97 ?_
      obtain ⟨g40, hf⟩ := gd_some hf
      refine g_lald C dX9_again_98 in_43 (fun _ => ec_43 _ _ _ _ _) g40 ?_
      refine g_ild_n C 4 rfl rfl dX9_again_99 ?_
      refine g_ild_n C 3 rfl rfl dX9_again_100 ?_
      refine g_isub C dX9_again_101 ?_
      refine g_i2l C dX9_again_102 ?_
      refine g_ald_n C 1 rfl rfl dX9_again_103 ?_
      refine g_get C dX9_again_104 fl_X9_46 in_30 (ec_30 _ _ _ _ _) rfl ?_
      refine g_ild C 0 rfl dX9_again_107 ?_
      obtain ⟨g41, hf⟩ := gd_some hf
      refine g_iald C dX9_again_109 in_39 (fun _ => ec_39 _ _ _ _ _) g41 ?_
      refine g_i2l C dX9_again_110 ?_
      refine g_lmul C dX9_again_111 ?_
      refine g_ald_n C 1 rfl rfl dX9_again_112 ?_
      refine g_ild_n C 2 rfl rfl dX9_again_113 ?_
      obtain ⟨r42, μ43, hc44, hf⟩ := bn_some hf
      refine g_callVp (As := [vi x1]) (rest := [vl ((w32 (x3 - x2)) * (w32 (μ 39 0 (ix ((8 * x1) + x5))))), vl (μ 43 0 (ix (μ 38 0 (ix ((8 * x1) + x5))))), vi (μ 38 0 (ix ((8 * x1) + x5))), vr α 43 0]) C ⟨Nat.zero_le _, Nat.zero_le _⟩ dX9_again_114 cw_X9_sumOf m_4_193 m_4_195 m_0_15 in_30 (ec_30 _ _ _ _ _) rfl rfl (c_X9_sumOf  hc44) rfl rfl (Nat.le_of_ble_eq_true rfl) ⟨Nat.le_trans (Nat.le_of_ble_eq_true rfl) hfr, Nat.le_trans (Nat.le_of_ble_eq_true rfl) hlc⟩ ?_
      refine g_i2l C dX9_again_117 ?_
      refine g_lmul C dX9_again_118 ?_
      refine g_ladd C dX9_again_119 ?_
      obtain ⟨g45, hf⟩ := gd_some hf
      refine g_last C dX9_again_120 in_43 (fun _ => ec_43 _ _ _ _ _) (by decide) g45 ?_
      refine g_iconst C dX9_again_121 ?_
      refine g_ist (lo' := [(7, vi 0), (6, vi ((8 * x1) + x5)), (0, vr α 30 0), (1, vi x1), (2, vi x2), (3, vi x3), (4, vi x4), (5, vi x5)]) C (by decide) rfl dX9_again_122 ?_
      refine g_sub C [2, 3, 4, 5, 6, 7, 1, 0] rfl (c_X9_again_l124 C hfr hlc  (fun μ54 hf => ?_) _ _ _ hf)
      refine g_iinc (lo' := [(5, vi (x5 + 1)), (0, vr α 30 0), (1, vi x1), (2, vi x2), (3, vi x3), (4, vi x4)]) C 5 rfl (by decide) rfl dX9_again_194 ?_
      refine g_goto C 66 (by decide) dX9_again_197 ?_
      exact g_sub C [1, 2, 3, 4, 5, 0] rfl (ih _ _ hf)
set_option maxHeartbeats 4000000 in
set_option maxRecDepth 100000 in
theorem b_X9_again {a1 : Int} {a2 : Int} {a3 : Int} {a4 : Int} {μ : Mem} (C : CX p s m args meth c cX9_again 8 RX9 (some .int) D Y LBm (Ar LBm α sz)) (hfr : 2 ≤ R.frames) (hlc : 55 ≤ R.locals)  (hf : f_X9_again a1 a2 a3 a4 μ = some (r, μ')) : GG D Y LBm (Ar LBm α sz) p l e R s m args below meth c 8 (MQ below (Qcx D Y LBm α sz (some (vi r)) (fun a => a = α) μ') args s 0 0 (Ar LBm α sz)) α 0 0 [(0, vr α 30 0), (1, vi a1), (2, vi a2), (3, vi a3), (4, vi a4)] [] μ 0 := by
  unfold f_X9_again at hf
  refine g_ald_n C 0 rfl rfl dX9_again_0 ?_
  refine g_iconst C dX9_again_1 ?_
  refine g_puti C dX9_again_2 fl_X9_95 in_30 (ec_30 _ _ _ _ _) (Nat.le_of_ble_eq_true rfl) rfl (by decide) ?_
  refine g_ald_n C 0 rfl rfl dX9_again_5 ?_
  refine g_iconst C dX9_again_6 ?_
  refine g_puti C dX9_again_7 fl_X9_98 in_30 (ec_30 _ _ _ _ _) (Nat.le_of_ble_eq_true rfl) rfl (by decide) ?_
  refine g_ald_n C 0 rfl rfl dX9_again_10 ?_
  refine g_ild_n C 1 rfl rfl dX9_again_11 ?_
  obtain ⟨r1, μ2, hc3, hf⟩ := bn_some hf
  refine g_callVp (As := [vi a1]) (rest := []) C ⟨Nat.zero_le _, Nat.zero_le _⟩ dX9_again_12 cw_X9_isPart m_4_189 m_4_191 m_0_14 in_30 (ec_30 _ _ _ _ _) rfl rfl (c_X9_isPart  hc3) rfl rfl (Nat.le_of_ble_eq_true rfl) ⟨Nat.le_trans (Nat.le_of_ble_eq_true rfl) hfr, Nat.le_trans (Nat.le_of_ble_eq_true rfl) hlc⟩ ?_
  refine g_if_ne C 24 (by decide) dX9_again_15 (fun h4 => ?_) (fun h4 => ?_)
  · rw [if_pos h4] at hf
    refine g_ald_n C 0 rfl rfl dX9_again_18 ?_
    refine g_iconst C dX9_again_19 ?_
    obtain ⟨r5, μ6, hc7, hf⟩ := bn_some hf
    refine g_callVp (As := [vi 2]) (rest := []) C ⟨Nat.zero_le _, Nat.zero_le _⟩ dX9_again_20 cw_X9_refuse m_4_164 m_4_166 m_0_11 in_30 (ec_30 _ _ _ _ _) rfl rfl (c_X9_refuse  hc7) rfl rfl (Nat.le_of_ble_eq_true rfl) ⟨Nat.le_trans (Nat.le_of_ble_eq_true rfl) hfr, Nat.le_trans (Nat.le_of_ble_eq_true rfl) hlc⟩ ?_
    exact g_iret C rfl dX9_again_23 hf
  · rw [if_neg h4] at hf
    refine g_ild_n C 3 rfl rfl dX9_again_24 ?_
    refine g_iconst C dX9_again_25 ?_
    refine g_ic_lt C 53 (by decide) dX9_again_26 (fun h8 => ?_) (fun h8 => ?_)
    · rw [if_pos h8] at hf
      refine g_ald_n C 0 rfl rfl dX9_again_53 ?_
      refine g_iconst C dX9_again_54 ?_
      obtain ⟨r9, μ10, hc11, hf⟩ := bn_some hf
      refine g_callVp (As := [vi 5]) (rest := []) C ⟨Nat.zero_le _, Nat.zero_le _⟩ dX9_again_55 cw_X9_refuse m_4_164 m_4_166 m_0_11 in_30 (ec_30 _ _ _ _ _) rfl rfl (c_X9_refuse  hc11) rfl rfl (Nat.le_of_ble_eq_true rfl) ⟨Nat.le_trans (Nat.le_of_ble_eq_true rfl) hfr, Nat.le_trans (Nat.le_of_ble_eq_true rfl) hlc⟩ ?_
      exact g_iret C rfl dX9_again_58 hf
    · rw [if_neg h8] at hf
      refine g_ild_n C 3 rfl rfl dX9_again_29 ?_
      refine g_bipush C rfl dX9_again_30 ?_
      refine g_ic_gt C 53 (by decide) dX9_again_32 (fun h12 => ?_) (fun h12 => ?_)
      · rw [if_pos h12] at hf
        refine g_ald_n C 0 rfl rfl dX9_again_53 ?_
        refine g_iconst C dX9_again_54 ?_
        obtain ⟨r13, μ14, hc15, hf⟩ := bn_some hf
        refine g_callVp (As := [vi 5]) (rest := []) C ⟨Nat.zero_le _, Nat.zero_le _⟩ dX9_again_55 cw_X9_refuse m_4_164 m_4_166 m_0_11 in_30 (ec_30 _ _ _ _ _) rfl rfl (c_X9_refuse  hc15) rfl rfl (Nat.le_of_ble_eq_true rfl) ⟨Nat.le_trans (Nat.le_of_ble_eq_true rfl) hfr, Nat.le_trans (Nat.le_of_ble_eq_true rfl) hlc⟩ ?_
        exact g_iret C rfl dX9_again_58 hf
      · rw [if_neg h12] at hf
        refine g_ild_n C 2 rfl rfl dX9_again_35 ?_
        refine g_iconst C dX9_again_36 ?_
        refine g_ic_lt C 53 (by decide) dX9_again_37 (fun h16 => ?_) (fun h16 => ?_)
        · rw [if_pos h16] at hf
          refine g_ald_n C 0 rfl rfl dX9_again_53 ?_
          refine g_iconst C dX9_again_54 ?_
          obtain ⟨r17, μ18, hc19, hf⟩ := bn_some hf
          refine g_callVp (As := [vi 5]) (rest := []) C ⟨Nat.zero_le _, Nat.zero_le _⟩ dX9_again_55 cw_X9_refuse m_4_164 m_4_166 m_0_11 in_30 (ec_30 _ _ _ _ _) rfl rfl (c_X9_refuse  hc19) rfl rfl (Nat.le_of_ble_eq_true rfl) ⟨Nat.le_trans (Nat.le_of_ble_eq_true rfl) hfr, Nat.le_trans (Nat.le_of_ble_eq_true rfl) hlc⟩ ?_
          exact g_iret C rfl dX9_again_58 hf
        · rw [if_neg h16] at hf
          refine g_ild_n C 2 rfl rfl dX9_again_40 ?_
          refine g_ild_n C 3 rfl rfl dX9_again_41 ?_
          refine g_ic_ge C 53 (by decide) dX9_again_42 (fun h20 => ?_) (fun h20 => ?_)
          · rw [if_pos h20] at hf
            refine g_ald_n C 0 rfl rfl dX9_again_53 ?_
            refine g_iconst C dX9_again_54 ?_
            obtain ⟨r21, μ22, hc23, hf⟩ := bn_some hf
            refine g_callVp (As := [vi 5]) (rest := []) C ⟨Nat.zero_le _, Nat.zero_le _⟩ dX9_again_55 cw_X9_refuse m_4_164 m_4_166 m_0_11 in_30 (ec_30 _ _ _ _ _) rfl rfl (c_X9_refuse  hc23) rfl rfl (Nat.le_of_ble_eq_true rfl) ⟨Nat.le_trans (Nat.le_of_ble_eq_true rfl) hfr, Nat.le_trans (Nat.le_of_ble_eq_true rfl) hlc⟩ ?_
            exact g_iret C rfl dX9_again_58 hf
          · rw [if_neg h20] at hf
            refine g_ild C 4 rfl dX9_again_45 ?_
            obtain ⟨r24, μ25, hc26, hf⟩ := bn_some hf
            refine g_callSp (As := [vi a4]) (rest := []) C ⟨Nat.zero_le _, Nat.zero_le _⟩ dX9_again_47 cw_X9_areHands m_4_161 m_4_162 (c_X9_areHands  hc26) rfl rfl (Nat.le_of_ble_eq_true rfl) ⟨Nat.le_trans (Nat.le_of_ble_eq_true rfl) hfr, Nat.le_trans (Nat.le_of_ble_eq_true rfl) hlc⟩ ?_
            refine g_if_ne C 59 (by decide) dX9_again_50 (fun h27 => ?_) (fun h27 => ?_)
            · rw [if_pos h27] at hf
              refine g_ald_n C 0 rfl rfl dX9_again_53 ?_
              refine g_iconst C dX9_again_54 ?_
              obtain ⟨r28, μ29, hc30, hf⟩ := bn_some hf
              refine g_callVp (As := [vi 5]) (rest := []) C ⟨Nat.zero_le _, Nat.zero_le _⟩ dX9_again_55 cw_X9_refuse m_4_164 m_4_166 m_0_11 in_30 (ec_30 _ _ _ _ _) rfl rfl (c_X9_refuse  hc30) rfl rfl (Nat.le_of_ble_eq_true rfl) ⟨Nat.le_trans (Nat.le_of_ble_eq_true rfl) hfr, Nat.le_trans (Nat.le_of_ble_eq_true rfl) hlc⟩ ?_
              exact g_iret C rfl dX9_again_58 hf
            · rw [if_neg h27] at hf
              refine g_ald_n C 0 rfl rfl dX9_again_59 ?_
              obtain ⟨r31, μ32, hc33, hf⟩ := bn_some hf
              refine g_callVp (As := []) (rest := []) C ⟨Nat.zero_le _, Nat.zero_le _⟩ dX9_again_60 cw_X9_clearMade m_4_168 m_4_170 m_0_12 in_30 (ec_30 _ _ _ _ _) rfl rfl (c_X9_clearMade  hc33) rfl rfl (Nat.le_of_ble_eq_true rfl) ⟨Nat.le_trans (Nat.le_of_ble_eq_true rfl) hfr, Nat.le_trans (Nat.le_of_ble_eq_true rfl) hlc⟩ ?_
              refine g_iconst C dX9_again_63 ?_
              refine g_ist (lo' := [(5, vi 0), (0, vr α 30 0), (1, vi a1), (2, vi a2), (3, vi a3), (4, vi a4)]) C (by decide) rfl dX9_again_64 ?_
              refine g_sub C [1, 2, 3, 4, 5, 0] rfl (c_X9_again_l66 C hfr hlc   _ _ _ hf)
set_option maxHeartbeats 4000000 in
set_option maxRecDepth 100000 in
theorem c_X9_again {l : Launch} {D : va_G} {Y : Nat → ClassId} {α : Adr} {a1 : Int} {a2 : Int} {a3 : Int} {a4 : Int} {μ : Mem} {r : Int} {μ' : Mem}  (hf : f_X9_again a1 a2 a3 a4 μ = some (r, μ')) : Ctr l D Y LBm yX9_again cX9_again 8 (some .int) 2 55 0 0 [vr α 30 0, vi a1, vi a2, vi a3, vi a4] α μ (some (vi r)) (fun a => a = α) μ' := Ctr_of pn_X9 rfl rfl (Nat.le_of_ble_eq_true rfl) LBm_nd (fun p e s m below meth c sz C => b_X9_again C (Nat.le_refl _) (Nat.le_refl _)  hf)
end

/-! EndTellerModel.need -/
def f_X9_need (a1 : Int) (a2 : Int) (a3 : Int) (μ : Mem) : Option (Int × Mem) := bn (f_X9_isPart a1 (st (st μ 30 0 1 0) 30 0 0 0)) (fun r1 μ2 => (if w32 r1 = 0 then bn (f_X9_no 2 μ2) (fun r5 μ6 => gd (bb r5) (some (r5, μ6))) else bn (f_X9_isPart a2 μ2) (fun r9 μ10 => (if w32 r9 = 0 then bn (f_X9_no 2 μ10) (fun r13 μ14 => gd (bb r13) (some (r13, μ14))) else (if w32 a2 < w32 a1 then (if w32 a3 = 0 then gd (inb a1 10) (gd (inb a1 10) (some (1, (st μ10 36 0 (ix a1) (ian (μ10 36 0 (ix a1)) (ixo (ishl 1 a2) (-1))))))) else gd (inb a1 10) (gd (inb a1 10) (some (1, (st μ10 36 0 (ix a1) (ior (μ10 36 0 (ix a1)) (ishl 1 a2))))))) else bn (f_X9_no 5 μ10) (fun r23 μ24 => gd (bb r23) (some (r23, μ24))))))))
section
variable {p : Program} {l : Launch} {e : Env} {R : Room} {s : State} {m : MethodId} {args : Array Value} {below : List Frame} {meth : Method} {c : Code} {D : va_G} {Y : Nat → ClassId} {α : Adr} {sz : Nat} {r : Int} {μ' : Mem}
set_option maxHeartbeats 4000000 in
set_option maxRecDepth 100000 in
theorem b_X9_need {a1 : Int} {a2 : Int} {a3 : Int} {μ : Mem} (C : CX p s m args meth c cX9_need 4 RX9 (some .boolean) D Y LBm (Ar LBm α sz)) (hfr : 1 ≤ R.frames) (hlc : 21 ≤ R.locals)  (hf : f_X9_need a1 a2 a3 μ = some (r, μ')) : GG D Y LBm (Ar LBm α sz) p l e R s m args below meth c 4 (MQ below (Qcx D Y LBm α sz (some (vi r)) (fun a => a = α) μ') args s 0 0 (Ar LBm α sz)) α 0 0 [(0, vr α 30 0), (1, vi a1), (2, vi a2), (3, vi a3)] [] μ 0 := by
  unfold f_X9_need at hf
  refine g_ald_n C 0 rfl rfl dX9_need_0 ?_
  refine g_iconst C dX9_need_1 ?_
  refine g_puti C dX9_need_2 fl_X9_95 in_30 (ec_30 _ _ _ _ _) (Nat.le_of_ble_eq_true rfl) rfl (by decide) ?_
  refine g_ald_n C 0 rfl rfl dX9_need_5 ?_
  refine g_iconst C dX9_need_6 ?_
  refine g_puti C dX9_need_7 fl_X9_98 in_30 (ec_30 _ _ _ _ _) (Nat.le_of_ble_eq_true rfl) rfl (by decide) ?_
  refine g_ald_n C 0 rfl rfl dX9_need_10 ?_
  refine g_ild_n C 1 rfl rfl dX9_need_11 ?_
  obtain ⟨r1, μ2, hc3, hf⟩ := bn_some hf
  refine g_callVp (As := [vi a1]) (rest := []) C ⟨Nat.zero_le _, Nat.zero_le _⟩ dX9_need_12 cw_X9_isPart m_4_189 m_4_191 m_0_14 in_30 (ec_30 _ _ _ _ _) rfl rfl (c_X9_isPart  hc3) rfl rfl (Nat.le_of_ble_eq_true rfl) ⟨Nat.le_trans (Nat.le_of_ble_eq_true rfl) hfr, Nat.le_trans (Nat.le_of_ble_eq_true rfl) hlc⟩ ?_
  refine g_if_eq C 26 (by decide) dX9_need_15 (fun h4 => ?_) (fun h4 => ?_)
  · rw [if_pos h4] at hf
    refine g_ald_n C 0 rfl rfl dX9_need_26 ?_
    refine g_iconst C dX9_need_27 ?_
    obtain ⟨r5, μ6, hc7, hf⟩ := bn_some hf
    refine g_callVp (As := [vi 2]) (rest := []) C ⟨Nat.zero_le _, Nat.zero_le _⟩ dX9_need_28 cw_X9_no m_4_129 m_4_131 m_0_8 in_30 (ec_30 _ _ _ _ _) rfl rfl (c_X9_no  hc7) rfl rfl (Nat.le_of_ble_eq_true rfl) ⟨Nat.le_trans (Nat.le_of_ble_eq_true rfl) hfr, Nat.le_trans (Nat.le_of_ble_eq_true rfl) hlc⟩ ?_
    obtain ⟨g8, hf⟩ := gd_some hf
    exact g_zret C rfl g8 dX9_need_31 hf
  · rw [if_neg h4] at hf
    refine g_ald_n C 0 rfl rfl dX9_need_18 ?_
    refine g_ild_n C 2 rfl rfl dX9_need_19 ?_
    obtain ⟨r9, μ10, hc11, hf⟩ := bn_some hf
    refine g_callVp (As := [vi a2]) (rest := []) C ⟨Nat.zero_le _, Nat.zero_le _⟩ dX9_need_20 cw_X9_isPart m_4_189 m_4_191 m_0_14 in_30 (ec_30 _ _ _ _ _) rfl rfl (c_X9_isPart  hc11) rfl rfl (Nat.le_of_ble_eq_true rfl) ⟨Nat.le_trans (Nat.le_of_ble_eq_true rfl) hfr, Nat.le_trans (Nat.le_of_ble_eq_true rfl) hlc⟩ ?_
    refine g_if_ne C 32 (by decide) dX9_need_23 (fun h12 => ?_) (fun h12 => ?_)
    · rw [if_pos h12] at hf
      refine g_ald_n C 0 rfl rfl dX9_need_26 ?_
      refine g_iconst C dX9_need_27 ?_
      obtain ⟨r13, μ14, hc15, hf⟩ := bn_some hf
      refine g_callVp (As := [vi 2]) (rest := []) C ⟨Nat.zero_le _, Nat.zero_le _⟩ dX9_need_28 cw_X9_no m_4_129 m_4_131 m_0_8 in_30 (ec_30 _ _ _ _ _) rfl rfl (c_X9_no  hc15) rfl rfl (Nat.le_of_ble_eq_true rfl) ⟨Nat.le_trans (Nat.le_of_ble_eq_true rfl) hfr, Nat.le_trans (Nat.le_of_ble_eq_true rfl) hlc⟩ ?_
      obtain ⟨g16, hf⟩ := gd_some hf
      exact g_zret C rfl g16 dX9_need_31 hf
    · rw [if_neg h12] at hf
      refine g_ild_n C 2 rfl rfl dX9_need_32 ?_
      refine g_ild_n C 1 rfl rfl dX9_need_33 ?_
      refine g_ic_lt C 43 (by decide) dX9_need_34 (fun h17 => ?_) (fun h17 => ?_)
      · rw [if_pos h17] at hf
        refine g_ald_n C 0 rfl rfl dX9_need_43 ?_
        refine g_get C dX9_need_44 fl_X9_37 in_30 (ec_30 _ _ _ _ _) rfl ?_
        refine g_ild_n C 1 rfl rfl dX9_need_47 ?_
        refine g_ild_n C 3 rfl rfl dX9_need_48 ?_
        refine g_if_eq C 65 (by decide) dX9_need_49 (fun h18 => ?_) (fun h18 => ?_)
        · rw [if_pos h18] at hf
          refine g_ald_n C 0 rfl rfl dX9_need_65 ?_
          refine g_get C dX9_need_66 fl_X9_37 in_30 (ec_30 _ _ _ _ _) rfl ?_
          refine g_ild_n C 1 rfl rfl dX9_need_69 ?_
          obtain ⟨g19, hf⟩ := gd_some hf
          refine g_iald C dX9_need_70 in_36 (fun _ => ec_36 _ _ _ _ _) g19 ?_
          refine g_iconst C dX9_need_71 ?_
          refine g_ild_n C 2 rfl rfl dX9_need_72 ?_
          refine g_ishl C dX9_need_73 ?_
          refine g_iconst C dX9_need_74 ?_
          refine g_ixor C dX9_need_75 ?_
          refine g_iand C dX9_need_76 ?_
          obtain ⟨g20, hf⟩ := gd_some hf
          refine g_iast C dX9_need_77 in_36 (fun _ => ec_36 _ _ _ _ _) (by decide) g20 ?_
          refine g_iconst C dX9_need_78 ?_
          exact g_zret C rfl (Or.inr rfl) dX9_need_79 hf
        · rw [if_neg h18] at hf
          refine g_ald_n C 0 rfl rfl dX9_need_52 ?_
          refine g_get C dX9_need_53 fl_X9_37 in_30 (ec_30 _ _ _ _ _) rfl ?_
          refine g_ild_n C 1 rfl rfl dX9_need_56 ?_
          obtain ⟨g21, hf⟩ := gd_some hf
          refine g_iald C dX9_need_57 in_36 (fun _ => ec_36 _ _ _ _ _) g21 ?_
          refine g_iconst C dX9_need_58 ?_
          refine g_ild_n C 2 rfl rfl dX9_need_59 ?_
          refine g_ishl C dX9_need_60 ?_
          refine g_ior C dX9_need_61 ?_
          refine g_goto C 77 (by decide) dX9_need_62 ?_
          obtain ⟨g22, hf⟩ := gd_some hf
          refine g_iast C dX9_need_77 in_36 (fun _ => ec_36 _ _ _ _ _) (by decide) g22 ?_
          refine g_iconst C dX9_need_78 ?_
          exact g_zret C rfl (Or.inr rfl) dX9_need_79 hf
      · rw [if_neg h17] at hf
        refine g_ald_n C 0 rfl rfl dX9_need_37 ?_
        refine g_iconst C dX9_need_38 ?_
        obtain ⟨r23, μ24, hc25, hf⟩ := bn_some hf
        refine g_callVp (As := [vi 5]) (rest := []) C ⟨Nat.zero_le _, Nat.zero_le _⟩ dX9_need_39 cw_X9_no m_4_129 m_4_131 m_0_8 in_30 (ec_30 _ _ _ _ _) rfl rfl (c_X9_no  hc25) rfl rfl (Nat.le_of_ble_eq_true rfl) ⟨Nat.le_trans (Nat.le_of_ble_eq_true rfl) hfr, Nat.le_trans (Nat.le_of_ble_eq_true rfl) hlc⟩ ?_
        obtain ⟨g26, hf⟩ := gd_some hf
        exact g_zret C rfl g26 dX9_need_42 hf
set_option maxHeartbeats 4000000 in
set_option maxRecDepth 100000 in
theorem c_X9_need {l : Launch} {D : va_G} {Y : Nat → ClassId} {α : Adr} {a1 : Int} {a2 : Int} {a3 : Int} {μ : Mem} {r : Int} {μ' : Mem}  (hf : f_X9_need a1 a2 a3 μ = some (r, μ')) : Ctr l D Y LBm yX9_need cX9_need 4 (some .boolean) 1 21 0 0 [vr α 30 0, vi a1, vi a2, vi a3] α μ (some (vi r)) (fun a => a = α) μ' := Ctr_of pn_X9 rfl rfl (Nat.le_of_ble_eq_true rfl) LBm_nd (fun p e s m below meth c sz C => b_X9_need C (Nat.le_refl _) (Nat.le_refl _)  hf)
end

/-! EndTellerModel.cause -/
def f_X9_cause (a1 : Int) (a2 : Int) (μ : Mem) : Option (Int × Mem) := (if w32 a2 < w32 2 then bn (f_X9_refuse 5 (st (st μ 30 0 1 0) 30 0 0 0)) (fun r2 μ3 => some (r2, μ3)) else (if w32 12 < w32 a2 then bn (f_X9_refuse 5 (st (st μ 30 0 1 0) 30 0 0 0)) (fun r6 μ7 => some (r6, μ7)) else (if w32 a1 < w32 1 then bn (f_X9_refuse 5 (st (st μ 30 0 1 0) 30 0 0 0)) (fun r10 μ11 => some (r10, μ11)) else (if w32 a1 < w32 a2 then (if w32 ((st (st μ 30 0 1 0) 30 0 0 0) 30 0 8) = w32 4 then bn (f_X9_refuse 7 (st (st μ 30 0 1 0) 30 0 0 0)) (fun r15 μ16 => some (r15, μ16)) else gd (inb ((st (st μ 30 0 1 0) 30 0 0 0) 30 0 8) 4) (gd (inb ((st (st (st μ 30 0 1 0) 30 0 0 0) 41 0 (ix ((st (st μ 30 0 1 0) 30 0 0 0) 30 0 8)) a1) 30 0 8) 4) (some ((((st (st (st (st (st μ 30 0 1 0) 30 0 0 0) 41 0 (ix ((st (st μ 30 0 1 0) 30 0 0 0) 30 0 8)) a1) 42 0 (ix ((st (st (st μ 30 0 1 0) 30 0 0 0) 41 0 (ix ((st (st μ 30 0 1 0) 30 0 0 0) 30 0 8)) a1) 30 0 8)) a2) 30 0 8 (((st (st (st (st μ 30 0 1 0) 30 0 0 0) 41 0 (ix ((st (st μ 30 0 1 0) 30 0 0 0) 30 0 8)) a1) 42 0 (ix ((st (st (st μ 30 0 1 0) 30 0 0 0) 41 0 (ix ((st (st μ 30 0 1 0) 30 0 0 0) 30 0 8)) a1) 30 0 8)) a2) 30 0 8) + 1)) 30 0 8) - 1), (st (st (st (st (st μ 30 0 1 0) 30 0 0 0) 41 0 (ix ((st (st μ 30 0 1 0) 30 0 0 0) 30 0 8)) a1) 42 0 (ix ((st (st (st μ 30 0 1 0) 30 0 0 0) 41 0 (ix ((st (st μ 30 0 1 0) 30 0 0 0) 30 0 8)) a1) 30 0 8)) a2) 30 0 8 (((st (st (st (st μ 30 0 1 0) 30 0 0 0) 41 0 (ix ((st (st μ 30 0 1 0) 30 0 0 0) 30 0 8)) a1) 42 0 (ix ((st (st (st μ 30 0 1 0) 30 0 0 0) 41 0 (ix ((st (st μ 30 0 1 0) 30 0 0 0) 30 0 8)) a1) 30 0 8)) a2) 30 0 8) + 1)))))) else bn (f_X9_refuse 5 (st (st μ 30 0 1 0) 30 0 0 0)) (fun r20 μ21 => some (r20, μ21))))))
section
variable {p : Program} {l : Launch} {e : Env} {R : Room} {s : State} {m : MethodId} {args : Array Value} {below : List Frame} {meth : Method} {c : Code} {D : va_G} {Y : Nat → ClassId} {α : Adr} {sz : Nat} {r : Int} {μ' : Mem}
set_option maxHeartbeats 4000000 in
set_option maxRecDepth 100000 in
theorem b_X9_cause {a1 : Int} {a2 : Int} {μ : Mem} (C : CX p s m args meth c cX9_cause 3 RX9 (some .int) D Y LBm (Ar LBm α sz)) (hfr : 1 ≤ R.frames) (hlc : 21 ≤ R.locals)  (hf : f_X9_cause a1 a2 μ = some (r, μ')) : GG D Y LBm (Ar LBm α sz) p l e R s m args below meth c 3 (MQ below (Qcx D Y LBm α sz (some (vi r)) (fun a => a = α) μ') args s 0 0 (Ar LBm α sz)) α 0 0 [(0, vr α 30 0), (1, vi a1), (2, vi a2)] [] μ 0 := by
  unfold f_X9_cause at hf
  refine g_ald_n C 0 rfl rfl dX9_cause_0 ?_
  refine g_iconst C dX9_cause_1 ?_
  refine g_puti C dX9_cause_2 fl_X9_95 in_30 (ec_30 _ _ _ _ _) (Nat.le_of_ble_eq_true rfl) rfl (by decide) ?_
  refine g_ald_n C 0 rfl rfl dX9_cause_5 ?_
  refine g_iconst C dX9_cause_6 ?_
  refine g_puti C dX9_cause_7 fl_X9_98 in_30 (ec_30 _ _ _ _ _) (Nat.le_of_ble_eq_true rfl) rfl (by decide) ?_
  refine g_ild_n C 2 rfl rfl dX9_cause_10 ?_
  refine g_iconst C dX9_cause_11 ?_
  refine g_ic_lt C 31 (by decide) dX9_cause_12 (fun h1 => ?_) (fun h1 => ?_)
  · rw [if_pos h1] at hf
    refine g_ald_n C 0 rfl rfl dX9_cause_31 ?_
    refine g_iconst C dX9_cause_32 ?_
    obtain ⟨r2, μ3, hc4, hf⟩ := bn_some hf
    refine g_callVp (As := [vi 5]) (rest := []) C ⟨Nat.zero_le _, Nat.zero_le _⟩ dX9_cause_33 cw_X9_refuse m_4_164 m_4_166 m_0_11 in_30 (ec_30 _ _ _ _ _) rfl rfl (c_X9_refuse  hc4) rfl rfl (Nat.le_of_ble_eq_true rfl) ⟨Nat.le_trans (Nat.le_of_ble_eq_true rfl) hfr, Nat.le_trans (Nat.le_of_ble_eq_true rfl) hlc⟩ ?_
    exact g_iret C rfl dX9_cause_36 hf
  · rw [if_neg h1] at hf
    refine g_ild_n C 2 rfl rfl dX9_cause_15 ?_
    refine g_bipush C rfl dX9_cause_16 ?_
    refine g_ic_gt C 31 (by decide) dX9_cause_18 (fun h5 => ?_) (fun h5 => ?_)
    · rw [if_pos h5] at hf
      refine g_ald_n C 0 rfl rfl dX9_cause_31 ?_
      refine g_iconst C dX9_cause_32 ?_
      obtain ⟨r6, μ7, hc8, hf⟩ := bn_some hf
      refine g_callVp (As := [vi 5]) (rest := []) C ⟨Nat.zero_le _, Nat.zero_le _⟩ dX9_cause_33 cw_X9_refuse m_4_164 m_4_166 m_0_11 in_30 (ec_30 _ _ _ _ _) rfl rfl (c_X9_refuse  hc8) rfl rfl (Nat.le_of_ble_eq_true rfl) ⟨Nat.le_trans (Nat.le_of_ble_eq_true rfl) hfr, Nat.le_trans (Nat.le_of_ble_eq_true rfl) hlc⟩ ?_
      exact g_iret C rfl dX9_cause_36 hf
    · rw [if_neg h5] at hf
      refine g_ild_n C 1 rfl rfl dX9_cause_21 ?_
      refine g_iconst C dX9_cause_22 ?_
      refine g_ic_lt C 31 (by decide) dX9_cause_23 (fun h9 => ?_) (fun h9 => ?_)
      · rw [if_pos h9] at hf
        refine g_ald_n C 0 rfl rfl dX9_cause_31 ?_
        refine g_iconst C dX9_cause_32 ?_
        obtain ⟨r10, μ11, hc12, hf⟩ := bn_some hf
        refine g_callVp (As := [vi 5]) (rest := []) C ⟨Nat.zero_le _, Nat.zero_le _⟩ dX9_cause_33 cw_X9_refuse m_4_164 m_4_166 m_0_11 in_30 (ec_30 _ _ _ _ _) rfl rfl (c_X9_refuse  hc12) rfl rfl (Nat.le_of_ble_eq_true rfl) ⟨Nat.le_trans (Nat.le_of_ble_eq_true rfl) hfr, Nat.le_trans (Nat.le_of_ble_eq_true rfl) hlc⟩ ?_
        exact g_iret C rfl dX9_cause_36 hf
      · rw [if_neg h9] at hf
        refine g_ild_n C 1 rfl rfl dX9_cause_26 ?_
        refine g_ild_n C 2 rfl rfl dX9_cause_27 ?_
        refine g_ic_lt C 37 (by decide) dX9_cause_28 (fun h13 => ?_) (fun h13 => ?_)
        · rw [if_pos h13] at hf
          refine g_ald_n C 0 rfl rfl dX9_cause_37 ?_
          refine g_get C dX9_cause_38 fl_X9_148 in_30 (ec_30 _ _ _ _ _) rfl ?_
          refine g_iconst C dX9_cause_41 ?_
          refine g_ic_ne C 52 (by decide) dX9_cause_42 (fun h14 => ?_) (fun h14 => ?_)
          · rw [if_pos h14] at hf
            refine g_ald_n C 0 rfl rfl dX9_cause_45 ?_
            refine g_bipush C rfl dX9_cause_46 ?_
            obtain ⟨r15, μ16, hc17, hf⟩ := bn_some hf
            refine g_callVp (As := [vi 7]) (rest := []) C ⟨Nat.zero_le _, Nat.zero_le _⟩ dX9_cause_48 cw_X9_refuse m_4_164 m_4_166 m_0_11 in_30 (ec_30 _ _ _ _ _) rfl rfl (c_X9_refuse  hc17) rfl rfl (Nat.le_of_ble_eq_true rfl) ⟨Nat.le_trans (Nat.le_of_ble_eq_true rfl) hfr, Nat.le_trans (Nat.le_of_ble_eq_true rfl) hlc⟩ ?_
            exact g_iret C rfl dX9_cause_51 hf
          · rw [if_neg h14] at hf
            refine g_ald_n C 0 rfl rfl dX9_cause_52 ?_
            refine g_get C dX9_cause_53 fl_X9_52 in_30 (ec_30 _ _ _ _ _) rfl ?_
            refine g_ald_n C 0 rfl rfl dX9_cause_56 ?_
            refine g_get C dX9_cause_57 fl_X9_148 in_30 (ec_30 _ _ _ _ _) rfl ?_
            refine g_ild_n C 1 rfl rfl dX9_cause_60 ?_
            obtain ⟨g18, hf⟩ := gd_some hf
            refine g_iast C dX9_cause_61 in_41 (fun _ => ec_41 _ _ _ _ _) (by decide) g18 ?_
            refine g_ald_n C 0 rfl rfl dX9_cause_62 ?_
            refine g_get C dX9_cause_63 fl_X9_55 in_30 (ec_30 _ _ _ _ _) rfl ?_
            refine g_ald_n C 0 rfl rfl dX9_cause_66 ?_
            refine g_get C dX9_cause_67 fl_X9_148 in_30 (ec_30 _ _ _ _ _) rfl ?_
            refine g_ild_n C 2 rfl rfl dX9_cause_70 ?_
            obtain ⟨g19, hf⟩ := gd_some hf
            refine g_iast C dX9_cause_71 in_42 (fun _ => ec_42 _ _ _ _ _) (by decide) g19 ?_
            refine g_ald_n C 0 rfl rfl dX9_cause_72 ?_
            refine g_dup C rfl dX9_cause_73 ?_
            refine g_get C dX9_cause_74 fl_X9_148 in_30 (ec_30 _ _ _ _ _) rfl ?_
            refine g_iconst C dX9_cause_77 ?_
            refine g_iadd C dX9_cause_78 ?_
            refine g_puti C dX9_cause_79 fl_X9_148 in_30 (ec_30 _ _ _ _ _) (Nat.le_of_ble_eq_true rfl) rfl (by decide) ?_
            refine g_ald_n C 0 rfl rfl dX9_cause_82 ?_
            refine g_get C dX9_cause_83 fl_X9_148 in_30 (ec_30 _ _ _ _ _) rfl ?_
            refine g_iconst C dX9_cause_86 ?_
            refine g_isub C dX9_cause_87 ?_
            exact g_iret C rfl dX9_cause_88 hf
        · rw [if_neg h13] at hf
          refine g_ald_n C 0 rfl rfl dX9_cause_31 ?_
          refine g_iconst C dX9_cause_32 ?_
          obtain ⟨r20, μ21, hc22, hf⟩ := bn_some hf
          refine g_callVp (As := [vi 5]) (rest := []) C ⟨Nat.zero_le _, Nat.zero_le _⟩ dX9_cause_33 cw_X9_refuse m_4_164 m_4_166 m_0_11 in_30 (ec_30 _ _ _ _ _) rfl rfl (c_X9_refuse  hc22) rfl rfl (Nat.le_of_ble_eq_true rfl) ⟨Nat.le_trans (Nat.le_of_ble_eq_true rfl) hfr, Nat.le_trans (Nat.le_of_ble_eq_true rfl) hlc⟩ ?_
          exact g_iret C rfl dX9_cause_36 hf
set_option maxHeartbeats 4000000 in
set_option maxRecDepth 100000 in
theorem c_X9_cause {l : Launch} {D : va_G} {Y : Nat → ClassId} {α : Adr} {a1 : Int} {a2 : Int} {μ : Mem} {r : Int} {μ' : Mem}  (hf : f_X9_cause a1 a2 μ = some (r, μ')) : Ctr l D Y LBm yX9_cause cX9_cause 3 (some .int) 1 21 0 0 [vr α 30 0, vi a1, vi a2] α μ (some (vi r)) (fun a => a = α) μ' := Ctr_of pn_X9 rfl rfl (Nat.le_of_ble_eq_true rfl) LBm_nd (fun p e s m below meth c sz C => b_X9_cause C (Nat.le_refl _) (Nat.le_refl _)  hf)
end

/-! EndTellerModel.late -/
def f_X9_late (a1 : Int) (a2 : Int) (a3 : Int) (μ : Mem) : Option (Int × Mem) := bn (f_X9_isPart a1 (st (st μ 30 0 1 0) 30 0 0 0)) (fun r1 μ2 => (if w32 r1 = 0 then bn (f_X9_no 2 μ2) (fun r5 μ6 => gd (bb r5) (some (r5, μ6))) else (if w32 a2 < 0 then bn (f_X9_no 2 μ2) (fun r10 μ11 => gd (bb r10) (some (r10, μ11))) else (if w32 a2 < w32 (μ2 30 0 8) then (if w32 a3 < 0 then bn (f_X9_no 5 μ2) (fun r16 μ17 => gd (bb r16) (some (r16, μ17))) else (if w32 a3 ≤ w32 99 then gd (inb ((4 * a1) + a2) 40) (some (1, (st μ2 40 0 (ix ((4 * a1) + a2)) a3))) else bn (f_X9_no 5 μ2) (fun r22 μ23 => gd (bb r22) (some (r22, μ23))))) else bn (f_X9_no 2 μ2) (fun r26 μ27 => gd (bb r26) (some (r26, μ27)))))))
section
variable {p : Program} {l : Launch} {e : Env} {R : Room} {s : State} {m : MethodId} {args : Array Value} {below : List Frame} {meth : Method} {c : Code} {D : va_G} {Y : Nat → ClassId} {α : Adr} {sz : Nat} {r : Int} {μ' : Mem}
set_option maxHeartbeats 4000000 in
set_option maxRecDepth 100000 in
theorem b_X9_late {a1 : Int} {a2 : Int} {a3 : Int} {μ : Mem} (C : CX p s m args meth c cX9_late 4 RX9 (some .boolean) D Y LBm (Ar LBm α sz)) (hfr : 1 ≤ R.frames) (hlc : 21 ≤ R.locals)  (hf : f_X9_late a1 a2 a3 μ = some (r, μ')) : GG D Y LBm (Ar LBm α sz) p l e R s m args below meth c 4 (MQ below (Qcx D Y LBm α sz (some (vi r)) (fun a => a = α) μ') args s 0 0 (Ar LBm α sz)) α 0 0 [(0, vr α 30 0), (1, vi a1), (2, vi a2), (3, vi a3)] [] μ 0 := by
  unfold f_X9_late at hf
  refine g_ald_n C 0 rfl rfl dX9_late_0 ?_
  refine g_iconst C dX9_late_1 ?_
  refine g_puti C dX9_late_2 fl_X9_95 in_30 (ec_30 _ _ _ _ _) (Nat.le_of_ble_eq_true rfl) rfl (by decide) ?_
  refine g_ald_n C 0 rfl rfl dX9_late_5 ?_
  refine g_iconst C dX9_late_6 ?_
  refine g_puti C dX9_late_7 fl_X9_98 in_30 (ec_30 _ _ _ _ _) (Nat.le_of_ble_eq_true rfl) rfl (by decide) ?_
  refine g_ald_n C 0 rfl rfl dX9_late_10 ?_
  refine g_ild_n C 1 rfl rfl dX9_late_11 ?_
  obtain ⟨r1, μ2, hc3, hf⟩ := bn_some hf
  refine g_callVp (As := [vi a1]) (rest := []) C ⟨Nat.zero_le _, Nat.zero_le _⟩ dX9_late_12 cw_X9_isPart m_4_189 m_4_191 m_0_14 in_30 (ec_30 _ _ _ _ _) rfl rfl (c_X9_isPart  hc3) rfl rfl (Nat.le_of_ble_eq_true rfl) ⟨Nat.le_trans (Nat.le_of_ble_eq_true rfl) hfr, Nat.le_trans (Nat.le_of_ble_eq_true rfl) hlc⟩ ?_
  refine g_if_eq C 30 (by decide) dX9_late_15 (fun h4 => ?_) (fun h4 => ?_)
  · rw [if_pos h4] at hf
    refine g_ald_n C 0 rfl rfl dX9_late_30 ?_
    refine g_iconst C dX9_late_31 ?_
    obtain ⟨r5, μ6, hc7, hf⟩ := bn_some hf
    refine g_callVp (As := [vi 2]) (rest := []) C ⟨Nat.zero_le _, Nat.zero_le _⟩ dX9_late_32 cw_X9_no m_4_129 m_4_131 m_0_8 in_30 (ec_30 _ _ _ _ _) rfl rfl (c_X9_no  hc7) rfl rfl (Nat.le_of_ble_eq_true rfl) ⟨Nat.le_trans (Nat.le_of_ble_eq_true rfl) hfr, Nat.le_trans (Nat.le_of_ble_eq_true rfl) hlc⟩ ?_
    obtain ⟨g8, hf⟩ := gd_some hf
    exact g_zret C rfl g8 dX9_late_35 hf
  · rw [if_neg h4] at hf
    refine g_ild_n C 2 rfl rfl dX9_late_18 ?_
    refine g_if_lt C 30 (by decide) dX9_late_19 (fun h9 => ?_) (fun h9 => ?_)
    · rw [if_pos h9] at hf
      refine g_ald_n C 0 rfl rfl dX9_late_30 ?_
      refine g_iconst C dX9_late_31 ?_
      obtain ⟨r10, μ11, hc12, hf⟩ := bn_some hf
      refine g_callVp (As := [vi 2]) (rest := []) C ⟨Nat.zero_le _, Nat.zero_le _⟩ dX9_late_32 cw_X9_no m_4_129 m_4_131 m_0_8 in_30 (ec_30 _ _ _ _ _) rfl rfl (c_X9_no  hc12) rfl rfl (Nat.le_of_ble_eq_true rfl) ⟨Nat.le_trans (Nat.le_of_ble_eq_true rfl) hfr, Nat.le_trans (Nat.le_of_ble_eq_true rfl) hlc⟩ ?_
      obtain ⟨g13, hf⟩ := gd_some hf
      exact g_zret C rfl g13 dX9_late_35 hf
    · rw [if_neg h9] at hf
      refine g_ild_n C 2 rfl rfl dX9_late_22 ?_
      refine g_ald_n C 0 rfl rfl dX9_late_23 ?_
      refine g_get C dX9_late_24 fl_X9_148 in_30 (ec_30 _ _ _ _ _) rfl ?_
      refine g_ic_lt C 36 (by decide) dX9_late_27 (fun h14 => ?_) (fun h14 => ?_)
      · rw [if_pos h14] at hf
        refine g_ild_n C 3 rfl rfl dX9_late_36 ?_
        refine g_if_lt C 46 (by decide) dX9_late_37 (fun h15 => ?_) (fun h15 => ?_)
        · rw [if_pos h15] at hf
          refine g_ald_n C 0 rfl rfl dX9_late_46 ?_
          refine g_iconst C dX9_late_47 ?_
          obtain ⟨r16, μ17, hc18, hf⟩ := bn_some hf
          refine g_callVp (As := [vi 5]) (rest := []) C ⟨Nat.zero_le _, Nat.zero_le _⟩ dX9_late_48 cw_X9_no m_4_129 m_4_131 m_0_8 in_30 (ec_30 _ _ _ _ _) rfl rfl (c_X9_no  hc18) rfl rfl (Nat.le_of_ble_eq_true rfl) ⟨Nat.le_trans (Nat.le_of_ble_eq_true rfl) hfr, Nat.le_trans (Nat.le_of_ble_eq_true rfl) hlc⟩ ?_
          obtain ⟨g19, hf⟩ := gd_some hf
          exact g_zret C rfl g19 dX9_late_51 hf
        · rw [if_neg h15] at hf
          refine g_ild_n C 3 rfl rfl dX9_late_40 ?_
          refine g_bipush C rfl dX9_late_41 ?_
          refine g_ic_le C 52 (by decide) dX9_late_43 (fun h20 => ?_) (fun h20 => ?_)
          · rw [if_pos h20] at hf
            refine g_ald_n C 0 rfl rfl dX9_late_52 ?_
            refine g_get C dX9_late_53 fl_X9_49 in_30 (ec_30 _ _ _ _ _) rfl ?_
            refine g_iconst C dX9_late_56 ?_
            refine g_ild_n C 1 rfl rfl dX9_late_57 ?_
            refine g_imul C dX9_late_58 ?_
            refine g_ild_n C 2 rfl rfl dX9_late_59 ?_
            refine g_iadd C dX9_late_60 ?_
            refine g_ild_n C 3 rfl rfl dX9_late_61 ?_
            obtain ⟨g21, hf⟩ := gd_some hf
            refine g_iast C dX9_late_62 in_40 (fun _ => ec_40 _ _ _ _ _) (by decide) g21 ?_
            refine g_iconst C dX9_late_63 ?_
            exact g_zret C rfl (Or.inr rfl) dX9_late_64 hf
          · rw [if_neg h20] at hf
            refine g_ald_n C 0 rfl rfl dX9_late_46 ?_
            refine g_iconst C dX9_late_47 ?_
            obtain ⟨r22, μ23, hc24, hf⟩ := bn_some hf
            refine g_callVp (As := [vi 5]) (rest := []) C ⟨Nat.zero_le _, Nat.zero_le _⟩ dX9_late_48 cw_X9_no m_4_129 m_4_131 m_0_8 in_30 (ec_30 _ _ _ _ _) rfl rfl (c_X9_no  hc24) rfl rfl (Nat.le_of_ble_eq_true rfl) ⟨Nat.le_trans (Nat.le_of_ble_eq_true rfl) hfr, Nat.le_trans (Nat.le_of_ble_eq_true rfl) hlc⟩ ?_
            obtain ⟨g25, hf⟩ := gd_some hf
            exact g_zret C rfl g25 dX9_late_51 hf
      · rw [if_neg h14] at hf
        refine g_ald_n C 0 rfl rfl dX9_late_30 ?_
        refine g_iconst C dX9_late_31 ?_
        obtain ⟨r26, μ27, hc28, hf⟩ := bn_some hf
        refine g_callVp (As := [vi 2]) (rest := []) C ⟨Nat.zero_le _, Nat.zero_le _⟩ dX9_late_32 cw_X9_no m_4_129 m_4_131 m_0_8 in_30 (ec_30 _ _ _ _ _) rfl rfl (c_X9_no  hc28) rfl rfl (Nat.le_of_ble_eq_true rfl) ⟨Nat.le_trans (Nat.le_of_ble_eq_true rfl) hfr, Nat.le_trans (Nat.le_of_ble_eq_true rfl) hlc⟩ ?_
        obtain ⟨g29, hf⟩ := gd_some hf
        exact g_zret C rfl g29 dX9_late_35 hf
set_option maxHeartbeats 4000000 in
set_option maxRecDepth 100000 in
theorem c_X9_late {l : Launch} {D : va_G} {Y : Nat → ClassId} {α : Adr} {a1 : Int} {a2 : Int} {a3 : Int} {μ : Mem} {r : Int} {μ' : Mem}  (hf : f_X9_late a1 a2 a3 μ = some (r, μ')) : Ctr l D Y LBm yX9_late cX9_late 4 (some .boolean) 1 21 0 0 [vr α 30 0, vi a1, vi a2, vi a3] α μ (some (vi r)) (fun a => a = α) μ' := Ctr_of pn_X9 rfl rfl (Nat.le_of_ble_eq_true rfl) LBm_nd (fun p e s m below meth c sz C => b_X9_late C (Nat.le_refl _) (Nat.le_refl _)  hf)
end

/-! EndTellerModel.hands -/
def f_X9_hands (a1 : Int) (μ : Mem) : Option (Int × Mem) := (if w32 a1 < w32 1 then bn (f_X9_no 5 (st (st μ 30 0 1 0) 30 0 0 0)) (fun r2 μ3 => gd (bb r2) (some (r2, μ3))) else (if w32 a1 ≤ w32 30 then some (1, (st (st (st μ 30 0 1 0) 30 0 0 0) 30 0 9 a1)) else bn (f_X9_no 5 (st (st μ 30 0 1 0) 30 0 0 0)) (fun r7 μ8 => gd (bb r7) (some (r7, μ8)))))
section
variable {p : Program} {l : Launch} {e : Env} {R : Room} {s : State} {m : MethodId} {args : Array Value} {below : List Frame} {meth : Method} {c : Code} {D : va_G} {Y : Nat → ClassId} {α : Adr} {sz : Nat} {r : Int} {μ' : Mem}
set_option maxHeartbeats 4000000 in
set_option maxRecDepth 100000 in
theorem b_X9_hands {a1 : Int} {μ : Mem} (C : CX p s m args meth c cX9_hands 2 RX9 (some .boolean) D Y LBm (Ar LBm α sz)) (hfr : 1 ≤ R.frames) (hlc : 21 ≤ R.locals)  (hf : f_X9_hands a1 μ = some (r, μ')) : GG D Y LBm (Ar LBm α sz) p l e R s m args below meth c 2 (MQ below (Qcx D Y LBm α sz (some (vi r)) (fun a => a = α) μ') args s 0 0 (Ar LBm α sz)) α 0 0 [(0, vr α 30 0), (1, vi a1)] [] μ 0 := by
  unfold f_X9_hands at hf
  refine g_ald_n C 0 rfl rfl dX9_hands_0 ?_
  refine g_iconst C dX9_hands_1 ?_
  refine g_puti C dX9_hands_2 fl_X9_95 in_30 (ec_30 _ _ _ _ _) (Nat.le_of_ble_eq_true rfl) rfl (by decide) ?_
  refine g_ald_n C 0 rfl rfl dX9_hands_5 ?_
  refine g_iconst C dX9_hands_6 ?_
  refine g_puti C dX9_hands_7 fl_X9_98 in_30 (ec_30 _ _ _ _ _) (Nat.le_of_ble_eq_true rfl) rfl (by decide) ?_
  refine g_ild_n C 1 rfl rfl dX9_hands_10 ?_
  refine g_iconst C dX9_hands_11 ?_
  refine g_ic_lt C 21 (by decide) dX9_hands_12 (fun h1 => ?_) (fun h1 => ?_)
  · rw [if_pos h1] at hf
    refine g_ald_n C 0 rfl rfl dX9_hands_21 ?_
    refine g_iconst C dX9_hands_22 ?_
    obtain ⟨r2, μ3, hc4, hf⟩ := bn_some hf
    refine g_callVp (As := [vi 5]) (rest := []) C ⟨Nat.zero_le _, Nat.zero_le _⟩ dX9_hands_23 cw_X9_no m_4_129 m_4_131 m_0_8 in_30 (ec_30 _ _ _ _ _) rfl rfl (c_X9_no  hc4) rfl rfl (Nat.le_of_ble_eq_true rfl) ⟨Nat.le_trans (Nat.le_of_ble_eq_true rfl) hfr, Nat.le_trans (Nat.le_of_ble_eq_true rfl) hlc⟩ ?_
    obtain ⟨g5, hf⟩ := gd_some hf
    exact g_zret C rfl g5 dX9_hands_26 hf
  · rw [if_neg h1] at hf
    refine g_ild_n C 1 rfl rfl dX9_hands_15 ?_
    refine g_bipush C rfl dX9_hands_16 ?_
    refine g_ic_le C 27 (by decide) dX9_hands_18 (fun h6 => ?_) (fun h6 => ?_)
    · rw [if_pos h6] at hf
      refine g_ald_n C 0 rfl rfl dX9_hands_27 ?_
      refine g_ild_n C 1 rfl rfl dX9_hands_28 ?_
      refine g_puti C dX9_hands_29 fl_X9_24 in_30 (ec_30 _ _ _ _ _) (Nat.le_of_ble_eq_true rfl) rfl (by decide) ?_
      refine g_iconst C dX9_hands_32 ?_
      exact g_zret C rfl (Or.inr rfl) dX9_hands_33 hf
    · rw [if_neg h6] at hf
      refine g_ald_n C 0 rfl rfl dX9_hands_21 ?_
      refine g_iconst C dX9_hands_22 ?_
      obtain ⟨r7, μ8, hc9, hf⟩ := bn_some hf
      refine g_callVp (As := [vi 5]) (rest := []) C ⟨Nat.zero_le _, Nat.zero_le _⟩ dX9_hands_23 cw_X9_no m_4_129 m_4_131 m_0_8 in_30 (ec_30 _ _ _ _ _) rfl rfl (c_X9_no  hc9) rfl rfl (Nat.le_of_ble_eq_true rfl) ⟨Nat.le_trans (Nat.le_of_ble_eq_true rfl) hfr, Nat.le_trans (Nat.le_of_ble_eq_true rfl) hlc⟩ ?_
      obtain ⟨g10, hf⟩ := gd_some hf
      exact g_zret C rfl g10 dX9_hands_26 hf
set_option maxHeartbeats 4000000 in
set_option maxRecDepth 100000 in
theorem c_X9_hands {l : Launch} {D : va_G} {Y : Nat → ClassId} {α : Adr} {a1 : Int} {μ : Mem} {r : Int} {μ' : Mem}  (hf : f_X9_hands a1 μ = some (r, μ')) : Ctr l D Y LBm yX9_hands cX9_hands 2 (some .boolean) 1 21 0 0 [vr α 30 0, vi a1] α μ (some (vi r)) (fun a => a = α) μ' := Ctr_of pn_X9 rfl rfl (Nat.le_of_ble_eq_true rfl) LBm_nd (fun p e s m below meth c sz C => b_X9_hands C (Nat.le_refl _) (Nat.le_refl _)  hf)
end

/-! EndTellerModel.clear -/
def f_X9_clear  (μ : Mem) : Option (Int × Mem) := some (1, (st (st (st (st (st (st μ 30 0 1 0) 30 0 0 0) 30 0 7 0) 30 0 8 0) 30 0 9 30) 30 0 10 (-1)))
section
variable {p : Program} {l : Launch} {e : Env} {R : Room} {s : State} {m : MethodId} {args : Array Value} {below : List Frame} {meth : Method} {c : Code} {D : va_G} {Y : Nat → ClassId} {α : Adr} {sz : Nat} {r : Int} {μ' : Mem}
set_option maxHeartbeats 4000000 in
set_option maxRecDepth 100000 in
theorem b_X9_clear  {μ : Mem} (C : CX p s m args meth c cX9_clear 1 RX9 (some .boolean) D Y LBm (Ar LBm α sz)) (hfr : 0 ≤ R.frames) (hlc : 0 ≤ R.locals)  (hf : f_X9_clear μ = some (r, μ')) : GG D Y LBm (Ar LBm α sz) p l e R s m args below meth c 1 (MQ below (Qcx D Y LBm α sz (some (vi r)) (fun a => a = α) μ') args s 0 0 (Ar LBm α sz)) α 0 0 [(0, vr α 30 0)] [] μ 0 := by
  unfold f_X9_clear at hf
  refine g_ald_n C 0 rfl rfl dX9_clear_0 ?_
  refine g_iconst C dX9_clear_1 ?_
  refine g_puti C dX9_clear_2 fl_X9_95 in_30 (ec_30 _ _ _ _ _) (Nat.le_of_ble_eq_true rfl) rfl (by decide) ?_
  refine g_ald_n C 0 rfl rfl dX9_clear_5 ?_
  refine g_iconst C dX9_clear_6 ?_
  refine g_puti C dX9_clear_7 fl_X9_98 in_30 (ec_30 _ _ _ _ _) (Nat.le_of_ble_eq_true rfl) rfl (by decide) ?_
  refine g_ald_n C 0 rfl rfl dX9_clear_10 ?_
  refine g_iconst C dX9_clear_11 ?_
  refine g_puti C dX9_clear_12 fl_X9_119 in_30 (ec_30 _ _ _ _ _) (Nat.le_of_ble_eq_true rfl) rfl (by decide) ?_
  refine g_ald_n C 0 rfl rfl dX9_clear_15 ?_
  refine g_iconst C dX9_clear_16 ?_
  refine g_puti C dX9_clear_17 fl_X9_148 in_30 (ec_30 _ _ _ _ _) (Nat.le_of_ble_eq_true rfl) rfl (by decide) ?_
  refine g_ald_n C 0 rfl rfl dX9_clear_20 ?_
  refine g_bipush C rfl dX9_clear_21 ?_
  refine g_puti C dX9_clear_23 fl_X9_24 in_30 (ec_30 _ _ _ _ _) (Nat.le_of_ble_eq_true rfl) rfl (by decide) ?_
  refine g_ald_n C 0 rfl rfl dX9_clear_26 ?_
  refine g_iconst C dX9_clear_27 ?_
  refine g_puti C dX9_clear_28 fl_X9_28 in_30 (ec_30 _ _ _ _ _) (Nat.le_of_ble_eq_true rfl) rfl (by decide) ?_
  refine g_iconst C dX9_clear_31 ?_
  exact g_zret C rfl (Or.inr rfl) dX9_clear_32 hf
set_option maxHeartbeats 4000000 in
set_option maxRecDepth 100000 in
theorem c_X9_clear {l : Launch} {D : va_G} {Y : Nat → ClassId} {α : Adr}  {μ : Mem} {r : Int} {μ' : Mem}  (hf : f_X9_clear μ = some (r, μ')) : Ctr l D Y LBm yX9_clear cX9_clear 1 (some .boolean) 0 0 0 0 [vr α 30 0] α μ (some (vi r)) (fun a => a = α) μ' := Ctr_of pn_X9 rfl rfl (Nat.le_of_ble_eq_true rfl) LBm_nd (fun p e s m below meth c sz C => b_X9_clear C (Nat.le_refl _) (Nat.le_refl _)  hf)
end

/-! EndTellerModel.told -/
def f_X9_told (a1 : Int) (a2 : Int) (μ : Mem) : Option (Int × Mem) := bn (f_X9_isPart a1 (st (st μ 30 0 1 0) 30 0 0 0)) (fun r1 μ2 => (if w32 r1 = 0 then bn (f_X9_refuse 2 μ2) (fun r5 μ6 => some (r5, μ6)) else (if w32 a2 = 0 then gd (inb a1 10) (some ((μ2 34 0 (ix a1)), μ2)) else (if w32 a2 = 1 then bn (f_X9_sumOf a1 μ2) (fun r11 μ12 => some (r11, μ12)) else (if w32 a2 = 2 then gd (inb a1 10) (some ((μ2 35 0 (ix a1)), μ2)) else (if w32 a2 = 3 then gd (inb a1 10) (bn (f_J6_bitCount_0f7a4 (μ2 36 0 (ix a1)) μ2) (fun r18 μ19 => some (r18, μ19))) else (if w32 a2 = 4 then gd (inb a1 10) (some ((μ2 37 0 (ix a1)), μ2)) else bn (f_X9_refuse 5 μ2) (fun r23 μ24 => some (r23, μ24)))))))))
section
variable {p : Program} {l : Launch} {e : Env} {R : Room} {s : State} {m : MethodId} {args : Array Value} {below : List Frame} {meth : Method} {c : Code} {D : va_G} {Y : Nat → ClassId} {α : Adr} {sz : Nat} {r : Int} {μ' : Mem}
set_option maxHeartbeats 4000000 in
set_option maxRecDepth 100000 in
theorem b_X9_told {a1 : Int} {a2 : Int} {μ : Mem} (C : CX p s m args meth c cX9_told 3 RX9 (some .int) D Y LBm (Ar LBm α sz)) (hfr : 1 ≤ R.frames) (hlc : 23 ≤ R.locals)  (hf : f_X9_told a1 a2 μ = some (r, μ')) : GG D Y LBm (Ar LBm α sz) p l e R s m args below meth c 3 (MQ below (Qcx D Y LBm α sz (some (vi r)) (fun a => a = α) μ') args s 0 0 (Ar LBm α sz)) α 0 0 [(0, vr α 30 0), (1, vi a1), (2, vi a2)] [] μ 0 := by
  unfold f_X9_told at hf
  refine g_ald_n C 0 rfl rfl dX9_told_0 ?_
  refine g_iconst C dX9_told_1 ?_
  refine g_puti C dX9_told_2 fl_X9_95 in_30 (ec_30 _ _ _ _ _) (Nat.le_of_ble_eq_true rfl) rfl (by decide) ?_
  refine g_ald_n C 0 rfl rfl dX9_told_5 ?_
  refine g_iconst C dX9_told_6 ?_
  refine g_puti C dX9_told_7 fl_X9_98 in_30 (ec_30 _ _ _ _ _) (Nat.le_of_ble_eq_true rfl) rfl (by decide) ?_
  refine g_ald_n C 0 rfl rfl dX9_told_10 ?_
  refine g_ild_n C 1 rfl rfl dX9_told_11 ?_
  obtain ⟨r1, μ2, hc3, hf⟩ := bn_some hf
  refine g_callVp (As := [vi a1]) (rest := []) C ⟨Nat.zero_le _, Nat.zero_le _⟩ dX9_told_12 cw_X9_isPart m_4_189 m_4_191 m_0_14 in_30 (ec_30 _ _ _ _ _) rfl rfl (c_X9_isPart  hc3) rfl rfl (Nat.le_of_ble_eq_true rfl) ⟨Nat.le_trans (Nat.le_of_ble_eq_true rfl) hfr, Nat.le_trans (Nat.le_of_ble_eq_true rfl) hlc⟩ ?_
  refine g_if_ne C 24 (by decide) dX9_told_15 (fun h4 => ?_) (fun h4 => ?_)
  · rw [if_pos h4] at hf
    refine g_ald_n C 0 rfl rfl dX9_told_18 ?_
    refine g_iconst C dX9_told_19 ?_
    obtain ⟨r5, μ6, hc7, hf⟩ := bn_some hf
    refine g_callVp (As := [vi 2]) (rest := []) C ⟨Nat.zero_le _, Nat.zero_le _⟩ dX9_told_20 cw_X9_refuse m_4_164 m_4_166 m_0_11 in_30 (ec_30 _ _ _ _ _) rfl rfl (c_X9_refuse  hc7) rfl rfl (Nat.le_of_ble_eq_true rfl) ⟨Nat.le_trans (Nat.le_of_ble_eq_true rfl) hfr, Nat.le_trans (Nat.le_of_ble_eq_true rfl) hlc⟩ ?_
    exact g_iret C rfl dX9_told_23 hf
  · rw [if_neg h4] at hf
    refine g_ild_n C 2 rfl rfl dX9_told_24 ?_
    by_cases h8 : w32 a2 = 0
    · rw [if_pos h8] at hf
      refine g_tabIn C 60 dX9_told_25 (by omega) (by omega) (by rw [h8]; rfl) (by decide) ?_
      refine g_ald_n C 0 rfl rfl dX9_told_60 ?_
      refine g_get C dX9_told_61 fl_X9_31 in_30 (ec_30 _ _ _ _ _) rfl ?_
      refine g_ild_n C 1 rfl rfl dX9_told_64 ?_
      obtain ⟨g9, hf⟩ := gd_some hf
      refine g_iald C dX9_told_65 in_34 (fun _ => ec_34 _ _ _ _ _) g9 ?_
      exact g_iret C rfl dX9_told_66 hf
    rw [if_neg h8] at hf
    by_cases h10 : w32 a2 = 1
    · rw [if_pos h10] at hf
      refine g_tabIn C 67 dX9_told_25 (by omega) (by omega) (by rw [h10]; rfl) (by decide) ?_
      refine g_ald_n C 0 rfl rfl dX9_told_67 ?_
      refine g_ild_n C 1 rfl rfl dX9_told_68 ?_
      obtain ⟨r11, μ12, hc13, hf⟩ := bn_some hf
      refine g_callVp (As := [vi a1]) (rest := []) C ⟨Nat.zero_le _, Nat.zero_le _⟩ dX9_told_69 cw_X9_sumOf m_4_193 m_4_195 m_0_15 in_30 (ec_30 _ _ _ _ _) rfl rfl (c_X9_sumOf  hc13) rfl rfl (Nat.le_of_ble_eq_true rfl) ⟨Nat.le_trans (Nat.le_of_ble_eq_true rfl) hfr, Nat.le_trans (Nat.le_of_ble_eq_true rfl) hlc⟩ ?_
      exact g_iret C rfl dX9_told_72 hf
    rw [if_neg h10] at hf
    by_cases h14 : w32 a2 = 2
    · rw [if_pos h14] at hf
      refine g_tabIn C 73 dX9_told_25 (by omega) (by omega) (by rw [h14]; rfl) (by decide) ?_
      refine g_ald_n C 0 rfl rfl dX9_told_73 ?_
      refine g_get C dX9_told_74 fl_X9_34 in_30 (ec_30 _ _ _ _ _) rfl ?_
      refine g_ild_n C 1 rfl rfl dX9_told_77 ?_
      obtain ⟨g15, hf⟩ := gd_some hf
      refine g_iald C dX9_told_78 in_35 (fun _ => ec_35 _ _ _ _ _) g15 ?_
      exact g_iret C rfl dX9_told_79 hf
    rw [if_neg h14] at hf
    by_cases h16 : w32 a2 = 3
    · rw [if_pos h16] at hf
      refine g_tabIn C 80 dX9_told_25 (by omega) (by omega) (by rw [h16]; rfl) (by decide) ?_
      refine g_ald_n C 0 rfl rfl dX9_told_80 ?_
      refine g_get C dX9_told_81 fl_X9_37 in_30 (ec_30 _ _ _ _ _) rfl ?_
      refine g_ild_n C 1 rfl rfl dX9_told_84 ?_
      obtain ⟨g17, hf⟩ := gd_some hf
      refine g_iald C dX9_told_85 in_36 (fun _ => ec_36 _ _ _ _ _) g17 ?_
      obtain ⟨r18, μ19, hc20, hf⟩ := bn_some hf
      refine g_callSp (As := [vi (μ2 36 0 (ix a1))]) (rest := []) C ⟨Nat.zero_le _, Nat.zero_le _⟩ dX9_told_86 cw_J6_bitCount_0f7a4 m_4_225 m_3_14 (c_J6_bitCount_0f7a4m  hc20) rfl rfl (Nat.le_of_ble_eq_true rfl) ⟨Nat.le_trans (Nat.le_of_ble_eq_true rfl) hfr, Nat.le_trans (Nat.le_of_ble_eq_true rfl) hlc⟩ ?_
      exact g_iret C rfl dX9_told_89 hf
    rw [if_neg h16] at hf
    by_cases h21 : w32 a2 = 4
    · rw [if_pos h21] at hf
      refine g_tabIn C 90 dX9_told_25 (by omega) (by omega) (by rw [h21]; rfl) (by decide) ?_
      refine g_ald_n C 0 rfl rfl dX9_told_90 ?_
      refine g_get C dX9_told_91 fl_X9_40 in_30 (ec_30 _ _ _ _ _) rfl ?_
      refine g_ild_n C 1 rfl rfl dX9_told_94 ?_
      obtain ⟨g22, hf⟩ := gd_some hf
      refine g_iald C dX9_told_95 in_37 (fun _ => ec_37 _ _ _ _ _) g22 ?_
      exact g_iret C rfl dX9_told_96 hf
    rw [if_neg h21] at hf
    refine g_tabOut C 97 dX9_told_25 (by omega) (by decide) ?_
    refine g_ald_n C 0 rfl rfl dX9_told_97 ?_
    refine g_iconst C dX9_told_98 ?_
    obtain ⟨r23, μ24, hc25, hf⟩ := bn_some hf
    refine g_callVp (As := [vi 5]) (rest := []) C ⟨Nat.zero_le _, Nat.zero_le _⟩ dX9_told_99 cw_X9_refuse m_4_164 m_4_166 m_0_11 in_30 (ec_30 _ _ _ _ _) rfl rfl (c_X9_refuse  hc25) rfl rfl (Nat.le_of_ble_eq_true rfl) ⟨Nat.le_trans (Nat.le_of_ble_eq_true rfl) hfr, Nat.le_trans (Nat.le_of_ble_eq_true rfl) hlc⟩ ?_
    exact g_iret C rfl dX9_told_102 hf
set_option maxHeartbeats 4000000 in
set_option maxRecDepth 100000 in
theorem c_X9_told {l : Launch} {D : va_G} {Y : Nat → ClassId} {α : Adr} {a1 : Int} {a2 : Int} {μ : Mem} {r : Int} {μ' : Mem}  (hf : f_X9_told a1 a2 μ = some (r, μ')) : Ctr l D Y LBm yX9_told cX9_told 3 (some .int) 1 23 0 0 [vr α 30 0, vi a1, vi a2] α μ (some (vi r)) (fun a => a = α) μ' := Ctr_of pn_X9 rfl rfl (Nat.le_of_ble_eq_true rfl) LBm_nd (fun p e s m below meth c sz C => b_X9_told C (Nat.le_refl _) (Nat.le_refl _)  hf)
end

/-! EndTellerModel.row -/
def f_X9_row (a1 : Int) (a2 : Int) (a3 : Int) (μ : Mem) : Option (Int × Mem) := bn (f_X9_isPart a1 (st (st μ 30 0 1 0) 30 0 0 0)) (fun r1 μ2 => (if w32 r1 = 0 then bn (f_X9_refuse 2 μ2) (fun r5 μ6 => some (r5, μ6)) else (if w32 a2 < 0 then bn (f_X9_refuse 2 μ2) (fun r9 μ10 => some (r9, μ10)) else gd (inb a1 10) ((if w32 a2 < w32 (μ2 34 0 (ix a1)) then (if w32 a3 < 0 then bn (f_X9_refuse 5 μ2) (fun r15 μ16 => some (r15, μ16)) else (if w32 a3 ≤ w32 1 then (if w32 a3 = 0 then gd (inb ((8 * a1) + a2) 80) (some ((μ2 38 0 (ix ((8 * a1) + a2))), μ2)) else gd (inb ((8 * a1) + a2) 80) (some ((μ2 39 0 (ix ((8 * a1) + a2))), μ2))) else bn (f_X9_refuse 5 μ2) (fun r22 μ23 => some (r22, μ23)))) else bn (f_X9_refuse 2 μ2) (fun r25 μ26 => some (r25, μ26)))))))
section
variable {p : Program} {l : Launch} {e : Env} {R : Room} {s : State} {m : MethodId} {args : Array Value} {below : List Frame} {meth : Method} {c : Code} {D : va_G} {Y : Nat → ClassId} {α : Adr} {sz : Nat} {r : Int} {μ' : Mem}
set_option maxHeartbeats 4000000 in
set_option maxRecDepth 100000 in
theorem b_X9_row {a1 : Int} {a2 : Int} {a3 : Int} {μ : Mem} (C : CX p s m args meth c cX9_row 4 RX9 (some .int) D Y LBm (Ar LBm α sz)) (hfr : 1 ≤ R.frames) (hlc : 21 ≤ R.locals)  (hf : f_X9_row a1 a2 a3 μ = some (r, μ')) : GG D Y LBm (Ar LBm α sz) p l e R s m args below meth c 4 (MQ below (Qcx D Y LBm α sz (some (vi r)) (fun a => a = α) μ') args s 0 0 (Ar LBm α sz)) α 0 0 [(0, vr α 30 0), (1, vi a1), (2, vi a2), (3, vi a3)] [] μ 0 := by
  unfold f_X9_row at hf
  refine g_ald_n C 0 rfl rfl dX9_row_0 ?_
  refine g_iconst C dX9_row_1 ?_
  refine g_puti C dX9_row_2 fl_X9_95 in_30 (ec_30 _ _ _ _ _) (Nat.le_of_ble_eq_true rfl) rfl (by decide) ?_
  refine g_ald_n C 0 rfl rfl dX9_row_5 ?_
  refine g_iconst C dX9_row_6 ?_
  refine g_puti C dX9_row_7 fl_X9_98 in_30 (ec_30 _ _ _ _ _) (Nat.le_of_ble_eq_true rfl) rfl (by decide) ?_
  refine g_ald_n C 0 rfl rfl dX9_row_10 ?_
  refine g_ild_n C 1 rfl rfl dX9_row_11 ?_
  obtain ⟨r1, μ2, hc3, hf⟩ := bn_some hf
  refine g_callVp (As := [vi a1]) (rest := []) C ⟨Nat.zero_le _, Nat.zero_le _⟩ dX9_row_12 cw_X9_isPart m_4_189 m_4_191 m_0_14 in_30 (ec_30 _ _ _ _ _) rfl rfl (c_X9_isPart  hc3) rfl rfl (Nat.le_of_ble_eq_true rfl) ⟨Nat.le_trans (Nat.le_of_ble_eq_true rfl) hfr, Nat.le_trans (Nat.le_of_ble_eq_true rfl) hlc⟩ ?_
  refine g_if_eq C 32 (by decide) dX9_row_15 (fun h4 => ?_) (fun h4 => ?_)
  · rw [if_pos h4] at hf
    refine g_ald_n C 0 rfl rfl dX9_row_32 ?_
    refine g_iconst C dX9_row_33 ?_
    obtain ⟨r5, μ6, hc7, hf⟩ := bn_some hf
    refine g_callVp (As := [vi 2]) (rest := []) C ⟨Nat.zero_le _, Nat.zero_le _⟩ dX9_row_34 cw_X9_refuse m_4_164 m_4_166 m_0_11 in_30 (ec_30 _ _ _ _ _) rfl rfl (c_X9_refuse  hc7) rfl rfl (Nat.le_of_ble_eq_true rfl) ⟨Nat.le_trans (Nat.le_of_ble_eq_true rfl) hfr, Nat.le_trans (Nat.le_of_ble_eq_true rfl) hlc⟩ ?_
    exact g_iret C rfl dX9_row_37 hf
  · rw [if_neg h4] at hf
    refine g_ild_n C 2 rfl rfl dX9_row_18 ?_
    refine g_if_lt C 32 (by decide) dX9_row_19 (fun h8 => ?_) (fun h8 => ?_)
    · rw [if_pos h8] at hf
      refine g_ald_n C 0 rfl rfl dX9_row_32 ?_
      refine g_iconst C dX9_row_33 ?_
      obtain ⟨r9, μ10, hc11, hf⟩ := bn_some hf
      refine g_callVp (As := [vi 2]) (rest := []) C ⟨Nat.zero_le _, Nat.zero_le _⟩ dX9_row_34 cw_X9_refuse m_4_164 m_4_166 m_0_11 in_30 (ec_30 _ _ _ _ _) rfl rfl (c_X9_refuse  hc11) rfl rfl (Nat.le_of_ble_eq_true rfl) ⟨Nat.le_trans (Nat.le_of_ble_eq_true rfl) hfr, Nat.le_trans (Nat.le_of_ble_eq_true rfl) hlc⟩ ?_
      exact g_iret C rfl dX9_row_37 hf
    · rw [if_neg h8] at hf
      refine g_ild_n C 2 rfl rfl dX9_row_22 ?_
      refine g_ald_n C 0 rfl rfl dX9_row_23 ?_
      refine g_get C dX9_row_24 fl_X9_31 in_30 (ec_30 _ _ _ _ _) rfl ?_
      refine g_ild_n C 1 rfl rfl dX9_row_27 ?_
      obtain ⟨g12, hf⟩ := gd_some hf
      refine g_iald C dX9_row_28 in_34 (fun _ => ec_34 _ _ _ _ _) g12 ?_
      refine g_ic_lt C 38 (by decide) dX9_row_29 (fun h13 => ?_) (fun h13 => ?_)
      · rw [if_pos h13] at hf
        refine g_ild_n C 3 rfl rfl dX9_row_38 ?_
        refine g_if_lt C 47 (by decide) dX9_row_39 (fun h14 => ?_) (fun h14 => ?_)
        · rw [if_pos h14] at hf
          refine g_ald_n C 0 rfl rfl dX9_row_47 ?_
          refine g_iconst C dX9_row_48 ?_
          obtain ⟨r15, μ16, hc17, hf⟩ := bn_some hf
          refine g_callVp (As := [vi 5]) (rest := []) C ⟨Nat.zero_le _, Nat.zero_le _⟩ dX9_row_49 cw_X9_refuse m_4_164 m_4_166 m_0_11 in_30 (ec_30 _ _ _ _ _) rfl rfl (c_X9_refuse  hc17) rfl rfl (Nat.le_of_ble_eq_true rfl) ⟨Nat.le_trans (Nat.le_of_ble_eq_true rfl) hfr, Nat.le_trans (Nat.le_of_ble_eq_true rfl) hlc⟩ ?_
          exact g_iret C rfl dX9_row_52 hf
        · rw [if_neg h14] at hf
          refine g_ild_n C 3 rfl rfl dX9_row_42 ?_
          refine g_iconst C dX9_row_43 ?_
          refine g_ic_le C 53 (by decide) dX9_row_44 (fun h18 => ?_) (fun h18 => ?_)
          · rw [if_pos h18] at hf
            refine g_ild_n C 3 rfl rfl dX9_row_53 ?_
            refine g_if_ne C 71 (by decide) dX9_row_54 (fun h19 => ?_) (fun h19 => ?_)
            · rw [if_pos h19] at hf
              refine g_ald_n C 0 rfl rfl dX9_row_57 ?_
              refine g_get C dX9_row_58 fl_X9_43 in_30 (ec_30 _ _ _ _ _) rfl ?_
              refine g_bipush C rfl dX9_row_61 ?_
              refine g_ild_n C 1 rfl rfl dX9_row_63 ?_
              refine g_imul C dX9_row_64 ?_
              refine g_ild_n C 2 rfl rfl dX9_row_65 ?_
              refine g_iadd C dX9_row_66 ?_
              obtain ⟨g20, hf⟩ := gd_some hf
              refine g_iald C dX9_row_67 in_38 (fun _ => ec_38 _ _ _ _ _) g20 ?_
              refine g_goto C 82 (by decide) dX9_row_68 ?_
              exact g_iret C rfl dX9_row_82 hf
            · rw [if_neg h19] at hf
              refine g_ald_n C 0 rfl rfl dX9_row_71 ?_
              refine g_get C dX9_row_72 fl_X9_46 in_30 (ec_30 _ _ _ _ _) rfl ?_
              refine g_bipush C rfl dX9_row_75 ?_
              refine g_ild_n C 1 rfl rfl dX9_row_77 ?_
              refine g_imul C dX9_row_78 ?_
              refine g_ild_n C 2 rfl rfl dX9_row_79 ?_
              refine g_iadd C dX9_row_80 ?_
              obtain ⟨g21, hf⟩ := gd_some hf
              refine g_iald C dX9_row_81 in_39 (fun _ => ec_39 _ _ _ _ _) g21 ?_
              exact g_iret C rfl dX9_row_82 hf
          · rw [if_neg h18] at hf
            refine g_ald_n C 0 rfl rfl dX9_row_47 ?_
            refine g_iconst C dX9_row_48 ?_
            obtain ⟨r22, μ23, hc24, hf⟩ := bn_some hf
            refine g_callVp (As := [vi 5]) (rest := []) C ⟨Nat.zero_le _, Nat.zero_le _⟩ dX9_row_49 cw_X9_refuse m_4_164 m_4_166 m_0_11 in_30 (ec_30 _ _ _ _ _) rfl rfl (c_X9_refuse  hc24) rfl rfl (Nat.le_of_ble_eq_true rfl) ⟨Nat.le_trans (Nat.le_of_ble_eq_true rfl) hfr, Nat.le_trans (Nat.le_of_ble_eq_true rfl) hlc⟩ ?_
            exact g_iret C rfl dX9_row_52 hf
      · rw [if_neg h13] at hf
        refine g_ald_n C 0 rfl rfl dX9_row_32 ?_
        refine g_iconst C dX9_row_33 ?_
        obtain ⟨r25, μ26, hc27, hf⟩ := bn_some hf
        refine g_callVp (As := [vi 2]) (rest := []) C ⟨Nat.zero_le _, Nat.zero_le _⟩ dX9_row_34 cw_X9_refuse m_4_164 m_4_166 m_0_11 in_30 (ec_30 _ _ _ _ _) rfl rfl (c_X9_refuse  hc27) rfl rfl (Nat.le_of_ble_eq_true rfl) ⟨Nat.le_trans (Nat.le_of_ble_eq_true rfl) hfr, Nat.le_trans (Nat.le_of_ble_eq_true rfl) hlc⟩ ?_
        exact g_iret C rfl dX9_row_37 hf
set_option maxHeartbeats 4000000 in
set_option maxRecDepth 100000 in
theorem c_X9_row {l : Launch} {D : va_G} {Y : Nat → ClassId} {α : Adr} {a1 : Int} {a2 : Int} {a3 : Int} {μ : Mem} {r : Int} {μ' : Mem}  (hf : f_X9_row a1 a2 a3 μ = some (r, μ')) : Ctr l D Y LBm yX9_row cX9_row 4 (some .int) 1 21 0 0 [vr α 30 0, vi a1, vi a2, vi a3] α μ (some (vi r)) (fun a => a = α) μ' := Ctr_of pn_X9 rfl rfl (Nat.le_of_ble_eq_true rfl) LBm_nd (fun p e s m below meth c sz C => b_X9_row C (Nat.le_refl _) (Nat.le_refl _)  hf)
end

/-! EndTellerModel.tells -/
def f_X9_tells (a1 : Int) (a3 : Int) (μ : Mem) : Option (Int × Mem) := bn (f_X9_common a1 a3 μ) (fun r1 μ2 => gd (¬ w64 r1 = 0) (gd (¬ w64 r1 = 0) (some (0, (st (st μ2 30 0 2 (Int.tdiv (w64 a1) (w64 r1))) 30 0 3 (Int.tdiv (w64 a3) (w64 r1)))))))
section
variable {p : Program} {l : Launch} {e : Env} {R : Room} {s : State} {m : MethodId} {args : Array Value} {below : List Frame} {meth : Method} {c : Code} {D : va_G} {Y : Nat → ClassId} {α : Adr} {sz : Nat} {r : Int} {μ' : Mem}
set_option maxHeartbeats 4000000 in
set_option maxRecDepth 100000 in
theorem b_X9_tells {a1 : Int} {a3 : Int} {μ : Mem} (C : CX p s m args meth c cX9_tells 7 RX9 (some .int) D Y LBm (Ar LBm α sz)) (hfr : 1 ≤ R.frames) (hlc : 29 ≤ R.locals)  (hf : f_X9_tells a1 a3 μ = some (r, μ')) : GG D Y LBm (Ar LBm α sz) p l e R s m args below meth c 7 (MQ below (Qcx D Y LBm α sz (some (vi r)) (fun a => a = α) μ') args s 0 0 (Ar LBm α sz)) α 0 0 [(0, vr α 30 0), (1, vl a1), (3, vl a3)] [] μ 0 := by
  unfold f_X9_tells at hf
  refine g_lld_n C 1 rfl rfl dX9_tells_0 ?_
  refine g_lld_n C 2 rfl rfl dX9_tells_1 ?_
  obtain ⟨r1, μ2, hc3, hf⟩ := bn_some hf
  refine g_callSp (As := [vl a1, vl a3]) (rest := []) C ⟨Nat.zero_le _, Nat.zero_le _⟩ dX9_tells_2 cw_X9_common m_4_178 m_4_179 (c_X9_common  hc3) rfl rfl (Nat.le_of_ble_eq_true rfl) ⟨Nat.le_trans (Nat.le_of_ble_eq_true rfl) hfr, Nat.le_trans (Nat.le_of_ble_eq_true rfl) hlc⟩ ?_
  refine g_lst (lo' := [(5, vl r1), (0, vr α 30 0), (1, vl a1), (3, vl a3)]) C (by decide) rfl dX9_tells_5 ?_
  refine g_ald_n C 1 rfl rfl dX9_tells_7 ?_
  refine g_lld_n C 2 rfl rfl dX9_tells_8 ?_
  refine g_lld C 0 rfl dX9_tells_9 ?_
  obtain ⟨g4, hf⟩ := gd_some hf
  refine g_ldiv C g4 dX9_tells_11 ?_
  refine g_putl C dX9_tells_12 fl_X9_156 in_30 (ec_30 _ _ _ _ _) (Nat.le_of_ble_eq_true rfl) rfl (by decide) ?_
  refine g_ald_n C 1 rfl rfl dX9_tells_15 ?_
  refine g_lld_n C 3 rfl rfl dX9_tells_16 ?_
  refine g_lld C 0 rfl dX9_tells_17 ?_
  obtain ⟨g5, hf⟩ := gd_some hf
  refine g_ldiv C g5 dX9_tells_19 ?_
  refine g_putl C dX9_tells_20 fl_X9_7 in_30 (ec_30 _ _ _ _ _) (Nat.le_of_ble_eq_true rfl) rfl (by decide) ?_
  refine g_iconst C dX9_tells_23 ?_
  exact g_iret C rfl dX9_tells_24 hf
set_option maxHeartbeats 4000000 in
set_option maxRecDepth 100000 in
theorem c_X9_tells {l : Launch} {D : va_G} {Y : Nat → ClassId} {α : Adr} {a1 : Int} {a3 : Int} {μ : Mem} {r : Int} {μ' : Mem}  (hf : f_X9_tells a1 a3 μ = some (r, μ')) : Ctr l D Y LBm yX9_tells cX9_tells 7 (some .int) 1 29 0 0 [vr α 30 0, vl a1, vl a3] α μ (some (vi r)) (fun a => a = α) μ' := Ctr_of pn_X9 rfl rfl (Nat.le_of_ble_eq_true rfl) LBm_nd (fun p e s m below meth c sz C => b_X9_tells C (Nat.le_refl _) (Nat.le_refl _)  hf)
end

/-! EndTellerModel.upper -/
def f_X9_upper  (μ : Mem) : Option (Int × Mem) := some (((st μ 30 0 1 0) 30 0 2), (st μ 30 0 1 0))
section
variable {p : Program} {l : Launch} {e : Env} {R : Room} {s : State} {m : MethodId} {args : Array Value} {below : List Frame} {meth : Method} {c : Code} {D : va_G} {Y : Nat → ClassId} {α : Adr} {sz : Nat} {r : Int} {μ' : Mem}
set_option maxHeartbeats 4000000 in
set_option maxRecDepth 100000 in
theorem b_X9_upper  {μ : Mem} (C : CX p s m args meth c cX9_upper 1 RX9 (some .long) D Y LBm (Ar LBm α sz)) (hfr : 0 ≤ R.frames) (hlc : 0 ≤ R.locals)  (hf : f_X9_upper μ = some (r, μ')) : GG D Y LBm (Ar LBm α sz) p l e R s m args below meth c 1 (MQ below (Qcx D Y LBm α sz (some (vl r)) (fun a => a = α) μ') args s 0 0 (Ar LBm α sz)) α 0 0 [(0, vr α 30 0)] [] μ 0 := by
  unfold f_X9_upper at hf
  refine g_ald_n C 0 rfl rfl dX9_upper_0 ?_
  refine g_iconst C dX9_upper_1 ?_
  refine g_puti C dX9_upper_2 fl_X9_95 in_30 (ec_30 _ _ _ _ _) (Nat.le_of_ble_eq_true rfl) rfl (by decide) ?_
  refine g_ald_n C 0 rfl rfl dX9_upper_5 ?_
  refine g_get C dX9_upper_6 fl_X9_156 in_30 (ec_30 _ _ _ _ _) rfl ?_
  exact g_lret C rfl dX9_upper_9 hf
set_option maxHeartbeats 4000000 in
set_option maxRecDepth 100000 in
theorem c_X9_upper {l : Launch} {D : va_G} {Y : Nat → ClassId} {α : Adr}  {μ : Mem} {r : Int} {μ' : Mem}  (hf : f_X9_upper μ = some (r, μ')) : Ctr l D Y LBm yX9_upper cX9_upper 1 (some .long) 0 0 0 0 [vr α 30 0] α μ (some (vl r)) (fun a => a = α) μ' := Ctr_of pn_X9 rfl rfl (Nat.le_of_ble_eq_true rfl) LBm_nd (fun p e s m below meth c sz C => b_X9_upper C (Nat.le_refl _) (Nat.le_refl _)  hf)
end

/-! EndTellerModel.lower -/
def f_X9_lower  (μ : Mem) : Option (Int × Mem) := some (((st μ 30 0 1 0) 30 0 3), (st μ 30 0 1 0))
section
variable {p : Program} {l : Launch} {e : Env} {R : Room} {s : State} {m : MethodId} {args : Array Value} {below : List Frame} {meth : Method} {c : Code} {D : va_G} {Y : Nat → ClassId} {α : Adr} {sz : Nat} {r : Int} {μ' : Mem}
set_option maxHeartbeats 4000000 in
set_option maxRecDepth 100000 in
theorem b_X9_lower  {μ : Mem} (C : CX p s m args meth c cX9_lower 1 RX9 (some .long) D Y LBm (Ar LBm α sz)) (hfr : 0 ≤ R.frames) (hlc : 0 ≤ R.locals)  (hf : f_X9_lower μ = some (r, μ')) : GG D Y LBm (Ar LBm α sz) p l e R s m args below meth c 1 (MQ below (Qcx D Y LBm α sz (some (vl r)) (fun a => a = α) μ') args s 0 0 (Ar LBm α sz)) α 0 0 [(0, vr α 30 0)] [] μ 0 := by
  unfold f_X9_lower at hf
  refine g_ald_n C 0 rfl rfl dX9_lower_0 ?_
  refine g_iconst C dX9_lower_1 ?_
  refine g_puti C dX9_lower_2 fl_X9_95 in_30 (ec_30 _ _ _ _ _) (Nat.le_of_ble_eq_true rfl) rfl (by decide) ?_
  refine g_ald_n C 0 rfl rfl dX9_lower_5 ?_
  refine g_get C dX9_lower_6 fl_X9_7 in_30 (ec_30 _ _ _ _ _) rfl ?_
  exact g_lret C rfl dX9_lower_9 hf
set_option maxHeartbeats 4000000 in
set_option maxRecDepth 100000 in
theorem c_X9_lower {l : Launch} {D : va_G} {Y : Nat → ClassId} {α : Adr}  {μ : Mem} {r : Int} {μ' : Mem}  (hf : f_X9_lower μ = some (r, μ')) : Ctr l D Y LBm yX9_lower cX9_lower 1 (some .long) 0 0 0 0 [vr α 30 0] α μ (some (vl r)) (fun a => a = α) μ' := Ctr_of pn_X9 rfl rfl (Nat.le_of_ble_eq_true rfl) LBm_nd (fun p e s m below meth c sz C => b_X9_lower C (Nat.le_refl _) (Nat.le_refl _)  hf)
end
