/-! EndTellerModel.status -/
def f_X9_status  (μ : Mem) : Option (Int × Mem) := some (((st μ 30 0 1 0) 30 0 0), (st μ 30 0 1 0))
section
variable {p : Program} {l : Launch} {e : Env} {R : Room} {s : State} {m : MethodId} {args : Array Value} {below : List Frame} {meth : Method} {c : Code} {D : va_G} {Y : Nat → ClassId} {α : Adr} {sz : Nat} {r : Int} {μ' : Mem}
set_option maxHeartbeats 4000000 in
set_option maxRecDepth 100000 in
theorem b_X9_status  {μ : Mem} (C : CX p s m args meth c cX9_status 1 RX9 (some .int) D Y LBm (Ar LBm α sz)) (hfr : 0 ≤ R.frames) (hlc : 0 ≤ R.locals)  (hf : f_X9_status μ = some (r, μ')) : GG D Y LBm (Ar LBm α sz) p l e R s m args below meth c 1 (MQ below (Qcx D Y LBm α sz (some (vi r)) (fun a => a = α) μ') args s 0 0 (Ar LBm α sz)) α 0 0 [(0, vr α 30 0)] [] μ 0 := by
  unfold f_X9_status at hf
  refine g_ald_n C 0 rfl rfl dX9_status_0 ?_
  refine g_iconst C dX9_status_1 ?_
  refine g_puti C dX9_status_2 fl_X9_95 in_30 (ec_30 _ _ _ _ _) (Nat.le_of_ble_eq_true rfl) rfl (by decide) ?_
  refine g_ald_n C 0 rfl rfl dX9_status_5 ?_
  refine g_get C dX9_status_6 fl_X9_98 in_30 (ec_30 _ _ _ _ _) rfl ?_
  exact g_iret C rfl dX9_status_9 hf
set_option maxHeartbeats 4000000 in
set_option maxRecDepth 100000 in
theorem c_X9_status {l : Launch} {D : va_G} {Y : Nat → ClassId} {α : Adr}  {μ : Mem} {r : Int} {μ' : Mem}  (hf : f_X9_status μ = some (r, μ')) : Ctr l D Y LBm yX9_status cX9_status 1 (some .int) 0 0 0 0 [vr α 30 0] α μ (some (vi r)) (fun a => a = α) μ' := Ctr_of pn_X9 rfl rfl (Nat.le_of_ble_eq_true rfl) LBm_nd (fun p e s m below meth c sz C => b_X9_status C (Nat.le_refl _) (Nat.le_refl _)  hf)
end

/-! EndTellerModel.refuse -/
def f_X9_refuse (a1 : Int) (μ : Mem) : Option (Int × Mem) := some ((-1), (st μ 30 0 0 a1))
section
variable {p : Program} {l : Launch} {e : Env} {R : Room} {s : State} {m : MethodId} {args : Array Value} {below : List Frame} {meth : Method} {c : Code} {D : va_G} {Y : Nat → ClassId} {α : Adr} {sz : Nat} {r : Int} {μ' : Mem}
set_option maxHeartbeats 4000000 in
set_option maxRecDepth 100000 in
theorem b_X9_refuse {a1 : Int} {μ : Mem} (C : CX p s m args meth c cX9_refuse 2 RX9 (some .int) D Y LBm (Ar LBm α sz)) (hfr : 0 ≤ R.frames) (hlc : 0 ≤ R.locals)  (hf : f_X9_refuse a1 μ = some (r, μ')) : GG D Y LBm (Ar LBm α sz) p l e R s m args below meth c 2 (MQ below (Qcx D Y LBm α sz (some (vi r)) (fun a => a = α) μ') args s 0 0 (Ar LBm α sz)) α 0 0 [(0, vr α 30 0), (1, vi a1)] [] μ 0 := by
  unfold f_X9_refuse at hf
  refine g_ald_n C 0 rfl rfl dX9_refuse_0 ?_
  refine g_ild_n C 1 rfl rfl dX9_refuse_1 ?_
  refine g_puti C dX9_refuse_2 fl_X9_98 in_30 (ec_30 _ _ _ _ _) (Nat.le_of_ble_eq_true rfl) rfl (by decide) ?_
  refine g_iconst C dX9_refuse_5 ?_
  exact g_iret C rfl dX9_refuse_6 hf
set_option maxHeartbeats 4000000 in
set_option maxRecDepth 100000 in
theorem c_X9_refuse {l : Launch} {D : va_G} {Y : Nat → ClassId} {α : Adr} {a1 : Int} {μ : Mem} {r : Int} {μ' : Mem}  (hf : f_X9_refuse a1 μ = some (r, μ')) : Ctr l D Y LBm yX9_refuse cX9_refuse 2 (some .int) 0 0 0 0 [vr α 30 0, vi a1] α μ (some (vi r)) (fun a => a = α) μ' := Ctr_of pn_X9 rfl rfl (Nat.le_of_ble_eq_true rfl) LBm_nd (fun p e s m below meth c sz C => b_X9_refuse C (Nat.le_refl _) (Nat.le_refl _)  hf)
end

/-! EndTellerModel.no -/
def f_X9_no (a1 : Int) (μ : Mem) : Option (Int × Mem) := some (0, (st μ 30 0 0 a1))
section
variable {p : Program} {l : Launch} {e : Env} {R : Room} {s : State} {m : MethodId} {args : Array Value} {below : List Frame} {meth : Method} {c : Code} {D : va_G} {Y : Nat → ClassId} {α : Adr} {sz : Nat} {r : Int} {μ' : Mem}
set_option maxHeartbeats 4000000 in
set_option maxRecDepth 100000 in
theorem b_X9_no {a1 : Int} {μ : Mem} (C : CX p s m args meth c cX9_no 2 RX9 (some .boolean) D Y LBm (Ar LBm α sz)) (hfr : 0 ≤ R.frames) (hlc : 0 ≤ R.locals)  (hf : f_X9_no a1 μ = some (r, μ')) : GG D Y LBm (Ar LBm α sz) p l e R s m args below meth c 2 (MQ below (Qcx D Y LBm α sz (some (vi r)) (fun a => a = α) μ') args s 0 0 (Ar LBm α sz)) α 0 0 [(0, vr α 30 0), (1, vi a1)] [] μ 0 := by
  unfold f_X9_no at hf
  refine g_ald_n C 0 rfl rfl dX9_no_0 ?_
  refine g_ild_n C 1 rfl rfl dX9_no_1 ?_
  refine g_puti C dX9_no_2 fl_X9_98 in_30 (ec_30 _ _ _ _ _) (Nat.le_of_ble_eq_true rfl) rfl (by decide) ?_
  refine g_iconst C dX9_no_5 ?_
  exact g_zret C rfl (Or.inl rfl) dX9_no_6 hf
set_option maxHeartbeats 4000000 in
set_option maxRecDepth 100000 in
theorem c_X9_no {l : Launch} {D : va_G} {Y : Nat → ClassId} {α : Adr} {a1 : Int} {μ : Mem} {r : Int} {μ' : Mem}  (hf : f_X9_no a1 μ = some (r, μ')) : Ctr l D Y LBm yX9_no cX9_no 2 (some .boolean) 0 0 0 0 [vr α 30 0, vi a1] α μ (some (vi r)) (fun a => a = α) μ' := Ctr_of pn_X9 rfl rfl (Nat.le_of_ble_eq_true rfl) LBm_nd (fun p e s m below meth c sz C => b_X9_no C (Nat.le_refl _) (Nat.le_refl _)  hf)
end

/-! EndTellerModel.cut -/
def f_X9_cut (a0 : Int) (a1 : Int) (μ : Mem) : Option (Int × Mem) := (if w32 a0 = 0 then some ((w32 (i8 a1)), μ) else (if w32 a0 = w32 1 then some ((w32 (i16 a1)), μ) else (if w32 a0 = w32 2 then some ((w32 a1), μ) else some (a1, μ))))
section
variable {p : Program} {l : Launch} {e : Env} {R : Room} {s : State} {m : MethodId} {args : Array Value} {below : List Frame} {meth : Method} {c : Code} {D : va_G} {Y : Nat → ClassId} {α : Adr} {sz : Nat} {r : Int} {μ' : Mem}
set_option maxHeartbeats 4000000 in
set_option maxRecDepth 100000 in
theorem b_X9_cut {a0 : Int} {a1 : Int} {μ : Mem} (C : CX p s m args meth c cX9_cut 3 RX9 (some .long) D Y LBm (Ar LBm α sz)) (hfr : 0 ≤ R.frames) (hlc : 0 ≤ R.locals)  (hf : f_X9_cut a0 a1 μ = some (r, μ')) : GG D Y LBm (Ar LBm α sz) p l e R s m args below meth c 3 (MQ below (Qcx D Y LBm α sz (some (vl r)) (fun a => a = α) μ') args s 0 0 (Ar LBm α sz)) α 0 0 [(0, vi a0), (1, vl a1)] [] μ 0 := by
  unfold f_X9_cut at hf
  refine g_ild_n C 0 rfl rfl dX9_cut_0 ?_
  refine g_if_ne C 11 (by decide) dX9_cut_1 (fun h1 => ?_) (fun h1 => ?_)
  · rw [if_pos h1] at hf
    refine g_lld_n C 1 rfl rfl dX9_cut_4 ?_
    refine g_l2i C dX9_cut_5 ?_
    refine g_i2b C dX9_cut_6 ?_
    refine g_i2l C dX9_cut_7 ?_
    refine g_goto C 35 (by decide) dX9_cut_8 ?_
    exact g_lret C rfl dX9_cut_35 hf
  · rw [if_neg h1] at hf
    refine g_ild_n C 0 rfl rfl dX9_cut_11 ?_
    refine g_iconst C dX9_cut_12 ?_
    refine g_ic_ne C 23 (by decide) dX9_cut_13 (fun h2 => ?_) (fun h2 => ?_)
    · rw [if_pos h2] at hf
      refine g_lld_n C 1 rfl rfl dX9_cut_16 ?_
      refine g_l2i C dX9_cut_17 ?_
      refine g_i2s C dX9_cut_18 ?_
      refine g_i2l C dX9_cut_19 ?_
      refine g_goto C 35 (by decide) dX9_cut_20 ?_
      exact g_lret C rfl dX9_cut_35 hf
    · rw [if_neg h2] at hf
      refine g_ild_n C 0 rfl rfl dX9_cut_23 ?_
      refine g_iconst C dX9_cut_24 ?_
      refine g_ic_ne C 34 (by decide) dX9_cut_25 (fun h3 => ?_) (fun h3 => ?_)
      · rw [if_pos h3] at hf
        refine g_lld_n C 1 rfl rfl dX9_cut_28 ?_
        refine g_l2i C dX9_cut_29 ?_
        refine g_i2l C dX9_cut_30 ?_
        refine g_goto C 35 (by decide) dX9_cut_31 ?_
        exact g_lret C rfl dX9_cut_35 hf
      · rw [if_neg h3] at hf
        refine g_lld_n C 1 rfl rfl dX9_cut_34 ?_
        exact g_lret C rfl dX9_cut_35 hf
set_option maxHeartbeats 4000000 in
set_option maxRecDepth 100000 in
theorem c_X9_cut {l : Launch} {D : va_G} {Y : Nat → ClassId} {α : Adr} {a0 : Int} {a1 : Int} {μ : Mem} {r : Int} {μ' : Mem}  (hf : f_X9_cut a0 a1 μ = some (r, μ')) : Ctr l D Y LBm yX9_cut cX9_cut 3 (some .long) 0 0 0 0 [vi a0, vl a1] α μ (some (vl r)) (fun a => a = α) μ' := Ctr_of pn_X9 rfl rfl (Nat.le_of_ble_eq_true rfl) LBm_nd (fun p e s m below meth c sz C => b_X9_cut C (Nat.le_refl _) (Nat.le_refl _)  hf)
end

/-! EndTellerModel.tray -/
def f_X9_tray_L74 (x1 : Int) (x3 : Int) : Nat → Int → Mem → Option (Int × Mem)
  | 0, _, _ => none
  | n + 1, x4, μ => (if w32 x3 ≤ w32 x4 then some (1, μ) else gd (inb ((40 * x1) + x4) 160) (f_X9_tray_L74 x1 x3 n (x4 + 1) (st μ 33 0 (ix ((40 * x1) + x4)) 0)))
def f_X9_tray (a1 : Int) (a2 : Int) (a3 : Int) (μ : Mem) : Option (Int × Mem) := (if w32 a1 < 0 then bn (f_X9_no 1 (st (st μ 30 0 1 0) 30 0 0 0)) (fun r2 μ3 => gd (bb r2) (some (r2, μ3))) else (if w32 4 ≤ w32 a1 then bn (f_X9_no 1 (st (st μ 30 0 1 0) 30 0 0 0)) (fun r7 μ8 => gd (bb r7) (some (r7, μ8))) else (if w32 a2 < 0 then bn (f_X9_no 1 (st (st μ 30 0 1 0) 30 0 0 0)) (fun r12 μ13 => gd (bb r12) (some (r12, μ13))) else (if w32 a2 ≤ w32 3 then (if w32 a3 ≤ w32 40 then (if 0 ≤ w32 a3 then gd (inb a1 4) (gd (inb a1 4) (f_X9_tray_L74 a1 a3 FU 0 (st (st (st (st μ 30 0 1 0) 30 0 0 0) 31 0 (ix a1) a2) 32 0 (ix a1) a3))) else bn (f_X9_no 6 (st (st μ 30 0 1 0) 30 0 0 0)) (fun r23 μ24 => gd (bb r23) (some (r23, μ24)))) else bn (f_X9_no 5 (st (st μ 30 0 1 0) 30 0 0 0)) (fun r27 μ28 => gd (bb r27) (some (r27, μ28)))) else bn (f_X9_no 1 (st (st μ 30 0 1 0) 30 0 0 0)) (fun r31 μ32 => gd (bb r31) (some (r31, μ32)))))))
section
variable {p : Program} {l : Launch} {e : Env} {R : Room} {s : State} {m : MethodId} {args : Array Value} {below : List Frame} {meth : Method} {c : Code} {D : va_G} {Y : Nat → ClassId} {α : Adr} {sz : Nat} {r : Int} {μ' : Mem}
set_option maxHeartbeats 4000000 in
set_option maxRecDepth 100000 in
theorem c_X9_tray_l74 {x1 : Int} {x3 : Int} (C : CX p s m args meth c cX9_tray 5 RX9 (some .boolean) D Y LBm (Ar LBm α sz)) (hfr : 1 ≤ R.frames) (hlc : 21 ≤ R.locals)    : ∀ (n : Nat) (x4 : Int) (μ : Mem), f_X9_tray_L74 x1 x3 n x4 μ = some (r, μ') → GG D Y LBm (Ar LBm α sz) p l e R s m args below meth c 5 (MQ below (Qcx D Y LBm α sz (some (vi r)) (fun a => a = α) μ') args s 0 0 (Ar LBm α sz)) α 0 0 [(0, vr α 30 0), (1, vi x1), (3, vi x3), (4, vi x4)] [] μ 74 := by
  intro n
  induction n with
  | zero =>
    intro x4 μ hf
    exact nomatch (show (none : Option (Int × Mem)) = some _ from hf)
  | succ n ih =>
    intro x4 μ hf
    rw [f_X9_tray_L74.eq_2] at hf
    refine g_ild C 3 rfl dX9_tray_74 ?_
    refine g_ild_n C 2 rfl rfl dX9_tray_76 ?_
    refine g_ic_ge C 99 (by decide) dX9_tray_77 (fun h21 => ?_) (fun h21 => ?_)
    · rw [if_pos h21] at hf
      refine g_iconst C dX9_tray_99 ?_
      exact g_zret C rfl (Or.inr rfl) dX9_tray_100 hf
    · rw [if_neg h21] at hf
      refine g_ald_n C 0 rfl rfl dX9_tray_80 ?_
      refine g_get C dX9_tray_81 fl_X9_20 in_30 (ec_30 _ _ _ _ _) rfl ?_
      refine g_bipush C rfl dX9_tray_84 ?_
      refine g_ild_n C 1 rfl rfl dX9_tray_86 ?_
      refine g_imul C dX9_tray_87 ?_
      refine g_ild C 3 rfl dX9_tray_88 ?_
      refine g_iadd C dX9_tray_90 ?_
      refine g_lconst (x := 0) C rfl dX9_tray_91 ?_
      obtain ⟨g22, hf⟩ := gd_some hf
      refine g_last C dX9_tray_92 in_33 (fun _ => ec_33 _ _ _ _ _) (by decide) g22 ?_
      refine g_iinc (lo' := [(4, vi (x4 + 1)), (0, vr α 30 0), (1, vi x1), (3, vi x3)]) C 3 rfl (by decide) rfl dX9_tray_93 ?_
      refine g_goto C 74 (by decide) dX9_tray_96 ?_
      exact g_sub C [1, 2, 3, 0] rfl (ih _ _ hf)
set_option maxHeartbeats 4000000 in
set_option maxRecDepth 100000 in
theorem b_X9_tray {a1 : Int} {a2 : Int} {a3 : Int} {μ : Mem} (C : CX p s m args meth c cX9_tray 5 RX9 (some .boolean) D Y LBm (Ar LBm α sz)) (hfr : 1 ≤ R.frames) (hlc : 21 ≤ R.locals)  (hf : f_X9_tray a1 a2 a3 μ = some (r, μ')) : GG D Y LBm (Ar LBm α sz) p l e R s m args below meth c 5 (MQ below (Qcx D Y LBm α sz (some (vi r)) (fun a => a = α) μ') args s 0 0 (Ar LBm α sz)) α 0 0 [(0, vr α 30 0), (1, vi a1), (2, vi a2), (3, vi a3)] [] μ 0 := by
  unfold f_X9_tray at hf
  refine g_ald_n C 0 rfl rfl dX9_tray_0 ?_
  refine g_iconst C dX9_tray_1 ?_
  refine g_puti C dX9_tray_2 fl_X9_95 in_30 (ec_30 _ _ _ _ _) (Nat.le_of_ble_eq_true rfl) rfl (by decide) ?_
  refine g_ald_n C 0 rfl rfl dX9_tray_5 ?_
  refine g_iconst C dX9_tray_6 ?_
  refine g_puti C dX9_tray_7 fl_X9_98 in_30 (ec_30 _ _ _ _ _) (Nat.le_of_ble_eq_true rfl) rfl (by decide) ?_
  refine g_ild_n C 1 rfl rfl dX9_tray_10 ?_
  refine g_if_lt C 28 (by decide) dX9_tray_11 (fun h1 => ?_) (fun h1 => ?_)
  · rw [if_pos h1] at hf
    refine g_ald_n C 0 rfl rfl dX9_tray_28 ?_
    refine g_iconst C dX9_tray_29 ?_
    obtain ⟨r2, μ3, hc4, hf⟩ := bn_some hf
    refine g_callVp (As := [vi 1]) (rest := []) C ⟨Nat.zero_le _, Nat.zero_le _⟩ dX9_tray_30 cw_X9_no m_4_129 m_4_131 m_0_8 in_30 (ec_30 _ _ _ _ _) rfl rfl (c_X9_no  hc4) rfl rfl (Nat.le_of_ble_eq_true rfl) ⟨Nat.le_trans (Nat.le_of_ble_eq_true rfl) hfr, Nat.le_trans (Nat.le_of_ble_eq_true rfl) hlc⟩ ?_
    obtain ⟨g5, hf⟩ := gd_some hf
    exact g_zret C rfl g5 dX9_tray_33 hf
  · rw [if_neg h1] at hf
    refine g_ild_n C 1 rfl rfl dX9_tray_14 ?_
    refine g_iconst C dX9_tray_15 ?_
    refine g_ic_ge C 28 (by decide) dX9_tray_16 (fun h6 => ?_) (fun h6 => ?_)
    · rw [if_pos h6] at hf
      refine g_ald_n C 0 rfl rfl dX9_tray_28 ?_
      refine g_iconst C dX9_tray_29 ?_
      obtain ⟨r7, μ8, hc9, hf⟩ := bn_some hf
      refine g_callVp (As := [vi 1]) (rest := []) C ⟨Nat.zero_le _, Nat.zero_le _⟩ dX9_tray_30 cw_X9_no m_4_129 m_4_131 m_0_8 in_30 (ec_30 _ _ _ _ _) rfl rfl (c_X9_no  hc9) rfl rfl (Nat.le_of_ble_eq_true rfl) ⟨Nat.le_trans (Nat.le_of_ble_eq_true rfl) hfr, Nat.le_trans (Nat.le_of_ble_eq_true rfl) hlc⟩ ?_
      obtain ⟨g10, hf⟩ := gd_some hf
      exact g_zret C rfl g10 dX9_tray_33 hf
    · rw [if_neg h6] at hf
      refine g_ild_n C 2 rfl rfl dX9_tray_19 ?_
      refine g_if_lt C 28 (by decide) dX9_tray_20 (fun h11 => ?_) (fun h11 => ?_)
      · rw [if_pos h11] at hf
        refine g_ald_n C 0 rfl rfl dX9_tray_28 ?_
        refine g_iconst C dX9_tray_29 ?_
        obtain ⟨r12, μ13, hc14, hf⟩ := bn_some hf
        refine g_callVp (As := [vi 1]) (rest := []) C ⟨Nat.zero_le _, Nat.zero_le _⟩ dX9_tray_30 cw_X9_no m_4_129 m_4_131 m_0_8 in_30 (ec_30 _ _ _ _ _) rfl rfl (c_X9_no  hc14) rfl rfl (Nat.le_of_ble_eq_true rfl) ⟨Nat.le_trans (Nat.le_of_ble_eq_true rfl) hfr, Nat.le_trans (Nat.le_of_ble_eq_true rfl) hlc⟩ ?_
        obtain ⟨g15, hf⟩ := gd_some hf
        exact g_zret C rfl g15 dX9_tray_33 hf
      · rw [if_neg h11] at hf
        refine g_ild_n C 2 rfl rfl dX9_tray_23 ?_
        refine g_iconst C dX9_tray_24 ?_
        refine g_ic_le C 34 (by decide) dX9_tray_25 (fun h16 => ?_) (fun h16 => ?_)
        · rw [if_pos h16] at hf
          refine g_ild_n C 3 rfl rfl dX9_tray_34 ?_
          refine g_bipush C rfl dX9_tray_35 ?_
          refine g_ic_le C 46 (by decide) dX9_tray_37 (fun h17 => ?_) (fun h17 => ?_)
          · rw [if_pos h17] at hf
            refine g_ild_n C 3 rfl rfl dX9_tray_46 ?_
            refine g_if_ge C 57 (by decide) dX9_tray_47 (fun h18 => ?_) (fun h18 => ?_)
            · rw [if_pos h18] at hf
              refine g_ald_n C 0 rfl rfl dX9_tray_57 ?_
              refine g_get C dX9_tray_58 fl_X9_13 in_30 (ec_30 _ _ _ _ _) rfl ?_
              refine g_ild_n C 1 rfl rfl dX9_tray_61 ?_
              refine g_ild_n C 2 rfl rfl dX9_tray_62 ?_
              obtain ⟨g19, hf⟩ := gd_some hf
              refine g_iast C dX9_tray_63 in_31 (fun _ => ec_31 _ _ _ _ _) (by decide) g19 ?_
              refine g_ald_n C 0 rfl rfl dX9_tray_64 ?_
              refine g_get C dX9_tray_65 fl_X9_17 in_30 (ec_30 _ _ _ _ _) rfl ?_
              refine g_ild_n C 1 rfl rfl dX9_tray_68 ?_
              refine g_ild_n C 3 rfl rfl dX9_tray_69 ?_
              obtain ⟨g20, hf⟩ := gd_some hf
              refine g_iast C dX9_tray_70 in_32 (fun _ => ec_32 _ _ _ _ _) (by decide) g20 ?_
              refine g_iconst C dX9_tray_71 ?_
              refine g_ist (lo' := [(4, vi 0), (0, vr α 30 0), (1, vi a1), (2, vi a2), (3, vi a3)]) C (by decide) rfl dX9_tray_72 ?_
              refine g_sub C [1, 2, 4, 0] rfl (c_X9_tray_l74 C hfr hlc   _ _ _ hf)
            · rw [if_neg h18] at hf
              refine g_ald_n C 0 rfl rfl dX9_tray_50 ?_
              refine g_bipush C rfl dX9_tray_51 ?_
              obtain ⟨r23, μ24, hc25, hf⟩ := bn_some hf
              refine g_callVp (As := [vi 6]) (rest := []) C ⟨Nat.zero_le _, Nat.zero_le _⟩ dX9_tray_53 cw_X9_no m_4_129 m_4_131 m_0_8 in_30 (ec_30 _ _ _ _ _) rfl rfl (c_X9_no  hc25) rfl rfl (Nat.le_of_ble_eq_true rfl) ⟨Nat.le_trans (Nat.le_of_ble_eq_true rfl) hfr, Nat.le_trans (Nat.le_of_ble_eq_true rfl) hlc⟩ ?_
              obtain ⟨g26, hf⟩ := gd_some hf
              exact g_zret C rfl g26 dX9_tray_56 hf
          · rw [if_neg h17] at hf
            refine g_ald_n C 0 rfl rfl dX9_tray_40 ?_
            refine g_iconst C dX9_tray_41 ?_
            obtain ⟨r27, μ28, hc29, hf⟩ := bn_some hf
            refine g_callVp (As := [vi 5]) (rest := []) C ⟨Nat.zero_le _, Nat.zero_le _⟩ dX9_tray_42 cw_X9_no m_4_129 m_4_131 m_0_8 in_30 (ec_30 _ _ _ _ _) rfl rfl (c_X9_no  hc29) rfl rfl (Nat.le_of_ble_eq_true rfl) ⟨Nat.le_trans (Nat.le_of_ble_eq_true rfl) hfr, Nat.le_trans (Nat.le_of_ble_eq_true rfl) hlc⟩ ?_
            obtain ⟨g30, hf⟩ := gd_some hf
            exact g_zret C rfl g30 dX9_tray_45 hf
        · rw [if_neg h16] at hf
          refine g_ald_n C 0 rfl rfl dX9_tray_28 ?_
          refine g_iconst C dX9_tray_29 ?_
          obtain ⟨r31, μ32, hc33, hf⟩ := bn_some hf
          refine g_callVp (As := [vi 1]) (rest := []) C ⟨Nat.zero_le _, Nat.zero_le _⟩ dX9_tray_30 cw_X9_no m_4_129 m_4_131 m_0_8 in_30 (ec_30 _ _ _ _ _) rfl rfl (c_X9_no  hc33) rfl rfl (Nat.le_of_ble_eq_true rfl) ⟨Nat.le_trans (Nat.le_of_ble_eq_true rfl) hfr, Nat.le_trans (Nat.le_of_ble_eq_true rfl) hlc⟩ ?_
          obtain ⟨g34, hf⟩ := gd_some hf
          exact g_zret C rfl g34 dX9_tray_33 hf
set_option maxHeartbeats 4000000 in
set_option maxRecDepth 100000 in
theorem c_X9_tray {l : Launch} {D : va_G} {Y : Nat → ClassId} {α : Adr} {a1 : Int} {a2 : Int} {a3 : Int} {μ : Mem} {r : Int} {μ' : Mem}  (hf : f_X9_tray a1 a2 a3 μ = some (r, μ')) : Ctr l D Y LBm yX9_tray cX9_tray 5 (some .boolean) 1 21 0 0 [vr α 30 0, vi a1, vi a2, vi a3] α μ (some (vi r)) (fun a => a = α) μ' := Ctr_of pn_X9 rfl rfl (Nat.le_of_ble_eq_true rfl) LBm_nd (fun p e s m below meth c sz C => b_X9_tray C (Nat.le_refl _) (Nat.le_refl _)  hf)
end

/-! EndTellerModel.trayed -/
def f_X9_trayed (a1 : Int) (μ : Mem) : Option (Int × Mem) := (if w32 a1 < 0 then some (1, μ) else (if w32 a1 < w32 4 then gd (inb a1 4) ((if 0 ≤ w32 (μ 32 0 (ix a1)) then some (0, μ) else some (3, μ))) else some (1, μ)))
section
variable {p : Program} {l : Launch} {e : Env} {R : Room} {s : State} {m : MethodId} {args : Array Value} {below : List Frame} {meth : Method} {c : Code} {D : va_G} {Y : Nat → ClassId} {α : Adr} {sz : Nat} {r : Int} {μ' : Mem}
set_option maxHeartbeats 4000000 in
set_option maxRecDepth 100000 in
theorem b_X9_trayed {a1 : Int} {μ : Mem} (C : CX p s m args meth c cX9_trayed 2 RX9 (some .int) D Y LBm (Ar LBm α sz)) (hfr : 0 ≤ R.frames) (hlc : 0 ≤ R.locals)  (hf : f_X9_trayed a1 μ = some (r, μ')) : GG D Y LBm (Ar LBm α sz) p l e R s m args below meth c 2 (MQ below (Qcx D Y LBm α sz (some (vi r)) (fun a => a = α) μ') args s 0 0 (Ar LBm α sz)) α 0 0 [(0, vr α 30 0), (1, vi a1)] [] μ 0 := by
  unfold f_X9_trayed at hf
  refine g_ild_n C 1 rfl rfl dX9_trayed_0 ?_
  refine g_if_lt C 9 (by decide) dX9_trayed_1 (fun h1 => ?_) (fun h1 => ?_)
  · rw [if_pos h1] at hf
    refine g_iconst C dX9_trayed_9 ?_
    refine g_goto C 27 (by decide) dX9_trayed_10 ?_
    exact g_iret C rfl dX9_trayed_27 hf
  · rw [if_neg h1] at hf
    refine g_ild_n C 1 rfl rfl dX9_trayed_4 ?_
    refine g_iconst C dX9_trayed_5 ?_
    refine g_ic_lt C 13 (by decide) dX9_trayed_6 (fun h2 => ?_) (fun h2 => ?_)
    · rw [if_pos h2] at hf
      refine g_ald_n C 0 rfl rfl dX9_trayed_13 ?_
      refine g_get C dX9_trayed_14 fl_X9_17 in_30 (ec_30 _ _ _ _ _) rfl ?_
      refine g_ild_n C 1 rfl rfl dX9_trayed_17 ?_
      obtain ⟨g3, hf⟩ := gd_some hf
      refine g_iald C dX9_trayed_18 in_32 (fun _ => ec_32 _ _ _ _ _) g3 ?_
      refine g_if_ge C 26 (by decide) dX9_trayed_19 (fun h4 => ?_) (fun h4 => ?_)
      · rw [if_pos h4] at hf
        refine g_iconst C dX9_trayed_26 ?_
        exact g_iret C rfl dX9_trayed_27 hf
      · rw [if_neg h4] at hf
        refine g_iconst C dX9_trayed_22 ?_
        refine g_goto C 27 (by decide) dX9_trayed_23 ?_
        exact g_iret C rfl dX9_trayed_27 hf
    · rw [if_neg h2] at hf
      refine g_iconst C dX9_trayed_9 ?_
      refine g_goto C 27 (by decide) dX9_trayed_10 ?_
      exact g_iret C rfl dX9_trayed_27 hf
set_option maxHeartbeats 4000000 in
set_option maxRecDepth 100000 in
theorem c_X9_trayed {l : Launch} {D : va_G} {Y : Nat → ClassId} {α : Adr} {a1 : Int} {μ : Mem} {r : Int} {μ' : Mem}  (hf : f_X9_trayed a1 μ = some (r, μ')) : Ctr l D Y LBm yX9_trayed cX9_trayed 2 (some .int) 0 0 0 0 [vr α 30 0, vi a1] α μ (some (vi r)) (fun a => a = α) μ' := Ctr_of pn_X9 rfl rfl (Nat.le_of_ble_eq_true rfl) LBm_nd (fun p e s m below meth c sz C => b_X9_trayed C (Nat.le_refl _) (Nat.le_refl _)  hf)
end

/-! EndTellerModel.placed -/
def f_X9_placed (a1 : Int) (a2 : Int) (μ : Mem) : Option (Int × Mem) := bn (f_X9_trayed a1 μ) (fun r1 μ2 => (if w32 r1 ≤ 0 then (if w32 a2 < 0 then some (4, μ2) else gd (inb a1 4) ((if w32 a2 < w32 (μ2 32 0 (ix a1)) then some (0, μ2) else some (4, μ2)))) else some (r1, μ2)))
section
variable {p : Program} {l : Launch} {e : Env} {R : Room} {s : State} {m : MethodId} {args : Array Value} {below : List Frame} {meth : Method} {c : Code} {D : va_G} {Y : Nat → ClassId} {α : Adr} {sz : Nat} {r : Int} {μ' : Mem}
set_option maxHeartbeats 4000000 in
set_option maxRecDepth 100000 in
theorem b_X9_placed {a1 : Int} {a2 : Int} {μ : Mem} (C : CX p s m args meth c cX9_placed 4 RX9 (some .int) D Y LBm (Ar LBm α sz)) (hfr : 1 ≤ R.frames) (hlc : 21 ≤ R.locals)  (hf : f_X9_placed a1 a2 μ = some (r, μ')) : GG D Y LBm (Ar LBm α sz) p l e R s m args below meth c 4 (MQ below (Qcx D Y LBm α sz (some (vi r)) (fun a => a = α) μ') args s 0 0 (Ar LBm α sz)) α 0 0 [(0, vr α 30 0), (1, vi a1), (2, vi a2)] [] μ 0 := by
  unfold f_X9_placed at hf
  refine g_ald_n C 0 rfl rfl dX9_placed_0 ?_
  refine g_ild_n C 1 rfl rfl dX9_placed_1 ?_
  obtain ⟨r1, μ2, hc3, hf⟩ := bn_some hf
  refine g_callVp (As := [vi a1]) (rest := []) C ⟨Nat.zero_le _, Nat.zero_le _⟩ dX9_placed_2 cw_X9_trayed m_4_141 m_4_143 m_0_10 in_30 (ec_30 _ _ _ _ _) rfl rfl (c_X9_trayed  hc3) rfl rfl (Nat.le_of_ble_eq_true rfl) ⟨Nat.le_trans (Nat.le_of_ble_eq_true rfl) hfr, Nat.le_trans (Nat.le_of_ble_eq_true rfl) hlc⟩ ?_
  refine g_ist_n (lo' := [(3, vi r1), (0, vr α 30 0), (1, vi a1), (2, vi a2)]) C rfl (by decide) rfl dX9_placed_5 ?_
  refine g_ild_n C 0 rfl rfl dX9_placed_6 ?_
  refine g_if_le C 14 (by decide) dX9_placed_7 (fun h4 => ?_) (fun h4 => ?_)
  · rw [if_pos h4] at hf
    refine g_ild_n C 3 rfl rfl dX9_placed_14 ?_
    refine g_if_lt C 28 (by decide) dX9_placed_15 (fun h5 => ?_) (fun h5 => ?_)
    · rw [if_pos h5] at hf
      refine g_iconst C dX9_placed_28 ?_
      refine g_goto C 33 (by decide) dX9_placed_29 ?_
      exact g_iret C rfl dX9_placed_33 hf
    · rw [if_neg h5] at hf
      refine g_ild_n C 3 rfl rfl dX9_placed_18 ?_
      refine g_ald_n C 1 rfl rfl dX9_placed_19 ?_
      refine g_get C dX9_placed_20 fl_X9_17 in_30 (ec_30 _ _ _ _ _) rfl ?_
      refine g_ild_n C 2 rfl rfl dX9_placed_23 ?_
      obtain ⟨g6, hf⟩ := gd_some hf
      refine g_iald C dX9_placed_24 in_32 (fun _ => ec_32 _ _ _ _ _) g6 ?_
      refine g_ic_lt C 32 (by decide) dX9_placed_25 (fun h7 => ?_) (fun h7 => ?_)
      · rw [if_pos h7] at hf
        refine g_iconst C dX9_placed_32 ?_
        exact g_iret C rfl dX9_placed_33 hf
      · rw [if_neg h7] at hf
        refine g_iconst C dX9_placed_28 ?_
        refine g_goto C 33 (by decide) dX9_placed_29 ?_
        exact g_iret C rfl dX9_placed_33 hf
  · rw [if_neg h4] at hf
    refine g_ild_n C 0 rfl rfl dX9_placed_10 ?_
    refine g_goto C 33 (by decide) dX9_placed_11 ?_
    exact g_iret C rfl dX9_placed_33 hf
set_option maxHeartbeats 4000000 in
set_option maxRecDepth 100000 in
theorem c_X9_placed {l : Launch} {D : va_G} {Y : Nat → ClassId} {α : Adr} {a1 : Int} {a2 : Int} {μ : Mem} {r : Int} {μ' : Mem}  (hf : f_X9_placed a1 a2 μ = some (r, μ')) : Ctr l D Y LBm yX9_placed cX9_placed 4 (some .int) 1 21 0 0 [vr α 30 0, vi a1, vi a2] α μ (some (vi r)) (fun a => a = α) μ' := Ctr_of pn_X9 rfl rfl (Nat.le_of_ble_eq_true rfl) LBm_nd (fun p e s m below meth c sz C => b_X9_placed C (Nat.le_refl _) (Nat.le_refl _)  hf)
end

/-! EndTellerModel.write -/
def f_X9_write (a1 : Int) (a2 : Int) (a3 : Int) (μ : Mem) : Option (Int × Mem) := bn (f_X9_placed a1 a2 (st μ 30 0 1 0)) (fun r1 μ2 => (if w32 ((st μ2 30 0 0 r1) 30 0 0) ≤ 0 then gd (inb a1 4) (bn (f_X9_cut ((st μ2 30 0 0 r1) 31 0 (ix a1)) a3 (st μ2 30 0 0 r1)) (fun r6 μ7 => gd (inb ((40 * a1) + a2) 160) (some (1, (st μ7 33 0 (ix ((40 * a1) + a2)) r6))))) else some (0, (st μ2 30 0 0 r1))))
section
variable {p : Program} {l : Launch} {e : Env} {R : Room} {s : State} {m : MethodId} {args : Array Value} {below : List Frame} {meth : Method} {c : Code} {D : va_G} {Y : Nat → ClassId} {α : Adr} {sz : Nat} {r : Int} {μ' : Mem}
set_option maxHeartbeats 4000000 in
set_option maxRecDepth 100000 in
theorem b_X9_write {a1 : Int} {a2 : Int} {a3 : Int} {μ : Mem} (C : CX p s m args meth c cX9_write 5 RX9 (some .boolean) D Y LBm (Ar LBm α sz)) (hfr : 2 ≤ R.frames) (hlc : 44 ≤ R.locals)  (hf : f_X9_write a1 a2 a3 μ = some (r, μ')) : GG D Y LBm (Ar LBm α sz) p l e R s m args below meth c 5 (MQ below (Qcx D Y LBm α sz (some (vi r)) (fun a => a = α) μ') args s 0 0 (Ar LBm α sz)) α 0 0 [(0, vr α 30 0), (1, vi a1), (2, vi a2), (3, vl a3)] [] μ 0 := by
  unfold f_X9_write at hf
  refine g_ald_n C 0 rfl rfl dX9_write_0 ?_
  refine g_iconst C dX9_write_1 ?_
  refine g_puti C dX9_write_2 fl_X9_95 in_30 (ec_30 _ _ _ _ _) (Nat.le_of_ble_eq_true rfl) rfl (by decide) ?_
  refine g_ald_n C 0 rfl rfl dX9_write_5 ?_
  refine g_ald_n C 0 rfl rfl dX9_write_6 ?_
  refine g_ild_n C 1 rfl rfl dX9_write_7 ?_
  refine g_ild_n C 2 rfl rfl dX9_write_8 ?_
  obtain ⟨r1, μ2, hc3, hf⟩ := bn_some hf
  refine g_callVp (As := [vi a1, vi a2]) (rest := [vr α 30 0]) C ⟨Nat.zero_le _, Nat.zero_le _⟩ dX9_write_9 cw_X9_placed m_4_137 m_4_139 m_0_9 in_30 (ec_30 _ _ _ _ _) rfl rfl (c_X9_placed  hc3) rfl rfl (Nat.le_of_ble_eq_true rfl) ⟨Nat.le_trans (Nat.le_of_ble_eq_true rfl) hfr, Nat.le_trans (Nat.le_of_ble_eq_true rfl) hlc⟩ ?_
  refine g_puti C dX9_write_12 fl_X9_98 in_30 (ec_30 _ _ _ _ _) (Nat.le_of_ble_eq_true rfl) rfl (by decide) ?_
  refine g_ald_n C 0 rfl rfl dX9_write_15 ?_
  refine g_get C dX9_write_16 fl_X9_98 in_30 (ec_30 _ _ _ _ _) rfl ?_
  refine g_if_le C 24 (by decide) dX9_write_19 (fun h4 => ?_) (fun h4 => ?_)
  · rw [if_pos h4] at hf
    refine g_ald_n C 0 rfl rfl dX9_write_24 ?_
    refine g_get C dX9_write_25 fl_X9_20 in_30 (ec_30 _ _ _ _ _) rfl ?_
    refine g_bipush C rfl dX9_write_28 ?_
    refine g_ild_n C 1 rfl rfl dX9_write_30 ?_
    refine g_imul C dX9_write_31 ?_
    refine g_ild_n C 2 rfl rfl dX9_write_32 ?_
    refine g_iadd C dX9_write_33 ?_
    refine g_ald_n C 0 rfl rfl dX9_write_34 ?_
    refine g_get C dX9_write_35 fl_X9_13 in_30 (ec_30 _ _ _ _ _) rfl ?_
    refine g_ild_n C 1 rfl rfl dX9_write_38 ?_
    obtain ⟨g5, hf⟩ := gd_some hf
    refine g_iald C dX9_write_39 in_31 (fun _ => ec_31 _ _ _ _ _) g5 ?_
    refine g_lld_n C 3 rfl rfl dX9_write_40 ?_
    obtain ⟨r6, μ7, hc8, hf⟩ := bn_some hf
    refine g_callSp (As := [vi ((st μ2 30 0 0 r1) 31 0 (ix a1)), vl a3]) (rest := [vi ((40 * a1) + a2), vr α 33 0]) C ⟨Nat.zero_le _, Nat.zero_le _⟩ dX9_write_41 cw_X9_cut m_4_145 m_4_146 (c_X9_cut  hc8) rfl rfl (Nat.le_of_ble_eq_true rfl) ⟨Nat.le_trans (Nat.le_of_ble_eq_true rfl) hfr, Nat.le_trans (Nat.le_of_ble_eq_true rfl) hlc⟩ ?_
    obtain ⟨g9, hf⟩ := gd_some hf
    refine g_last C dX9_write_44 in_33 (fun _ => ec_33 _ _ _ _ _) (by decide) g9 ?_
    refine g_iconst C dX9_write_45 ?_
    exact g_zret C rfl (Or.inr rfl) dX9_write_46 hf
  · rw [if_neg h4] at hf
    refine g_iconst C dX9_write_22 ?_
    exact g_zret C rfl (Or.inl rfl) dX9_write_23 hf
set_option maxHeartbeats 4000000 in
set_option maxRecDepth 100000 in
theorem c_X9_write {l : Launch} {D : va_G} {Y : Nat → ClassId} {α : Adr} {a1 : Int} {a2 : Int} {a3 : Int} {μ : Mem} {r : Int} {μ' : Mem}  (hf : f_X9_write a1 a2 a3 μ = some (r, μ')) : Ctr l D Y LBm yX9_write cX9_write 5 (some .boolean) 2 44 0 0 [vr α 30 0, vi a1, vi a2, vl a3] α μ (some (vi r)) (fun a => a = α) μ' := Ctr_of pn_X9 rfl rfl (Nat.le_of_ble_eq_true rfl) LBm_nd (fun p e s m below meth c sz C => b_X9_write C (Nat.le_refl _) (Nat.le_refl _)  hf)
end

/-! EndTellerModel.read -/
def f_X9_read (a1 : Int) (a2 : Int) (μ : Mem) : Option (Int × Mem) := bn (f_X9_placed a1 a2 (st μ 30 0 1 0)) (fun r1 μ2 => (if w32 ((st μ2 30 0 0 r1) 30 0 0) ≤ 0 then gd (inb ((40 * a1) + a2) 160) (some (((st μ2 30 0 0 r1) 33 0 (ix ((40 * a1) + a2))), (st μ2 30 0 0 r1))) else some ((-1), (st μ2 30 0 0 r1))))
section
variable {p : Program} {l : Launch} {e : Env} {R : Room} {s : State} {m : MethodId} {args : Array Value} {below : List Frame} {meth : Method} {c : Code} {D : va_G} {Y : Nat → ClassId} {α : Adr} {sz : Nat} {r : Int} {μ' : Mem}
set_option maxHeartbeats 4000000 in
set_option maxRecDepth 100000 in
theorem b_X9_read {a1 : Int} {a2 : Int} {μ : Mem} (C : CX p s m args meth c cX9_read 3 RX9 (some .long) D Y LBm (Ar LBm α sz)) (hfr : 2 ≤ R.frames) (hlc : 44 ≤ R.locals)  (hf : f_X9_read a1 a2 μ = some (r, μ')) : GG D Y LBm (Ar LBm α sz) p l e R s m args below meth c 3 (MQ below (Qcx D Y LBm α sz (some (vl r)) (fun a => a = α) μ') args s 0 0 (Ar LBm α sz)) α 0 0 [(0, vr α 30 0), (1, vi a1), (2, vi a2)] [] μ 0 := by
  unfold f_X9_read at hf
  refine g_ald_n C 0 rfl rfl dX9_read_0 ?_
  refine g_iconst C dX9_read_1 ?_
  refine g_puti C dX9_read_2 fl_X9_95 in_30 (ec_30 _ _ _ _ _) (Nat.le_of_ble_eq_true rfl) rfl (by decide) ?_
  refine g_ald_n C 0 rfl rfl dX9_read_5 ?_
  refine g_ald_n C 0 rfl rfl dX9_read_6 ?_
  refine g_ild_n C 1 rfl rfl dX9_read_7 ?_
  refine g_ild_n C 2 rfl rfl dX9_read_8 ?_
  obtain ⟨r1, μ2, hc3, hf⟩ := bn_some hf
  refine g_callVp (As := [vi a1, vi a2]) (rest := [vr α 30 0]) C ⟨Nat.zero_le _, Nat.zero_le _⟩ dX9_read_9 cw_X9_placed m_4_137 m_4_139 m_0_9 in_30 (ec_30 _ _ _ _ _) rfl rfl (c_X9_placed  hc3) rfl rfl (Nat.le_of_ble_eq_true rfl) ⟨Nat.le_trans (Nat.le_of_ble_eq_true rfl) hfr, Nat.le_trans (Nat.le_of_ble_eq_true rfl) hlc⟩ ?_
  refine g_puti C dX9_read_12 fl_X9_98 in_30 (ec_30 _ _ _ _ _) (Nat.le_of_ble_eq_true rfl) rfl (by decide) ?_
  refine g_ald_n C 0 rfl rfl dX9_read_15 ?_
  refine g_get C dX9_read_16 fl_X9_98 in_30 (ec_30 _ _ _ _ _) rfl ?_
  refine g_if_le C 28 (by decide) dX9_read_19 (fun h4 => ?_) (fun h4 => ?_)
  · rw [if_pos h4] at hf
    refine g_ald_n C 0 rfl rfl dX9_read_28 ?_
    refine g_get C dX9_read_29 fl_X9_20 in_30 (ec_30 _ _ _ _ _) rfl ?_
    refine g_bipush C rfl dX9_read_32 ?_
    refine g_ild_n C 1 rfl rfl dX9_read_34 ?_
    refine g_imul C dX9_read_35 ?_
    refine g_ild_n C 2 rfl rfl dX9_read_36 ?_
    refine g_iadd C dX9_read_37 ?_
    obtain ⟨g5, hf⟩ := gd_some hf
    refine g_lald C dX9_read_38 in_33 (fun _ => ec_33 _ _ _ _ _) g5 ?_
    exact g_lret C rfl dX9_read_39 hf
  · rw [if_neg h4] at hf
    refine g_ldc2 (x := (-1)) C (by rw [show Int64.ofInt (-1) = (-1) by decide]; exact m_4_152) dX9_read_22 ?_
    refine g_goto C 39 (by decide) dX9_read_25 ?_
    exact g_lret C rfl dX9_read_39 hf
set_option maxHeartbeats 4000000 in
set_option maxRecDepth 100000 in
theorem c_X9_read {l : Launch} {D : va_G} {Y : Nat → ClassId} {α : Adr} {a1 : Int} {a2 : Int} {μ : Mem} {r : Int} {μ' : Mem}  (hf : f_X9_read a1 a2 μ = some (r, μ')) : Ctr l D Y LBm yX9_read cX9_read 3 (some .long) 2 44 0 0 [vr α 30 0, vi a1, vi a2] α μ (some (vl r)) (fun a => a = α) μ' := Ctr_of pn_X9 rfl rfl (Nat.le_of_ble_eq_true rfl) LBm_nd (fun p e s m below meth c sz C => b_X9_read C (Nat.le_refl _) (Nat.le_refl _)  hf)
end

/-! EndTellerModel.pour -/
def f_X9_pour_L158 (x1 : Int) (x2 : Int) (x3 : Int) (x4 : Int) (x5 : Int) (x6 : Int) : Nat → Int → Mem → Option (Int × Mem)
  | 0, _, _ => none
  | n + 1, x7, μ => (if w32 x5 ≤ w32 x7 then some (1, μ) else jn (fun y49 => gd (inb (((40 * x1) + x2) + y49) 160) (gd (inb (((40 * x3) + x4) + y49) 160) (f_X9_pour_L158 x1 x2 x3 x4 x5 x6 n (x7 + 1) (st μ 33 0 (ix (((40 * x3) + x4) + y49)) (μ 33 0 (ix (((40 * x1) + x2) + y49))))))) (fun j182 => (if w32 x6 = 0 then j182 x7 else j182 ((x5 - 1) - x7))))
def f_X9_pour (a1 : Int) (a2 : Int) (a3 : Int) (a4 : Int) (a5 : Int) (μ : Mem) : Option (Int × Mem) := (if w32 a1 < 0 then bn (f_X9_no 1 (st (st μ 30 0 1 0) 30 0 0 0)) (fun r2 μ3 => gd (bb r2) (some (r2, μ3))) else (if w32 4 ≤ w32 a1 then bn (f_X9_no 1 (st (st μ 30 0 1 0) 30 0 0 0)) (fun r7 μ8 => gd (bb r7) (some (r7, μ8))) else (if w32 a3 < 0 then bn (f_X9_no 1 (st (st μ 30 0 1 0) 30 0 0 0)) (fun r12 μ13 => gd (bb r12) (some (r12, μ13))) else (if w32 a3 < w32 4 then gd (inb a1 4) ((if w32 ((st (st μ 30 0 1 0) 30 0 0 0) 32 0 (ix a1)) < 0 then bn (f_X9_no 3 (st (st μ 30 0 1 0) 30 0 0 0)) (fun r19 μ20 => gd (bb r19) (some (r19, μ20))) else gd (inb a3 4) ((if 0 ≤ w32 ((st (st μ 30 0 1 0) 30 0 0 0) 32 0 (ix a3)) then gd (inb a1 4) (gd (inb a3 4) ((if w32 ((st (st μ 30 0 1 0) 30 0 0 0) 31 0 (ix a1)) = w32 ((st (st μ 30 0 1 0) 30 0 0 0) 31 0 (ix a3)) then (if 0 ≤ w32 a5 then (if w32 a2 < 0 then bn (f_X9_no 4 (st (st μ 30 0 1 0) 30 0 0 0)) (fun r30 μ31 => gd (bb r30) (some (r30, μ31))) else (if w32 a4 < 0 then bn (f_X9_no 4 (st (st μ 30 0 1 0) 30 0 0 0)) (fun r35 μ36 => gd (bb r35) (some (r35, μ36))) else gd (inb a1 4) ((if w64 (w32 ((st (st μ 30 0 1 0) 30 0 0 0) 32 0 (ix a1))) < w64 ((w32 a2) + (w32 a5)) then bn (f_X9_no 4 (st (st μ 30 0 1 0) 30 0 0 0)) (fun r41 μ42 => gd (bb r41) (some (r41, μ42))) else gd (inb a3 4) ((if w64 ((w32 a4) + (w32 a5)) ≤ w64 (w32 ((st (st μ 30 0 1 0) 30 0 0 0) 32 0 (ix a3))) then jn (fun y47 => f_X9_pour_L158 a1 a2 a3 a4 a5 y47 FU 0 (st (st μ 30 0 1 0) 30 0 0 0)) (fun j153 => (if w32 a4 ≤ w32 a2 then j153 0 else j153 1)) else bn (f_X9_no 4 (st (st μ 30 0 1 0) 30 0 0 0)) (fun r56 μ57 => gd (bb r56) (some (r56, μ57))))))))) else bn (f_X9_no 6 (st (st μ 30 0 1 0) 30 0 0 0)) (fun r60 μ61 => gd (bb r60) (some (r60, μ61)))) else bn (f_X9_no 11 (st (st μ 30 0 1 0) 30 0 0 0)) (fun r64 μ65 => gd (bb r64) (some (r64, μ65)))))) else bn (f_X9_no 3 (st (st μ 30 0 1 0) 30 0 0 0)) (fun r68 μ69 => gd (bb r68) (some (r68, μ69))))))) else bn (f_X9_no 1 (st (st μ 30 0 1 0) 30 0 0 0)) (fun r72 μ73 => gd (bb r72) (some (r72, μ73)))))))
section
variable {p : Program} {l : Launch} {e : Env} {R : Room} {s : State} {m : MethodId} {args : Array Value} {below : List Frame} {meth : Method} {c : Code} {D : va_G} {Y : Nat → ClassId} {α : Adr} {sz : Nat} {r : Int} {μ' : Mem}
set_option maxHeartbeats 4000000 in
set_option maxRecDepth 100000 in
theorem c_X9_pour_l158 {x1 : Int} {x2 : Int} {x3 : Int} {x4 : Int} {x5 : Int} {x6 : Int} (C : CX p s m args meth c cX9_pour 9 RX9 (some .boolean) D Y LBm (Ar LBm α sz)) (hfr : 1 ≤ R.frames) (hlc : 21 ≤ R.locals)    : ∀ (n : Nat) (x7 : Int) (μ : Mem), f_X9_pour_L158 x1 x2 x3 x4 x5 x6 n x7 μ = some (r, μ') → GG D Y LBm (Ar LBm α sz) p l e R s m args below meth c 9 (MQ below (Qcx D Y LBm α sz (some (vi r)) (fun a => a = α) μ') args s 0 0 (Ar LBm α sz)) α 0 0 [(0, vr α 30 0), (1, vi x1), (2, vi x2), (3, vi x3), (4, vi x4), (5, vi x5), (6, vi x6), (7, vi x7)] [] μ 158 := by
  intro n
  induction n with
  | zero =>
    intro x7 μ hf
    exact nomatch (show (none : Option (Int × Mem)) = some _ from hf)
  | succ n ih =>
    intro x7 μ hf
    rw [f_X9_pour_L158.eq_2] at hf
    refine g_ild C 7 rfl dX9_pour_158 ?_
    refine g_ild C 5 rfl dX9_pour_160 ?_
    refine g_ic_ge C 219 (by decide) dX9_pour_162 (fun h48 => ?_) (fun h48 => ?_)
    · rw [if_pos h48] at hf
      refine g_iconst C dX9_pour_219 ?_
      exact g_zret C rfl (Or.inr rfl) dX9_pour_220 hf
    · rw [if_neg h48] at hf
      refine g_ild C 6 rfl dX9_pour_165 ?_
      obtain ⟨j182, ej52, hf⟩ := jn_some hf
      have hj182 : ∀ (y49 : Int), j182 y49 = some (r, μ') → GG D Y LBm (Ar LBm α sz) p l e R s m args below meth c 9 (MQ below (Qcx D Y LBm α sz (some (vi r)) (fun a => a = α) μ') args s 0 0 (Ar LBm α sz)) α 0 0 [(0, vr α 30 0), (1, vi x1), (2, vi x2), (3, vi x3), (4, vi x4), (5, vi x5), (6, vi x6), (7, vi x7)] [vi y49] μ 182 := by
        intro y49 hf
        rw [ej52] at hf
        try dsimp only at hf
        refine g_ist (lo' := [(8, vi y49), (0, vr α 30 0), (1, vi x1), (2, vi x2), (3, vi x3), (4, vi x4), (5, vi x5), (6, vi x6), (7, vi x7)]) C (by decide) rfl dX9_pour_182 ?_
        refine g_ald_n C 1 rfl rfl dX9_pour_184 ?_
        refine g_get C dX9_pour_185 fl_X9_20 in_30 (ec_30 _ _ _ _ _) rfl ?_
        refine g_bipush C rfl dX9_pour_188 ?_
        refine g_ild_n C 4 rfl rfl dX9_pour_190 ?_
        refine g_imul C dX9_pour_191 ?_
        refine g_ild C 5 rfl dX9_pour_192 ?_
        refine g_iadd C dX9_pour_194 ?_
        refine g_ild C 0 rfl dX9_pour_195 ?_
        refine g_iadd C dX9_pour_197 ?_
        refine g_ald_n C 1 rfl rfl dX9_pour_198 ?_
        refine g_get C dX9_pour_199 fl_X9_20 in_30 (ec_30 _ _ _ _ _) rfl ?_
        refine g_bipush C rfl dX9_pour_202 ?_
        refine g_ild_n C 2 rfl rfl dX9_pour_204 ?_
        refine g_imul C dX9_pour_205 ?_
        refine g_ild_n C 3 rfl rfl dX9_pour_206 ?_
        refine g_iadd C dX9_pour_207 ?_
        refine g_ild C 0 rfl dX9_pour_208 ?_
        refine g_iadd C dX9_pour_210 ?_
        obtain ⟨g50, hf⟩ := gd_some hf
        refine g_lald C dX9_pour_211 in_33 (fun _ => ec_33 _ _ _ _ _) g50 ?_
        obtain ⟨g51, hf⟩ := gd_some hf
        refine g_last C dX9_pour_212 in_33 (fun _ => ec_33 _ _ _ _ _) (by decide) g51 ?_
        refine g_iinc (lo' := [(7, vi (x7 + 1)), (8, vi y49), (0, vr α 30 0), (1, vi x1), (2, vi x2), (3, vi x3), (4, vi x4), (5, vi x5), (6, vi x6)]) C 8 rfl (by decide) rfl dX9_pour_213 ?_
        refine g_goto C 158 (by decide) dX9_pour_216 ?_
        exact g_sub C [2, 3, 4, 5, 6, 7, 8, 0] rfl (ih _ _ hf)
      clear ej52
      refine g_if_eq C 180 (by decide) dX9_pour_167 (fun h53 => ?_) (fun h53 => ?_)
      · rw [if_pos h53] at hf
        refine g_ild C 7 rfl dX9_pour_180 ?_
        exact g_sub C [0, 1, 2, 3, 4, 5, 6, 7] rfl (hj182 _ hf)
      · rw [if_neg h53] at hf
        refine g_ild C 5 rfl dX9_pour_170 ?_
        refine g_iconst C dX9_pour_172 ?_
        refine g_isub C dX9_pour_173 ?_
        refine g_ild C 7 rfl dX9_pour_174 ?_
        refine g_isub C dX9_pour_176 ?_
        refine g_goto C 182 (by decide) dX9_pour_177 ?_
        exact g_sub C [0, 1, 2, 3, 4, 5, 6, 7] rfl (hj182 _ hf)
set_option maxHeartbeats 4000000 in
set_option maxRecDepth 100000 in
theorem b_X9_pour {a1 : Int} {a2 : Int} {a3 : Int} {a4 : Int} {a5 : Int} {μ : Mem} (C : CX p s m args meth c cX9_pour 9 RX9 (some .boolean) D Y LBm (Ar LBm α sz)) (hfr : 1 ≤ R.frames) (hlc : 21 ≤ R.locals)  (hf : f_X9_pour a1 a2 a3 a4 a5 μ = some (r, μ')) : GG D Y LBm (Ar LBm α sz) p l e R s m args below meth c 9 (MQ below (Qcx D Y LBm α sz (some (vi r)) (fun a => a = α) μ') args s 0 0 (Ar LBm α sz)) α 0 0 [(0, vr α 30 0), (1, vi a1), (2, vi a2), (3, vi a3), (4, vi a4), (5, vi a5)] [] μ 0 := by
  unfold f_X9_pour at hf
  refine g_ald_n C 0 rfl rfl dX9_pour_0 ?_
  refine g_iconst C dX9_pour_1 ?_
  refine g_puti C dX9_pour_2 fl_X9_95 in_30 (ec_30 _ _ _ _ _) (Nat.le_of_ble_eq_true rfl) rfl (by decide) ?_
  refine g_ald_n C 0 rfl rfl dX9_pour_5 ?_
  refine g_iconst C dX9_pour_6 ?_
  refine g_puti C dX9_pour_7 fl_X9_98 in_30 (ec_30 _ _ _ _ _) (Nat.le_of_ble_eq_true rfl) rfl (by decide) ?_
  refine g_ild_n C 1 rfl rfl dX9_pour_10 ?_
  refine g_if_lt C 28 (by decide) dX9_pour_11 (fun h1 => ?_) (fun h1 => ?_)
  · rw [if_pos h1] at hf
    refine g_ald_n C 0 rfl rfl dX9_pour_28 ?_
    refine g_iconst C dX9_pour_29 ?_
    obtain ⟨r2, μ3, hc4, hf⟩ := bn_some hf
    refine g_callVp (As := [vi 1]) (rest := []) C ⟨Nat.zero_le _, Nat.zero_le _⟩ dX9_pour_30 cw_X9_no m_4_129 m_4_131 m_0_8 in_30 (ec_30 _ _ _ _ _) rfl rfl (c_X9_no  hc4) rfl rfl (Nat.le_of_ble_eq_true rfl) ⟨Nat.le_trans (Nat.le_of_ble_eq_true rfl) hfr, Nat.le_trans (Nat.le_of_ble_eq_true rfl) hlc⟩ ?_
    obtain ⟨g5, hf⟩ := gd_some hf
    exact g_zret C rfl g5 dX9_pour_33 hf
  · rw [if_neg h1] at hf
    refine g_ild_n C 1 rfl rfl dX9_pour_14 ?_
    refine g_iconst C dX9_pour_15 ?_
    refine g_ic_ge C 28 (by decide) dX9_pour_16 (fun h6 => ?_) (fun h6 => ?_)
    · rw [if_pos h6] at hf
      refine g_ald_n C 0 rfl rfl dX9_pour_28 ?_
      refine g_iconst C dX9_pour_29 ?_
      obtain ⟨r7, μ8, hc9, hf⟩ := bn_some hf
      refine g_callVp (As := [vi 1]) (rest := []) C ⟨Nat.zero_le _, Nat.zero_le _⟩ dX9_pour_30 cw_X9_no m_4_129 m_4_131 m_0_8 in_30 (ec_30 _ _ _ _ _) rfl rfl (c_X9_no  hc9) rfl rfl (Nat.le_of_ble_eq_true rfl) ⟨Nat.le_trans (Nat.le_of_ble_eq_true rfl) hfr, Nat.le_trans (Nat.le_of_ble_eq_true rfl) hlc⟩ ?_
      obtain ⟨g10, hf⟩ := gd_some hf
      exact g_zret C rfl g10 dX9_pour_33 hf
    · rw [if_neg h6] at hf
      refine g_ild_n C 3 rfl rfl dX9_pour_19 ?_
      refine g_if_lt C 28 (by decide) dX9_pour_20 (fun h11 => ?_) (fun h11 => ?_)
      · rw [if_pos h11] at hf
        refine g_ald_n C 0 rfl rfl dX9_pour_28 ?_
        refine g_iconst C dX9_pour_29 ?_
        obtain ⟨r12, μ13, hc14, hf⟩ := bn_some hf
        refine g_callVp (As := [vi 1]) (rest := []) C ⟨Nat.zero_le _, Nat.zero_le _⟩ dX9_pour_30 cw_X9_no m_4_129 m_4_131 m_0_8 in_30 (ec_30 _ _ _ _ _) rfl rfl (c_X9_no  hc14) rfl rfl (Nat.le_of_ble_eq_true rfl) ⟨Nat.le_trans (Nat.le_of_ble_eq_true rfl) hfr, Nat.le_trans (Nat.le_of_ble_eq_true rfl) hlc⟩ ?_
        obtain ⟨g15, hf⟩ := gd_some hf
        exact g_zret C rfl g15 dX9_pour_33 hf
      · rw [if_neg h11] at hf
        refine g_ild_n C 3 rfl rfl dX9_pour_23 ?_
        refine g_iconst C dX9_pour_24 ?_
        refine g_ic_lt C 34 (by decide) dX9_pour_25 (fun h16 => ?_) (fun h16 => ?_)
        · rw [if_pos h16] at hf
          refine g_ald_n C 0 rfl rfl dX9_pour_34 ?_
          refine g_get C dX9_pour_35 fl_X9_17 in_30 (ec_30 _ _ _ _ _) rfl ?_
          refine g_ild_n C 1 rfl rfl dX9_pour_38 ?_
          obtain ⟨g17, hf⟩ := gd_some hf
          refine g_iald C dX9_pour_39 in_32 (fun _ => ec_32 _ _ _ _ _) g17 ?_
          refine g_if_lt C 52 (by decide) dX9_pour_40 (fun h18 => ?_) (fun h18 => ?_)
          · rw [if_pos h18] at hf
            refine g_ald_n C 0 rfl rfl dX9_pour_52 ?_
            refine g_iconst C dX9_pour_53 ?_
            obtain ⟨r19, μ20, hc21, hf⟩ := bn_some hf
            refine g_callVp (As := [vi 3]) (rest := []) C ⟨Nat.zero_le _, Nat.zero_le _⟩ dX9_pour_54 cw_X9_no m_4_129 m_4_131 m_0_8 in_30 (ec_30 _ _ _ _ _) rfl rfl (c_X9_no  hc21) rfl rfl (Nat.le_of_ble_eq_true rfl) ⟨Nat.le_trans (Nat.le_of_ble_eq_true rfl) hfr, Nat.le_trans (Nat.le_of_ble_eq_true rfl) hlc⟩ ?_
            obtain ⟨g22, hf⟩ := gd_some hf
            exact g_zret C rfl g22 dX9_pour_57 hf
          · rw [if_neg h18] at hf
            refine g_ald_n C 0 rfl rfl dX9_pour_43 ?_
            refine g_get C dX9_pour_44 fl_X9_17 in_30 (ec_30 _ _ _ _ _) rfl ?_
            refine g_ild_n C 3 rfl rfl dX9_pour_47 ?_
            obtain ⟨g23, hf⟩ := gd_some hf
            refine g_iald C dX9_pour_48 in_32 (fun _ => ec_32 _ _ _ _ _) g23 ?_
            refine g_if_ge C 58 (by decide) dX9_pour_49 (fun h24 => ?_) (fun h24 => ?_)
            · rw [if_pos h24] at hf
              refine g_ald_n C 0 rfl rfl dX9_pour_58 ?_
              refine g_get C dX9_pour_59 fl_X9_13 in_30 (ec_30 _ _ _ _ _) rfl ?_
              refine g_ild_n C 1 rfl rfl dX9_pour_62 ?_
              obtain ⟨g25, hf⟩ := gd_some hf
              refine g_iald C dX9_pour_63 in_31 (fun _ => ec_31 _ _ _ _ _) g25 ?_
              refine g_ald_n C 0 rfl rfl dX9_pour_64 ?_
              refine g_get C dX9_pour_65 fl_X9_13 in_30 (ec_30 _ _ _ _ _) rfl ?_
              refine g_ild_n C 3 rfl rfl dX9_pour_68 ?_
              obtain ⟨g26, hf⟩ := gd_some hf
              refine g_iald C dX9_pour_69 in_31 (fun _ => ec_31 _ _ _ _ _) g26 ?_
              refine g_ic_eq C 80 (by decide) dX9_pour_70 (fun h27 => ?_) (fun h27 => ?_)
              · rw [if_pos h27] at hf
                refine g_ild C 5 rfl dX9_pour_80 ?_
                refine g_if_ge C 92 (by decide) dX9_pour_82 (fun h28 => ?_) (fun h28 => ?_)
                · rw [if_pos h28] at hf
                  refine g_ild_n C 2 rfl rfl dX9_pour_92 ?_
                  refine g_if_lt C 136 (by decide) dX9_pour_93 (fun h29 => ?_) (fun h29 => ?_)
                  · rw [if_pos h29] at hf
                    refine g_ald_n C 0 rfl rfl dX9_pour_136 ?_
                    refine g_iconst C dX9_pour_137 ?_
                    obtain ⟨r30, μ31, hc32, hf⟩ := bn_some hf
                    refine g_callVp (As := [vi 4]) (rest := []) C ⟨Nat.zero_le _, Nat.zero_le _⟩ dX9_pour_138 cw_X9_no m_4_129 m_4_131 m_0_8 in_30 (ec_30 _ _ _ _ _) rfl rfl (c_X9_no  hc32) rfl rfl (Nat.le_of_ble_eq_true rfl) ⟨Nat.le_trans (Nat.le_of_ble_eq_true rfl) hfr, Nat.le_trans (Nat.le_of_ble_eq_true rfl) hlc⟩ ?_
                    obtain ⟨g33, hf⟩ := gd_some hf
                    exact g_zret C rfl g33 dX9_pour_141 hf
                  · rw [if_neg h29] at hf
                    refine g_ild C 4 rfl dX9_pour_96 ?_
                    refine g_if_lt C 136 (by decide) dX9_pour_98 (fun h34 => ?_) (fun h34 => ?_)
                    · rw [if_pos h34] at hf
                      refine g_ald_n C 0 rfl rfl dX9_pour_136 ?_
                      refine g_iconst C dX9_pour_137 ?_
                      obtain ⟨r35, μ36, hc37, hf⟩ := bn_some hf
                      refine g_callVp (As := [vi 4]) (rest := []) C ⟨Nat.zero_le _, Nat.zero_le _⟩ dX9_pour_138 cw_X9_no m_4_129 m_4_131 m_0_8 in_30 (ec_30 _ _ _ _ _) rfl rfl (c_X9_no  hc37) rfl rfl (Nat.le_of_ble_eq_true rfl) ⟨Nat.le_trans (Nat.le_of_ble_eq_true rfl) hfr, Nat.le_trans (Nat.le_of_ble_eq_true rfl) hlc⟩ ?_
                      obtain ⟨g38, hf⟩ := gd_some hf
                      exact g_zret C rfl g38 dX9_pour_141 hf
                    · rw [if_neg h34] at hf
                      refine g_ild_n C 2 rfl rfl dX9_pour_101 ?_
                      refine g_i2l C dX9_pour_102 ?_
                      refine g_ild C 5 rfl dX9_pour_103 ?_
                      refine g_i2l C dX9_pour_105 ?_
                      refine g_ladd C dX9_pour_106 ?_
                      refine g_ald_n C 0 rfl rfl dX9_pour_107 ?_
                      refine g_get C dX9_pour_108 fl_X9_17 in_30 (ec_30 _ _ _ _ _) rfl ?_
                      refine g_ild_n C 1 rfl rfl dX9_pour_111 ?_
                      obtain ⟨g39, hf⟩ := gd_some hf
                      refine g_iald C dX9_pour_112 in_32 (fun _ => ec_32 _ _ _ _ _) g39 ?_
                      refine g_i2l C dX9_pour_113 ?_
                      refine g_lc_gt C 136 (by decide) dX9_pour_114 dX9_pour_115 (fun h40 => ?_) (fun h40 => ?_)
                      · rw [if_pos h40] at hf
                        refine g_ald_n C 0 rfl rfl dX9_pour_136 ?_
                        refine g_iconst C dX9_pour_137 ?_
                        obtain ⟨r41, μ42, hc43, hf⟩ := bn_some hf
                        refine g_callVp (As := [vi 4]) (rest := []) C ⟨Nat.zero_le _, Nat.zero_le _⟩ dX9_pour_138 cw_X9_no m_4_129 m_4_131 m_0_8 in_30 (ec_30 _ _ _ _ _) rfl rfl (c_X9_no  hc43) rfl rfl (Nat.le_of_ble_eq_true rfl) ⟨Nat.le_trans (Nat.le_of_ble_eq_true rfl) hfr, Nat.le_trans (Nat.le_of_ble_eq_true rfl) hlc⟩ ?_
                        obtain ⟨g44, hf⟩ := gd_some hf
                        exact g_zret C rfl g44 dX9_pour_141 hf
                      · rw [if_neg h40] at hf
                        refine g_ild C 4 rfl dX9_pour_118 ?_
                        refine g_i2l C dX9_pour_120 ?_
                        refine g_ild C 5 rfl dX9_pour_121 ?_
                        refine g_i2l C dX9_pour_123 ?_
                        refine g_ladd C dX9_pour_124 ?_
                        refine g_ald_n C 0 rfl rfl dX9_pour_125 ?_
                        refine g_get C dX9_pour_126 fl_X9_17 in_30 (ec_30 _ _ _ _ _) rfl ?_
                        refine g_ild_n C 3 rfl rfl dX9_pour_129 ?_
                        obtain ⟨g45, hf⟩ := gd_some hf
                        refine g_iald C dX9_pour_130 in_32 (fun _ => ec_32 _ _ _ _ _) g45 ?_
                        refine g_i2l C dX9_pour_131 ?_
                        refine g_lc_le C 142 (by decide) dX9_pour_132 dX9_pour_133 (fun h46 => ?_) (fun h46 => ?_)
                        · rw [if_pos h46] at hf
                          refine g_ild_n C 2 rfl rfl dX9_pour_142 ?_
                          refine g_ild C 4 rfl dX9_pour_143 ?_
                          obtain ⟨j153, ej54, hf⟩ := jn_some hf
                          have hj153 : ∀ (y47 : Int), j153 y47 = some (r, μ') → GG D Y LBm (Ar LBm α sz) p l e R s m args below meth c 9 (MQ below (Qcx D Y LBm α sz (some (vi r)) (fun a => a = α) μ') args s 0 0 (Ar LBm α sz)) α 0 0 [(0, vr α 30 0), (1, vi a1), (2, vi a2), (3, vi a3), (4, vi a4), (5, vi a5)] [vi y47] (st (st μ 30 0 1 0) 30 0 0 0) 153 := by
                            intro y47 hf
                            rw [ej54] at hf
                            try dsimp only at hf
                            refine g_ist (lo' := [(6, vi y47), (0, vr α 30 0), (1, vi a1), (2, vi a2), (3, vi a3), (4, vi a4), (5, vi a5)]) C (by decide) rfl dX9_pour_153 ?_
                            refine g_iconst C dX9_pour_155 ?_
                            refine g_ist (lo' := [(7, vi 0), (6, vi y47), (0, vr α 30 0), (1, vi a1), (2, vi a2), (3, vi a3), (4, vi a4), (5, vi a5)]) C (by decide) rfl dX9_pour_156 ?_
                            refine g_sub C [2, 3, 4, 5, 6, 7, 1, 0] rfl (c_X9_pour_l158 C hfr hlc   _ _ _ hf)
                          clear ej54
                          refine g_ic_ge C 152 (by decide) dX9_pour_145 (fun h55 => ?_) (fun h55 => ?_)
                          · rw [if_pos h55] at hf
                            refine g_iconst C dX9_pour_152 ?_
                            exact g_sub C [0, 1, 2, 3, 4, 5] rfl (hj153 _ hf)
                          · rw [if_neg h55] at hf
                            refine g_iconst C dX9_pour_148 ?_
                            refine g_goto C 153 (by decide) dX9_pour_149 ?_
                            exact g_sub C [0, 1, 2, 3, 4, 5] rfl (hj153 _ hf)
                        · rw [if_neg h46] at hf
                          refine g_ald_n C 0 rfl rfl dX9_pour_136 ?_
                          refine g_iconst C dX9_pour_137 ?_
                          obtain ⟨r56, μ57, hc58, hf⟩ := bn_some hf
                          refine g_callVp (As := [vi 4]) (rest := []) C ⟨Nat.zero_le _, Nat.zero_le _⟩ dX9_pour_138 cw_X9_no m_4_129 m_4_131 m_0_8 in_30 (ec_30 _ _ _ _ _) rfl rfl (c_X9_no  hc58) rfl rfl (Nat.le_of_ble_eq_true rfl) ⟨Nat.le_trans (Nat.le_of_ble_eq_true rfl) hfr, Nat.le_trans (Nat.le_of_ble_eq_true rfl) hlc⟩ ?_
                          obtain ⟨g59, hf⟩ := gd_some hf
                          exact g_zret C rfl g59 dX9_pour_141 hf
                · rw [if_neg h28] at hf
                  refine g_ald_n C 0 rfl rfl dX9_pour_85 ?_
                  refine g_bipush C rfl dX9_pour_86 ?_
                  obtain ⟨r60, μ61, hc62, hf⟩ := bn_some hf
                  refine g_callVp (As := [vi 6]) (rest := []) C ⟨Nat.zero_le _, Nat.zero_le _⟩ dX9_pour_88 cw_X9_no m_4_129 m_4_131 m_0_8 in_30 (ec_30 _ _ _ _ _) rfl rfl (c_X9_no  hc62) rfl rfl (Nat.le_of_ble_eq_true rfl) ⟨Nat.le_trans (Nat.le_of_ble_eq_true rfl) hfr, Nat.le_trans (Nat.le_of_ble_eq_true rfl) hlc⟩ ?_
                  obtain ⟨g63, hf⟩ := gd_some hf
                  exact g_zret C rfl g63 dX9_pour_91 hf
              · rw [if_neg h27] at hf
                refine g_ald_n C 0 rfl rfl dX9_pour_73 ?_
                refine g_bipush C rfl dX9_pour_74 ?_
                obtain ⟨r64, μ65, hc66, hf⟩ := bn_some hf
                refine g_callVp (As := [vi 11]) (rest := []) C ⟨Nat.zero_le _, Nat.zero_le _⟩ dX9_pour_76 cw_X9_no m_4_129 m_4_131 m_0_8 in_30 (ec_30 _ _ _ _ _) rfl rfl (c_X9_no  hc66) rfl rfl (Nat.le_of_ble_eq_true rfl) ⟨Nat.le_trans (Nat.le_of_ble_eq_true rfl) hfr, Nat.le_trans (Nat.le_of_ble_eq_true rfl) hlc⟩ ?_
                obtain ⟨g67, hf⟩ := gd_some hf
                exact g_zret C rfl g67 dX9_pour_79 hf
            · rw [if_neg h24] at hf
              refine g_ald_n C 0 rfl rfl dX9_pour_52 ?_
              refine g_iconst C dX9_pour_53 ?_
              obtain ⟨r68, μ69, hc70, hf⟩ := bn_some hf
              refine g_callVp (As := [vi 3]) (rest := []) C ⟨Nat.zero_le _, Nat.zero_le _⟩ dX9_pour_54 cw_X9_no m_4_129 m_4_131 m_0_8 in_30 (ec_30 _ _ _ _ _) rfl rfl (c_X9_no  hc70) rfl rfl (Nat.le_of_ble_eq_true rfl) ⟨Nat.le_trans (Nat.le_of_ble_eq_true rfl) hfr, Nat.le_trans (Nat.le_of_ble_eq_true rfl) hlc⟩ ?_
              obtain ⟨g71, hf⟩ := gd_some hf
              exact g_zret C rfl g71 dX9_pour_57 hf
        · rw [if_neg h16] at hf
          refine g_ald_n C 0 rfl rfl dX9_pour_28 ?_
          refine g_iconst C dX9_pour_29 ?_
          obtain ⟨r72, μ73, hc74, hf⟩ := bn_some hf
          refine g_callVp (As := [vi 1]) (rest := []) C ⟨Nat.zero_le _, Nat.zero_le _⟩ dX9_pour_30 cw_X9_no m_4_129 m_4_131 m_0_8 in_30 (ec_30 _ _ _ _ _) rfl rfl (c_X9_no  hc74) rfl rfl (Nat.le_of_ble_eq_true rfl) ⟨Nat.le_trans (Nat.le_of_ble_eq_true rfl) hfr, Nat.le_trans (Nat.le_of_ble_eq_true rfl) hlc⟩ ?_
          obtain ⟨g75, hf⟩ := gd_some hf
          exact g_zret C rfl g75 dX9_pour_33 hf
set_option maxHeartbeats 4000000 in
set_option maxRecDepth 100000 in
theorem c_X9_pour {l : Launch} {D : va_G} {Y : Nat → ClassId} {α : Adr} {a1 : Int} {a2 : Int} {a3 : Int} {a4 : Int} {a5 : Int} {μ : Mem} {r : Int} {μ' : Mem}  (hf : f_X9_pour a1 a2 a3 a4 a5 μ = some (r, μ')) : Ctr l D Y LBm yX9_pour cX9_pour 9 (some .boolean) 1 21 0 0 [vr α 30 0, vi a1, vi a2, vi a3, vi a4, vi a5] α μ (some (vi r)) (fun a => a = α) μ' := Ctr_of pn_X9 rfl rfl (Nat.le_of_ble_eq_true rfl) LBm_nd (fun p e s m below meth c sz C => b_X9_pour C (Nat.le_refl _) (Nat.le_refl _)  hf)
end

/-! EndTellerModel.common -/
def f_X9_common_L6  : Nat → Int → Int → Mem → Option (Int × Mem)
  | 0, _, _, _ => none
  | n + 1, x4, x6, μ => (if w64 x6 = w64 0 then some (x4, μ) else gd (¬ w64 x6 = 0) (f_X9_common_L6 n x6 (Int.tmod (w64 x4) (w64 x6)) μ))
def f_X9_common (a0 : Int) (a2 : Int) (μ : Mem) : Option (Int × Mem) := f_X9_common_L6 FU a0 a2 μ
section
variable {p : Program} {l : Launch} {e : Env} {R : Room} {s : State} {m : MethodId} {args : Array Value} {below : List Frame} {meth : Method} {c : Code} {D : va_G} {Y : Nat → ClassId} {α : Adr} {sz : Nat} {r : Int} {μ' : Mem}
set_option maxHeartbeats 4000000 in
set_option maxRecDepth 100000 in
theorem c_X9_common_l6  (C : CX p s m args meth c cX9_common 10 RX9 (some .long) D Y LBm (Ar LBm α sz)) (hfr : 0 ≤ R.frames) (hlc : 0 ≤ R.locals)    : ∀ (n : Nat) (x4 x6 : Int) (μ : Mem), f_X9_common_L6 n x4 x6 μ = some (r, μ') → GG D Y LBm (Ar LBm α sz) p l e R s m args below meth c 10 (MQ below (Qcx D Y LBm α sz (some (vl r)) (fun a => a = α) μ') args s 0 0 (Ar LBm α sz)) α 0 0 [(4, vl x4), (6, vl x6)] [] μ 6 := by
  intro n
  induction n with
  | zero =>
    intro x4 x6 μ hf
    exact nomatch (show (none : Option (Int × Mem)) = some _ from hf)
  | succ n ih =>
    intro x4 x6 μ hf
    rw [f_X9_common_L6.eq_2] at hf
    refine g_lld C 1 rfl dX9_common_6 ?_
    refine g_lconst (x := 0) C rfl dX9_common_8 ?_
    refine g_lc_eq C 31 (by decide) dX9_common_9 dX9_common_10 (fun h1 => ?_) (fun h1 => ?_)
    · rw [if_pos h1] at hf
      refine g_lld C 0 rfl dX9_common_31 ?_
      exact g_lret C rfl dX9_common_33 hf
    · rw [if_neg h1] at hf
      refine g_lld C 0 rfl dX9_common_13 ?_
      refine g_lld C 1 rfl dX9_common_15 ?_
      obtain ⟨g2, hf⟩ := gd_some hf
      refine g_lrem C g2 dX9_common_17 ?_
      refine g_lst (lo' := [(8, vl (Int.tmod (w64 x4) (w64 x6))), (4, vl x4), (6, vl x6)]) C (by decide) rfl dX9_common_18 ?_
      refine g_lld C 2 rfl dX9_common_20 ?_
      refine g_lst (lo' := [(4, vl x6), (8, vl (Int.tmod (w64 x4) (w64 x6))), (6, vl x6)]) C (by decide) rfl dX9_common_22 ?_
      refine g_lld C 1 rfl dX9_common_24 ?_
      refine g_lst (lo' := [(6, vl (Int.tmod (w64 x4) (w64 x6))), (4, vl x6), (8, vl (Int.tmod (w64 x4) (w64 x6)))]) C (by decide) rfl dX9_common_26 ?_
      refine g_goto C 6 (by decide) dX9_common_28 ?_
      exact g_sub C [1, 0] rfl (ih _ _ _ hf)
set_option maxHeartbeats 4000000 in
set_option maxRecDepth 100000 in
theorem b_X9_common {a0 : Int} {a2 : Int} {μ : Mem} (C : CX p s m args meth c cX9_common 10 RX9 (some .long) D Y LBm (Ar LBm α sz)) (hfr : 0 ≤ R.frames) (hlc : 0 ≤ R.locals)  (hf : f_X9_common a0 a2 μ = some (r, μ')) : GG D Y LBm (Ar LBm α sz) p l e R s m args below meth c 10 (MQ below (Qcx D Y LBm α sz (some (vl r)) (fun a => a = α) μ') args s 0 0 (Ar LBm α sz)) α 0 0 [(0, vl a0), (2, vl a2)] [] μ 0 := by
  unfold f_X9_common at hf
  refine g_lld_n C 0 rfl rfl dX9_common_0 ?_
  refine g_lst (lo' := [(4, vl a0), (0, vl a0), (2, vl a2)]) C (by decide) rfl dX9_common_1 ?_
  refine g_lld_n C 2 rfl rfl dX9_common_3 ?_
  refine g_lst (lo' := [(6, vl a2), (4, vl a0), (0, vl a0), (2, vl a2)]) C (by decide) rfl dX9_common_4 ?_
  refine g_sub C [1, 0] rfl (c_X9_common_l6 C hfr hlc   _ _ _ _ hf)
set_option maxHeartbeats 4000000 in
set_option maxRecDepth 100000 in
theorem c_X9_common {l : Launch} {D : va_G} {Y : Nat → ClassId} {α : Adr} {a0 : Int} {a2 : Int} {μ : Mem} {r : Int} {μ' : Mem}  (hf : f_X9_common a0 a2 μ = some (r, μ')) : Ctr l D Y LBm yX9_common cX9_common 10 (some .long) 0 0 0 0 [vl a0, vl a2] α μ (some (vl r)) (fun a => a = α) μ' := Ctr_of pn_X9 rfl rfl (Nat.le_of_ble_eq_true rfl) LBm_nd (fun p e s m below meth c sz C => b_X9_common C (Nat.le_refl _) (Nat.le_refl _)  hf)
end

/-! EndTellerModel.clearMade -/
def f_X9_clearMade_L2  : Nat → Int → Mem → Option (Int × Mem)
  | 0, _, _ => none
  | n + 1, x1, μ => (if w32 300 ≤ w32 x1 then some (0, μ) else gd (inb x1 300) (f_X9_clearMade_L2 n (x1 + 1) (st μ 43 0 (ix x1) 0)))
def f_X9_clearMade  (μ : Mem) : Option (Int × Mem) := f_X9_clearMade_L2 FU 0 μ
section
variable {p : Program} {l : Launch} {e : Env} {R : Room} {s : State} {m : MethodId} {args : Array Value} {below : List Frame} {meth : Method} {c : Code} {D : va_G} {Y : Nat → ClassId} {α : Adr} {sz : Nat} {r : Int} {μ' : Mem}
set_option maxHeartbeats 4000000 in
set_option maxRecDepth 100000 in
theorem c_X9_clearMade_l2  (C : CX p s m args meth c cX9_clearMade 2 RX9 none D Y LBm (Ar LBm α sz)) (hfr : 0 ≤ R.frames) (hlc : 0 ≤ R.locals)    : ∀ (n : Nat) (x1 : Int) (μ : Mem), f_X9_clearMade_L2 n x1 μ = some (r, μ') → GG D Y LBm (Ar LBm α sz) p l e R s m args below meth c 2 (MQ below (Qcx D Y LBm α sz none (fun a => a = α) μ') args s 0 0 (Ar LBm α sz)) α 0 0 [(0, vr α 30 0), (1, vi x1)] [] μ 2 := by
  intro n
  induction n with
  | zero =>
    intro x1 μ hf
    exact nomatch (show (none : Option (Int × Mem)) = some _ from hf)
  | succ n ih =>
    intro x1 μ hf
    rw [f_X9_clearMade_L2.eq_2] at hf
    refine g_ild_n C 1 rfl rfl dX9_clearMade_2 ?_
    refine g_sipush C rfl dX9_clearMade_3 ?_
    refine g_ic_ge C 22 (by decide) dX9_clearMade_6 (fun h1 => ?_) (fun h1 => ?_)
    · rw [if_pos h1] at hf
      exact g_vret C rfl dX9_clearMade_22 hf
    · rw [if_neg h1] at hf
      refine g_ald_n C 0 rfl rfl dX9_clearMade_9 ?_
      refine g_get C dX9_clearMade_10 fl_X9_58 in_30 (ec_30 _ _ _ _ _) rfl ?_
      refine g_ild_n C 1 rfl rfl dX9_clearMade_13 ?_
      refine g_lconst (x := 0) C rfl dX9_clearMade_14 ?_
      obtain ⟨g2, hf⟩ := gd_some hf
      refine g_last C dX9_clearMade_15 in_43 (fun _ => ec_43 _ _ _ _ _) (by decide) g2 ?_
      refine g_iinc (lo' := [(1, vi (x1 + 1)), (0, vr α 30 0)]) C 1 rfl (by decide) rfl dX9_clearMade_16 ?_
      refine g_goto C 2 (by decide) dX9_clearMade_19 ?_
      exact g_sub C [1, 0] rfl (ih _ _ hf)
set_option maxHeartbeats 4000000 in
set_option maxRecDepth 100000 in
theorem b_X9_clearMade  {μ : Mem} (C : CX p s m args meth c cX9_clearMade 2 RX9 none D Y LBm (Ar LBm α sz)) (hfr : 0 ≤ R.frames) (hlc : 0 ≤ R.locals)  (hf : f_X9_clearMade μ = some (r, μ')) : GG D Y LBm (Ar LBm α sz) p l e R s m args below meth c 2 (MQ below (Qcx D Y LBm α sz none (fun a => a = α) μ') args s 0 0 (Ar LBm α sz)) α 0 0 [(0, vr α 30 0)] [] μ 0 := by
  unfold f_X9_clearMade at hf
  refine g_iconst C dX9_clearMade_0 ?_
  refine g_ist_n (lo' := [(1, vi 0), (0, vr α 30 0)]) C rfl (by decide) rfl dX9_clearMade_1 ?_
  refine g_sub C [1, 0] rfl (c_X9_clearMade_l2 C hfr hlc   _ _ _ hf)
set_option maxHeartbeats 4000000 in
set_option maxRecDepth 100000 in
theorem c_X9_clearMade {l : Launch} {D : va_G} {Y : Nat → ClassId} {α : Adr}  {μ : Mem} {r : Int} {μ' : Mem}  (hf : f_X9_clearMade μ = some (r, μ')) : Ctr l D Y LBm yX9_clearMade cX9_clearMade 2 none 0 0 0 0 [vr α 30 0] α μ none (fun a => a = α) μ' := Ctr_of pn_X9 rfl rfl (Nat.le_of_ble_eq_true rfl) LBm_nd (fun p e s m below meth c sz C => b_X9_clearMade C (Nat.le_refl _) (Nat.le_refl _)  hf)
end

/-! EndTellerModel.adds -/
def f_X9_adds_L24 (x1 : Int) (k72 : Int → Int → Mem → Option (Int × Mem)) : Nat → Int → Int → Int → Mem → Option (Int × Mem)
  | 0, _, _, _, _ => none
  | n + 1, x2, x4, x5, μ => (if w32 300 ≤ w32 x5 then k72 x2 x4 μ else gd (inb x5 300) (bn (f_X9_common (μ 43 0 (ix x5)) x2 μ) (fun r7 μ8 => gd (inb x5 300) (jn (fun y11 => f_X9_adds_L24 x1 k72 n r7 (x4 + y11) (x5 + 1) μ8) (fun j63 => (if w64 (μ8 43 0 (ix x5)) ≤ w64 0 then j63 0 else j63 1))))))
def f_X9_adds_L89 (x1 : Int) (x2 : Int) (x4 : Int) (k145 : Mem → Option (Int × Mem)) : Nat → Int → Mem → Option (Int × Mem)
  | 0, _, _ => none
  | n + 1, x5, μ => (if w32 300 ≤ w32 x5 then k145  μ else gd (inb x5 300) (jn (f_X9_adds_L89 x1 x2 x4 k145 n (x5 + 1) μ) (fun j139 => (if w64 (μ 43 0 (ix x5)) ≤ w64 0 then j139  else (if w32 99 < w32 x5 then bn (f_X9_refuse 7 μ) (fun r23 μ24 => some (r23, μ24)) else gd (inb x5 300) (gd (¬ w64 x2 = 0) ((if w64 (Int.tdiv (w64 (μ 43 0 (ix x5))) (w64 x2)) ≤ w64 1000 then j139  else bn (f_X9_refuse 7 μ) (fun r29 μ30 => some (r29, μ30))))))))))
def f_X9_adds_L157 (x1 : Int) (x2 : Int) (x4 : Int) (k215 : Mem → Option (Int × Mem)) : Nat → Int → Int → Mem → Option (Int × Mem)
  | 0, _, _, _ => none
  | n + 1, x5, x6, μ => (if w32 300 ≤ w32 x6 then k215  μ else gd (inb x6 300) (jn (fun y36 μ35 => f_X9_adds_L157 x1 x2 x4 k215 n y36 (x6 + 1) μ35) (fun j209 => (if w64 (μ 43 0 (ix x6)) = w64 0 then j209 x5 μ else gd (inb x5 80) (gd (inb x6 300) (gd (¬ w64 x2 = 0) (gd (inb x5 80) (j209 (x5 + 1) (st (st μ 38 0 (ix x5) x6) 39 0 (ix x5) (Int.tdiv (w64 ((st μ 38 0 (ix x5) x6) 43 0 (ix x6))) (w64 x2)))))))))))
def f_X9_adds_L259  : Nat → Int → Mem → Option (Int × Mem)
  | 0, _, _ => none
  | n + 1, x6, μ => (if w32 4 ≤ w32 x6 then some ((((st μ 30 0 7 ((μ 30 0 7) + 1)) 30 0 7) - 1), (st μ 30 0 7 ((μ 30 0 7) + 1))) else gd (inb ((4 * (μ 30 0 7)) + x6) 40) (f_X9_adds_L259 n (x6 + 1) (st μ 40 0 (ix ((4 * (μ 30 0 7)) + x6)) 0)))
def f_X9_adds (a1 : Int) (μ : Mem) : Option (Int × Mem) := (if w32 (μ 30 0 7) = w32 10 then bn (f_X9_refuse 7 μ) (fun r2 μ3 => some (r2, μ3)) else f_X9_adds_L24 a1 (fun y15 y16 μ14 => (if w32 y16 ≤ w32 8 then f_X9_adds_L89 a1 y15 y16 (fun μ32 => f_X9_adds_L157 a1 y15 y16 (fun μ43 => gd (inb (μ43 30 0 7) 10) (gd (inb ((st μ43 34 0 (ix (μ43 30 0 7)) y16) 30 0 7) 10) (gd (inb ((st (st μ43 34 0 (ix (μ43 30 0 7)) y16) 35 0 (ix ((st μ43 34 0 (ix (μ43 30 0 7)) y16) 30 0 7)) a1) 30 0 7) 10) (gd (inb ((st (st (st μ43 34 0 (ix (μ43 30 0 7)) y16) 35 0 (ix ((st μ43 34 0 (ix (μ43 30 0 7)) y16) 30 0 7)) a1) 36 0 (ix ((st (st μ43 34 0 (ix (μ43 30 0 7)) y16) 35 0 (ix ((st μ43 34 0 (ix (μ43 30 0 7)) y16) 30 0 7)) a1) 30 0 7)) 0) 30 0 7) 10) (f_X9_adds_L259 FU 0 (st (st (st (st μ43 34 0 (ix (μ43 30 0 7)) y16) 35 0 (ix ((st μ43 34 0 (ix (μ43 30 0 7)) y16) 30 0 7)) a1) 36 0 (ix ((st (st μ43 34 0 (ix (μ43 30 0 7)) y16) 35 0 (ix ((st μ43 34 0 (ix (μ43 30 0 7)) y16) 30 0 7)) a1) 30 0 7)) 0) 37 0 (ix ((st (st (st μ43 34 0 (ix (μ43 30 0 7)) y16) 35 0 (ix ((st μ43 34 0 (ix (μ43 30 0 7)) y16) 30 0 7)) a1) 36 0 (ix ((st (st μ43 34 0 (ix (μ43 30 0 7)) y16) 35 0 (ix ((st μ43 34 0 (ix (μ43 30 0 7)) y16) 30 0 7)) a1) 30 0 7)) 0) 30 0 7)) (-1))))))) FU (8 * (μ32 30 0 7)) 0 μ32) FU 0 μ14 else bn (f_X9_refuse 7 μ14) (fun r50 μ51 => some (r50, μ51)))) FU 0 0 0 μ)
section
variable {p : Program} {l : Launch} {e : Env} {R : Room} {s : State} {m : MethodId} {args : Array Value} {below : List Frame} {meth : Method} {c : Code} {D : va_G} {Y : Nat → ClassId} {α : Adr} {sz : Nat} {r : Int} {μ' : Mem}
set_option maxHeartbeats 4000000 in
set_option maxRecDepth 100000 in
theorem c_X9_adds_l24 {x1 : Int} {k72 : Int → Int → Mem → Option (Int × Mem)} (C : CX p s m args meth c cX9_adds 7 RX9 (some .int) D Y LBm (Ar LBm α sz)) (hfr : 1 ≤ R.frames) (hlc : 29 ≤ R.locals)  (hk72 : ∀ (y2 y4 : Int) (μ : Mem), k72 y2 y4 μ = some (r, μ') → GG D Y LBm (Ar LBm α sz) p l e R s m args below meth c 7 (MQ below (Qcx D Y LBm α sz (some (vi r)) (fun a => a = α) μ') args s 0 0 (Ar LBm α sz)) α 0 0 [(0, vr α 30 0), (1, vi x1), (2, vl y2), (4, vi y4)] [] μ 72)  : ∀ (n : Nat) (x2 x4 x5 : Int) (μ : Mem), f_X9_adds_L24 x1 k72 n x2 x4 x5 μ = some (r, μ') → GG D Y LBm (Ar LBm α sz) p l e R s m args below meth c 7 (MQ below (Qcx D Y LBm α sz (some (vi r)) (fun a => a = α) μ') args s 0 0 (Ar LBm α sz)) α 0 0 [(0, vr α 30 0), (1, vi x1), (2, vl x2), (4, vi x4), (5, vi x5)] [] μ 24 := by
  intro n
  induction n with
  | zero =>
    intro x2 x4 x5 μ hf
    exact nomatch (show (none : Option (Int × Mem)) = some _ from hf)
  | succ n ih =>
    intro x2 x4 x5 μ hf
    rw [f_X9_adds_L24.eq_2] at hf
    refine g_ild C 4 rfl dX9_adds_24 ?_
    refine g_sipush C rfl dX9_adds_26 ?_
    refine g_ic_ge C 72 (by decide) dX9_adds_29 (fun h5 => ?_) (fun h5 => ?_)
    · rw [if_pos h5] at hf
      exact g_sub C [0, 1, 2, 3] rfl (hk72 _ _ _ hf)
    · rw [if_neg h5] at hf
      refine g_ald_n C 0 rfl rfl dX9_adds_32 ?_
      refine g_get C dX9_adds_33 fl_X9_58 in_30 (ec_30 _ _ _ _ _) rfl ?_
      refine g_ild C 4 rfl dX9_adds_36 ?_
      obtain ⟨g6, hf⟩ := gd_some hf
      refine g_lald C dX9_adds_38 in_43 (fun _ => ec_43 _ _ _ _ _) g6 ?_
      refine g_lld_n C 2 rfl rfl dX9_adds_39 ?_
      obtain ⟨r7, μ8, hc9, hf⟩ := bn_some hf
      refine g_callSp (As := [vl (μ 43 0 (ix x5)), vl x2]) (rest := []) C ⟨Nat.zero_le _, Nat.zero_le _⟩ dX9_adds_40 cw_X9_common m_4_178 m_4_179 (c_X9_common  hc9) rfl rfl (Nat.le_of_ble_eq_true rfl) ⟨Nat.le_trans (Nat.le_of_ble_eq_true rfl) hfr, Nat.le_trans (Nat.le_of_ble_eq_true rfl) hlc⟩ ?_
      refine g_lst_n (lo' := [(2, vl r7), (0, vr α 30 0), (1, vi x1), (4, vi x4), (5, vi x5)]) C rfl (by decide) rfl dX9_adds_43 ?_
      refine g_ild C 3 rfl dX9_adds_44 ?_
      refine g_ald_n C 1 rfl rfl dX9_adds_46 ?_
      refine g_get C dX9_adds_47 fl_X9_58 in_30 (ec_30 _ _ _ _ _) rfl ?_
      refine g_ild C 4 rfl dX9_adds_50 ?_
      obtain ⟨g10, hf⟩ := gd_some hf
      refine g_lald C dX9_adds_52 in_43 (fun _ => ec_43 _ _ _ _ _) g10 ?_
      refine g_lconst (x := 0) C rfl dX9_adds_53 ?_
      obtain ⟨j63, ej12, hf⟩ := jn_some hf
      have hj63 : ∀ (y11 : Int), j63 y11 = some (r, μ') → GG D Y LBm (Ar LBm α sz) p l e R s m args below meth c 7 (MQ below (Qcx D Y LBm α sz (some (vi r)) (fun a => a = α) μ') args s 0 0 (Ar LBm α sz)) α 0 0 [(0, vr α 30 0), (1, vi x1), (2, vl r7), (5, vi x5)] [vi y11, vi x4] μ8 63 := by
        intro y11 hf
        rw [ej12] at hf
        try dsimp only at hf
        refine g_iadd C dX9_adds_63 ?_
        refine g_ist (lo' := [(4, vi (x4 + y11)), (0, vr α 30 0), (1, vi x1), (2, vl r7), (5, vi x5)]) C (by decide) rfl dX9_adds_64 ?_
        refine g_iinc (lo' := [(5, vi (x5 + 1)), (4, vi (x4 + y11)), (0, vr α 30 0), (1, vi x1), (2, vl r7)]) C 4 rfl (by decide) rfl dX9_adds_66 ?_
        refine g_goto C 24 (by decide) dX9_adds_69 ?_
        exact g_sub C [2, 3, 4, 1, 0] rfl (ih _ _ _ _ hf)
      clear ej12
      refine g_lc_le C 62 (by decide) dX9_adds_54 dX9_adds_55 (fun h13 => ?_) (fun h13 => ?_)
      · rw [if_pos h13] at hf
        refine g_iconst C dX9_adds_62 ?_
        exact g_sub C [1, 2, 0, 4] rfl (hj63 _ hf)
      · rw [if_neg h13] at hf
        refine g_iconst C dX9_adds_58 ?_
        refine g_goto C 63 (by decide) dX9_adds_59 ?_
        exact g_sub C [1, 2, 0, 4] rfl (hj63 _ hf)
set_option maxHeartbeats 4000000 in
set_option maxRecDepth 100000 in
theorem c_X9_adds_l89 {x1 : Int} {x2 : Int} {x4 : Int} {k145 : Mem → Option (Int × Mem)} (C : CX p s m args meth c cX9_adds 7 RX9 (some .int) D Y LBm (Ar LBm α sz)) (hfr : 1 ≤ R.frames) (hlc : 29 ≤ R.locals)  (hk145 : ∀ (μ : Mem), k145 μ = some (r, μ') → GG D Y LBm (Ar LBm α sz) p l e R s m args below meth c 7 (MQ below (Qcx D Y LBm α sz (some (vi r)) (fun a => a = α) μ') args s 0 0 (Ar LBm α sz)) α 0 0 [(0, vr α 30 0), (1, vi x1), (2, vl x2), (4, vi x4)] [] μ 145)  : ∀ (n : Nat) (x5 : Int) (μ : Mem), f_X9_adds_L89 x1 x2 x4 k145 n x5 μ = some (r, μ') → GG D Y LBm (Ar LBm α sz) p l e R s m args below meth c 7 (MQ below (Qcx D Y LBm α sz (some (vi r)) (fun a => a = α) μ') args s 0 0 (Ar LBm α sz)) α 0 0 [(0, vr α 30 0), (1, vi x1), (2, vl x2), (4, vi x4), (5, vi x5)] [] μ 89 := by
  intro n
  induction n with
  | zero =>
    intro x5 μ hf
    exact nomatch (show (none : Option (Int × Mem)) = some _ from hf)
  | succ n ih =>
    intro x5 μ hf
    rw [f_X9_adds_L89.eq_2] at hf
    refine g_ild C 4 rfl dX9_adds_89 ?_
    refine g_sipush C rfl dX9_adds_91 ?_
    refine g_ic_ge C 145 (by decide) dX9_adds_94 (fun h18 => ?_) (fun h18 => ?_)
    · rw [if_pos h18] at hf
      exact g_sub C [0, 1, 2, 3] rfl (hk145 _ hf)
    · rw [if_neg h18] at hf
      refine g_ald_n C 0 rfl rfl dX9_adds_97 ?_
      refine g_get C dX9_adds_98 fl_X9_58 in_30 (ec_30 _ _ _ _ _) rfl ?_
      refine g_ild C 4 rfl dX9_adds_101 ?_
      obtain ⟨g19, hf⟩ := gd_some hf
      refine g_lald C dX9_adds_103 in_43 (fun _ => ec_43 _ _ _ _ _) g19 ?_
      refine g_lconst (x := 0) C rfl dX9_adds_104 ?_
      obtain ⟨j139, ej20, hf⟩ := jn_some hf
      have hj139 : j139  = some (r, μ') → GG D Y LBm (Ar LBm α sz) p l e R s m args below meth c 7 (MQ below (Qcx D Y LBm α sz (some (vi r)) (fun a => a = α) μ') args s 0 0 (Ar LBm α sz)) α 0 0 [(0, vr α 30 0), (1, vi x1), (2, vl x2), (4, vi x4), (5, vi x5)] [] μ 139 := by
        intro  hf
        rw [ej20] at hf
        try dsimp only at hf
        refine g_iinc (lo' := [(5, vi (x5 + 1)), (0, vr α 30 0), (1, vi x1), (2, vl x2), (4, vi x4)]) C 4 rfl (by decide) rfl dX9_adds_139 ?_
        refine g_goto C 89 (by decide) dX9_adds_142 ?_
        exact g_sub C [1, 2, 3, 4, 0] rfl (ih _ _ hf)
      clear ej20
      refine g_lc_le C 139 (by decide) dX9_adds_105 dX9_adds_106 (fun h21 => ?_) (fun h21 => ?_)
      · rw [if_pos h21] at hf
        exact g_sub C [0, 1, 2, 3, 4] rfl (hj139  hf)
      · rw [if_neg h21] at hf
        refine g_ild C 4 rfl dX9_adds_109 ?_
        refine g_bipush C rfl dX9_adds_111 ?_
        refine g_ic_gt C 132 (by decide) dX9_adds_113 (fun h22 => ?_) (fun h22 => ?_)
        · rw [if_pos h22] at hf
          refine g_ald_n C 0 rfl rfl dX9_adds_132 ?_
          refine g_bipush C rfl dX9_adds_133 ?_
          obtain ⟨r23, μ24, hc25, hf⟩ := bn_some hf
          refine g_callVp (As := [vi 7]) (rest := []) C ⟨Nat.zero_le _, Nat.zero_le _⟩ dX9_adds_135 cw_X9_refuse m_4_164 m_4_166 m_0_11 in_30 (ec_30 _ _ _ _ _) rfl rfl (c_X9_refuse  hc25) rfl rfl (Nat.le_of_ble_eq_true rfl) ⟨Nat.le_trans (Nat.le_of_ble_eq_true rfl) hfr, Nat.le_trans (Nat.le_of_ble_eq_true rfl) hlc⟩ ?_
          exact g_iret C rfl dX9_adds_138 hf
        · rw [if_neg h22] at hf
          refine g_ald_n C 0 rfl rfl dX9_adds_116 ?_
          refine g_get C dX9_adds_117 fl_X9_58 in_30 (ec_30 _ _ _ _ _) rfl ?_
          refine g_ild C 4 rfl dX9_adds_120 ?_
          obtain ⟨g26, hf⟩ := gd_some hf
          refine g_lald C dX9_adds_122 in_43 (fun _ => ec_43 _ _ _ _ _) g26 ?_
          refine g_lld_n C 2 rfl rfl dX9_adds_123 ?_
          obtain ⟨g27, hf⟩ := gd_some hf
          refine g_ldiv C g27 dX9_adds_124 ?_
          refine g_ldc2 (x := 1000) C m_4_173 dX9_adds_125 ?_
          refine g_lc_le C 139 (by decide) dX9_adds_128 dX9_adds_129 (fun h28 => ?_) (fun h28 => ?_)
          · rw [if_pos h28] at hf
            exact g_sub C [0, 1, 2, 3, 4] rfl (hj139  hf)
          · rw [if_neg h28] at hf
            refine g_ald_n C 0 rfl rfl dX9_adds_132 ?_
            refine g_bipush C rfl dX9_adds_133 ?_
            obtain ⟨r29, μ30, hc31, hf⟩ := bn_some hf
            refine g_callVp (As := [vi 7]) (rest := []) C ⟨Nat.zero_le _, Nat.zero_le _⟩ dX9_adds_135 cw_X9_refuse m_4_164 m_4_166 m_0_11 in_30 (ec_30 _ _ _ _ _) rfl rfl (c_X9_refuse  hc31) rfl rfl (Nat.le_of_ble_eq_true rfl) ⟨Nat.le_trans (Nat.le_of_ble_eq_true rfl) hfr, Nat.le_trans (Nat.le_of_ble_eq_true rfl) hlc⟩ ?_
            exact g_iret C rfl dX9_adds_138 hf
set_option maxHeartbeats 4000000 in
set_option maxRecDepth 100000 in
theorem c_X9_adds_l157 {x1 : Int} {x2 : Int} {x4 : Int} {k215 : Mem → Option (Int × Mem)} (C : CX p s m args meth c cX9_adds 7 RX9 (some .int) D Y LBm (Ar LBm α sz)) (hfr : 1 ≤ R.frames) (hlc : 29 ≤ R.locals)  (hk215 : ∀ (μ : Mem), k215 μ = some (r, μ') → GG D Y LBm (Ar LBm α sz) p l e R s m args below meth c 7 (MQ below (Qcx D Y LBm α sz (some (vi r)) (fun a => a = α) μ') args s 0 0 (Ar LBm α sz)) α 0 0 [(0, vr α 30 0), (1, vi x1), (4, vi x4)] [] μ 215)  : ∀ (n : Nat) (x5 x6 : Int) (μ : Mem), f_X9_adds_L157 x1 x2 x4 k215 n x5 x6 μ = some (r, μ') → GG D Y LBm (Ar LBm α sz) p l e R s m args below meth c 7 (MQ below (Qcx D Y LBm α sz (some (vi r)) (fun a => a = α) μ') args s 0 0 (Ar LBm α sz)) α 0 0 [(0, vr α 30 0), (1, vi x1), (2, vl x2), (4, vi x4), (5, vi x5), (6, vi x6)] [] μ 157 := by
  intro n
  induction n with
  | zero =>
    intro x5 x6 μ hf
    exact nomatch (show (none : Option (Int × Mem)) = some _ from hf)
  | succ n ih =>
    intro x5 x6 μ hf
    rw [f_X9_adds_L157.eq_2] at hf
    refine g_ild C 5 rfl dX9_adds_157 ?_
    refine g_sipush C rfl dX9_adds_159 ?_
    refine g_ic_ge C 215 (by decide) dX9_adds_162 (fun h33 => ?_) (fun h33 => ?_)
    · rw [if_pos h33] at hf
      exact g_sub C [0, 1, 3] rfl (hk215 _ hf)
    · rw [if_neg h33] at hf
      refine g_ald_n C 0 rfl rfl dX9_adds_165 ?_
      refine g_get C dX9_adds_166 fl_X9_58 in_30 (ec_30 _ _ _ _ _) rfl ?_
      refine g_ild C 5 rfl dX9_adds_169 ?_
      obtain ⟨g34, hf⟩ := gd_some hf
      refine g_lald C dX9_adds_171 in_43 (fun _ => ec_43 _ _ _ _ _) g34 ?_
      refine g_lconst (x := 0) C rfl dX9_adds_172 ?_
      obtain ⟨j209, ej37, hf⟩ := jn_some hf
      have hj209 : ∀ (y36 : Int) (μ35 : Mem), j209 y36 μ35 = some (r, μ') → GG D Y LBm (Ar LBm α sz) p l e R s m args below meth c 7 (MQ below (Qcx D Y LBm α sz (some (vi r)) (fun a => a = α) μ') args s 0 0 (Ar LBm α sz)) α 0 0 [(0, vr α 30 0), (1, vi x1), (2, vl x2), (4, vi x4), (5, vi y36), (6, vi x6)] [] μ35 209 := by
        intro y36 μ35 hf
        rw [ej37] at hf
        try dsimp only at hf
        refine g_iinc (lo' := [(6, vi (x6 + 1)), (0, vr α 30 0), (1, vi x1), (2, vl x2), (4, vi x4), (5, vi y36)]) C 5 rfl (by decide) rfl dX9_adds_209 ?_
        refine g_goto C 157 (by decide) dX9_adds_212 ?_
        exact g_sub C [1, 2, 3, 4, 5, 0] rfl (ih _ _ _ hf)
      clear ej37
      refine g_lc_ne C 180 (by decide) dX9_adds_173 dX9_adds_174 (fun h38 => ?_) (fun h38 => ?_)
      · rw [if_pos h38] at hf
        refine g_goto C 209 (by decide) dX9_adds_177 ?_
        exact g_sub C [0, 1, 2, 3, 4, 5] rfl (hj209 _ _ hf)
      · rw [if_neg h38] at hf
        refine g_ald_n C 0 rfl rfl dX9_adds_180 ?_
        refine g_get C dX9_adds_181 fl_X9_43 in_30 (ec_30 _ _ _ _ _) rfl ?_
        refine g_ild C 4 rfl dX9_adds_184 ?_
        refine g_ild C 5 rfl dX9_adds_186 ?_
        obtain ⟨g39, hf⟩ := gd_some hf
        refine g_iast C dX9_adds_188 in_38 (fun _ => ec_38 _ _ _ _ _) (by decide) g39 ?_
        refine g_ald_n C 0 rfl rfl dX9_adds_189 ?_
        refine g_get C dX9_adds_190 fl_X9_46 in_30 (ec_30 _ _ _ _ _) rfl ?_
        refine g_ild C 4 rfl dX9_adds_193 ?_
        refine g_ald_n C 0 rfl rfl dX9_adds_195 ?_
        refine g_get C dX9_adds_196 fl_X9_58 in_30 (ec_30 _ _ _ _ _) rfl ?_
        refine g_ild C 5 rfl dX9_adds_199 ?_
        obtain ⟨g40, hf⟩ := gd_some hf
        refine g_lald C dX9_adds_201 in_43 (fun _ => ec_43 _ _ _ _ _) g40 ?_
        refine g_lld_n C 2 rfl rfl dX9_adds_202 ?_
        obtain ⟨g41, hf⟩ := gd_some hf
        refine g_ldiv C g41 dX9_adds_203 ?_
        refine g_l2i C dX9_adds_204 ?_
        obtain ⟨g42, hf⟩ := gd_some hf
        refine g_iast C dX9_adds_205 in_39 (fun _ => ec_39 _ _ _ _ _) (by decide) g42 ?_
        refine g_iinc (lo' := [(5, vi (x5 + 1)), (0, vr α 30 0), (1, vi x1), (2, vl x2), (4, vi x4), (6, vi x6)]) C 4 rfl (by decide) rfl dX9_adds_206 ?_
        exact g_sub C [1, 2, 3, 4, 0, 5] rfl (hj209 _ _ hf)
set_option maxHeartbeats 4000000 in
set_option maxRecDepth 100000 in
theorem c_X9_adds_l259  (C : CX p s m args meth c cX9_adds 7 RX9 (some .int) D Y LBm (Ar LBm α sz)) (hfr : 1 ≤ R.frames) (hlc : 29 ≤ R.locals)    : ∀ (n : Nat) (x6 : Int) (μ : Mem), f_X9_adds_L259 n x6 μ = some (r, μ') → GG D Y LBm (Ar LBm α sz) p l e R s m args below meth c 7 (MQ below (Qcx D Y LBm α sz (some (vi r)) (fun a => a = α) μ') args s 0 0 (Ar LBm α sz)) α 0 0 [(0, vr α 30 0), (6, vi x6)] [] μ 259 := by
  intro n
  induction n with
  | zero =>
    intro x6 μ hf
    exact nomatch (show (none : Option (Int × Mem)) = some _ from hf)
  | succ n ih =>
    intro x6 μ hf
    rw [f_X9_adds_L259.eq_2] at hf
    refine g_ild C 1 rfl dX9_adds_259 ?_
    refine g_iconst C dX9_adds_261 ?_
    refine g_ic_ge C 286 (by decide) dX9_adds_262 (fun h48 => ?_) (fun h48 => ?_)
    · rw [if_pos h48] at hf
      refine g_ald_n C 0 rfl rfl dX9_adds_286 ?_
      refine g_dup C rfl dX9_adds_287 ?_
      refine g_get C dX9_adds_288 fl_X9_119 in_30 (ec_30 _ _ _ _ _) rfl ?_
      refine g_iconst C dX9_adds_291 ?_
      refine g_iadd C dX9_adds_292 ?_
      refine g_puti C dX9_adds_293 fl_X9_119 in_30 (ec_30 _ _ _ _ _) (Nat.le_of_ble_eq_true rfl) rfl (by decide) ?_
      refine g_ald_n C 0 rfl rfl dX9_adds_296 ?_
      refine g_get C dX9_adds_297 fl_X9_119 in_30 (ec_30 _ _ _ _ _) rfl ?_
      refine g_iconst C dX9_adds_300 ?_
      refine g_isub C dX9_adds_301 ?_
      exact g_iret C rfl dX9_adds_302 hf
    · rw [if_neg h48] at hf
      refine g_ald_n C 0 rfl rfl dX9_adds_265 ?_
      refine g_get C dX9_adds_266 fl_X9_49 in_30 (ec_30 _ _ _ _ _) rfl ?_
      refine g_iconst C dX9_adds_269 ?_
      refine g_ald_n C 0 rfl rfl dX9_adds_270 ?_
      refine g_get C dX9_adds_271 fl_X9_119 in_30 (ec_30 _ _ _ _ _) rfl ?_
      refine g_imul C dX9_adds_274 ?_
      refine g_ild C 1 rfl dX9_adds_275 ?_
      refine g_iadd C dX9_adds_277 ?_
      refine g_iconst C dX9_adds_278 ?_
      obtain ⟨g49, hf⟩ := gd_some hf
      refine g_iast C dX9_adds_279 in_40 (fun _ => ec_40 _ _ _ _ _) (by decide) g49 ?_
      refine g_iinc (lo' := [(6, vi (x6 + 1)), (0, vr α 30 0)]) C 1 rfl (by decide) rfl dX9_adds_280 ?_
      refine g_goto C 259 (by decide) dX9_adds_283 ?_
      exact g_sub C [1, 0] rfl (ih _ _ hf)
set_option maxHeartbeats 4000000 in
set_option maxRecDepth 100000 in
theorem b_X9_adds {a1 : Int} {μ : Mem} (C : CX p s m args meth c cX9_adds 7 RX9 (some .int) D Y LBm (Ar LBm α sz)) (hfr : 1 ≤ R.frames) (hlc : 29 ≤ R.locals)  (hf : f_X9_adds a1 μ = some (r, μ')) : GG D Y LBm (Ar LBm α sz) p l e R s m args below meth c 7 (MQ below (Qcx D Y LBm α sz (some (vi r)) (fun a => a = α) μ') args s 0 0 (Ar LBm α sz)) α 0 0 [(0, vr α 30 0), (1, vi a1)] [] μ 0 := by
  unfold f_X9_adds at hf
  refine g_ald_n C 0 rfl rfl dX9_adds_0 ?_
  refine g_get C dX9_adds_1 fl_X9_119 in_30 (ec_30 _ _ _ _ _) rfl ?_
  refine g_bipush C rfl dX9_adds_4 ?_
  refine g_ic_ne C 16 (by decide) dX9_adds_6 (fun h1 => ?_) (fun h1 => ?_)
  · rw [if_pos h1] at hf
    refine g_ald_n C 0 rfl rfl dX9_adds_9 ?_
    refine g_bipush C rfl dX9_adds_10 ?_
    obtain ⟨r2, μ3, hc4, hf⟩ := bn_some hf
    refine g_callVp (As := [vi 7]) (rest := []) C ⟨Nat.zero_le _, Nat.zero_le _⟩ dX9_adds_12 cw_X9_refuse m_4_164 m_4_166 m_0_11 in_30 (ec_30 _ _ _ _ _) rfl rfl (c_X9_refuse  hc4) rfl rfl (Nat.le_of_ble_eq_true rfl) ⟨Nat.le_trans (Nat.le_of_ble_eq_true rfl) hfr, Nat.le_trans (Nat.le_of_ble_eq_true rfl) hlc⟩ ?_
    exact g_iret C rfl dX9_adds_15 hf
  · rw [if_neg h1] at hf
    refine g_lconst (x := 0) C rfl dX9_adds_16 ?_
    refine g_lst_n (lo' := [(2, vl 0), (0, vr α 30 0), (1, vi a1)]) C rfl (by decide) rfl dX9_adds_17 ?_
    refine g_iconst C dX9_adds_18 ?_
    refine g_ist (lo' := [(4, vi 0), (2, vl 0), (0, vr α 30 0), (1, vi a1)]) C (by decide) rfl dX9_adds_19 ?_
    refine g_iconst C dX9_adds_21 ?_
    refine g_ist (lo' := [(5, vi 0), (4, vi 0), (2, vl 0), (0, vr α 30 0), (1, vi a1)]) C (by decide) rfl dX9_adds_22 ?_
    refine g_sub C [3, 4, 2, 1, 0] rfl (c_X9_adds_l24 C hfr hlc  (fun y15 y16 μ14 hf => ?_) _ _ _ _ _ hf)
    refine g_ild C 3 rfl dX9_adds_72 ?_
    refine g_bipush C rfl dX9_adds_74 ?_
    refine g_ic_le C 86 (by decide) dX9_adds_76 (fun h17 => ?_) (fun h17 => ?_)
    · rw [if_pos h17] at hf
      refine g_iconst C dX9_adds_86 ?_
      refine g_ist (lo' := [(5, vi 0), (0, vr α 30 0), (1, vi a1), (2, vl y15), (4, vi y16)]) C (by decide) rfl dX9_adds_87 ?_
      refine g_sub C [1, 2, 3, 4, 0] rfl (c_X9_adds_l89 C hfr hlc  (fun μ32 hf => ?_) _ _ _ hf)
      refine g_bipush C rfl dX9_adds_145 ?_
      refine g_ald_n C 0 rfl rfl dX9_adds_147 ?_
      refine g_get C dX9_adds_148 fl_X9_119 in_30 (ec_30 _ _ _ _ _) rfl ?_
      refine g_imul C dX9_adds_151 ?_
      refine g_ist (lo' := [(5, vi (8 * (μ32 30 0 7))), (0, vr α 30 0), (1, vi a1), (2, vl y15), (4, vi y16)]) C (by decide) rfl dX9_adds_152 ?_
      refine g_iconst C dX9_adds_154 ?_
      refine g_ist (lo' := [(6, vi 0), (5, vi (8 * (μ32 30 0 7))), (0, vr α 30 0), (1, vi a1), (2, vl y15), (4, vi y16)]) C (by decide) rfl dX9_adds_155 ?_
      refine g_sub C [2, 3, 4, 5, 1, 0] rfl (c_X9_adds_l157 C hfr hlc  (fun μ43 hf => ?_) _ _ _ _ hf)
      refine g_ald_n C 0 rfl rfl dX9_adds_215 ?_
      refine g_get C dX9_adds_216 fl_X9_31 in_30 (ec_30 _ _ _ _ _) rfl ?_
      refine g_ald_n C 0 rfl rfl dX9_adds_219 ?_
      refine g_get C dX9_adds_220 fl_X9_119 in_30 (ec_30 _ _ _ _ _) rfl ?_
      refine g_ild C 2 rfl dX9_adds_223 ?_
      obtain ⟨g44, hf⟩ := gd_some hf
      refine g_iast C dX9_adds_225 in_34 (fun _ => ec_34 _ _ _ _ _) (by decide) g44 ?_
      refine g_ald_n C 0 rfl rfl dX9_adds_226 ?_
      refine g_get C dX9_adds_227 fl_X9_34 in_30 (ec_30 _ _ _ _ _) rfl ?_
      refine g_ald_n C 0 rfl rfl dX9_adds_230 ?_
      refine g_get C dX9_adds_231 fl_X9_119 in_30 (ec_30 _ _ _ _ _) rfl ?_
      refine g_ild_n C 1 rfl rfl dX9_adds_234 ?_
      obtain ⟨g45, hf⟩ := gd_some hf
      refine g_iast C dX9_adds_235 in_35 (fun _ => ec_35 _ _ _ _ _) (by decide) g45 ?_
      refine g_ald_n C 0 rfl rfl dX9_adds_236 ?_
      refine g_get C dX9_adds_237 fl_X9_37 in_30 (ec_30 _ _ _ _ _) rfl ?_
      refine g_ald_n C 0 rfl rfl dX9_adds_240 ?_
      refine g_get C dX9_adds_241 fl_X9_119 in_30 (ec_30 _ _ _ _ _) rfl ?_
      refine g_iconst C dX9_adds_244 ?_
      obtain ⟨g46, hf⟩ := gd_some hf
      refine g_iast C dX9_adds_245 in_36 (fun _ => ec_36 _ _ _ _ _) (by decide) g46 ?_
      refine g_ald_n C 0 rfl rfl dX9_adds_246 ?_
      refine g_get C dX9_adds_247 fl_X9_40 in_30 (ec_30 _ _ _ _ _) rfl ?_
      refine g_ald_n C 0 rfl rfl dX9_adds_250 ?_
      refine g_get C dX9_adds_251 fl_X9_119 in_30 (ec_30 _ _ _ _ _) rfl ?_
      refine g_iconst C dX9_adds_254 ?_
      obtain ⟨g47, hf⟩ := gd_some hf
      refine g_iast C dX9_adds_255 in_37 (fun _ => ec_37 _ _ _ _ _) (by decide) g47 ?_
      refine g_iconst C dX9_adds_256 ?_
      refine g_ist (lo' := [(6, vi 0), (0, vr α 30 0), (1, vi a1), (4, vi y16)]) C (by decide) rfl dX9_adds_257 ?_
      refine g_sub C [1, 0] rfl (c_X9_adds_l259 C hfr hlc   _ _ _ hf)
    · rw [if_neg h17] at hf
      refine g_ald_n C 0 rfl rfl dX9_adds_79 ?_
      refine g_bipush C rfl dX9_adds_80 ?_
      obtain ⟨r50, μ51, hc52, hf⟩ := bn_some hf
      refine g_callVp (As := [vi 7]) (rest := []) C ⟨Nat.zero_le _, Nat.zero_le _⟩ dX9_adds_82 cw_X9_refuse m_4_164 m_4_166 m_0_11 in_30 (ec_30 _ _ _ _ _) rfl rfl (c_X9_refuse  hc52) rfl rfl (Nat.le_of_ble_eq_true rfl) ⟨Nat.le_trans (Nat.le_of_ble_eq_true rfl) hfr, Nat.le_trans (Nat.le_of_ble_eq_true rfl) hlc⟩ ?_
      exact g_iret C rfl dX9_adds_85 hf
set_option maxHeartbeats 4000000 in
set_option maxRecDepth 100000 in
theorem c_X9_adds {l : Launch} {D : va_G} {Y : Nat → ClassId} {α : Adr} {a1 : Int} {μ : Mem} {r : Int} {μ' : Mem}  (hf : f_X9_adds a1 μ = some (r, μ')) : Ctr l D Y LBm yX9_adds cX9_adds 7 (some .int) 1 29 0 0 [vr α 30 0, vi a1] α μ (some (vi r)) (fun a => a = α) μ' := Ctr_of pn_X9 rfl rfl (Nat.le_of_ble_eq_true rfl) LBm_nd (fun p e s m below meth c sz C => b_X9_adds C (Nat.le_refl _) (Nat.le_refl _)  hf)
end

/-! EndTellerModel.areHands -/
def f_X9_areHands (a0 : Int) (μ : Mem) : Option (Int × Mem) := (if w32 a0 < 0 then some (0, μ) else (if w32 9 < w32 a0 then some (0, μ) else some (1, μ)))
section
variable {p : Program} {l : Launch} {e : Env} {R : Room} {s : State} {m : MethodId} {args : Array Value} {below : List Frame} {meth : Method} {c : Code} {D : va_G} {Y : Nat → ClassId} {α : Adr} {sz : Nat} {r : Int} {μ' : Mem}
set_option maxHeartbeats 4000000 in
set_option maxRecDepth 100000 in
theorem b_X9_areHands {a0 : Int} {μ : Mem} (C : CX p s m args meth c cX9_areHands 1 RX9 (some .boolean) D Y LBm (Ar LBm α sz)) (hfr : 0 ≤ R.frames) (hlc : 0 ≤ R.locals)  (hf : f_X9_areHands a0 μ = some (r, μ')) : GG D Y LBm (Ar LBm α sz) p l e R s m args below meth c 1 (MQ below (Qcx D Y LBm α sz (some (vi r)) (fun a => a = α) μ') args s 0 0 (Ar LBm α sz)) α 0 0 [(0, vi a0)] [] μ 0 := by
  unfold f_X9_areHands at hf
  refine g_ild_n C 0 rfl rfl dX9_areHands_0 ?_
  refine g_if_lt C 14 (by decide) dX9_areHands_1 (fun h1 => ?_) (fun h1 => ?_)
  · rw [if_pos h1] at hf
    refine g_iconst C dX9_areHands_14 ?_
    exact g_zret C rfl (Or.inl rfl) dX9_areHands_15 hf
  · rw [if_neg h1] at hf
    refine g_ild_n C 0 rfl rfl dX9_areHands_4 ?_
    refine g_bipush C rfl dX9_areHands_5 ?_
    refine g_ic_gt C 14 (by decide) dX9_areHands_7 (fun h2 => ?_) (fun h2 => ?_)
    · rw [if_pos h2] at hf
      refine g_iconst C dX9_areHands_14 ?_
      exact g_zret C rfl (Or.inl rfl) dX9_areHands_15 hf
    · rw [if_neg h2] at hf
      refine g_iconst C dX9_areHands_10 ?_
      refine g_goto C 15 (by decide) dX9_areHands_11 ?_
      exact g_zret C rfl (Or.inr rfl) dX9_areHands_15 hf
set_option maxHeartbeats 4000000 in
set_option maxRecDepth 100000 in
theorem c_X9_areHands {l : Launch} {D : va_G} {Y : Nat → ClassId} {α : Adr} {a0 : Int} {μ : Mem} {r : Int} {μ' : Mem}  (hf : f_X9_areHands a0 μ = some (r, μ')) : Ctr l D Y LBm yX9_areHands cX9_areHands 1 (some .boolean) 0 0 0 0 [vi a0] α μ (some (vi r)) (fun a => a = α) μ' := Ctr_of pn_X9 rfl rfl (Nat.le_of_ble_eq_true rfl) LBm_nd (fun p e s m below meth c sz C => b_X9_areHands C (Nat.le_refl _) (Nat.le_refl _)  hf)
end

/-! EndTellerModel.part -/
def f_X9_part_L77 (x1 : Int) (x2 : Int) (x3 : Int) : Nat → Int → Int → Mem → Option (Int × Mem)
  | 0, _, _, _ => none
  | n + 1, x4, x6, μ => (if w32 x2 ≤ w32 x6 then bn (f_X9_adds x3 μ) (fun r26 μ27 => some (r26, μ27)) else gd (inb ((40 * x1) + (2 * x6)) 160) (gd (inb (((40 * x1) + (2 * x6)) + 1) 160) ((if w64 (μ 33 0 (ix ((40 * x1) + (2 * x6)))) ≤ w64 x4 then bn (f_X9_refuse 5 μ) (fun r32 μ33 => some (r32, μ33)) else (if w64 99 < w64 (μ 33 0 (ix ((40 * x1) + (2 * x6)))) then bn (f_X9_refuse 5 μ) (fun r36 μ37 => some (r36, μ37)) else (if w64 (μ 33 0 (ix (((40 * x1) + (2 * x6)) + 1))) < w64 1 then bn (f_X9_refuse 5 μ) (fun r40 μ41 => some (r40, μ41)) else (if w64 (μ 33 0 (ix (((40 * x1) + (2 * x6)) + 1))) ≤ w64 1000 then gd (inb (μ 33 0 (ix ((40 * x1) + (2 * x6)))) 300) (f_X9_part_L77 x1 x2 x3 n (μ 33 0 (ix ((40 * x1) + (2 * x6)))) (x6 + 1) (st μ 43 0 (ix (μ 33 0 (ix ((40 * x1) + (2 * x6))))) (μ 33 0 (ix (((40 * x1) + (2 * x6)) + 1))))) else bn (f_X9_refuse 5 μ) (fun r45 μ46 => some (r45, μ46)))))))))
def f_X9_part (a1 : Int) (a2 : Int) (a3 : Int) (μ : Mem) : Option (Int × Mem) := bn (f_X9_trayed a1 (st μ 30 0 1 0)) (fun r1 μ2 => (if w32 ((st μ2 30 0 0 r1) 30 0 0) ≤ 0 then (if w32 a2 < w32 1 then bn (f_X9_refuse 5 (st μ2 30 0 0 r1)) (fun r6 μ7 => some (r6, μ7)) else (if w32 8 < w32 a2 then bn (f_X9_refuse 5 (st μ2 30 0 0 r1)) (fun r10 μ11 => some (r10, μ11)) else bn (f_X9_areHands a3 (st μ2 30 0 0 r1)) (fun r13 μ14 => (if w32 r13 = 0 then bn (f_X9_refuse 5 μ14) (fun r17 μ18 => some (r17, μ18)) else gd (inb a1 4) ((if w32 (2 * a2) ≤ w32 (μ14 32 0 (ix a1)) then bn (f_X9_clearMade  μ14) (fun r22 μ23 => f_X9_part_L77 a1 a2 a3 FU (-1) 0 μ23) else bn (f_X9_refuse 4 μ14) (fun r48 μ49 => some (r48, μ49)))))))) else some ((-1), (st μ2 30 0 0 r1))))
section
variable {p : Program} {l : Launch} {e : Env} {R : Room} {s : State} {m : MethodId} {args : Array Value} {below : List Frame} {meth : Method} {c : Code} {D : va_G} {Y : Nat → ClassId} {α : Adr} {sz : Nat} {r : Int} {μ' : Mem}
set_option maxHeartbeats 4000000 in
set_option maxRecDepth 100000 in
theorem c_X9_part_l77 {x1 : Int} {x2 : Int} {x3 : Int} (C : CX p s m args meth c cX9_part 11 RX9 (some .int) D Y LBm (Ar LBm α sz)) (hfr : 2 ≤ R.frames) (hlc : 55 ≤ R.locals)    : ∀ (n : Nat) (x4 x6 : Int) (μ : Mem), f_X9_part_L77 x1 x2 x3 n x4 x6 μ = some (r, μ') → GG D Y LBm (Ar LBm α sz) p l e R s m args below meth c 11 (MQ below (Qcx D Y LBm α sz (some (vi r)) (fun a => a = α) μ') args s 0 0 (Ar LBm α sz)) α 0 0 [(0, vr α 30 0), (1, vi x1), (2, vi x2), (3, vi x3), (4, vl x4), (6, vi x6)] [] μ 77 := by
  intro n
  induction n with
  | zero =>
    intro x4 x6 μ hf
    exact nomatch (show (none : Option (Int × Mem)) = some _ from hf)
  | succ n ih =>
    intro x4 x6 μ hf
    rw [f_X9_part_L77.eq_2] at hf
    refine g_ild C 5 rfl dX9_part_77 ?_
    refine g_ild_n C 2 rfl rfl dX9_part_79 ?_
    refine g_ic_ge C 176 (by decide) dX9_part_80 (fun h25 => ?_) (fun h25 => ?_)
    · rw [if_pos h25] at hf
      refine g_ald_n C 0 rfl rfl dX9_part_176 ?_
      refine g_ild_n C 3 rfl rfl dX9_part_177 ?_
      obtain ⟨r26, μ27, hc28, hf⟩ := bn_some hf
      refine g_callVp (As := [vi x3]) (rest := []) C ⟨Nat.zero_le _, Nat.zero_le _⟩ dX9_part_178 cw_X9_adds m_4_174 m_4_176 m_0_13 in_30 (ec_30 _ _ _ _ _) rfl rfl (c_X9_adds  hc28) rfl rfl (Nat.le_of_ble_eq_true rfl) ⟨Nat.le_trans (Nat.le_of_ble_eq_true rfl) hfr, Nat.le_trans (Nat.le_of_ble_eq_true rfl) hlc⟩ ?_
      exact g_iret C rfl dX9_part_181 hf
    · rw [if_neg h25] at hf
      refine g_ald_n C 0 rfl rfl dX9_part_83 ?_
      refine g_get C dX9_part_84 fl_X9_20 in_30 (ec_30 _ _ _ _ _) rfl ?_
      refine g_bipush C rfl dX9_part_87 ?_
      refine g_ild_n C 1 rfl rfl dX9_part_89 ?_
      refine g_imul C dX9_part_90 ?_
      refine g_iconst C dX9_part_91 ?_
      refine g_ild C 5 rfl dX9_part_92 ?_
      refine g_imul C dX9_part_94 ?_
      refine g_iadd C dX9_part_95 ?_
      obtain ⟨g29, hf⟩ := gd_some hf
      refine g_lald C dX9_part_96 in_33 (fun _ => ec_33 _ _ _ _ _) g29 ?_
      refine g_lst (lo' := [(7, vl (μ 33 0 (ix ((40 * x1) + (2 * x6))))), (0, vr α 30 0), (1, vi x1), (2, vi x2), (3, vi x3), (4, vl x4), (6, vi x6)]) C (by decide) rfl dX9_part_97 ?_
      refine g_ald_n C 1 rfl rfl dX9_part_99 ?_
      refine g_get C dX9_part_100 fl_X9_20 in_30 (ec_30 _ _ _ _ _) rfl ?_
      refine g_bipush C rfl dX9_part_103 ?_
      refine g_ild_n C 2 rfl rfl dX9_part_105 ?_
      refine g_imul C dX9_part_106 ?_
      refine g_iconst C dX9_part_107 ?_
      refine g_ild C 6 rfl dX9_part_108 ?_
      refine g_imul C dX9_part_110 ?_
      refine g_iadd C dX9_part_111 ?_
      refine g_iconst C dX9_part_112 ?_
      refine g_iadd C dX9_part_113 ?_
      obtain ⟨g30, hf⟩ := gd_some hf
      refine g_lald C dX9_part_114 in_33 (fun _ => ec_33 _ _ _ _ _) g30 ?_
      refine g_lst (lo' := [(9, vl (μ 33 0 (ix (((40 * x1) + (2 * x6)) + 1)))), (7, vl (μ 33 0 (ix ((40 * x1) + (2 * x6))))), (0, vr α 30 0), (1, vi x1), (2, vi x2), (3, vi x3), (4, vl x4), (6, vi x6)]) C (by decide) rfl dX9_part_115 ?_
      refine g_lld C 1 rfl dX9_part_117 ?_
      refine g_lld C 6 rfl dX9_part_119 ?_
      refine g_lc_le C 150 (by decide) dX9_part_121 dX9_part_122 (fun h31 => ?_) (fun h31 => ?_)
      · rw [if_pos h31] at hf
        refine g_ald_n C 2 rfl rfl dX9_part_150 ?_
        refine g_iconst C dX9_part_151 ?_
        obtain ⟨r32, μ33, hc34, hf⟩ := bn_some hf
        refine g_callVp (As := [vi 5]) (rest := []) C ⟨Nat.zero_le _, Nat.zero_le _⟩ dX9_part_152 cw_X9_refuse m_4_164 m_4_166 m_0_11 in_30 (ec_30 _ _ _ _ _) rfl rfl (c_X9_refuse  hc34) rfl rfl (Nat.le_of_ble_eq_true rfl) ⟨Nat.le_trans (Nat.le_of_ble_eq_true rfl) hfr, Nat.le_trans (Nat.le_of_ble_eq_true rfl) hlc⟩ ?_
        exact g_iret C rfl dX9_part_155 hf
      · rw [if_neg h31] at hf
        refine g_lld C 1 rfl dX9_part_125 ?_
        refine g_ldc2 (x := 99) C m_4_172 dX9_part_127 ?_
        refine g_lc_gt C 150 (by decide) dX9_part_130 dX9_part_131 (fun h35 => ?_) (fun h35 => ?_)
        · rw [if_pos h35] at hf
          refine g_ald_n C 2 rfl rfl dX9_part_150 ?_
          refine g_iconst C dX9_part_151 ?_
          obtain ⟨r36, μ37, hc38, hf⟩ := bn_some hf
          refine g_callVp (As := [vi 5]) (rest := []) C ⟨Nat.zero_le _, Nat.zero_le _⟩ dX9_part_152 cw_X9_refuse m_4_164 m_4_166 m_0_11 in_30 (ec_30 _ _ _ _ _) rfl rfl (c_X9_refuse  hc38) rfl rfl (Nat.le_of_ble_eq_true rfl) ⟨Nat.le_trans (Nat.le_of_ble_eq_true rfl) hfr, Nat.le_trans (Nat.le_of_ble_eq_true rfl) hlc⟩ ?_
          exact g_iret C rfl dX9_part_155 hf
        · rw [if_neg h35] at hf
          refine g_lld C 0 rfl dX9_part_134 ?_
          refine g_lconst (x := 1) C rfl dX9_part_136 ?_
          refine g_lc_lt C 150 (by decide) dX9_part_137 dX9_part_138 (fun h39 => ?_) (fun h39 => ?_)
          · rw [if_pos h39] at hf
            refine g_ald_n C 2 rfl rfl dX9_part_150 ?_
            refine g_iconst C dX9_part_151 ?_
            obtain ⟨r40, μ41, hc42, hf⟩ := bn_some hf
            refine g_callVp (As := [vi 5]) (rest := []) C ⟨Nat.zero_le _, Nat.zero_le _⟩ dX9_part_152 cw_X9_refuse m_4_164 m_4_166 m_0_11 in_30 (ec_30 _ _ _ _ _) rfl rfl (c_X9_refuse  hc42) rfl rfl (Nat.le_of_ble_eq_true rfl) ⟨Nat.le_trans (Nat.le_of_ble_eq_true rfl) hfr, Nat.le_trans (Nat.le_of_ble_eq_true rfl) hlc⟩ ?_
            exact g_iret C rfl dX9_part_155 hf
          · rw [if_neg h39] at hf
            refine g_lld C 0 rfl dX9_part_141 ?_
            refine g_ldc2 (x := 1000) C m_4_173 dX9_part_143 ?_
            refine g_lc_le C 156 (by decide) dX9_part_146 dX9_part_147 (fun h43 => ?_) (fun h43 => ?_)
            · rw [if_pos h43] at hf
              refine g_ald_n C 2 rfl rfl dX9_part_156 ?_
              refine g_get C dX9_part_157 fl_X9_58 in_30 (ec_30 _ _ _ _ _) rfl ?_
              refine g_lld C 1 rfl dX9_part_160 ?_
              refine g_l2i C dX9_part_162 ?_
              refine g_lld C 0 rfl dX9_part_163 ?_
              obtain ⟨g44, hf⟩ := gd_some hf
              refine g_last C dX9_part_165 in_43 (fun _ => ec_43 _ _ _ _ _) (by decide) g44 ?_
              refine g_lld C 1 rfl dX9_part_166 ?_
              refine g_lst (lo' := [(4, vl (μ 33 0 (ix ((40 * x1) + (2 * x6))))), (9, vl (μ 33 0 (ix (((40 * x1) + (2 * x6)) + 1)))), (7, vl (μ 33 0 (ix ((40 * x1) + (2 * x6))))), (0, vr α 30 0), (1, vi x1), (2, vi x2), (3, vi x3), (6, vi x6)]) C (by decide) rfl dX9_part_168 ?_
              refine g_iinc (lo' := [(6, vi (x6 + 1)), (4, vl (μ 33 0 (ix ((40 * x1) + (2 * x6))))), (9, vl (μ 33 0 (ix (((40 * x1) + (2 * x6)) + 1)))), (7, vl (μ 33 0 (ix ((40 * x1) + (2 * x6))))), (0, vr α 30 0), (1, vi x1), (2, vi x2), (3, vi x3)]) C 7 rfl (by decide) rfl dX9_part_170 ?_
              refine g_goto C 77 (by decide) dX9_part_173 ?_
              exact g_sub C [4, 5, 6, 7, 1, 0] rfl (ih _ _ _ hf)
            · rw [if_neg h43] at hf
              refine g_ald_n C 2 rfl rfl dX9_part_150 ?_
              refine g_iconst C dX9_part_151 ?_
              obtain ⟨r45, μ46, hc47, hf⟩ := bn_some hf
              refine g_callVp (As := [vi 5]) (rest := []) C ⟨Nat.zero_le _, Nat.zero_le _⟩ dX9_part_152 cw_X9_refuse m_4_164 m_4_166 m_0_11 in_30 (ec_30 _ _ _ _ _) rfl rfl (c_X9_refuse  hc47) rfl rfl (Nat.le_of_ble_eq_true rfl) ⟨Nat.le_trans (Nat.le_of_ble_eq_true rfl) hfr, Nat.le_trans (Nat.le_of_ble_eq_true rfl) hlc⟩ ?_
              exact g_iret C rfl dX9_part_155 hf
set_option maxHeartbeats 4000000 in
set_option maxRecDepth 100000 in
theorem b_X9_part {a1 : Int} {a2 : Int} {a3 : Int} {μ : Mem} (C : CX p s m args meth c cX9_part 11 RX9 (some .int) D Y LBm (Ar LBm α sz)) (hfr : 2 ≤ R.frames) (hlc : 55 ≤ R.locals)  (hf : f_X9_part a1 a2 a3 μ = some (r, μ')) : GG D Y LBm (Ar LBm α sz) p l e R s m args below meth c 11 (MQ below (Qcx D Y LBm α sz (some (vi r)) (fun a => a = α) μ') args s 0 0 (Ar LBm α sz)) α 0 0 [(0, vr α 30 0), (1, vi a1), (2, vi a2), (3, vi a3)] [] μ 0 := by
  unfold f_X9_part at hf
  refine g_ald_n C 0 rfl rfl dX9_part_0 ?_
  refine g_iconst C dX9_part_1 ?_
  refine g_puti C dX9_part_2 fl_X9_95 in_30 (ec_30 _ _ _ _ _) (Nat.le_of_ble_eq_true rfl) rfl (by decide) ?_
  refine g_ald_n C 0 rfl rfl dX9_part_5 ?_
  refine g_ald_n C 0 rfl rfl dX9_part_6 ?_
  refine g_ild_n C 1 rfl rfl dX9_part_7 ?_
  obtain ⟨r1, μ2, hc3, hf⟩ := bn_some hf
  refine g_callVp (As := [vi a1]) (rest := [vr α 30 0]) C ⟨Nat.zero_le _, Nat.zero_le _⟩ dX9_part_8 cw_X9_trayed m_4_141 m_4_143 m_0_10 in_30 (ec_30 _ _ _ _ _) rfl rfl (c_X9_trayed  hc3) rfl rfl (Nat.le_of_ble_eq_true rfl) ⟨Nat.le_trans (Nat.le_of_ble_eq_true rfl) hfr, Nat.le_trans (Nat.le_of_ble_eq_true rfl) hlc⟩ ?_
  refine g_puti C dX9_part_11 fl_X9_98 in_30 (ec_30 _ _ _ _ _) (Nat.le_of_ble_eq_true rfl) rfl (by decide) ?_
  refine g_ald_n C 0 rfl rfl dX9_part_14 ?_
  refine g_get C dX9_part_15 fl_X9_98 in_30 (ec_30 _ _ _ _ _) rfl ?_
  refine g_if_le C 23 (by decide) dX9_part_18 (fun h4 => ?_) (fun h4 => ?_)
  · rw [if_pos h4] at hf
    refine g_ild_n C 2 rfl rfl dX9_part_23 ?_
    refine g_iconst C dX9_part_24 ?_
    refine g_ic_lt C 41 (by decide) dX9_part_25 (fun h5 => ?_) (fun h5 => ?_)
    · rw [if_pos h5] at hf
      refine g_ald_n C 0 rfl rfl dX9_part_41 ?_
      refine g_iconst C dX9_part_42 ?_
      obtain ⟨r6, μ7, hc8, hf⟩ := bn_some hf
      refine g_callVp (As := [vi 5]) (rest := []) C ⟨Nat.zero_le _, Nat.zero_le _⟩ dX9_part_43 cw_X9_refuse m_4_164 m_4_166 m_0_11 in_30 (ec_30 _ _ _ _ _) rfl rfl (c_X9_refuse  hc8) rfl rfl (Nat.le_of_ble_eq_true rfl) ⟨Nat.le_trans (Nat.le_of_ble_eq_true rfl) hfr, Nat.le_trans (Nat.le_of_ble_eq_true rfl) hlc⟩ ?_
      exact g_iret C rfl dX9_part_46 hf
    · rw [if_neg h5] at hf
      refine g_ild_n C 2 rfl rfl dX9_part_28 ?_
      refine g_bipush C rfl dX9_part_29 ?_
      refine g_ic_gt C 41 (by decide) dX9_part_31 (fun h9 => ?_) (fun h9 => ?_)
      · rw [if_pos h9] at hf
        refine g_ald_n C 0 rfl rfl dX9_part_41 ?_
        refine g_iconst C dX9_part_42 ?_
        obtain ⟨r10, μ11, hc12, hf⟩ := bn_some hf
        refine g_callVp (As := [vi 5]) (rest := []) C ⟨Nat.zero_le _, Nat.zero_le _⟩ dX9_part_43 cw_X9_refuse m_4_164 m_4_166 m_0_11 in_30 (ec_30 _ _ _ _ _) rfl rfl (c_X9_refuse  hc12) rfl rfl (Nat.le_of_ble_eq_true rfl) ⟨Nat.le_trans (Nat.le_of_ble_eq_true rfl) hfr, Nat.le_trans (Nat.le_of_ble_eq_true rfl) hlc⟩ ?_
        exact g_iret C rfl dX9_part_46 hf
      · rw [if_neg h9] at hf
        refine g_ild_n C 3 rfl rfl dX9_part_34 ?_
        obtain ⟨r13, μ14, hc15, hf⟩ := bn_some hf
        refine g_callSp (As := [vi a3]) (rest := []) C ⟨Nat.zero_le _, Nat.zero_le _⟩ dX9_part_35 cw_X9_areHands m_4_161 m_4_162 (c_X9_areHands  hc15) rfl rfl (Nat.le_of_ble_eq_true rfl) ⟨Nat.le_trans (Nat.le_of_ble_eq_true rfl) hfr, Nat.le_trans (Nat.le_of_ble_eq_true rfl) hlc⟩ ?_
        refine g_if_ne C 47 (by decide) dX9_part_38 (fun h16 => ?_) (fun h16 => ?_)
        · rw [if_pos h16] at hf
          refine g_ald_n C 0 rfl rfl dX9_part_41 ?_
          refine g_iconst C dX9_part_42 ?_
          obtain ⟨r17, μ18, hc19, hf⟩ := bn_some hf
          refine g_callVp (As := [vi 5]) (rest := []) C ⟨Nat.zero_le _, Nat.zero_le _⟩ dX9_part_43 cw_X9_refuse m_4_164 m_4_166 m_0_11 in_30 (ec_30 _ _ _ _ _) rfl rfl (c_X9_refuse  hc19) rfl rfl (Nat.le_of_ble_eq_true rfl) ⟨Nat.le_trans (Nat.le_of_ble_eq_true rfl) hfr, Nat.le_trans (Nat.le_of_ble_eq_true rfl) hlc⟩ ?_
          exact g_iret C rfl dX9_part_46 hf
        · rw [if_neg h16] at hf
          refine g_iconst C dX9_part_47 ?_
          refine g_ild_n C 2 rfl rfl dX9_part_48 ?_
          refine g_imul C dX9_part_49 ?_
          refine g_ald_n C 0 rfl rfl dX9_part_50 ?_
          refine g_get C dX9_part_51 fl_X9_17 in_30 (ec_30 _ _ _ _ _) rfl ?_
          refine g_ild_n C 1 rfl rfl dX9_part_54 ?_
          obtain ⟨g20, hf⟩ := gd_some hf
          refine g_iald C dX9_part_55 in_32 (fun _ => ec_32 _ _ _ _ _) g20 ?_
          refine g_ic_le C 65 (by decide) dX9_part_56 (fun h21 => ?_) (fun h21 => ?_)
          · rw [if_pos h21] at hf
            refine g_ald_n C 0 rfl rfl dX9_part_65 ?_
            obtain ⟨r22, μ23, hc24, hf⟩ := bn_some hf
            refine g_callVp (As := []) (rest := []) C ⟨Nat.zero_le _, Nat.zero_le _⟩ dX9_part_66 cw_X9_clearMade m_4_168 m_4_170 m_0_12 in_30 (ec_30 _ _ _ _ _) rfl rfl (c_X9_clearMade  hc24) rfl rfl (Nat.le_of_ble_eq_true rfl) ⟨Nat.le_trans (Nat.le_of_ble_eq_true rfl) hfr, Nat.le_trans (Nat.le_of_ble_eq_true rfl) hlc⟩ ?_
            refine g_ldc2 (x := (-1)) C (by rw [show Int64.ofInt (-1) = (-1) by decide]; exact m_4_152) dX9_part_69 ?_
            refine g_lst (lo' := [(4, vl (-1)), (0, vr α 30 0), (1, vi a1), (2, vi a2), (3, vi a3)]) C (by decide) rfl dX9_part_72 ?_
            refine g_iconst C dX9_part_74 ?_
            refine g_ist (lo' := [(6, vi 0), (4, vl (-1)), (0, vr α 30 0), (1, vi a1), (2, vi a2), (3, vi a3)]) C (by decide) rfl dX9_part_75 ?_
            refine g_sub C [2, 3, 4, 5, 1, 0] rfl (c_X9_part_l77 C hfr hlc   _ _ _ _ hf)
          · rw [if_neg h21] at hf
            refine g_ald_n C 0 rfl rfl dX9_part_59 ?_
            refine g_iconst C dX9_part_60 ?_
            obtain ⟨r48, μ49, hc50, hf⟩ := bn_some hf
            refine g_callVp (As := [vi 4]) (rest := []) C ⟨Nat.zero_le _, Nat.zero_le _⟩ dX9_part_61 cw_X9_refuse m_4_164 m_4_166 m_0_11 in_30 (ec_30 _ _ _ _ _) rfl rfl (c_X9_refuse  hc50) rfl rfl (Nat.le_of_ble_eq_true rfl) ⟨Nat.le_trans (Nat.le_of_ble_eq_true rfl) hfr, Nat.le_trans (Nat.le_of_ble_eq_true rfl) hlc⟩ ?_
            exact g_iret C rfl dX9_part_64 hf
  · rw [if_neg h4] at hf
    refine g_iconst C dX9_part_21 ?_
    exact g_iret C rfl dX9_part_22 hf
set_option maxHeartbeats 4000000 in
set_option maxRecDepth 100000 in
theorem c_X9_part {l : Launch} {D : va_G} {Y : Nat → ClassId} {α : Adr} {a1 : Int} {a2 : Int} {a3 : Int} {μ : Mem} {r : Int} {μ' : Mem}  (hf : f_X9_part a1 a2 a3 μ = some (r, μ')) : Ctr l D Y LBm yX9_part cX9_part 11 (some .int) 2 55 0 0 [vr α 30 0, vi a1, vi a2, vi a3] α μ (some (vi r)) (fun a => a = α) μ' := Ctr_of pn_X9 rfl rfl (Nat.le_of_ble_eq_true rfl) LBm_nd (fun p e s m below meth c sz C => b_X9_part C (Nat.le_refl _) (Nat.le_refl _)  hf)
end
