/-! EndTeller.status -/
def f_X8_status  (μ : Mem) : Option (Int × Mem) := some ((μ 0 0 0), μ)
section
variable {p : Program} {l : Launch} {e : Env} {R : Room} {s : State} {m : MethodId} {args : Array Value} {below : List Frame} {meth : Method} {c : Code} {D : va_G} {Y : Nat → ClassId} {α : Adr} {sz : Nat} {r : Int} {μ' : Mem}
set_option maxHeartbeats 4000000 in
set_option maxRecDepth 100000 in
theorem b_X8_status  {μ : Mem} (C : CX p s m args meth c cX8_status 1 RX8 (some .int) D Y LBx (Ar LBx α sz)) (hfr : 0 ≤ R.frames) (hlc : 0 ≤ R.locals)  (hf : f_X8_status μ = some (r, μ')) : GG D Y LBx (Ar LBx α sz) p l e R s m args below meth c 1 (MQ below (Qcx D Y LBx α sz (some (vi r)) (fun a => a = α) μ') args s 0 0 (Ar LBx α sz)) α 0 0 [(0, vr α 0 0)] [] μ 0 := by
  unfold f_X8_status at hf
  refine g_ald_n C 0 rfl rfl dX8_status_0 ?_
  refine g_get C dX8_status_1 fl_X8_9 in_0 (ec_0 _ _ _ _ _) rfl ?_
  exact g_iret C rfl dX8_status_4 hf
set_option maxHeartbeats 4000000 in
set_option maxRecDepth 100000 in
theorem c_X8_status {l : Launch} {D : va_G} {Y : Nat → ClassId} {α : Adr}  {μ : Mem} {r : Int} {μ' : Mem}  (hf : f_X8_status μ = some (r, μ')) : Ctr l D Y LBx yX8_status cX8_status 1 (some .int) 0 0 0 0 [vr α 0 0] α μ (some (vi r)) (fun a => a = α) μ' := Ctr_of pn_X8 rfl rfl (Nat.le_of_ble_eq_true rfl) LBx_nd (fun p e s m below meth c sz C => b_X8_status C (Nat.le_refl _) (Nat.le_refl _)  hf)
end

/-! EndTeller.isTray -/
def f_X8_isTray (a0 : Int) (μ : Mem) : Option (Int × Mem) := (if w32 a0 < 0 then some (0, μ) else (if w32 4 ≤ w32 a0 then some (0, μ) else some (1, μ)))
section
variable {p : Program} {l : Launch} {e : Env} {R : Room} {s : State} {m : MethodId} {args : Array Value} {below : List Frame} {meth : Method} {c : Code} {D : va_G} {Y : Nat → ClassId} {α : Adr} {sz : Nat} {r : Int} {μ' : Mem}
set_option maxHeartbeats 4000000 in
set_option maxRecDepth 100000 in
theorem b_X8_isTray {a0 : Int} {μ : Mem} (C : CX p s m args meth c cX8_isTray 1 RX8 (some .boolean) D Y LBx (Ar LBx α sz)) (hfr : 0 ≤ R.frames) (hlc : 0 ≤ R.locals)  (hf : f_X8_isTray a0 μ = some (r, μ')) : GG D Y LBx (Ar LBx α sz) p l e R s m args below meth c 1 (MQ below (Qcx D Y LBx α sz (some (vi r)) (fun a => a = α) μ') args s 0 0 (Ar LBx α sz)) α 0 0 [(0, vi a0)] [] μ 0 := by
  unfold f_X8_isTray at hf
  refine g_ild_n C 0 rfl rfl dX8_isTray_0 ?_
  refine g_if_lt C 13 (by decide) dX8_isTray_1 (fun h1 => ?_) (fun h1 => ?_)
  · rw [if_pos h1] at hf
    refine g_iconst C dX8_isTray_13 ?_
    exact g_zret C rfl (Or.inl rfl) dX8_isTray_14 hf
  · rw [if_neg h1] at hf
    refine g_ild_n C 0 rfl rfl dX8_isTray_4 ?_
    refine g_iconst C dX8_isTray_5 ?_
    refine g_ic_ge C 13 (by decide) dX8_isTray_6 (fun h2 => ?_) (fun h2 => ?_)
    · rw [if_pos h2] at hf
      refine g_iconst C dX8_isTray_13 ?_
      exact g_zret C rfl (Or.inl rfl) dX8_isTray_14 hf
    · rw [if_neg h2] at hf
      refine g_iconst C dX8_isTray_9 ?_
      refine g_goto C 14 (by decide) dX8_isTray_10 ?_
      exact g_zret C rfl (Or.inr rfl) dX8_isTray_14 hf
set_option maxHeartbeats 4000000 in
set_option maxRecDepth 100000 in
theorem c_X8_isTray {l : Launch} {D : va_G} {Y : Nat → ClassId} {α : Adr} {a0 : Int} {μ : Mem} {r : Int} {μ' : Mem}  (hf : f_X8_isTray a0 μ = some (r, μ')) : Ctr l D Y LBx yX8_isTray cX8_isTray 1 (some .boolean) 0 0 0 0 [vi a0] α μ (some (vi r)) (fun a => a = α) μ' := Ctr_of pn_X8 rfl rfl (Nat.le_of_ble_eq_true rfl) LBx_nd (fun p e s m below meth c sz C => b_X8_isTray C (Nat.le_refl _) (Nat.le_refl _)  hf)
end

/-! EndTeller.refuse -/
def f_X8_refuse (a1 : Int) (μ : Mem) : Option (Int × Mem) := some (0, (st μ 0 0 0 a1))
section
variable {p : Program} {l : Launch} {e : Env} {R : Room} {s : State} {m : MethodId} {args : Array Value} {below : List Frame} {meth : Method} {c : Code} {D : va_G} {Y : Nat → ClassId} {α : Adr} {sz : Nat} {r : Int} {μ' : Mem}
set_option maxHeartbeats 4000000 in
set_option maxRecDepth 100000 in
theorem b_X8_refuse {a1 : Int} {μ : Mem} (C : CX p s m args meth c cX8_refuse 2 RX8 (some .boolean) D Y LBx (Ar LBx α sz)) (hfr : 0 ≤ R.frames) (hlc : 0 ≤ R.locals)  (hf : f_X8_refuse a1 μ = some (r, μ')) : GG D Y LBx (Ar LBx α sz) p l e R s m args below meth c 2 (MQ below (Qcx D Y LBx α sz (some (vi r)) (fun a => a = α) μ') args s 0 0 (Ar LBx α sz)) α 0 0 [(0, vr α 0 0), (1, vi a1)] [] μ 0 := by
  unfold f_X8_refuse at hf
  refine g_ald_n C 0 rfl rfl dX8_refuse_0 ?_
  refine g_ild_n C 1 rfl rfl dX8_refuse_1 ?_
  refine g_puti C dX8_refuse_2 fl_X8_9 in_0 (ec_0 _ _ _ _ _) (Nat.le_of_ble_eq_true rfl) rfl (by decide) ?_
  refine g_iconst C dX8_refuse_5 ?_
  exact g_zret C rfl (Or.inl rfl) dX8_refuse_6 hf
set_option maxHeartbeats 4000000 in
set_option maxRecDepth 100000 in
theorem c_X8_refuse {l : Launch} {D : va_G} {Y : Nat → ClassId} {α : Adr} {a1 : Int} {μ : Mem} {r : Int} {μ' : Mem}  (hf : f_X8_refuse a1 μ = some (r, μ')) : Ctr l D Y LBx yX8_refuse cX8_refuse 2 (some .boolean) 0 0 0 0 [vr α 0 0, vi a1] α μ (some (vi r)) (fun a => a = α) μ' := Ctr_of pn_X8 rfl rfl (Nat.le_of_ble_eq_true rfl) LBx_nd (fun p e s m below meth c sz C => b_X8_refuse C (Nat.le_refl _) (Nat.le_refl _)  hf)
end

/-! EndTeller.well -/
def f_X8_well  (μ : Mem) : Option (Int × Mem) := some (1, (st μ 0 0 0 0))
section
variable {p : Program} {l : Launch} {e : Env} {R : Room} {s : State} {m : MethodId} {args : Array Value} {below : List Frame} {meth : Method} {c : Code} {D : va_G} {Y : Nat → ClassId} {α : Adr} {sz : Nat} {r : Int} {μ' : Mem}
set_option maxHeartbeats 4000000 in
set_option maxRecDepth 100000 in
theorem b_X8_well  {μ : Mem} (C : CX p s m args meth c cX8_well 1 RX8 (some .boolean) D Y LBx (Ar LBx α sz)) (hfr : 0 ≤ R.frames) (hlc : 0 ≤ R.locals)  (hf : f_X8_well μ = some (r, μ')) : GG D Y LBx (Ar LBx α sz) p l e R s m args below meth c 1 (MQ below (Qcx D Y LBx α sz (some (vi r)) (fun a => a = α) μ') args s 0 0 (Ar LBx α sz)) α 0 0 [(0, vr α 0 0)] [] μ 0 := by
  unfold f_X8_well at hf
  refine g_ald_n C 0 rfl rfl dX8_well_0 ?_
  refine g_iconst C dX8_well_1 ?_
  refine g_puti C dX8_well_2 fl_X8_9 in_0 (ec_0 _ _ _ _ _) (Nat.le_of_ble_eq_true rfl) rfl (by decide) ?_
  refine g_iconst C dX8_well_5 ?_
  exact g_zret C rfl (Or.inr rfl) dX8_well_6 hf
set_option maxHeartbeats 4000000 in
set_option maxRecDepth 100000 in
theorem c_X8_well {l : Launch} {D : va_G} {Y : Nat → ClassId} {α : Adr}  {μ : Mem} {r : Int} {μ' : Mem}  (hf : f_X8_well μ = some (r, μ')) : Ctr l D Y LBx yX8_well cX8_well 1 (some .boolean) 0 0 0 0 [vr α 0 0] α μ (some (vi r)) (fun a => a = α) μ' := Ctr_of pn_X8 rfl rfl (Nat.le_of_ble_eq_true rfl) LBx_nd (fun p e s m below meth c sz C => b_X8_well C (Nat.le_refl _) (Nat.le_refl _)  hf)
end

/-! EndTeller.tray -/
def f_X8_tray (a1 : Int) (a2 : Int) (a3 : Int) (μ : Mem) : Option (Int × Mem) := bn (f_X8_isTray a1 μ) (fun r1 μ2 => (if w32 r1 = 0 then bn (f_X8_refuse 1 μ2) (fun r5 μ6 => gd (bb r5) (some (r5, μ6))) else (if w32 a2 < 0 then bn (f_X8_refuse 1 μ2) (fun r10 μ11 => gd (bb r10) (some (r10, μ11))) else (if w32 a2 < w32 4 then (if w32 a3 ≤ w32 40 then (if 0 ≤ w32 a3 then gd (inb a1 4) (bn (f_X5_layOut (ix a1) a2 a3 μ2) (fun r18 μ19 => bn (f_X8_well  μ19) (fun r21 μ22 => gd (bb r21) (some (r21, μ22))))) else bn (f_X8_refuse 6 μ2) (fun r25 μ26 => gd (bb r25) (some (r25, μ26)))) else bn (f_X8_refuse 5 μ2) (fun r29 μ30 => gd (bb r29) (some (r29, μ30)))) else bn (f_X8_refuse 1 μ2) (fun r33 μ34 => gd (bb r33) (some (r33, μ34)))))))
section
variable {p : Program} {l : Launch} {e : Env} {R : Room} {s : State} {m : MethodId} {args : Array Value} {below : List Frame} {meth : Method} {c : Code} {D : va_G} {Y : Nat → ClassId} {α : Adr} {sz : Nat} {r : Int} {μ' : Mem}
set_option maxHeartbeats 4000000 in
set_option maxRecDepth 100000 in
theorem b_X8_tray {a1 : Int} {a2 : Int} {a3 : Int} {μ : Mem} (C : CX p s m args meth c cX8_tray 4 RX8 (some .boolean) D Y LBx (Ar LBx α sz)) (hfr : 2 ≤ R.frames) (hlc : 46 ≤ R.locals)  (hf : f_X8_tray a1 a2 a3 μ = some (r, μ')) : GG D Y LBx (Ar LBx α sz) p l e R s m args below meth c 4 (MQ below (Qcx D Y LBx α sz (some (vi r)) (fun a => a = α) μ') args s 0 0 (Ar LBx α sz)) α 0 0 [(0, vr α 0 0), (1, vi a1), (2, vi a2), (3, vi a3)] [] μ 0 := by
  unfold f_X8_tray at hf
  refine g_ild_n C 1 rfl rfl dX8_tray_0 ?_
  obtain ⟨r1, μ2, hc3, hf⟩ := bn_some hf
  refine g_callSp (As := [vi a1]) (rest := []) C ⟨Nat.zero_le _, Nat.zero_le _⟩ dX8_tray_1 cw_X8_isTray m_2_71 m_2_72 (c_X8_isTray  hc3) rfl rfl (Nat.le_of_ble_eq_true rfl) ⟨Nat.le_trans (Nat.le_of_ble_eq_true rfl) hfr, Nat.le_trans (Nat.le_of_ble_eq_true rfl) hlc⟩ ?_
  refine g_if_eq C 16 (by decide) dX8_tray_4 (fun h4 => ?_) (fun h4 => ?_)
  · rw [if_pos h4] at hf
    refine g_ald_n C 0 rfl rfl dX8_tray_16 ?_
    refine g_iconst C dX8_tray_17 ?_
    obtain ⟨r5, μ6, hc7, hf⟩ := bn_some hf
    refine g_callVp (As := [vi 1]) (rest := []) C ⟨Nat.zero_le _, Nat.zero_le _⟩ dX8_tray_18 cw_X8_refuse m_2_74 m_2_76 m_0_0 in_0 (ec_0 _ _ _ _ _) rfl rfl (c_X8_refuse  hc7) rfl rfl (Nat.le_of_ble_eq_true rfl) ⟨Nat.le_trans (Nat.le_of_ble_eq_true rfl) hfr, Nat.le_trans (Nat.le_of_ble_eq_true rfl) hlc⟩ ?_
    obtain ⟨g8, hf⟩ := gd_some hf
    exact g_zret C rfl g8 dX8_tray_21 hf
  · rw [if_neg h4] at hf
    refine g_ild_n C 2 rfl rfl dX8_tray_7 ?_
    refine g_if_lt C 16 (by decide) dX8_tray_8 (fun h9 => ?_) (fun h9 => ?_)
    · rw [if_pos h9] at hf
      refine g_ald_n C 0 rfl rfl dX8_tray_16 ?_
      refine g_iconst C dX8_tray_17 ?_
      obtain ⟨r10, μ11, hc12, hf⟩ := bn_some hf
      refine g_callVp (As := [vi 1]) (rest := []) C ⟨Nat.zero_le _, Nat.zero_le _⟩ dX8_tray_18 cw_X8_refuse m_2_74 m_2_76 m_0_0 in_0 (ec_0 _ _ _ _ _) rfl rfl (c_X8_refuse  hc12) rfl rfl (Nat.le_of_ble_eq_true rfl) ⟨Nat.le_trans (Nat.le_of_ble_eq_true rfl) hfr, Nat.le_trans (Nat.le_of_ble_eq_true rfl) hlc⟩ ?_
      obtain ⟨g13, hf⟩ := gd_some hf
      exact g_zret C rfl g13 dX8_tray_21 hf
    · rw [if_neg h9] at hf
      refine g_ild_n C 2 rfl rfl dX8_tray_11 ?_
      refine g_iconst C dX8_tray_12 ?_
      refine g_ic_lt C 22 (by decide) dX8_tray_13 (fun h14 => ?_) (fun h14 => ?_)
      · rw [if_pos h14] at hf
        refine g_ild_n C 3 rfl rfl dX8_tray_22 ?_
        refine g_bipush C rfl dX8_tray_23 ?_
        refine g_ic_le C 34 (by decide) dX8_tray_25 (fun h15 => ?_) (fun h15 => ?_)
        · rw [if_pos h15] at hf
          refine g_ild_n C 3 rfl rfl dX8_tray_34 ?_
          refine g_if_ge C 45 (by decide) dX8_tray_35 (fun h16 => ?_) (fun h16 => ?_)
          · rw [if_pos h16] at hf
            refine g_ald_n C 0 rfl rfl dX8_tray_45 ?_
            refine g_get C dX8_tray_46 fl_X8_28 in_0 (ec_0 _ _ _ _ _) rfl ?_
            refine g_ild_n C 1 rfl rfl dX8_tray_49 ?_
            obtain ⟨g17, hf⟩ := gd_some hf
            refine g_aaldI C dX8_tray_50 in_2 (fun _ => ec_2 _ _ _ _ _) rfl g17 ?_
            refine g_ild_n C 2 rfl rfl dX8_tray_51 ?_
            refine g_ild_n C 3 rfl rfl dX8_tray_52 ?_
            obtain ⟨r18, μ19, hc20, hf⟩ := bn_some hf
            refine g_callVp (As := [vi a2, vi a3]) (rest := []) C ⟨Nat.zero_le _, Nat.zero_le _⟩ dX8_tray_53 cw_X5_layOut m_2_78 m_2_79 m_2_80 (in_3 (inb_ix g17)) (ec_3 _ _ _ _ _) rfl rfl (c_X5_layOut (inb_ix g17) hc20) rfl rfl (Nat.le_of_ble_eq_true rfl) ⟨Nat.le_trans (Nat.le_of_ble_eq_true rfl) hfr, Nat.le_trans (Nat.le_of_ble_eq_true rfl) hlc⟩ ?_
            refine g_ald_n C 0 rfl rfl dX8_tray_56 ?_
            obtain ⟨r21, μ22, hc23, hf⟩ := bn_some hf
            refine g_callVp (As := []) (rest := []) C ⟨Nat.zero_le _, Nat.zero_le _⟩ dX8_tray_57 cw_X8_well m_2_85 m_2_87 m_0_1 in_0 (ec_0 _ _ _ _ _) rfl rfl (c_X8_well  hc23) rfl rfl (Nat.le_of_ble_eq_true rfl) ⟨Nat.le_trans (Nat.le_of_ble_eq_true rfl) hfr, Nat.le_trans (Nat.le_of_ble_eq_true rfl) hlc⟩ ?_
            obtain ⟨g24, hf⟩ := gd_some hf
            exact g_zret C rfl g24 dX8_tray_60 hf
          · rw [if_neg h16] at hf
            refine g_ald_n C 0 rfl rfl dX8_tray_38 ?_
            refine g_bipush C rfl dX8_tray_39 ?_
            obtain ⟨r25, μ26, hc27, hf⟩ := bn_some hf
            refine g_callVp (As := [vi 6]) (rest := []) C ⟨Nat.zero_le _, Nat.zero_le _⟩ dX8_tray_41 cw_X8_refuse m_2_74 m_2_76 m_0_0 in_0 (ec_0 _ _ _ _ _) rfl rfl (c_X8_refuse  hc27) rfl rfl (Nat.le_of_ble_eq_true rfl) ⟨Nat.le_trans (Nat.le_of_ble_eq_true rfl) hfr, Nat.le_trans (Nat.le_of_ble_eq_true rfl) hlc⟩ ?_
            obtain ⟨g28, hf⟩ := gd_some hf
            exact g_zret C rfl g28 dX8_tray_44 hf
        · rw [if_neg h15] at hf
          refine g_ald_n C 0 rfl rfl dX8_tray_28 ?_
          refine g_iconst C dX8_tray_29 ?_
          obtain ⟨r29, μ30, hc31, hf⟩ := bn_some hf
          refine g_callVp (As := [vi 5]) (rest := []) C ⟨Nat.zero_le _, Nat.zero_le _⟩ dX8_tray_30 cw_X8_refuse m_2_74 m_2_76 m_0_0 in_0 (ec_0 _ _ _ _ _) rfl rfl (c_X8_refuse  hc31) rfl rfl (Nat.le_of_ble_eq_true rfl) ⟨Nat.le_trans (Nat.le_of_ble_eq_true rfl) hfr, Nat.le_trans (Nat.le_of_ble_eq_true rfl) hlc⟩ ?_
          obtain ⟨g32, hf⟩ := gd_some hf
          exact g_zret C rfl g32 dX8_tray_33 hf
      · rw [if_neg h14] at hf
        refine g_ald_n C 0 rfl rfl dX8_tray_16 ?_
        refine g_iconst C dX8_tray_17 ?_
        obtain ⟨r33, μ34, hc35, hf⟩ := bn_some hf
        refine g_callVp (As := [vi 1]) (rest := []) C ⟨Nat.zero_le _, Nat.zero_le _⟩ dX8_tray_18 cw_X8_refuse m_2_74 m_2_76 m_0_0 in_0 (ec_0 _ _ _ _ _) rfl rfl (c_X8_refuse  hc35) rfl rfl (Nat.le_of_ble_eq_true rfl) ⟨Nat.le_trans (Nat.le_of_ble_eq_true rfl) hfr, Nat.le_trans (Nat.le_of_ble_eq_true rfl) hlc⟩ ?_
        obtain ⟨g36, hf⟩ := gd_some hf
        exact g_zret C rfl g36 dX8_tray_21 hf
set_option maxHeartbeats 4000000 in
set_option maxRecDepth 100000 in
theorem c_X8_tray {l : Launch} {D : va_G} {Y : Nat → ClassId} {α : Adr} {a1 : Int} {a2 : Int} {a3 : Int} {μ : Mem} {r : Int} {μ' : Mem}  (hf : f_X8_tray a1 a2 a3 μ = some (r, μ')) : Ctr l D Y LBx yX8_tray cX8_tray 4 (some .boolean) 2 46 0 0 [vr α 0 0, vi a1, vi a2, vi a3] α μ (some (vi r)) (fun a => a = α) μ' := Ctr_of pn_X8 rfl rfl (Nat.le_of_ble_eq_true rfl) LBx_nd (fun p e s m below meth c sz C => b_X8_tray C (Nat.le_refl _) (Nat.le_refl _)  hf)
end

/-! EndTeller.placeTrouble -/
def f_X8_placeTrouble (a1 : Int) (a2 : Int) (μ : Mem) : Option (Int × Mem) := bn (f_X8_isTray a1 μ) (fun r1 μ2 => (if w32 r1 = 0 then some (1, μ2) else gd (inb a1 4) (bn (f_X5_isMissing (ix a1) μ2) (fun r6 μ7 => (if w32 r6 = 0 then gd (inb a1 4) (bn (f_X5_has (ix a1) a2 μ7) (fun r11 μ12 => (if w32 r11 = 0 then some (4, μ12) else some (0, μ12)))) else some (3, μ7))))))
section
variable {p : Program} {l : Launch} {e : Env} {R : Room} {s : State} {m : MethodId} {args : Array Value} {below : List Frame} {meth : Method} {c : Code} {D : va_G} {Y : Nat → ClassId} {α : Adr} {sz : Nat} {r : Int} {μ' : Mem}
set_option maxHeartbeats 4000000 in
set_option maxRecDepth 100000 in
theorem b_X8_placeTrouble {a1 : Int} {a2 : Int} {μ : Mem} (C : CX p s m args meth c cX8_placeTrouble 3 RX8 (some .int) D Y LBx (Ar LBx α sz)) (hfr : 1 ≤ R.frames) (hlc : 21 ≤ R.locals)  (hf : f_X8_placeTrouble a1 a2 μ = some (r, μ')) : GG D Y LBx (Ar LBx α sz) p l e R s m args below meth c 3 (MQ below (Qcx D Y LBx α sz (some (vi r)) (fun a => a = α) μ') args s 0 0 (Ar LBx α sz)) α 0 0 [(0, vr α 0 0), (1, vi a1), (2, vi a2)] [] μ 0 := by
  unfold f_X8_placeTrouble at hf
  refine g_ild_n C 1 rfl rfl dX8_placeTrouble_0 ?_
  obtain ⟨r1, μ2, hc3, hf⟩ := bn_some hf
  refine g_callSp (As := [vi a1]) (rest := []) C ⟨Nat.zero_le _, Nat.zero_le _⟩ dX8_placeTrouble_1 cw_X8_isTray m_2_71 m_2_72 (c_X8_isTray  hc3) rfl rfl (Nat.le_of_ble_eq_true rfl) ⟨Nat.le_trans (Nat.le_of_ble_eq_true rfl) hfr, Nat.le_trans (Nat.le_of_ble_eq_true rfl) hlc⟩ ?_
  refine g_if_ne C 9 (by decide) dX8_placeTrouble_4 (fun h4 => ?_) (fun h4 => ?_)
  · rw [if_pos h4] at hf
    refine g_iconst C dX8_placeTrouble_7 ?_
    exact g_iret C rfl dX8_placeTrouble_8 hf
  · rw [if_neg h4] at hf
    refine g_ald_n C 0 rfl rfl dX8_placeTrouble_9 ?_
    refine g_get C dX8_placeTrouble_10 fl_X8_28 in_0 (ec_0 _ _ _ _ _) rfl ?_
    refine g_ild_n C 1 rfl rfl dX8_placeTrouble_13 ?_
    obtain ⟨g5, hf⟩ := gd_some hf
    refine g_aaldI C dX8_placeTrouble_14 in_2 (fun _ => ec_2 _ _ _ _ _) rfl g5 ?_
    obtain ⟨r6, μ7, hc8, hf⟩ := bn_some hf
    refine g_callVp (As := []) (rest := []) C ⟨Nat.zero_le _, Nat.zero_le _⟩ dX8_placeTrouble_15 cw_X5_isMissing m_2_97 m_2_98 m_2_99 (in_3 (inb_ix g5)) (ec_3 _ _ _ _ _) rfl rfl (c_X5_isMissing (inb_ix g5) hc8) rfl rfl (Nat.le_of_ble_eq_true rfl) ⟨Nat.le_trans (Nat.le_of_ble_eq_true rfl) hfr, Nat.le_trans (Nat.le_of_ble_eq_true rfl) hlc⟩ ?_
    refine g_if_eq C 23 (by decide) dX8_placeTrouble_18 (fun h9 => ?_) (fun h9 => ?_)
    · rw [if_pos h9] at hf
      refine g_ald_n C 0 rfl rfl dX8_placeTrouble_23 ?_
      refine g_get C dX8_placeTrouble_24 fl_X8_28 in_0 (ec_0 _ _ _ _ _) rfl ?_
      refine g_ild_n C 1 rfl rfl dX8_placeTrouble_27 ?_
      obtain ⟨g10, hf⟩ := gd_some hf
      refine g_aaldI C dX8_placeTrouble_28 in_2 (fun _ => ec_2 _ _ _ _ _) rfl g10 ?_
      refine g_ild_n C 2 rfl rfl dX8_placeTrouble_29 ?_
      obtain ⟨r11, μ12, hc13, hf⟩ := bn_some hf
      refine g_callVp (As := [vi a2]) (rest := []) C ⟨Nat.zero_le _, Nat.zero_le _⟩ dX8_placeTrouble_30 cw_X5_has m_2_101 m_2_102 m_2_103 (in_3 (inb_ix g10)) (ec_3 _ _ _ _ _) rfl rfl (c_X5_has (inb_ix g10) hc13) rfl rfl (Nat.le_of_ble_eq_true rfl) ⟨Nat.le_trans (Nat.le_of_ble_eq_true rfl) hfr, Nat.le_trans (Nat.le_of_ble_eq_true rfl) hlc⟩ ?_
      refine g_if_eq C 40 (by decide) dX8_placeTrouble_33 (fun h14 => ?_) (fun h14 => ?_)
      · rw [if_pos h14] at hf
        refine g_iconst C dX8_placeTrouble_40 ?_
        exact g_iret C rfl dX8_placeTrouble_41 hf
      · rw [if_neg h14] at hf
        refine g_iconst C dX8_placeTrouble_36 ?_
        refine g_goto C 41 (by decide) dX8_placeTrouble_37 ?_
        exact g_iret C rfl dX8_placeTrouble_41 hf
    · rw [if_neg h9] at hf
      refine g_iconst C dX8_placeTrouble_21 ?_
      exact g_iret C rfl dX8_placeTrouble_22 hf
set_option maxHeartbeats 4000000 in
set_option maxRecDepth 100000 in
theorem c_X8_placeTrouble {l : Launch} {D : va_G} {Y : Nat → ClassId} {α : Adr} {a1 : Int} {a2 : Int} {μ : Mem} {r : Int} {μ' : Mem}  (hf : f_X8_placeTrouble a1 a2 μ = some (r, μ')) : Ctr l D Y LBx yX8_placeTrouble cX8_placeTrouble 3 (some .int) 1 21 0 0 [vr α 0 0, vi a1, vi a2] α μ (some (vi r)) (fun a => a = α) μ' := Ctr_of pn_X8 rfl rfl (Nat.le_of_ble_eq_true rfl) LBx_nd (fun p e s m below meth c sz C => b_X8_placeTrouble C (Nat.le_refl _) (Nat.le_refl _)  hf)
end

/-! EndTeller.write -/
def f_X8_write (a1 : Int) (a2 : Int) (a3 : Int) (μ : Mem) : Option (Int × Mem) := bn (f_X8_placeTrouble a1 a2 μ) (fun r1 μ2 => (if w32 r1 = 0 then gd (inb a1 4) (bn (f_X5_put (ix a1) a2 a3 μ2) (fun r6 μ7 => bn (f_X8_well  μ7) (fun r9 μ10 => gd (bb r9) (some (r9, μ10))))) else bn (f_X8_refuse r1 μ2) (fun r13 μ14 => gd (bb r13) (some (r13, μ14)))))
section
variable {p : Program} {l : Launch} {e : Env} {R : Room} {s : State} {m : MethodId} {args : Array Value} {below : List Frame} {meth : Method} {c : Code} {D : va_G} {Y : Nat → ClassId} {α : Adr} {sz : Nat} {r : Int} {μ' : Mem}
set_option maxHeartbeats 4000000 in
set_option maxRecDepth 100000 in
theorem b_X8_write {a1 : Int} {a2 : Int} {a3 : Int} {μ : Mem} (C : CX p s m args meth c cX8_write 6 RX8 (some .boolean) D Y LBx (Ar LBx α sz)) (hfr : 2 ≤ R.frames) (hlc : 45 ≤ R.locals)  (hf : f_X8_write a1 a2 a3 μ = some (r, μ')) : GG D Y LBx (Ar LBx α sz) p l e R s m args below meth c 6 (MQ below (Qcx D Y LBx α sz (some (vi r)) (fun a => a = α) μ') args s 0 0 (Ar LBx α sz)) α 0 0 [(0, vr α 0 0), (1, vi a1), (2, vi a2), (3, vl a3)] [] μ 0 := by
  unfold f_X8_write at hf
  refine g_ald_n C 0 rfl rfl dX8_write_0 ?_
  refine g_ild_n C 1 rfl rfl dX8_write_1 ?_
  refine g_ild_n C 2 rfl rfl dX8_write_2 ?_
  obtain ⟨r1, μ2, hc3, hf⟩ := bn_some hf
  refine g_callVp (As := [vi a1, vi a2]) (rest := []) C ⟨Nat.zero_le _, Nat.zero_le _⟩ dX8_write_3 cw_X8_placeTrouble m_2_93 m_2_95 m_0_2 in_0 (ec_0 _ _ _ _ _) rfl rfl (c_X8_placeTrouble  hc3) rfl rfl (Nat.le_of_ble_eq_true rfl) ⟨Nat.le_trans (Nat.le_of_ble_eq_true rfl) hfr, Nat.le_trans (Nat.le_of_ble_eq_true rfl) hlc⟩ ?_
  refine g_ist (lo' := [(5, vi r1), (0, vr α 0 0), (1, vi a1), (2, vi a2), (3, vl a3)]) C (by decide) rfl dX8_write_6 ?_
  refine g_ild C 0 rfl dX8_write_8 ?_
  refine g_if_eq C 20 (by decide) dX8_write_10 (fun h4 => ?_) (fun h4 => ?_)
  · rw [if_pos h4] at hf
    refine g_ald_n C 1 rfl rfl dX8_write_20 ?_
    refine g_get C dX8_write_21 fl_X8_28 in_0 (ec_0 _ _ _ _ _) rfl ?_
    refine g_ild_n C 2 rfl rfl dX8_write_24 ?_
    obtain ⟨g5, hf⟩ := gd_some hf
    refine g_aaldI C dX8_write_25 in_2 (fun _ => ec_2 _ _ _ _ _) rfl g5 ?_
    refine g_ild_n C 3 rfl rfl dX8_write_26 ?_
    refine g_lld_n C 4 rfl rfl dX8_write_27 ?_
    obtain ⟨r6, μ7, hc8, hf⟩ := bn_some hf
    refine g_callVp (As := [vi a2, vl a3]) (rest := []) C ⟨Nat.zero_le _, Nat.zero_le _⟩ dX8_write_28 cw_X5_put m_2_105 m_2_106 m_2_107 (in_3 (inb_ix g5)) (ec_3 _ _ _ _ _) rfl rfl (c_X5_put (inb_ix g5) hc8) rfl rfl (Nat.le_of_ble_eq_true rfl) ⟨Nat.le_trans (Nat.le_of_ble_eq_true rfl) hfr, Nat.le_trans (Nat.le_of_ble_eq_true rfl) hlc⟩ ?_
    refine g_ald_n C 1 rfl rfl dX8_write_31 ?_
    obtain ⟨r9, μ10, hc11, hf⟩ := bn_some hf
    refine g_callVp (As := []) (rest := []) C ⟨Nat.zero_le _, Nat.zero_le _⟩ dX8_write_32 cw_X8_well m_2_85 m_2_87 m_0_1 in_0 (ec_0 _ _ _ _ _) rfl rfl (c_X8_well  hc11) rfl rfl (Nat.le_of_ble_eq_true rfl) ⟨Nat.le_trans (Nat.le_of_ble_eq_true rfl) hfr, Nat.le_trans (Nat.le_of_ble_eq_true rfl) hlc⟩ ?_
    obtain ⟨g12, hf⟩ := gd_some hf
    exact g_zret C rfl g12 dX8_write_35 hf
  · rw [if_neg h4] at hf
    refine g_ald_n C 1 rfl rfl dX8_write_13 ?_
    refine g_ild C 0 rfl dX8_write_14 ?_
    obtain ⟨r13, μ14, hc15, hf⟩ := bn_some hf
    refine g_callVp (As := [vi r1]) (rest := []) C ⟨Nat.zero_le _, Nat.zero_le _⟩ dX8_write_16 cw_X8_refuse m_2_74 m_2_76 m_0_0 in_0 (ec_0 _ _ _ _ _) rfl rfl (c_X8_refuse  hc15) rfl rfl (Nat.le_of_ble_eq_true rfl) ⟨Nat.le_trans (Nat.le_of_ble_eq_true rfl) hfr, Nat.le_trans (Nat.le_of_ble_eq_true rfl) hlc⟩ ?_
    obtain ⟨g16, hf⟩ := gd_some hf
    exact g_zret C rfl g16 dX8_write_19 hf
set_option maxHeartbeats 4000000 in
set_option maxRecDepth 100000 in
theorem c_X8_write {l : Launch} {D : va_G} {Y : Nat → ClassId} {α : Adr} {a1 : Int} {a2 : Int} {a3 : Int} {μ : Mem} {r : Int} {μ' : Mem}  (hf : f_X8_write a1 a2 a3 μ = some (r, μ')) : Ctr l D Y LBx yX8_write cX8_write 6 (some .boolean) 2 45 0 0 [vr α 0 0, vi a1, vi a2, vl a3] α μ (some (vi r)) (fun a => a = α) μ' := Ctr_of pn_X8 rfl rfl (Nat.le_of_ble_eq_true rfl) LBx_nd (fun p e s m below meth c sz C => b_X8_write C (Nat.le_refl _) (Nat.le_refl _)  hf)
end

/-! EndTeller.refuseNumber -/
def f_X8_refuseNumber (a1 : Int) (μ : Mem) : Option (Int × Mem) := some ((-1), (st μ 0 0 0 a1))
section
variable {p : Program} {l : Launch} {e : Env} {R : Room} {s : State} {m : MethodId} {args : Array Value} {below : List Frame} {meth : Method} {c : Code} {D : va_G} {Y : Nat → ClassId} {α : Adr} {sz : Nat} {r : Int} {μ' : Mem}
set_option maxHeartbeats 4000000 in
set_option maxRecDepth 100000 in
theorem b_X8_refuseNumber {a1 : Int} {μ : Mem} (C : CX p s m args meth c cX8_refuseNumber 2 RX8 (some .int) D Y LBx (Ar LBx α sz)) (hfr : 0 ≤ R.frames) (hlc : 0 ≤ R.locals)  (hf : f_X8_refuseNumber a1 μ = some (r, μ')) : GG D Y LBx (Ar LBx α sz) p l e R s m args below meth c 2 (MQ below (Qcx D Y LBx α sz (some (vi r)) (fun a => a = α) μ') args s 0 0 (Ar LBx α sz)) α 0 0 [(0, vr α 0 0), (1, vi a1)] [] μ 0 := by
  unfold f_X8_refuseNumber at hf
  refine g_ald_n C 0 rfl rfl dX8_refuseNumber_0 ?_
  refine g_ild_n C 1 rfl rfl dX8_refuseNumber_1 ?_
  refine g_puti C dX8_refuseNumber_2 fl_X8_9 in_0 (ec_0 _ _ _ _ _) (Nat.le_of_ble_eq_true rfl) rfl (by decide) ?_
  refine g_iconst C dX8_refuseNumber_5 ?_
  exact g_iret C rfl dX8_refuseNumber_6 hf
set_option maxHeartbeats 4000000 in
set_option maxRecDepth 100000 in
theorem c_X8_refuseNumber {l : Launch} {D : va_G} {Y : Nat → ClassId} {α : Adr} {a1 : Int} {μ : Mem} {r : Int} {μ' : Mem}  (hf : f_X8_refuseNumber a1 μ = some (r, μ')) : Ctr l D Y LBx yX8_refuseNumber cX8_refuseNumber 2 (some .int) 0 0 0 0 [vr α 0 0, vi a1] α μ (some (vi r)) (fun a => a = α) μ' := Ctr_of pn_X8 rfl rfl (Nat.le_of_ble_eq_true rfl) LBx_nd (fun p e s m below meth c sz C => b_X8_refuseNumber C (Nat.le_refl _) (Nat.le_refl _)  hf)
end

/-! EndTeller.read -/
def f_X8_read (a1 : Int) (a2 : Int) (μ : Mem) : Option (Int × Mem) := bn (f_X8_placeTrouble a1 a2 μ) (fun r1 μ2 => (if w32 r1 = 0 then gd (inb a1 4) (bn (f_X5_numberAt (ix a1) a2 (st μ2 0 0 0 0)) (fun r6 μ7 => some (r6, μ7))) else bn (f_X8_refuseNumber r1 μ2) (fun r9 μ10 => some ((w32 r9), μ10))))
section
variable {p : Program} {l : Launch} {e : Env} {R : Room} {s : State} {m : MethodId} {args : Array Value} {below : List Frame} {meth : Method} {c : Code} {D : va_G} {Y : Nat → ClassId} {α : Adr} {sz : Nat} {r : Int} {μ' : Mem}
set_option maxHeartbeats 4000000 in
set_option maxRecDepth 100000 in
theorem b_X8_read {a1 : Int} {a2 : Int} {μ : Mem} (C : CX p s m args meth c cX8_read 4 RX8 (some .long) D Y LBx (Ar LBx α sz)) (hfr : 2 ≤ R.frames) (hlc : 43 ≤ R.locals)  (hf : f_X8_read a1 a2 μ = some (r, μ')) : GG D Y LBx (Ar LBx α sz) p l e R s m args below meth c 4 (MQ below (Qcx D Y LBx α sz (some (vl r)) (fun a => a = α) μ') args s 0 0 (Ar LBx α sz)) α 0 0 [(0, vr α 0 0), (1, vi a1), (2, vi a2)] [] μ 0 := by
  unfold f_X8_read at hf
  refine g_ald_n C 0 rfl rfl dX8_read_0 ?_
  refine g_ild_n C 1 rfl rfl dX8_read_1 ?_
  refine g_ild_n C 2 rfl rfl dX8_read_2 ?_
  obtain ⟨r1, μ2, hc3, hf⟩ := bn_some hf
  refine g_callVp (As := [vi a1, vi a2]) (rest := []) C ⟨Nat.zero_le _, Nat.zero_le _⟩ dX8_read_3 cw_X8_placeTrouble m_2_93 m_2_95 m_0_2 in_0 (ec_0 _ _ _ _ _) rfl rfl (c_X8_placeTrouble  hc3) rfl rfl (Nat.le_of_ble_eq_true rfl) ⟨Nat.le_trans (Nat.le_of_ble_eq_true rfl) hfr, Nat.le_trans (Nat.le_of_ble_eq_true rfl) hlc⟩ ?_
  refine g_ist_n (lo' := [(3, vi r1), (0, vr α 0 0), (1, vi a1), (2, vi a2)]) C rfl (by decide) rfl dX8_read_6 ?_
  refine g_ild_n C 0 rfl rfl dX8_read_7 ?_
  refine g_if_eq C 18 (by decide) dX8_read_8 (fun h4 => ?_) (fun h4 => ?_)
  · rw [if_pos h4] at hf
    refine g_ald_n C 1 rfl rfl dX8_read_18 ?_
    refine g_iconst C dX8_read_19 ?_
    refine g_puti C dX8_read_20 fl_X8_9 in_0 (ec_0 _ _ _ _ _) (Nat.le_of_ble_eq_true rfl) rfl (by decide) ?_
    refine g_ald_n C 1 rfl rfl dX8_read_23 ?_
    refine g_get C dX8_read_24 fl_X8_28 in_0 (ec_0 _ _ _ _ _) rfl ?_
    refine g_ild_n C 2 rfl rfl dX8_read_27 ?_
    obtain ⟨g5, hf⟩ := gd_some hf
    refine g_aaldI C dX8_read_28 in_2 (fun _ => ec_2 _ _ _ _ _) rfl g5 ?_
    refine g_ild_n C 3 rfl rfl dX8_read_29 ?_
    obtain ⟨r6, μ7, hc8, hf⟩ := bn_some hf
    refine g_callVp (As := [vi a2]) (rest := []) C ⟨Nat.zero_le _, Nat.zero_le _⟩ dX8_read_30 cw_X5_numberAt m_2_122 m_2_123 m_2_124 (in_3 (inb_ix g5)) (ec_3 _ _ _ _ _) rfl rfl (c_X5_numberAt (inb_ix g5) hc8) rfl rfl (Nat.le_of_ble_eq_true rfl) ⟨Nat.le_trans (Nat.le_of_ble_eq_true rfl) hfr, Nat.le_trans (Nat.le_of_ble_eq_true rfl) hlc⟩ ?_
    exact g_lret C rfl dX8_read_33 hf
  · rw [if_neg h4] at hf
    refine g_ald_n C 1 rfl rfl dX8_read_11 ?_
    refine g_ild_n C 0 rfl rfl dX8_read_12 ?_
    obtain ⟨r9, μ10, hc11, hf⟩ := bn_some hf
    refine g_callVp (As := [vi r1]) (rest := []) C ⟨Nat.zero_le _, Nat.zero_le _⟩ dX8_read_13 cw_X8_refuseNumber m_2_118 m_2_120 m_0_3 in_0 (ec_0 _ _ _ _ _) rfl rfl (c_X8_refuseNumber  hc11) rfl rfl (Nat.le_of_ble_eq_true rfl) ⟨Nat.le_trans (Nat.le_of_ble_eq_true rfl) hfr, Nat.le_trans (Nat.le_of_ble_eq_true rfl) hlc⟩ ?_
    refine g_i2l C dX8_read_16 ?_
    exact g_lret C rfl dX8_read_17 hf
set_option maxHeartbeats 4000000 in
set_option maxRecDepth 100000 in
theorem c_X8_read {l : Launch} {D : va_G} {Y : Nat → ClassId} {α : Adr} {a1 : Int} {a2 : Int} {μ : Mem} {r : Int} {μ' : Mem}  (hf : f_X8_read a1 a2 μ = some (r, μ')) : Ctr l D Y LBx yX8_read cX8_read 4 (some .long) 2 43 0 0 [vr α 0 0, vi a1, vi a2] α μ (some (vl r)) (fun a => a = α) μ' := Ctr_of pn_X8 rfl rfl (Nat.le_of_ble_eq_true rfl) LBx_nd (fun p e s m below meth c sz C => b_X8_read C (Nat.le_refl _) (Nat.le_refl _)  hf)
end

/-! EndTeller.pour -/
def f_X8_pour (a1 : Int) (a2 : Int) (a3 : Int) (a4 : Int) (a5 : Int) (μ : Mem) : Option (Int × Mem) := bn (f_X8_isTray a1 μ) (fun r1 μ2 => (if w32 r1 = 0 then bn (f_X8_refuse 1 μ2) (fun r5 μ6 => gd (bb r5) (some (r5, μ6))) else bn (f_X8_isTray a3 μ2) (fun r9 μ10 => (if w32 r9 = 0 then bn (f_X8_refuse 1 μ10) (fun r13 μ14 => gd (bb r13) (some (r13, μ14))) else gd (inb a1 4) (gd (inb a3 4) (bn (f_X5_isMissing (ix a1) μ10) (fun r19 μ20 => (if w32 r19 = 0 then bn (f_X5_isMissing (ix a3) μ20) (fun r23 μ24 => (if w32 r23 = 0 then (if w32 (μ24 3 (ix a1) 1) = w32 (μ24 3 (ix a3) 1) then (if 0 ≤ w32 a5 then bn (f_X5_hasRun (ix a1) a2 a5 μ24) (fun r29 μ30 => (if w32 r29 = 0 then bn (f_X8_refuse 4 μ30) (fun r33 μ34 => gd (bb r33) (some (r33, μ34))) else bn (f_X5_hasRun (ix a3) a4 a5 μ30) (fun r37 μ38 => (if w32 r37 = 0 then bn (f_X8_refuse 4 μ38) (fun r41 μ42 => gd (bb r41) (some (r41, μ42))) else gd ((0 ≤ w32 a2 ∧ 0 ≤ w32 a4) ∧ 0 ≤ w32 a5 ∧ ix a2 + ix a5 ≤ 40 ∧ ix a4 + ix a5 ≤ 40) (bn (f_X8_well  (cpy μ38 4 (ix a1) 4 (ix a3) a2 a4 a5)) (fun r46 μ47 => gd (bb r46) (some (r46, μ47)))))))) else bn (f_X8_refuse 6 μ24) (fun r50 μ51 => gd (bb r50) (some (r50, μ51)))) else bn (f_X8_refuse 11 μ24) (fun r54 μ55 => gd (bb r54) (some (r54, μ55)))) else bn (f_X8_refuse 3 μ24) (fun r58 μ59 => gd (bb r58) (some (r58, μ59))))) else bn (f_X8_refuse 3 μ20) (fun r62 μ63 => gd (bb r62) (some (r62, μ63)))))))))))
section
variable {p : Program} {l : Launch} {e : Env} {R : Room} {s : State} {m : MethodId} {args : Array Value} {below : List Frame} {meth : Method} {c : Code} {D : va_G} {Y : Nat → ClassId} {α : Adr} {sz : Nat} {r : Int} {μ' : Mem}
set_option maxHeartbeats 4000000 in
set_option maxRecDepth 100000 in
theorem b_X8_pour {a1 : Int} {a2 : Int} {a3 : Int} {a4 : Int} {a5 : Int} {μ : Mem} (C : CX p s m args meth c cX8_pour 8 RX8 (some .boolean) D Y LBx (Ar LBx α sz)) (hfr : 1 ≤ R.frames) (hlc : 100 ≤ R.locals)  (hf : f_X8_pour a1 a2 a3 a4 a5 μ = some (r, μ')) : GG D Y LBx (Ar LBx α sz) p l e R s m args below meth c 8 (MQ below (Qcx D Y LBx α sz (some (vi r)) (fun a => a = α) μ') args s 0 0 (Ar LBx α sz)) α 0 0 [(0, vr α 0 0), (1, vi a1), (2, vi a2), (3, vi a3), (4, vi a4), (5, vi a5)] [] μ 0 := by
  unfold f_X8_pour at hf
  refine g_ild_n C 1 rfl rfl dX8_pour_0 ?_
  obtain ⟨r1, μ2, hc3, hf⟩ := bn_some hf
  refine g_callSp (As := [vi a1]) (rest := []) C ⟨Nat.zero_le _, Nat.zero_le _⟩ dX8_pour_1 cw_X8_isTray m_2_71 m_2_72 (c_X8_isTray  hc3) rfl rfl (Nat.le_of_ble_eq_true rfl) ⟨Nat.le_trans (Nat.le_of_ble_eq_true rfl) hfr, Nat.le_trans (Nat.le_of_ble_eq_true rfl) hlc⟩ ?_
  refine g_if_eq C 14 (by decide) dX8_pour_4 (fun h4 => ?_) (fun h4 => ?_)
  · rw [if_pos h4] at hf
    refine g_ald_n C 0 rfl rfl dX8_pour_14 ?_
    refine g_iconst C dX8_pour_15 ?_
    obtain ⟨r5, μ6, hc7, hf⟩ := bn_some hf
    refine g_callVp (As := [vi 1]) (rest := []) C ⟨Nat.zero_le _, Nat.zero_le _⟩ dX8_pour_16 cw_X8_refuse m_2_74 m_2_76 m_0_0 in_0 (ec_0 _ _ _ _ _) rfl rfl (c_X8_refuse  hc7) rfl rfl (Nat.le_of_ble_eq_true rfl) ⟨Nat.le_trans (Nat.le_of_ble_eq_true rfl) hfr, Nat.le_trans (Nat.le_of_ble_eq_true rfl) hlc⟩ ?_
    obtain ⟨g8, hf⟩ := gd_some hf
    exact g_zret C rfl g8 dX8_pour_19 hf
  · rw [if_neg h4] at hf
    refine g_ild_n C 3 rfl rfl dX8_pour_7 ?_
    obtain ⟨r9, μ10, hc11, hf⟩ := bn_some hf
    refine g_callSp (As := [vi a3]) (rest := []) C ⟨Nat.zero_le _, Nat.zero_le _⟩ dX8_pour_8 cw_X8_isTray m_2_71 m_2_72 (c_X8_isTray  hc11) rfl rfl (Nat.le_of_ble_eq_true rfl) ⟨Nat.le_trans (Nat.le_of_ble_eq_true rfl) hfr, Nat.le_trans (Nat.le_of_ble_eq_true rfl) hlc⟩ ?_
    refine g_if_ne C 20 (by decide) dX8_pour_11 (fun h12 => ?_) (fun h12 => ?_)
    · rw [if_pos h12] at hf
      refine g_ald_n C 0 rfl rfl dX8_pour_14 ?_
      refine g_iconst C dX8_pour_15 ?_
      obtain ⟨r13, μ14, hc15, hf⟩ := bn_some hf
      refine g_callVp (As := [vi 1]) (rest := []) C ⟨Nat.zero_le _, Nat.zero_le _⟩ dX8_pour_16 cw_X8_refuse m_2_74 m_2_76 m_0_0 in_0 (ec_0 _ _ _ _ _) rfl rfl (c_X8_refuse  hc15) rfl rfl (Nat.le_of_ble_eq_true rfl) ⟨Nat.le_trans (Nat.le_of_ble_eq_true rfl) hfr, Nat.le_trans (Nat.le_of_ble_eq_true rfl) hlc⟩ ?_
      obtain ⟨g16, hf⟩ := gd_some hf
      exact g_zret C rfl g16 dX8_pour_19 hf
    · rw [if_neg h12] at hf
      refine g_ald_n C 0 rfl rfl dX8_pour_20 ?_
      refine g_get C dX8_pour_21 fl_X8_28 in_0 (ec_0 _ _ _ _ _) rfl ?_
      refine g_ild_n C 1 rfl rfl dX8_pour_24 ?_
      obtain ⟨g17, hf⟩ := gd_some hf
      refine g_aaldI C dX8_pour_25 in_2 (fun _ => ec_2 _ _ _ _ _) rfl g17 ?_
      refine g_ast (lo' := [(6, vr α 3 (ix a1)), (0, vr α 0 0), (1, vi a1), (2, vi a2), (3, vi a3), (4, vi a4), (5, vi a5)]) C (by decide) rfl dX8_pour_26 ?_
      refine g_ald_n C 1 rfl rfl dX8_pour_28 ?_
      refine g_get C dX8_pour_29 fl_X8_28 in_0 (ec_0 _ _ _ _ _) rfl ?_
      refine g_ild_n C 4 rfl rfl dX8_pour_32 ?_
      obtain ⟨g18, hf⟩ := gd_some hf
      refine g_aaldI C dX8_pour_33 in_2 (fun _ => ec_2 _ _ _ _ _) rfl g18 ?_
      refine g_ast (lo' := [(7, vr α 3 (ix a3)), (6, vr α 3 (ix a1)), (0, vr α 0 0), (1, vi a1), (2, vi a2), (3, vi a3), (4, vi a4), (5, vi a5)]) C (by decide) rfl dX8_pour_34 ?_
      refine g_ald C 1 rfl dX8_pour_36 ?_
      obtain ⟨r19, μ20, hc21, hf⟩ := bn_some hf
      refine g_callVp (As := []) (rest := []) C ⟨Nat.zero_le _, Nat.zero_le _⟩ dX8_pour_38 cw_X5_isMissing m_2_97 m_2_98 m_2_99 (in_3 (inb_ix g17)) (ec_3 _ _ _ _ _) rfl rfl (c_X5_isMissing (inb_ix g17) hc21) rfl rfl (Nat.le_of_ble_eq_true rfl) ⟨Nat.le_trans (Nat.le_of_ble_eq_true rfl) hfr, Nat.le_trans (Nat.le_of_ble_eq_true rfl) hlc⟩ ?_
      refine g_if_ne C 52 (by decide) dX8_pour_41 (fun h22 => ?_) (fun h22 => ?_)
      · rw [if_pos h22] at hf
        refine g_ald C 0 rfl dX8_pour_44 ?_
        obtain ⟨r23, μ24, hc25, hf⟩ := bn_some hf
        refine g_callVp (As := []) (rest := []) C ⟨Nat.zero_le _, Nat.zero_le _⟩ dX8_pour_46 cw_X5_isMissing m_2_97 m_2_98 m_2_99 (in_3 (inb_ix g18)) (ec_3 _ _ _ _ _) rfl rfl (c_X5_isMissing (inb_ix g18) hc25) rfl rfl (Nat.le_of_ble_eq_true rfl) ⟨Nat.le_trans (Nat.le_of_ble_eq_true rfl) hfr, Nat.le_trans (Nat.le_of_ble_eq_true rfl) hlc⟩ ?_
        refine g_if_eq C 58 (by decide) dX8_pour_49 (fun h26 => ?_) (fun h26 => ?_)
        · rw [if_pos h26] at hf
          refine g_ald C 1 rfl dX8_pour_58 ?_
          refine g_get C dX8_pour_60 fl_X8_93 (in_3 (inb_ix g17)) (ec_3 _ _ _ _ _) rfl ?_
          refine g_ald C 0 rfl dX8_pour_63 ?_
          refine g_get C dX8_pour_65 fl_X8_93 (in_3 (inb_ix g18)) (ec_3 _ _ _ _ _) rfl ?_
          refine g_ic_eq C 78 (by decide) dX8_pour_68 (fun h27 => ?_) (fun h27 => ?_)
          · rw [if_pos h27] at hf
            refine g_ild C 7 rfl dX8_pour_78 ?_
            refine g_if_ge C 90 (by decide) dX8_pour_80 (fun h28 => ?_) (fun h28 => ?_)
            · rw [if_pos h28] at hf
              refine g_ald C 1 rfl dX8_pour_90 ?_
              refine g_ild_n C 4 rfl rfl dX8_pour_92 ?_
              refine g_ild C 7 rfl dX8_pour_93 ?_
              obtain ⟨r29, μ30, hc31, hf⟩ := bn_some hf
              refine g_callVp (As := [vi a2, vi a5]) (rest := []) C ⟨Nat.zero_le _, Nat.zero_le _⟩ dX8_pour_95 cw_X5_hasRun m_2_130 m_2_131 m_2_132 (in_3 (inb_ix g17)) (ec_3 _ _ _ _ _) rfl rfl (c_X5_hasRun (inb_ix g17) hc31) rfl rfl (Nat.le_of_ble_eq_true rfl) ⟨Nat.le_trans (Nat.le_of_ble_eq_true rfl) hfr, Nat.le_trans (Nat.le_of_ble_eq_true rfl) hlc⟩ ?_
              refine g_if_eq C 113 (by decide) dX8_pour_98 (fun h32 => ?_) (fun h32 => ?_)
              · rw [if_pos h32] at hf
                refine g_ald_n C 2 rfl rfl dX8_pour_113 ?_
                refine g_iconst C dX8_pour_114 ?_
                obtain ⟨r33, μ34, hc35, hf⟩ := bn_some hf
                refine g_callVp (As := [vi 4]) (rest := []) C ⟨Nat.zero_le _, Nat.zero_le _⟩ dX8_pour_115 cw_X8_refuse m_2_74 m_2_76 m_0_0 in_0 (ec_0 _ _ _ _ _) rfl rfl (c_X8_refuse  hc35) rfl rfl (Nat.le_of_ble_eq_true rfl) ⟨Nat.le_trans (Nat.le_of_ble_eq_true rfl) hfr, Nat.le_trans (Nat.le_of_ble_eq_true rfl) hlc⟩ ?_
                obtain ⟨g36, hf⟩ := gd_some hf
                exact g_zret C rfl g36 dX8_pour_118 hf
              · rw [if_neg h32] at hf
                refine g_ald C 0 rfl dX8_pour_101 ?_
                refine g_ild C 6 rfl dX8_pour_103 ?_
                refine g_ild C 7 rfl dX8_pour_105 ?_
                obtain ⟨r37, μ38, hc39, hf⟩ := bn_some hf
                refine g_callVp (As := [vi a4, vi a5]) (rest := []) C ⟨Nat.zero_le _, Nat.zero_le _⟩ dX8_pour_107 cw_X5_hasRun m_2_130 m_2_131 m_2_132 (in_3 (inb_ix g18)) (ec_3 _ _ _ _ _) rfl rfl (c_X5_hasRun (inb_ix g18) hc39) rfl rfl (Nat.le_of_ble_eq_true rfl) ⟨Nat.le_trans (Nat.le_of_ble_eq_true rfl) hfr, Nat.le_trans (Nat.le_of_ble_eq_true rfl) hlc⟩ ?_
                refine g_if_ne C 119 (by decide) dX8_pour_110 (fun h40 => ?_) (fun h40 => ?_)
                · rw [if_pos h40] at hf
                  refine g_ald_n C 2 rfl rfl dX8_pour_113 ?_
                  refine g_iconst C dX8_pour_114 ?_
                  obtain ⟨r41, μ42, hc43, hf⟩ := bn_some hf
                  refine g_callVp (As := [vi 4]) (rest := []) C ⟨Nat.zero_le _, Nat.zero_le _⟩ dX8_pour_115 cw_X8_refuse m_2_74 m_2_76 m_0_0 in_0 (ec_0 _ _ _ _ _) rfl rfl (c_X8_refuse  hc43) rfl rfl (Nat.le_of_ble_eq_true rfl) ⟨Nat.le_trans (Nat.le_of_ble_eq_true rfl) hfr, Nat.le_trans (Nat.le_of_ble_eq_true rfl) hlc⟩ ?_
                  obtain ⟨g44, hf⟩ := gd_some hf
                  exact g_zret C rfl g44 dX8_pour_118 hf
                · rw [if_neg h40] at hf
                  refine g_ald C 1 rfl dX8_pour_119 ?_
                  refine g_get C dX8_pour_121 fl_X8_100 (in_3 (inb_ix g17)) (ec_3 _ _ _ _ _) rfl ?_
                  refine g_ild_n C 4 rfl rfl dX8_pour_124 ?_
                  refine g_ald C 0 rfl dX8_pour_125 ?_
                  refine g_get C dX8_pour_127 fl_X8_100 (in_3 (inb_ix g18)) (ec_3 _ _ _ _ _) rfl ?_
                  refine g_ild C 6 rfl dX8_pour_130 ?_
                  refine g_ild C 7 rfl dX8_pour_132 ?_
                  obtain ⟨g45, hf⟩ := gd_some hf
                  refine g_copy C m_2_134 m_2_136 m_2_135 m_1_12 (Nat.le_trans (by decide) hfr) (Nat.le_trans (Nat.le_of_ble_eq_true rfl) hlc) dX8_pour_134 (in_4 (inb_ix g17)) (in_4 (inb_ix g18)) (fun _ => ec_4 _ _ _ _ _) (fun _ => ec_4 _ _ _ _ _) (by decide) g45 ?_
                  refine g_ald_n C 2 rfl rfl dX8_pour_137 ?_
                  obtain ⟨r46, μ47, hc48, hf⟩ := bn_some hf
                  refine g_callVp (As := []) (rest := []) C ⟨Nat.zero_le _, Nat.zero_le _⟩ dX8_pour_138 cw_X8_well m_2_85 m_2_87 m_0_1 in_0 (ec_0 _ _ _ _ _) rfl rfl (c_X8_well  hc48) rfl rfl (Nat.le_of_ble_eq_true rfl) ⟨Nat.le_trans (Nat.le_of_ble_eq_true rfl) hfr, Nat.le_trans (Nat.le_of_ble_eq_true rfl) hlc⟩ ?_
                  obtain ⟨g49, hf⟩ := gd_some hf
                  exact g_zret C rfl g49 dX8_pour_141 hf
            · rw [if_neg h28] at hf
              refine g_ald_n C 2 rfl rfl dX8_pour_83 ?_
              refine g_bipush C rfl dX8_pour_84 ?_
              obtain ⟨r50, μ51, hc52, hf⟩ := bn_some hf
              refine g_callVp (As := [vi 6]) (rest := []) C ⟨Nat.zero_le _, Nat.zero_le _⟩ dX8_pour_86 cw_X8_refuse m_2_74 m_2_76 m_0_0 in_0 (ec_0 _ _ _ _ _) rfl rfl (c_X8_refuse  hc52) rfl rfl (Nat.le_of_ble_eq_true rfl) ⟨Nat.le_trans (Nat.le_of_ble_eq_true rfl) hfr, Nat.le_trans (Nat.le_of_ble_eq_true rfl) hlc⟩ ?_
              obtain ⟨g53, hf⟩ := gd_some hf
              exact g_zret C rfl g53 dX8_pour_89 hf
          · rw [if_neg h27] at hf
            refine g_ald_n C 2 rfl rfl dX8_pour_71 ?_
            refine g_bipush C rfl dX8_pour_72 ?_
            obtain ⟨r54, μ55, hc56, hf⟩ := bn_some hf
            refine g_callVp (As := [vi 11]) (rest := []) C ⟨Nat.zero_le _, Nat.zero_le _⟩ dX8_pour_74 cw_X8_refuse m_2_74 m_2_76 m_0_0 in_0 (ec_0 _ _ _ _ _) rfl rfl (c_X8_refuse  hc56) rfl rfl (Nat.le_of_ble_eq_true rfl) ⟨Nat.le_trans (Nat.le_of_ble_eq_true rfl) hfr, Nat.le_trans (Nat.le_of_ble_eq_true rfl) hlc⟩ ?_
            obtain ⟨g57, hf⟩ := gd_some hf
            exact g_zret C rfl g57 dX8_pour_77 hf
        · rw [if_neg h26] at hf
          refine g_ald_n C 2 rfl rfl dX8_pour_52 ?_
          refine g_iconst C dX8_pour_53 ?_
          obtain ⟨r58, μ59, hc60, hf⟩ := bn_some hf
          refine g_callVp (As := [vi 3]) (rest := []) C ⟨Nat.zero_le _, Nat.zero_le _⟩ dX8_pour_54 cw_X8_refuse m_2_74 m_2_76 m_0_0 in_0 (ec_0 _ _ _ _ _) rfl rfl (c_X8_refuse  hc60) rfl rfl (Nat.le_of_ble_eq_true rfl) ⟨Nat.le_trans (Nat.le_of_ble_eq_true rfl) hfr, Nat.le_trans (Nat.le_of_ble_eq_true rfl) hlc⟩ ?_
          obtain ⟨g61, hf⟩ := gd_some hf
          exact g_zret C rfl g61 dX8_pour_57 hf
      · rw [if_neg h22] at hf
        refine g_ald_n C 2 rfl rfl dX8_pour_52 ?_
        refine g_iconst C dX8_pour_53 ?_
        obtain ⟨r62, μ63, hc64, hf⟩ := bn_some hf
        refine g_callVp (As := [vi 3]) (rest := []) C ⟨Nat.zero_le _, Nat.zero_le _⟩ dX8_pour_54 cw_X8_refuse m_2_74 m_2_76 m_0_0 in_0 (ec_0 _ _ _ _ _) rfl rfl (c_X8_refuse  hc64) rfl rfl (Nat.le_of_ble_eq_true rfl) ⟨Nat.le_trans (Nat.le_of_ble_eq_true rfl) hfr, Nat.le_trans (Nat.le_of_ble_eq_true rfl) hlc⟩ ?_
        obtain ⟨g65, hf⟩ := gd_some hf
        exact g_zret C rfl g65 dX8_pour_57 hf
set_option maxHeartbeats 4000000 in
set_option maxRecDepth 100000 in
theorem c_X8_pour {l : Launch} {D : va_G} {Y : Nat → ClassId} {α : Adr} {a1 : Int} {a2 : Int} {a3 : Int} {a4 : Int} {a5 : Int} {μ : Mem} {r : Int} {μ' : Mem}  (hf : f_X8_pour a1 a2 a3 a4 a5 μ = some (r, μ')) : Ctr l D Y LBx yX8_pour cX8_pour 8 (some .boolean) 1 100 0 0 [vr α 0 0, vi a1, vi a2, vi a3, vi a4, vi a5] α μ (some (vi r)) (fun a => a = α) μ' := Ctr_of pn_X8 rfl rfl (Nat.le_of_ble_eq_true rfl) LBx_nd (fun p e s m below meth c sz C => b_X8_pour C (Nat.le_refl _) (Nat.le_refl _)  hf)
end

/-! EndTeller.arePartHands -/
def f_X8_arePartHands (a0 : Int) (μ : Mem) : Option (Int × Mem) := (if w32 a0 < 0 then some (0, μ) else (if w32 9 < w32 a0 then some (0, μ) else some (1, μ)))
section
variable {p : Program} {l : Launch} {e : Env} {R : Room} {s : State} {m : MethodId} {args : Array Value} {below : List Frame} {meth : Method} {c : Code} {D : va_G} {Y : Nat → ClassId} {α : Adr} {sz : Nat} {r : Int} {μ' : Mem}
set_option maxHeartbeats 4000000 in
set_option maxRecDepth 100000 in
theorem b_X8_arePartHands {a0 : Int} {μ : Mem} (C : CX p s m args meth c cX8_arePartHands 1 RX8 (some .boolean) D Y LBx (Ar LBx α sz)) (hfr : 0 ≤ R.frames) (hlc : 0 ≤ R.locals)  (hf : f_X8_arePartHands a0 μ = some (r, μ')) : GG D Y LBx (Ar LBx α sz) p l e R s m args below meth c 1 (MQ below (Qcx D Y LBx α sz (some (vi r)) (fun a => a = α) μ') args s 0 0 (Ar LBx α sz)) α 0 0 [(0, vi a0)] [] μ 0 := by
  unfold f_X8_arePartHands at hf
  refine g_ild_n C 0 rfl rfl dX8_arePartHands_0 ?_
  refine g_if_lt C 14 (by decide) dX8_arePartHands_1 (fun h1 => ?_) (fun h1 => ?_)
  · rw [if_pos h1] at hf
    refine g_iconst C dX8_arePartHands_14 ?_
    exact g_zret C rfl (Or.inl rfl) dX8_arePartHands_15 hf
  · rw [if_neg h1] at hf
    refine g_ild_n C 0 rfl rfl dX8_arePartHands_4 ?_
    refine g_bipush C rfl dX8_arePartHands_5 ?_
    refine g_ic_gt C 14 (by decide) dX8_arePartHands_7 (fun h2 => ?_) (fun h2 => ?_)
    · rw [if_pos h2] at hf
      refine g_iconst C dX8_arePartHands_14 ?_
      exact g_zret C rfl (Or.inl rfl) dX8_arePartHands_15 hf
    · rw [if_neg h2] at hf
      refine g_iconst C dX8_arePartHands_10 ?_
      refine g_goto C 15 (by decide) dX8_arePartHands_11 ?_
      exact g_zret C rfl (Or.inr rfl) dX8_arePartHands_15 hf
set_option maxHeartbeats 4000000 in
set_option maxRecDepth 100000 in
theorem c_X8_arePartHands {l : Launch} {D : va_G} {Y : Nat → ClassId} {α : Adr} {a0 : Int} {μ : Mem} {r : Int} {μ' : Mem}  (hf : f_X8_arePartHands a0 μ = some (r, μ')) : Ctr l D Y LBx yX8_arePartHands cX8_arePartHands 1 (some .boolean) 0 0 0 0 [vi a0] α μ (some (vi r)) (fun a => a = α) μ' := Ctr_of pn_X8 rfl rfl (Nat.le_of_ble_eq_true rfl) LBx_nd (fun p e s m below meth c sz C => b_X8_arePartHands C (Nat.le_refl _) (Nat.le_refl _)  hf)
end

/-! EndTeller.changed -/
def f_X8_changed  (μ : Mem) : Option (Int × Mem) := bn (f_X8_well  (st μ 7 0 5 1)) (fun r1 μ2 => gd (bb r1) (some (r1, μ2)))
section
variable {p : Program} {l : Launch} {e : Env} {R : Room} {s : State} {m : MethodId} {args : Array Value} {below : List Frame} {meth : Method} {c : Code} {D : va_G} {Y : Nat → ClassId} {α : Adr} {sz : Nat} {r : Int} {μ' : Mem}
set_option maxHeartbeats 4000000 in
set_option maxRecDepth 100000 in
theorem b_X8_changed  {μ : Mem} (C : CX p s m args meth c cX8_changed 1 RX8 (some .boolean) D Y LBx (Ar LBx α sz)) (hfr : 1 ≤ R.frames) (hlc : 20 ≤ R.locals)  (hf : f_X8_changed μ = some (r, μ')) : GG D Y LBx (Ar LBx α sz) p l e R s m args below meth c 1 (MQ below (Qcx D Y LBx α sz (some (vi r)) (fun a => a = α) μ') args s 0 0 (Ar LBx α sz)) α 0 0 [(0, vr α 0 0)] [] μ 0 := by
  unfold f_X8_changed at hf
  refine g_ald_n C 0 rfl rfl dX8_changed_0 ?_
  refine g_get C dX8_changed_1 fl_X8_42 in_0 (ec_0 _ _ _ _ _) rfl ?_
  refine g_iconst C dX8_changed_4 ?_
  refine g_putz C (Or.inr rfl) dX8_changed_5 fl_X8_282 in_7 (ec_7 _ _ _ _ _) (Nat.le_of_ble_eq_true rfl) rfl (by decide) ?_
  refine g_ald_n C 0 rfl rfl dX8_changed_8 ?_
  obtain ⟨r1, μ2, hc3, hf⟩ := bn_some hf
  refine g_callVp (As := []) (rest := []) C ⟨Nat.zero_le _, Nat.zero_le _⟩ dX8_changed_9 cw_X8_well m_2_85 m_2_87 m_0_1 in_0 (ec_0 _ _ _ _ _) rfl rfl (c_X8_well  hc3) rfl rfl (Nat.le_of_ble_eq_true rfl) ⟨Nat.le_trans (Nat.le_of_ble_eq_true rfl) hfr, Nat.le_trans (Nat.le_of_ble_eq_true rfl) hlc⟩ ?_
  obtain ⟨g4, hf⟩ := gd_some hf
  exact g_zret C rfl g4 dX8_changed_12 hf
set_option maxHeartbeats 4000000 in
set_option maxRecDepth 100000 in
theorem c_X8_changed {l : Launch} {D : va_G} {Y : Nat → ClassId} {α : Adr}  {μ : Mem} {r : Int} {μ' : Mem}  (hf : f_X8_changed μ = some (r, μ')) : Ctr l D Y LBx yX8_changed cX8_changed 1 (some .boolean) 1 20 0 0 [vr α 0 0] α μ (some (vi r)) (fun a => a = α) μ' := Ctr_of pn_X8 rfl rfl (Nat.le_of_ble_eq_true rfl) LBx_nd (fun p e s m below meth c sz C => b_X8_changed C (Nat.le_refl _) (Nat.le_refl _)  hf)
end

/-! EndTeller.addPart -/
def f_X8_addPart (a1 : Int) (μ : Mem) : Option (Int × Mem) := bn (f_X3_makeLess  μ) (fun r1 μ2 => (if w32 10 ≤ w32 (μ2 15 0 3) then bn (f_X8_refuseNumber 7 μ2) (fun r5 μ6 => some (r5, μ6)) else bn (f_X3_fits  μ2) (fun r8 μ9 => (if w32 r8 = 0 then bn (f_X8_refuseNumber 7 μ9) (fun r12 μ13 => some (r12, μ13)) else bn (f_X7_addPart a1 μ9) (fun r15 μ16 => bn (f_X8_changed  μ16) (fun r18 μ19 => some (((μ19 15 0 3) - 1), μ19)))))))
section
variable {p : Program} {l : Launch} {e : Env} {R : Room} {s : State} {m : MethodId} {args : Array Value} {below : List Frame} {meth : Method} {c : Code} {D : va_G} {Y : Nat → ClassId} {α : Adr} {sz : Nat} {r : Int} {μ' : Mem}
set_option maxHeartbeats 4000000 in
set_option maxRecDepth 100000 in
theorem b_X8_addPart {a1 : Int} {μ : Mem} (C : CX p s m args meth c cX8_addPart 2 RX8 (some .int) D Y LBx (Ar LBx α sz)) (hfr : 3 ≤ R.frames) (hlc : 68 ≤ R.locals)  (hf : f_X8_addPart a1 μ = some (r, μ')) : GG D Y LBx (Ar LBx α sz) p l e R s m args below meth c 2 (MQ below (Qcx D Y LBx α sz (some (vi r)) (fun a => a = α) μ') args s 0 0 (Ar LBx α sz)) α 0 0 [(0, vr α 0 0), (1, vi a1)] [] μ 0 := by
  unfold f_X8_addPart at hf
  refine g_ald_n C 0 rfl rfl dX8_addPart_0 ?_
  refine g_get C dX8_addPart_1 fl_X8_35 in_0 (ec_0 _ _ _ _ _) rfl ?_
  obtain ⟨r1, μ2, hc3, hf⟩ := bn_some hf
  refine g_callVp (As := []) (rest := []) C ⟨Nat.zero_le _, Nat.zero_le _⟩ dX8_addPart_4 cw_X3_makeLess m_2_165 m_2_166 m_2_167 in_5 (ec_5 _ _ _ _ _) rfl rfl (c_X3_makeLess  hc3) rfl rfl (Nat.le_of_ble_eq_true rfl) ⟨Nat.le_trans (Nat.le_of_ble_eq_true rfl) hfr, Nat.le_trans (Nat.le_of_ble_eq_true rfl) hlc⟩ ?_
  refine g_ald_n C 0 rfl rfl dX8_addPart_7 ?_
  refine g_get C dX8_addPart_8 fl_X8_50 in_0 (ec_0 _ _ _ _ _) rfl ?_
  refine g_get C dX8_addPart_11 fl_X8_241 in_15 (ec_15 _ _ _ _ _) rfl ?_
  refine g_bipush C rfl dX8_addPart_14 ?_
  refine g_ic_ge C 29 (by decide) dX8_addPart_16 (fun h4 => ?_) (fun h4 => ?_)
  · rw [if_pos h4] at hf
    refine g_ald_n C 0 rfl rfl dX8_addPart_29 ?_
    refine g_bipush C rfl dX8_addPart_30 ?_
    obtain ⟨r5, μ6, hc7, hf⟩ := bn_some hf
    refine g_callVp (As := [vi 7]) (rest := []) C ⟨Nat.zero_le _, Nat.zero_le _⟩ dX8_addPart_32 cw_X8_refuseNumber m_2_118 m_2_120 m_0_3 in_0 (ec_0 _ _ _ _ _) rfl rfl (c_X8_refuseNumber  hc7) rfl rfl (Nat.le_of_ble_eq_true rfl) ⟨Nat.le_trans (Nat.le_of_ble_eq_true rfl) hfr, Nat.le_trans (Nat.le_of_ble_eq_true rfl) hlc⟩ ?_
    exact g_iret C rfl dX8_addPart_35 hf
  · rw [if_neg h4] at hf
    refine g_ald_n C 0 rfl rfl dX8_addPart_19 ?_
    refine g_get C dX8_addPart_20 fl_X8_35 in_0 (ec_0 _ _ _ _ _) rfl ?_
    obtain ⟨r8, μ9, hc10, hf⟩ := bn_some hf
    refine g_callVp (As := []) (rest := []) C ⟨Nat.zero_le _, Nat.zero_le _⟩ dX8_addPart_23 cw_X3_fits m_2_172 m_2_173 m_2_174 in_5 (ec_5 _ _ _ _ _) rfl rfl (c_X3_fits  hc10) rfl rfl (Nat.le_of_ble_eq_true rfl) ⟨Nat.le_trans (Nat.le_of_ble_eq_true rfl) hfr, Nat.le_trans (Nat.le_of_ble_eq_true rfl) hlc⟩ ?_
    refine g_if_ne C 36 (by decide) dX8_addPart_26 (fun h11 => ?_) (fun h11 => ?_)
    · rw [if_pos h11] at hf
      refine g_ald_n C 0 rfl rfl dX8_addPart_29 ?_
      refine g_bipush C rfl dX8_addPart_30 ?_
      obtain ⟨r12, μ13, hc14, hf⟩ := bn_some hf
      refine g_callVp (As := [vi 7]) (rest := []) C ⟨Nat.zero_le _, Nat.zero_le _⟩ dX8_addPart_32 cw_X8_refuseNumber m_2_118 m_2_120 m_0_3 in_0 (ec_0 _ _ _ _ _) rfl rfl (c_X8_refuseNumber  hc14) rfl rfl (Nat.le_of_ble_eq_true rfl) ⟨Nat.le_trans (Nat.le_of_ble_eq_true rfl) hfr, Nat.le_trans (Nat.le_of_ble_eq_true rfl) hlc⟩ ?_
      exact g_iret C rfl dX8_addPart_35 hf
    · rw [if_neg h11] at hf
      refine g_ald_n C 0 rfl rfl dX8_addPart_36 ?_
      refine g_get C dX8_addPart_37 fl_X8_50 in_0 (ec_0 _ _ _ _ _) rfl ?_
      refine g_ald_n C 0 rfl rfl dX8_addPart_40 ?_
      refine g_get C dX8_addPart_41 fl_X8_35 in_0 (ec_0 _ _ _ _ _) rfl ?_
      refine g_ild_n C 1 rfl rfl dX8_addPart_44 ?_
      obtain ⟨r15, μ16, hc17, hf⟩ := bn_some hf
      refine g_callVp (As := [vr α 5 0, vi a1]) (rest := []) C ⟨Nat.zero_le _, Nat.zero_le _⟩ dX8_addPart_45 cw_X7_addPart m_2_177 m_2_178 m_2_179 in_15 (ec_15 _ _ _ _ _) rfl rfl (c_X7_addPart  hc17) rfl rfl (Nat.le_of_ble_eq_true rfl) ⟨Nat.le_trans (Nat.le_of_ble_eq_true rfl) hfr, Nat.le_trans (Nat.le_of_ble_eq_true rfl) hlc⟩ ?_
      refine g_ald_n C 0 rfl rfl dX8_addPart_48 ?_
      obtain ⟨r18, μ19, hc20, hf⟩ := bn_some hf
      refine g_callVp (As := []) (rest := []) C ⟨Nat.zero_le _, Nat.zero_le _⟩ dX8_addPart_49 cw_X8_changed m_2_188 m_2_190 m_0_5 in_0 (ec_0 _ _ _ _ _) rfl rfl (c_X8_changed  hc20) rfl rfl (Nat.le_of_ble_eq_true rfl) ⟨Nat.le_trans (Nat.le_of_ble_eq_true rfl) hfr, Nat.le_trans (Nat.le_of_ble_eq_true rfl) hlc⟩ ?_
      refine g_pop C rfl dX8_addPart_52 ?_
      refine g_ald_n C 0 rfl rfl dX8_addPart_53 ?_
      refine g_get C dX8_addPart_54 fl_X8_50 in_0 (ec_0 _ _ _ _ _) rfl ?_
      refine g_get C dX8_addPart_57 fl_X8_241 in_15 (ec_15 _ _ _ _ _) rfl ?_
      refine g_iconst C dX8_addPart_60 ?_
      refine g_isub C dX8_addPart_61 ?_
      exact g_iret C rfl dX8_addPart_62 hf
set_option maxHeartbeats 4000000 in
set_option maxRecDepth 100000 in
theorem c_X8_addPart {l : Launch} {D : va_G} {Y : Nat → ClassId} {α : Adr} {a1 : Int} {μ : Mem} {r : Int} {μ' : Mem}  (hf : f_X8_addPart a1 μ = some (r, μ')) : Ctr l D Y LBx yX8_addPart cX8_addPart 2 (some .int) 3 68 0 0 [vr α 0 0, vi a1] α μ (some (vi r)) (fun a => a = α) μ' := Ctr_of pn_X8 rfl rfl (Nat.le_of_ble_eq_true rfl) LBx_nd (fun p e s m below meth c sz C => b_X8_addPart C (Nat.le_refl _) (Nat.le_refl _)  hf)
end

/-! EndTeller.part -/
def f_X8_part_L102 (x2 : Int) (x3 : Int) (q4 : Nat) : Nat → Int → Mem → Option (Int × Mem)
  | 0, _, _ => none
  | n + 1, x5, μ => (if w32 x2 ≤ w32 x5 then bn (f_X8_addPart x3 μ) (fun r46 μ47 => some (r46, μ47)) else bn (f_X5_numberAt q4 (2 * x5) μ) (fun r49 μ50 => bn (f_X5_numberAt q4 ((2 * x5) + 1) μ50) (fun r52 μ53 => bn (f_X3_add r49 r52 μ53) (fun r55 μ56 => f_X8_part_L102 x2 x3 q4 n (x5 + 1) μ56))))
def f_X8_part (a1 : Int) (a2 : Int) (a3 : Int) (μ : Mem) : Option (Int × Mem) := bn (f_X8_isTray a1 μ) (fun r1 μ2 => (if w32 r1 = 0 then bn (f_X8_refuseNumber 1 μ2) (fun r5 μ6 => some (r5, μ6)) else gd (inb a1 4) (bn (f_X5_isMissing (ix a1) μ2) (fun r9 μ10 => (if w32 r9 = 0 then (if w32 a2 < w32 1 then bn (f_X8_refuseNumber 5 μ10) (fun r14 μ15 => some (r14, μ15)) else (if w32 8 < w32 a2 then bn (f_X8_refuseNumber 5 μ10) (fun r18 μ19 => some (r18, μ19)) else bn (f_X8_arePartHands a3 μ10) (fun r21 μ22 => (if w32 r21 = 0 then bn (f_X8_refuseNumber 5 μ22) (fun r25 μ26 => some (r25, μ26)) else bn (f_X5_hasRun (ix a1) 0 (2 * a2) μ22) (fun r28 μ29 => (if w32 r28 = 0 then bn (f_X8_refuseNumber 4 μ29) (fun r32 μ33 => some (r32, μ33)) else bn (f_X5_holdsRows (ix a1) a2 μ29) (fun r35 μ36 => (if w32 r35 = 0 then bn (f_X8_refuseNumber 5 μ36) (fun r39 μ40 => some (r39, μ40)) else bn (f_X3_empty  μ36) (fun r42 μ43 => f_X8_part_L102 a2 a3 (ix a1) FU 0 μ43))))))))) else bn (f_X8_refuseNumber 3 μ10) (fun r58 μ59 => some (r58, μ59)))))))
section
variable {p : Program} {l : Launch} {e : Env} {R : Room} {s : State} {m : MethodId} {args : Array Value} {below : List Frame} {meth : Method} {c : Code} {D : va_G} {Y : Nat → ClassId} {α : Adr} {sz : Nat} {r : Int} {μ' : Mem}
set_option maxHeartbeats 4000000 in
set_option maxRecDepth 100000 in
theorem c_X8_part_l102 {x2 : Int} {x3 : Int} {q4 : Nat} (C : CX p s m args meth c cX8_part 6 RX8 (some .int) D Y LBx (Ar LBx α sz)) (hfr : 4 ≤ R.frames) (hlc : 89 ≤ R.locals) (hq4 : q4 < 4)   : ∀ (n : Nat) (x5 : Int) (μ : Mem), f_X8_part_L102 x2 x3 q4 n x5 μ = some (r, μ') → GG D Y LBx (Ar LBx α sz) p l e R s m args below meth c 6 (MQ below (Qcx D Y LBx α sz (some (vi r)) (fun a => a = α) μ') args s 0 0 (Ar LBx α sz)) α 0 0 [(0, vr α 0 0), (2, vi x2), (3, vi x3), (4, vr α 3 q4), (5, vi x5)] [] μ 102 := by
  intro n
  induction n with
  | zero =>
    intro x5 μ hf
    exact nomatch (show (none : Option (Int × Mem)) = some _ from hf)
  | succ n ih =>
    intro x5 μ hf
    rw [f_X8_part_L102.eq_2] at hf
    refine g_ild C 4 rfl dX8_part_102 ?_
    refine g_ild_n C 1 rfl rfl dX8_part_104 ?_
    refine g_ic_ge C 142 (by decide) dX8_part_105 (fun h45 => ?_) (fun h45 => ?_)
    · rw [if_pos h45] at hf
      refine g_ald_n C 0 rfl rfl dX8_part_142 ?_
      refine g_ild_n C 2 rfl rfl dX8_part_143 ?_
      obtain ⟨r46, μ47, hc48, hf⟩ := bn_some hf
      refine g_callVp (As := [vi x3]) (rest := []) C ⟨Nat.zero_le _, Nat.zero_le _⟩ dX8_part_144 cw_X8_addPart m_2_161 m_2_163 m_0_4 in_0 (ec_0 _ _ _ _ _) rfl rfl (c_X8_addPart  hc48) rfl rfl (Nat.le_of_ble_eq_true rfl) ⟨Nat.le_trans (Nat.le_of_ble_eq_true rfl) hfr, Nat.le_trans (Nat.le_of_ble_eq_true rfl) hlc⟩ ?_
      exact g_iret C rfl dX8_part_147 hf
    · rw [if_neg h45] at hf
      refine g_ald_n C 0 rfl rfl dX8_part_108 ?_
      refine g_get C dX8_part_109 fl_X8_35 in_0 (ec_0 _ _ _ _ _) rfl ?_
      refine g_ald C 3 rfl dX8_part_112 ?_
      refine g_iconst C dX8_part_114 ?_
      refine g_ild C 4 rfl dX8_part_115 ?_
      refine g_imul C dX8_part_117 ?_
      obtain ⟨r49, μ50, hc51, hf⟩ := bn_some hf
      refine g_callVp (As := [vi (2 * x5)]) (rest := [vr α 5 0]) C ⟨Nat.zero_le _, Nat.zero_le _⟩ dX8_part_118 cw_X5_numberAt m_2_122 m_2_123 m_2_124 (in_3 hq4) (ec_3 _ _ _ _ _) rfl rfl (c_X5_numberAt hq4 hc51) rfl rfl (Nat.le_of_ble_eq_true rfl) ⟨Nat.le_trans (Nat.le_of_ble_eq_true rfl) hfr, Nat.le_trans (Nat.le_of_ble_eq_true rfl) hlc⟩ ?_
      refine g_l2i C dX8_part_121 ?_
      refine g_ald C 3 rfl dX8_part_122 ?_
      refine g_iconst C dX8_part_124 ?_
      refine g_ild C 4 rfl dX8_part_125 ?_
      refine g_imul C dX8_part_127 ?_
      refine g_iconst C dX8_part_128 ?_
      refine g_iadd C dX8_part_129 ?_
      obtain ⟨r52, μ53, hc54, hf⟩ := bn_some hf
      refine g_callVp (As := [vi ((2 * x5) + 1)]) (rest := [vi r49, vr α 5 0]) C ⟨Nat.zero_le _, Nat.zero_le _⟩ dX8_part_130 cw_X5_numberAt m_2_122 m_2_123 m_2_124 (in_3 hq4) (ec_3 _ _ _ _ _) rfl rfl (c_X5_numberAt hq4 hc54) rfl rfl (Nat.le_of_ble_eq_true rfl) ⟨Nat.le_trans (Nat.le_of_ble_eq_true rfl) hfr, Nat.le_trans (Nat.le_of_ble_eq_true rfl) hlc⟩ ?_
      obtain ⟨r55, μ56, hc57, hf⟩ := bn_some hf
      refine g_callVp (As := [vi r49, vl r52]) (rest := []) C ⟨Nat.zero_le _, Nat.zero_le _⟩ dX8_part_133 cw_X3_add m_2_157 m_2_158 m_2_159 in_5 (ec_5 _ _ _ _ _) rfl rfl (c_X3_add  hc57) rfl rfl (Nat.le_of_ble_eq_true rfl) ⟨Nat.le_trans (Nat.le_of_ble_eq_true rfl) hfr, Nat.le_trans (Nat.le_of_ble_eq_true rfl) hlc⟩ ?_
      refine g_iinc (lo' := [(5, vi (x5 + 1)), (0, vr α 0 0), (2, vi x2), (3, vi x3), (4, vr α 3 q4)]) C 4 rfl (by decide) rfl dX8_part_136 ?_
      refine g_goto C 102 (by decide) dX8_part_139 ?_
      exact g_sub C [1, 2, 3, 4, 0] rfl (ih _ _ hf)
set_option maxHeartbeats 4000000 in
set_option maxRecDepth 100000 in
theorem b_X8_part {a1 : Int} {a2 : Int} {a3 : Int} {μ : Mem} (C : CX p s m args meth c cX8_part 6 RX8 (some .int) D Y LBx (Ar LBx α sz)) (hfr : 4 ≤ R.frames) (hlc : 89 ≤ R.locals)  (hf : f_X8_part a1 a2 a3 μ = some (r, μ')) : GG D Y LBx (Ar LBx α sz) p l e R s m args below meth c 6 (MQ below (Qcx D Y LBx α sz (some (vi r)) (fun a => a = α) μ') args s 0 0 (Ar LBx α sz)) α 0 0 [(0, vr α 0 0), (1, vi a1), (2, vi a2), (3, vi a3)] [] μ 0 := by
  unfold f_X8_part at hf
  refine g_ild_n C 1 rfl rfl dX8_part_0 ?_
  obtain ⟨r1, μ2, hc3, hf⟩ := bn_some hf
  refine g_callSp (As := [vi a1]) (rest := []) C ⟨Nat.zero_le _, Nat.zero_le _⟩ dX8_part_1 cw_X8_isTray m_2_71 m_2_72 (c_X8_isTray  hc3) rfl rfl (Nat.le_of_ble_eq_true rfl) ⟨Nat.le_trans (Nat.le_of_ble_eq_true rfl) hfr, Nat.le_trans (Nat.le_of_ble_eq_true rfl) hlc⟩ ?_
  refine g_if_ne C 13 (by decide) dX8_part_4 (fun h4 => ?_) (fun h4 => ?_)
  · rw [if_pos h4] at hf
    refine g_ald_n C 0 rfl rfl dX8_part_7 ?_
    refine g_iconst C dX8_part_8 ?_
    obtain ⟨r5, μ6, hc7, hf⟩ := bn_some hf
    refine g_callVp (As := [vi 1]) (rest := []) C ⟨Nat.zero_le _, Nat.zero_le _⟩ dX8_part_9 cw_X8_refuseNumber m_2_118 m_2_120 m_0_3 in_0 (ec_0 _ _ _ _ _) rfl rfl (c_X8_refuseNumber  hc7) rfl rfl (Nat.le_of_ble_eq_true rfl) ⟨Nat.le_trans (Nat.le_of_ble_eq_true rfl) hfr, Nat.le_trans (Nat.le_of_ble_eq_true rfl) hlc⟩ ?_
    exact g_iret C rfl dX8_part_12 hf
  · rw [if_neg h4] at hf
    refine g_ald_n C 0 rfl rfl dX8_part_13 ?_
    refine g_get C dX8_part_14 fl_X8_28 in_0 (ec_0 _ _ _ _ _) rfl ?_
    refine g_ild_n C 1 rfl rfl dX8_part_17 ?_
    obtain ⟨g8, hf⟩ := gd_some hf
    refine g_aaldI C dX8_part_18 in_2 (fun _ => ec_2 _ _ _ _ _) rfl g8 ?_
    refine g_ast (lo' := [(4, vr α 3 (ix a1)), (0, vr α 0 0), (1, vi a1), (2, vi a2), (3, vi a3)]) C (by decide) rfl dX8_part_19 ?_
    refine g_ald C 0 rfl dX8_part_21 ?_
    obtain ⟨r9, μ10, hc11, hf⟩ := bn_some hf
    refine g_callVp (As := []) (rest := []) C ⟨Nat.zero_le _, Nat.zero_le _⟩ dX8_part_23 cw_X5_isMissing m_2_97 m_2_98 m_2_99 (in_3 (inb_ix g8)) (ec_3 _ _ _ _ _) rfl rfl (c_X5_isMissing (inb_ix g8) hc11) rfl rfl (Nat.le_of_ble_eq_true rfl) ⟨Nat.le_trans (Nat.le_of_ble_eq_true rfl) hfr, Nat.le_trans (Nat.le_of_ble_eq_true rfl) hlc⟩ ?_
    refine g_if_eq C 35 (by decide) dX8_part_26 (fun h12 => ?_) (fun h12 => ?_)
    · rw [if_pos h12] at hf
      refine g_ild_n C 3 rfl rfl dX8_part_35 ?_
      refine g_iconst C dX8_part_36 ?_
      refine g_ic_lt C 53 (by decide) dX8_part_37 (fun h13 => ?_) (fun h13 => ?_)
      · rw [if_pos h13] at hf
        refine g_ald_n C 1 rfl rfl dX8_part_53 ?_
        refine g_iconst C dX8_part_54 ?_
        obtain ⟨r14, μ15, hc16, hf⟩ := bn_some hf
        refine g_callVp (As := [vi 5]) (rest := []) C ⟨Nat.zero_le _, Nat.zero_le _⟩ dX8_part_55 cw_X8_refuseNumber m_2_118 m_2_120 m_0_3 in_0 (ec_0 _ _ _ _ _) rfl rfl (c_X8_refuseNumber  hc16) rfl rfl (Nat.le_of_ble_eq_true rfl) ⟨Nat.le_trans (Nat.le_of_ble_eq_true rfl) hfr, Nat.le_trans (Nat.le_of_ble_eq_true rfl) hlc⟩ ?_
        exact g_iret C rfl dX8_part_58 hf
      · rw [if_neg h13] at hf
        refine g_ild_n C 3 rfl rfl dX8_part_40 ?_
        refine g_bipush C rfl dX8_part_41 ?_
        refine g_ic_gt C 53 (by decide) dX8_part_43 (fun h17 => ?_) (fun h17 => ?_)
        · rw [if_pos h17] at hf
          refine g_ald_n C 1 rfl rfl dX8_part_53 ?_
          refine g_iconst C dX8_part_54 ?_
          obtain ⟨r18, μ19, hc20, hf⟩ := bn_some hf
          refine g_callVp (As := [vi 5]) (rest := []) C ⟨Nat.zero_le _, Nat.zero_le _⟩ dX8_part_55 cw_X8_refuseNumber m_2_118 m_2_120 m_0_3 in_0 (ec_0 _ _ _ _ _) rfl rfl (c_X8_refuseNumber  hc20) rfl rfl (Nat.le_of_ble_eq_true rfl) ⟨Nat.le_trans (Nat.le_of_ble_eq_true rfl) hfr, Nat.le_trans (Nat.le_of_ble_eq_true rfl) hlc⟩ ?_
          exact g_iret C rfl dX8_part_58 hf
        · rw [if_neg h17] at hf
          refine g_ild_n C 4 rfl rfl dX8_part_46 ?_
          obtain ⟨r21, μ22, hc23, hf⟩ := bn_some hf
          refine g_callSp (As := [vi a3]) (rest := []) C ⟨Nat.zero_le _, Nat.zero_le _⟩ dX8_part_47 cw_X8_arePartHands m_2_141 m_2_142 (c_X8_arePartHands  hc23) rfl rfl (Nat.le_of_ble_eq_true rfl) ⟨Nat.le_trans (Nat.le_of_ble_eq_true rfl) hfr, Nat.le_trans (Nat.le_of_ble_eq_true rfl) hlc⟩ ?_
          refine g_if_ne C 59 (by decide) dX8_part_50 (fun h24 => ?_) (fun h24 => ?_)
          · rw [if_pos h24] at hf
            refine g_ald_n C 1 rfl rfl dX8_part_53 ?_
            refine g_iconst C dX8_part_54 ?_
            obtain ⟨r25, μ26, hc27, hf⟩ := bn_some hf
            refine g_callVp (As := [vi 5]) (rest := []) C ⟨Nat.zero_le _, Nat.zero_le _⟩ dX8_part_55 cw_X8_refuseNumber m_2_118 m_2_120 m_0_3 in_0 (ec_0 _ _ _ _ _) rfl rfl (c_X8_refuseNumber  hc27) rfl rfl (Nat.le_of_ble_eq_true rfl) ⟨Nat.le_trans (Nat.le_of_ble_eq_true rfl) hfr, Nat.le_trans (Nat.le_of_ble_eq_true rfl) hlc⟩ ?_
            exact g_iret C rfl dX8_part_58 hf
          · rw [if_neg h24] at hf
            refine g_ald C 0 rfl dX8_part_59 ?_
            refine g_iconst C dX8_part_61 ?_
            refine g_iconst C dX8_part_62 ?_
            refine g_ild_n C 3 rfl rfl dX8_part_63 ?_
            refine g_imul C dX8_part_64 ?_
            obtain ⟨r28, μ29, hc30, hf⟩ := bn_some hf
            refine g_callVp (As := [vi 0, vi (2 * a2)]) (rest := []) C ⟨Nat.zero_le _, Nat.zero_le _⟩ dX8_part_65 cw_X5_hasRun m_2_130 m_2_131 m_2_132 (in_3 (inb_ix g8)) (ec_3 _ _ _ _ _) rfl rfl (c_X5_hasRun (inb_ix g8) hc30) rfl rfl (Nat.le_of_ble_eq_true rfl) ⟨Nat.le_trans (Nat.le_of_ble_eq_true rfl) hfr, Nat.le_trans (Nat.le_of_ble_eq_true rfl) hlc⟩ ?_
            refine g_if_ne C 77 (by decide) dX8_part_68 (fun h31 => ?_) (fun h31 => ?_)
            · rw [if_pos h31] at hf
              refine g_ald_n C 1 rfl rfl dX8_part_71 ?_
              refine g_iconst C dX8_part_72 ?_
              obtain ⟨r32, μ33, hc34, hf⟩ := bn_some hf
              refine g_callVp (As := [vi 4]) (rest := []) C ⟨Nat.zero_le _, Nat.zero_le _⟩ dX8_part_73 cw_X8_refuseNumber m_2_118 m_2_120 m_0_3 in_0 (ec_0 _ _ _ _ _) rfl rfl (c_X8_refuseNumber  hc34) rfl rfl (Nat.le_of_ble_eq_true rfl) ⟨Nat.le_trans (Nat.le_of_ble_eq_true rfl) hfr, Nat.le_trans (Nat.le_of_ble_eq_true rfl) hlc⟩ ?_
              exact g_iret C rfl dX8_part_76 hf
            · rw [if_neg h31] at hf
              refine g_ald C 0 rfl dX8_part_77 ?_
              refine g_ild_n C 3 rfl rfl dX8_part_79 ?_
              obtain ⟨r35, μ36, hc37, hf⟩ := bn_some hf
              refine g_callVp (As := [vi a2]) (rest := []) C ⟨Nat.zero_le _, Nat.zero_le _⟩ dX8_part_80 cw_X5_holdsRows m_2_144 m_2_145 m_2_146 (in_3 (inb_ix g8)) (ec_3 _ _ _ _ _) rfl rfl (c_X5_holdsRows (inb_ix g8) hc37) rfl rfl (Nat.le_of_ble_eq_true rfl) ⟨Nat.le_trans (Nat.le_of_ble_eq_true rfl) hfr, Nat.le_trans (Nat.le_of_ble_eq_true rfl) hlc⟩ ?_
              refine g_if_ne C 92 (by decide) dX8_part_83 (fun h38 => ?_) (fun h38 => ?_)
              · rw [if_pos h38] at hf
                refine g_ald_n C 1 rfl rfl dX8_part_86 ?_
                refine g_iconst C dX8_part_87 ?_
                obtain ⟨r39, μ40, hc41, hf⟩ := bn_some hf
                refine g_callVp (As := [vi 5]) (rest := []) C ⟨Nat.zero_le _, Nat.zero_le _⟩ dX8_part_88 cw_X8_refuseNumber m_2_118 m_2_120 m_0_3 in_0 (ec_0 _ _ _ _ _) rfl rfl (c_X8_refuseNumber  hc41) rfl rfl (Nat.le_of_ble_eq_true rfl) ⟨Nat.le_trans (Nat.le_of_ble_eq_true rfl) hfr, Nat.le_trans (Nat.le_of_ble_eq_true rfl) hlc⟩ ?_
                exact g_iret C rfl dX8_part_91 hf
              · rw [if_neg h38] at hf
                refine g_ald_n C 1 rfl rfl dX8_part_92 ?_
                refine g_get C dX8_part_93 fl_X8_35 in_0 (ec_0 _ _ _ _ _) rfl ?_
                obtain ⟨r42, μ43, hc44, hf⟩ := bn_some hf
                refine g_callVp (As := []) (rest := []) C ⟨Nat.zero_le _, Nat.zero_le _⟩ dX8_part_96 cw_X3_empty m_2_152 m_2_153 m_2_154 in_5 (ec_5 _ _ _ _ _) rfl rfl (c_X3_empty  hc44) rfl rfl (Nat.le_of_ble_eq_true rfl) ⟨Nat.le_trans (Nat.le_of_ble_eq_true rfl) hfr, Nat.le_trans (Nat.le_of_ble_eq_true rfl) hlc⟩ ?_
                refine g_iconst C dX8_part_99 ?_
                refine g_ist (lo' := [(5, vi 0), (4, vr α 3 (ix a1)), (0, vr α 0 0), (1, vi a1), (2, vi a2), (3, vi a3)]) C (by decide) rfl dX8_part_100 ?_
                refine g_sub C [2, 4, 5, 1, 0] rfl (c_X8_part_l102 C hfr hlc (inb_ix g8)  _ _ _ hf)
    · rw [if_neg h12] at hf
      refine g_ald_n C 1 rfl rfl dX8_part_29 ?_
      refine g_iconst C dX8_part_30 ?_
      obtain ⟨r58, μ59, hc60, hf⟩ := bn_some hf
      refine g_callVp (As := [vi 3]) (rest := []) C ⟨Nat.zero_le _, Nat.zero_le _⟩ dX8_part_31 cw_X8_refuseNumber m_2_118 m_2_120 m_0_3 in_0 (ec_0 _ _ _ _ _) rfl rfl (c_X8_refuseNumber  hc60) rfl rfl (Nat.le_of_ble_eq_true rfl) ⟨Nat.le_trans (Nat.le_of_ble_eq_true rfl) hfr, Nat.le_trans (Nat.le_of_ble_eq_true rfl) hlc⟩ ?_
      exact g_iret C rfl dX8_part_34 hf
set_option maxHeartbeats 4000000 in
set_option maxRecDepth 100000 in
theorem c_X8_part {l : Launch} {D : va_G} {Y : Nat → ClassId} {α : Adr} {a1 : Int} {a2 : Int} {a3 : Int} {μ : Mem} {r : Int} {μ' : Mem}  (hf : f_X8_part a1 a2 a3 μ = some (r, μ')) : Ctr l D Y LBx yX8_part cX8_part 6 (some .int) 4 89 0 0 [vr α 0 0, vi a1, vi a2, vi a3] α μ (some (vi r)) (fun a => a = α) μ' := Ctr_of pn_X8 rfl rfl (Nat.le_of_ble_eq_true rfl) LBx_nd (fun p e s m below meth c sz C => b_X8_part C (Nat.le_refl _) (Nat.le_refl _)  hf)
end

/-! EndTeller.fixed -/
def f_X8_fixed (a1 : Int) (a2 : Int) (μ : Mem) : Option (Int × Mem) := (if w32 a1 < 0 then bn (f_X8_refuseNumber 5 μ) (fun r2 μ3 => some (r2, μ3)) else (if w32 99 < w32 a1 then bn (f_X8_refuseNumber 5 μ) (fun r6 μ7 => some (r6, μ7)) else bn (f_X8_arePartHands a2 μ) (fun r9 μ10 => (if w32 r9 = 0 then bn (f_X8_refuseNumber 5 μ10) (fun r13 μ14 => some (r13, μ14)) else bn (f_X3_empty  μ10) (fun r16 μ17 => bn (f_X3_add a1 1 μ17) (fun r19 μ20 => bn (f_X8_addPart a2 μ20) (fun r22 μ23 => some (r22, μ23))))))))
section
variable {p : Program} {l : Launch} {e : Env} {R : Room} {s : State} {m : MethodId} {args : Array Value} {below : List Frame} {meth : Method} {c : Code} {D : va_G} {Y : Nat → ClassId} {α : Adr} {sz : Nat} {r : Int} {μ' : Mem}
set_option maxHeartbeats 4000000 in
set_option maxRecDepth 100000 in
theorem b_X8_fixed {a1 : Int} {a2 : Int} {μ : Mem} (C : CX p s m args meth c cX8_fixed 3 RX8 (some .int) D Y LBx (Ar LBx α sz)) (hfr : 4 ≤ R.frames) (hlc : 89 ≤ R.locals)  (hf : f_X8_fixed a1 a2 μ = some (r, μ')) : GG D Y LBx (Ar LBx α sz) p l e R s m args below meth c 3 (MQ below (Qcx D Y LBx α sz (some (vi r)) (fun a => a = α) μ') args s 0 0 (Ar LBx α sz)) α 0 0 [(0, vr α 0 0), (1, vi a1), (2, vi a2)] [] μ 0 := by
  unfold f_X8_fixed at hf
  refine g_ild_n C 1 rfl rfl dX8_fixed_0 ?_
  refine g_if_lt C 17 (by decide) dX8_fixed_1 (fun h1 => ?_) (fun h1 => ?_)
  · rw [if_pos h1] at hf
    refine g_ald_n C 0 rfl rfl dX8_fixed_17 ?_
    refine g_iconst C dX8_fixed_18 ?_
    obtain ⟨r2, μ3, hc4, hf⟩ := bn_some hf
    refine g_callVp (As := [vi 5]) (rest := []) C ⟨Nat.zero_le _, Nat.zero_le _⟩ dX8_fixed_19 cw_X8_refuseNumber m_2_118 m_2_120 m_0_3 in_0 (ec_0 _ _ _ _ _) rfl rfl (c_X8_refuseNumber  hc4) rfl rfl (Nat.le_of_ble_eq_true rfl) ⟨Nat.le_trans (Nat.le_of_ble_eq_true rfl) hfr, Nat.le_trans (Nat.le_of_ble_eq_true rfl) hlc⟩ ?_
    exact g_iret C rfl dX8_fixed_22 hf
  · rw [if_neg h1] at hf
    refine g_ild_n C 1 rfl rfl dX8_fixed_4 ?_
    refine g_bipush C rfl dX8_fixed_5 ?_
    refine g_ic_gt C 17 (by decide) dX8_fixed_7 (fun h5 => ?_) (fun h5 => ?_)
    · rw [if_pos h5] at hf
      refine g_ald_n C 0 rfl rfl dX8_fixed_17 ?_
      refine g_iconst C dX8_fixed_18 ?_
      obtain ⟨r6, μ7, hc8, hf⟩ := bn_some hf
      refine g_callVp (As := [vi 5]) (rest := []) C ⟨Nat.zero_le _, Nat.zero_le _⟩ dX8_fixed_19 cw_X8_refuseNumber m_2_118 m_2_120 m_0_3 in_0 (ec_0 _ _ _ _ _) rfl rfl (c_X8_refuseNumber  hc8) rfl rfl (Nat.le_of_ble_eq_true rfl) ⟨Nat.le_trans (Nat.le_of_ble_eq_true rfl) hfr, Nat.le_trans (Nat.le_of_ble_eq_true rfl) hlc⟩ ?_
      exact g_iret C rfl dX8_fixed_22 hf
    · rw [if_neg h5] at hf
      refine g_ild_n C 2 rfl rfl dX8_fixed_10 ?_
      obtain ⟨r9, μ10, hc11, hf⟩ := bn_some hf
      refine g_callSp (As := [vi a2]) (rest := []) C ⟨Nat.zero_le _, Nat.zero_le _⟩ dX8_fixed_11 cw_X8_arePartHands m_2_141 m_2_142 (c_X8_arePartHands  hc11) rfl rfl (Nat.le_of_ble_eq_true rfl) ⟨Nat.le_trans (Nat.le_of_ble_eq_true rfl) hfr, Nat.le_trans (Nat.le_of_ble_eq_true rfl) hlc⟩ ?_
      refine g_if_ne C 23 (by decide) dX8_fixed_14 (fun h12 => ?_) (fun h12 => ?_)
      · rw [if_pos h12] at hf
        refine g_ald_n C 0 rfl rfl dX8_fixed_17 ?_
        refine g_iconst C dX8_fixed_18 ?_
        obtain ⟨r13, μ14, hc15, hf⟩ := bn_some hf
        refine g_callVp (As := [vi 5]) (rest := []) C ⟨Nat.zero_le _, Nat.zero_le _⟩ dX8_fixed_19 cw_X8_refuseNumber m_2_118 m_2_120 m_0_3 in_0 (ec_0 _ _ _ _ _) rfl rfl (c_X8_refuseNumber  hc15) rfl rfl (Nat.le_of_ble_eq_true rfl) ⟨Nat.le_trans (Nat.le_of_ble_eq_true rfl) hfr, Nat.le_trans (Nat.le_of_ble_eq_true rfl) hlc⟩ ?_
        exact g_iret C rfl dX8_fixed_22 hf
      · rw [if_neg h12] at hf
        refine g_ald_n C 0 rfl rfl dX8_fixed_23 ?_
        refine g_get C dX8_fixed_24 fl_X8_35 in_0 (ec_0 _ _ _ _ _) rfl ?_
        obtain ⟨r16, μ17, hc18, hf⟩ := bn_some hf
        refine g_callVp (As := []) (rest := []) C ⟨Nat.zero_le _, Nat.zero_le _⟩ dX8_fixed_27 cw_X3_empty m_2_152 m_2_153 m_2_154 in_5 (ec_5 _ _ _ _ _) rfl rfl (c_X3_empty  hc18) rfl rfl (Nat.le_of_ble_eq_true rfl) ⟨Nat.le_trans (Nat.le_of_ble_eq_true rfl) hfr, Nat.le_trans (Nat.le_of_ble_eq_true rfl) hlc⟩ ?_
        refine g_ald_n C 0 rfl rfl dX8_fixed_30 ?_
        refine g_get C dX8_fixed_31 fl_X8_35 in_0 (ec_0 _ _ _ _ _) rfl ?_
        refine g_ild_n C 1 rfl rfl dX8_fixed_34 ?_
        refine g_lconst (x := 1) C rfl dX8_fixed_35 ?_
        obtain ⟨r19, μ20, hc21, hf⟩ := bn_some hf
        refine g_callVp (As := [vi a1, vl 1]) (rest := []) C ⟨Nat.zero_le _, Nat.zero_le _⟩ dX8_fixed_36 cw_X3_add m_2_157 m_2_158 m_2_159 in_5 (ec_5 _ _ _ _ _) rfl rfl (c_X3_add  hc21) rfl rfl (Nat.le_of_ble_eq_true rfl) ⟨Nat.le_trans (Nat.le_of_ble_eq_true rfl) hfr, Nat.le_trans (Nat.le_of_ble_eq_true rfl) hlc⟩ ?_
        refine g_ald_n C 0 rfl rfl dX8_fixed_39 ?_
        refine g_ild_n C 2 rfl rfl dX8_fixed_40 ?_
        obtain ⟨r22, μ23, hc24, hf⟩ := bn_some hf
        refine g_callVp (As := [vi a2]) (rest := []) C ⟨Nat.zero_le _, Nat.zero_le _⟩ dX8_fixed_41 cw_X8_addPart m_2_161 m_2_163 m_0_4 in_0 (ec_0 _ _ _ _ _) rfl rfl (c_X8_addPart  hc24) rfl rfl (Nat.le_of_ble_eq_true rfl) ⟨Nat.le_trans (Nat.le_of_ble_eq_true rfl) hfr, Nat.le_trans (Nat.le_of_ble_eq_true rfl) hlc⟩ ?_
        exact g_iret C rfl dX8_fixed_44 hf
set_option maxHeartbeats 4000000 in
set_option maxRecDepth 100000 in
theorem c_X8_fixed {l : Launch} {D : va_G} {Y : Nat → ClassId} {α : Adr} {a1 : Int} {a2 : Int} {μ : Mem} {r : Int} {μ' : Mem}  (hf : f_X8_fixed a1 a2 μ = some (r, μ')) : Ctr l D Y LBx yX8_fixed cX8_fixed 3 (some .int) 4 89 0 0 [vr α 0 0, vi a1, vi a2] α μ (some (vi r)) (fun a => a = α) μ' := Ctr_of pn_X8 rfl rfl (Nat.le_of_ble_eq_true rfl) LBx_nd (fun p e s m below meth c sz C => b_X8_fixed C (Nat.le_refl _) (Nat.le_refl _)  hf)
end

/-! EndTeller.either -/
def f_X8_either (a1 : Int) (a2 : Int) (a3 : Int) (a4 : Int) (a5 : Int) (μ : Mem) : Option (Int × Mem) := bn (f_X7_hasPart a1 μ) (fun r1 μ2 => (if w32 r1 = 0 then bn (f_X8_refuseNumber 2 μ2) (fun r5 μ6 => some (r5, μ6)) else bn (f_X7_hasPart a2 μ2) (fun r8 μ9 => (if w32 r8 = 0 then bn (f_X8_refuseNumber 2 μ9) (fun r12 μ13 => some (r12, μ13)) else (if w32 a3 < w32 1 then bn (f_X8_refuseNumber 5 μ9) (fun r16 μ17 => some (r16, μ17)) else (if w32 99 < w32 a3 then bn (f_X8_refuseNumber 5 μ9) (fun r20 μ21 => some (r20, μ21)) else (if w32 a4 < w32 1 then bn (f_X8_refuseNumber 5 μ9) (fun r24 μ25 => some (r24, μ25)) else (if w32 99 < w32 a4 then bn (f_X8_refuseNumber 5 μ9) (fun r28 μ29 => some (r28, μ29)) else bn (f_X8_arePartHands a5 μ9) (fun r31 μ32 => (if w32 r31 = 0 then bn (f_X8_refuseNumber 5 μ32) (fun r35 μ36 => some (r35, μ36)) else gd (inb a1 10) (gd (inb a2 10) (bn (f_X3_empty  μ32) (fun r40 μ41 => bn (f_X3_addOnce (ix a1) ((w32 a3) * (w32 (μ41 17 (ix a2) 4))) μ41) (fun r43 μ44 => bn (f_X3_addOnce (ix a2) ((w32 a4) * (w32 (μ44 17 (ix a1) 4))) μ44) (fun r46 μ47 => bn (f_X8_addPart a5 μ47) (fun r49 μ50 => some (r49, μ50)))))))))))))))))
section
variable {p : Program} {l : Launch} {e : Env} {R : Room} {s : State} {m : MethodId} {args : Array Value} {below : List Frame} {meth : Method} {c : Code} {D : va_G} {Y : Nat → ClassId} {α : Adr} {sz : Nat} {r : Int} {μ' : Mem}
set_option maxHeartbeats 4000000 in
set_option maxRecDepth 100000 in
theorem b_X8_either {a1 : Int} {a2 : Int} {a3 : Int} {a4 : Int} {a5 : Int} {μ : Mem} (C : CX p s m args meth c cX8_either 8 RX8 (some .int) D Y LBx (Ar LBx α sz)) (hfr : 4 ≤ R.frames) (hlc : 89 ≤ R.locals)  (hf : f_X8_either a1 a2 a3 a4 a5 μ = some (r, μ')) : GG D Y LBx (Ar LBx α sz) p l e R s m args below meth c 8 (MQ below (Qcx D Y LBx α sz (some (vi r)) (fun a => a = α) μ') args s 0 0 (Ar LBx α sz)) α 0 0 [(0, vr α 0 0), (1, vi a1), (2, vi a2), (3, vi a3), (4, vi a4), (5, vi a5)] [] μ 0 := by
  unfold f_X8_either at hf
  refine g_ald_n C 0 rfl rfl dX8_either_0 ?_
  refine g_get C dX8_either_1 fl_X8_50 in_0 (ec_0 _ _ _ _ _) rfl ?_
  refine g_ild_n C 1 rfl rfl dX8_either_4 ?_
  obtain ⟨r1, μ2, hc3, hf⟩ := bn_some hf
  refine g_callVp (As := [vi a1]) (rest := []) C ⟨Nat.zero_le _, Nat.zero_le _⟩ dX8_either_5 cw_X7_hasPart m_2_200 m_2_201 m_2_202 in_15 (ec_15 _ _ _ _ _) rfl rfl (c_X7_hasPart  hc3) rfl rfl (Nat.le_of_ble_eq_true rfl) ⟨Nat.le_trans (Nat.le_of_ble_eq_true rfl) hfr, Nat.le_trans (Nat.le_of_ble_eq_true rfl) hlc⟩ ?_
  refine g_if_eq C 22 (by decide) dX8_either_8 (fun h4 => ?_) (fun h4 => ?_)
  · rw [if_pos h4] at hf
    refine g_ald_n C 0 rfl rfl dX8_either_22 ?_
    refine g_iconst C dX8_either_23 ?_
    obtain ⟨r5, μ6, hc7, hf⟩ := bn_some hf
    refine g_callVp (As := [vi 2]) (rest := []) C ⟨Nat.zero_le _, Nat.zero_le _⟩ dX8_either_24 cw_X8_refuseNumber m_2_118 m_2_120 m_0_3 in_0 (ec_0 _ _ _ _ _) rfl rfl (c_X8_refuseNumber  hc7) rfl rfl (Nat.le_of_ble_eq_true rfl) ⟨Nat.le_trans (Nat.le_of_ble_eq_true rfl) hfr, Nat.le_trans (Nat.le_of_ble_eq_true rfl) hlc⟩ ?_
    exact g_iret C rfl dX8_either_27 hf
  · rw [if_neg h4] at hf
    refine g_ald_n C 0 rfl rfl dX8_either_11 ?_
    refine g_get C dX8_either_12 fl_X8_50 in_0 (ec_0 _ _ _ _ _) rfl ?_
    refine g_ild_n C 2 rfl rfl dX8_either_15 ?_
    obtain ⟨r8, μ9, hc10, hf⟩ := bn_some hf
    refine g_callVp (As := [vi a2]) (rest := []) C ⟨Nat.zero_le _, Nat.zero_le _⟩ dX8_either_16 cw_X7_hasPart m_2_200 m_2_201 m_2_202 in_15 (ec_15 _ _ _ _ _) rfl rfl (c_X7_hasPart  hc10) rfl rfl (Nat.le_of_ble_eq_true rfl) ⟨Nat.le_trans (Nat.le_of_ble_eq_true rfl) hfr, Nat.le_trans (Nat.le_of_ble_eq_true rfl) hlc⟩ ?_
    refine g_if_ne C 28 (by decide) dX8_either_19 (fun h11 => ?_) (fun h11 => ?_)
    · rw [if_pos h11] at hf
      refine g_ald_n C 0 rfl rfl dX8_either_22 ?_
      refine g_iconst C dX8_either_23 ?_
      obtain ⟨r12, μ13, hc14, hf⟩ := bn_some hf
      refine g_callVp (As := [vi 2]) (rest := []) C ⟨Nat.zero_le _, Nat.zero_le _⟩ dX8_either_24 cw_X8_refuseNumber m_2_118 m_2_120 m_0_3 in_0 (ec_0 _ _ _ _ _) rfl rfl (c_X8_refuseNumber  hc14) rfl rfl (Nat.le_of_ble_eq_true rfl) ⟨Nat.le_trans (Nat.le_of_ble_eq_true rfl) hfr, Nat.le_trans (Nat.le_of_ble_eq_true rfl) hlc⟩ ?_
      exact g_iret C rfl dX8_either_27 hf
    · rw [if_neg h11] at hf
      refine g_ild_n C 3 rfl rfl dX8_either_28 ?_
      refine g_iconst C dX8_either_29 ?_
      refine g_ic_lt C 60 (by decide) dX8_either_30 (fun h15 => ?_) (fun h15 => ?_)
      · rw [if_pos h15] at hf
        refine g_ald_n C 0 rfl rfl dX8_either_60 ?_
        refine g_iconst C dX8_either_61 ?_
        obtain ⟨r16, μ17, hc18, hf⟩ := bn_some hf
        refine g_callVp (As := [vi 5]) (rest := []) C ⟨Nat.zero_le _, Nat.zero_le _⟩ dX8_either_62 cw_X8_refuseNumber m_2_118 m_2_120 m_0_3 in_0 (ec_0 _ _ _ _ _) rfl rfl (c_X8_refuseNumber  hc18) rfl rfl (Nat.le_of_ble_eq_true rfl) ⟨Nat.le_trans (Nat.le_of_ble_eq_true rfl) hfr, Nat.le_trans (Nat.le_of_ble_eq_true rfl) hlc⟩ ?_
        exact g_iret C rfl dX8_either_65 hf
      · rw [if_neg h15] at hf
        refine g_ild_n C 3 rfl rfl dX8_either_33 ?_
        refine g_bipush C rfl dX8_either_34 ?_
        refine g_ic_gt C 60 (by decide) dX8_either_36 (fun h19 => ?_) (fun h19 => ?_)
        · rw [if_pos h19] at hf
          refine g_ald_n C 0 rfl rfl dX8_either_60 ?_
          refine g_iconst C dX8_either_61 ?_
          obtain ⟨r20, μ21, hc22, hf⟩ := bn_some hf
          refine g_callVp (As := [vi 5]) (rest := []) C ⟨Nat.zero_le _, Nat.zero_le _⟩ dX8_either_62 cw_X8_refuseNumber m_2_118 m_2_120 m_0_3 in_0 (ec_0 _ _ _ _ _) rfl rfl (c_X8_refuseNumber  hc22) rfl rfl (Nat.le_of_ble_eq_true rfl) ⟨Nat.le_trans (Nat.le_of_ble_eq_true rfl) hfr, Nat.le_trans (Nat.le_of_ble_eq_true rfl) hlc⟩ ?_
          exact g_iret C rfl dX8_either_65 hf
        · rw [if_neg h19] at hf
          refine g_ild C 4 rfl dX8_either_39 ?_
          refine g_iconst C dX8_either_41 ?_
          refine g_ic_lt C 60 (by decide) dX8_either_42 (fun h23 => ?_) (fun h23 => ?_)
          · rw [if_pos h23] at hf
            refine g_ald_n C 0 rfl rfl dX8_either_60 ?_
            refine g_iconst C dX8_either_61 ?_
            obtain ⟨r24, μ25, hc26, hf⟩ := bn_some hf
            refine g_callVp (As := [vi 5]) (rest := []) C ⟨Nat.zero_le _, Nat.zero_le _⟩ dX8_either_62 cw_X8_refuseNumber m_2_118 m_2_120 m_0_3 in_0 (ec_0 _ _ _ _ _) rfl rfl (c_X8_refuseNumber  hc26) rfl rfl (Nat.le_of_ble_eq_true rfl) ⟨Nat.le_trans (Nat.le_of_ble_eq_true rfl) hfr, Nat.le_trans (Nat.le_of_ble_eq_true rfl) hlc⟩ ?_
            exact g_iret C rfl dX8_either_65 hf
          · rw [if_neg h23] at hf
            refine g_ild C 4 rfl dX8_either_45 ?_
            refine g_bipush C rfl dX8_either_47 ?_
            refine g_ic_gt C 60 (by decide) dX8_either_49 (fun h27 => ?_) (fun h27 => ?_)
            · rw [if_pos h27] at hf
              refine g_ald_n C 0 rfl rfl dX8_either_60 ?_
              refine g_iconst C dX8_either_61 ?_
              obtain ⟨r28, μ29, hc30, hf⟩ := bn_some hf
              refine g_callVp (As := [vi 5]) (rest := []) C ⟨Nat.zero_le _, Nat.zero_le _⟩ dX8_either_62 cw_X8_refuseNumber m_2_118 m_2_120 m_0_3 in_0 (ec_0 _ _ _ _ _) rfl rfl (c_X8_refuseNumber  hc30) rfl rfl (Nat.le_of_ble_eq_true rfl) ⟨Nat.le_trans (Nat.le_of_ble_eq_true rfl) hfr, Nat.le_trans (Nat.le_of_ble_eq_true rfl) hlc⟩ ?_
              exact g_iret C rfl dX8_either_65 hf
            · rw [if_neg h27] at hf
              refine g_ild C 5 rfl dX8_either_52 ?_
              obtain ⟨r31, μ32, hc33, hf⟩ := bn_some hf
              refine g_callSp (As := [vi a5]) (rest := []) C ⟨Nat.zero_le _, Nat.zero_le _⟩ dX8_either_54 cw_X8_arePartHands m_2_141 m_2_142 (c_X8_arePartHands  hc33) rfl rfl (Nat.le_of_ble_eq_true rfl) ⟨Nat.le_trans (Nat.le_of_ble_eq_true rfl) hfr, Nat.le_trans (Nat.le_of_ble_eq_true rfl) hlc⟩ ?_
              refine g_if_ne C 66 (by decide) dX8_either_57 (fun h34 => ?_) (fun h34 => ?_)
              · rw [if_pos h34] at hf
                refine g_ald_n C 0 rfl rfl dX8_either_60 ?_
                refine g_iconst C dX8_either_61 ?_
                obtain ⟨r35, μ36, hc37, hf⟩ := bn_some hf
                refine g_callVp (As := [vi 5]) (rest := []) C ⟨Nat.zero_le _, Nat.zero_le _⟩ dX8_either_62 cw_X8_refuseNumber m_2_118 m_2_120 m_0_3 in_0 (ec_0 _ _ _ _ _) rfl rfl (c_X8_refuseNumber  hc37) rfl rfl (Nat.le_of_ble_eq_true rfl) ⟨Nat.le_trans (Nat.le_of_ble_eq_true rfl) hfr, Nat.le_trans (Nat.le_of_ble_eq_true rfl) hlc⟩ ?_
                exact g_iret C rfl dX8_either_65 hf
              · rw [if_neg h34] at hf
                refine g_ald_n C 0 rfl rfl dX8_either_66 ?_
                refine g_get C dX8_either_67 fl_X8_50 in_0 (ec_0 _ _ _ _ _) rfl ?_
                refine g_get C dX8_either_70 fl_X8_130 in_15 (ec_15 _ _ _ _ _) rfl ?_
                refine g_ild_n C 1 rfl rfl dX8_either_73 ?_
                obtain ⟨g38, hf⟩ := gd_some hf
                refine g_aaldI C dX8_either_74 in_16 (fun _ => ec_16 _ _ _ _ _) rfl g38 ?_
                refine g_ast (lo' := [(6, vr α 17 (ix a1)), (0, vr α 0 0), (1, vi a1), (2, vi a2), (3, vi a3), (4, vi a4), (5, vi a5)]) C (by decide) rfl dX8_either_75 ?_
                refine g_ald_n C 1 rfl rfl dX8_either_77 ?_
                refine g_get C dX8_either_78 fl_X8_50 in_0 (ec_0 _ _ _ _ _) rfl ?_
                refine g_get C dX8_either_81 fl_X8_130 in_15 (ec_15 _ _ _ _ _) rfl ?_
                refine g_ild_n C 3 rfl rfl dX8_either_84 ?_
                obtain ⟨g39, hf⟩ := gd_some hf
                refine g_aaldI C dX8_either_85 in_16 (fun _ => ec_16 _ _ _ _ _) rfl g39 ?_
                refine g_ast (lo' := [(7, vr α 17 (ix a2)), (6, vr α 17 (ix a1)), (0, vr α 0 0), (1, vi a1), (2, vi a2), (3, vi a3), (4, vi a4), (5, vi a5)]) C (by decide) rfl dX8_either_86 ?_
                refine g_ald_n C 2 rfl rfl dX8_either_88 ?_
                refine g_get C dX8_either_89 fl_X8_35 in_0 (ec_0 _ _ _ _ _) rfl ?_
                obtain ⟨r40, μ41, hc42, hf⟩ := bn_some hf
                refine g_callVp (As := []) (rest := []) C ⟨Nat.zero_le _, Nat.zero_le _⟩ dX8_either_92 cw_X3_empty m_2_152 m_2_153 m_2_154 in_5 (ec_5 _ _ _ _ _) rfl rfl (c_X3_empty  hc42) rfl rfl (Nat.le_of_ble_eq_true rfl) ⟨Nat.le_trans (Nat.le_of_ble_eq_true rfl) hfr, Nat.le_trans (Nat.le_of_ble_eq_true rfl) hlc⟩ ?_
                refine g_ald_n C 2 rfl rfl dX8_either_95 ?_
                refine g_get C dX8_either_96 fl_X8_35 in_0 (ec_0 _ _ _ _ _) rfl ?_
                refine g_ald C 1 rfl dX8_either_99 ?_
                refine g_ild_n C 5 rfl rfl dX8_either_101 ?_
                refine g_i2l C dX8_either_102 ?_
                refine g_ald C 0 rfl dX8_either_103 ?_
                refine g_get C dX8_either_105 fl_X8_134 (in_17 (inb_ix g39)) (ec_17 _ _ _ _ _) rfl ?_
                refine g_i2l C dX8_either_108 ?_
                refine g_lmul C dX8_either_109 ?_
                obtain ⟨r43, μ44, hc45, hf⟩ := bn_some hf
                refine g_callVp (As := [vr α 17 (ix a1), vl ((w32 a3) * (w32 (μ41 17 (ix a2) 4)))]) (rest := []) C ⟨Nat.zero_le _, Nat.zero_le _⟩ dX8_either_110 cw_X3_addOnce m_2_204 m_2_205 m_2_206 in_5 (ec_5 _ _ _ _ _) rfl rfl (c_X3_addOnce (inb_ix g38) hc45) rfl rfl (Nat.le_of_ble_eq_true rfl) ⟨Nat.le_trans (Nat.le_of_ble_eq_true rfl) hfr, Nat.le_trans (Nat.le_of_ble_eq_true rfl) hlc⟩ ?_
                refine g_ald_n C 2 rfl rfl dX8_either_113 ?_
                refine g_get C dX8_either_114 fl_X8_35 in_0 (ec_0 _ _ _ _ _) rfl ?_
                refine g_ald C 0 rfl dX8_either_117 ?_
                refine g_ild C 6 rfl dX8_either_119 ?_
                refine g_i2l C dX8_either_121 ?_
                refine g_ald C 1 rfl dX8_either_122 ?_
                refine g_get C dX8_either_124 fl_X8_134 (in_17 (inb_ix g38)) (ec_17 _ _ _ _ _) rfl ?_
                refine g_i2l C dX8_either_127 ?_
                refine g_lmul C dX8_either_128 ?_
                obtain ⟨r46, μ47, hc48, hf⟩ := bn_some hf
                refine g_callVp (As := [vr α 17 (ix a2), vl ((w32 a4) * (w32 (μ44 17 (ix a1) 4)))]) (rest := []) C ⟨Nat.zero_le _, Nat.zero_le _⟩ dX8_either_129 cw_X3_addOnce m_2_204 m_2_205 m_2_206 in_5 (ec_5 _ _ _ _ _) rfl rfl (c_X3_addOnce (inb_ix g39) hc48) rfl rfl (Nat.le_of_ble_eq_true rfl) ⟨Nat.le_trans (Nat.le_of_ble_eq_true rfl) hfr, Nat.le_trans (Nat.le_of_ble_eq_true rfl) hlc⟩ ?_
                refine g_ald_n C 2 rfl rfl dX8_either_132 ?_
                refine g_ild C 7 rfl dX8_either_133 ?_
                obtain ⟨r49, μ50, hc51, hf⟩ := bn_some hf
                refine g_callVp (As := [vi a5]) (rest := []) C ⟨Nat.zero_le _, Nat.zero_le _⟩ dX8_either_135 cw_X8_addPart m_2_161 m_2_163 m_0_4 in_0 (ec_0 _ _ _ _ _) rfl rfl (c_X8_addPart  hc51) rfl rfl (Nat.le_of_ble_eq_true rfl) ⟨Nat.le_trans (Nat.le_of_ble_eq_true rfl) hfr, Nat.le_trans (Nat.le_of_ble_eq_true rfl) hlc⟩ ?_
                exact g_iret C rfl dX8_either_138 hf
set_option maxHeartbeats 4000000 in
set_option maxRecDepth 100000 in
theorem c_X8_either {l : Launch} {D : va_G} {Y : Nat → ClassId} {α : Adr} {a1 : Int} {a2 : Int} {a3 : Int} {a4 : Int} {a5 : Int} {μ : Mem} {r : Int} {μ' : Mem}  (hf : f_X8_either a1 a2 a3 a4 a5 μ = some (r, μ')) : Ctr l D Y LBx yX8_either cX8_either 8 (some .int) 4 89 0 0 [vr α 0 0, vi a1, vi a2, vi a3, vi a4, vi a5] α μ (some (vi r)) (fun a => a = α) μ' := Ctr_of pn_X8 rfl rfl (Nat.le_of_ble_eq_true rfl) LBx_nd (fun p e s m below meth c sz C => b_X8_either C (Nat.le_refl _) (Nat.le_refl _)  hf)
end

/-! EndTeller.again -/
def f_X8_again (a1 : Int) (a2 : Int) (a3 : Int) (a4 : Int) (μ : Mem) : Option (Int × Mem) := bn (f_X7_hasPart a1 μ) (fun r1 μ2 => (if w32 r1 = 0 then bn (f_X8_refuseNumber 2 μ2) (fun r5 μ6 => some (r5, μ6)) else (if w32 a2 < w32 1 then bn (f_X8_refuseNumber 5 μ2) (fun r9 μ10 => some (r9, μ10)) else (if w32 a3 ≤ w32 a2 then bn (f_X8_refuseNumber 5 μ2) (fun r13 μ14 => some (r13, μ14)) else (if w32 99 < w32 a3 then bn (f_X8_refuseNumber 5 μ2) (fun r17 μ18 => some (r17, μ18)) else bn (f_X8_arePartHands a4 μ2) (fun r20 μ21 => (if w32 r20 = 0 then bn (f_X8_refuseNumber 5 μ21) (fun r24 μ25 => some (r24, μ25)) else gd (inb a1 10) (bn (f_X3_empty  μ21) (fun r28 μ29 => bn (f_X3_addOnce (ix a1) ((w32 (a3 - a2)) * (w32 (μ29 17 (ix a1) 4))) μ29) (fun r31 μ32 => bn (f_X3_addTwice (ix a1) (w32 a2) μ32) (fun r34 μ35 => bn (f_X8_addPart a4 μ35) (fun r37 μ38 => some (r37, μ38)))))))))))))
section
variable {p : Program} {l : Launch} {e : Env} {R : Room} {s : State} {m : MethodId} {args : Array Value} {below : List Frame} {meth : Method} {c : Code} {D : va_G} {Y : Nat → ClassId} {α : Adr} {sz : Nat} {r : Int} {μ' : Mem}
set_option maxHeartbeats 4000000 in
set_option maxRecDepth 100000 in
theorem b_X8_again {a1 : Int} {a2 : Int} {a3 : Int} {a4 : Int} {μ : Mem} (C : CX p s m args meth c cX8_again 6 RX8 (some .int) D Y LBx (Ar LBx α sz)) (hfr : 4 ≤ R.frames) (hlc : 89 ≤ R.locals)  (hf : f_X8_again a1 a2 a3 a4 μ = some (r, μ')) : GG D Y LBx (Ar LBx α sz) p l e R s m args below meth c 6 (MQ below (Qcx D Y LBx α sz (some (vi r)) (fun a => a = α) μ') args s 0 0 (Ar LBx α sz)) α 0 0 [(0, vr α 0 0), (1, vi a1), (2, vi a2), (3, vi a3), (4, vi a4)] [] μ 0 := by
  unfold f_X8_again at hf
  refine g_ald_n C 0 rfl rfl dX8_again_0 ?_
  refine g_get C dX8_again_1 fl_X8_50 in_0 (ec_0 _ _ _ _ _) rfl ?_
  refine g_ild_n C 1 rfl rfl dX8_again_4 ?_
  obtain ⟨r1, μ2, hc3, hf⟩ := bn_some hf
  refine g_callVp (As := [vi a1]) (rest := []) C ⟨Nat.zero_le _, Nat.zero_le _⟩ dX8_again_5 cw_X7_hasPart m_2_200 m_2_201 m_2_202 in_15 (ec_15 _ _ _ _ _) rfl rfl (c_X7_hasPart  hc3) rfl rfl (Nat.le_of_ble_eq_true rfl) ⟨Nat.le_trans (Nat.le_of_ble_eq_true rfl) hfr, Nat.le_trans (Nat.le_of_ble_eq_true rfl) hlc⟩ ?_
  refine g_if_ne C 17 (by decide) dX8_again_8 (fun h4 => ?_) (fun h4 => ?_)
  · rw [if_pos h4] at hf
    refine g_ald_n C 0 rfl rfl dX8_again_11 ?_
    refine g_iconst C dX8_again_12 ?_
    obtain ⟨r5, μ6, hc7, hf⟩ := bn_some hf
    refine g_callVp (As := [vi 2]) (rest := []) C ⟨Nat.zero_le _, Nat.zero_le _⟩ dX8_again_13 cw_X8_refuseNumber m_2_118 m_2_120 m_0_3 in_0 (ec_0 _ _ _ _ _) rfl rfl (c_X8_refuseNumber  hc7) rfl rfl (Nat.le_of_ble_eq_true rfl) ⟨Nat.le_trans (Nat.le_of_ble_eq_true rfl) hfr, Nat.le_trans (Nat.le_of_ble_eq_true rfl) hlc⟩ ?_
    exact g_iret C rfl dX8_again_16 hf
  · rw [if_neg h4] at hf
    refine g_ild_n C 2 rfl rfl dX8_again_17 ?_
    refine g_iconst C dX8_again_18 ?_
    refine g_ic_lt C 41 (by decide) dX8_again_19 (fun h8 => ?_) (fun h8 => ?_)
    · rw [if_pos h8] at hf
      refine g_ald_n C 0 rfl rfl dX8_again_41 ?_
      refine g_iconst C dX8_again_42 ?_
      obtain ⟨r9, μ10, hc11, hf⟩ := bn_some hf
      refine g_callVp (As := [vi 5]) (rest := []) C ⟨Nat.zero_le _, Nat.zero_le _⟩ dX8_again_43 cw_X8_refuseNumber m_2_118 m_2_120 m_0_3 in_0 (ec_0 _ _ _ _ _) rfl rfl (c_X8_refuseNumber  hc11) rfl rfl (Nat.le_of_ble_eq_true rfl) ⟨Nat.le_trans (Nat.le_of_ble_eq_true rfl) hfr, Nat.le_trans (Nat.le_of_ble_eq_true rfl) hlc⟩ ?_
      exact g_iret C rfl dX8_again_46 hf
    · rw [if_neg h8] at hf
      refine g_ild_n C 2 rfl rfl dX8_again_22 ?_
      refine g_ild_n C 3 rfl rfl dX8_again_23 ?_
      refine g_ic_ge C 41 (by decide) dX8_again_24 (fun h12 => ?_) (fun h12 => ?_)
      · rw [if_pos h12] at hf
        refine g_ald_n C 0 rfl rfl dX8_again_41 ?_
        refine g_iconst C dX8_again_42 ?_
        obtain ⟨r13, μ14, hc15, hf⟩ := bn_some hf
        refine g_callVp (As := [vi 5]) (rest := []) C ⟨Nat.zero_le _, Nat.zero_le _⟩ dX8_again_43 cw_X8_refuseNumber m_2_118 m_2_120 m_0_3 in_0 (ec_0 _ _ _ _ _) rfl rfl (c_X8_refuseNumber  hc15) rfl rfl (Nat.le_of_ble_eq_true rfl) ⟨Nat.le_trans (Nat.le_of_ble_eq_true rfl) hfr, Nat.le_trans (Nat.le_of_ble_eq_true rfl) hlc⟩ ?_
        exact g_iret C rfl dX8_again_46 hf
      · rw [if_neg h12] at hf
        refine g_ild_n C 3 rfl rfl dX8_again_27 ?_
        refine g_bipush C rfl dX8_again_28 ?_
        refine g_ic_gt C 41 (by decide) dX8_again_30 (fun h16 => ?_) (fun h16 => ?_)
        · rw [if_pos h16] at hf
          refine g_ald_n C 0 rfl rfl dX8_again_41 ?_
          refine g_iconst C dX8_again_42 ?_
          obtain ⟨r17, μ18, hc19, hf⟩ := bn_some hf
          refine g_callVp (As := [vi 5]) (rest := []) C ⟨Nat.zero_le _, Nat.zero_le _⟩ dX8_again_43 cw_X8_refuseNumber m_2_118 m_2_120 m_0_3 in_0 (ec_0 _ _ _ _ _) rfl rfl (c_X8_refuseNumber  hc19) rfl rfl (Nat.le_of_ble_eq_true rfl) ⟨Nat.le_trans (Nat.le_of_ble_eq_true rfl) hfr, Nat.le_trans (Nat.le_of_ble_eq_true rfl) hlc⟩ ?_
          exact g_iret C rfl dX8_again_46 hf
        · rw [if_neg h16] at hf
          refine g_ild C 4 rfl dX8_again_33 ?_
          obtain ⟨r20, μ21, hc22, hf⟩ := bn_some hf
          refine g_callSp (As := [vi a4]) (rest := []) C ⟨Nat.zero_le _, Nat.zero_le _⟩ dX8_again_35 cw_X8_arePartHands m_2_141 m_2_142 (c_X8_arePartHands  hc22) rfl rfl (Nat.le_of_ble_eq_true rfl) ⟨Nat.le_trans (Nat.le_of_ble_eq_true rfl) hfr, Nat.le_trans (Nat.le_of_ble_eq_true rfl) hlc⟩ ?_
          refine g_if_ne C 47 (by decide) dX8_again_38 (fun h23 => ?_) (fun h23 => ?_)
          · rw [if_pos h23] at hf
            refine g_ald_n C 0 rfl rfl dX8_again_41 ?_
            refine g_iconst C dX8_again_42 ?_
            obtain ⟨r24, μ25, hc26, hf⟩ := bn_some hf
            refine g_callVp (As := [vi 5]) (rest := []) C ⟨Nat.zero_le _, Nat.zero_le _⟩ dX8_again_43 cw_X8_refuseNumber m_2_118 m_2_120 m_0_3 in_0 (ec_0 _ _ _ _ _) rfl rfl (c_X8_refuseNumber  hc26) rfl rfl (Nat.le_of_ble_eq_true rfl) ⟨Nat.le_trans (Nat.le_of_ble_eq_true rfl) hfr, Nat.le_trans (Nat.le_of_ble_eq_true rfl) hlc⟩ ?_
            exact g_iret C rfl dX8_again_46 hf
          · rw [if_neg h23] at hf
            refine g_ald_n C 0 rfl rfl dX8_again_47 ?_
            refine g_get C dX8_again_48 fl_X8_50 in_0 (ec_0 _ _ _ _ _) rfl ?_
            refine g_get C dX8_again_51 fl_X8_130 in_15 (ec_15 _ _ _ _ _) rfl ?_
            refine g_ild_n C 1 rfl rfl dX8_again_54 ?_
            obtain ⟨g27, hf⟩ := gd_some hf
            refine g_aaldI C dX8_again_55 in_16 (fun _ => ec_16 _ _ _ _ _) rfl g27 ?_
            refine g_ast (lo' := [(5, vr α 17 (ix a1)), (0, vr α 0 0), (1, vi a1), (2, vi a2), (3, vi a3), (4, vi a4)]) C (by decide) rfl dX8_again_56 ?_
            refine g_ald_n C 1 rfl rfl dX8_again_58 ?_
            refine g_get C dX8_again_59 fl_X8_35 in_0 (ec_0 _ _ _ _ _) rfl ?_
            obtain ⟨r28, μ29, hc30, hf⟩ := bn_some hf
            refine g_callVp (As := []) (rest := []) C ⟨Nat.zero_le _, Nat.zero_le _⟩ dX8_again_62 cw_X3_empty m_2_152 m_2_153 m_2_154 in_5 (ec_5 _ _ _ _ _) rfl rfl (c_X3_empty  hc30) rfl rfl (Nat.le_of_ble_eq_true rfl) ⟨Nat.le_trans (Nat.le_of_ble_eq_true rfl) hfr, Nat.le_trans (Nat.le_of_ble_eq_true rfl) hlc⟩ ?_
            refine g_ald_n C 1 rfl rfl dX8_again_65 ?_
            refine g_get C dX8_again_66 fl_X8_35 in_0 (ec_0 _ _ _ _ _) rfl ?_
            refine g_ald C 0 rfl dX8_again_69 ?_
            refine g_ild_n C 4 rfl rfl dX8_again_71 ?_
            refine g_ild_n C 3 rfl rfl dX8_again_72 ?_
            refine g_isub C dX8_again_73 ?_
            refine g_i2l C dX8_again_74 ?_
            refine g_ald C 0 rfl dX8_again_75 ?_
            refine g_get C dX8_again_77 fl_X8_134 (in_17 (inb_ix g27)) (ec_17 _ _ _ _ _) rfl ?_
            refine g_i2l C dX8_again_80 ?_
            refine g_lmul C dX8_again_81 ?_
            obtain ⟨r31, μ32, hc33, hf⟩ := bn_some hf
            refine g_callVp (As := [vr α 17 (ix a1), vl ((w32 (a3 - a2)) * (w32 (μ29 17 (ix a1) 4)))]) (rest := []) C ⟨Nat.zero_le _, Nat.zero_le _⟩ dX8_again_82 cw_X3_addOnce m_2_204 m_2_205 m_2_206 in_5 (ec_5 _ _ _ _ _) rfl rfl (c_X3_addOnce (inb_ix g27) hc33) rfl rfl (Nat.le_of_ble_eq_true rfl) ⟨Nat.le_trans (Nat.le_of_ble_eq_true rfl) hfr, Nat.le_trans (Nat.le_of_ble_eq_true rfl) hlc⟩ ?_
            refine g_ald_n C 1 rfl rfl dX8_again_85 ?_
            refine g_get C dX8_again_86 fl_X8_35 in_0 (ec_0 _ _ _ _ _) rfl ?_
            refine g_ald C 0 rfl dX8_again_89 ?_
            refine g_ild_n C 3 rfl rfl dX8_again_91 ?_
            refine g_i2l C dX8_again_92 ?_
            obtain ⟨r34, μ35, hc36, hf⟩ := bn_some hf
            refine g_callVp (As := [vr α 17 (ix a1), vl (w32 a2)]) (rest := []) C ⟨Nat.zero_le _, Nat.zero_le _⟩ dX8_again_93 cw_X3_addTwice m_2_213 m_2_214 m_2_215 in_5 (ec_5 _ _ _ _ _) rfl rfl (c_X3_addTwice (inb_ix g27) hc36) rfl rfl (Nat.le_of_ble_eq_true rfl) ⟨Nat.le_trans (Nat.le_of_ble_eq_true rfl) hfr, Nat.le_trans (Nat.le_of_ble_eq_true rfl) hlc⟩ ?_
            refine g_ald_n C 1 rfl rfl dX8_again_96 ?_
            refine g_ild C 5 rfl dX8_again_97 ?_
            obtain ⟨r37, μ38, hc39, hf⟩ := bn_some hf
            refine g_callVp (As := [vi a4]) (rest := []) C ⟨Nat.zero_le _, Nat.zero_le _⟩ dX8_again_99 cw_X8_addPart m_2_161 m_2_163 m_0_4 in_0 (ec_0 _ _ _ _ _) rfl rfl (c_X8_addPart  hc39) rfl rfl (Nat.le_of_ble_eq_true rfl) ⟨Nat.le_trans (Nat.le_of_ble_eq_true rfl) hfr, Nat.le_trans (Nat.le_of_ble_eq_true rfl) hlc⟩ ?_
            exact g_iret C rfl dX8_again_102 hf
set_option maxHeartbeats 4000000 in
set_option maxRecDepth 100000 in
theorem c_X8_again {l : Launch} {D : va_G} {Y : Nat → ClassId} {α : Adr} {a1 : Int} {a2 : Int} {a3 : Int} {a4 : Int} {μ : Mem} {r : Int} {μ' : Mem}  (hf : f_X8_again a1 a2 a3 a4 μ = some (r, μ')) : Ctr l D Y LBx yX8_again cX8_again 6 (some .int) 4 89 0 0 [vr α 0 0, vi a1, vi a2, vi a3, vi a4] α μ (some (vi r)) (fun a => a = α) μ' := Ctr_of pn_X8 rfl rfl (Nat.le_of_ble_eq_true rfl) LBx_nd (fun p e s m below meth c sz C => b_X8_again C (Nat.le_refl _) (Nat.le_refl _)  hf)
end

/-! EndTeller.need -/
def f_X8_need (a1 : Int) (a2 : Int) (a3 : Int) (μ : Mem) : Option (Int × Mem) := bn (f_X7_hasPart a1 μ) (fun r1 μ2 => (if w32 r1 = 0 then bn (f_X8_refuse 2 μ2) (fun r5 μ6 => gd (bb r5) (some (r5, μ6))) else bn (f_X7_hasPart a2 μ2) (fun r9 μ10 => (if w32 r9 = 0 then bn (f_X8_refuse 2 μ10) (fun r13 μ14 => gd (bb r13) (some (r13, μ14))) else (if w32 a2 < w32 a1 then gd (inb a1 10) (bn (f_X1_setNeed (ix a1) a2 a3 μ10) (fun r19 μ20 => bn (f_X8_changed  μ20) (fun r22 μ23 => gd (bb r22) (some (r22, μ23))))) else bn (f_X8_refuse 5 μ10) (fun r26 μ27 => gd (bb r26) (some (r26, μ27))))))))
section
variable {p : Program} {l : Launch} {e : Env} {R : Room} {s : State} {m : MethodId} {args : Array Value} {below : List Frame} {meth : Method} {c : Code} {D : va_G} {Y : Nat → ClassId} {α : Adr} {sz : Nat} {r : Int} {μ' : Mem}
set_option maxHeartbeats 4000000 in
set_option maxRecDepth 100000 in
theorem b_X8_need {a1 : Int} {a2 : Int} {a3 : Int} {μ : Mem} (C : CX p s m args meth c cX8_need 4 RX8 (some .boolean) D Y LBx (Ar LBx α sz)) (hfr : 2 ≤ R.frames) (hlc : 40 ≤ R.locals)  (hf : f_X8_need a1 a2 a3 μ = some (r, μ')) : GG D Y LBx (Ar LBx α sz) p l e R s m args below meth c 4 (MQ below (Qcx D Y LBx α sz (some (vi r)) (fun a => a = α) μ') args s 0 0 (Ar LBx α sz)) α 0 0 [(0, vr α 0 0), (1, vi a1), (2, vi a2), (3, vi a3)] [] μ 0 := by
  unfold f_X8_need at hf
  refine g_ald_n C 0 rfl rfl dX8_need_0 ?_
  refine g_get C dX8_need_1 fl_X8_50 in_0 (ec_0 _ _ _ _ _) rfl ?_
  refine g_ild_n C 1 rfl rfl dX8_need_4 ?_
  obtain ⟨r1, μ2, hc3, hf⟩ := bn_some hf
  refine g_callVp (As := [vi a1]) (rest := []) C ⟨Nat.zero_le _, Nat.zero_le _⟩ dX8_need_5 cw_X7_hasPart m_2_200 m_2_201 m_2_202 in_15 (ec_15 _ _ _ _ _) rfl rfl (c_X7_hasPart  hc3) rfl rfl (Nat.le_of_ble_eq_true rfl) ⟨Nat.le_trans (Nat.le_of_ble_eq_true rfl) hfr, Nat.le_trans (Nat.le_of_ble_eq_true rfl) hlc⟩ ?_
  refine g_if_eq C 22 (by decide) dX8_need_8 (fun h4 => ?_) (fun h4 => ?_)
  · rw [if_pos h4] at hf
    refine g_ald_n C 0 rfl rfl dX8_need_22 ?_
    refine g_iconst C dX8_need_23 ?_
    obtain ⟨r5, μ6, hc7, hf⟩ := bn_some hf
    refine g_callVp (As := [vi 2]) (rest := []) C ⟨Nat.zero_le _, Nat.zero_le _⟩ dX8_need_24 cw_X8_refuse m_2_74 m_2_76 m_0_0 in_0 (ec_0 _ _ _ _ _) rfl rfl (c_X8_refuse  hc7) rfl rfl (Nat.le_of_ble_eq_true rfl) ⟨Nat.le_trans (Nat.le_of_ble_eq_true rfl) hfr, Nat.le_trans (Nat.le_of_ble_eq_true rfl) hlc⟩ ?_
    obtain ⟨g8, hf⟩ := gd_some hf
    exact g_zret C rfl g8 dX8_need_27 hf
  · rw [if_neg h4] at hf
    refine g_ald_n C 0 rfl rfl dX8_need_11 ?_
    refine g_get C dX8_need_12 fl_X8_50 in_0 (ec_0 _ _ _ _ _) rfl ?_
    refine g_ild_n C 2 rfl rfl dX8_need_15 ?_
    obtain ⟨r9, μ10, hc11, hf⟩ := bn_some hf
    refine g_callVp (As := [vi a2]) (rest := []) C ⟨Nat.zero_le _, Nat.zero_le _⟩ dX8_need_16 cw_X7_hasPart m_2_200 m_2_201 m_2_202 in_15 (ec_15 _ _ _ _ _) rfl rfl (c_X7_hasPart  hc11) rfl rfl (Nat.le_of_ble_eq_true rfl) ⟨Nat.le_trans (Nat.le_of_ble_eq_true rfl) hfr, Nat.le_trans (Nat.le_of_ble_eq_true rfl) hlc⟩ ?_
    refine g_if_ne C 28 (by decide) dX8_need_19 (fun h12 => ?_) (fun h12 => ?_)
    · rw [if_pos h12] at hf
      refine g_ald_n C 0 rfl rfl dX8_need_22 ?_
      refine g_iconst C dX8_need_23 ?_
      obtain ⟨r13, μ14, hc15, hf⟩ := bn_some hf
      refine g_callVp (As := [vi 2]) (rest := []) C ⟨Nat.zero_le _, Nat.zero_le _⟩ dX8_need_24 cw_X8_refuse m_2_74 m_2_76 m_0_0 in_0 (ec_0 _ _ _ _ _) rfl rfl (c_X8_refuse  hc15) rfl rfl (Nat.le_of_ble_eq_true rfl) ⟨Nat.le_trans (Nat.le_of_ble_eq_true rfl) hfr, Nat.le_trans (Nat.le_of_ble_eq_true rfl) hlc⟩ ?_
      obtain ⟨g16, hf⟩ := gd_some hf
      exact g_zret C rfl g16 dX8_need_27 hf
    · rw [if_neg h12] at hf
      refine g_ild_n C 2 rfl rfl dX8_need_28 ?_
      refine g_ild_n C 1 rfl rfl dX8_need_29 ?_
      refine g_ic_lt C 39 (by decide) dX8_need_30 (fun h17 => ?_) (fun h17 => ?_)
      · rw [if_pos h17] at hf
        refine g_ald_n C 0 rfl rfl dX8_need_39 ?_
        refine g_get C dX8_need_40 fl_X8_50 in_0 (ec_0 _ _ _ _ _) rfl ?_
        refine g_get C dX8_need_43 fl_X8_130 in_15 (ec_15 _ _ _ _ _) rfl ?_
        refine g_ild_n C 1 rfl rfl dX8_need_46 ?_
        obtain ⟨g18, hf⟩ := gd_some hf
        refine g_aaldI C dX8_need_47 in_16 (fun _ => ec_16 _ _ _ _ _) rfl g18 ?_
        refine g_ild_n C 2 rfl rfl dX8_need_48 ?_
        refine g_ild_n C 3 rfl rfl dX8_need_49 ?_
        obtain ⟨r19, μ20, hc21, hf⟩ := bn_some hf
        refine g_callVp (As := [vi a2, vi a3]) (rest := []) C ⟨Nat.zero_le _, Nat.zero_le _⟩ dX8_need_50 cw_X1_setNeed m_2_221 m_2_222 m_2_223 (in_17 (inb_ix g18)) (ec_17 _ _ _ _ _) rfl rfl (c_X1_setNeed (inb_ix g18) hc21) rfl rfl (Nat.le_of_ble_eq_true rfl) ⟨Nat.le_trans (Nat.le_of_ble_eq_true rfl) hfr, Nat.le_trans (Nat.le_of_ble_eq_true rfl) hlc⟩ ?_
        refine g_ald_n C 0 rfl rfl dX8_need_53 ?_
        obtain ⟨r22, μ23, hc24, hf⟩ := bn_some hf
        refine g_callVp (As := []) (rest := []) C ⟨Nat.zero_le _, Nat.zero_le _⟩ dX8_need_54 cw_X8_changed m_2_188 m_2_190 m_0_5 in_0 (ec_0 _ _ _ _ _) rfl rfl (c_X8_changed  hc24) rfl rfl (Nat.le_of_ble_eq_true rfl) ⟨Nat.le_trans (Nat.le_of_ble_eq_true rfl) hfr, Nat.le_trans (Nat.le_of_ble_eq_true rfl) hlc⟩ ?_
        obtain ⟨g25, hf⟩ := gd_some hf
        exact g_zret C rfl g25 dX8_need_57 hf
      · rw [if_neg h17] at hf
        refine g_ald_n C 0 rfl rfl dX8_need_33 ?_
        refine g_iconst C dX8_need_34 ?_
        obtain ⟨r26, μ27, hc28, hf⟩ := bn_some hf
        refine g_callVp (As := [vi 5]) (rest := []) C ⟨Nat.zero_le _, Nat.zero_le _⟩ dX8_need_35 cw_X8_refuse m_2_74 m_2_76 m_0_0 in_0 (ec_0 _ _ _ _ _) rfl rfl (c_X8_refuse  hc28) rfl rfl (Nat.le_of_ble_eq_true rfl) ⟨Nat.le_trans (Nat.le_of_ble_eq_true rfl) hfr, Nat.le_trans (Nat.le_of_ble_eq_true rfl) hlc⟩ ?_
        obtain ⟨g29, hf⟩ := gd_some hf
        exact g_zret C rfl g29 dX8_need_38 hf
set_option maxHeartbeats 4000000 in
set_option maxRecDepth 100000 in
theorem c_X8_need {l : Launch} {D : va_G} {Y : Nat → ClassId} {α : Adr} {a1 : Int} {a2 : Int} {a3 : Int} {μ : Mem} {r : Int} {μ' : Mem}  (hf : f_X8_need a1 a2 a3 μ = some (r, μ')) : Ctr l D Y LBx yX8_need cX8_need 4 (some .boolean) 2 40 0 0 [vr α 0 0, vi a1, vi a2, vi a3] α μ (some (vi r)) (fun a => a = α) μ' := Ctr_of pn_X8 rfl rfl (Nat.le_of_ble_eq_true rfl) LBx_nd (fun p e s m below meth c sz C => b_X8_need C (Nat.le_refl _) (Nat.le_refl _)  hf)
end

/-! EndTeller.cause -/
def f_X8_cause (a1 : Int) (a2 : Int) (μ : Mem) : Option (Int × Mem) := (if w32 a1 < w32 1 then bn (f_X8_refuseNumber 5 μ) (fun r2 μ3 => some (r2, μ3)) else (if w32 a2 ≤ w32 a1 then bn (f_X8_refuseNumber 5 μ) (fun r6 μ7 => some (r6, μ7)) else (if w32 a2 ≤ w32 12 then (if w32 (μ 15 0 4) < w32 4 then bn (f_X7_addCause a1 a2 μ) (fun r11 μ12 => bn (f_X8_changed  μ12) (fun r14 μ15 => some (((μ15 15 0 4) - 1), μ15))) else bn (f_X8_refuseNumber 7 μ) (fun r17 μ18 => some (r17, μ18))) else bn (f_X8_refuseNumber 5 μ) (fun r20 μ21 => some (r20, μ21)))))
section
variable {p : Program} {l : Launch} {e : Env} {R : Room} {s : State} {m : MethodId} {args : Array Value} {below : List Frame} {meth : Method} {c : Code} {D : va_G} {Y : Nat → ClassId} {α : Adr} {sz : Nat} {r : Int} {μ' : Mem}
set_option maxHeartbeats 4000000 in
set_option maxRecDepth 100000 in
theorem b_X8_cause {a1 : Int} {a2 : Int} {μ : Mem} (C : CX p s m args meth c cX8_cause 3 RX8 (some .int) D Y LBx (Ar LBx α sz)) (hfr : 2 ≤ R.frames) (hlc : 40 ≤ R.locals)  (hf : f_X8_cause a1 a2 μ = some (r, μ')) : GG D Y LBx (Ar LBx α sz) p l e R s m args below meth c 3 (MQ below (Qcx D Y LBx α sz (some (vi r)) (fun a => a = α) μ') args s 0 0 (Ar LBx α sz)) α 0 0 [(0, vr α 0 0), (1, vi a1), (2, vi a2)] [] μ 0 := by
  unfold f_X8_cause at hf
  refine g_ild_n C 1 rfl rfl dX8_cause_0 ?_
  refine g_iconst C dX8_cause_1 ?_
  refine g_ic_lt C 16 (by decide) dX8_cause_2 (fun h1 => ?_) (fun h1 => ?_)
  · rw [if_pos h1] at hf
    refine g_ald_n C 0 rfl rfl dX8_cause_16 ?_
    refine g_iconst C dX8_cause_17 ?_
    obtain ⟨r2, μ3, hc4, hf⟩ := bn_some hf
    refine g_callVp (As := [vi 5]) (rest := []) C ⟨Nat.zero_le _, Nat.zero_le _⟩ dX8_cause_18 cw_X8_refuseNumber m_2_118 m_2_120 m_0_3 in_0 (ec_0 _ _ _ _ _) rfl rfl (c_X8_refuseNumber  hc4) rfl rfl (Nat.le_of_ble_eq_true rfl) ⟨Nat.le_trans (Nat.le_of_ble_eq_true rfl) hfr, Nat.le_trans (Nat.le_of_ble_eq_true rfl) hlc⟩ ?_
    exact g_iret C rfl dX8_cause_21 hf
  · rw [if_neg h1] at hf
    refine g_ild_n C 1 rfl rfl dX8_cause_5 ?_
    refine g_ild_n C 2 rfl rfl dX8_cause_6 ?_
    refine g_ic_ge C 16 (by decide) dX8_cause_7 (fun h5 => ?_) (fun h5 => ?_)
    · rw [if_pos h5] at hf
      refine g_ald_n C 0 rfl rfl dX8_cause_16 ?_
      refine g_iconst C dX8_cause_17 ?_
      obtain ⟨r6, μ7, hc8, hf⟩ := bn_some hf
      refine g_callVp (As := [vi 5]) (rest := []) C ⟨Nat.zero_le _, Nat.zero_le _⟩ dX8_cause_18 cw_X8_refuseNumber m_2_118 m_2_120 m_0_3 in_0 (ec_0 _ _ _ _ _) rfl rfl (c_X8_refuseNumber  hc8) rfl rfl (Nat.le_of_ble_eq_true rfl) ⟨Nat.le_trans (Nat.le_of_ble_eq_true rfl) hfr, Nat.le_trans (Nat.le_of_ble_eq_true rfl) hlc⟩ ?_
      exact g_iret C rfl dX8_cause_21 hf
    · rw [if_neg h5] at hf
      refine g_ild_n C 2 rfl rfl dX8_cause_10 ?_
      refine g_bipush C rfl dX8_cause_11 ?_
      refine g_ic_le C 22 (by decide) dX8_cause_13 (fun h9 => ?_) (fun h9 => ?_)
      · rw [if_pos h9] at hf
        refine g_ald_n C 0 rfl rfl dX8_cause_22 ?_
        refine g_get C dX8_cause_23 fl_X8_50 in_0 (ec_0 _ _ _ _ _) rfl ?_
        refine g_get C dX8_cause_26 fl_X8_153 in_15 (ec_15 _ _ _ _ _) rfl ?_
        refine g_iconst C dX8_cause_29 ?_
        refine g_ic_lt C 40 (by decide) dX8_cause_30 (fun h10 => ?_) (fun h10 => ?_)
        · rw [if_pos h10] at hf
          refine g_ald_n C 0 rfl rfl dX8_cause_40 ?_
          refine g_get C dX8_cause_41 fl_X8_50 in_0 (ec_0 _ _ _ _ _) rfl ?_
          refine g_ild_n C 1 rfl rfl dX8_cause_44 ?_
          refine g_ild_n C 2 rfl rfl dX8_cause_45 ?_
          obtain ⟨r11, μ12, hc13, hf⟩ := bn_some hf
          refine g_callVp (As := [vi a1, vi a2]) (rest := []) C ⟨Nat.zero_le _, Nat.zero_le _⟩ dX8_cause_46 cw_X7_addCause m_2_229 m_2_230 m_2_231 in_15 (ec_15 _ _ _ _ _) rfl rfl (c_X7_addCause  hc13) rfl rfl (Nat.le_of_ble_eq_true rfl) ⟨Nat.le_trans (Nat.le_of_ble_eq_true rfl) hfr, Nat.le_trans (Nat.le_of_ble_eq_true rfl) hlc⟩ ?_
          refine g_ald_n C 0 rfl rfl dX8_cause_49 ?_
          obtain ⟨r14, μ15, hc16, hf⟩ := bn_some hf
          refine g_callVp (As := []) (rest := []) C ⟨Nat.zero_le _, Nat.zero_le _⟩ dX8_cause_50 cw_X8_changed m_2_188 m_2_190 m_0_5 in_0 (ec_0 _ _ _ _ _) rfl rfl (c_X8_changed  hc16) rfl rfl (Nat.le_of_ble_eq_true rfl) ⟨Nat.le_trans (Nat.le_of_ble_eq_true rfl) hfr, Nat.le_trans (Nat.le_of_ble_eq_true rfl) hlc⟩ ?_
          refine g_pop C rfl dX8_cause_53 ?_
          refine g_ald_n C 0 rfl rfl dX8_cause_54 ?_
          refine g_get C dX8_cause_55 fl_X8_50 in_0 (ec_0 _ _ _ _ _) rfl ?_
          refine g_get C dX8_cause_58 fl_X8_153 in_15 (ec_15 _ _ _ _ _) rfl ?_
          refine g_iconst C dX8_cause_61 ?_
          refine g_isub C dX8_cause_62 ?_
          exact g_iret C rfl dX8_cause_63 hf
        · rw [if_neg h10] at hf
          refine g_ald_n C 0 rfl rfl dX8_cause_33 ?_
          refine g_bipush C rfl dX8_cause_34 ?_
          obtain ⟨r17, μ18, hc19, hf⟩ := bn_some hf
          refine g_callVp (As := [vi 7]) (rest := []) C ⟨Nat.zero_le _, Nat.zero_le _⟩ dX8_cause_36 cw_X8_refuseNumber m_2_118 m_2_120 m_0_3 in_0 (ec_0 _ _ _ _ _) rfl rfl (c_X8_refuseNumber  hc19) rfl rfl (Nat.le_of_ble_eq_true rfl) ⟨Nat.le_trans (Nat.le_of_ble_eq_true rfl) hfr, Nat.le_trans (Nat.le_of_ble_eq_true rfl) hlc⟩ ?_
          exact g_iret C rfl dX8_cause_39 hf
      · rw [if_neg h9] at hf
        refine g_ald_n C 0 rfl rfl dX8_cause_16 ?_
        refine g_iconst C dX8_cause_17 ?_
        obtain ⟨r20, μ21, hc22, hf⟩ := bn_some hf
        refine g_callVp (As := [vi 5]) (rest := []) C ⟨Nat.zero_le _, Nat.zero_le _⟩ dX8_cause_18 cw_X8_refuseNumber m_2_118 m_2_120 m_0_3 in_0 (ec_0 _ _ _ _ _) rfl rfl (c_X8_refuseNumber  hc22) rfl rfl (Nat.le_of_ble_eq_true rfl) ⟨Nat.le_trans (Nat.le_of_ble_eq_true rfl) hfr, Nat.le_trans (Nat.le_of_ble_eq_true rfl) hlc⟩ ?_
        exact g_iret C rfl dX8_cause_21 hf
set_option maxHeartbeats 4000000 in
set_option maxRecDepth 100000 in
theorem c_X8_cause {l : Launch} {D : va_G} {Y : Nat → ClassId} {α : Adr} {a1 : Int} {a2 : Int} {μ : Mem} {r : Int} {μ' : Mem}  (hf : f_X8_cause a1 a2 μ = some (r, μ')) : Ctr l D Y LBx yX8_cause cX8_cause 3 (some .int) 2 40 0 0 [vr α 0 0, vi a1, vi a2] α μ (some (vi r)) (fun a => a = α) μ' := Ctr_of pn_X8 rfl rfl (Nat.le_of_ble_eq_true rfl) LBx_nd (fun p e s m below meth c sz C => b_X8_cause C (Nat.le_refl _) (Nat.le_refl _)  hf)
end

/-! EndTeller.late -/
def f_X8_late (a1 : Int) (a2 : Int) (a3 : Int) (μ : Mem) : Option (Int × Mem) := bn (f_X7_hasPart a1 μ) (fun r1 μ2 => (if w32 r1 = 0 then bn (f_X8_refuse 2 μ2) (fun r5 μ6 => gd (bb r5) (some (r5, μ6))) else (if w32 a2 < 0 then bn (f_X8_refuse 2 μ2) (fun r10 μ11 => gd (bb r10) (some (r10, μ11))) else (if w32 a2 < w32 (μ2 15 0 4) then (if w32 a3 < 0 then bn (f_X8_refuse 5 μ2) (fun r16 μ17 => gd (bb r16) (some (r16, μ17))) else (if w32 a3 ≤ w32 99 then gd (inb a1 10) (gd (inb a2 4) (bn (f_X8_changed  (st μ2 20 (ix a1) (ix a2) a3)) (fun r23 μ24 => gd (bb r23) (some (r23, μ24))))) else bn (f_X8_refuse 5 μ2) (fun r27 μ28 => gd (bb r27) (some (r27, μ28))))) else bn (f_X8_refuse 2 μ2) (fun r31 μ32 => gd (bb r31) (some (r31, μ32)))))))
section
variable {p : Program} {l : Launch} {e : Env} {R : Room} {s : State} {m : MethodId} {args : Array Value} {below : List Frame} {meth : Method} {c : Code} {D : va_G} {Y : Nat → ClassId} {α : Adr} {sz : Nat} {r : Int} {μ' : Mem}
set_option maxHeartbeats 4000000 in
set_option maxRecDepth 100000 in
theorem b_X8_late {a1 : Int} {a2 : Int} {a3 : Int} {μ : Mem} (C : CX p s m args meth c cX8_late 4 RX8 (some .boolean) D Y LBx (Ar LBx α sz)) (hfr : 2 ≤ R.frames) (hlc : 40 ≤ R.locals)  (hf : f_X8_late a1 a2 a3 μ = some (r, μ')) : GG D Y LBx (Ar LBx α sz) p l e R s m args below meth c 4 (MQ below (Qcx D Y LBx α sz (some (vi r)) (fun a => a = α) μ') args s 0 0 (Ar LBx α sz)) α 0 0 [(0, vr α 0 0), (1, vi a1), (2, vi a2), (3, vi a3)] [] μ 0 := by
  unfold f_X8_late at hf
  refine g_ald_n C 0 rfl rfl dX8_late_0 ?_
  refine g_get C dX8_late_1 fl_X8_50 in_0 (ec_0 _ _ _ _ _) rfl ?_
  refine g_ild_n C 1 rfl rfl dX8_late_4 ?_
  obtain ⟨r1, μ2, hc3, hf⟩ := bn_some hf
  refine g_callVp (As := [vi a1]) (rest := []) C ⟨Nat.zero_le _, Nat.zero_le _⟩ dX8_late_5 cw_X7_hasPart m_2_200 m_2_201 m_2_202 in_15 (ec_15 _ _ _ _ _) rfl rfl (c_X7_hasPart  hc3) rfl rfl (Nat.le_of_ble_eq_true rfl) ⟨Nat.le_trans (Nat.le_of_ble_eq_true rfl) hfr, Nat.le_trans (Nat.le_of_ble_eq_true rfl) hlc⟩ ?_
  refine g_if_eq C 26 (by decide) dX8_late_8 (fun h4 => ?_) (fun h4 => ?_)
  · rw [if_pos h4] at hf
    refine g_ald_n C 0 rfl rfl dX8_late_26 ?_
    refine g_iconst C dX8_late_27 ?_
    obtain ⟨r5, μ6, hc7, hf⟩ := bn_some hf
    refine g_callVp (As := [vi 2]) (rest := []) C ⟨Nat.zero_le _, Nat.zero_le _⟩ dX8_late_28 cw_X8_refuse m_2_74 m_2_76 m_0_0 in_0 (ec_0 _ _ _ _ _) rfl rfl (c_X8_refuse  hc7) rfl rfl (Nat.le_of_ble_eq_true rfl) ⟨Nat.le_trans (Nat.le_of_ble_eq_true rfl) hfr, Nat.le_trans (Nat.le_of_ble_eq_true rfl) hlc⟩ ?_
    obtain ⟨g8, hf⟩ := gd_some hf
    exact g_zret C rfl g8 dX8_late_31 hf
  · rw [if_neg h4] at hf
    refine g_ild_n C 2 rfl rfl dX8_late_11 ?_
    refine g_if_lt C 26 (by decide) dX8_late_12 (fun h9 => ?_) (fun h9 => ?_)
    · rw [if_pos h9] at hf
      refine g_ald_n C 0 rfl rfl dX8_late_26 ?_
      refine g_iconst C dX8_late_27 ?_
      obtain ⟨r10, μ11, hc12, hf⟩ := bn_some hf
      refine g_callVp (As := [vi 2]) (rest := []) C ⟨Nat.zero_le _, Nat.zero_le _⟩ dX8_late_28 cw_X8_refuse m_2_74 m_2_76 m_0_0 in_0 (ec_0 _ _ _ _ _) rfl rfl (c_X8_refuse  hc12) rfl rfl (Nat.le_of_ble_eq_true rfl) ⟨Nat.le_trans (Nat.le_of_ble_eq_true rfl) hfr, Nat.le_trans (Nat.le_of_ble_eq_true rfl) hlc⟩ ?_
      obtain ⟨g13, hf⟩ := gd_some hf
      exact g_zret C rfl g13 dX8_late_31 hf
    · rw [if_neg h9] at hf
      refine g_ild_n C 2 rfl rfl dX8_late_15 ?_
      refine g_ald_n C 0 rfl rfl dX8_late_16 ?_
      refine g_get C dX8_late_17 fl_X8_50 in_0 (ec_0 _ _ _ _ _) rfl ?_
      refine g_get C dX8_late_20 fl_X8_153 in_15 (ec_15 _ _ _ _ _) rfl ?_
      refine g_ic_lt C 32 (by decide) dX8_late_23 (fun h14 => ?_) (fun h14 => ?_)
      · rw [if_pos h14] at hf
        refine g_ild_n C 3 rfl rfl dX8_late_32 ?_
        refine g_if_lt C 42 (by decide) dX8_late_33 (fun h15 => ?_) (fun h15 => ?_)
        · rw [if_pos h15] at hf
          refine g_ald_n C 0 rfl rfl dX8_late_42 ?_
          refine g_iconst C dX8_late_43 ?_
          obtain ⟨r16, μ17, hc18, hf⟩ := bn_some hf
          refine g_callVp (As := [vi 5]) (rest := []) C ⟨Nat.zero_le _, Nat.zero_le _⟩ dX8_late_44 cw_X8_refuse m_2_74 m_2_76 m_0_0 in_0 (ec_0 _ _ _ _ _) rfl rfl (c_X8_refuse  hc18) rfl rfl (Nat.le_of_ble_eq_true rfl) ⟨Nat.le_trans (Nat.le_of_ble_eq_true rfl) hfr, Nat.le_trans (Nat.le_of_ble_eq_true rfl) hlc⟩ ?_
          obtain ⟨g19, hf⟩ := gd_some hf
          exact g_zret C rfl g19 dX8_late_47 hf
        · rw [if_neg h15] at hf
          refine g_ild_n C 3 rfl rfl dX8_late_36 ?_
          refine g_bipush C rfl dX8_late_37 ?_
          refine g_ic_le C 48 (by decide) dX8_late_39 (fun h20 => ?_) (fun h20 => ?_)
          · rw [if_pos h20] at hf
            refine g_ald_n C 0 rfl rfl dX8_late_48 ?_
            refine g_get C dX8_late_49 fl_X8_50 in_0 (ec_0 _ _ _ _ _) rfl ?_
            refine g_get C dX8_late_52 fl_X8_130 in_15 (ec_15 _ _ _ _ _) rfl ?_
            refine g_ild_n C 1 rfl rfl dX8_late_55 ?_
            obtain ⟨g21, hf⟩ := gd_some hf
            refine g_aaldI C dX8_late_56 in_16 (fun _ => ec_16 _ _ _ _ _) rfl g21 ?_
            refine g_get C dX8_late_57 fl_X8_159 (in_17 (inb_ix g21)) (ec_17 _ _ _ _ _) rfl ?_
            refine g_ild_n C 2 rfl rfl dX8_late_60 ?_
            refine g_ild_n C 3 rfl rfl dX8_late_61 ?_
            obtain ⟨g22, hf⟩ := gd_some hf
            refine g_iast C dX8_late_62 (in_20 (inb_ix g21)) (fun _ => ec_20 _ _ _ _ _) (by decide) g22 ?_
            refine g_ald_n C 0 rfl rfl dX8_late_63 ?_
            obtain ⟨r23, μ24, hc25, hf⟩ := bn_some hf
            refine g_callVp (As := []) (rest := []) C ⟨Nat.zero_le _, Nat.zero_le _⟩ dX8_late_64 cw_X8_changed m_2_188 m_2_190 m_0_5 in_0 (ec_0 _ _ _ _ _) rfl rfl (c_X8_changed  hc25) rfl rfl (Nat.le_of_ble_eq_true rfl) ⟨Nat.le_trans (Nat.le_of_ble_eq_true rfl) hfr, Nat.le_trans (Nat.le_of_ble_eq_true rfl) hlc⟩ ?_
            obtain ⟨g26, hf⟩ := gd_some hf
            exact g_zret C rfl g26 dX8_late_67 hf
          · rw [if_neg h20] at hf
            refine g_ald_n C 0 rfl rfl dX8_late_42 ?_
            refine g_iconst C dX8_late_43 ?_
            obtain ⟨r27, μ28, hc29, hf⟩ := bn_some hf
            refine g_callVp (As := [vi 5]) (rest := []) C ⟨Nat.zero_le _, Nat.zero_le _⟩ dX8_late_44 cw_X8_refuse m_2_74 m_2_76 m_0_0 in_0 (ec_0 _ _ _ _ _) rfl rfl (c_X8_refuse  hc29) rfl rfl (Nat.le_of_ble_eq_true rfl) ⟨Nat.le_trans (Nat.le_of_ble_eq_true rfl) hfr, Nat.le_trans (Nat.le_of_ble_eq_true rfl) hlc⟩ ?_
            obtain ⟨g30, hf⟩ := gd_some hf
            exact g_zret C rfl g30 dX8_late_47 hf
      · rw [if_neg h14] at hf
        refine g_ald_n C 0 rfl rfl dX8_late_26 ?_
        refine g_iconst C dX8_late_27 ?_
        obtain ⟨r31, μ32, hc33, hf⟩ := bn_some hf
        refine g_callVp (As := [vi 2]) (rest := []) C ⟨Nat.zero_le _, Nat.zero_le _⟩ dX8_late_28 cw_X8_refuse m_2_74 m_2_76 m_0_0 in_0 (ec_0 _ _ _ _ _) rfl rfl (c_X8_refuse  hc33) rfl rfl (Nat.le_of_ble_eq_true rfl) ⟨Nat.le_trans (Nat.le_of_ble_eq_true rfl) hfr, Nat.le_trans (Nat.le_of_ble_eq_true rfl) hlc⟩ ?_
        obtain ⟨g34, hf⟩ := gd_some hf
        exact g_zret C rfl g34 dX8_late_31 hf
set_option maxHeartbeats 4000000 in
set_option maxRecDepth 100000 in
theorem c_X8_late {l : Launch} {D : va_G} {Y : Nat → ClassId} {α : Adr} {a1 : Int} {a2 : Int} {a3 : Int} {μ : Mem} {r : Int} {μ' : Mem}  (hf : f_X8_late a1 a2 a3 μ = some (r, μ')) : Ctr l D Y LBx yX8_late cX8_late 4 (some .boolean) 2 40 0 0 [vr α 0 0, vi a1, vi a2, vi a3] α μ (some (vi r)) (fun a => a = α) μ' := Ctr_of pn_X8 rfl rfl (Nat.le_of_ble_eq_true rfl) LBx_nd (fun p e s m below meth c sz C => b_X8_late C (Nat.le_refl _) (Nat.le_refl _)  hf)
end

/-! EndTeller.hands -/
def f_X8_hands (a1 : Int) (μ : Mem) : Option (Int × Mem) := (if w32 a1 < w32 1 then bn (f_X8_refuse 5 μ) (fun r2 μ3 => gd (bb r2) (some (r2, μ3))) else (if w32 a1 ≤ w32 30 then bn (f_X8_changed  (st μ 15 0 5 a1)) (fun r7 μ8 => gd (bb r7) (some (r7, μ8))) else bn (f_X8_refuse 5 μ) (fun r11 μ12 => gd (bb r11) (some (r11, μ12)))))
section
variable {p : Program} {l : Launch} {e : Env} {R : Room} {s : State} {m : MethodId} {args : Array Value} {below : List Frame} {meth : Method} {c : Code} {D : va_G} {Y : Nat → ClassId} {α : Adr} {sz : Nat} {r : Int} {μ' : Mem}
set_option maxHeartbeats 4000000 in
set_option maxRecDepth 100000 in
theorem b_X8_hands {a1 : Int} {μ : Mem} (C : CX p s m args meth c cX8_hands 2 RX8 (some .boolean) D Y LBx (Ar LBx α sz)) (hfr : 2 ≤ R.frames) (hlc : 40 ≤ R.locals)  (hf : f_X8_hands a1 μ = some (r, μ')) : GG D Y LBx (Ar LBx α sz) p l e R s m args below meth c 2 (MQ below (Qcx D Y LBx α sz (some (vi r)) (fun a => a = α) μ') args s 0 0 (Ar LBx α sz)) α 0 0 [(0, vr α 0 0), (1, vi a1)] [] μ 0 := by
  unfold f_X8_hands at hf
  refine g_ild_n C 1 rfl rfl dX8_hands_0 ?_
  refine g_iconst C dX8_hands_1 ?_
  refine g_ic_lt C 11 (by decide) dX8_hands_2 (fun h1 => ?_) (fun h1 => ?_)
  · rw [if_pos h1] at hf
    refine g_ald_n C 0 rfl rfl dX8_hands_11 ?_
    refine g_iconst C dX8_hands_12 ?_
    obtain ⟨r2, μ3, hc4, hf⟩ := bn_some hf
    refine g_callVp (As := [vi 5]) (rest := []) C ⟨Nat.zero_le _, Nat.zero_le _⟩ dX8_hands_13 cw_X8_refuse m_2_74 m_2_76 m_0_0 in_0 (ec_0 _ _ _ _ _) rfl rfl (c_X8_refuse  hc4) rfl rfl (Nat.le_of_ble_eq_true rfl) ⟨Nat.le_trans (Nat.le_of_ble_eq_true rfl) hfr, Nat.le_trans (Nat.le_of_ble_eq_true rfl) hlc⟩ ?_
    obtain ⟨g5, hf⟩ := gd_some hf
    exact g_zret C rfl g5 dX8_hands_16 hf
  · rw [if_neg h1] at hf
    refine g_ild_n C 1 rfl rfl dX8_hands_5 ?_
    refine g_bipush C rfl dX8_hands_6 ?_
    refine g_ic_le C 17 (by decide) dX8_hands_8 (fun h6 => ?_) (fun h6 => ?_)
    · rw [if_pos h6] at hf
      refine g_ald_n C 0 rfl rfl dX8_hands_17 ?_
      refine g_get C dX8_hands_18 fl_X8_50 in_0 (ec_0 _ _ _ _ _) rfl ?_
      refine g_ild_n C 1 rfl rfl dX8_hands_21 ?_
      refine g_puti C dX8_hands_22 fl_X8_163 in_15 (ec_15 _ _ _ _ _) (Nat.le_of_ble_eq_true rfl) rfl (by decide) ?_
      refine g_ald_n C 0 rfl rfl dX8_hands_25 ?_
      obtain ⟨r7, μ8, hc9, hf⟩ := bn_some hf
      refine g_callVp (As := []) (rest := []) C ⟨Nat.zero_le _, Nat.zero_le _⟩ dX8_hands_26 cw_X8_changed m_2_188 m_2_190 m_0_5 in_0 (ec_0 _ _ _ _ _) rfl rfl (c_X8_changed  hc9) rfl rfl (Nat.le_of_ble_eq_true rfl) ⟨Nat.le_trans (Nat.le_of_ble_eq_true rfl) hfr, Nat.le_trans (Nat.le_of_ble_eq_true rfl) hlc⟩ ?_
      obtain ⟨g10, hf⟩ := gd_some hf
      exact g_zret C rfl g10 dX8_hands_29 hf
    · rw [if_neg h6] at hf
      refine g_ald_n C 0 rfl rfl dX8_hands_11 ?_
      refine g_iconst C dX8_hands_12 ?_
      obtain ⟨r11, μ12, hc13, hf⟩ := bn_some hf
      refine g_callVp (As := [vi 5]) (rest := []) C ⟨Nat.zero_le _, Nat.zero_le _⟩ dX8_hands_13 cw_X8_refuse m_2_74 m_2_76 m_0_0 in_0 (ec_0 _ _ _ _ _) rfl rfl (c_X8_refuse  hc13) rfl rfl (Nat.le_of_ble_eq_true rfl) ⟨Nat.le_trans (Nat.le_of_ble_eq_true rfl) hfr, Nat.le_trans (Nat.le_of_ble_eq_true rfl) hlc⟩ ?_
      obtain ⟨g14, hf⟩ := gd_some hf
      exact g_zret C rfl g14 dX8_hands_16 hf
set_option maxHeartbeats 4000000 in
set_option maxRecDepth 100000 in
theorem c_X8_hands {l : Launch} {D : va_G} {Y : Nat → ClassId} {α : Adr} {a1 : Int} {μ : Mem} {r : Int} {μ' : Mem}  (hf : f_X8_hands a1 μ = some (r, μ')) : Ctr l D Y LBx yX8_hands cX8_hands 2 (some .boolean) 2 40 0 0 [vr α 0 0, vi a1] α μ (some (vi r)) (fun a => a = α) μ' := Ctr_of pn_X8 rfl rfl (Nat.le_of_ble_eq_true rfl) LBx_nd (fun p e s m below meth c sz C => b_X8_hands C (Nat.le_refl _) (Nat.le_refl _)  hf)
end

/-! EndTeller.clear -/
def f_X8_clear  (μ : Mem) : Option (Int × Mem) := bn (f_X7_forget  μ) (fun r1 μ2 => bn (f_X8_changed  μ2) (fun r4 μ5 => gd (bb r4) (some (r4, μ5))))
section
variable {p : Program} {l : Launch} {e : Env} {R : Room} {s : State} {m : MethodId} {args : Array Value} {below : List Frame} {meth : Method} {c : Code} {D : va_G} {Y : Nat → ClassId} {α : Adr} {sz : Nat} {r : Int} {μ' : Mem}
set_option maxHeartbeats 4000000 in
set_option maxRecDepth 100000 in
theorem b_X8_clear  {μ : Mem} (C : CX p s m args meth c cX8_clear 1 RX8 (some .boolean) D Y LBx (Ar LBx α sz)) (hfr : 2 ≤ R.frames) (hlc : 40 ≤ R.locals)  (hf : f_X8_clear μ = some (r, μ')) : GG D Y LBx (Ar LBx α sz) p l e R s m args below meth c 1 (MQ below (Qcx D Y LBx α sz (some (vi r)) (fun a => a = α) μ') args s 0 0 (Ar LBx α sz)) α 0 0 [(0, vr α 0 0)] [] μ 0 := by
  unfold f_X8_clear at hf
  refine g_ald_n C 0 rfl rfl dX8_clear_0 ?_
  refine g_get C dX8_clear_1 fl_X8_50 in_0 (ec_0 _ _ _ _ _) rfl ?_
  obtain ⟨r1, μ2, hc3, hf⟩ := bn_some hf
  refine g_callVp (As := []) (rest := []) C ⟨Nat.zero_le _, Nat.zero_le _⟩ dX8_clear_4 cw_X7_forget m_3_5 m_3_6 m_3_7 in_15 (ec_15 _ _ _ _ _) rfl rfl (c_X7_forget  hc3) rfl rfl (Nat.le_of_ble_eq_true rfl) ⟨Nat.le_trans (Nat.le_of_ble_eq_true rfl) hfr, Nat.le_trans (Nat.le_of_ble_eq_true rfl) hlc⟩ ?_
  refine g_ald_n C 0 rfl rfl dX8_clear_7 ?_
  obtain ⟨r4, μ5, hc6, hf⟩ := bn_some hf
  refine g_callVp (As := []) (rest := []) C ⟨Nat.zero_le _, Nat.zero_le _⟩ dX8_clear_8 cw_X8_changed m_2_188 m_2_190 m_0_5 in_0 (ec_0 _ _ _ _ _) rfl rfl (c_X8_changed  hc6) rfl rfl (Nat.le_of_ble_eq_true rfl) ⟨Nat.le_trans (Nat.le_of_ble_eq_true rfl) hfr, Nat.le_trans (Nat.le_of_ble_eq_true rfl) hlc⟩ ?_
  obtain ⟨g7, hf⟩ := gd_some hf
  exact g_zret C rfl g7 dX8_clear_11 hf
set_option maxHeartbeats 4000000 in
set_option maxRecDepth 100000 in
theorem c_X8_clear {l : Launch} {D : va_G} {Y : Nat → ClassId} {α : Adr}  {μ : Mem} {r : Int} {μ' : Mem}  (hf : f_X8_clear μ = some (r, μ')) : Ctr l D Y LBx yX8_clear cX8_clear 1 (some .boolean) 2 40 0 0 [vr α 0 0] α μ (some (vi r)) (fun a => a = α) μ' := Ctr_of pn_X8 rfl rfl (Nat.le_of_ble_eq_true rfl) LBx_nd (fun p e s m below meth c sz C => b_X8_clear C (Nat.le_refl _) (Nat.le_refl _)  hf)
end

/-! EndTeller.told -/
def f_X8_told (a1 : Int) (a2 : Int) (μ : Mem) : Option (Int × Mem) := bn (f_X7_hasPart a1 μ) (fun r1 μ2 => (if w32 r1 = 0 then bn (f_X8_refuseNumber 2 μ2) (fun r5 μ6 => some (r5, μ6)) else (if w32 a2 < 0 then bn (f_X8_refuseNumber 5 μ2) (fun r9 μ10 => some (r9, μ10)) else (if w32 a2 ≤ w32 4 then gd (inb a1 10) ((if w32 a2 = 0 then some (((st μ2 0 0 0 0) 17 (ix a1) 3), (st μ2 0 0 0 0)) else (if w32 a2 = 1 then some (((st μ2 0 0 0 0) 17 (ix a1) 4), (st μ2 0 0 0 0)) else (if w32 a2 = 2 then some (((st μ2 0 0 0 0) 17 (ix a1) 5), (st μ2 0 0 0 0)) else (if w32 a2 = 3 then bn (f_J6_bitCount_0f7a4 ((st μ2 0 0 0 0) 17 (ix a1) 6) (st μ2 0 0 0 0)) (fun r18 μ19 => some (r18, μ19)) else some (((st μ2 0 0 0 0) 17 (ix a1) 7), (st μ2 0 0 0 0))))))) else bn (f_X8_refuseNumber 5 μ2) (fun r21 μ22 => some (r21, μ22))))))
section
variable {p : Program} {l : Launch} {e : Env} {R : Room} {s : State} {m : MethodId} {args : Array Value} {below : List Frame} {meth : Method} {c : Code} {D : va_G} {Y : Nat → ClassId} {α : Adr} {sz : Nat} {r : Int} {μ' : Mem}
set_option maxHeartbeats 4000000 in
set_option maxRecDepth 100000 in
theorem b_X8_told {a1 : Int} {a2 : Int} {μ : Mem} (C : CX p s m args meth c cX8_told 4 RX8 (some .int) D Y LBx (Ar LBx α sz)) (hfr : 1 ≤ R.frames) (hlc : 21 ≤ R.locals)  (hf : f_X8_told a1 a2 μ = some (r, μ')) : GG D Y LBx (Ar LBx α sz) p l e R s m args below meth c 4 (MQ below (Qcx D Y LBx α sz (some (vi r)) (fun a => a = α) μ') args s 0 0 (Ar LBx α sz)) α 0 0 [(0, vr α 0 0), (1, vi a1), (2, vi a2)] [] μ 0 := by
  unfold f_X8_told at hf
  refine g_ald_n C 0 rfl rfl dX8_told_0 ?_
  refine g_get C dX8_told_1 fl_X8_50 in_0 (ec_0 _ _ _ _ _) rfl ?_
  refine g_ild_n C 1 rfl rfl dX8_told_4 ?_
  obtain ⟨r1, μ2, hc3, hf⟩ := bn_some hf
  refine g_callVp (As := [vi a1]) (rest := []) C ⟨Nat.zero_le _, Nat.zero_le _⟩ dX8_told_5 cw_X7_hasPart m_2_200 m_2_201 m_2_202 in_15 (ec_15 _ _ _ _ _) rfl rfl (c_X7_hasPart  hc3) rfl rfl (Nat.le_of_ble_eq_true rfl) ⟨Nat.le_trans (Nat.le_of_ble_eq_true rfl) hfr, Nat.le_trans (Nat.le_of_ble_eq_true rfl) hlc⟩ ?_
  refine g_if_ne C 17 (by decide) dX8_told_8 (fun h4 => ?_) (fun h4 => ?_)
  · rw [if_pos h4] at hf
    refine g_ald_n C 0 rfl rfl dX8_told_11 ?_
    refine g_iconst C dX8_told_12 ?_
    obtain ⟨r5, μ6, hc7, hf⟩ := bn_some hf
    refine g_callVp (As := [vi 2]) (rest := []) C ⟨Nat.zero_le _, Nat.zero_le _⟩ dX8_told_13 cw_X8_refuseNumber m_2_118 m_2_120 m_0_3 in_0 (ec_0 _ _ _ _ _) rfl rfl (c_X8_refuseNumber  hc7) rfl rfl (Nat.le_of_ble_eq_true rfl) ⟨Nat.le_trans (Nat.le_of_ble_eq_true rfl) hfr, Nat.le_trans (Nat.le_of_ble_eq_true rfl) hlc⟩ ?_
    exact g_iret C rfl dX8_told_16 hf
  · rw [if_neg h4] at hf
    refine g_ild_n C 2 rfl rfl dX8_told_17 ?_
    refine g_if_lt C 26 (by decide) dX8_told_18 (fun h8 => ?_) (fun h8 => ?_)
    · rw [if_pos h8] at hf
      refine g_ald_n C 0 rfl rfl dX8_told_26 ?_
      refine g_iconst C dX8_told_27 ?_
      obtain ⟨r9, μ10, hc11, hf⟩ := bn_some hf
      refine g_callVp (As := [vi 5]) (rest := []) C ⟨Nat.zero_le _, Nat.zero_le _⟩ dX8_told_28 cw_X8_refuseNumber m_2_118 m_2_120 m_0_3 in_0 (ec_0 _ _ _ _ _) rfl rfl (c_X8_refuseNumber  hc11) rfl rfl (Nat.le_of_ble_eq_true rfl) ⟨Nat.le_trans (Nat.le_of_ble_eq_true rfl) hfr, Nat.le_trans (Nat.le_of_ble_eq_true rfl) hlc⟩ ?_
      exact g_iret C rfl dX8_told_31 hf
    · rw [if_neg h8] at hf
      refine g_ild_n C 2 rfl rfl dX8_told_21 ?_
      refine g_iconst C dX8_told_22 ?_
      refine g_ic_le C 32 (by decide) dX8_told_23 (fun h12 => ?_) (fun h12 => ?_)
      · rw [if_pos h12] at hf
        refine g_ald_n C 0 rfl rfl dX8_told_32 ?_
        refine g_iconst C dX8_told_33 ?_
        refine g_puti C dX8_told_34 fl_X8_9 in_0 (ec_0 _ _ _ _ _) (Nat.le_of_ble_eq_true rfl) rfl (by decide) ?_
        refine g_ald_n C 0 rfl rfl dX8_told_37 ?_
        refine g_get C dX8_told_38 fl_X8_50 in_0 (ec_0 _ _ _ _ _) rfl ?_
        refine g_get C dX8_told_41 fl_X8_130 in_15 (ec_15 _ _ _ _ _) rfl ?_
        refine g_ild_n C 1 rfl rfl dX8_told_44 ?_
        obtain ⟨g13, hf⟩ := gd_some hf
        refine g_aaldI C dX8_told_45 in_16 (fun _ => ec_16 _ _ _ _ _) rfl g13 ?_
        refine g_ast_n (lo' := [(3, vr α 17 (ix a1)), (0, vr α 0 0), (1, vi a1), (2, vi a2)]) C rfl (by decide) rfl dX8_told_46 ?_
        refine g_ild_n C 3 rfl rfl dX8_told_47 ?_
        by_cases h14 : w32 a2 = 0
        · rw [if_pos h14] at hf
          refine g_tabIn C 80 dX8_told_48 (by omega) (by omega) (by rw [h14]; rfl) (by decide) ?_
          refine g_ald_n C 0 rfl rfl dX8_told_80 ?_
          refine g_get C dX8_told_81 fl_X8_169 (in_17 (inb_ix g13)) (ec_17 _ _ _ _ _) rfl ?_
          exact g_iret C rfl dX8_told_84 hf
        rw [if_neg h14] at hf
        by_cases h15 : w32 a2 = 1
        · rw [if_pos h15] at hf
          refine g_tabIn C 85 dX8_told_48 (by omega) (by omega) (by rw [h15]; rfl) (by decide) ?_
          refine g_ald_n C 0 rfl rfl dX8_told_85 ?_
          refine g_get C dX8_told_86 fl_X8_134 (in_17 (inb_ix g13)) (ec_17 _ _ _ _ _) rfl ?_
          exact g_iret C rfl dX8_told_89 hf
        rw [if_neg h15] at hf
        by_cases h16 : w32 a2 = 2
        · rw [if_pos h16] at hf
          refine g_tabIn C 90 dX8_told_48 (by omega) (by omega) (by rw [h16]; rfl) (by decide) ?_
          refine g_ald_n C 0 rfl rfl dX8_told_90 ?_
          refine g_get C dX8_told_91 fl_X8_172 (in_17 (inb_ix g13)) (ec_17 _ _ _ _ _) rfl ?_
          exact g_iret C rfl dX8_told_94 hf
        rw [if_neg h16] at hf
        by_cases h17 : w32 a2 = 3
        · rw [if_pos h17] at hf
          refine g_tabIn C 95 dX8_told_48 (by omega) (by omega) (by rw [h17]; rfl) (by decide) ?_
          refine g_ald_n C 0 rfl rfl dX8_told_95 ?_
          refine g_get C dX8_told_96 fl_X8_175 (in_17 (inb_ix g13)) (ec_17 _ _ _ _ _) rfl ?_
          obtain ⟨r18, μ19, hc20, hf⟩ := bn_some hf
          refine g_callSp (As := [vi ((st μ2 0 0 0 0) 17 (ix a1) 6)]) (rest := []) C ⟨Nat.zero_le _, Nat.zero_le _⟩ dX8_told_99 cw_J6_bitCount_0f7a4 m_3_13 m_3_14 (c_J6_bitCount_0f7a4  hc20) rfl rfl (Nat.le_of_ble_eq_true rfl) ⟨Nat.le_trans (Nat.le_of_ble_eq_true rfl) hfr, Nat.le_trans (Nat.le_of_ble_eq_true rfl) hlc⟩ ?_
          exact g_iret C rfl dX8_told_102 hf
        rw [if_neg h17] at hf
        refine g_tabOut C 103 dX8_told_48 (by omega) (by decide) ?_
        refine g_ald_n C 0 rfl rfl dX8_told_103 ?_
        refine g_get C dX8_told_104 fl_X8_183 (in_17 (inb_ix g13)) (ec_17 _ _ _ _ _) rfl ?_
        exact g_iret C rfl dX8_told_107 hf
      · rw [if_neg h12] at hf
        refine g_ald_n C 0 rfl rfl dX8_told_26 ?_
        refine g_iconst C dX8_told_27 ?_
        obtain ⟨r21, μ22, hc23, hf⟩ := bn_some hf
        refine g_callVp (As := [vi 5]) (rest := []) C ⟨Nat.zero_le _, Nat.zero_le _⟩ dX8_told_28 cw_X8_refuseNumber m_2_118 m_2_120 m_0_3 in_0 (ec_0 _ _ _ _ _) rfl rfl (c_X8_refuseNumber  hc23) rfl rfl (Nat.le_of_ble_eq_true rfl) ⟨Nat.le_trans (Nat.le_of_ble_eq_true rfl) hfr, Nat.le_trans (Nat.le_of_ble_eq_true rfl) hlc⟩ ?_
        exact g_iret C rfl dX8_told_31 hf
set_option maxHeartbeats 4000000 in
set_option maxRecDepth 100000 in
theorem c_X8_told {l : Launch} {D : va_G} {Y : Nat → ClassId} {α : Adr} {a1 : Int} {a2 : Int} {μ : Mem} {r : Int} {μ' : Mem}  (hf : f_X8_told a1 a2 μ = some (r, μ')) : Ctr l D Y LBx yX8_told cX8_told 4 (some .int) 1 21 0 0 [vr α 0 0, vi a1, vi a2] α μ (some (vi r)) (fun a => a = α) μ' := Ctr_of pn_X8 rfl rfl (Nat.le_of_ble_eq_true rfl) LBx_nd (fun p e s m below meth c sz C => b_X8_told C (Nat.le_refl _) (Nat.le_refl _)  hf)
end

/-! EndTeller.row -/
def f_X8_row (a1 : Int) (a2 : Int) (a3 : Int) (μ : Mem) : Option (Int × Mem) := bn (f_X7_hasPart a1 μ) (fun r1 μ2 => (if w32 r1 = 0 then bn (f_X8_refuseNumber 2 μ2) (fun r5 μ6 => some (r5, μ6)) else (if w32 a2 < 0 then bn (f_X8_refuseNumber 2 μ2) (fun r9 μ10 => some (r9, μ10)) else gd (inb a1 10) ((if w32 a2 < w32 (μ2 17 (ix a1) 3) then (if w32 a3 < 0 then bn (f_X8_refuseNumber 5 μ2) (fun r15 μ16 => some (r15, μ16)) else (if w32 a3 ≤ w32 1 then gd (inb a1 10) ((if w32 a3 = 0 then gd (inb a2 8) (some (((st μ2 0 0 0 0) 18 (ix a1) (ix a2)), (st μ2 0 0 0 0))) else gd (inb a2 8) (some (((st μ2 0 0 0 0) 19 (ix a1) (ix a2)), (st μ2 0 0 0 0))))) else bn (f_X8_refuseNumber 5 μ2) (fun r23 μ24 => some (r23, μ24)))) else bn (f_X8_refuseNumber 2 μ2) (fun r26 μ27 => some (r26, μ27)))))))
section
variable {p : Program} {l : Launch} {e : Env} {R : Room} {s : State} {m : MethodId} {args : Array Value} {below : List Frame} {meth : Method} {c : Code} {D : va_G} {Y : Nat → ClassId} {α : Adr} {sz : Nat} {r : Int} {μ' : Mem}
set_option maxHeartbeats 4000000 in
set_option maxRecDepth 100000 in
theorem b_X8_row {a1 : Int} {a2 : Int} {a3 : Int} {μ : Mem} (C : CX p s m args meth c cX8_row 5 RX8 (some .int) D Y LBx (Ar LBx α sz)) (hfr : 1 ≤ R.frames) (hlc : 21 ≤ R.locals)  (hf : f_X8_row a1 a2 a3 μ = some (r, μ')) : GG D Y LBx (Ar LBx α sz) p l e R s m args below meth c 5 (MQ below (Qcx D Y LBx α sz (some (vi r)) (fun a => a = α) μ') args s 0 0 (Ar LBx α sz)) α 0 0 [(0, vr α 0 0), (1, vi a1), (2, vi a2), (3, vi a3)] [] μ 0 := by
  unfold f_X8_row at hf
  refine g_ald_n C 0 rfl rfl dX8_row_0 ?_
  refine g_get C dX8_row_1 fl_X8_50 in_0 (ec_0 _ _ _ _ _) rfl ?_
  refine g_ild_n C 1 rfl rfl dX8_row_4 ?_
  obtain ⟨r1, μ2, hc3, hf⟩ := bn_some hf
  refine g_callVp (As := [vi a1]) (rest := []) C ⟨Nat.zero_le _, Nat.zero_le _⟩ dX8_row_5 cw_X7_hasPart m_2_200 m_2_201 m_2_202 in_15 (ec_15 _ _ _ _ _) rfl rfl (c_X7_hasPart  hc3) rfl rfl (Nat.le_of_ble_eq_true rfl) ⟨Nat.le_trans (Nat.le_of_ble_eq_true rfl) hfr, Nat.le_trans (Nat.le_of_ble_eq_true rfl) hlc⟩ ?_
  refine g_if_eq C 31 (by decide) dX8_row_8 (fun h4 => ?_) (fun h4 => ?_)
  · rw [if_pos h4] at hf
    refine g_ald_n C 0 rfl rfl dX8_row_31 ?_
    refine g_iconst C dX8_row_32 ?_
    obtain ⟨r5, μ6, hc7, hf⟩ := bn_some hf
    refine g_callVp (As := [vi 2]) (rest := []) C ⟨Nat.zero_le _, Nat.zero_le _⟩ dX8_row_33 cw_X8_refuseNumber m_2_118 m_2_120 m_0_3 in_0 (ec_0 _ _ _ _ _) rfl rfl (c_X8_refuseNumber  hc7) rfl rfl (Nat.le_of_ble_eq_true rfl) ⟨Nat.le_trans (Nat.le_of_ble_eq_true rfl) hfr, Nat.le_trans (Nat.le_of_ble_eq_true rfl) hlc⟩ ?_
    exact g_iret C rfl dX8_row_36 hf
  · rw [if_neg h4] at hf
    refine g_ild_n C 2 rfl rfl dX8_row_11 ?_
    refine g_if_lt C 31 (by decide) dX8_row_12 (fun h8 => ?_) (fun h8 => ?_)
    · rw [if_pos h8] at hf
      refine g_ald_n C 0 rfl rfl dX8_row_31 ?_
      refine g_iconst C dX8_row_32 ?_
      obtain ⟨r9, μ10, hc11, hf⟩ := bn_some hf
      refine g_callVp (As := [vi 2]) (rest := []) C ⟨Nat.zero_le _, Nat.zero_le _⟩ dX8_row_33 cw_X8_refuseNumber m_2_118 m_2_120 m_0_3 in_0 (ec_0 _ _ _ _ _) rfl rfl (c_X8_refuseNumber  hc11) rfl rfl (Nat.le_of_ble_eq_true rfl) ⟨Nat.le_trans (Nat.le_of_ble_eq_true rfl) hfr, Nat.le_trans (Nat.le_of_ble_eq_true rfl) hlc⟩ ?_
      exact g_iret C rfl dX8_row_36 hf
    · rw [if_neg h8] at hf
      refine g_ild_n C 2 rfl rfl dX8_row_15 ?_
      refine g_ald_n C 0 rfl rfl dX8_row_16 ?_
      refine g_get C dX8_row_17 fl_X8_50 in_0 (ec_0 _ _ _ _ _) rfl ?_
      refine g_get C dX8_row_20 fl_X8_130 in_15 (ec_15 _ _ _ _ _) rfl ?_
      refine g_ild_n C 1 rfl rfl dX8_row_23 ?_
      obtain ⟨g12, hf⟩ := gd_some hf
      refine g_aaldI C dX8_row_24 in_16 (fun _ => ec_16 _ _ _ _ _) rfl g12 ?_
      refine g_get C dX8_row_25 fl_X8_169 (in_17 (inb_ix g12)) (ec_17 _ _ _ _ _) rfl ?_
      refine g_ic_lt C 37 (by decide) dX8_row_28 (fun h13 => ?_) (fun h13 => ?_)
      · rw [if_pos h13] at hf
        refine g_ild_n C 3 rfl rfl dX8_row_37 ?_
        refine g_if_lt C 46 (by decide) dX8_row_38 (fun h14 => ?_) (fun h14 => ?_)
        · rw [if_pos h14] at hf
          refine g_ald_n C 0 rfl rfl dX8_row_46 ?_
          refine g_iconst C dX8_row_47 ?_
          obtain ⟨r15, μ16, hc17, hf⟩ := bn_some hf
          refine g_callVp (As := [vi 5]) (rest := []) C ⟨Nat.zero_le _, Nat.zero_le _⟩ dX8_row_48 cw_X8_refuseNumber m_2_118 m_2_120 m_0_3 in_0 (ec_0 _ _ _ _ _) rfl rfl (c_X8_refuseNumber  hc17) rfl rfl (Nat.le_of_ble_eq_true rfl) ⟨Nat.le_trans (Nat.le_of_ble_eq_true rfl) hfr, Nat.le_trans (Nat.le_of_ble_eq_true rfl) hlc⟩ ?_
          exact g_iret C rfl dX8_row_51 hf
        · rw [if_neg h14] at hf
          refine g_ild_n C 3 rfl rfl dX8_row_41 ?_
          refine g_iconst C dX8_row_42 ?_
          refine g_ic_le C 52 (by decide) dX8_row_43 (fun h18 => ?_) (fun h18 => ?_)
          · rw [if_pos h18] at hf
            refine g_ald_n C 0 rfl rfl dX8_row_52 ?_
            refine g_iconst C dX8_row_53 ?_
            refine g_puti C dX8_row_54 fl_X8_9 in_0 (ec_0 _ _ _ _ _) (Nat.le_of_ble_eq_true rfl) rfl (by decide) ?_
            refine g_ald_n C 0 rfl rfl dX8_row_57 ?_
            refine g_get C dX8_row_58 fl_X8_50 in_0 (ec_0 _ _ _ _ _) rfl ?_
            refine g_get C dX8_row_61 fl_X8_130 in_15 (ec_15 _ _ _ _ _) rfl ?_
            refine g_ild_n C 1 rfl rfl dX8_row_64 ?_
            obtain ⟨g19, hf⟩ := gd_some hf
            refine g_aaldI C dX8_row_65 in_16 (fun _ => ec_16 _ _ _ _ _) rfl g19 ?_
            refine g_ast (lo' := [(4, vr α 17 (ix a1)), (0, vr α 0 0), (1, vi a1), (2, vi a2), (3, vi a3)]) C (by decide) rfl dX8_row_66 ?_
            refine g_ild_n C 4 rfl rfl dX8_row_68 ?_
            refine g_if_ne C 82 (by decide) dX8_row_69 (fun h20 => ?_) (fun h20 => ?_)
            · rw [if_pos h20] at hf
              refine g_ald C 0 rfl dX8_row_72 ?_
              refine g_get C dX8_row_74 fl_X8_186 (in_17 (inb_ix g19)) (ec_17 _ _ _ _ _) rfl ?_
              refine g_ild_n C 3 rfl rfl dX8_row_77 ?_
              obtain ⟨g21, hf⟩ := gd_some hf
              refine g_iald C dX8_row_78 (in_18 (inb_ix g19)) (fun _ => ec_18 _ _ _ _ _) g21 ?_
              refine g_goto C 89 (by decide) dX8_row_79 ?_
              exact g_iret C rfl dX8_row_89 hf
            · rw [if_neg h20] at hf
              refine g_ald C 0 rfl dX8_row_82 ?_
              refine g_get C dX8_row_84 fl_X8_189 (in_17 (inb_ix g19)) (ec_17 _ _ _ _ _) rfl ?_
              refine g_ild_n C 3 rfl rfl dX8_row_87 ?_
              obtain ⟨g22, hf⟩ := gd_some hf
              refine g_iald C dX8_row_88 (in_19 (inb_ix g19)) (fun _ => ec_19 _ _ _ _ _) g22 ?_
              exact g_iret C rfl dX8_row_89 hf
          · rw [if_neg h18] at hf
            refine g_ald_n C 0 rfl rfl dX8_row_46 ?_
            refine g_iconst C dX8_row_47 ?_
            obtain ⟨r23, μ24, hc25, hf⟩ := bn_some hf
            refine g_callVp (As := [vi 5]) (rest := []) C ⟨Nat.zero_le _, Nat.zero_le _⟩ dX8_row_48 cw_X8_refuseNumber m_2_118 m_2_120 m_0_3 in_0 (ec_0 _ _ _ _ _) rfl rfl (c_X8_refuseNumber  hc25) rfl rfl (Nat.le_of_ble_eq_true rfl) ⟨Nat.le_trans (Nat.le_of_ble_eq_true rfl) hfr, Nat.le_trans (Nat.le_of_ble_eq_true rfl) hlc⟩ ?_
            exact g_iret C rfl dX8_row_51 hf
      · rw [if_neg h13] at hf
        refine g_ald_n C 0 rfl rfl dX8_row_31 ?_
        refine g_iconst C dX8_row_32 ?_
        obtain ⟨r26, μ27, hc28, hf⟩ := bn_some hf
        refine g_callVp (As := [vi 2]) (rest := []) C ⟨Nat.zero_le _, Nat.zero_le _⟩ dX8_row_33 cw_X8_refuseNumber m_2_118 m_2_120 m_0_3 in_0 (ec_0 _ _ _ _ _) rfl rfl (c_X8_refuseNumber  hc28) rfl rfl (Nat.le_of_ble_eq_true rfl) ⟨Nat.le_trans (Nat.le_of_ble_eq_true rfl) hfr, Nat.le_trans (Nat.le_of_ble_eq_true rfl) hlc⟩ ?_
        exact g_iret C rfl dX8_row_36 hf
set_option maxHeartbeats 4000000 in
set_option maxRecDepth 100000 in
theorem c_X8_row {l : Launch} {D : va_G} {Y : Nat → ClassId} {α : Adr} {a1 : Int} {a2 : Int} {a3 : Int} {μ : Mem} {r : Int} {μ' : Mem}  (hf : f_X8_row a1 a2 a3 μ = some (r, μ')) : Ctr l D Y LBx yX8_row cX8_row 5 (some .int) 1 21 0 0 [vr α 0 0, vi a1, vi a2, vi a3] α μ (some (vi r)) (fun a => a = α) μ' := Ctr_of pn_X8 rfl rfl (Nat.le_of_ble_eq_true rfl) LBx_nd (fun p e s m below meth c sz C => b_X8_row C (Nat.le_refl _) (Nat.le_refl _)  hf)
end

/-! EndTeller.upper -/
def f_X8_upper  (μ : Mem) : Option (Int × Mem) := some ((μ 1 0 0), μ)
section
variable {p : Program} {l : Launch} {e : Env} {R : Room} {s : State} {m : MethodId} {args : Array Value} {below : List Frame} {meth : Method} {c : Code} {D : va_G} {Y : Nat → ClassId} {α : Adr} {sz : Nat} {r : Int} {μ' : Mem}
set_option maxHeartbeats 4000000 in
set_option maxRecDepth 100000 in
theorem b_X8_upper  {μ : Mem} (C : CX p s m args meth c cX8_upper 1 RX8 (some .long) D Y LBx (Ar LBx α sz)) (hfr : 0 ≤ R.frames) (hlc : 0 ≤ R.locals)  (hf : f_X8_upper μ = some (r, μ')) : GG D Y LBx (Ar LBx α sz) p l e R s m args below meth c 1 (MQ below (Qcx D Y LBx α sz (some (vl r)) (fun a => a = α) μ') args s 0 0 (Ar LBx α sz)) α 0 0 [(0, vr α 0 0)] [] μ 0 := by
  unfold f_X8_upper at hf
  refine g_ald_n C 0 rfl rfl dX8_upper_0 ?_
  refine g_get C dX8_upper_1 fl_X8_16 in_0 (ec_0 _ _ _ _ _) rfl ?_
  refine g_get C dX8_upper_4 fl_X8_192 (in_1 (by decide)) (ec_1 _ _ _ _ _) rfl ?_
  exact g_lret C rfl dX8_upper_7 hf
set_option maxHeartbeats 4000000 in
set_option maxRecDepth 100000 in
theorem c_X8_upper {l : Launch} {D : va_G} {Y : Nat → ClassId} {α : Adr}  {μ : Mem} {r : Int} {μ' : Mem}  (hf : f_X8_upper μ = some (r, μ')) : Ctr l D Y LBx yX8_upper cX8_upper 1 (some .long) 0 0 0 0 [vr α 0 0] α μ (some (vl r)) (fun a => a = α) μ' := Ctr_of pn_X8 rfl rfl (Nat.le_of_ble_eq_true rfl) LBx_nd (fun p e s m below meth c sz C => b_X8_upper C (Nat.le_refl _) (Nat.le_refl _)  hf)
end

/-! EndTeller.lower -/
def f_X8_lower  (μ : Mem) : Option (Int × Mem) := some ((μ 1 0 1), μ)
section
variable {p : Program} {l : Launch} {e : Env} {R : Room} {s : State} {m : MethodId} {args : Array Value} {below : List Frame} {meth : Method} {c : Code} {D : va_G} {Y : Nat → ClassId} {α : Adr} {sz : Nat} {r : Int} {μ' : Mem}
set_option maxHeartbeats 4000000 in
set_option maxRecDepth 100000 in
theorem b_X8_lower  {μ : Mem} (C : CX p s m args meth c cX8_lower 1 RX8 (some .long) D Y LBx (Ar LBx α sz)) (hfr : 0 ≤ R.frames) (hlc : 0 ≤ R.locals)  (hf : f_X8_lower μ = some (r, μ')) : GG D Y LBx (Ar LBx α sz) p l e R s m args below meth c 1 (MQ below (Qcx D Y LBx α sz (some (vl r)) (fun a => a = α) μ') args s 0 0 (Ar LBx α sz)) α 0 0 [(0, vr α 0 0)] [] μ 0 := by
  unfold f_X8_lower at hf
  refine g_ald_n C 0 rfl rfl dX8_lower_0 ?_
  refine g_get C dX8_lower_1 fl_X8_16 in_0 (ec_0 _ _ _ _ _) rfl ?_
  refine g_get C dX8_lower_4 fl_X8_196 (in_1 (by decide)) (ec_1 _ _ _ _ _) rfl ?_
  exact g_lret C rfl dX8_lower_7 hf
set_option maxHeartbeats 4000000 in
set_option maxRecDepth 100000 in
theorem c_X8_lower {l : Launch} {D : va_G} {Y : Nat → ClassId} {α : Adr}  {μ : Mem} {r : Int} {μ' : Mem}  (hf : f_X8_lower μ = some (r, μ')) : Ctr l D Y LBx yX8_lower cX8_lower 1 (some .long) 0 0 0 0 [vr α 0 0] α μ (some (vl r)) (fun a => a = α) μ' := Ctr_of pn_X8 rfl rfl (Nat.le_of_ble_eq_true rfl) LBx_nd (fun p e s m below meth c sz C => b_X8_lower C (Nat.le_refl _) (Nat.le_refl _)  hf)
end

/-! EndTeller.ways -/
def f_X8_ways  (μ : Mem) : Option (Int × Mem) := bn (f_X7_isGreat  μ) (fun r1 μ2 => (if w32 r1 = 0 then bn (f_X7_countWays  (st μ2 0 0 0 0)) (fun r5 μ6 => some (r5, μ6)) else bn (f_X8_refuseNumber 9 μ2) (fun r8 μ9 => some (r8, μ9))))
section
variable {p : Program} {l : Launch} {e : Env} {R : Room} {s : State} {m : MethodId} {args : Array Value} {below : List Frame} {meth : Method} {c : Code} {D : va_G} {Y : Nat → ClassId} {α : Adr} {sz : Nat} {r : Int} {μ' : Mem}
set_option maxHeartbeats 4000000 in
set_option maxRecDepth 100000 in
theorem b_X8_ways  {μ : Mem} (C : CX p s m args meth c cX8_ways 1 RX8 (some .int) D Y LBx (Ar LBx α sz)) (hfr : 2 ≤ R.frames) (hlc : 43 ≤ R.locals)  (hf : f_X8_ways μ = some (r, μ')) : GG D Y LBx (Ar LBx α sz) p l e R s m args below meth c 1 (MQ below (Qcx D Y LBx α sz (some (vi r)) (fun a => a = α) μ') args s 0 0 (Ar LBx α sz)) α 0 0 [(0, vr α 0 0)] [] μ 0 := by
  unfold f_X8_ways at hf
  refine g_ald_n C 0 rfl rfl dX8_ways_0 ?_
  refine g_get C dX8_ways_1 fl_X8_50 in_0 (ec_0 _ _ _ _ _) rfl ?_
  obtain ⟨r1, μ2, hc3, hf⟩ := bn_some hf
  refine g_callVp (As := []) (rest := []) C ⟨Nat.zero_le _, Nat.zero_le _⟩ dX8_ways_4 cw_X7_isGreat m_3_35 m_3_36 m_3_37 in_15 (ec_15 _ _ _ _ _) rfl rfl (c_X7_isGreat  hc3) rfl rfl (Nat.le_of_ble_eq_true rfl) ⟨Nat.le_trans (Nat.le_of_ble_eq_true rfl) hfr, Nat.le_trans (Nat.le_of_ble_eq_true rfl) hlc⟩ ?_
  refine g_if_eq C 17 (by decide) dX8_ways_7 (fun h4 => ?_) (fun h4 => ?_)
  · rw [if_pos h4] at hf
    refine g_ald_n C 0 rfl rfl dX8_ways_17 ?_
    refine g_iconst C dX8_ways_18 ?_
    refine g_puti C dX8_ways_19 fl_X8_9 in_0 (ec_0 _ _ _ _ _) (Nat.le_of_ble_eq_true rfl) rfl (by decide) ?_
    refine g_ald_n C 0 rfl rfl dX8_ways_22 ?_
    refine g_get C dX8_ways_23 fl_X8_50 in_0 (ec_0 _ _ _ _ _) rfl ?_
    obtain ⟨r5, μ6, hc7, hf⟩ := bn_some hf
    refine g_callVp (As := []) (rest := []) C ⟨Nat.zero_le _, Nat.zero_le _⟩ dX8_ways_26 cw_X7_countWays m_3_40 m_3_41 m_3_42 in_15 (ec_15 _ _ _ _ _) rfl rfl (c_X7_countWays  hc7) rfl rfl (Nat.le_of_ble_eq_true rfl) ⟨Nat.le_trans (Nat.le_of_ble_eq_true rfl) hfr, Nat.le_trans (Nat.le_of_ble_eq_true rfl) hlc⟩ ?_
    exact g_iret C rfl dX8_ways_29 hf
  · rw [if_neg h4] at hf
    refine g_ald_n C 0 rfl rfl dX8_ways_10 ?_
    refine g_bipush C rfl dX8_ways_11 ?_
    obtain ⟨r8, μ9, hc10, hf⟩ := bn_some hf
    refine g_callVp (As := [vi 9]) (rest := []) C ⟨Nat.zero_le _, Nat.zero_le _⟩ dX8_ways_13 cw_X8_refuseNumber m_2_118 m_2_120 m_0_3 in_0 (ec_0 _ _ _ _ _) rfl rfl (c_X8_refuseNumber  hc10) rfl rfl (Nat.le_of_ble_eq_true rfl) ⟨Nat.le_trans (Nat.le_of_ble_eq_true rfl) hfr, Nat.le_trans (Nat.le_of_ble_eq_true rfl) hlc⟩ ?_
    exact g_iret C rfl dX8_ways_16 hf
set_option maxHeartbeats 4000000 in
set_option maxRecDepth 100000 in
theorem c_X8_ways {l : Launch} {D : va_G} {Y : Nat → ClassId} {α : Adr}  {μ : Mem} {r : Int} {μ' : Mem}  (hf : f_X8_ways μ = some (r, μ')) : Ctr l D Y LBx yX8_ways cX8_ways 1 (some .int) 2 43 0 0 [vr α 0 0] α μ (some (vi r)) (fun a => a = α) μ' := Ctr_of pn_X8 rfl rfl (Nat.le_of_ble_eq_true rfl) LBx_nd (fun p e s m below meth c sz C => b_X8_ways C (Nat.le_refl _) (Nat.le_refl _)  hf)
end

/-! EndTeller.tell -/
def f_X8_tell (a1 : Int) (a3 : Int) (μ : Mem) : Option (Int × Mem) := bn (f_X0_become 0 a1 a3 μ) (fun r1 μ2 => bn (f_X8_well  μ2) (fun r4 μ5 => gd (bb r4) (some (r4, μ5))))
section
variable {p : Program} {l : Launch} {e : Env} {R : Room} {s : State} {m : MethodId} {args : Array Value} {below : List Frame} {meth : Method} {c : Code} {D : va_G} {Y : Nat → ClassId} {α : Adr} {sz : Nat} {r : Int} {μ' : Mem}
set_option maxHeartbeats 4000000 in
set_option maxRecDepth 100000 in
theorem b_X8_tell {a1 : Int} {a3 : Int} {μ : Mem} (C : CX p s m args meth c cX8_tell 5 RX8 (some .boolean) D Y LBx (Ar LBx α sz)) (hfr : 2 ≤ R.frames) (hlc : 56 ≤ R.locals)  (hf : f_X8_tell a1 a3 μ = some (r, μ')) : GG D Y LBx (Ar LBx α sz) p l e R s m args below meth c 5 (MQ below (Qcx D Y LBx α sz (some (vi r)) (fun a => a = α) μ') args s 0 0 (Ar LBx α sz)) α 0 0 [(0, vr α 0 0), (1, vl a1), (3, vl a3)] [] μ 0 := by
  unfold f_X8_tell at hf
  refine g_ald_n C 0 rfl rfl dX8_tell_0 ?_
  refine g_get C dX8_tell_1 fl_X8_16 in_0 (ec_0 _ _ _ _ _) rfl ?_
  refine g_lld_n C 1 rfl rfl dX8_tell_4 ?_
  refine g_lld_n C 2 rfl rfl dX8_tell_5 ?_
  obtain ⟨r1, μ2, hc3, hf⟩ := bn_some hf
  refine g_callVp (As := [vl a1, vl a3]) (rest := []) C ⟨Nat.zero_le _, Nat.zero_le _⟩ dX8_tell_6 cw_X0_become m_3_121 m_3_122 m_3_123 (in_1 (by decide)) (ec_1 _ _ _ _ _) rfl rfl (c_X0_become (by decide) hc3) rfl rfl (Nat.le_of_ble_eq_true rfl) ⟨Nat.le_trans (Nat.le_of_ble_eq_true rfl) hfr, Nat.le_trans (Nat.le_of_ble_eq_true rfl) hlc⟩ ?_
  refine g_ald_n C 0 rfl rfl dX8_tell_9 ?_
  obtain ⟨r4, μ5, hc6, hf⟩ := bn_some hf
  refine g_callVp (As := []) (rest := []) C ⟨Nat.zero_le _, Nat.zero_le _⟩ dX8_tell_10 cw_X8_well m_2_85 m_2_87 m_0_1 in_0 (ec_0 _ _ _ _ _) rfl rfl (c_X8_well  hc6) rfl rfl (Nat.le_of_ble_eq_true rfl) ⟨Nat.le_trans (Nat.le_of_ble_eq_true rfl) hfr, Nat.le_trans (Nat.le_of_ble_eq_true rfl) hlc⟩ ?_
  obtain ⟨g7, hf⟩ := gd_some hf
  exact g_zret C rfl g7 dX8_tell_13 hf
set_option maxHeartbeats 4000000 in
set_option maxRecDepth 100000 in
theorem c_X8_tell {l : Launch} {D : va_G} {Y : Nat → ClassId} {α : Adr} {a1 : Int} {a3 : Int} {μ : Mem} {r : Int} {μ' : Mem}  (hf : f_X8_tell a1 a3 μ = some (r, μ')) : Ctr l D Y LBx yX8_tell cX8_tell 5 (some .boolean) 2 56 0 0 [vr α 0 0, vl a1, vl a3] α μ (some (vi r)) (fun a => a = α) μ' := Ctr_of pn_X8 rfl rfl (Nat.le_of_ble_eq_true rfl) LBx_nd (fun p e s m below meth c sz C => b_X8_tell C (Nat.le_refl _) (Nat.le_refl _)  hf)
end

/-! EndTeller.isCameDay -/
def f_X8_isCameDay (a0 : Int) (μ : Mem) : Option (Int × Mem) := (if w32 a0 = w32 (-1) then some (1, μ) else (if w32 a0 < 0 then some (0, μ) else (if w32 9999 < w32 a0 then some (0, μ) else some (1, μ))))
section
variable {p : Program} {l : Launch} {e : Env} {R : Room} {s : State} {m : MethodId} {args : Array Value} {below : List Frame} {meth : Method} {c : Code} {D : va_G} {Y : Nat → ClassId} {α : Adr} {sz : Nat} {r : Int} {μ' : Mem}
set_option maxHeartbeats 4000000 in
set_option maxRecDepth 100000 in
theorem b_X8_isCameDay {a0 : Int} {μ : Mem} (C : CX p s m args meth c cX8_isCameDay 1 RX8 (some .boolean) D Y LBx (Ar LBx α sz)) (hfr : 0 ≤ R.frames) (hlc : 0 ≤ R.locals)  (hf : f_X8_isCameDay a0 μ = some (r, μ')) : GG D Y LBx (Ar LBx α sz) p l e R s m args below meth c 1 (MQ below (Qcx D Y LBx α sz (some (vi r)) (fun a => a = α) μ') args s 0 0 (Ar LBx α sz)) α 0 0 [(0, vi a0)] [] μ 0 := by
  unfold f_X8_isCameDay at hf
  refine g_ild_n C 0 rfl rfl dX8_isCameDay_0 ?_
  refine g_iconst C dX8_isCameDay_1 ?_
  refine g_ic_eq C 16 (by decide) dX8_isCameDay_2 (fun h1 => ?_) (fun h1 => ?_)
  · rw [if_pos h1] at hf
    refine g_iconst C dX8_isCameDay_16 ?_
    refine g_goto C 21 (by decide) dX8_isCameDay_17 ?_
    exact g_zret C rfl (Or.inr rfl) dX8_isCameDay_21 hf
  · rw [if_neg h1] at hf
    refine g_ild_n C 0 rfl rfl dX8_isCameDay_5 ?_
    refine g_if_lt C 20 (by decide) dX8_isCameDay_6 (fun h2 => ?_) (fun h2 => ?_)
    · rw [if_pos h2] at hf
      refine g_iconst C dX8_isCameDay_20 ?_
      exact g_zret C rfl (Or.inl rfl) dX8_isCameDay_21 hf
    · rw [if_neg h2] at hf
      refine g_ild_n C 0 rfl rfl dX8_isCameDay_9 ?_
      refine g_sipush C rfl dX8_isCameDay_10 ?_
      refine g_ic_gt C 20 (by decide) dX8_isCameDay_13 (fun h3 => ?_) (fun h3 => ?_)
      · rw [if_pos h3] at hf
        refine g_iconst C dX8_isCameDay_20 ?_
        exact g_zret C rfl (Or.inl rfl) dX8_isCameDay_21 hf
      · rw [if_neg h3] at hf
        refine g_iconst C dX8_isCameDay_16 ?_
        refine g_goto C 21 (by decide) dX8_isCameDay_17 ?_
        exact g_zret C rfl (Or.inr rfl) dX8_isCameDay_21 hf
set_option maxHeartbeats 4000000 in
set_option maxRecDepth 100000 in
theorem c_X8_isCameDay {l : Launch} {D : va_G} {Y : Nat → ClassId} {α : Adr} {a0 : Int} {μ : Mem} {r : Int} {μ' : Mem}  (hf : f_X8_isCameDay a0 μ = some (r, μ')) : Ctr l D Y LBx yX8_isCameDay cX8_isCameDay 1 (some .boolean) 0 0 0 0 [vi a0] α μ (some (vi r)) (fun a => a = α) μ' := Ctr_of pn_X8 rfl rfl (Nat.le_of_ble_eq_true rfl) LBx_nd (fun p e s m below meth c sz C => b_X8_isCameDay C (Nat.le_refl _) (Nat.le_refl _)  hf)
end

/-! EndTeller.end -/
def f_X8_end (a1 : Int) (a2 : Int) (μ : Mem) : Option (Int × Mem) := bn (f_X7_hasPart a1 μ) (fun r1 μ2 => (if w32 r1 = 0 then bn (f_X8_refuse 2 μ2) (fun r5 μ6 => gd (bb r5) (some (r5, μ6))) else bn (f_X8_isCameDay a2 μ2) (fun r9 μ10 => (if w32 r9 = 0 then bn (f_X8_refuse 5 μ10) (fun r13 μ14 => gd (bb r13) (some (r13, μ14))) else gd (inb a1 10) (bn (f_X8_changed  (st μ10 17 (ix a1) 7 a2)) (fun r18 μ19 => gd (bb r18) (some (r18, μ19))))))))
section
variable {p : Program} {l : Launch} {e : Env} {R : Room} {s : State} {m : MethodId} {args : Array Value} {below : List Frame} {meth : Method} {c : Code} {D : va_G} {Y : Nat → ClassId} {α : Adr} {sz : Nat} {r : Int} {μ' : Mem}
set_option maxHeartbeats 4000000 in
set_option maxRecDepth 100000 in
theorem b_X8_end {a1 : Int} {a2 : Int} {μ : Mem} (C : CX p s m args meth c cX8_end 3 RX8 (some .boolean) D Y LBx (Ar LBx α sz)) (hfr : 2 ≤ R.frames) (hlc : 40 ≤ R.locals)  (hf : f_X8_end a1 a2 μ = some (r, μ')) : GG D Y LBx (Ar LBx α sz) p l e R s m args below meth c 3 (MQ below (Qcx D Y LBx α sz (some (vi r)) (fun a => a = α) μ') args s 0 0 (Ar LBx α sz)) α 0 0 [(0, vr α 0 0), (1, vi a1), (2, vi a2)] [] μ 0 := by
  unfold f_X8_end at hf
  refine g_ald_n C 0 rfl rfl dX8_end_0 ?_
  refine g_get C dX8_end_1 fl_X8_50 in_0 (ec_0 _ _ _ _ _) rfl ?_
  refine g_ild_n C 1 rfl rfl dX8_end_4 ?_
  obtain ⟨r1, μ2, hc3, hf⟩ := bn_some hf
  refine g_callVp (As := [vi a1]) (rest := []) C ⟨Nat.zero_le _, Nat.zero_le _⟩ dX8_end_5 cw_X7_hasPart m_2_200 m_2_201 m_2_202 in_15 (ec_15 _ _ _ _ _) rfl rfl (c_X7_hasPart  hc3) rfl rfl (Nat.le_of_ble_eq_true rfl) ⟨Nat.le_trans (Nat.le_of_ble_eq_true rfl) hfr, Nat.le_trans (Nat.le_of_ble_eq_true rfl) hlc⟩ ?_
  refine g_if_ne C 17 (by decide) dX8_end_8 (fun h4 => ?_) (fun h4 => ?_)
  · rw [if_pos h4] at hf
    refine g_ald_n C 0 rfl rfl dX8_end_11 ?_
    refine g_iconst C dX8_end_12 ?_
    obtain ⟨r5, μ6, hc7, hf⟩ := bn_some hf
    refine g_callVp (As := [vi 2]) (rest := []) C ⟨Nat.zero_le _, Nat.zero_le _⟩ dX8_end_13 cw_X8_refuse m_2_74 m_2_76 m_0_0 in_0 (ec_0 _ _ _ _ _) rfl rfl (c_X8_refuse  hc7) rfl rfl (Nat.le_of_ble_eq_true rfl) ⟨Nat.le_trans (Nat.le_of_ble_eq_true rfl) hfr, Nat.le_trans (Nat.le_of_ble_eq_true rfl) hlc⟩ ?_
    obtain ⟨g8, hf⟩ := gd_some hf
    exact g_zret C rfl g8 dX8_end_16 hf
  · rw [if_neg h4] at hf
    refine g_ild_n C 2 rfl rfl dX8_end_17 ?_
    obtain ⟨r9, μ10, hc11, hf⟩ := bn_some hf
    refine g_callSp (As := [vi a2]) (rest := []) C ⟨Nat.zero_le _, Nat.zero_le _⟩ dX8_end_18 cw_X8_isCameDay m_3_214 m_3_215 (c_X8_isCameDay  hc11) rfl rfl (Nat.le_of_ble_eq_true rfl) ⟨Nat.le_trans (Nat.le_of_ble_eq_true rfl) hfr, Nat.le_trans (Nat.le_of_ble_eq_true rfl) hlc⟩ ?_
    refine g_if_ne C 30 (by decide) dX8_end_21 (fun h12 => ?_) (fun h12 => ?_)
    · rw [if_pos h12] at hf
      refine g_ald_n C 0 rfl rfl dX8_end_24 ?_
      refine g_iconst C dX8_end_25 ?_
      obtain ⟨r13, μ14, hc15, hf⟩ := bn_some hf
      refine g_callVp (As := [vi 5]) (rest := []) C ⟨Nat.zero_le _, Nat.zero_le _⟩ dX8_end_26 cw_X8_refuse m_2_74 m_2_76 m_0_0 in_0 (ec_0 _ _ _ _ _) rfl rfl (c_X8_refuse  hc15) rfl rfl (Nat.le_of_ble_eq_true rfl) ⟨Nat.le_trans (Nat.le_of_ble_eq_true rfl) hfr, Nat.le_trans (Nat.le_of_ble_eq_true rfl) hlc⟩ ?_
      obtain ⟨g16, hf⟩ := gd_some hf
      exact g_zret C rfl g16 dX8_end_29 hf
    · rw [if_neg h12] at hf
      refine g_ald_n C 0 rfl rfl dX8_end_30 ?_
      refine g_get C dX8_end_31 fl_X8_50 in_0 (ec_0 _ _ _ _ _) rfl ?_
      refine g_get C dX8_end_34 fl_X8_130 in_15 (ec_15 _ _ _ _ _) rfl ?_
      refine g_ild_n C 1 rfl rfl dX8_end_37 ?_
      obtain ⟨g17, hf⟩ := gd_some hf
      refine g_aaldI C dX8_end_38 in_16 (fun _ => ec_16 _ _ _ _ _) rfl g17 ?_
      refine g_ild_n C 2 rfl rfl dX8_end_39 ?_
      refine g_puti C dX8_end_40 fl_X8_183 (in_17 (inb_ix g17)) (ec_17 _ _ _ _ _) (Nat.le_of_ble_eq_true rfl) rfl (by decide) ?_
      refine g_ald_n C 0 rfl rfl dX8_end_43 ?_
      obtain ⟨r18, μ19, hc20, hf⟩ := bn_some hf
      refine g_callVp (As := []) (rest := []) C ⟨Nat.zero_le _, Nat.zero_le _⟩ dX8_end_44 cw_X8_changed m_2_188 m_2_190 m_0_5 in_0 (ec_0 _ _ _ _ _) rfl rfl (c_X8_changed  hc20) rfl rfl (Nat.le_of_ble_eq_true rfl) ⟨Nat.le_trans (Nat.le_of_ble_eq_true rfl) hfr, Nat.le_trans (Nat.le_of_ble_eq_true rfl) hlc⟩ ?_
      obtain ⟨g21, hf⟩ := gd_some hf
      exact g_zret C rfl g21 dX8_end_47 hf
set_option maxHeartbeats 4000000 in
set_option maxRecDepth 100000 in
theorem c_X8_end {l : Launch} {D : va_G} {Y : Nat → ClassId} {α : Adr} {a1 : Int} {a2 : Int} {μ : Mem} {r : Int} {μ' : Mem}  (hf : f_X8_end a1 a2 μ = some (r, μ')) : Ctr l D Y LBx yX8_end cX8_end 3 (some .boolean) 2 40 0 0 [vr α 0 0, vi a1, vi a2] α μ (some (vi r)) (fun a => a = α) μ' := Ctr_of pn_X8 rfl rfl (Nat.le_of_ble_eq_true rfl) LBx_nd (fun p e s m below meth c sz C => b_X8_end C (Nat.le_refl _) (Nat.le_refl _)  hf)
end

/-! EndTeller.today -/
def f_X8_today (a1 : Int) (μ : Mem) : Option (Int × Mem) := bn (f_X8_isCameDay a1 μ) (fun r1 μ2 => (if w32 r1 = 0 then bn (f_X8_refuse 5 μ2) (fun r5 μ6 => gd (bb r5) (some (r5, μ6))) else bn (f_X8_changed  (st μ2 15 0 6 a1)) (fun r9 μ10 => gd (bb r9) (some (r9, μ10)))))
section
variable {p : Program} {l : Launch} {e : Env} {R : Room} {s : State} {m : MethodId} {args : Array Value} {below : List Frame} {meth : Method} {c : Code} {D : va_G} {Y : Nat → ClassId} {α : Adr} {sz : Nat} {r : Int} {μ' : Mem}
set_option maxHeartbeats 4000000 in
set_option maxRecDepth 100000 in
theorem b_X8_today {a1 : Int} {μ : Mem} (C : CX p s m args meth c cX8_today 2 RX8 (some .boolean) D Y LBx (Ar LBx α sz)) (hfr : 2 ≤ R.frames) (hlc : 40 ≤ R.locals)  (hf : f_X8_today a1 μ = some (r, μ')) : GG D Y LBx (Ar LBx α sz) p l e R s m args below meth c 2 (MQ below (Qcx D Y LBx α sz (some (vi r)) (fun a => a = α) μ') args s 0 0 (Ar LBx α sz)) α 0 0 [(0, vr α 0 0), (1, vi a1)] [] μ 0 := by
  unfold f_X8_today at hf
  refine g_ild_n C 1 rfl rfl dX8_today_0 ?_
  obtain ⟨r1, μ2, hc3, hf⟩ := bn_some hf
  refine g_callSp (As := [vi a1]) (rest := []) C ⟨Nat.zero_le _, Nat.zero_le _⟩ dX8_today_1 cw_X8_isCameDay m_3_214 m_3_215 (c_X8_isCameDay  hc3) rfl rfl (Nat.le_of_ble_eq_true rfl) ⟨Nat.le_trans (Nat.le_of_ble_eq_true rfl) hfr, Nat.le_trans (Nat.le_of_ble_eq_true rfl) hlc⟩ ?_
  refine g_if_ne C 13 (by decide) dX8_today_4 (fun h4 => ?_) (fun h4 => ?_)
  · rw [if_pos h4] at hf
    refine g_ald_n C 0 rfl rfl dX8_today_7 ?_
    refine g_iconst C dX8_today_8 ?_
    obtain ⟨r5, μ6, hc7, hf⟩ := bn_some hf
    refine g_callVp (As := [vi 5]) (rest := []) C ⟨Nat.zero_le _, Nat.zero_le _⟩ dX8_today_9 cw_X8_refuse m_2_74 m_2_76 m_0_0 in_0 (ec_0 _ _ _ _ _) rfl rfl (c_X8_refuse  hc7) rfl rfl (Nat.le_of_ble_eq_true rfl) ⟨Nat.le_trans (Nat.le_of_ble_eq_true rfl) hfr, Nat.le_trans (Nat.le_of_ble_eq_true rfl) hlc⟩ ?_
    obtain ⟨g8, hf⟩ := gd_some hf
    exact g_zret C rfl g8 dX8_today_12 hf
  · rw [if_neg h4] at hf
    refine g_ald_n C 0 rfl rfl dX8_today_13 ?_
    refine g_get C dX8_today_14 fl_X8_50 in_0 (ec_0 _ _ _ _ _) rfl ?_
    refine g_ild_n C 1 rfl rfl dX8_today_17 ?_
    refine g_puti C dX8_today_18 fl_X8_258 in_15 (ec_15 _ _ _ _ _) (Nat.le_of_ble_eq_true rfl) rfl (by decide) ?_
    refine g_ald_n C 0 rfl rfl dX8_today_21 ?_
    obtain ⟨r9, μ10, hc11, hf⟩ := bn_some hf
    refine g_callVp (As := []) (rest := []) C ⟨Nat.zero_le _, Nat.zero_le _⟩ dX8_today_22 cw_X8_changed m_2_188 m_2_190 m_0_5 in_0 (ec_0 _ _ _ _ _) rfl rfl (c_X8_changed  hc11) rfl rfl (Nat.le_of_ble_eq_true rfl) ⟨Nat.le_trans (Nat.le_of_ble_eq_true rfl) hfr, Nat.le_trans (Nat.le_of_ble_eq_true rfl) hlc⟩ ?_
    obtain ⟨g12, hf⟩ := gd_some hf
    exact g_zret C rfl g12 dX8_today_25 hf
set_option maxHeartbeats 4000000 in
set_option maxRecDepth 100000 in
theorem c_X8_today {l : Launch} {D : va_G} {Y : Nat → ClassId} {α : Adr} {a1 : Int} {μ : Mem} {r : Int} {μ' : Mem}  (hf : f_X8_today a1 μ = some (r, μ')) : Ctr l D Y LBx yX8_today cX8_today 2 (some .boolean) 2 40 0 0 [vr α 0 0, vi a1] α μ (some (vi r)) (fun a => a = α) μ' := Ctr_of pn_X8 rfl rfl (Nat.le_of_ble_eq_true rfl) LBx_nd (fun p e s m below meth c sz C => b_X8_today C (Nat.le_refl _) (Nat.le_refl _)  hf)
end

/-! EndTeller.telling -/
def f_X8_telling (a1 : Int) (a2 : Int) (a3 : Int) (μ : Mem) : Option (Int × Mem) := (if w32 a1 < 0 then bn (f_X8_refuse 5 μ) (fun r2 μ3 => gd (bb r2) (some (r2, μ3))) else (if w32 a2 < w32 a1 then bn (f_X8_refuse 5 μ) (fun r7 μ8 => gd (bb r7) (some (r7, μ8))) else (if w32 a2 < w32 1 then bn (f_X8_refuse 5 μ) (fun r12 μ13 => gd (bb r12) (some (r12, μ13))) else (if w32 a2 ≤ w32 1000 then (if w32 (μ 23 0 4) < w32 1000 then bn (f_X4_add a1 a2 a3 μ) (fun r18 μ19 => bn (f_X8_well  μ19) (fun r21 μ22 => gd (bb r21) (some (r21, μ22)))) else bn (f_X8_refuse 7 μ) (fun r25 μ26 => gd (bb r25) (some (r25, μ26)))) else bn (f_X8_refuse 5 μ) (fun r29 μ30 => gd (bb r29) (some (r29, μ30)))))))
section
variable {p : Program} {l : Launch} {e : Env} {R : Room} {s : State} {m : MethodId} {args : Array Value} {below : List Frame} {meth : Method} {c : Code} {D : va_G} {Y : Nat → ClassId} {α : Adr} {sz : Nat} {r : Int} {μ' : Mem}
set_option maxHeartbeats 4000000 in
set_option maxRecDepth 100000 in
theorem b_X8_telling {a1 : Int} {a2 : Int} {a3 : Int} {μ : Mem} (C : CX p s m args meth c cX8_telling 4 RX8 (some .boolean) D Y LBx (Ar LBx α sz)) (hfr : 4 ≤ R.frames) (hlc : 104 ≤ R.locals)  (hf : f_X8_telling a1 a2 a3 μ = some (r, μ')) : GG D Y LBx (Ar LBx α sz) p l e R s m args below meth c 4 (MQ below (Qcx D Y LBx α sz (some (vi r)) (fun a => a = α) μ') args s 0 0 (Ar LBx α sz)) α 0 0 [(0, vr α 0 0), (1, vi a1), (2, vi a2), (3, vi a3)] [] μ 0 := by
  unfold f_X8_telling at hf
  refine g_ild_n C 1 rfl rfl dX8_telling_0 ?_
  refine g_if_lt C 21 (by decide) dX8_telling_1 (fun h1 => ?_) (fun h1 => ?_)
  · rw [if_pos h1] at hf
    refine g_ald_n C 0 rfl rfl dX8_telling_21 ?_
    refine g_iconst C dX8_telling_22 ?_
    obtain ⟨r2, μ3, hc4, hf⟩ := bn_some hf
    refine g_callVp (As := [vi 5]) (rest := []) C ⟨Nat.zero_le _, Nat.zero_le _⟩ dX8_telling_23 cw_X8_refuse m_2_74 m_2_76 m_0_0 in_0 (ec_0 _ _ _ _ _) rfl rfl (c_X8_refuse  hc4) rfl rfl (Nat.le_of_ble_eq_true rfl) ⟨Nat.le_trans (Nat.le_of_ble_eq_true rfl) hfr, Nat.le_trans (Nat.le_of_ble_eq_true rfl) hlc⟩ ?_
    obtain ⟨g5, hf⟩ := gd_some hf
    exact g_zret C rfl g5 dX8_telling_26 hf
  · rw [if_neg h1] at hf
    refine g_ild_n C 1 rfl rfl dX8_telling_4 ?_
    refine g_ild_n C 2 rfl rfl dX8_telling_5 ?_
    refine g_ic_gt C 21 (by decide) dX8_telling_6 (fun h6 => ?_) (fun h6 => ?_)
    · rw [if_pos h6] at hf
      refine g_ald_n C 0 rfl rfl dX8_telling_21 ?_
      refine g_iconst C dX8_telling_22 ?_
      obtain ⟨r7, μ8, hc9, hf⟩ := bn_some hf
      refine g_callVp (As := [vi 5]) (rest := []) C ⟨Nat.zero_le _, Nat.zero_le _⟩ dX8_telling_23 cw_X8_refuse m_2_74 m_2_76 m_0_0 in_0 (ec_0 _ _ _ _ _) rfl rfl (c_X8_refuse  hc9) rfl rfl (Nat.le_of_ble_eq_true rfl) ⟨Nat.le_trans (Nat.le_of_ble_eq_true rfl) hfr, Nat.le_trans (Nat.le_of_ble_eq_true rfl) hlc⟩ ?_
      obtain ⟨g10, hf⟩ := gd_some hf
      exact g_zret C rfl g10 dX8_telling_26 hf
    · rw [if_neg h6] at hf
      refine g_ild_n C 2 rfl rfl dX8_telling_9 ?_
      refine g_iconst C dX8_telling_10 ?_
      refine g_ic_lt C 21 (by decide) dX8_telling_11 (fun h11 => ?_) (fun h11 => ?_)
      · rw [if_pos h11] at hf
        refine g_ald_n C 0 rfl rfl dX8_telling_21 ?_
        refine g_iconst C dX8_telling_22 ?_
        obtain ⟨r12, μ13, hc14, hf⟩ := bn_some hf
        refine g_callVp (As := [vi 5]) (rest := []) C ⟨Nat.zero_le _, Nat.zero_le _⟩ dX8_telling_23 cw_X8_refuse m_2_74 m_2_76 m_0_0 in_0 (ec_0 _ _ _ _ _) rfl rfl (c_X8_refuse  hc14) rfl rfl (Nat.le_of_ble_eq_true rfl) ⟨Nat.le_trans (Nat.le_of_ble_eq_true rfl) hfr, Nat.le_trans (Nat.le_of_ble_eq_true rfl) hlc⟩ ?_
        obtain ⟨g15, hf⟩ := gd_some hf
        exact g_zret C rfl g15 dX8_telling_26 hf
      · rw [if_neg h11] at hf
        refine g_ild_n C 2 rfl rfl dX8_telling_14 ?_
        refine g_sipush C rfl dX8_telling_15 ?_
        refine g_ic_le C 27 (by decide) dX8_telling_18 (fun h16 => ?_) (fun h16 => ?_)
        · rw [if_pos h16] at hf
          refine g_ald_n C 0 rfl rfl dX8_telling_27 ?_
          refine g_get C dX8_telling_28 fl_X8_54 in_0 (ec_0 _ _ _ _ _) rfl ?_
          refine g_get C dX8_telling_31 fl_X8_261 in_23 (ec_23 _ _ _ _ _) rfl ?_
          refine g_sipush C rfl dX8_telling_34 ?_
          refine g_ic_lt C 47 (by decide) dX8_telling_37 (fun h17 => ?_) (fun h17 => ?_)
          · rw [if_pos h17] at hf
            refine g_ald_n C 0 rfl rfl dX8_telling_47 ?_
            refine g_get C dX8_telling_48 fl_X8_54 in_0 (ec_0 _ _ _ _ _) rfl ?_
            refine g_ild_n C 1 rfl rfl dX8_telling_51 ?_
            refine g_ild_n C 2 rfl rfl dX8_telling_52 ?_
            refine g_ild_n C 3 rfl rfl dX8_telling_53 ?_
            obtain ⟨r18, μ19, hc20, hf⟩ := bn_some hf
            refine g_callVp (As := [vi a1, vi a2, vi a3]) (rest := []) C ⟨Nat.zero_le _, Nat.zero_le _⟩ dX8_telling_54 cw_X4_add m_3_225 m_3_226 m_3_227 in_23 (ec_23 _ _ _ _ _) rfl rfl (c_X4_add  hc20) rfl rfl (Nat.le_of_ble_eq_true rfl) ⟨Nat.le_trans (Nat.le_of_ble_eq_true rfl) hfr, Nat.le_trans (Nat.le_of_ble_eq_true rfl) hlc⟩ ?_
            refine g_ald_n C 0 rfl rfl dX8_telling_57 ?_
            obtain ⟨r21, μ22, hc23, hf⟩ := bn_some hf
            refine g_callVp (As := []) (rest := []) C ⟨Nat.zero_le _, Nat.zero_le _⟩ dX8_telling_58 cw_X8_well m_2_85 m_2_87 m_0_1 in_0 (ec_0 _ _ _ _ _) rfl rfl (c_X8_well  hc23) rfl rfl (Nat.le_of_ble_eq_true rfl) ⟨Nat.le_trans (Nat.le_of_ble_eq_true rfl) hfr, Nat.le_trans (Nat.le_of_ble_eq_true rfl) hlc⟩ ?_
            obtain ⟨g24, hf⟩ := gd_some hf
            exact g_zret C rfl g24 dX8_telling_61 hf
          · rw [if_neg h17] at hf
            refine g_ald_n C 0 rfl rfl dX8_telling_40 ?_
            refine g_bipush C rfl dX8_telling_41 ?_
            obtain ⟨r25, μ26, hc27, hf⟩ := bn_some hf
            refine g_callVp (As := [vi 7]) (rest := []) C ⟨Nat.zero_le _, Nat.zero_le _⟩ dX8_telling_43 cw_X8_refuse m_2_74 m_2_76 m_0_0 in_0 (ec_0 _ _ _ _ _) rfl rfl (c_X8_refuse  hc27) rfl rfl (Nat.le_of_ble_eq_true rfl) ⟨Nat.le_trans (Nat.le_of_ble_eq_true rfl) hfr, Nat.le_trans (Nat.le_of_ble_eq_true rfl) hlc⟩ ?_
            obtain ⟨g28, hf⟩ := gd_some hf
            exact g_zret C rfl g28 dX8_telling_46 hf
        · rw [if_neg h16] at hf
          refine g_ald_n C 0 rfl rfl dX8_telling_21 ?_
          refine g_iconst C dX8_telling_22 ?_
          obtain ⟨r29, μ30, hc31, hf⟩ := bn_some hf
          refine g_callVp (As := [vi 5]) (rest := []) C ⟨Nat.zero_le _, Nat.zero_le _⟩ dX8_telling_23 cw_X8_refuse m_2_74 m_2_76 m_0_0 in_0 (ec_0 _ _ _ _ _) rfl rfl (c_X8_refuse  hc31) rfl rfl (Nat.le_of_ble_eq_true rfl) ⟨Nat.le_trans (Nat.le_of_ble_eq_true rfl) hfr, Nat.le_trans (Nat.le_of_ble_eq_true rfl) hlc⟩ ?_
          obtain ⟨g32, hf⟩ := gd_some hf
          exact g_zret C rfl g32 dX8_telling_26 hf
set_option maxHeartbeats 4000000 in
set_option maxRecDepth 100000 in
theorem c_X8_telling {l : Launch} {D : va_G} {Y : Nat → ClassId} {α : Adr} {a1 : Int} {a2 : Int} {a3 : Int} {μ : Mem} {r : Int} {μ' : Mem}  (hf : f_X8_telling a1 a2 a3 μ = some (r, μ')) : Ctr l D Y LBx yX8_telling cX8_telling 4 (some .boolean) 4 104 0 0 [vr α 0 0, vi a1, vi a2, vi a3] α μ (some (vi r)) (fun a => a = α) μ' := Ctr_of pn_X8 rfl rfl (Nat.le_of_ble_eq_true rfl) LBx_nd (fun p e s m below meth c sz C => b_X8_telling C (Nat.le_refl _) (Nat.le_refl _)  hf)
end

/-! EndTeller.isStep -/
def f_X8_isStep (a0 : Int) (μ : Mem) : Option (Int × Mem) := (if w32 a0 < 0 then some (0, μ) else (if w32 10 ≤ w32 a0 then some (0, μ) else some (1, μ)))
section
variable {p : Program} {l : Launch} {e : Env} {R : Room} {s : State} {m : MethodId} {args : Array Value} {below : List Frame} {meth : Method} {c : Code} {D : va_G} {Y : Nat → ClassId} {α : Adr} {sz : Nat} {r : Int} {μ' : Mem}
set_option maxHeartbeats 4000000 in
set_option maxRecDepth 100000 in
theorem b_X8_isStep {a0 : Int} {μ : Mem} (C : CX p s m args meth c cX8_isStep 1 RX8 (some .boolean) D Y LBx (Ar LBx α sz)) (hfr : 0 ≤ R.frames) (hlc : 0 ≤ R.locals)  (hf : f_X8_isStep a0 μ = some (r, μ')) : GG D Y LBx (Ar LBx α sz) p l e R s m args below meth c 1 (MQ below (Qcx D Y LBx α sz (some (vi r)) (fun a => a = α) μ') args s 0 0 (Ar LBx α sz)) α 0 0 [(0, vi a0)] [] μ 0 := by
  unfold f_X8_isStep at hf
  refine g_ild_n C 0 rfl rfl dX8_isStep_0 ?_
  refine g_if_lt C 14 (by decide) dX8_isStep_1 (fun h1 => ?_) (fun h1 => ?_)
  · rw [if_pos h1] at hf
    refine g_iconst C dX8_isStep_14 ?_
    exact g_zret C rfl (Or.inl rfl) dX8_isStep_15 hf
  · rw [if_neg h1] at hf
    refine g_ild_n C 0 rfl rfl dX8_isStep_4 ?_
    refine g_bipush C rfl dX8_isStep_5 ?_
    refine g_ic_ge C 14 (by decide) dX8_isStep_7 (fun h2 => ?_) (fun h2 => ?_)
    · rw [if_pos h2] at hf
      refine g_iconst C dX8_isStep_14 ?_
      exact g_zret C rfl (Or.inl rfl) dX8_isStep_15 hf
    · rw [if_neg h2] at hf
      refine g_iconst C dX8_isStep_10 ?_
      refine g_goto C 15 (by decide) dX8_isStep_11 ?_
      exact g_zret C rfl (Or.inr rfl) dX8_isStep_15 hf
set_option maxHeartbeats 4000000 in
set_option maxRecDepth 100000 in
theorem c_X8_isStep {l : Launch} {D : va_G} {Y : Nat → ClassId} {α : Adr} {a0 : Int} {μ : Mem} {r : Int} {μ' : Mem}  (hf : f_X8_isStep a0 μ = some (r, μ')) : Ctr l D Y LBx yX8_isStep cX8_isStep 1 (some .boolean) 0 0 0 0 [vi a0] α μ (some (vi r)) (fun a => a = α) μ' := Ctr_of pn_X8 rfl rfl (Nat.le_of_ble_eq_true rfl) LBx_nd (fun p e s m below meth c sz C => b_X8_isStep C (Nat.le_refl _) (Nat.le_refl _)  hf)
end

/-! EndTeller.judged -/
def f_X8_judged (a1 : Int) (a2 : Int) (μ : Mem) : Option (Int × Mem) := bn (f_X8_isStep a1 μ) (fun r1 μ2 => (if w32 r1 = 0 then bn (f_X8_refuseNumber 2 μ2) (fun r5 μ6 => some (r5, μ6)) else (if w32 a2 < 0 then bn (f_X8_refuseNumber 5 μ2) (fun r9 μ10 => some (r9, μ10)) else (if w32 a2 ≤ w32 1 then (if w32 a2 = 0 then gd (inb a1 10) (some (((st μ2 0 0 0 0) 24 0 (ix a1)), (st μ2 0 0 0 0))) else gd (inb a1 10) (some (((st μ2 0 0 0 0) 25 0 (ix a1)), (st μ2 0 0 0 0)))) else bn (f_X8_refuseNumber 5 μ2) (fun r16 μ17 => some (r16, μ17))))))
section
variable {p : Program} {l : Launch} {e : Env} {R : Room} {s : State} {m : MethodId} {args : Array Value} {below : List Frame} {meth : Method} {c : Code} {D : va_G} {Y : Nat → ClassId} {α : Adr} {sz : Nat} {r : Int} {μ' : Mem}
set_option maxHeartbeats 4000000 in
set_option maxRecDepth 100000 in
theorem b_X8_judged {a1 : Int} {a2 : Int} {μ : Mem} (C : CX p s m args meth c cX8_judged 3 RX8 (some .int) D Y LBx (Ar LBx α sz)) (hfr : 1 ≤ R.frames) (hlc : 21 ≤ R.locals)  (hf : f_X8_judged a1 a2 μ = some (r, μ')) : GG D Y LBx (Ar LBx α sz) p l e R s m args below meth c 3 (MQ below (Qcx D Y LBx α sz (some (vi r)) (fun a => a = α) μ') args s 0 0 (Ar LBx α sz)) α 0 0 [(0, vr α 0 0), (1, vi a1), (2, vi a2)] [] μ 0 := by
  unfold f_X8_judged at hf
  refine g_ild_n C 1 rfl rfl dX8_judged_0 ?_
  obtain ⟨r1, μ2, hc3, hf⟩ := bn_some hf
  refine g_callSp (As := [vi a1]) (rest := []) C ⟨Nat.zero_le _, Nat.zero_le _⟩ dX8_judged_1 cw_X8_isStep m_3_236 m_3_237 (c_X8_isStep  hc3) rfl rfl (Nat.le_of_ble_eq_true rfl) ⟨Nat.le_trans (Nat.le_of_ble_eq_true rfl) hfr, Nat.le_trans (Nat.le_of_ble_eq_true rfl) hlc⟩ ?_
  refine g_if_ne C 13 (by decide) dX8_judged_4 (fun h4 => ?_) (fun h4 => ?_)
  · rw [if_pos h4] at hf
    refine g_ald_n C 0 rfl rfl dX8_judged_7 ?_
    refine g_iconst C dX8_judged_8 ?_
    obtain ⟨r5, μ6, hc7, hf⟩ := bn_some hf
    refine g_callVp (As := [vi 2]) (rest := []) C ⟨Nat.zero_le _, Nat.zero_le _⟩ dX8_judged_9 cw_X8_refuseNumber m_2_118 m_2_120 m_0_3 in_0 (ec_0 _ _ _ _ _) rfl rfl (c_X8_refuseNumber  hc7) rfl rfl (Nat.le_of_ble_eq_true rfl) ⟨Nat.le_trans (Nat.le_of_ble_eq_true rfl) hfr, Nat.le_trans (Nat.le_of_ble_eq_true rfl) hlc⟩ ?_
    exact g_iret C rfl dX8_judged_12 hf
  · rw [if_neg h4] at hf
    refine g_ild_n C 2 rfl rfl dX8_judged_13 ?_
    refine g_if_lt C 22 (by decide) dX8_judged_14 (fun h8 => ?_) (fun h8 => ?_)
    · rw [if_pos h8] at hf
      refine g_ald_n C 0 rfl rfl dX8_judged_22 ?_
      refine g_iconst C dX8_judged_23 ?_
      obtain ⟨r9, μ10, hc11, hf⟩ := bn_some hf
      refine g_callVp (As := [vi 5]) (rest := []) C ⟨Nat.zero_le _, Nat.zero_le _⟩ dX8_judged_24 cw_X8_refuseNumber m_2_118 m_2_120 m_0_3 in_0 (ec_0 _ _ _ _ _) rfl rfl (c_X8_refuseNumber  hc11) rfl rfl (Nat.le_of_ble_eq_true rfl) ⟨Nat.le_trans (Nat.le_of_ble_eq_true rfl) hfr, Nat.le_trans (Nat.le_of_ble_eq_true rfl) hlc⟩ ?_
      exact g_iret C rfl dX8_judged_27 hf
    · rw [if_neg h8] at hf
      refine g_ild_n C 2 rfl rfl dX8_judged_17 ?_
      refine g_iconst C dX8_judged_18 ?_
      refine g_ic_le C 28 (by decide) dX8_judged_19 (fun h12 => ?_) (fun h12 => ?_)
      · rw [if_pos h12] at hf
        refine g_ald_n C 0 rfl rfl dX8_judged_28 ?_
        refine g_iconst C dX8_judged_29 ?_
        refine g_puti C dX8_judged_30 fl_X8_9 in_0 (ec_0 _ _ _ _ _) (Nat.le_of_ble_eq_true rfl) rfl (by decide) ?_
        refine g_ild_n C 2 rfl rfl dX8_judged_33 ?_
        refine g_if_ne C 49 (by decide) dX8_judged_34 (fun h13 => ?_) (fun h13 => ?_)
        · rw [if_pos h13] at hf
          refine g_ald_n C 0 rfl rfl dX8_judged_37 ?_
          refine g_get C dX8_judged_38 fl_X8_54 in_0 (ec_0 _ _ _ _ _) rfl ?_
          refine g_get C dX8_judged_41 fl_X8_268 in_23 (ec_23 _ _ _ _ _) rfl ?_
          refine g_ild_n C 1 rfl rfl dX8_judged_44 ?_
          obtain ⟨g14, hf⟩ := gd_some hf
          refine g_iald C dX8_judged_45 in_24 (fun _ => ec_24 _ _ _ _ _) g14 ?_
          refine g_goto C 58 (by decide) dX8_judged_46 ?_
          exact g_iret C rfl dX8_judged_58 hf
        · rw [if_neg h13] at hf
          refine g_ald_n C 0 rfl rfl dX8_judged_49 ?_
          refine g_get C dX8_judged_50 fl_X8_54 in_0 (ec_0 _ _ _ _ _) rfl ?_
          refine g_get C dX8_judged_53 fl_X8_271 in_23 (ec_23 _ _ _ _ _) rfl ?_
          refine g_ild_n C 1 rfl rfl dX8_judged_56 ?_
          obtain ⟨g15, hf⟩ := gd_some hf
          refine g_iald C dX8_judged_57 in_25 (fun _ => ec_25 _ _ _ _ _) g15 ?_
          exact g_iret C rfl dX8_judged_58 hf
      · rw [if_neg h12] at hf
        refine g_ald_n C 0 rfl rfl dX8_judged_22 ?_
        refine g_iconst C dX8_judged_23 ?_
        obtain ⟨r16, μ17, hc18, hf⟩ := bn_some hf
        refine g_callVp (As := [vi 5]) (rest := []) C ⟨Nat.zero_le _, Nat.zero_le _⟩ dX8_judged_24 cw_X8_refuseNumber m_2_118 m_2_120 m_0_3 in_0 (ec_0 _ _ _ _ _) rfl rfl (c_X8_refuseNumber  hc18) rfl rfl (Nat.le_of_ble_eq_true rfl) ⟨Nat.le_trans (Nat.le_of_ble_eq_true rfl) hfr, Nat.le_trans (Nat.le_of_ble_eq_true rfl) hlc⟩ ?_
        exact g_iret C rfl dX8_judged_27 hf
set_option maxHeartbeats 4000000 in
set_option maxRecDepth 100000 in
theorem c_X8_judged {l : Launch} {D : va_G} {Y : Nat → ClassId} {α : Adr} {a1 : Int} {a2 : Int} {μ : Mem} {r : Int} {μ' : Mem}  (hf : f_X8_judged a1 a2 μ = some (r, μ')) : Ctr l D Y LBx yX8_judged cX8_judged 3 (some .int) 1 21 0 0 [vr α 0 0, vi a1, vi a2] α μ (some (vi r)) (fun a => a = α) μ' := Ctr_of pn_X8 rfl rfl (Nat.le_of_ble_eq_true rfl) LBx_nd (fun p e s m below meth c sz C => b_X8_judged C (Nat.le_refl _) (Nat.le_refl _)  hf)
end

/-! EndTeller.said -/
def f_X8_said (a1 : Int) (μ : Mem) : Option (Int × Mem) := bn (f_X8_isStep a1 μ) (fun r1 μ2 => (if w32 r1 = 0 then bn (f_X8_refuse 2 μ2) (fun r5 μ6 => gd (bb r5) (some (r5, μ6))) else gd (inb a1 10) ((if w32 (μ2 24 0 (ix a1)) = 0 then bn (f_X8_refuse 5 μ2) (fun r11 μ12 => gd (bb r11) (some (r11, μ12))) else gd (inb a1 10) ((if w32 (μ2 27 0 (ix a1)) = 0 then gd (inb a1 10) (bn (f_X8_tell (μ2 1 ((ix a1) + 3) 0) ((μ2 1 ((ix a1) + 3) 1) * (w32 (μ2 24 0 (ix a1)))) μ2) (fun r18 μ19 => gd (bb r18) (some (r18, μ19)))) else bn (f_X8_refuse 9 μ2) (fun r22 μ23 => gd (bb r22) (some (r22, μ23)))))))))
section
variable {p : Program} {l : Launch} {e : Env} {R : Room} {s : State} {m : MethodId} {args : Array Value} {below : List Frame} {meth : Method} {c : Code} {D : va_G} {Y : Nat → ClassId} {α : Adr} {sz : Nat} {r : Int} {μ' : Mem}
set_option maxHeartbeats 4000000 in
set_option maxRecDepth 100000 in
theorem b_X8_said {a1 : Int} {μ : Mem} (C : CX p s m args meth c cX8_said 4 RX8 (some .boolean) D Y LBx (Ar LBx α sz)) (hfr : 3 ≤ R.frames) (hlc : 80 ≤ R.locals)  (hf : f_X8_said a1 μ = some (r, μ')) : GG D Y LBx (Ar LBx α sz) p l e R s m args below meth c 4 (MQ below (Qcx D Y LBx α sz (some (vi r)) (fun a => a = α) μ') args s 0 0 (Ar LBx α sz)) α 0 0 [(0, vr α 0 0), (1, vi a1)] [] μ 0 := by
  unfold f_X8_said at hf
  refine g_ild_n C 1 rfl rfl dX8_said_0 ?_
  obtain ⟨r1, μ2, hc3, hf⟩ := bn_some hf
  refine g_callSp (As := [vi a1]) (rest := []) C ⟨Nat.zero_le _, Nat.zero_le _⟩ dX8_said_1 cw_X8_isStep m_3_236 m_3_237 (c_X8_isStep  hc3) rfl rfl (Nat.le_of_ble_eq_true rfl) ⟨Nat.le_trans (Nat.le_of_ble_eq_true rfl) hfr, Nat.le_trans (Nat.le_of_ble_eq_true rfl) hlc⟩ ?_
  refine g_if_ne C 13 (by decide) dX8_said_4 (fun h4 => ?_) (fun h4 => ?_)
  · rw [if_pos h4] at hf
    refine g_ald_n C 0 rfl rfl dX8_said_7 ?_
    refine g_iconst C dX8_said_8 ?_
    obtain ⟨r5, μ6, hc7, hf⟩ := bn_some hf
    refine g_callVp (As := [vi 2]) (rest := []) C ⟨Nat.zero_le _, Nat.zero_le _⟩ dX8_said_9 cw_X8_refuse m_2_74 m_2_76 m_0_0 in_0 (ec_0 _ _ _ _ _) rfl rfl (c_X8_refuse  hc7) rfl rfl (Nat.le_of_ble_eq_true rfl) ⟨Nat.le_trans (Nat.le_of_ble_eq_true rfl) hfr, Nat.le_trans (Nat.le_of_ble_eq_true rfl) hlc⟩ ?_
    obtain ⟨g8, hf⟩ := gd_some hf
    exact g_zret C rfl g8 dX8_said_12 hf
  · rw [if_neg h4] at hf
    refine g_ald_n C 0 rfl rfl dX8_said_13 ?_
    refine g_get C dX8_said_14 fl_X8_54 in_0 (ec_0 _ _ _ _ _) rfl ?_
    refine g_get C dX8_said_17 fl_X8_268 in_23 (ec_23 _ _ _ _ _) rfl ?_
    refine g_ild_n C 1 rfl rfl dX8_said_20 ?_
    obtain ⟨g9, hf⟩ := gd_some hf
    refine g_iald C dX8_said_21 in_24 (fun _ => ec_24 _ _ _ _ _) g9 ?_
    refine g_ist_n (lo' := [(2, vi (μ2 24 0 (ix a1))), (0, vr α 0 0), (1, vi a1)]) C rfl (by decide) rfl dX8_said_22 ?_
    refine g_ild_n C 0 rfl rfl dX8_said_23 ?_
    refine g_if_ne C 33 (by decide) dX8_said_24 (fun h10 => ?_) (fun h10 => ?_)
    · rw [if_pos h10] at hf
      refine g_ald_n C 1 rfl rfl dX8_said_27 ?_
      refine g_iconst C dX8_said_28 ?_
      obtain ⟨r11, μ12, hc13, hf⟩ := bn_some hf
      refine g_callVp (As := [vi 5]) (rest := []) C ⟨Nat.zero_le _, Nat.zero_le _⟩ dX8_said_29 cw_X8_refuse m_2_74 m_2_76 m_0_0 in_0 (ec_0 _ _ _ _ _) rfl rfl (c_X8_refuse  hc13) rfl rfl (Nat.le_of_ble_eq_true rfl) ⟨Nat.le_trans (Nat.le_of_ble_eq_true rfl) hfr, Nat.le_trans (Nat.le_of_ble_eq_true rfl) hlc⟩ ?_
      obtain ⟨g14, hf⟩ := gd_some hf
      exact g_zret C rfl g14 dX8_said_32 hf
    · rw [if_neg h10] at hf
      refine g_ald_n C 1 rfl rfl dX8_said_33 ?_
      refine g_get C dX8_said_34 fl_X8_54 in_0 (ec_0 _ _ _ _ _) rfl ?_
      refine g_get C dX8_said_37 fl_X8_274 in_23 (ec_23 _ _ _ _ _) rfl ?_
      refine g_ild_n C 2 rfl rfl dX8_said_40 ?_
      obtain ⟨g15, hf⟩ := gd_some hf
      refine g_zald C dX8_said_41 in_27 (fun _ => ec_27 _ _ _ _ _) g15 ?_
      refine g_if_eq C 52 (by decide) dX8_said_42 (fun h16 => ?_) (fun h16 => ?_)
      · rw [if_pos h16] at hf
        refine g_ald_n C 1 rfl rfl dX8_said_52 ?_
        refine g_get C dX8_said_53 fl_X8_54 in_0 (ec_0 _ _ _ _ _) rfl ?_
        refine g_get C dX8_said_56 fl_X8_278 in_23 (ec_23 _ _ _ _ _) rfl ?_
        refine g_ild_n C 2 rfl rfl dX8_said_59 ?_
        obtain ⟨g17, hf⟩ := gd_some hf
        refine g_aald3 C dX8_said_60 in_26 (fun _ => ec_26 _ _ _ _ _) rfl g17 ?_
        refine g_ast_n (lo' := [(3, vr α 1 ((ix a1) + 3)), (2, vi (μ2 24 0 (ix a1))), (0, vr α 0 0), (1, vi a1)]) C rfl (by decide) rfl dX8_said_61 ?_
        refine g_ald_n C 2 rfl rfl dX8_said_62 ?_
        refine g_ald_n C 0 rfl rfl dX8_said_63 ?_
        refine g_get C dX8_said_64 fl_X8_192 (in_1 (inb_ix3 g17)) (ec_1 _ _ _ _ _) rfl ?_
        refine g_ald_n C 0 rfl rfl dX8_said_67 ?_
        refine g_get C dX8_said_68 fl_X8_196 (in_1 (inb_ix3 g17)) (ec_1 _ _ _ _ _) rfl ?_
        refine g_ild_n C 1 rfl rfl dX8_said_71 ?_
        refine g_i2l C dX8_said_72 ?_
        refine g_lmul C dX8_said_73 ?_
        obtain ⟨r18, μ19, hc20, hf⟩ := bn_some hf
        refine g_callVp (As := [vl (μ2 1 ((ix a1) + 3) 0), vl ((μ2 1 ((ix a1) + 3) 1) * (w32 (μ2 24 0 (ix a1))))]) (rest := []) C ⟨Nat.zero_le _, Nat.zero_le _⟩ dX8_said_74 cw_X8_tell m_3_117 m_3_119 m_0_7 in_0 (ec_0 _ _ _ _ _) rfl rfl (c_X8_tell  hc20) rfl rfl (Nat.le_of_ble_eq_true rfl) ⟨Nat.le_trans (Nat.le_of_ble_eq_true rfl) hfr, Nat.le_trans (Nat.le_of_ble_eq_true rfl) hlc⟩ ?_
        obtain ⟨g21, hf⟩ := gd_some hf
        exact g_zret C rfl g21 dX8_said_77 hf
      · rw [if_neg h16] at hf
        refine g_ald_n C 1 rfl rfl dX8_said_45 ?_
        refine g_bipush C rfl dX8_said_46 ?_
        obtain ⟨r22, μ23, hc24, hf⟩ := bn_some hf
        refine g_callVp (As := [vi 9]) (rest := []) C ⟨Nat.zero_le _, Nat.zero_le _⟩ dX8_said_48 cw_X8_refuse m_2_74 m_2_76 m_0_0 in_0 (ec_0 _ _ _ _ _) rfl rfl (c_X8_refuse  hc24) rfl rfl (Nat.le_of_ble_eq_true rfl) ⟨Nat.le_trans (Nat.le_of_ble_eq_true rfl) hfr, Nat.le_trans (Nat.le_of_ble_eq_true rfl) hlc⟩ ?_
        obtain ⟨g25, hf⟩ := gd_some hf
        exact g_zret C rfl g25 dX8_said_51 hf
set_option maxHeartbeats 4000000 in
set_option maxRecDepth 100000 in
theorem c_X8_said {l : Launch} {D : va_G} {Y : Nat → ClassId} {α : Adr} {a1 : Int} {μ : Mem} {r : Int} {μ' : Mem}  (hf : f_X8_said a1 μ = some (r, μ')) : Ctr l D Y LBx yX8_said cX8_said 4 (some .boolean) 3 80 0 0 [vr α 0 0, vi a1] α μ (some (vi r)) (fun a => a = α) μ' := Ctr_of pn_X8 rfl rfl (Nat.le_of_ble_eq_true rfl) LBx_nd (fun p e s m below meth c sz C => b_X8_said C (Nat.le_refl _) (Nat.le_refl _)  hf)
end
