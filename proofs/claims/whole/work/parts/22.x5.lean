/-! EndTeller$Tray.isMissing -/
def f_X5_isMissing (i0 : Nat) (μ : Mem) : Option (Int × Mem) := (if w32 (μ 3 i0 1) = w32 (-1) then some (1, μ) else some (0, μ))
section
variable {p : Program} {l : Launch} {e : Env} {R : Room} {s : State} {m : MethodId} {args : Array Value} {below : List Frame} {meth : Method} {c : Code} {D : va_G} {Y : Nat → ClassId} {α : Adr} {sz : Nat} {r : Int} {μ' : Mem}
set_option maxHeartbeats 4000000 in
set_option maxRecDepth 100000 in
theorem b_X5_isMissing {i0 : Nat} {μ : Mem} (C : CX p s m args meth c cX5_isMissing 1 RX5 (some .boolean) D Y LBx (Ar LBx α sz)) (hfr : 0 ≤ R.frames) (hlc : 0 ≤ R.locals) (hi0 : i0 < 4) (hf : f_X5_isMissing i0 μ = some (r, μ')) : GG D Y LBx (Ar LBx α sz) p l e R s m args below meth c 1 (MQ below (Qcx D Y LBx α sz (some (vi r)) (fun a => a = α) μ') args s 0 0 (Ar LBx α sz)) α 0 0 [(0, vr α 3 i0)] [] μ 0 := by
  unfold f_X5_isMissing at hf
  refine g_ald_n C 0 rfl rfl dX5_isMissing_0 ?_
  refine g_get C dX5_isMissing_1 fl_X5_15 (in_3 hi0) (ec_3 _ _ _ _ _) rfl ?_
  refine g_iconst C dX5_isMissing_4 ?_
  refine g_ic_ne C 12 (by decide) dX5_isMissing_5 (fun h1 => ?_) (fun h1 => ?_)
  · rw [if_pos h1] at hf
    refine g_iconst C dX5_isMissing_8 ?_
    refine g_goto C 13 (by decide) dX5_isMissing_9 ?_
    exact g_zret C rfl (Or.inr rfl) dX5_isMissing_13 hf
  · rw [if_neg h1] at hf
    refine g_iconst C dX5_isMissing_12 ?_
    exact g_zret C rfl (Or.inl rfl) dX5_isMissing_13 hf
set_option maxHeartbeats 4000000 in
set_option maxRecDepth 100000 in
theorem c_X5_isMissing {l : Launch} {D : va_G} {Y : Nat → ClassId} {α : Adr} {i0 : Nat} {μ : Mem} {r : Int} {μ' : Mem} (hi0 : i0 < 4) (hf : f_X5_isMissing i0 μ = some (r, μ')) : Ctr l D Y LBx yX5_isMissing cX5_isMissing 1 (some .boolean) 0 0 0 0 [vr α 3 i0] α μ (some (vi r)) (fun a => a = α) μ' := Ctr_of pn_X5 rfl rfl (Nat.le_of_ble_eq_true rfl) LBx_nd (fun p e s m below meth c sz C => b_X5_isMissing C (Nat.le_refl _) (Nat.le_refl _) hi0 hf)
end

/-! EndTeller$Tray.layOut -/
def f_X5_layOut (i0 : Nat) (a1 : Int) (a2 : Int) (μ : Mem) : Option (Int × Mem) := bn (f_J7_fill_d0a16 4 i0 40 0 μ) (fun r1 μ2 => some (0, (st (st μ2 3 i0 1 a1) 3 i0 2 a2)))
section
variable {p : Program} {l : Launch} {e : Env} {R : Room} {s : State} {m : MethodId} {args : Array Value} {below : List Frame} {meth : Method} {c : Code} {D : va_G} {Y : Nat → ClassId} {α : Adr} {sz : Nat} {r : Int} {μ' : Mem}
set_option maxHeartbeats 4000000 in
set_option maxRecDepth 100000 in
theorem b_X5_layOut {i0 : Nat} {a1 : Int} {a2 : Int} {μ : Mem} (C : CX p s m args meth c cX5_layOut 3 RX5 none D Y LBx (Ar LBx α sz)) (hfr : 1 ≤ R.frames) (hlc : 24 ≤ R.locals) (hi0 : i0 < 4) (hf : f_X5_layOut i0 a1 a2 μ = some (r, μ')) : GG D Y LBx (Ar LBx α sz) p l e R s m args below meth c 3 (MQ below (Qcx D Y LBx α sz none (fun a => a = α) μ') args s 0 0 (Ar LBx α sz)) α 0 0 [(0, vr α 3 i0), (1, vi a1), (2, vi a2)] [] μ 0 := by
  unfold f_X5_layOut at hf
  refine g_ald_n C 0 rfl rfl dX5_layOut_0 ?_
  refine g_get C dX5_layOut_1 fl_X5_9 (in_3 hi0) (ec_3 _ _ _ _ _) rfl ?_
  refine g_lconst (x := 0) C rfl dX5_layOut_4 ?_
  obtain ⟨r1, μ2, hc3, hf⟩ := bn_some hf
  refine g_callSp (As := [vr α 4 i0, vl 0]) (rest := []) C ⟨Nat.zero_le _, Nat.zero_le _⟩ dX5_layOut_5 cw_J7_fill_d0a16 m_2_82 m_2_83 (c_J7_fill_d0a16 (in_4 hi0) (fun _ _ _ _ => ec_4 _ _ _ _ _) (by decide) hc3) rfl rfl (Nat.le_of_ble_eq_true rfl) ⟨Nat.le_trans (Nat.le_of_ble_eq_true rfl) hfr, Nat.le_trans (Nat.le_of_ble_eq_true rfl) hlc⟩ ?_
  refine g_ald_n C 0 rfl rfl dX5_layOut_8 ?_
  refine g_ild_n C 1 rfl rfl dX5_layOut_9 ?_
  refine g_puti C dX5_layOut_10 fl_X5_15 (in_3 hi0) (ec_3 _ _ _ _ _) (Nat.le_of_ble_eq_true rfl) rfl (by decide) ?_
  refine g_ald_n C 0 rfl rfl dX5_layOut_13 ?_
  refine g_ild_n C 2 rfl rfl dX5_layOut_14 ?_
  refine g_puti C dX5_layOut_15 fl_X5_19 (in_3 hi0) (ec_3 _ _ _ _ _) (Nat.le_of_ble_eq_true rfl) rfl (by decide) ?_
  exact g_vret C rfl dX5_layOut_18 hf
set_option maxHeartbeats 4000000 in
set_option maxRecDepth 100000 in
theorem c_X5_layOut {l : Launch} {D : va_G} {Y : Nat → ClassId} {α : Adr} {i0 : Nat} {a1 : Int} {a2 : Int} {μ : Mem} {r : Int} {μ' : Mem} (hi0 : i0 < 4) (hf : f_X5_layOut i0 a1 a2 μ = some (r, μ')) : Ctr l D Y LBx yX5_layOut cX5_layOut 3 none 1 24 0 0 [vr α 3 i0, vi a1, vi a2] α μ none (fun a => a = α) μ' := Ctr_of pn_X5 rfl rfl (Nat.le_of_ble_eq_true rfl) LBx_nd (fun p e s m below meth c sz C => b_X5_layOut C (Nat.le_refl _) (Nat.le_refl _) hi0 hf)
end

/-! EndTeller$Tray.has -/
def f_X5_has (i0 : Nat) (a1 : Int) (μ : Mem) : Option (Int × Mem) := (if w32 a1 < 0 then some (0, μ) else (if w32 (μ 3 i0 2) ≤ w32 a1 then some (0, μ) else some (1, μ)))
section
variable {p : Program} {l : Launch} {e : Env} {R : Room} {s : State} {m : MethodId} {args : Array Value} {below : List Frame} {meth : Method} {c : Code} {D : va_G} {Y : Nat → ClassId} {α : Adr} {sz : Nat} {r : Int} {μ' : Mem}
set_option maxHeartbeats 4000000 in
set_option maxRecDepth 100000 in
theorem b_X5_has {i0 : Nat} {a1 : Int} {μ : Mem} (C : CX p s m args meth c cX5_has 2 RX5 (some .boolean) D Y LBx (Ar LBx α sz)) (hfr : 0 ≤ R.frames) (hlc : 0 ≤ R.locals) (hi0 : i0 < 4) (hf : f_X5_has i0 a1 μ = some (r, μ')) : GG D Y LBx (Ar LBx α sz) p l e R s m args below meth c 2 (MQ below (Qcx D Y LBx α sz (some (vi r)) (fun a => a = α) μ') args s 0 0 (Ar LBx α sz)) α 0 0 [(0, vr α 3 i0), (1, vi a1)] [] μ 0 := by
  unfold f_X5_has at hf
  refine g_ild_n C 1 rfl rfl dX5_has_0 ?_
  refine g_if_lt C 16 (by decide) dX5_has_1 (fun h1 => ?_) (fun h1 => ?_)
  · rw [if_pos h1] at hf
    refine g_iconst C dX5_has_16 ?_
    exact g_zret C rfl (Or.inl rfl) dX5_has_17 hf
  · rw [if_neg h1] at hf
    refine g_ild_n C 1 rfl rfl dX5_has_4 ?_
    refine g_ald_n C 0 rfl rfl dX5_has_5 ?_
    refine g_get C dX5_has_6 fl_X5_19 (in_3 hi0) (ec_3 _ _ _ _ _) rfl ?_
    refine g_ic_ge C 16 (by decide) dX5_has_9 (fun h2 => ?_) (fun h2 => ?_)
    · rw [if_pos h2] at hf
      refine g_iconst C dX5_has_16 ?_
      exact g_zret C rfl (Or.inl rfl) dX5_has_17 hf
    · rw [if_neg h2] at hf
      refine g_iconst C dX5_has_12 ?_
      refine g_goto C 17 (by decide) dX5_has_13 ?_
      exact g_zret C rfl (Or.inr rfl) dX5_has_17 hf
set_option maxHeartbeats 4000000 in
set_option maxRecDepth 100000 in
theorem c_X5_has {l : Launch} {D : va_G} {Y : Nat → ClassId} {α : Adr} {i0 : Nat} {a1 : Int} {μ : Mem} {r : Int} {μ' : Mem} (hi0 : i0 < 4) (hf : f_X5_has i0 a1 μ = some (r, μ')) : Ctr l D Y LBx yX5_has cX5_has 2 (some .boolean) 0 0 0 0 [vr α 3 i0, vi a1] α μ (some (vi r)) (fun a => a = α) μ' := Ctr_of pn_X5 rfl rfl (Nat.le_of_ble_eq_true rfl) LBx_nd (fun p e s m below meth c sz C => b_X5_has C (Nat.le_refl _) (Nat.le_refl _) hi0 hf)
end

/-! EndTeller$Tray.hasRun -/
def f_X5_hasRun (i0 : Nat) (a1 : Int) (a2 : Int) (μ : Mem) : Option (Int × Mem) := (if w32 a1 < 0 then some (0, μ) else (if w32 a2 < 0 then some (0, μ) else (if w32 ((μ 3 i0 2) - a2) < w32 a1 then some (0, μ) else some (1, μ))))
section
variable {p : Program} {l : Launch} {e : Env} {R : Room} {s : State} {m : MethodId} {args : Array Value} {below : List Frame} {meth : Method} {c : Code} {D : va_G} {Y : Nat → ClassId} {α : Adr} {sz : Nat} {r : Int} {μ' : Mem}
set_option maxHeartbeats 4000000 in
set_option maxRecDepth 100000 in
theorem b_X5_hasRun {i0 : Nat} {a1 : Int} {a2 : Int} {μ : Mem} (C : CX p s m args meth c cX5_hasRun 3 RX5 (some .boolean) D Y LBx (Ar LBx α sz)) (hfr : 0 ≤ R.frames) (hlc : 0 ≤ R.locals) (hi0 : i0 < 4) (hf : f_X5_hasRun i0 a1 a2 μ = some (r, μ')) : GG D Y LBx (Ar LBx α sz) p l e R s m args below meth c 3 (MQ below (Qcx D Y LBx α sz (some (vi r)) (fun a => a = α) μ') args s 0 0 (Ar LBx α sz)) α 0 0 [(0, vr α 3 i0), (1, vi a1), (2, vi a2)] [] μ 0 := by
  unfold f_X5_hasRun at hf
  refine g_ild_n C 1 rfl rfl dX5_hasRun_0 ?_
  refine g_if_lt C 22 (by decide) dX5_hasRun_1 (fun h1 => ?_) (fun h1 => ?_)
  · rw [if_pos h1] at hf
    refine g_iconst C dX5_hasRun_22 ?_
    exact g_zret C rfl (Or.inl rfl) dX5_hasRun_23 hf
  · rw [if_neg h1] at hf
    refine g_ild_n C 2 rfl rfl dX5_hasRun_4 ?_
    refine g_if_lt C 22 (by decide) dX5_hasRun_5 (fun h2 => ?_) (fun h2 => ?_)
    · rw [if_pos h2] at hf
      refine g_iconst C dX5_hasRun_22 ?_
      exact g_zret C rfl (Or.inl rfl) dX5_hasRun_23 hf
    · rw [if_neg h2] at hf
      refine g_ild_n C 1 rfl rfl dX5_hasRun_8 ?_
      refine g_ald_n C 0 rfl rfl dX5_hasRun_9 ?_
      refine g_get C dX5_hasRun_10 fl_X5_19 (in_3 hi0) (ec_3 _ _ _ _ _) rfl ?_
      refine g_ild_n C 2 rfl rfl dX5_hasRun_13 ?_
      refine g_isub C dX5_hasRun_14 ?_
      refine g_ic_gt C 22 (by decide) dX5_hasRun_15 (fun h3 => ?_) (fun h3 => ?_)
      · rw [if_pos h3] at hf
        refine g_iconst C dX5_hasRun_22 ?_
        exact g_zret C rfl (Or.inl rfl) dX5_hasRun_23 hf
      · rw [if_neg h3] at hf
        refine g_iconst C dX5_hasRun_18 ?_
        refine g_goto C 23 (by decide) dX5_hasRun_19 ?_
        exact g_zret C rfl (Or.inr rfl) dX5_hasRun_23 hf
set_option maxHeartbeats 4000000 in
set_option maxRecDepth 100000 in
theorem c_X5_hasRun {l : Launch} {D : va_G} {Y : Nat → ClassId} {α : Adr} {i0 : Nat} {a1 : Int} {a2 : Int} {μ : Mem} {r : Int} {μ' : Mem} (hi0 : i0 < 4) (hf : f_X5_hasRun i0 a1 a2 μ = some (r, μ')) : Ctr l D Y LBx yX5_hasRun cX5_hasRun 3 (some .boolean) 0 0 0 0 [vr α 3 i0, vi a1, vi a2] α μ (some (vi r)) (fun a => a = α) μ' := Ctr_of pn_X5 rfl rfl (Nat.le_of_ble_eq_true rfl) LBx_nd (fun p e s m below meth c sz C => b_X5_hasRun C (Nat.le_refl _) (Nat.le_refl _) hi0 hf)
end

/-! EndTeller$Tray.numberAt -/
def f_X5_numberAt (i0 : Nat) (a1 : Int) (μ : Mem) : Option (Int × Mem) := bn (f_X5_has i0 a1 μ) (fun r1 μ2 => (if w32 r1 = 0 then some (0, μ2) else gd (inb a1 40) (some ((μ2 4 i0 (ix a1)), μ2))))
section
variable {p : Program} {l : Launch} {e : Env} {R : Room} {s : State} {m : MethodId} {args : Array Value} {below : List Frame} {meth : Method} {c : Code} {D : va_G} {Y : Nat → ClassId} {α : Adr} {sz : Nat} {r : Int} {μ' : Mem}
set_option maxHeartbeats 4000000 in
set_option maxRecDepth 100000 in
theorem b_X5_numberAt {i0 : Nat} {a1 : Int} {μ : Mem} (C : CX p s m args meth c cX5_numberAt 2 RX5 (some .long) D Y LBx (Ar LBx α sz)) (hfr : 1 ≤ R.frames) (hlc : 21 ≤ R.locals) (hi0 : i0 < 4) (hf : f_X5_numberAt i0 a1 μ = some (r, μ')) : GG D Y LBx (Ar LBx α sz) p l e R s m args below meth c 2 (MQ below (Qcx D Y LBx α sz (some (vl r)) (fun a => a = α) μ') args s 0 0 (Ar LBx α sz)) α 0 0 [(0, vr α 3 i0), (1, vi a1)] [] μ 0 := by
  unfold f_X5_numberAt at hf
  refine g_ald_n C 0 rfl rfl dX5_numberAt_0 ?_
  refine g_ild_n C 1 rfl rfl dX5_numberAt_1 ?_
  obtain ⟨r1, μ2, hc3, hf⟩ := bn_some hf
  refine g_callVp (As := [vi a1]) (rest := []) C ⟨Nat.zero_le _, Nat.zero_le _⟩ dX5_numberAt_2 cw_X5_has m_2_109 m_2_102 m_2_103 (in_3 hi0) (ec_3 _ _ _ _ _) rfl rfl (c_X5_has hi0 hc3) rfl rfl (Nat.le_of_ble_eq_true rfl) ⟨Nat.le_trans (Nat.le_of_ble_eq_true rfl) hfr, Nat.le_trans (Nat.le_of_ble_eq_true rfl) hlc⟩ ?_
  refine g_if_eq C 17 (by decide) dX5_numberAt_5 (fun h4 => ?_) (fun h4 => ?_)
  · rw [if_pos h4] at hf
    refine g_lconst (x := 0) C rfl dX5_numberAt_17 ?_
    exact g_lret C rfl dX5_numberAt_18 hf
  · rw [if_neg h4] at hf
    refine g_ald_n C 0 rfl rfl dX5_numberAt_8 ?_
    refine g_get C dX5_numberAt_9 fl_X5_9 (in_3 hi0) (ec_3 _ _ _ _ _) rfl ?_
    refine g_ild_n C 1 rfl rfl dX5_numberAt_12 ?_
    obtain ⟨g5, hf⟩ := gd_some hf
    refine g_lald C dX5_numberAt_13 (in_4 hi0) (fun _ => ec_4 _ _ _ _ _) g5 ?_
    refine g_goto C 18 (by decide) dX5_numberAt_14 ?_
    exact g_lret C rfl dX5_numberAt_18 hf
set_option maxHeartbeats 4000000 in
set_option maxRecDepth 100000 in
theorem c_X5_numberAt {l : Launch} {D : va_G} {Y : Nat → ClassId} {α : Adr} {i0 : Nat} {a1 : Int} {μ : Mem} {r : Int} {μ' : Mem} (hi0 : i0 < 4) (hf : f_X5_numberAt i0 a1 μ = some (r, μ')) : Ctr l D Y LBx yX5_numberAt cX5_numberAt 2 (some .long) 1 21 0 0 [vr α 3 i0, vi a1] α μ (some (vl r)) (fun a => a = α) μ' := Ctr_of pn_X5 rfl rfl (Nat.le_of_ble_eq_true rfl) LBx_nd (fun p e s m below meth c sz C => b_X5_numberAt C (Nat.le_refl _) (Nat.le_refl _) hi0 hf)
end

/-! EndTeller$Tray.cut -/
def f_X5_cut (i0 : Nat) (a1 : Int) (μ : Mem) : Option (Int × Mem) := (if w32 (μ 3 i0 1) = 0 then some ((w32 (i8 a1)), μ) else (if w32 (μ 3 i0 1) = 1 then some ((w32 (i16 a1)), μ) else (if w32 (μ 3 i0 1) = 2 then some ((w32 a1), μ) else some (a1, μ))))
section
variable {p : Program} {l : Launch} {e : Env} {R : Room} {s : State} {m : MethodId} {args : Array Value} {below : List Frame} {meth : Method} {c : Code} {D : va_G} {Y : Nat → ClassId} {α : Adr} {sz : Nat} {r : Int} {μ' : Mem}
set_option maxHeartbeats 4000000 in
set_option maxRecDepth 100000 in
theorem b_X5_cut {i0 : Nat} {a1 : Int} {μ : Mem} (C : CX p s m args meth c cX5_cut 3 RX5 (some .long) D Y LBx (Ar LBx α sz)) (hfr : 0 ≤ R.frames) (hlc : 0 ≤ R.locals) (hi0 : i0 < 4) (hf : f_X5_cut i0 a1 μ = some (r, μ')) : GG D Y LBx (Ar LBx α sz) p l e R s m args below meth c 3 (MQ below (Qcx D Y LBx α sz (some (vl r)) (fun a => a = α) μ') args s 0 0 (Ar LBx α sz)) α 0 0 [(0, vr α 3 i0), (1, vl a1)] [] μ 0 := by
  unfold f_X5_cut at hf
  refine g_ald_n C 0 rfl rfl dX5_cut_0 ?_
  refine g_get C dX5_cut_1 fl_X5_15 (in_3 hi0) (ec_3 _ _ _ _ _) rfl ?_
  by_cases h1 : w32 (μ 3 i0 1) = 0
  · rw [if_pos h1] at hf
    refine g_tabIn C 32 dX5_cut_4 (by omega) (by omega) (by rw [h1]; rfl) (by decide) ?_
    refine g_lld_n C 1 rfl rfl dX5_cut_32 ?_
    refine g_l2i C dX5_cut_33 ?_
    refine g_i2b C dX5_cut_34 ?_
    refine g_i2l C dX5_cut_35 ?_
    exact g_lret C rfl dX5_cut_36 hf
  rw [if_neg h1] at hf
  by_cases h2 : w32 (μ 3 i0 1) = 1
  · rw [if_pos h2] at hf
    refine g_tabIn C 37 dX5_cut_4 (by omega) (by omega) (by rw [h2]; rfl) (by decide) ?_
    refine g_lld_n C 1 rfl rfl dX5_cut_37 ?_
    refine g_l2i C dX5_cut_38 ?_
    refine g_i2s C dX5_cut_39 ?_
    refine g_i2l C dX5_cut_40 ?_
    exact g_lret C rfl dX5_cut_41 hf
  rw [if_neg h2] at hf
  by_cases h3 : w32 (μ 3 i0 1) = 2
  · rw [if_pos h3] at hf
    refine g_tabIn C 42 dX5_cut_4 (by omega) (by omega) (by rw [h3]; rfl) (by decide) ?_
    refine g_lld_n C 1 rfl rfl dX5_cut_42 ?_
    refine g_l2i C dX5_cut_43 ?_
    refine g_i2l C dX5_cut_44 ?_
    exact g_lret C rfl dX5_cut_45 hf
  rw [if_neg h3] at hf
  refine g_tabOut C 46 dX5_cut_4 (by omega) (by decide) ?_
  refine g_lld_n C 1 rfl rfl dX5_cut_46 ?_
  exact g_lret C rfl dX5_cut_47 hf
set_option maxHeartbeats 4000000 in
set_option maxRecDepth 100000 in
theorem c_X5_cut {l : Launch} {D : va_G} {Y : Nat → ClassId} {α : Adr} {i0 : Nat} {a1 : Int} {μ : Mem} {r : Int} {μ' : Mem} (hi0 : i0 < 4) (hf : f_X5_cut i0 a1 μ = some (r, μ')) : Ctr l D Y LBx yX5_cut cX5_cut 3 (some .long) 0 0 0 0 [vr α 3 i0, vl a1] α μ (some (vl r)) (fun a => a = α) μ' := Ctr_of pn_X5 rfl rfl (Nat.le_of_ble_eq_true rfl) LBx_nd (fun p e s m below meth c sz C => b_X5_cut C (Nat.le_refl _) (Nat.le_refl _) hi0 hf)
end

/-! EndTeller$Tray.put -/
def f_X5_put (i0 : Nat) (a1 : Int) (a2 : Int) (μ : Mem) : Option (Int × Mem) := bn (f_X5_has i0 a1 μ) (fun r1 μ2 => (if w32 r1 = 0 then some (0, μ2) else bn (f_X5_cut i0 a2 μ2) (fun r5 μ6 => gd (inb a1 40) (some (0, (st μ6 4 i0 (ix a1) r5))))))
section
variable {p : Program} {l : Launch} {e : Env} {R : Room} {s : State} {m : MethodId} {args : Array Value} {below : List Frame} {meth : Method} {c : Code} {D : va_G} {Y : Nat → ClassId} {α : Adr} {sz : Nat} {r : Int} {μ' : Mem}
set_option maxHeartbeats 4000000 in
set_option maxRecDepth 100000 in
theorem b_X5_put {i0 : Nat} {a1 : Int} {a2 : Int} {μ : Mem} (C : CX p s m args meth c cX5_put 4 RX5 none D Y LBx (Ar LBx α sz)) (hfr : 1 ≤ R.frames) (hlc : 22 ≤ R.locals) (hi0 : i0 < 4) (hf : f_X5_put i0 a1 a2 μ = some (r, μ')) : GG D Y LBx (Ar LBx α sz) p l e R s m args below meth c 4 (MQ below (Qcx D Y LBx α sz none (fun a => a = α) μ') args s 0 0 (Ar LBx α sz)) α 0 0 [(0, vr α 3 i0), (1, vi a1), (2, vl a2)] [] μ 0 := by
  unfold f_X5_put at hf
  refine g_ald_n C 0 rfl rfl dX5_put_0 ?_
  refine g_ild_n C 1 rfl rfl dX5_put_1 ?_
  obtain ⟨r1, μ2, hc3, hf⟩ := bn_some hf
  refine g_callVp (As := [vi a1]) (rest := []) C ⟨Nat.zero_le _, Nat.zero_le _⟩ dX5_put_2 cw_X5_has m_2_109 m_2_102 m_2_103 (in_3 hi0) (ec_3 _ _ _ _ _) rfl rfl (c_X5_has hi0 hc3) rfl rfl (Nat.le_of_ble_eq_true rfl) ⟨Nat.le_trans (Nat.le_of_ble_eq_true rfl) hfr, Nat.le_trans (Nat.le_of_ble_eq_true rfl) hlc⟩ ?_
  refine g_if_eq C 19 (by decide) dX5_put_5 (fun h4 => ?_) (fun h4 => ?_)
  · rw [if_pos h4] at hf
    exact g_vret C rfl dX5_put_19 hf
  · rw [if_neg h4] at hf
    refine g_ald_n C 0 rfl rfl dX5_put_8 ?_
    refine g_get C dX5_put_9 fl_X5_9 (in_3 hi0) (ec_3 _ _ _ _ _) rfl ?_
    refine g_ild_n C 1 rfl rfl dX5_put_12 ?_
    refine g_ald_n C 0 rfl rfl dX5_put_13 ?_
    refine g_lld_n C 2 rfl rfl dX5_put_14 ?_
    obtain ⟨r5, μ6, hc7, hf⟩ := bn_some hf
    refine g_callVp (As := [vl a2]) (rest := [vi a1, vr α 4 i0]) C ⟨Nat.zero_le _, Nat.zero_le _⟩ dX5_put_15 cw_X5_cut m_2_110 m_2_111 m_2_112 (in_3 hi0) (ec_3 _ _ _ _ _) rfl rfl (c_X5_cut hi0 hc7) rfl rfl (Nat.le_of_ble_eq_true rfl) ⟨Nat.le_trans (Nat.le_of_ble_eq_true rfl) hfr, Nat.le_trans (Nat.le_of_ble_eq_true rfl) hlc⟩ ?_
    obtain ⟨g8, hf⟩ := gd_some hf
    refine g_last C dX5_put_18 (in_4 hi0) (fun _ => ec_4 _ _ _ _ _) (by decide) g8 ?_
    exact g_vret C rfl dX5_put_19 hf
set_option maxHeartbeats 4000000 in
set_option maxRecDepth 100000 in
theorem c_X5_put {l : Launch} {D : va_G} {Y : Nat → ClassId} {α : Adr} {i0 : Nat} {a1 : Int} {a2 : Int} {μ : Mem} {r : Int} {μ' : Mem} (hi0 : i0 < 4) (hf : f_X5_put i0 a1 a2 μ = some (r, μ')) : Ctr l D Y LBx yX5_put cX5_put 4 none 1 22 0 0 [vr α 3 i0, vi a1, vl a2] α μ none (fun a => a = α) μ' := Ctr_of pn_X5 rfl rfl (Nat.le_of_ble_eq_true rfl) LBx_nd (fun p e s m below meth c sz C => b_X5_put C (Nat.le_refl _) (Nat.le_refl _) hi0 hf)
end

/-! EndTeller$Tray.holdsRows -/
def f_X5_holdsRows_L7 (q0 : Nat) (x1 : Int) : Nat → Int → Int → Mem → Option (Int × Mem)
  | 0, _, _, _ => none
  | n + 1, x2, x4, μ => (if w32 x1 ≤ w32 x4 then some (1, μ) else bn (f_X5_numberAt q0 (2 * x4) μ) (fun r2 μ3 => bn (f_X5_numberAt q0 ((2 * x4) + 1) μ3) (fun r5 μ6 => (if w64 r2 ≤ w64 x2 then some (0, μ6) else (if w64 99 < w64 r2 then some (0, μ6) else (if w64 r5 < w64 1 then some (0, μ6) else (if w64 r5 ≤ w64 1000 then f_X5_holdsRows_L7 q0 x1 n r2 (x4 + 1) μ6 else some (0, μ6))))))))
def f_X5_holdsRows (i0 : Nat) (a1 : Int) (μ : Mem) : Option (Int × Mem) := f_X5_holdsRows_L7 i0 a1 FU (-1) 0 μ
section
variable {p : Program} {l : Launch} {e : Env} {R : Room} {s : State} {m : MethodId} {args : Array Value} {below : List Frame} {meth : Method} {c : Code} {D : va_G} {Y : Nat → ClassId} {α : Adr} {sz : Nat} {r : Int} {μ' : Mem}
set_option maxHeartbeats 4000000 in
set_option maxRecDepth 100000 in
theorem c_X5_holdsRows_l7 {q0 : Nat} {x1 : Int} (C : CX p s m args meth c cX5_holdsRows 9 RX5 (some .boolean) D Y LBx (Ar LBx α sz)) (hfr : 2 ≤ R.frames) (hlc : 42 ≤ R.locals) (hq0 : q0 < 4)   : ∀ (n : Nat) (x2 x4 : Int) (μ : Mem), f_X5_holdsRows_L7 q0 x1 n x2 x4 μ = some (r, μ') → GG D Y LBx (Ar LBx α sz) p l e R s m args below meth c 9 (MQ below (Qcx D Y LBx α sz (some (vi r)) (fun a => a = α) μ') args s 0 0 (Ar LBx α sz)) α 0 0 [(0, vr α 3 q0), (1, vi x1), (2, vl x2), (4, vi x4)] [] μ 7 := by
  intro n
  induction n with
  | zero =>
    intro x2 x4 μ hf
    exact nomatch (show (none : Option (Int × Mem)) = some _ from hf)
  | succ n ih =>
    intro x2 x4 μ hf
    rw [f_X5_holdsRows_L7.eq_2] at hf
    refine g_ild C 3 rfl dX5_holdsRows_7 ?_
    refine g_ild_n C 1 rfl rfl dX5_holdsRows_9 ?_
    refine g_ic_ge C 78 (by decide) dX5_holdsRows_10 (fun h1 => ?_) (fun h1 => ?_)
    · rw [if_pos h1] at hf
      refine g_iconst C dX5_holdsRows_78 ?_
      exact g_zret C rfl (Or.inr rfl) dX5_holdsRows_79 hf
    · rw [if_neg h1] at hf
      refine g_ald_n C 0 rfl rfl dX5_holdsRows_13 ?_
      refine g_iconst C dX5_holdsRows_14 ?_
      refine g_ild C 3 rfl dX5_holdsRows_15 ?_
      refine g_imul C dX5_holdsRows_17 ?_
      obtain ⟨r2, μ3, hc4, hf⟩ := bn_some hf
      refine g_callVp (As := [vi (2 * x4)]) (rest := []) C ⟨Nat.zero_le _, Nat.zero_le _⟩ dX5_holdsRows_18 cw_X5_numberAt m_2_149 m_2_123 m_2_124 (in_3 hq0) (ec_3 _ _ _ _ _) rfl rfl (c_X5_numberAt hq0 hc4) rfl rfl (Nat.le_of_ble_eq_true rfl) ⟨Nat.le_trans (Nat.le_of_ble_eq_true rfl) hfr, Nat.le_trans (Nat.le_of_ble_eq_true rfl) hlc⟩ ?_
      refine g_lst (lo' := [(5, vl r2), (0, vr α 3 q0), (1, vi x1), (2, vl x2), (4, vi x4)]) C (by decide) rfl dX5_holdsRows_21 ?_
      refine g_ald_n C 1 rfl rfl dX5_holdsRows_23 ?_
      refine g_iconst C dX5_holdsRows_24 ?_
      refine g_ild C 4 rfl dX5_holdsRows_25 ?_
      refine g_imul C dX5_holdsRows_27 ?_
      refine g_iconst C dX5_holdsRows_28 ?_
      refine g_iadd C dX5_holdsRows_29 ?_
      obtain ⟨r5, μ6, hc7, hf⟩ := bn_some hf
      refine g_callVp (As := [vi ((2 * x4) + 1)]) (rest := []) C ⟨Nat.zero_le _, Nat.zero_le _⟩ dX5_holdsRows_30 cw_X5_numberAt m_2_149 m_2_123 m_2_124 (in_3 hq0) (ec_3 _ _ _ _ _) rfl rfl (c_X5_numberAt hq0 hc7) rfl rfl (Nat.le_of_ble_eq_true rfl) ⟨Nat.le_trans (Nat.le_of_ble_eq_true rfl) hfr, Nat.le_trans (Nat.le_of_ble_eq_true rfl) hlc⟩ ?_
      refine g_lst (lo' := [(7, vl r5), (5, vl r2), (0, vr α 3 q0), (1, vi x1), (2, vl x2), (4, vi x4)]) C (by decide) rfl dX5_holdsRows_33 ?_
      refine g_lld C 1 rfl dX5_holdsRows_35 ?_
      refine g_lld_n C 4 rfl rfl dX5_holdsRows_37 ?_
      refine g_lc_le C 67 (by decide) dX5_holdsRows_38 dX5_holdsRows_39 (fun h8 => ?_) (fun h8 => ?_)
      · rw [if_pos h8] at hf
        refine g_iconst C dX5_holdsRows_67 ?_
        exact g_zret C rfl (Or.inl rfl) dX5_holdsRows_68 hf
      · rw [if_neg h8] at hf
        refine g_lld C 1 rfl dX5_holdsRows_42 ?_
        refine g_ldc2 (x := 99) C m_2_150 dX5_holdsRows_44 ?_
        refine g_lc_gt C 67 (by decide) dX5_holdsRows_47 dX5_holdsRows_48 (fun h9 => ?_) (fun h9 => ?_)
        · rw [if_pos h9] at hf
          refine g_iconst C dX5_holdsRows_67 ?_
          exact g_zret C rfl (Or.inl rfl) dX5_holdsRows_68 hf
        · rw [if_neg h9] at hf
          refine g_lld C 0 rfl dX5_holdsRows_51 ?_
          refine g_lconst (x := 1) C rfl dX5_holdsRows_53 ?_
          refine g_lc_lt C 67 (by decide) dX5_holdsRows_54 dX5_holdsRows_55 (fun h10 => ?_) (fun h10 => ?_)
          · rw [if_pos h10] at hf
            refine g_iconst C dX5_holdsRows_67 ?_
            exact g_zret C rfl (Or.inl rfl) dX5_holdsRows_68 hf
          · rw [if_neg h10] at hf
            refine g_lld C 0 rfl dX5_holdsRows_58 ?_
            refine g_ldc2 (x := 1000) C m_2_151 dX5_holdsRows_60 ?_
            refine g_lc_le C 69 (by decide) dX5_holdsRows_63 dX5_holdsRows_64 (fun h11 => ?_) (fun h11 => ?_)
            · rw [if_pos h11] at hf
              refine g_lld C 1 rfl dX5_holdsRows_69 ?_
              refine g_lst_n (lo' := [(2, vl r2), (7, vl r5), (5, vl r2), (0, vr α 3 q0), (1, vi x1), (4, vi x4)]) C rfl (by decide) rfl dX5_holdsRows_71 ?_
              refine g_iinc (lo' := [(4, vi (x4 + 1)), (2, vl r2), (7, vl r5), (5, vl r2), (0, vr α 3 q0), (1, vi x1)]) C 5 rfl (by decide) rfl dX5_holdsRows_72 ?_
              refine g_goto C 7 (by decide) dX5_holdsRows_75 ?_
              exact g_sub C [4, 5, 1, 0] rfl (ih _ _ _ hf)
            · rw [if_neg h11] at hf
              refine g_iconst C dX5_holdsRows_67 ?_
              exact g_zret C rfl (Or.inl rfl) dX5_holdsRows_68 hf
set_option maxHeartbeats 4000000 in
set_option maxRecDepth 100000 in
theorem b_X5_holdsRows {i0 : Nat} {a1 : Int} {μ : Mem} (C : CX p s m args meth c cX5_holdsRows 9 RX5 (some .boolean) D Y LBx (Ar LBx α sz)) (hfr : 2 ≤ R.frames) (hlc : 42 ≤ R.locals) (hi0 : i0 < 4) (hf : f_X5_holdsRows i0 a1 μ = some (r, μ')) : GG D Y LBx (Ar LBx α sz) p l e R s m args below meth c 9 (MQ below (Qcx D Y LBx α sz (some (vi r)) (fun a => a = α) μ') args s 0 0 (Ar LBx α sz)) α 0 0 [(0, vr α 3 i0), (1, vi a1)] [] μ 0 := by
  unfold f_X5_holdsRows at hf
  refine g_ldc2 (x := (-1)) C (by rw [show Int64.ofInt (-1) = (-1) by decide]; exact m_2_148) dX5_holdsRows_0 ?_
  refine g_lst_n (lo' := [(2, vl (-1)), (0, vr α 3 i0), (1, vi a1)]) C rfl (by decide) rfl dX5_holdsRows_3 ?_
  refine g_iconst C dX5_holdsRows_4 ?_
  refine g_ist (lo' := [(4, vi 0), (2, vl (-1)), (0, vr α 3 i0), (1, vi a1)]) C (by decide) rfl dX5_holdsRows_5 ?_
  refine g_sub C [2, 3, 1, 0] rfl (c_X5_holdsRows_l7 C hfr hlc hi0  _ _ _ _ hf)
set_option maxHeartbeats 4000000 in
set_option maxRecDepth 100000 in
theorem c_X5_holdsRows {l : Launch} {D : va_G} {Y : Nat → ClassId} {α : Adr} {i0 : Nat} {a1 : Int} {μ : Mem} {r : Int} {μ' : Mem} (hi0 : i0 < 4) (hf : f_X5_holdsRows i0 a1 μ = some (r, μ')) : Ctr l D Y LBx yX5_holdsRows cX5_holdsRows 9 (some .boolean) 2 42 0 0 [vr α 3 i0, vi a1] α μ (some (vi r)) (fun a => a = α) μ' := Ctr_of pn_X5 rfl rfl (Nat.le_of_ble_eq_true rfl) LBx_nd (fun p e s m below meth c sz C => b_X5_holdsRows C (Nat.le_refl _) (Nat.le_refl _) hi0 hf)
end
