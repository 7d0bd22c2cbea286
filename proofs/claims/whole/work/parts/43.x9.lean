/-! EndTellerModel.apart -/
def f_X9_apart_L7  : Nat → Int → Int → Int → Mem → Option (Int × Mem)
  | 0, _, _, _, _ => none
  | n + 1, x1, x3, x5, μ => (if w32 6000 ≤ w32 x5 then some (x1, μ) else gd (inb x5 6000) (f_X9_apart_L7 n (x1 + ((2 * (x3 + (μ 48 0 (ix x5)))) * ((μ 30 0 33) - (x3 + (μ 48 0 (ix x5)))))) (x3 + (μ 48 0 (ix x5))) (x5 + 1) μ))
def f_X9_apart  (μ : Mem) : Option (Int × Mem) := f_X9_apart_L7 FU 0 0 0 μ
section
variable {p : Program} {l : Launch} {e : Env} {R : Room} {s : State} {m : MethodId} {args : Array Value} {below : List Frame} {meth : Method} {c : Code} {D : va_G} {Y : Nat → ClassId} {α : Adr} {sz : Nat} {r : Int} {μ' : Mem}
set_option maxHeartbeats 4000000 in
set_option maxRecDepth 100000 in
theorem c_X9_apart_l7  (C : CX p s m args meth c cX9_apart 6 RX9 (some .long) D Y LBm (Ar LBm α sz)) (hfr : 0 ≤ R.frames) (hlc : 0 ≤ R.locals)    : ∀ (n : Nat) (x1 x3 x5 : Int) (μ : Mem), f_X9_apart_L7 n x1 x3 x5 μ = some (r, μ') → GG D Y LBm (Ar LBm α sz) p l e R s m args below meth c 6 (MQ below (Qcx D Y LBm α sz (some (vl r)) (fun a => a = α) μ') args s 0 0 (Ar LBm α sz)) α 0 0 [(0, vr α 30 0), (1, vl x1), (3, vl x3), (5, vi x5)] [] μ 7 := by
  intro n
  induction n with
  | zero =>
    intro x1 x3 x5 μ hf
    exact nomatch (show (none : Option (Int × Mem)) = some _ from hf)
  | succ n ih =>
    intro x1 x3 x5 μ hf
    rw [f_X9_apart_L7.eq_2] at hf
    refine g_ild C 3 rfl dX9_apart_7 ?_
    refine g_sipush C rfl dX9_apart_9 ?_
    refine g_ic_ge C 46 (by decide) dX9_apart_12 (fun h1 => ?_) (fun h1 => ?_)
    · rw [if_pos h1] at hf
      refine g_lld_n C 1 rfl rfl dX9_apart_46 ?_
      exact g_lret C rfl dX9_apart_47 hf
    · rw [if_neg h1] at hf
      refine g_lld_n C 2 rfl rfl dX9_apart_15 ?_
      refine g_ald_n C 0 rfl rfl dX9_apart_16 ?_
      refine g_get C dX9_apart_17 fl_X9_74 in_30 (ec_30 _ _ _ _ _) rfl ?_
      refine g_ild C 3 rfl dX9_apart_20 ?_
      obtain ⟨g2, hf⟩ := gd_some hf
      refine g_lald C dX9_apart_22 in_48 (fun _ => ec_48 _ _ _ _ _) g2 ?_
      refine g_ladd C dX9_apart_23 ?_
      refine g_lst_n (lo' := [(3, vl (x3 + (μ 48 0 (ix x5)))), (0, vr α 30 0), (1, vl x1), (5, vi x5)]) C rfl (by decide) rfl dX9_apart_24 ?_
      refine g_lld_n C 2 rfl rfl dX9_apart_25 ?_
      refine g_ldc2 (x := 2) C m_5_74 dX9_apart_26 ?_
      refine g_lld_n C 0 rfl rfl dX9_apart_29 ?_
      refine g_lmul C dX9_apart_30 ?_
      refine g_ald_n C 1 rfl rfl dX9_apart_31 ?_
      refine g_get C dX9_apart_32 fl_X9_177 in_30 (ec_30 _ _ _ _ _) rfl ?_
      refine g_lld_n C 0 rfl rfl dX9_apart_35 ?_
      refine g_lsub C dX9_apart_36 ?_
      refine g_lmul C dX9_apart_37 ?_
      refine g_ladd C dX9_apart_38 ?_
      refine g_lst_n (lo' := [(1, vl (x1 + ((2 * (x3 + (μ 48 0 (ix x5)))) * ((μ 30 0 33) - (x3 + (μ 48 0 (ix x5))))))), (3, vl (x3 + (μ 48 0 (ix x5)))), (0, vr α 30 0), (5, vi x5)]) C rfl (by decide) rfl dX9_apart_39 ?_
      refine g_iinc (lo' := [(5, vi (x5 + 1)), (1, vl (x1 + ((2 * (x3 + (μ 48 0 (ix x5)))) * ((μ 30 0 33) - (x3 + (μ 48 0 (ix x5))))))), (3, vl (x3 + (μ 48 0 (ix x5)))), (0, vr α 30 0)]) C 3 rfl (by decide) rfl dX9_apart_40 ?_
      refine g_goto C 7 (by decide) dX9_apart_43 ?_
      exact g_sub C [3, 1, 2, 0] rfl (ih _ _ _ _ hf)
set_option maxHeartbeats 4000000 in
set_option maxRecDepth 100000 in
theorem b_X9_apart  {μ : Mem} (C : CX p s m args meth c cX9_apart 6 RX9 (some .long) D Y LBm (Ar LBm α sz)) (hfr : 0 ≤ R.frames) (hlc : 0 ≤ R.locals)  (hf : f_X9_apart μ = some (r, μ')) : GG D Y LBm (Ar LBm α sz) p l e R s m args below meth c 6 (MQ below (Qcx D Y LBm α sz (some (vl r)) (fun a => a = α) μ') args s 0 0 (Ar LBm α sz)) α 0 0 [(0, vr α 30 0)] [] μ 0 := by
  unfold f_X9_apart at hf
  refine g_lconst (x := 0) C rfl dX9_apart_0 ?_
  refine g_lst_n (lo' := [(1, vl 0), (0, vr α 30 0)]) C rfl (by decide) rfl dX9_apart_1 ?_
  refine g_lconst (x := 0) C rfl dX9_apart_2 ?_
  refine g_lst_n (lo' := [(3, vl 0), (1, vl 0), (0, vr α 30 0)]) C rfl (by decide) rfl dX9_apart_3 ?_
  refine g_iconst C dX9_apart_4 ?_
  refine g_ist (lo' := [(5, vi 0), (3, vl 0), (1, vl 0), (0, vr α 30 0)]) C (by decide) rfl dX9_apart_5 ?_
  refine g_sub C [3, 2, 1, 0] rfl (c_X9_apart_l7 C hfr hlc   _ _ _ _ _ hf)
set_option maxHeartbeats 4000000 in
set_option maxRecDepth 100000 in
theorem c_X9_apart {l : Launch} {D : va_G} {Y : Nat → ClassId} {α : Adr}  {μ : Mem} {r : Int} {μ' : Mem}  (hf : f_X9_apart μ = some (r, μ')) : Ctr l D Y LBm yX9_apart cX9_apart 6 (some .long) 0 0 0 0 [vr α 30 0] α μ (some (vl r)) (fun a => a = α) μ' := Ctr_of pn_X9 rfl rfl (Nat.le_of_ble_eq_true rfl) LBm_nd (fun p e s m below meth c sz C => b_X9_apart C (Nat.le_refl _) (Nat.le_refl _)  hf)
end

/-! EndTellerModel.spread -/
def f_X9_spread  (μ : Mem) : Option (Int × Mem) := bn (f_X9_sums (-1) (-1) 0 (st (st μ 30 0 1 0) 30 0 0 0)) (fun r1 μ2 => (if w32 r1 ≤ 0 then bn (f_X9_apart  μ2) (fun r5 μ6 => bn (f_X9_tells r5 ((μ6 30 0 33) * (μ6 30 0 33)) μ6) (fun r8 μ9 => some (1, μ9))) else bn (f_X9_no r1 μ2) (fun r11 μ12 => gd (bb r11) (some (r11, μ12)))))
section
variable {p : Program} {l : Launch} {e : Env} {R : Room} {s : State} {m : MethodId} {args : Array Value} {below : List Frame} {meth : Method} {c : Code} {D : va_G} {Y : Nat → ClassId} {α : Adr} {sz : Nat} {r : Int} {μ' : Mem}
set_option maxHeartbeats 4000000 in
set_option maxRecDepth 100000 in
theorem b_X9_spread  {μ : Mem} (C : CX p s m args meth c cX9_spread 2 RX9 (some .boolean) D Y LBm (Ar LBm α sz)) (hfr : 3 ≤ R.frames) (hlc : 79 ≤ R.locals)  (hf : f_X9_spread μ = some (r, μ')) : GG D Y LBm (Ar LBm α sz) p l e R s m args below meth c 2 (MQ below (Qcx D Y LBm α sz (some (vi r)) (fun a => a = α) μ') args s 0 0 (Ar LBm α sz)) α 0 0 [(0, vr α 30 0)] [] μ 0 := by
  unfold f_X9_spread at hf
  refine g_ald_n C 0 rfl rfl dX9_spread_0 ?_
  refine g_iconst C dX9_spread_1 ?_
  refine g_puti C dX9_spread_2 fl_X9_95 in_30 (ec_30 _ _ _ _ _) (Nat.le_of_ble_eq_true rfl) rfl (by decide) ?_
  refine g_ald_n C 0 rfl rfl dX9_spread_5 ?_
  refine g_iconst C dX9_spread_6 ?_
  refine g_puti C dX9_spread_7 fl_X9_98 in_30 (ec_30 _ _ _ _ _) (Nat.le_of_ble_eq_true rfl) rfl (by decide) ?_
  refine g_ald_n C 0 rfl rfl dX9_spread_10 ?_
  refine g_iconst C dX9_spread_11 ?_
  refine g_iconst C dX9_spread_12 ?_
  refine g_iconst C dX9_spread_13 ?_
  obtain ⟨r1, μ2, hc3, hf⟩ := bn_some hf
  refine g_callVp (As := [vi (-1), vi (-1), vi 0]) (rest := []) C ⟨Nat.zero_le _, Nat.zero_le _⟩ dX9_spread_14 cw_X9_sums m_5_15 m_5_17 m_0_18 in_30 (ec_30 _ _ _ _ _) rfl rfl (c_X9_sums  hc3) rfl rfl (Nat.le_of_ble_eq_true rfl) ⟨Nat.le_trans (Nat.le_of_ble_eq_true rfl) hfr, Nat.le_trans (Nat.le_of_ble_eq_true rfl) hlc⟩ ?_
  refine g_ist_n (lo' := [(1, vi r1), (0, vr α 30 0)]) C rfl (by decide) rfl dX9_spread_17 ?_
  refine g_ild_n C 0 rfl rfl dX9_spread_18 ?_
  refine g_if_le C 28 (by decide) dX9_spread_19 (fun h4 => ?_) (fun h4 => ?_)
  · rw [if_pos h4] at hf
    refine g_ald_n C 1 rfl rfl dX9_spread_28 ?_
    refine g_ald_n C 1 rfl rfl dX9_spread_29 ?_
    obtain ⟨r5, μ6, hc7, hf⟩ := bn_some hf
    refine g_callVp (As := []) (rest := [vr α 30 0]) C ⟨Nat.zero_le _, Nat.zero_le _⟩ dX9_spread_30 cw_X9_apart m_5_70 m_5_72 m_0_27 in_30 (ec_30 _ _ _ _ _) rfl rfl (c_X9_apart  hc7) rfl rfl (Nat.le_of_ble_eq_true rfl) ⟨Nat.le_trans (Nat.le_of_ble_eq_true rfl) hfr, Nat.le_trans (Nat.le_of_ble_eq_true rfl) hlc⟩ ?_
    refine g_ald_n C 1 rfl rfl dX9_spread_33 ?_
    refine g_get C dX9_spread_34 fl_X9_177 in_30 (ec_30 _ _ _ _ _) rfl ?_
    refine g_ald_n C 1 rfl rfl dX9_spread_37 ?_
    refine g_get C dX9_spread_38 fl_X9_177 in_30 (ec_30 _ _ _ _ _) rfl ?_
    refine g_lmul C dX9_spread_41 ?_
    obtain ⟨r8, μ9, hc10, hf⟩ := bn_some hf
    refine g_callVp (As := [vl r5, vl ((μ6 30 0 33) * (μ6 30 0 33))]) (rest := []) C ⟨Nat.zero_le _, Nat.zero_le _⟩ dX9_spread_42 cw_X9_tells m_5_49 m_5_51 m_0_26 in_30 (ec_30 _ _ _ _ _) rfl rfl (c_X9_tells  hc10) rfl rfl (Nat.le_of_ble_eq_true rfl) ⟨Nat.le_trans (Nat.le_of_ble_eq_true rfl) hfr, Nat.le_trans (Nat.le_of_ble_eq_true rfl) hlc⟩ ?_
    refine g_pop C rfl dX9_spread_45 ?_
    refine g_iconst C dX9_spread_46 ?_
    exact g_zret C rfl (Or.inr rfl) dX9_spread_47 hf
  · rw [if_neg h4] at hf
    refine g_ald_n C 1 rfl rfl dX9_spread_22 ?_
    refine g_ild_n C 0 rfl rfl dX9_spread_23 ?_
    obtain ⟨r11, μ12, hc13, hf⟩ := bn_some hf
    refine g_callVp (As := [vi r1]) (rest := []) C ⟨Nat.zero_le _, Nat.zero_le _⟩ dX9_spread_24 cw_X9_no m_4_129 m_4_131 m_0_8 in_30 (ec_30 _ _ _ _ _) rfl rfl (c_X9_no  hc13) rfl rfl (Nat.le_of_ble_eq_true rfl) ⟨Nat.le_trans (Nat.le_of_ble_eq_true rfl) hfr, Nat.le_trans (Nat.le_of_ble_eq_true rfl) hlc⟩ ?_
    obtain ⟨g14, hf⟩ := gd_some hf
    exact g_zret C rfl g14 dX9_spread_27 hf
set_option maxHeartbeats 4000000 in
set_option maxRecDepth 100000 in
theorem c_X9_spread {l : Launch} {D : va_G} {Y : Nat → ClassId} {α : Adr}  {μ : Mem} {r : Int} {μ' : Mem}  (hf : f_X9_spread μ = some (r, μ')) : Ctr l D Y LBm yX9_spread cX9_spread 2 (some .boolean) 3 79 0 0 [vr α 30 0] α μ (some (vi r)) (fun a => a = α) μ' := Ctr_of pn_X9 rfl rfl (Nat.le_of_ble_eq_true rfl) LBm_nd (fun p e s m below meth c sz C => b_X9_spread C (Nat.le_refl _) (Nat.le_refl _)  hf)
end

/-! EndTellerModel.known -/
def f_X9_known_L17 (x1 : Int) : Nat → Int → Mem → Option (Int × Mem)
  | 0, _, _ => none
  | n + 1, x2, μ => gd (inb x1 10) ((if w32 (μ 34 0 (ix x1)) ≤ w32 x2 then some (0, μ) else bn (f_X9_sums (-1) x1 x2 μ) (fun r3 μ4 => (if w32 r3 ≤ 0 then jn (fun μ7 => f_X9_known_L17 x1 n (x2 + 1) μ7) (fun j139 => (if w64 ((st μ4 30 0 36 ((μ4 30 0 36) + (μ4 30 0 33))) 30 0 33) = w64 0 then j139  (st μ4 30 0 36 ((μ4 30 0 36) + (μ4 30 0 33))) else bn (f_X9_apart  (st μ4 30 0 36 ((μ4 30 0 36) + (μ4 30 0 33)))) (fun r10 μ11 => bn (f_X9_common ((((st μ4 30 0 36 ((μ4 30 0 36) + (μ4 30 0 33))) 30 0 34) * ((st μ4 30 0 36 ((μ4 30 0 36) + (μ4 30 0 33))) 30 0 33)) + (r10 * (μ11 30 0 35))) ((μ11 30 0 35) * (μ11 30 0 33)) μ11) (fun r13 μ14 => gd (¬ w64 r13 = 0) (gd (¬ w64 r13 = 0) ((if w64 ((st (st μ14 30 0 34 (Int.tdiv (w64 ((((st μ4 30 0 36 ((μ4 30 0 36) + (μ4 30 0 33))) 30 0 34) * ((st μ4 30 0 36 ((μ4 30 0 36) + (μ4 30 0 33))) 30 0 33)) + (r10 * (μ11 30 0 35)))) (w64 r13))) 30 0 35 (Int.tdiv (w64 ((μ11 30 0 35) * (μ11 30 0 33))) (w64 r13))) 30 0 35) ≤ w64 1000000 then j139  (st (st μ14 30 0 34 (Int.tdiv (w64 ((((st μ4 30 0 36 ((μ4 30 0 36) + (μ4 30 0 33))) 30 0 34) * ((st μ4 30 0 36 ((μ4 30 0 36) + (μ4 30 0 33))) 30 0 33)) + (r10 * (μ11 30 0 35)))) (w64 r13))) 30 0 35 (Int.tdiv (w64 ((μ11 30 0 35) * (μ11 30 0 33))) (w64 r13))) else some (9, (st (st μ14 30 0 34 (Int.tdiv (w64 ((((st μ4 30 0 36 ((μ4 30 0 36) + (μ4 30 0 33))) 30 0 34) * ((st μ4 30 0 36 ((μ4 30 0 36) + (μ4 30 0 33))) 30 0 33)) + (r10 * (μ11 30 0 35)))) (w64 r13))) 30 0 35 (Int.tdiv (w64 ((μ11 30 0 35) * (μ11 30 0 33))) (w64 r13))))))))))) else some (r3, μ4)))))
def f_X9_known (a1 : Int) (μ : Mem) : Option (Int × Mem) := f_X9_known_L17 a1 FU 0 (st (st (st μ 30 0 34 0) 30 0 35 1) 30 0 36 0)
section
variable {p : Program} {l : Launch} {e : Env} {R : Room} {s : State} {m : MethodId} {args : Array Value} {below : List Frame} {meth : Method} {c : Code} {D : va_G} {Y : Nat → ClassId} {α : Adr} {sz : Nat} {r : Int} {μ' : Mem}
set_option maxHeartbeats 4000000 in
set_option maxRecDepth 100000 in
theorem c_X9_known_l17 {x1 : Int} (C : CX p s m args meth c cX9_known 10 RX9 (some .int) D Y LBm (Ar LBm α sz)) (hfr : 3 ≤ R.frames) (hlc : 79 ≤ R.locals)    : ∀ (n : Nat) (x2 : Int) (μ : Mem), f_X9_known_L17 x1 n x2 μ = some (r, μ') → GG D Y LBm (Ar LBm α sz) p l e R s m args below meth c 10 (MQ below (Qcx D Y LBm α sz (some (vi r)) (fun a => a = α) μ') args s 0 0 (Ar LBm α sz)) α 0 0 [(0, vr α 30 0), (1, vi x1), (2, vi x2)] [] μ 17 := by
  intro n
  induction n with
  | zero =>
    intro x2 μ hf
    exact nomatch (show (none : Option (Int × Mem)) = some _ from hf)
  | succ n ih =>
    intro x2 μ hf
    rw [f_X9_known_L17.eq_2] at hf
    refine g_ild_n C 2 rfl rfl dX9_known_17 ?_
    refine g_ald_n C 0 rfl rfl dX9_known_18 ?_
    refine g_get C dX9_known_19 fl_X9_31 in_30 (ec_30 _ _ _ _ _) rfl ?_
    refine g_ild_n C 1 rfl rfl dX9_known_22 ?_
    obtain ⟨g1, hf⟩ := gd_some hf
    refine g_iald C dX9_known_23 in_34 (fun _ => ec_34 _ _ _ _ _) g1 ?_
    refine g_ic_ge C 145 (by decide) dX9_known_24 (fun h2 => ?_) (fun h2 => ?_)
    · rw [if_pos h2] at hf
      refine g_iconst C dX9_known_145 ?_
      exact g_iret C rfl dX9_known_146 hf
    · rw [if_neg h2] at hf
      refine g_ald_n C 0 rfl rfl dX9_known_27 ?_
      refine g_iconst C dX9_known_28 ?_
      refine g_ild_n C 1 rfl rfl dX9_known_29 ?_
      refine g_ild_n C 2 rfl rfl dX9_known_30 ?_
      obtain ⟨r3, μ4, hc5, hf⟩ := bn_some hf
      refine g_callVp (As := [vi (-1), vi x1, vi x2]) (rest := []) C ⟨Nat.zero_le _, Nat.zero_le _⟩ dX9_known_31 cw_X9_sums m_5_15 m_5_17 m_0_18 in_30 (ec_30 _ _ _ _ _) rfl rfl (c_X9_sums  hc5) rfl rfl (Nat.le_of_ble_eq_true rfl) ⟨Nat.le_trans (Nat.le_of_ble_eq_true rfl) hfr, Nat.le_trans (Nat.le_of_ble_eq_true rfl) hlc⟩ ?_
      refine g_ist_n (lo' := [(3, vi r3), (0, vr α 30 0), (1, vi x1), (2, vi x2)]) C rfl (by decide) rfl dX9_known_34 ?_
      refine g_ild_n C 0 rfl rfl dX9_known_35 ?_
      refine g_if_le C 41 (by decide) dX9_known_36 (fun h6 => ?_) (fun h6 => ?_)
      · rw [if_pos h6] at hf
        refine g_ald_n C 1 rfl rfl dX9_known_41 ?_
        refine g_dup C rfl dX9_known_42 ?_
        refine g_get C dX9_known_43 fl_X9_220 in_30 (ec_30 _ _ _ _ _) rfl ?_
        refine g_ald_n C 1 rfl rfl dX9_known_46 ?_
        refine g_get C dX9_known_47 fl_X9_177 in_30 (ec_30 _ _ _ _ _) rfl ?_
        refine g_ladd C dX9_known_50 ?_
        refine g_putl C dX9_known_51 fl_X9_220 in_30 (ec_30 _ _ _ _ _) (Nat.le_of_ble_eq_true rfl) rfl (by decide) ?_
        refine g_ald_n C 1 rfl rfl dX9_known_54 ?_
        refine g_get C dX9_known_55 fl_X9_177 in_30 (ec_30 _ _ _ _ _) rfl ?_
        refine g_lconst (x := 0) C rfl dX9_known_58 ?_
        obtain ⟨j139, ej8, hf⟩ := jn_some hf
        have hj139 : ∀ (μ7 : Mem), j139 μ7 = some (r, μ') → GG D Y LBm (Ar LBm α sz) p l e R s m args below meth c 10 (MQ below (Qcx D Y LBm α sz (some (vi r)) (fun a => a = α) μ') args s 0 0 (Ar LBm α sz)) α 0 0 [(0, vr α 30 0), (1, vi x1), (2, vi x2)] [] μ7 139 := by
          intro μ7 hf
          rw [ej8] at hf
          try dsimp only at hf
          refine g_iinc (lo' := [(2, vi (x2 + 1)), (0, vr α 30 0), (1, vi x1)]) C 2 rfl (by decide) rfl dX9_known_139 ?_
          refine g_goto C 17 (by decide) dX9_known_142 ?_
          exact g_sub C [1, 2, 0] rfl (ih _ _ hf)
        clear ej8
        refine g_lc_ne C 66 (by decide) dX9_known_59 dX9_known_60 (fun h9 => ?_) (fun h9 => ?_)
        · rw [if_pos h9] at hf
          refine g_goto C 139 (by decide) dX9_known_63 ?_
          exact g_sub C [1, 2, 3] rfl (hj139 _ hf)
        · rw [if_neg h9] at hf
          refine g_ald_n C 1 rfl rfl dX9_known_66 ?_
          refine g_get C dX9_known_67 fl_X9_214 in_30 (ec_30 _ _ _ _ _) rfl ?_
          refine g_ald_n C 1 rfl rfl dX9_known_70 ?_
          refine g_get C dX9_known_71 fl_X9_177 in_30 (ec_30 _ _ _ _ _) rfl ?_
          refine g_lmul C dX9_known_74 ?_
          refine g_ald_n C 1 rfl rfl dX9_known_75 ?_
          obtain ⟨r10, μ11, hc12, hf⟩ := bn_some hf
          refine g_callVp (As := []) (rest := [vl (((st μ4 30 0 36 ((μ4 30 0 36) + (μ4 30 0 33))) 30 0 34) * ((st μ4 30 0 36 ((μ4 30 0 36) + (μ4 30 0 33))) 30 0 33))]) C ⟨Nat.zero_le _, Nat.zero_le _⟩ dX9_known_76 cw_X9_apart m_5_70 m_5_72 m_0_27 in_30 (ec_30 _ _ _ _ _) rfl rfl (c_X9_apart  hc12) rfl rfl (Nat.le_of_ble_eq_true rfl) ⟨Nat.le_trans (Nat.le_of_ble_eq_true rfl) hfr, Nat.le_trans (Nat.le_of_ble_eq_true rfl) hlc⟩ ?_
          refine g_ald_n C 1 rfl rfl dX9_known_79 ?_
          refine g_get C dX9_known_80 fl_X9_217 in_30 (ec_30 _ _ _ _ _) rfl ?_
          refine g_lmul C dX9_known_83 ?_
          refine g_ladd C dX9_known_84 ?_
          refine g_lst (lo' := [(4, vl ((((st μ4 30 0 36 ((μ4 30 0 36) + (μ4 30 0 33))) 30 0 34) * ((st μ4 30 0 36 ((μ4 30 0 36) + (μ4 30 0 33))) 30 0 33)) + (r10 * (μ11 30 0 35)))), (3, vi r3), (0, vr α 30 0), (1, vi x1), (2, vi x2)]) C (by decide) rfl dX9_known_85 ?_
          refine g_ald_n C 2 rfl rfl dX9_known_87 ?_
          refine g_get C dX9_known_88 fl_X9_217 in_30 (ec_30 _ _ _ _ _) rfl ?_
          refine g_ald_n C 2 rfl rfl dX9_known_91 ?_
          refine g_get C dX9_known_92 fl_X9_177 in_30 (ec_30 _ _ _ _ _) rfl ?_
          refine g_lmul C dX9_known_95 ?_
          refine g_lst (lo' := [(6, vl ((μ11 30 0 35) * (μ11 30 0 33))), (4, vl ((((st μ4 30 0 36 ((μ4 30 0 36) + (μ4 30 0 33))) 30 0 34) * ((st μ4 30 0 36 ((μ4 30 0 36) + (μ4 30 0 33))) 30 0 33)) + (r10 * (μ11 30 0 35)))), (3, vi r3), (0, vr α 30 0), (1, vi x1), (2, vi x2)]) C (by decide) rfl dX9_known_96 ?_
          refine g_lld C 1 rfl dX9_known_98 ?_
          refine g_lld C 0 rfl dX9_known_100 ?_
          obtain ⟨r13, μ14, hc15, hf⟩ := bn_some hf
          refine g_callSp (As := [vl ((((st μ4 30 0 36 ((μ4 30 0 36) + (μ4 30 0 33))) 30 0 34) * ((st μ4 30 0 36 ((μ4 30 0 36) + (μ4 30 0 33))) 30 0 33)) + (r10 * (μ11 30 0 35))), vl ((μ11 30 0 35) * (μ11 30 0 33))]) (rest := []) C ⟨Nat.zero_le _, Nat.zero_le _⟩ dX9_known_102 cw_X9_common m_4_178 m_4_179 (c_X9_common  hc15) rfl rfl (Nat.le_of_ble_eq_true rfl) ⟨Nat.le_trans (Nat.le_of_ble_eq_true rfl) hfr, Nat.le_trans (Nat.le_of_ble_eq_true rfl) hlc⟩ ?_
          refine g_lst (lo' := [(8, vl r13), (6, vl ((μ11 30 0 35) * (μ11 30 0 33))), (4, vl ((((st μ4 30 0 36 ((μ4 30 0 36) + (μ4 30 0 33))) 30 0 34) * ((st μ4 30 0 36 ((μ4 30 0 36) + (μ4 30 0 33))) 30 0 33)) + (r10 * (μ11 30 0 35)))), (3, vi r3), (0, vr α 30 0), (1, vi x1), (2, vi x2)]) C (by decide) rfl dX9_known_105 ?_
          refine g_ald_n C 4 rfl rfl dX9_known_107 ?_
          refine g_lld C 2 rfl dX9_known_108 ?_
          refine g_lld C 0 rfl dX9_known_110 ?_
          obtain ⟨g16, hf⟩ := gd_some hf
          refine g_ldiv C g16 dX9_known_112 ?_
          refine g_putl C dX9_known_113 fl_X9_214 in_30 (ec_30 _ _ _ _ _) (Nat.le_of_ble_eq_true rfl) rfl (by decide) ?_
          refine g_ald_n C 4 rfl rfl dX9_known_116 ?_
          refine g_lld C 1 rfl dX9_known_117 ?_
          refine g_lld C 0 rfl dX9_known_119 ?_
          obtain ⟨g17, hf⟩ := gd_some hf
          refine g_ldiv C g17 dX9_known_121 ?_
          refine g_putl C dX9_known_122 fl_X9_217 in_30 (ec_30 _ _ _ _ _) (Nat.le_of_ble_eq_true rfl) rfl (by decide) ?_
          refine g_ald_n C 4 rfl rfl dX9_known_125 ?_
          refine g_get C dX9_known_126 fl_X9_217 in_30 (ec_30 _ _ _ _ _) rfl ?_
          refine g_ldc2 (x := 1000000) C m_5_83 dX9_known_129 ?_
          refine g_lc_le C 139 (by decide) dX9_known_132 dX9_known_133 (fun h18 => ?_) (fun h18 => ?_)
          · rw [if_pos h18] at hf
            exact g_sub C [4, 5, 6] rfl (hj139 _ hf)
          · rw [if_neg h18] at hf
            refine g_bipush C rfl dX9_known_136 ?_
            exact g_iret C rfl dX9_known_138 hf
      · rw [if_neg h6] at hf
        refine g_ild_n C 0 rfl rfl dX9_known_39 ?_
        exact g_iret C rfl dX9_known_40 hf
set_option maxHeartbeats 4000000 in
set_option maxRecDepth 100000 in
theorem b_X9_known {a1 : Int} {μ : Mem} (C : CX p s m args meth c cX9_known 10 RX9 (some .int) D Y LBm (Ar LBm α sz)) (hfr : 3 ≤ R.frames) (hlc : 79 ≤ R.locals)  (hf : f_X9_known a1 μ = some (r, μ')) : GG D Y LBm (Ar LBm α sz) p l e R s m args below meth c 10 (MQ below (Qcx D Y LBm α sz (some (vi r)) (fun a => a = α) μ') args s 0 0 (Ar LBm α sz)) α 0 0 [(0, vr α 30 0), (1, vi a1)] [] μ 0 := by
  unfold f_X9_known at hf
  refine g_ald_n C 0 rfl rfl dX9_known_0 ?_
  refine g_lconst (x := 0) C rfl dX9_known_1 ?_
  refine g_putl C dX9_known_2 fl_X9_214 in_30 (ec_30 _ _ _ _ _) (Nat.le_of_ble_eq_true rfl) rfl (by decide) ?_
  refine g_ald_n C 0 rfl rfl dX9_known_5 ?_
  refine g_lconst (x := 1) C rfl dX9_known_6 ?_
  refine g_putl C dX9_known_7 fl_X9_217 in_30 (ec_30 _ _ _ _ _) (Nat.le_of_ble_eq_true rfl) rfl (by decide) ?_
  refine g_ald_n C 0 rfl rfl dX9_known_10 ?_
  refine g_lconst (x := 0) C rfl dX9_known_11 ?_
  refine g_putl C dX9_known_12 fl_X9_220 in_30 (ec_30 _ _ _ _ _) (Nat.le_of_ble_eq_true rfl) rfl (by decide) ?_
  refine g_iconst C dX9_known_15 ?_
  refine g_ist_n (lo' := [(2, vi 0), (0, vr α 30 0), (1, vi a1)]) C rfl (by decide) rfl dX9_known_16 ?_
  refine g_sub C [1, 2, 0] rfl (c_X9_known_l17 C hfr hlc   _ _ _ hf)
set_option maxHeartbeats 4000000 in
set_option maxRecDepth 100000 in
theorem c_X9_known {l : Launch} {D : va_G} {Y : Nat → ClassId} {α : Adr} {a1 : Int} {μ : Mem} {r : Int} {μ' : Mem}  (hf : f_X9_known a1 μ = some (r, μ')) : Ctr l D Y LBm yX9_known cX9_known 10 (some .int) 3 79 0 0 [vr α 30 0, vi a1] α μ (some (vi r)) (fun a => a = α) μ' := Ctr_of pn_X9 rfl rfl (Nat.le_of_ble_eq_true rfl) LBm_nd (fun p e s m below meth c sz C => b_X9_known C (Nat.le_refl _) (Nat.le_refl _)  hf)
end

/-! EndTellerModel.sure -/
def f_X9_sure (a1 : Int) (μ : Mem) : Option (Int × Mem) := bn (f_X9_isPart a1 (st (st μ 30 0 1 0) 30 0 0 0)) (fun r1 μ2 => (if w32 r1 = 0 then bn (f_X9_no 2 μ2) (fun r5 μ6 => gd (bb r5) (some (r5, μ6))) else bn (f_X9_known a1 μ2) (fun r9 μ10 => (if w32 r9 ≤ 0 then bn (f_X9_tells (μ10 30 0 34) ((μ10 30 0 35) * (μ10 30 0 36)) μ10) (fun r13 μ14 => some (1, μ14)) else bn (f_X9_no r9 μ10) (fun r16 μ17 => gd (bb r16) (some (r16, μ17)))))))
section
variable {p : Program} {l : Launch} {e : Env} {R : Room} {s : State} {m : MethodId} {args : Array Value} {below : List Frame} {meth : Method} {c : Code} {D : va_G} {Y : Nat → ClassId} {α : Adr} {sz : Nat} {r : Int} {μ' : Mem}
set_option maxHeartbeats 4000000 in
set_option maxRecDepth 100000 in
theorem b_X9_sure {a1 : Int} {μ : Mem} (C : CX p s m args meth c cX9_sure 3 RX9 (some .boolean) D Y LBm (Ar LBm α sz)) (hfr : 4 ≤ R.frames) (hlc : 108 ≤ R.locals)  (hf : f_X9_sure a1 μ = some (r, μ')) : GG D Y LBm (Ar LBm α sz) p l e R s m args below meth c 3 (MQ below (Qcx D Y LBm α sz (some (vi r)) (fun a => a = α) μ') args s 0 0 (Ar LBm α sz)) α 0 0 [(0, vr α 30 0), (1, vi a1)] [] μ 0 := by
  unfold f_X9_sure at hf
  refine g_ald_n C 0 rfl rfl dX9_sure_0 ?_
  refine g_iconst C dX9_sure_1 ?_
  refine g_puti C dX9_sure_2 fl_X9_95 in_30 (ec_30 _ _ _ _ _) (Nat.le_of_ble_eq_true rfl) rfl (by decide) ?_
  refine g_ald_n C 0 rfl rfl dX9_sure_5 ?_
  refine g_iconst C dX9_sure_6 ?_
  refine g_puti C dX9_sure_7 fl_X9_98 in_30 (ec_30 _ _ _ _ _) (Nat.le_of_ble_eq_true rfl) rfl (by decide) ?_
  refine g_ald_n C 0 rfl rfl dX9_sure_10 ?_
  refine g_ild_n C 1 rfl rfl dX9_sure_11 ?_
  obtain ⟨r1, μ2, hc3, hf⟩ := bn_some hf
  refine g_callVp (As := [vi a1]) (rest := []) C ⟨Nat.zero_le _, Nat.zero_le _⟩ dX9_sure_12 cw_X9_isPart m_4_189 m_4_191 m_0_14 in_30 (ec_30 _ _ _ _ _) rfl rfl (c_X9_isPart  hc3) rfl rfl (Nat.le_of_ble_eq_true rfl) ⟨Nat.le_trans (Nat.le_of_ble_eq_true rfl) hfr, Nat.le_trans (Nat.le_of_ble_eq_true rfl) hlc⟩ ?_
  refine g_if_ne C 24 (by decide) dX9_sure_15 (fun h4 => ?_) (fun h4 => ?_)
  · rw [if_pos h4] at hf
    refine g_ald_n C 0 rfl rfl dX9_sure_18 ?_
    refine g_iconst C dX9_sure_19 ?_
    obtain ⟨r5, μ6, hc7, hf⟩ := bn_some hf
    refine g_callVp (As := [vi 2]) (rest := []) C ⟨Nat.zero_le _, Nat.zero_le _⟩ dX9_sure_20 cw_X9_no m_4_129 m_4_131 m_0_8 in_30 (ec_30 _ _ _ _ _) rfl rfl (c_X9_no  hc7) rfl rfl (Nat.le_of_ble_eq_true rfl) ⟨Nat.le_trans (Nat.le_of_ble_eq_true rfl) hfr, Nat.le_trans (Nat.le_of_ble_eq_true rfl) hlc⟩ ?_
    obtain ⟨g8, hf⟩ := gd_some hf
    exact g_zret C rfl g8 dX9_sure_23 hf
  · rw [if_neg h4] at hf
    refine g_ald_n C 0 rfl rfl dX9_sure_24 ?_
    refine g_ild_n C 1 rfl rfl dX9_sure_25 ?_
    obtain ⟨r9, μ10, hc11, hf⟩ := bn_some hf
    refine g_callVp (As := [vi a1]) (rest := []) C ⟨Nat.zero_le _, Nat.zero_le _⟩ dX9_sure_26 cw_X9_known m_5_79 m_5_81 m_0_28 in_30 (ec_30 _ _ _ _ _) rfl rfl (c_X9_known  hc11) rfl rfl (Nat.le_of_ble_eq_true rfl) ⟨Nat.le_trans (Nat.le_of_ble_eq_true rfl) hfr, Nat.le_trans (Nat.le_of_ble_eq_true rfl) hlc⟩ ?_
    refine g_ist_n (lo' := [(2, vi r9), (0, vr α 30 0), (1, vi a1)]) C rfl (by decide) rfl dX9_sure_29 ?_
    refine g_ild_n C 0 rfl rfl dX9_sure_30 ?_
    refine g_if_le C 40 (by decide) dX9_sure_31 (fun h12 => ?_) (fun h12 => ?_)
    · rw [if_pos h12] at hf
      refine g_ald_n C 1 rfl rfl dX9_sure_40 ?_
      refine g_ald_n C 1 rfl rfl dX9_sure_41 ?_
      refine g_get C dX9_sure_42 fl_X9_214 in_30 (ec_30 _ _ _ _ _) rfl ?_
      refine g_ald_n C 1 rfl rfl dX9_sure_45 ?_
      refine g_get C dX9_sure_46 fl_X9_217 in_30 (ec_30 _ _ _ _ _) rfl ?_
      refine g_ald_n C 1 rfl rfl dX9_sure_49 ?_
      refine g_get C dX9_sure_50 fl_X9_220 in_30 (ec_30 _ _ _ _ _) rfl ?_
      refine g_lmul C dX9_sure_53 ?_
      obtain ⟨r13, μ14, hc15, hf⟩ := bn_some hf
      refine g_callVp (As := [vl (μ10 30 0 34), vl ((μ10 30 0 35) * (μ10 30 0 36))]) (rest := []) C ⟨Nat.zero_le _, Nat.zero_le _⟩ dX9_sure_54 cw_X9_tells m_5_49 m_5_51 m_0_26 in_30 (ec_30 _ _ _ _ _) rfl rfl (c_X9_tells  hc15) rfl rfl (Nat.le_of_ble_eq_true rfl) ⟨Nat.le_trans (Nat.le_of_ble_eq_true rfl) hfr, Nat.le_trans (Nat.le_of_ble_eq_true rfl) hlc⟩ ?_
      refine g_pop C rfl dX9_sure_57 ?_
      refine g_iconst C dX9_sure_58 ?_
      exact g_zret C rfl (Or.inr rfl) dX9_sure_59 hf
    · rw [if_neg h12] at hf
      refine g_ald_n C 1 rfl rfl dX9_sure_34 ?_
      refine g_ild_n C 0 rfl rfl dX9_sure_35 ?_
      obtain ⟨r16, μ17, hc18, hf⟩ := bn_some hf
      refine g_callVp (As := [vi r9]) (rest := []) C ⟨Nat.zero_le _, Nat.zero_le _⟩ dX9_sure_36 cw_X9_no m_4_129 m_4_131 m_0_8 in_30 (ec_30 _ _ _ _ _) rfl rfl (c_X9_no  hc18) rfl rfl (Nat.le_of_ble_eq_true rfl) ⟨Nat.le_trans (Nat.le_of_ble_eq_true rfl) hfr, Nat.le_trans (Nat.le_of_ble_eq_true rfl) hlc⟩ ?_
      obtain ⟨g19, hf⟩ := gd_some hf
      exact g_zret C rfl g19 dX9_sure_39 hf
set_option maxHeartbeats 4000000 in
set_option maxRecDepth 100000 in
theorem c_X9_sure {l : Launch} {D : va_G} {Y : Nat → ClassId} {α : Adr} {a1 : Int} {μ : Mem} {r : Int} {μ' : Mem}  (hf : f_X9_sure a1 μ = some (r, μ')) : Ctr l D Y LBm yX9_sure cX9_sure 3 (some .boolean) 4 108 0 0 [vr α 30 0, vi a1] α μ (some (vi r)) (fun a => a = α) μ' := Ctr_of pn_X9 rfl rfl (Nat.le_of_ble_eq_true rfl) LBm_nd (fun p e s m below meth c sz C => b_X9_sure C (Nat.le_refl _) (Nat.le_refl _)  hf)
end

/-! EndTellerModel.isLess -/
def f_X9_isLess_L17 (k90 : Int → Int → Int → Int → Int → Mem → Option (Int × Mem)) : Nat → Int → Int → Int → Int → Int → Mem → Option (Int × Mem)
  | 0, _, _, _, _, _, _ => none
  | n + 1, x8, x10, x12, x14, x16, μ => (if w64 x10 = w64 0 then k90 x8 x10 x12 x14 x16 μ else (if w64 x14 = w64 0 then k90 x8 x10 x12 x14 x16 μ else gd (¬ w64 x10 = 0) (gd (¬ w64 x14 = 0) ((if w64 (Int.tdiv (w64 x8) (w64 x10)) = w64 (Int.tdiv (w64 x12) (w64 x14)) then gd (¬ w64 x10 = 0) (gd (¬ w64 x14 = 0) (jn (fun y8 => f_X9_isLess_L17 k90 n x10 (Int.tmod (w64 x8) (w64 x10)) x14 (Int.tmod (w64 x12) (w64 x14)) y8 μ) (fun j85 => (if w32 x16 = 0 then j85 1 else j85 0)))) else k90 x8 x10 x12 x14 x16 μ)))))
def f_X9_isLess (a0 : Int) (a2 : Int) (a4 : Int) (a6 : Int) (μ : Mem) : Option (Int × Mem) := f_X9_isLess_L17 (fun y12 y13 y14 y15 y16 μ11 => jn (jn (fun y17 => (if w32 y16 = w32 y17 then some (0, μ11) else some (1, μ11))) (fun j139 => jn (j139 0) (fun j138 => (if w64 y13 = w64 0 then j138  else jn (j139 1) (fun j134 => (if w64 y15 = w64 0 then j134  else gd (¬ w64 y13 = 0) (gd (¬ w64 y15 = 0) ((if w64 (Int.tdiv (w64 y14) (w64 y15)) ≤ w64 (Int.tdiv (w64 y12) (w64 y13)) then j138  else j134 ))))))))) (fun j106 => (if w64 y13 = w64 0 then (if w64 y15 = w64 0 then some (0, μ11) else j106 ) else j106 ))) FU a0 a2 a4 a6 0 μ
section
variable {p : Program} {l : Launch} {e : Env} {R : Room} {s : State} {m : MethodId} {args : Array Value} {below : List Frame} {meth : Method} {c : Code} {D : va_G} {Y : Nat → ClassId} {α : Adr} {sz : Nat} {r : Int} {μ' : Mem}
set_option maxHeartbeats 4000000 in
set_option maxRecDepth 100000 in
theorem c_X9_isLess_l17 {k90 : Int → Int → Int → Int → Int → Mem → Option (Int × Mem)} (C : CX p s m args meth c cX9_isLess 21 RX9 (some .boolean) D Y LBm (Ar LBm α sz)) (hfr : 0 ≤ R.frames) (hlc : 0 ≤ R.locals)  (hk90 : ∀ (y8 y10 y12 y14 y16 : Int) (μ : Mem), k90 y8 y10 y12 y14 y16 μ = some (r, μ') → GG D Y LBm (Ar LBm α sz) p l e R s m args below meth c 21 (MQ below (Qcx D Y LBm α sz (some (vi r)) (fun a => a = α) μ') args s 0 0 (Ar LBm α sz)) α 0 0 [(8, vl y8), (10, vl y10), (12, vl y12), (14, vl y14), (16, vi y16)] [] μ 90)  : ∀ (n : Nat) (x8 x10 x12 x14 x16 : Int) (μ : Mem), f_X9_isLess_L17 k90 n x8 x10 x12 x14 x16 μ = some (r, μ') → GG D Y LBm (Ar LBm α sz) p l e R s m args below meth c 21 (MQ below (Qcx D Y LBm α sz (some (vi r)) (fun a => a = α) μ') args s 0 0 (Ar LBm α sz)) α 0 0 [(8, vl x8), (10, vl x10), (12, vl x12), (14, vl x14), (16, vi x16)] [] μ 17 := by
  intro n
  induction n with
  | zero =>
    intro x8 x10 x12 x14 x16 μ hf
    exact nomatch (show (none : Option (Int × Mem)) = some _ from hf)
  | succ n ih =>
    intro x8 x10 x12 x14 x16 μ hf
    rw [f_X9_isLess_L17.eq_2] at hf
    refine g_lld C 1 rfl dX9_isLess_17 ?_
    refine g_lconst (x := 0) C rfl dX9_isLess_19 ?_
    refine g_lc_eq C 90 (by decide) dX9_isLess_20 dX9_isLess_21 (fun h1 => ?_) (fun h1 => ?_)
    · rw [if_pos h1] at hf
      exact g_sub C [0, 1, 2, 3, 4] rfl (hk90 _ _ _ _ _ _ hf)
    · rw [if_neg h1] at hf
      refine g_lld C 3 rfl dX9_isLess_24 ?_
      refine g_lconst (x := 0) C rfl dX9_isLess_26 ?_
      refine g_lc_eq C 90 (by decide) dX9_isLess_27 dX9_isLess_28 (fun h2 => ?_) (fun h2 => ?_)
      · rw [if_pos h2] at hf
        exact g_sub C [0, 1, 2, 3, 4] rfl (hk90 _ _ _ _ _ _ hf)
      · rw [if_neg h2] at hf
        refine g_lld C 0 rfl dX9_isLess_31 ?_
        refine g_lld C 1 rfl dX9_isLess_33 ?_
        obtain ⟨g3, hf⟩ := gd_some hf
        refine g_ldiv C g3 dX9_isLess_35 ?_
        refine g_lld C 2 rfl dX9_isLess_36 ?_
        refine g_lld C 3 rfl dX9_isLess_38 ?_
        obtain ⟨g4, hf⟩ := gd_some hf
        refine g_ldiv C g4 dX9_isLess_40 ?_
        refine g_lc_ne C 90 (by decide) dX9_isLess_41 dX9_isLess_42 (fun h5 => ?_) (fun h5 => ?_)
        · rw [if_pos h5] at hf
          refine g_lld C 0 rfl dX9_isLess_45 ?_
          refine g_lld C 1 rfl dX9_isLess_47 ?_
          obtain ⟨g6, hf⟩ := gd_some hf
          refine g_lrem C g6 dX9_isLess_49 ?_
          refine g_lst (lo' := [(17, vl (Int.tmod (w64 x8) (w64 x10))), (8, vl x8), (10, vl x10), (12, vl x12), (14, vl x14), (16, vi x16)]) C (by decide) rfl dX9_isLess_50 ?_
          refine g_lld C 3 rfl dX9_isLess_52 ?_
          refine g_lld C 4 rfl dX9_isLess_54 ?_
          obtain ⟨g7, hf⟩ := gd_some hf
          refine g_lrem C g7 dX9_isLess_56 ?_
          refine g_lst (lo' := [(19, vl (Int.tmod (w64 x12) (w64 x14))), (17, vl (Int.tmod (w64 x8) (w64 x10))), (8, vl x8), (10, vl x10), (12, vl x12), (14, vl x14), (16, vi x16)]) C (by decide) rfl dX9_isLess_57 ?_
          refine g_lld C 3 rfl dX9_isLess_59 ?_
          refine g_lst (lo' := [(8, vl x10), (19, vl (Int.tmod (w64 x12) (w64 x14))), (17, vl (Int.tmod (w64 x8) (w64 x10))), (10, vl x10), (12, vl x12), (14, vl x14), (16, vi x16)]) C (by decide) rfl dX9_isLess_61 ?_
          refine g_lld C 2 rfl dX9_isLess_63 ?_
          refine g_lst (lo' := [(10, vl (Int.tmod (w64 x8) (w64 x10))), (8, vl x10), (19, vl (Int.tmod (w64 x12) (w64 x14))), (17, vl (Int.tmod (w64 x8) (w64 x10))), (12, vl x12), (14, vl x14), (16, vi x16)]) C (by decide) rfl dX9_isLess_65 ?_
          refine g_lld C 5 rfl dX9_isLess_67 ?_
          refine g_lst (lo' := [(12, vl x14), (10, vl (Int.tmod (w64 x8) (w64 x10))), (8, vl x10), (19, vl (Int.tmod (w64 x12) (w64 x14))), (17, vl (Int.tmod (w64 x8) (w64 x10))), (14, vl x14), (16, vi x16)]) C (by decide) rfl dX9_isLess_69 ?_
          refine g_lld C 3 rfl dX9_isLess_71 ?_
          refine g_lst (lo' := [(14, vl (Int.tmod (w64 x12) (w64 x14))), (12, vl x14), (10, vl (Int.tmod (w64 x8) (w64 x10))), (8, vl x10), (19, vl (Int.tmod (w64 x12) (w64 x14))), (17, vl (Int.tmod (w64 x8) (w64 x10))), (16, vi x16)]) C (by decide) rfl dX9_isLess_73 ?_
          refine g_ild C 6 rfl dX9_isLess_75 ?_
          obtain ⟨j85, ej9, hf⟩ := jn_some hf
          have hj85 : ∀ (y8 : Int), j85 y8 = some (r, μ') → GG D Y LBm (Ar LBm α sz) p l e R s m args below meth c 21 (MQ below (Qcx D Y LBm α sz (some (vi r)) (fun a => a = α) μ') args s 0 0 (Ar LBm α sz)) α 0 0 [(8, vl x10), (10, vl (Int.tmod (w64 x8) (w64 x10))), (12, vl x14), (14, vl (Int.tmod (w64 x12) (w64 x14)))] [vi y8] μ 85 := by
            intro y8 hf
            rw [ej9] at hf
            try dsimp only at hf
            refine g_ist (lo' := [(16, vi y8), (8, vl x10), (10, vl (Int.tmod (w64 x8) (w64 x10))), (12, vl x14), (14, vl (Int.tmod (w64 x12) (w64 x14)))]) C (by decide) rfl dX9_isLess_85 ?_
            refine g_goto C 17 (by decide) dX9_isLess_87 ?_
            exact g_sub C [1, 2, 3, 4, 0] rfl (ih _ _ _ _ _ _ hf)
          clear ej9
          refine g_if_ne C 84 (by decide) dX9_isLess_77 (fun h10 => ?_) (fun h10 => ?_)
          · rw [if_pos h10] at hf
            refine g_iconst C dX9_isLess_80 ?_
            refine g_goto C 85 (by decide) dX9_isLess_81 ?_
            exact g_sub C [3, 2, 1, 0] rfl (hj85 _ hf)
          · rw [if_neg h10] at hf
            refine g_iconst C dX9_isLess_84 ?_
            exact g_sub C [3, 2, 1, 0] rfl (hj85 _ hf)
        · rw [if_neg h5] at hf
          exact g_sub C [0, 1, 2, 3, 4] rfl (hk90 _ _ _ _ _ _ hf)
set_option maxHeartbeats 4000000 in
set_option maxRecDepth 100000 in
theorem b_X9_isLess {a0 : Int} {a2 : Int} {a4 : Int} {a6 : Int} {μ : Mem} (C : CX p s m args meth c cX9_isLess 21 RX9 (some .boolean) D Y LBm (Ar LBm α sz)) (hfr : 0 ≤ R.frames) (hlc : 0 ≤ R.locals)  (hf : f_X9_isLess a0 a2 a4 a6 μ = some (r, μ')) : GG D Y LBm (Ar LBm α sz) p l e R s m args below meth c 21 (MQ below (Qcx D Y LBm α sz (some (vi r)) (fun a => a = α) μ') args s 0 0 (Ar LBm α sz)) α 0 0 [(0, vl a0), (2, vl a2), (4, vl a4), (6, vl a6)] [] μ 0 := by
  unfold f_X9_isLess at hf
  refine g_lld_n C 0 rfl rfl dX9_isLess_0 ?_
  refine g_lst (lo' := [(8, vl a0), (0, vl a0), (2, vl a2), (4, vl a4), (6, vl a6)]) C (by decide) rfl dX9_isLess_1 ?_
  refine g_lld_n C 2 rfl rfl dX9_isLess_3 ?_
  refine g_lst (lo' := [(10, vl a2), (8, vl a0), (0, vl a0), (2, vl a2), (4, vl a4), (6, vl a6)]) C (by decide) rfl dX9_isLess_4 ?_
  refine g_lld C 4 rfl dX9_isLess_6 ?_
  refine g_lst (lo' := [(12, vl a4), (10, vl a2), (8, vl a0), (0, vl a0), (2, vl a2), (4, vl a4), (6, vl a6)]) C (by decide) rfl dX9_isLess_8 ?_
  refine g_lld C 6 rfl dX9_isLess_10 ?_
  refine g_lst (lo' := [(14, vl a6), (12, vl a4), (10, vl a2), (8, vl a0), (0, vl a0), (2, vl a2), (4, vl a4), (6, vl a6)]) C (by decide) rfl dX9_isLess_12 ?_
  refine g_iconst C dX9_isLess_14 ?_
  refine g_ist (lo' := [(16, vi 0), (14, vl a6), (12, vl a4), (10, vl a2), (8, vl a0), (0, vl a0), (2, vl a2), (4, vl a4), (6, vl a6)]) C (by decide) rfl dX9_isLess_15 ?_
  refine g_sub C [4, 3, 2, 1, 0] rfl (c_X9_isLess_l17 C hfr hlc  (fun y12 y13 y14 y15 y16 μ11 hf => ?_) _ _ _ _ _ _ _ hf)
  refine g_lld C 1 rfl dX9_isLess_90 ?_
  refine g_lconst (x := 0) C rfl dX9_isLess_92 ?_
  obtain ⟨j106, ej27, hf⟩ := jn_some hf
  have hj106 : j106  = some (r, μ') → GG D Y LBm (Ar LBm α sz) p l e R s m args below meth c 21 (MQ below (Qcx D Y LBm α sz (some (vi r)) (fun a => a = α) μ') args s 0 0 (Ar LBm α sz)) α 0 0 [(8, vl y12), (10, vl y13), (12, vl y14), (14, vl y15), (16, vi y16)] [] μ11 106 := by
    intro  hf
    rw [ej27] at hf
    try dsimp only at hf
    refine g_lld C 1 rfl dX9_isLess_106 ?_
    refine g_lconst (x := 0) C rfl dX9_isLess_108 ?_
    obtain ⟨j139, ej19, hf⟩ := jn_some hf
    have hj139 : ∀ (y17 : Int), j139 y17 = some (r, μ') → GG D Y LBm (Ar LBm α sz) p l e R s m args below meth c 21 (MQ below (Qcx D Y LBm α sz (some (vi r)) (fun a => a = α) μ') args s 0 0 (Ar LBm α sz)) α 0 0 [(16, vi y16)] [vi y17] μ11 139 := by
      intro y17 hf
      rw [ej19] at hf
      try dsimp only at hf
      refine g_ist (lo' := [(17, vi y17), (16, vi y16)]) C (by decide) rfl dX9_isLess_139 ?_
      refine g_ild C 1 rfl dX9_isLess_141 ?_
      refine g_ild C 0 rfl dX9_isLess_143 ?_
      refine g_ic_eq C 152 (by decide) dX9_isLess_145 (fun h18 => ?_) (fun h18 => ?_)
      · rw [if_pos h18] at hf
        refine g_iconst C dX9_isLess_152 ?_
        exact g_zret C rfl (Or.inl rfl) dX9_isLess_153 hf
      · rw [if_neg h18] at hf
        refine g_iconst C dX9_isLess_148 ?_
        refine g_goto C 153 (by decide) dX9_isLess_149 ?_
        exact g_zret C rfl (Or.inr rfl) dX9_isLess_153 hf
    clear ej19
    obtain ⟨j138, ej20, hf⟩ := jn_some hf
    have hj138 : j138  = some (r, μ') → GG D Y LBm (Ar LBm α sz) p l e R s m args below meth c 21 (MQ below (Qcx D Y LBm α sz (some (vi r)) (fun a => a = α) μ') args s 0 0 (Ar LBm α sz)) α 0 0 [(16, vi y16)] [] μ11 138 := by
      intro  hf
      rw [ej20] at hf
      try dsimp only at hf
      refine g_iconst C dX9_isLess_138 ?_
      exact g_sub C [0] rfl (hj139 _ hf)
    clear ej20
    refine g_lc_eq C 138 (by decide) dX9_isLess_109 dX9_isLess_110 (fun h21 => ?_) (fun h21 => ?_)
    · rw [if_pos h21] at hf
      exact g_sub C [4] rfl (hj138  hf)
    · rw [if_neg h21] at hf
      refine g_lld C 3 rfl dX9_isLess_113 ?_
      refine g_lconst (x := 0) C rfl dX9_isLess_115 ?_
      obtain ⟨j134, ej22, hf⟩ := jn_some hf
      have hj134 : j134  = some (r, μ') → GG D Y LBm (Ar LBm α sz) p l e R s m args below meth c 21 (MQ below (Qcx D Y LBm α sz (some (vi r)) (fun a => a = α) μ') args s 0 0 (Ar LBm α sz)) α 0 0 [(16, vi y16)] [] μ11 134 := by
        intro  hf
        rw [ej22] at hf
        try dsimp only at hf
        refine g_iconst C dX9_isLess_134 ?_
        refine g_goto C 139 (by decide) dX9_isLess_135 ?_
        exact g_sub C [0] rfl (hj139 _ hf)
      clear ej22
      refine g_lc_eq C 134 (by decide) dX9_isLess_116 dX9_isLess_117 (fun h23 => ?_) (fun h23 => ?_)
      · rw [if_pos h23] at hf
        exact g_sub C [4] rfl (hj134  hf)
      · rw [if_neg h23] at hf
        refine g_lld C 0 rfl dX9_isLess_120 ?_
        refine g_lld C 1 rfl dX9_isLess_122 ?_
        obtain ⟨g24, hf⟩ := gd_some hf
        refine g_ldiv C g24 dX9_isLess_124 ?_
        refine g_lld C 2 rfl dX9_isLess_125 ?_
        refine g_lld C 3 rfl dX9_isLess_127 ?_
        obtain ⟨g25, hf⟩ := gd_some hf
        refine g_ldiv C g25 dX9_isLess_129 ?_
        refine g_lc_ge C 138 (by decide) dX9_isLess_130 dX9_isLess_131 (fun h26 => ?_) (fun h26 => ?_)
        · rw [if_pos h26] at hf
          exact g_sub C [4] rfl (hj138  hf)
        · rw [if_neg h26] at hf
          exact g_sub C [4] rfl (hj134  hf)
  clear ej27
  refine g_lc_ne C 106 (by decide) dX9_isLess_93 dX9_isLess_94 (fun h28 => ?_) (fun h28 => ?_)
  · rw [if_pos h28] at hf
    refine g_lld C 3 rfl dX9_isLess_97 ?_
    refine g_lconst (x := 0) C rfl dX9_isLess_99 ?_
    refine g_lc_ne C 106 (by decide) dX9_isLess_100 dX9_isLess_101 (fun h29 => ?_) (fun h29 => ?_)
    · rw [if_pos h29] at hf
      refine g_iconst C dX9_isLess_104 ?_
      exact g_zret C rfl (Or.inl rfl) dX9_isLess_105 hf
    · rw [if_neg h29] at hf
      exact g_sub C [0, 1, 2, 3, 4] rfl (hj106  hf)
  · rw [if_neg h28] at hf
    exact g_sub C [0, 1, 2, 3, 4] rfl (hj106  hf)
set_option maxHeartbeats 4000000 in
set_option maxRecDepth 100000 in
theorem c_X9_isLess {l : Launch} {D : va_G} {Y : Nat → ClassId} {α : Adr} {a0 : Int} {a2 : Int} {a4 : Int} {a6 : Int} {μ : Mem} {r : Int} {μ' : Mem}  (hf : f_X9_isLess a0 a2 a4 a6 μ = some (r, μ')) : Ctr l D Y LBm yX9_isLess cX9_isLess 21 (some .boolean) 0 0 0 0 [vl a0, vl a2, vl a4, vl a6] α μ (some (vi r)) (fun a => a = α) μ' := Ctr_of pn_X9 rfl rfl (Nat.le_of_ble_eq_true rfl) LBm_nd (fun p e s m below meth c sz C => b_X9_isLess C (Nat.le_refl _) (Nat.le_refl _)  hf)
end

/-! EndTellerModel.surest -/
def f_X9_surest_L33  : Nat → Int → Int → Int → Int → Mem → Option (Int × Mem)
  | 0, _, _, _, _, _ => none
  | n + 1, x1, x2, x4, x6, μ => (if w32 (μ 30 0 7) ≤ w32 x6 then some (x1, μ) else bn (f_X9_known x6 μ) (fun r6 μ7 => (if w32 r6 ≤ 0 then jn (fun y11 y12 y13 μ10 => f_X9_surest_L33 n y11 y12 y13 (x6 + 1) μ10) (fun j100 => jn (fun μ15 => j100 x6 (μ15 30 0 34) (μ15 30 0 35) μ15) (fun j86 => (if w32 x1 < 0 then j86  μ7 else bn (f_X9_isLess (μ7 30 0 34) (μ7 30 0 35) x2 x4 μ7) (fun r18 μ19 => (if w32 r18 = 0 then j100 x1 x2 x4 μ19 else j86  μ19))))) else bn (f_X9_refuse r6 μ7) (fun r22 μ23 => some (r22, μ23)))))
def f_X9_surest  (μ : Mem) : Option (Int × Mem) := (if w32 ((st (st μ 30 0 1 0) 30 0 0 0) 30 0 7) = 0 then bn (f_X9_refuse 2 (st (st μ 30 0 1 0) 30 0 0 0)) (fun r2 μ3 => some (r2, μ3)) else f_X9_surest_L33 FU (-1) 0 1 0 (st (st μ 30 0 1 0) 30 0 0 0))
section
variable {p : Program} {l : Launch} {e : Env} {R : Room} {s : State} {m : MethodId} {args : Array Value} {below : List Frame} {meth : Method} {c : Code} {D : va_G} {Y : Nat → ClassId} {α : Adr} {sz : Nat} {r : Int} {μ' : Mem}
set_option maxHeartbeats 4000000 in
set_option maxRecDepth 100000 in
theorem c_X9_surest_l33  (C : CX p s m args meth c cX9_surest 8 RX9 (some .int) D Y LBm (Ar LBm α sz)) (hfr : 4 ≤ R.frames) (hlc : 108 ≤ R.locals)    : ∀ (n : Nat) (x1 x2 x4 x6 : Int) (μ : Mem), f_X9_surest_L33 n x1 x2 x4 x6 μ = some (r, μ') → GG D Y LBm (Ar LBm α sz) p l e R s m args below meth c 8 (MQ below (Qcx D Y LBm α sz (some (vi r)) (fun a => a = α) μ') args s 0 0 (Ar LBm α sz)) α 0 0 [(0, vr α 30 0), (1, vi x1), (2, vl x2), (4, vl x4), (6, vi x6)] [] μ 33 := by
  intro n
  induction n with
  | zero =>
    intro x1 x2 x4 x6 μ hf
    exact nomatch (show (none : Option (Int × Mem)) = some _ from hf)
  | succ n ih =>
    intro x1 x2 x4 x6 μ hf
    rw [f_X9_surest_L33.eq_2] at hf
    refine g_ild C 4 rfl dX9_surest_33 ?_
    refine g_ald_n C 0 rfl rfl dX9_surest_35 ?_
    refine g_get C dX9_surest_36 fl_X9_119 in_30 (ec_30 _ _ _ _ _) rfl ?_
    refine g_ic_ge C 106 (by decide) dX9_surest_39 (fun h5 => ?_) (fun h5 => ?_)
    · rw [if_pos h5] at hf
      refine g_ild_n C 1 rfl rfl dX9_surest_106 ?_
      exact g_iret C rfl dX9_surest_107 hf
    · rw [if_neg h5] at hf
      refine g_ald_n C 0 rfl rfl dX9_surest_42 ?_
      refine g_ild C 4 rfl dX9_surest_43 ?_
      obtain ⟨r6, μ7, hc8, hf⟩ := bn_some hf
      refine g_callVp (As := [vi x6]) (rest := []) C ⟨Nat.zero_le _, Nat.zero_le _⟩ dX9_surest_45 cw_X9_known m_5_79 m_5_81 m_0_28 in_30 (ec_30 _ _ _ _ _) rfl rfl (c_X9_known  hc8) rfl rfl (Nat.le_of_ble_eq_true rfl) ⟨Nat.le_trans (Nat.le_of_ble_eq_true rfl) hfr, Nat.le_trans (Nat.le_of_ble_eq_true rfl) hlc⟩ ?_
      refine g_ist (lo' := [(7, vi r6), (0, vr α 30 0), (1, vi x1), (2, vl x2), (4, vl x4), (6, vi x6)]) C (by decide) rfl dX9_surest_48 ?_
      refine g_ild C 0 rfl dX9_surest_50 ?_
      refine g_if_le C 62 (by decide) dX9_surest_52 (fun h9 => ?_) (fun h9 => ?_)
      · rw [if_pos h9] at hf
        refine g_ild_n C 2 rfl rfl dX9_surest_62 ?_
        obtain ⟨j100, ej14, hf⟩ := jn_some hf
        have hj100 : ∀ (y11 y12 y13 : Int) (μ10 : Mem), j100 y11 y12 y13 μ10 = some (r, μ') → GG D Y LBm (Ar LBm α sz) p l e R s m args below meth c 8 (MQ below (Qcx D Y LBm α sz (some (vi r)) (fun a => a = α) μ') args s 0 0 (Ar LBm α sz)) α 0 0 [(0, vr α 30 0), (1, vi y11), (2, vl y12), (4, vl y13), (6, vi x6)] [] μ10 100 := by
          intro y11 y12 y13 μ10 hf
          rw [ej14] at hf
          try dsimp only at hf
          refine g_iinc (lo' := [(6, vi (x6 + 1)), (0, vr α 30 0), (1, vi y11), (2, vl y12), (4, vl y13)]) C 4 rfl (by decide) rfl dX9_surest_100 ?_
          refine g_goto C 33 (by decide) dX9_surest_103 ?_
          exact g_sub C [1, 2, 3, 4, 0] rfl (ih _ _ _ _ _ hf)
        clear ej14
        obtain ⟨j86, ej16, hf⟩ := jn_some hf
        have hj86 : ∀ (μ15 : Mem), j86 μ15 = some (r, μ') → GG D Y LBm (Ar LBm α sz) p l e R s m args below meth c 8 (MQ below (Qcx D Y LBm α sz (some (vi r)) (fun a => a = α) μ') args s 0 0 (Ar LBm α sz)) α 0 0 [(0, vr α 30 0), (6, vi x6)] [] μ15 86 := by
          intro μ15 hf
          rw [ej16] at hf
          try dsimp only at hf
          refine g_ild C 1 rfl dX9_surest_86 ?_
          refine g_ist_n (lo' := [(1, vi x6), (0, vr α 30 0), (6, vi x6)]) C rfl (by decide) rfl dX9_surest_88 ?_
          refine g_ald_n C 1 rfl rfl dX9_surest_89 ?_
          refine g_get C dX9_surest_90 fl_X9_214 in_30 (ec_30 _ _ _ _ _) rfl ?_
          refine g_lst_n (lo' := [(2, vl (μ15 30 0 34)), (1, vi x6), (0, vr α 30 0), (6, vi x6)]) C rfl (by decide) rfl dX9_surest_93 ?_
          refine g_ald_n C 2 rfl rfl dX9_surest_94 ?_
          refine g_get C dX9_surest_95 fl_X9_217 in_30 (ec_30 _ _ _ _ _) rfl ?_
          refine g_lst (lo' := [(4, vl (μ15 30 0 35)), (2, vl (μ15 30 0 34)), (1, vi x6), (0, vr α 30 0), (6, vi x6)]) C (by decide) rfl dX9_surest_98 ?_
          exact g_sub C [3, 2, 1, 0, 4] rfl (hj100 _ _ _ _ hf)
        clear ej16
        refine g_if_lt C 86 (by decide) dX9_surest_63 (fun h17 => ?_) (fun h17 => ?_)
        · rw [if_pos h17] at hf
          exact g_sub C [1, 5] rfl (hj86 _ hf)
        · rw [if_neg h17] at hf
          refine g_ald_n C 1 rfl rfl dX9_surest_66 ?_
          refine g_get C dX9_surest_67 fl_X9_214 in_30 (ec_30 _ _ _ _ _) rfl ?_
          refine g_ald_n C 1 rfl rfl dX9_surest_70 ?_
          refine g_get C dX9_surest_71 fl_X9_217 in_30 (ec_30 _ _ _ _ _) rfl ?_
          refine g_lld_n C 3 rfl rfl dX9_surest_74 ?_
          refine g_lld C 4 rfl dX9_surest_75 ?_
          obtain ⟨r18, μ19, hc20, hf⟩ := bn_some hf
          refine g_callSp (As := [vl (μ7 30 0 34), vl (μ7 30 0 35), vl x2, vl x4]) (rest := []) C ⟨Nat.zero_le _, Nat.zero_le _⟩ dX9_surest_77 cw_X9_isLess m_5_88 m_5_89 (c_X9_isLess  hc20) rfl rfl (Nat.le_of_ble_eq_true rfl) ⟨Nat.le_trans (Nat.le_of_ble_eq_true rfl) hfr, Nat.le_trans (Nat.le_of_ble_eq_true rfl) hlc⟩ ?_
          refine g_if_ne C 86 (by decide) dX9_surest_80 (fun h21 => ?_) (fun h21 => ?_)
          · rw [if_pos h21] at hf
            refine g_goto C 100 (by decide) dX9_surest_83 ?_
            exact g_sub C [1, 2, 3, 4, 5] rfl (hj100 _ _ _ _ hf)
          · rw [if_neg h21] at hf
            exact g_sub C [1, 5] rfl (hj86 _ hf)
      · rw [if_neg h9] at hf
        refine g_ald_n C 1 rfl rfl dX9_surest_55 ?_
        refine g_ild C 0 rfl dX9_surest_56 ?_
        obtain ⟨r22, μ23, hc24, hf⟩ := bn_some hf
        refine g_callVp (As := [vi r6]) (rest := []) C ⟨Nat.zero_le _, Nat.zero_le _⟩ dX9_surest_58 cw_X9_refuse m_4_164 m_4_166 m_0_11 in_30 (ec_30 _ _ _ _ _) rfl rfl (c_X9_refuse  hc24) rfl rfl (Nat.le_of_ble_eq_true rfl) ⟨Nat.le_trans (Nat.le_of_ble_eq_true rfl) hfr, Nat.le_trans (Nat.le_of_ble_eq_true rfl) hlc⟩ ?_
        exact g_iret C rfl dX9_surest_61 hf
set_option maxHeartbeats 4000000 in
set_option maxRecDepth 100000 in
theorem b_X9_surest  {μ : Mem} (C : CX p s m args meth c cX9_surest 8 RX9 (some .int) D Y LBm (Ar LBm α sz)) (hfr : 4 ≤ R.frames) (hlc : 108 ≤ R.locals)  (hf : f_X9_surest μ = some (r, μ')) : GG D Y LBm (Ar LBm α sz) p l e R s m args below meth c 8 (MQ below (Qcx D Y LBm α sz (some (vi r)) (fun a => a = α) μ') args s 0 0 (Ar LBm α sz)) α 0 0 [(0, vr α 30 0)] [] μ 0 := by
  unfold f_X9_surest at hf
  refine g_ald_n C 0 rfl rfl dX9_surest_0 ?_
  refine g_iconst C dX9_surest_1 ?_
  refine g_puti C dX9_surest_2 fl_X9_95 in_30 (ec_30 _ _ _ _ _) (Nat.le_of_ble_eq_true rfl) rfl (by decide) ?_
  refine g_ald_n C 0 rfl rfl dX9_surest_5 ?_
  refine g_iconst C dX9_surest_6 ?_
  refine g_puti C dX9_surest_7 fl_X9_98 in_30 (ec_30 _ _ _ _ _) (Nat.le_of_ble_eq_true rfl) rfl (by decide) ?_
  refine g_ald_n C 0 rfl rfl dX9_surest_10 ?_
  refine g_get C dX9_surest_11 fl_X9_119 in_30 (ec_30 _ _ _ _ _) rfl ?_
  refine g_if_ne C 23 (by decide) dX9_surest_14 (fun h1 => ?_) (fun h1 => ?_)
  · rw [if_pos h1] at hf
    refine g_ald_n C 0 rfl rfl dX9_surest_17 ?_
    refine g_iconst C dX9_surest_18 ?_
    obtain ⟨r2, μ3, hc4, hf⟩ := bn_some hf
    refine g_callVp (As := [vi 2]) (rest := []) C ⟨Nat.zero_le _, Nat.zero_le _⟩ dX9_surest_19 cw_X9_refuse m_4_164 m_4_166 m_0_11 in_30 (ec_30 _ _ _ _ _) rfl rfl (c_X9_refuse  hc4) rfl rfl (Nat.le_of_ble_eq_true rfl) ⟨Nat.le_trans (Nat.le_of_ble_eq_true rfl) hfr, Nat.le_trans (Nat.le_of_ble_eq_true rfl) hlc⟩ ?_
    exact g_iret C rfl dX9_surest_22 hf
  · rw [if_neg h1] at hf
    refine g_iconst C dX9_surest_23 ?_
    refine g_ist_n (lo' := [(1, vi (-1)), (0, vr α 30 0)]) C rfl (by decide) rfl dX9_surest_24 ?_
    refine g_lconst (x := 0) C rfl dX9_surest_25 ?_
    refine g_lst_n (lo' := [(2, vl 0), (1, vi (-1)), (0, vr α 30 0)]) C rfl (by decide) rfl dX9_surest_26 ?_
    refine g_lconst (x := 1) C rfl dX9_surest_27 ?_
    refine g_lst (lo' := [(4, vl 1), (2, vl 0), (1, vi (-1)), (0, vr α 30 0)]) C (by decide) rfl dX9_surest_28 ?_
    refine g_iconst C dX9_surest_30 ?_
    refine g_ist (lo' := [(6, vi 0), (4, vl 1), (2, vl 0), (1, vi (-1)), (0, vr α 30 0)]) C (by decide) rfl dX9_surest_31 ?_
    refine g_sub C [4, 3, 2, 1, 0] rfl (c_X9_surest_l33 C hfr hlc   _ _ _ _ _ _ hf)
set_option maxHeartbeats 4000000 in
set_option maxRecDepth 100000 in
theorem c_X9_surest {l : Launch} {D : va_G} {Y : Nat → ClassId} {α : Adr}  {μ : Mem} {r : Int} {μ' : Mem}  (hf : f_X9_surest μ = some (r, μ')) : Ctr l D Y LBm yX9_surest cX9_surest 8 (some .int) 4 108 0 0 [vr α 30 0] α μ (some (vi r)) (fun a => a = α) μ' := Ctr_of pn_X9 rfl rfl (Nat.le_of_ble_eq_true rfl) LBm_nd (fun p e s m below meth c sz C => b_X9_surest C (Nat.le_refl _) (Nat.le_refl _)  hf)
end

/-! EndTellerModel.moves -/
def f_X9_moves_L64 (x1 : Int) (k120 : Int → Int → Mem → Option (Int × Mem)) : Nat → Int → Int → Int → Mem → Option (Int × Mem)
  | 0, _, _, _, _ => none
  | n + 1, x2, x4, x6, μ => (if w32 x6 = 0 then k120 x2 x4 μ else bn (f_X9_step (-1) μ) (fun r21 μ22 => bn (f_X9_isLeft  μ22) (fun r24 μ25 => jn (fun y28 y29 μ27 => bn (f_X9_nextWay  μ27) (fun r30 μ31 => f_X9_moves_L64 x1 k120 n y28 y29 r30 μ31)) (fun j111 => (if w32 r24 = 0 then j111 x2 x4 μ25 else bn (f_X9_weightOf  μ25) (fun r35 μ36 => bn (f_X9_step x1 μ36) (fun r38 μ39 => (if w32 r38 ≤ w32 r21 then j111 (x2 + r35) x4 μ39 else j111 (x2 + r35) (x4 + r35) μ39))))))))
def f_X9_moves (a1 : Int) (μ : Mem) : Option (Int × Mem) := bn (f_X9_isPart a1 (st (st μ 30 0 1 0) 30 0 0 0)) (fun r1 μ2 => (if w32 r1 = 0 then bn (f_X9_no 2 μ2) (fun r5 μ6 => gd (bb r5) (some (r5, μ6))) else bn (f_X9_isStuck  μ2) (fun r9 μ10 => (if w32 r9 = 0 then bn (f_X9_isGreat  μ10) (fun r13 μ14 => (if w32 r13 = 0 then bn (f_X9_firstWay  μ14) (fun r17 μ18 => f_X9_moves_L64 a1 (fun y43 y44 μ42 => (if w64 y43 = w64 0 then bn (f_X9_no 10 μ42) (fun r46 μ47 => gd (bb r46) (some (r46, μ47))) else bn (f_X9_tells y44 y43 μ42) (fun r50 μ51 => some (1, μ51)))) FU 0 0 1 μ18) else bn (f_X9_no 9 μ14) (fun r53 μ54 => gd (bb r53) (some (r53, μ54))))) else bn (f_X9_no 8 μ10) (fun r57 μ58 => gd (bb r57) (some (r57, μ58)))))))
section
variable {p : Program} {l : Launch} {e : Env} {R : Room} {s : State} {m : MethodId} {args : Array Value} {below : List Frame} {meth : Method} {c : Code} {D : va_G} {Y : Nat → ClassId} {α : Adr} {sz : Nat} {r : Int} {μ' : Mem}
set_option maxHeartbeats 4000000 in
set_option maxRecDepth 100000 in
theorem c_X9_moves_l64 {x1 : Int} {k120 : Int → Int → Mem → Option (Int × Mem)} (C : CX p s m args meth c cX9_moves 10 RX9 (some .boolean) D Y LBm (Ar LBm α sz)) (hfr : 2 ≤ R.frames) (hlc : 55 ≤ R.locals)  (hk120 : ∀ (y2 y4 : Int) (μ : Mem), k120 y2 y4 μ = some (r, μ') → GG D Y LBm (Ar LBm α sz) p l e R s m args below meth c 10 (MQ below (Qcx D Y LBm α sz (some (vi r)) (fun a => a = α) μ') args s 0 0 (Ar LBm α sz)) α 0 0 [(0, vr α 30 0), (2, vl y2), (4, vl y4)] [] μ 120)  : ∀ (n : Nat) (x2 x4 x6 : Int) (μ : Mem), f_X9_moves_L64 x1 k120 n x2 x4 x6 μ = some (r, μ') → GG D Y LBm (Ar LBm α sz) p l e R s m args below meth c 10 (MQ below (Qcx D Y LBm α sz (some (vi r)) (fun a => a = α) μ') args s 0 0 (Ar LBm α sz)) α 0 0 [(0, vr α 30 0), (1, vi x1), (2, vl x2), (4, vl x4), (6, vi x6)] [] μ 64 := by
  intro n
  induction n with
  | zero =>
    intro x2 x4 x6 μ hf
    exact nomatch (show (none : Option (Int × Mem)) = some _ from hf)
  | succ n ih =>
    intro x2 x4 x6 μ hf
    rw [f_X9_moves_L64.eq_2] at hf
    refine g_ild C 4 rfl dX9_moves_64 ?_
    refine g_if_eq C 120 (by decide) dX9_moves_66 (fun h20 => ?_) (fun h20 => ?_)
    · rw [if_pos h20] at hf
      exact g_sub C [0, 2, 3] rfl (hk120 _ _ _ hf)
    · rw [if_neg h20] at hf
      refine g_ald_n C 0 rfl rfl dX9_moves_69 ?_
      refine g_iconst C dX9_moves_70 ?_
      obtain ⟨r21, μ22, hc23, hf⟩ := bn_some hf
      refine g_callVp (As := [vi (-1)]) (rest := []) C ⟨Nat.zero_le _, Nat.zero_le _⟩ dX9_moves_71 cw_X9_step m_5_27 m_5_29 m_0_21 in_30 (ec_30 _ _ _ _ _) rfl rfl (c_X9_step  hc23) rfl rfl (Nat.le_of_ble_eq_true rfl) ⟨Nat.le_trans (Nat.le_of_ble_eq_true rfl) hfr, Nat.le_trans (Nat.le_of_ble_eq_true rfl) hlc⟩ ?_
      refine g_ist (lo' := [(7, vi r21), (0, vr α 30 0), (1, vi x1), (2, vl x2), (4, vl x4), (6, vi x6)]) C (by decide) rfl dX9_moves_74 ?_
      refine g_ald_n C 1 rfl rfl dX9_moves_76 ?_
      obtain ⟨r24, μ25, hc26, hf⟩ := bn_some hf
      refine g_callVp (As := []) (rest := []) C ⟨Nat.zero_le _, Nat.zero_le _⟩ dX9_moves_77 cw_X9_isLeft m_5_37 m_5_39 m_0_23 in_30 (ec_30 _ _ _ _ _) rfl rfl (c_X9_isLeft  hc26) rfl rfl (Nat.le_of_ble_eq_true rfl) ⟨Nat.le_trans (Nat.le_of_ble_eq_true rfl) hfr, Nat.le_trans (Nat.le_of_ble_eq_true rfl) hlc⟩ ?_
      obtain ⟨j111, ej33, hf⟩ := jn_some hf
      have hj111 : ∀ (y28 y29 : Int) (μ27 : Mem), j111 y28 y29 μ27 = some (r, μ') → GG D Y LBm (Ar LBm α sz) p l e R s m args below meth c 10 (MQ below (Qcx D Y LBm α sz (some (vi r)) (fun a => a = α) μ') args s 0 0 (Ar LBm α sz)) α 0 0 [(0, vr α 30 0), (1, vi x1), (2, vl y28), (4, vl y29)] [] μ27 111 := by
        intro y28 y29 μ27 hf
        rw [ej33] at hf
        try dsimp only at hf
        refine g_ald_n C 0 rfl rfl dX9_moves_111 ?_
        obtain ⟨r30, μ31, hc32, hf⟩ := bn_some hf
        refine g_callVp (As := []) (rest := []) C ⟨Nat.zero_le _, Nat.zero_le _⟩ dX9_moves_112 cw_X9_nextWay m_5_45 m_5_47 m_0_25 in_30 (ec_30 _ _ _ _ _) rfl rfl (c_X9_nextWay  hc32) rfl rfl (Nat.le_of_ble_eq_true rfl) ⟨Nat.le_trans (Nat.le_of_ble_eq_true rfl) hfr, Nat.le_trans (Nat.le_of_ble_eq_true rfl) hlc⟩ ?_
        refine g_ist (lo' := [(6, vi r30), (0, vr α 30 0), (1, vi x1), (2, vl y28), (4, vl y29)]) C (by decide) rfl dX9_moves_115 ?_
        refine g_goto C 64 (by decide) dX9_moves_117 ?_
        exact g_sub C [1, 2, 3, 4, 0] rfl (ih _ _ _ _ hf)
      clear ej33
      refine g_if_eq C 111 (by decide) dX9_moves_80 (fun h34 => ?_) (fun h34 => ?_)
      · rw [if_pos h34] at hf
        exact g_sub C [1, 2, 3, 4] rfl (hj111 _ _ _ hf)
      · rw [if_neg h34] at hf
        refine g_ald_n C 1 rfl rfl dX9_moves_83 ?_
        obtain ⟨r35, μ36, hc37, hf⟩ := bn_some hf
        refine g_callVp (As := []) (rest := []) C ⟨Nat.zero_le _, Nat.zero_le _⟩ dX9_moves_84 cw_X9_weightOf m_5_41 m_5_43 m_0_24 in_30 (ec_30 _ _ _ _ _) rfl rfl (c_X9_weightOf  hc37) rfl rfl (Nat.le_of_ble_eq_true rfl) ⟨Nat.le_trans (Nat.le_of_ble_eq_true rfl) hfr, Nat.le_trans (Nat.le_of_ble_eq_true rfl) hlc⟩ ?_
        refine g_lst (lo' := [(8, vl r35), (7, vi r21), (0, vr α 30 0), (1, vi x1), (2, vl x2), (4, vl x4), (6, vi x6)]) C (by decide) rfl dX9_moves_87 ?_
        refine g_lld_n C 4 rfl rfl dX9_moves_89 ?_
        refine g_lld C 0 rfl dX9_moves_90 ?_
        refine g_ladd C dX9_moves_92 ?_
        refine g_lst_n (lo' := [(2, vl (x2 + r35)), (8, vl r35), (7, vi r21), (0, vr α 30 0), (1, vi x1), (4, vl x4), (6, vi x6)]) C rfl (by decide) rfl dX9_moves_93 ?_
        refine g_ald_n C 3 rfl rfl dX9_moves_94 ?_
        refine g_ild_n C 4 rfl rfl dX9_moves_95 ?_
        obtain ⟨r38, μ39, hc40, hf⟩ := bn_some hf
        refine g_callVp (As := [vi x1]) (rest := []) C ⟨Nat.zero_le _, Nat.zero_le _⟩ dX9_moves_96 cw_X9_step m_5_27 m_5_29 m_0_21 in_30 (ec_30 _ _ _ _ _) rfl rfl (c_X9_step  hc40) rfl rfl (Nat.le_of_ble_eq_true rfl) ⟨Nat.le_trans (Nat.le_of_ble_eq_true rfl) hfr, Nat.le_trans (Nat.le_of_ble_eq_true rfl) hlc⟩ ?_
        refine g_ild C 2 rfl dX9_moves_99 ?_
        refine g_ic_le C 111 (by decide) dX9_moves_101 (fun h41 => ?_) (fun h41 => ?_)
        · rw [if_pos h41] at hf
          exact g_sub C [3, 4, 0, 5] rfl (hj111 _ _ _ hf)
        · rw [if_neg h41] at hf
          refine g_lld C 5 rfl dX9_moves_104 ?_
          refine g_lld C 1 rfl dX9_moves_106 ?_
          refine g_ladd C dX9_moves_108 ?_
          refine g_lst (lo' := [(4, vl (x4 + r35)), (2, vl (x2 + r35)), (8, vl r35), (7, vi r21), (0, vr α 30 0), (1, vi x1), (6, vi x6)]) C (by decide) rfl dX9_moves_109 ?_
          exact g_sub C [4, 5, 1, 0] rfl (hj111 _ _ _ hf)
set_option maxHeartbeats 4000000 in
set_option maxRecDepth 100000 in
theorem b_X9_moves {a1 : Int} {μ : Mem} (C : CX p s m args meth c cX9_moves 10 RX9 (some .boolean) D Y LBm (Ar LBm α sz)) (hfr : 2 ≤ R.frames) (hlc : 55 ≤ R.locals)  (hf : f_X9_moves a1 μ = some (r, μ')) : GG D Y LBm (Ar LBm α sz) p l e R s m args below meth c 10 (MQ below (Qcx D Y LBm α sz (some (vi r)) (fun a => a = α) μ') args s 0 0 (Ar LBm α sz)) α 0 0 [(0, vr α 30 0), (1, vi a1)] [] μ 0 := by
  unfold f_X9_moves at hf
  refine g_ald_n C 0 rfl rfl dX9_moves_0 ?_
  refine g_iconst C dX9_moves_1 ?_
  refine g_puti C dX9_moves_2 fl_X9_95 in_30 (ec_30 _ _ _ _ _) (Nat.le_of_ble_eq_true rfl) rfl (by decide) ?_
  refine g_ald_n C 0 rfl rfl dX9_moves_5 ?_
  refine g_iconst C dX9_moves_6 ?_
  refine g_puti C dX9_moves_7 fl_X9_98 in_30 (ec_30 _ _ _ _ _) (Nat.le_of_ble_eq_true rfl) rfl (by decide) ?_
  refine g_ald_n C 0 rfl rfl dX9_moves_10 ?_
  refine g_ild_n C 1 rfl rfl dX9_moves_11 ?_
  obtain ⟨r1, μ2, hc3, hf⟩ := bn_some hf
  refine g_callVp (As := [vi a1]) (rest := []) C ⟨Nat.zero_le _, Nat.zero_le _⟩ dX9_moves_12 cw_X9_isPart m_4_189 m_4_191 m_0_14 in_30 (ec_30 _ _ _ _ _) rfl rfl (c_X9_isPart  hc3) rfl rfl (Nat.le_of_ble_eq_true rfl) ⟨Nat.le_trans (Nat.le_of_ble_eq_true rfl) hfr, Nat.le_trans (Nat.le_of_ble_eq_true rfl) hlc⟩ ?_
  refine g_if_ne C 24 (by decide) dX9_moves_15 (fun h4 => ?_) (fun h4 => ?_)
  · rw [if_pos h4] at hf
    refine g_ald_n C 0 rfl rfl dX9_moves_18 ?_
    refine g_iconst C dX9_moves_19 ?_
    obtain ⟨r5, μ6, hc7, hf⟩ := bn_some hf
    refine g_callVp (As := [vi 2]) (rest := []) C ⟨Nat.zero_le _, Nat.zero_le _⟩ dX9_moves_20 cw_X9_no m_4_129 m_4_131 m_0_8 in_30 (ec_30 _ _ _ _ _) rfl rfl (c_X9_no  hc7) rfl rfl (Nat.le_of_ble_eq_true rfl) ⟨Nat.le_trans (Nat.le_of_ble_eq_true rfl) hfr, Nat.le_trans (Nat.le_of_ble_eq_true rfl) hlc⟩ ?_
    obtain ⟨g8, hf⟩ := gd_some hf
    exact g_zret C rfl g8 dX9_moves_23 hf
  · rw [if_neg h4] at hf
    refine g_ald_n C 0 rfl rfl dX9_moves_24 ?_
    obtain ⟨r9, μ10, hc11, hf⟩ := bn_some hf
    refine g_callVp (As := []) (rest := []) C ⟨Nat.zero_le _, Nat.zero_le _⟩ dX9_moves_25 cw_X9_isStuck m_5_19 m_5_21 m_0_19 in_30 (ec_30 _ _ _ _ _) rfl rfl (c_X9_isStuck  hc11) rfl rfl (Nat.le_of_ble_eq_true rfl) ⟨Nat.le_trans (Nat.le_of_ble_eq_true rfl) hfr, Nat.le_trans (Nat.le_of_ble_eq_true rfl) hlc⟩ ?_
    refine g_if_eq C 38 (by decide) dX9_moves_28 (fun h12 => ?_) (fun h12 => ?_)
    · rw [if_pos h12] at hf
      refine g_ald_n C 0 rfl rfl dX9_moves_38 ?_
      obtain ⟨r13, μ14, hc15, hf⟩ := bn_some hf
      refine g_callVp (As := []) (rest := []) C ⟨Nat.zero_le _, Nat.zero_le _⟩ dX9_moves_39 cw_X9_isGreat m_5_2 m_5_4 m_0_16 in_30 (ec_30 _ _ _ _ _) rfl rfl (c_X9_isGreat  hc15) rfl rfl (Nat.le_of_ble_eq_true rfl) ⟨Nat.le_trans (Nat.le_of_ble_eq_true rfl) hfr, Nat.le_trans (Nat.le_of_ble_eq_true rfl) hlc⟩ ?_
      refine g_if_eq C 52 (by decide) dX9_moves_42 (fun h16 => ?_) (fun h16 => ?_)
      · rw [if_pos h16] at hf
        refine g_lconst (x := 0) C rfl dX9_moves_52 ?_
        refine g_lst_n (lo' := [(2, vl 0), (0, vr α 30 0), (1, vi a1)]) C rfl (by decide) rfl dX9_moves_53 ?_
        refine g_lconst (x := 0) C rfl dX9_moves_54 ?_
        refine g_lst (lo' := [(4, vl 0), (2, vl 0), (0, vr α 30 0), (1, vi a1)]) C (by decide) rfl dX9_moves_55 ?_
        refine g_ald_n C 2 rfl rfl dX9_moves_57 ?_
        obtain ⟨r17, μ18, hc19, hf⟩ := bn_some hf
        refine g_callVp (As := []) (rest := []) C ⟨Nat.zero_le _, Nat.zero_le _⟩ dX9_moves_58 cw_X9_firstWay m_5_23 m_5_25 m_0_20 in_30 (ec_30 _ _ _ _ _) rfl rfl (c_X9_firstWay  hc19) rfl rfl (Nat.le_of_ble_eq_true rfl) ⟨Nat.le_trans (Nat.le_of_ble_eq_true rfl) hfr, Nat.le_trans (Nat.le_of_ble_eq_true rfl) hlc⟩ ?_
        refine g_iconst C dX9_moves_61 ?_
        refine g_ist (lo' := [(6, vi 1), (4, vl 0), (2, vl 0), (0, vr α 30 0), (1, vi a1)]) C (by decide) rfl dX9_moves_62 ?_
        refine g_sub C [3, 4, 2, 1, 0] rfl (c_X9_moves_l64 C hfr hlc  (fun y43 y44 μ42 hf => ?_) _ _ _ _ _ hf)
        refine g_lld_n C 1 rfl rfl dX9_moves_120 ?_
        refine g_lconst (x := 0) C rfl dX9_moves_121 ?_
        refine g_lc_ne C 133 (by decide) dX9_moves_122 dX9_moves_123 (fun h45 => ?_) (fun h45 => ?_)
        · rw [if_pos h45] at hf
          refine g_ald_n C 0 rfl rfl dX9_moves_126 ?_
          refine g_bipush C rfl dX9_moves_127 ?_
          obtain ⟨r46, μ47, hc48, hf⟩ := bn_some hf
          refine g_callVp (As := [vi 10]) (rest := []) C ⟨Nat.zero_le _, Nat.zero_le _⟩ dX9_moves_129 cw_X9_no m_4_129 m_4_131 m_0_8 in_30 (ec_30 _ _ _ _ _) rfl rfl (c_X9_no  hc48) rfl rfl (Nat.le_of_ble_eq_true rfl) ⟨Nat.le_trans (Nat.le_of_ble_eq_true rfl) hfr, Nat.le_trans (Nat.le_of_ble_eq_true rfl) hlc⟩ ?_
          obtain ⟨g49, hf⟩ := gd_some hf
          exact g_zret C rfl g49 dX9_moves_132 hf
        · rw [if_neg h45] at hf
          refine g_ald_n C 0 rfl rfl dX9_moves_133 ?_
          refine g_lld C 2 rfl dX9_moves_134 ?_
          refine g_lld_n C 1 rfl rfl dX9_moves_136 ?_
          obtain ⟨r50, μ51, hc52, hf⟩ := bn_some hf
          refine g_callVp (As := [vl y44, vl y43]) (rest := []) C ⟨Nat.zero_le _, Nat.zero_le _⟩ dX9_moves_137 cw_X9_tells m_5_49 m_5_51 m_0_26 in_30 (ec_30 _ _ _ _ _) rfl rfl (c_X9_tells  hc52) rfl rfl (Nat.le_of_ble_eq_true rfl) ⟨Nat.le_trans (Nat.le_of_ble_eq_true rfl) hfr, Nat.le_trans (Nat.le_of_ble_eq_true rfl) hlc⟩ ?_
          refine g_pop C rfl dX9_moves_140 ?_
          refine g_iconst C dX9_moves_141 ?_
          exact g_zret C rfl (Or.inr rfl) dX9_moves_142 hf
      · rw [if_neg h16] at hf
        refine g_ald_n C 0 rfl rfl dX9_moves_45 ?_
        refine g_bipush C rfl dX9_moves_46 ?_
        obtain ⟨r53, μ54, hc55, hf⟩ := bn_some hf
        refine g_callVp (As := [vi 9]) (rest := []) C ⟨Nat.zero_le _, Nat.zero_le _⟩ dX9_moves_48 cw_X9_no m_4_129 m_4_131 m_0_8 in_30 (ec_30 _ _ _ _ _) rfl rfl (c_X9_no  hc55) rfl rfl (Nat.le_of_ble_eq_true rfl) ⟨Nat.le_trans (Nat.le_of_ble_eq_true rfl) hfr, Nat.le_trans (Nat.le_of_ble_eq_true rfl) hlc⟩ ?_
        obtain ⟨g56, hf⟩ := gd_some hf
        exact g_zret C rfl g56 dX9_moves_51 hf
    · rw [if_neg h12] at hf
      refine g_ald_n C 0 rfl rfl dX9_moves_31 ?_
      refine g_bipush C rfl dX9_moves_32 ?_
      obtain ⟨r57, μ58, hc59, hf⟩ := bn_some hf
      refine g_callVp (As := [vi 8]) (rest := []) C ⟨Nat.zero_le _, Nat.zero_le _⟩ dX9_moves_34 cw_X9_no m_4_129 m_4_131 m_0_8 in_30 (ec_30 _ _ _ _ _) rfl rfl (c_X9_no  hc59) rfl rfl (Nat.le_of_ble_eq_true rfl) ⟨Nat.le_trans (Nat.le_of_ble_eq_true rfl) hfr, Nat.le_trans (Nat.le_of_ble_eq_true rfl) hlc⟩ ?_
      obtain ⟨g60, hf⟩ := gd_some hf
      exact g_zret C rfl g60 dX9_moves_37 hf
set_option maxHeartbeats 4000000 in
set_option maxRecDepth 100000 in
theorem c_X9_moves {l : Launch} {D : va_G} {Y : Nat → ClassId} {α : Adr} {a1 : Int} {μ : Mem} {r : Int} {μ' : Mem}  (hf : f_X9_moves a1 μ = some (r, μ')) : Ctr l D Y LBm yX9_moves cX9_moves 10 (some .boolean) 2 55 0 0 [vr α 30 0, vi a1] α μ (some (vi r)) (fun a => a = α) μ' := Ctr_of pn_X9 rfl rfl (Nat.le_of_ble_eq_true rfl) LBm_nd (fun p e s m below meth c sz C => b_X9_moves C (Nat.le_refl _) (Nat.le_refl _)  hf)
end

/-! EndTellerModel.end -/
def f_X9_end (a1 : Int) (a2 : Int) (μ : Mem) : Option (Int × Mem) := bn (f_X9_isPart a1 (st (st μ 30 0 1 0) 30 0 0 0)) (fun r1 μ2 => (if w32 r1 = 0 then bn (f_X9_no 2 μ2) (fun r5 μ6 => gd (bb r5) (some (r5, μ6))) else (if w32 a2 < w32 (-1) then bn (f_X9_no 5 μ2) (fun r10 μ11 => gd (bb r10) (some (r10, μ11))) else (if w32 a2 ≤ w32 9999 then gd (inb a1 10) (some (1, (st μ2 37 0 (ix a1) a2))) else bn (f_X9_no 5 μ2) (fun r16 μ17 => gd (bb r16) (some (r16, μ17)))))))
section
variable {p : Program} {l : Launch} {e : Env} {R : Room} {s : State} {m : MethodId} {args : Array Value} {below : List Frame} {meth : Method} {c : Code} {D : va_G} {Y : Nat → ClassId} {α : Adr} {sz : Nat} {r : Int} {μ' : Mem}
set_option maxHeartbeats 4000000 in
set_option maxRecDepth 100000 in
theorem b_X9_end {a1 : Int} {a2 : Int} {μ : Mem} (C : CX p s m args meth c cX9_end 3 RX9 (some .boolean) D Y LBm (Ar LBm α sz)) (hfr : 1 ≤ R.frames) (hlc : 21 ≤ R.locals)  (hf : f_X9_end a1 a2 μ = some (r, μ')) : GG D Y LBm (Ar LBm α sz) p l e R s m args below meth c 3 (MQ below (Qcx D Y LBm α sz (some (vi r)) (fun a => a = α) μ') args s 0 0 (Ar LBm α sz)) α 0 0 [(0, vr α 30 0), (1, vi a1), (2, vi a2)] [] μ 0 := by
  unfold f_X9_end at hf
  refine g_ald_n C 0 rfl rfl dX9_end_0 ?_
  refine g_iconst C dX9_end_1 ?_
  refine g_puti C dX9_end_2 fl_X9_95 in_30 (ec_30 _ _ _ _ _) (Nat.le_of_ble_eq_true rfl) rfl (by decide) ?_
  refine g_ald_n C 0 rfl rfl dX9_end_5 ?_
  refine g_iconst C dX9_end_6 ?_
  refine g_puti C dX9_end_7 fl_X9_98 in_30 (ec_30 _ _ _ _ _) (Nat.le_of_ble_eq_true rfl) rfl (by decide) ?_
  refine g_ald_n C 0 rfl rfl dX9_end_10 ?_
  refine g_ild_n C 1 rfl rfl dX9_end_11 ?_
  obtain ⟨r1, μ2, hc3, hf⟩ := bn_some hf
  refine g_callVp (As := [vi a1]) (rest := []) C ⟨Nat.zero_le _, Nat.zero_le _⟩ dX9_end_12 cw_X9_isPart m_4_189 m_4_191 m_0_14 in_30 (ec_30 _ _ _ _ _) rfl rfl (c_X9_isPart  hc3) rfl rfl (Nat.le_of_ble_eq_true rfl) ⟨Nat.le_trans (Nat.le_of_ble_eq_true rfl) hfr, Nat.le_trans (Nat.le_of_ble_eq_true rfl) hlc⟩ ?_
  refine g_if_ne C 24 (by decide) dX9_end_15 (fun h4 => ?_) (fun h4 => ?_)
  · rw [if_pos h4] at hf
    refine g_ald_n C 0 rfl rfl dX9_end_18 ?_
    refine g_iconst C dX9_end_19 ?_
    obtain ⟨r5, μ6, hc7, hf⟩ := bn_some hf
    refine g_callVp (As := [vi 2]) (rest := []) C ⟨Nat.zero_le _, Nat.zero_le _⟩ dX9_end_20 cw_X9_no m_4_129 m_4_131 m_0_8 in_30 (ec_30 _ _ _ _ _) rfl rfl (c_X9_no  hc7) rfl rfl (Nat.le_of_ble_eq_true rfl) ⟨Nat.le_trans (Nat.le_of_ble_eq_true rfl) hfr, Nat.le_trans (Nat.le_of_ble_eq_true rfl) hlc⟩ ?_
    obtain ⟨g8, hf⟩ := gd_some hf
    exact g_zret C rfl g8 dX9_end_23 hf
  · rw [if_neg h4] at hf
    refine g_ild_n C 2 rfl rfl dX9_end_24 ?_
    refine g_iconst C dX9_end_25 ?_
    refine g_ic_lt C 36 (by decide) dX9_end_26 (fun h9 => ?_) (fun h9 => ?_)
    · rw [if_pos h9] at hf
      refine g_ald_n C 0 rfl rfl dX9_end_36 ?_
      refine g_iconst C dX9_end_37 ?_
      obtain ⟨r10, μ11, hc12, hf⟩ := bn_some hf
      refine g_callVp (As := [vi 5]) (rest := []) C ⟨Nat.zero_le _, Nat.zero_le _⟩ dX9_end_38 cw_X9_no m_4_129 m_4_131 m_0_8 in_30 (ec_30 _ _ _ _ _) rfl rfl (c_X9_no  hc12) rfl rfl (Nat.le_of_ble_eq_true rfl) ⟨Nat.le_trans (Nat.le_of_ble_eq_true rfl) hfr, Nat.le_trans (Nat.le_of_ble_eq_true rfl) hlc⟩ ?_
      obtain ⟨g13, hf⟩ := gd_some hf
      exact g_zret C rfl g13 dX9_end_41 hf
    · rw [if_neg h9] at hf
      refine g_ild_n C 2 rfl rfl dX9_end_29 ?_
      refine g_sipush C rfl dX9_end_30 ?_
      refine g_ic_le C 42 (by decide) dX9_end_33 (fun h14 => ?_) (fun h14 => ?_)
      · rw [if_pos h14] at hf
        refine g_ald_n C 0 rfl rfl dX9_end_42 ?_
        refine g_get C dX9_end_43 fl_X9_40 in_30 (ec_30 _ _ _ _ _) rfl ?_
        refine g_ild_n C 1 rfl rfl dX9_end_46 ?_
        refine g_ild_n C 2 rfl rfl dX9_end_47 ?_
        obtain ⟨g15, hf⟩ := gd_some hf
        refine g_iast C dX9_end_48 in_37 (fun _ => ec_37 _ _ _ _ _) (by decide) g15 ?_
        refine g_iconst C dX9_end_49 ?_
        exact g_zret C rfl (Or.inr rfl) dX9_end_50 hf
      · rw [if_neg h14] at hf
        refine g_ald_n C 0 rfl rfl dX9_end_36 ?_
        refine g_iconst C dX9_end_37 ?_
        obtain ⟨r16, μ17, hc18, hf⟩ := bn_some hf
        refine g_callVp (As := [vi 5]) (rest := []) C ⟨Nat.zero_le _, Nat.zero_le _⟩ dX9_end_38 cw_X9_no m_4_129 m_4_131 m_0_8 in_30 (ec_30 _ _ _ _ _) rfl rfl (c_X9_no  hc18) rfl rfl (Nat.le_of_ble_eq_true rfl) ⟨Nat.le_trans (Nat.le_of_ble_eq_true rfl) hfr, Nat.le_trans (Nat.le_of_ble_eq_true rfl) hlc⟩ ?_
        obtain ⟨g19, hf⟩ := gd_some hf
        exact g_zret C rfl g19 dX9_end_41 hf
set_option maxHeartbeats 4000000 in
set_option maxRecDepth 100000 in
theorem c_X9_end {l : Launch} {D : va_G} {Y : Nat → ClassId} {α : Adr} {a1 : Int} {a2 : Int} {μ : Mem} {r : Int} {μ' : Mem}  (hf : f_X9_end a1 a2 μ = some (r, μ')) : Ctr l D Y LBm yX9_end cX9_end 3 (some .boolean) 1 21 0 0 [vr α 30 0, vi a1, vi a2] α μ (some (vi r)) (fun a => a = α) μ' := Ctr_of pn_X9 rfl rfl (Nat.le_of_ble_eq_true rfl) LBm_nd (fun p e s m below meth c sz C => b_X9_end C (Nat.le_refl _) (Nat.le_refl _)  hf)
end

/-! EndTellerModel.today -/
def f_X9_today (a1 : Int) (μ : Mem) : Option (Int × Mem) := (if w32 a1 < w32 (-1) then bn (f_X9_no 5 (st (st μ 30 0 1 0) 30 0 0 0)) (fun r2 μ3 => gd (bb r2) (some (r2, μ3))) else (if w32 a1 ≤ w32 9999 then some (1, (st (st (st μ 30 0 1 0) 30 0 0 0) 30 0 10 a1)) else bn (f_X9_no 5 (st (st μ 30 0 1 0) 30 0 0 0)) (fun r7 μ8 => gd (bb r7) (some (r7, μ8)))))
section
variable {p : Program} {l : Launch} {e : Env} {R : Room} {s : State} {m : MethodId} {args : Array Value} {below : List Frame} {meth : Method} {c : Code} {D : va_G} {Y : Nat → ClassId} {α : Adr} {sz : Nat} {r : Int} {μ' : Mem}
set_option maxHeartbeats 4000000 in
set_option maxRecDepth 100000 in
theorem b_X9_today {a1 : Int} {μ : Mem} (C : CX p s m args meth c cX9_today 2 RX9 (some .boolean) D Y LBm (Ar LBm α sz)) (hfr : 1 ≤ R.frames) (hlc : 21 ≤ R.locals)  (hf : f_X9_today a1 μ = some (r, μ')) : GG D Y LBm (Ar LBm α sz) p l e R s m args below meth c 2 (MQ below (Qcx D Y LBm α sz (some (vi r)) (fun a => a = α) μ') args s 0 0 (Ar LBm α sz)) α 0 0 [(0, vr α 30 0), (1, vi a1)] [] μ 0 := by
  unfold f_X9_today at hf
  refine g_ald_n C 0 rfl rfl dX9_today_0 ?_
  refine g_iconst C dX9_today_1 ?_
  refine g_puti C dX9_today_2 fl_X9_95 in_30 (ec_30 _ _ _ _ _) (Nat.le_of_ble_eq_true rfl) rfl (by decide) ?_
  refine g_ald_n C 0 rfl rfl dX9_today_5 ?_
  refine g_iconst C dX9_today_6 ?_
  refine g_puti C dX9_today_7 fl_X9_98 in_30 (ec_30 _ _ _ _ _) (Nat.le_of_ble_eq_true rfl) rfl (by decide) ?_
  refine g_ild_n C 1 rfl rfl dX9_today_10 ?_
  refine g_iconst C dX9_today_11 ?_
  refine g_ic_lt C 22 (by decide) dX9_today_12 (fun h1 => ?_) (fun h1 => ?_)
  · rw [if_pos h1] at hf
    refine g_ald_n C 0 rfl rfl dX9_today_22 ?_
    refine g_iconst C dX9_today_23 ?_
    obtain ⟨r2, μ3, hc4, hf⟩ := bn_some hf
    refine g_callVp (As := [vi 5]) (rest := []) C ⟨Nat.zero_le _, Nat.zero_le _⟩ dX9_today_24 cw_X9_no m_4_129 m_4_131 m_0_8 in_30 (ec_30 _ _ _ _ _) rfl rfl (c_X9_no  hc4) rfl rfl (Nat.le_of_ble_eq_true rfl) ⟨Nat.le_trans (Nat.le_of_ble_eq_true rfl) hfr, Nat.le_trans (Nat.le_of_ble_eq_true rfl) hlc⟩ ?_
    obtain ⟨g5, hf⟩ := gd_some hf
    exact g_zret C rfl g5 dX9_today_27 hf
  · rw [if_neg h1] at hf
    refine g_ild_n C 1 rfl rfl dX9_today_15 ?_
    refine g_sipush C rfl dX9_today_16 ?_
    refine g_ic_le C 28 (by decide) dX9_today_19 (fun h6 => ?_) (fun h6 => ?_)
    · rw [if_pos h6] at hf
      refine g_ald_n C 0 rfl rfl dX9_today_28 ?_
      refine g_ild_n C 1 rfl rfl dX9_today_29 ?_
      refine g_puti C dX9_today_30 fl_X9_28 in_30 (ec_30 _ _ _ _ _) (Nat.le_of_ble_eq_true rfl) rfl (by decide) ?_
      refine g_iconst C dX9_today_33 ?_
      exact g_zret C rfl (Or.inr rfl) dX9_today_34 hf
    · rw [if_neg h6] at hf
      refine g_ald_n C 0 rfl rfl dX9_today_22 ?_
      refine g_iconst C dX9_today_23 ?_
      obtain ⟨r7, μ8, hc9, hf⟩ := bn_some hf
      refine g_callVp (As := [vi 5]) (rest := []) C ⟨Nat.zero_le _, Nat.zero_le _⟩ dX9_today_24 cw_X9_no m_4_129 m_4_131 m_0_8 in_30 (ec_30 _ _ _ _ _) rfl rfl (c_X9_no  hc9) rfl rfl (Nat.le_of_ble_eq_true rfl) ⟨Nat.le_trans (Nat.le_of_ble_eq_true rfl) hfr, Nat.le_trans (Nat.le_of_ble_eq_true rfl) hlc⟩ ?_
      obtain ⟨g10, hf⟩ := gd_some hf
      exact g_zret C rfl g10 dX9_today_27 hf
set_option maxHeartbeats 4000000 in
set_option maxRecDepth 100000 in
theorem c_X9_today {l : Launch} {D : va_G} {Y : Nat → ClassId} {α : Adr} {a1 : Int} {μ : Mem} {r : Int} {μ' : Mem}  (hf : f_X9_today a1 μ = some (r, μ')) : Ctr l D Y LBm yX9_today cX9_today 2 (some .boolean) 1 21 0 0 [vr α 30 0, vi a1] α μ (some (vi r)) (fun a => a = α) μ' := Ctr_of pn_X9 rfl rfl (Nat.le_of_ble_eq_true rfl) LBm_nd (fun p e s m below meth c sz C => b_X9_today C (Nat.le_refl _) (Nat.le_refl _)  hf)
end

/-! EndTellerModel.stepOf -/
def f_X9_stepOf (a0 : Int) (a1 : Int) (μ : Mem) : Option (Int × Mem) := (if w32 a0 = w32 a1 then some (9, μ) else gd (¬ w32 a1 = 0) (some ((Int.tdiv (w32 (10 * a0)) (w32 a1)), μ)))
section
variable {p : Program} {l : Launch} {e : Env} {R : Room} {s : State} {m : MethodId} {args : Array Value} {below : List Frame} {meth : Method} {c : Code} {D : va_G} {Y : Nat → ClassId} {α : Adr} {sz : Nat} {r : Int} {μ' : Mem}
set_option maxHeartbeats 4000000 in
set_option maxRecDepth 100000 in
theorem b_X9_stepOf {a0 : Int} {a1 : Int} {μ : Mem} (C : CX p s m args meth c cX9_stepOf 2 RX9 (some .int) D Y LBm (Ar LBm α sz)) (hfr : 0 ≤ R.frames) (hlc : 0 ≤ R.locals)  (hf : f_X9_stepOf a0 a1 μ = some (r, μ')) : GG D Y LBm (Ar LBm α sz) p l e R s m args below meth c 2 (MQ below (Qcx D Y LBm α sz (some (vi r)) (fun a => a = α) μ') args s 0 0 (Ar LBm α sz)) α 0 0 [(0, vi a0), (1, vi a1)] [] μ 0 := by
  unfold f_X9_stepOf at hf
  refine g_ild_n C 0 rfl rfl dX9_stepOf_0 ?_
  refine g_ild_n C 1 rfl rfl dX9_stepOf_1 ?_
  refine g_ic_ne C 10 (by decide) dX9_stepOf_2 (fun h1 => ?_) (fun h1 => ?_)
  · rw [if_pos h1] at hf
    refine g_bipush C rfl dX9_stepOf_5 ?_
    refine g_goto C 16 (by decide) dX9_stepOf_7 ?_
    exact g_iret C rfl dX9_stepOf_16 hf
  · rw [if_neg h1] at hf
    refine g_bipush C rfl dX9_stepOf_10 ?_
    refine g_ild_n C 0 rfl rfl dX9_stepOf_12 ?_
    refine g_imul C dX9_stepOf_13 ?_
    refine g_ild_n C 1 rfl rfl dX9_stepOf_14 ?_
    obtain ⟨g2, hf⟩ := gd_some hf
    refine g_idiv C g2 dX9_stepOf_15 ?_
    exact g_iret C rfl dX9_stepOf_16 hf
set_option maxHeartbeats 4000000 in
set_option maxRecDepth 100000 in
theorem c_X9_stepOf {l : Launch} {D : va_G} {Y : Nat → ClassId} {α : Adr} {a0 : Int} {a1 : Int} {μ : Mem} {r : Int} {μ' : Mem}  (hf : f_X9_stepOf a0 a1 μ = some (r, μ')) : Ctr l D Y LBm yX9_stepOf cX9_stepOf 2 (some .int) 0 0 0 0 [vi a0, vi a1] α μ (some (vi r)) (fun a => a = α) μ' := Ctr_of pn_X9 rfl rfl (Nat.le_of_ble_eq_true rfl) LBm_nd (fun p e s m below meth c sz C => b_X9_stepOf C (Nat.le_refl _) (Nat.le_refl _)  hf)
end

/-! EndTellerModel.telling -/
def f_X9_telling (a1 : Int) (a2 : Int) (a3 : Int) (μ : Mem) : Option (Int × Mem) := (if w32 a2 < w32 1 then bn (f_X9_no 5 (st (st μ 30 0 1 0) 30 0 0 0)) (fun r2 μ3 => gd (bb r2) (some (r2, μ3))) else (if w32 1000 < w32 a2 then bn (f_X9_no 5 (st (st μ 30 0 1 0) 30 0 0 0)) (fun r7 μ8 => gd (bb r7) (some (r7, μ8))) else (if w32 a1 < 0 then bn (f_X9_no 5 (st (st μ 30 0 1 0) 30 0 0 0)) (fun r12 μ13 => gd (bb r12) (some (r12, μ13))) else (if w32 a1 ≤ w32 a2 then (if w32 ((st (st μ 30 0 1 0) 30 0 0 0) 30 0 27) = w32 1000 then bn (f_X9_no 7 (st (st μ 30 0 1 0) 30 0 0 0)) (fun r18 μ19 => gd (bb r18) (some (r18, μ19))) else gd (inb ((st (st μ 30 0 1 0) 30 0 0 0) 30 0 27) 1000) (gd (inb ((st (st (st μ 30 0 1 0) 30 0 0 0) 50 0 (ix ((st (st μ 30 0 1 0) 30 0 0 0) 30 0 27)) a1) 30 0 27) 1000) (gd (inb ((st (st (st (st μ 30 0 1 0) 30 0 0 0) 50 0 (ix ((st (st μ 30 0 1 0) 30 0 0 0) 30 0 27)) a1) 51 0 (ix ((st (st (st μ 30 0 1 0) 30 0 0 0) 50 0 (ix ((st (st μ 30 0 1 0) 30 0 0 0) 30 0 27)) a1) 30 0 27)) a2) 30 0 27) 1000) (gd (bb a3) (some (1, (st (st (st (st (st (st μ 30 0 1 0) 30 0 0 0) 50 0 (ix ((st (st μ 30 0 1 0) 30 0 0 0) 30 0 27)) a1) 51 0 (ix ((st (st (st μ 30 0 1 0) 30 0 0 0) 50 0 (ix ((st (st μ 30 0 1 0) 30 0 0 0) 30 0 27)) a1) 30 0 27)) a2) 52 0 (ix ((st (st (st (st μ 30 0 1 0) 30 0 0 0) 50 0 (ix ((st (st μ 30 0 1 0) 30 0 0 0) 30 0 27)) a1) 51 0 (ix ((st (st (st μ 30 0 1 0) 30 0 0 0) 50 0 (ix ((st (st μ 30 0 1 0) 30 0 0 0) 30 0 27)) a1) 30 0 27)) a2) 30 0 27)) a3) 30 0 27 (((st (st (st (st (st μ 30 0 1 0) 30 0 0 0) 50 0 (ix ((st (st μ 30 0 1 0) 30 0 0 0) 30 0 27)) a1) 51 0 (ix ((st (st (st μ 30 0 1 0) 30 0 0 0) 50 0 (ix ((st (st μ 30 0 1 0) 30 0 0 0) 30 0 27)) a1) 30 0 27)) a2) 52 0 (ix ((st (st (st (st μ 30 0 1 0) 30 0 0 0) 50 0 (ix ((st (st μ 30 0 1 0) 30 0 0 0) 30 0 27)) a1) 51 0 (ix ((st (st (st μ 30 0 1 0) 30 0 0 0) 50 0 (ix ((st (st μ 30 0 1 0) 30 0 0 0) 30 0 27)) a1) 30 0 27)) a2) 30 0 27)) a3) 30 0 27) + 1)))))))) else bn (f_X9_no 5 (st (st μ 30 0 1 0) 30 0 0 0)) (fun r26 μ27 => gd (bb r26) (some (r26, μ27)))))))
section
variable {p : Program} {l : Launch} {e : Env} {R : Room} {s : State} {m : MethodId} {args : Array Value} {below : List Frame} {meth : Method} {c : Code} {D : va_G} {Y : Nat → ClassId} {α : Adr} {sz : Nat} {r : Int} {μ' : Mem}
set_option maxHeartbeats 4000000 in
set_option maxRecDepth 100000 in
theorem b_X9_telling {a1 : Int} {a2 : Int} {a3 : Int} {μ : Mem} (C : CX p s m args meth c cX9_telling 4 RX9 (some .boolean) D Y LBm (Ar LBm α sz)) (hfr : 1 ≤ R.frames) (hlc : 21 ≤ R.locals)  (hf : f_X9_telling a1 a2 a3 μ = some (r, μ')) : GG D Y LBm (Ar LBm α sz) p l e R s m args below meth c 4 (MQ below (Qcx D Y LBm α sz (some (vi r)) (fun a => a = α) μ') args s 0 0 (Ar LBm α sz)) α 0 0 [(0, vr α 30 0), (1, vi a1), (2, vi a2), (3, vi a3)] [] μ 0 := by
  unfold f_X9_telling at hf
  refine g_ald_n C 0 rfl rfl dX9_telling_0 ?_
  refine g_iconst C dX9_telling_1 ?_
  refine g_puti C dX9_telling_2 fl_X9_95 in_30 (ec_30 _ _ _ _ _) (Nat.le_of_ble_eq_true rfl) rfl (by decide) ?_
  refine g_ald_n C 0 rfl rfl dX9_telling_5 ?_
  refine g_iconst C dX9_telling_6 ?_
  refine g_puti C dX9_telling_7 fl_X9_98 in_30 (ec_30 _ _ _ _ _) (Nat.le_of_ble_eq_true rfl) rfl (by decide) ?_
  refine g_ild_n C 2 rfl rfl dX9_telling_10 ?_
  refine g_iconst C dX9_telling_11 ?_
  refine g_ic_lt C 31 (by decide) dX9_telling_12 (fun h1 => ?_) (fun h1 => ?_)
  · rw [if_pos h1] at hf
    refine g_ald_n C 0 rfl rfl dX9_telling_31 ?_
    refine g_iconst C dX9_telling_32 ?_
    obtain ⟨r2, μ3, hc4, hf⟩ := bn_some hf
    refine g_callVp (As := [vi 5]) (rest := []) C ⟨Nat.zero_le _, Nat.zero_le _⟩ dX9_telling_33 cw_X9_no m_4_129 m_4_131 m_0_8 in_30 (ec_30 _ _ _ _ _) rfl rfl (c_X9_no  hc4) rfl rfl (Nat.le_of_ble_eq_true rfl) ⟨Nat.le_trans (Nat.le_of_ble_eq_true rfl) hfr, Nat.le_trans (Nat.le_of_ble_eq_true rfl) hlc⟩ ?_
    obtain ⟨g5, hf⟩ := gd_some hf
    exact g_zret C rfl g5 dX9_telling_36 hf
  · rw [if_neg h1] at hf
    refine g_ild_n C 2 rfl rfl dX9_telling_15 ?_
    refine g_sipush C rfl dX9_telling_16 ?_
    refine g_ic_gt C 31 (by decide) dX9_telling_19 (fun h6 => ?_) (fun h6 => ?_)
    · rw [if_pos h6] at hf
      refine g_ald_n C 0 rfl rfl dX9_telling_31 ?_
      refine g_iconst C dX9_telling_32 ?_
      obtain ⟨r7, μ8, hc9, hf⟩ := bn_some hf
      refine g_callVp (As := [vi 5]) (rest := []) C ⟨Nat.zero_le _, Nat.zero_le _⟩ dX9_telling_33 cw_X9_no m_4_129 m_4_131 m_0_8 in_30 (ec_30 _ _ _ _ _) rfl rfl (c_X9_no  hc9) rfl rfl (Nat.le_of_ble_eq_true rfl) ⟨Nat.le_trans (Nat.le_of_ble_eq_true rfl) hfr, Nat.le_trans (Nat.le_of_ble_eq_true rfl) hlc⟩ ?_
      obtain ⟨g10, hf⟩ := gd_some hf
      exact g_zret C rfl g10 dX9_telling_36 hf
    · rw [if_neg h6] at hf
      refine g_ild_n C 1 rfl rfl dX9_telling_22 ?_
      refine g_if_lt C 31 (by decide) dX9_telling_23 (fun h11 => ?_) (fun h11 => ?_)
      · rw [if_pos h11] at hf
        refine g_ald_n C 0 rfl rfl dX9_telling_31 ?_
        refine g_iconst C dX9_telling_32 ?_
        obtain ⟨r12, μ13, hc14, hf⟩ := bn_some hf
        refine g_callVp (As := [vi 5]) (rest := []) C ⟨Nat.zero_le _, Nat.zero_le _⟩ dX9_telling_33 cw_X9_no m_4_129 m_4_131 m_0_8 in_30 (ec_30 _ _ _ _ _) rfl rfl (c_X9_no  hc14) rfl rfl (Nat.le_of_ble_eq_true rfl) ⟨Nat.le_trans (Nat.le_of_ble_eq_true rfl) hfr, Nat.le_trans (Nat.le_of_ble_eq_true rfl) hlc⟩ ?_
        obtain ⟨g15, hf⟩ := gd_some hf
        exact g_zret C rfl g15 dX9_telling_36 hf
      · rw [if_neg h11] at hf
        refine g_ild_n C 1 rfl rfl dX9_telling_26 ?_
        refine g_ild_n C 2 rfl rfl dX9_telling_27 ?_
        refine g_ic_le C 37 (by decide) dX9_telling_28 (fun h16 => ?_) (fun h16 => ?_)
        · rw [if_pos h16] at hf
          refine g_ald_n C 0 rfl rfl dX9_telling_37 ?_
          refine g_get C dX9_telling_38 fl_X9_232 in_30 (ec_30 _ _ _ _ _) rfl ?_
          refine g_sipush C rfl dX9_telling_41 ?_
          refine g_ic_ne C 54 (by decide) dX9_telling_44 (fun h17 => ?_) (fun h17 => ?_)
          · rw [if_pos h17] at hf
            refine g_ald_n C 0 rfl rfl dX9_telling_47 ?_
            refine g_bipush C rfl dX9_telling_48 ?_
            obtain ⟨r18, μ19, hc20, hf⟩ := bn_some hf
            refine g_callVp (As := [vi 7]) (rest := []) C ⟨Nat.zero_le _, Nat.zero_le _⟩ dX9_telling_50 cw_X9_no m_4_129 m_4_131 m_0_8 in_30 (ec_30 _ _ _ _ _) rfl rfl (c_X9_no  hc20) rfl rfl (Nat.le_of_ble_eq_true rfl) ⟨Nat.le_trans (Nat.le_of_ble_eq_true rfl) hfr, Nat.le_trans (Nat.le_of_ble_eq_true rfl) hlc⟩ ?_
            obtain ⟨g21, hf⟩ := gd_some hf
            exact g_zret C rfl g21 dX9_telling_53 hf
          · rw [if_neg h17] at hf
            refine g_ald_n C 0 rfl rfl dX9_telling_54 ?_
            refine g_get C dX9_telling_55 fl_X9_80 in_30 (ec_30 _ _ _ _ _) rfl ?_
            refine g_ald_n C 0 rfl rfl dX9_telling_58 ?_
            refine g_get C dX9_telling_59 fl_X9_232 in_30 (ec_30 _ _ _ _ _) rfl ?_
            refine g_ild_n C 1 rfl rfl dX9_telling_62 ?_
            obtain ⟨g22, hf⟩ := gd_some hf
            refine g_iast C dX9_telling_63 in_50 (fun _ => ec_50 _ _ _ _ _) (by decide) g22 ?_
            refine g_ald_n C 0 rfl rfl dX9_telling_64 ?_
            refine g_get C dX9_telling_65 fl_X9_83 in_30 (ec_30 _ _ _ _ _) rfl ?_
            refine g_ald_n C 0 rfl rfl dX9_telling_68 ?_
            refine g_get C dX9_telling_69 fl_X9_232 in_30 (ec_30 _ _ _ _ _) rfl ?_
            refine g_ild_n C 2 rfl rfl dX9_telling_72 ?_
            obtain ⟨g23, hf⟩ := gd_some hf
            refine g_iast C dX9_telling_73 in_51 (fun _ => ec_51 _ _ _ _ _) (by decide) g23 ?_
            refine g_ald_n C 0 rfl rfl dX9_telling_74 ?_
            refine g_get C dX9_telling_75 fl_X9_86 in_30 (ec_30 _ _ _ _ _) rfl ?_
            refine g_ald_n C 0 rfl rfl dX9_telling_78 ?_
            refine g_get C dX9_telling_79 fl_X9_232 in_30 (ec_30 _ _ _ _ _) rfl ?_
            refine g_ild_n C 3 rfl rfl dX9_telling_82 ?_
            obtain ⟨g24, hf⟩ := gd_some hf
            obtain ⟨g25, hf⟩ := gd_some hf
            refine g_zast C g25 dX9_telling_83 in_52 (fun _ => ec_52 _ _ _ _ _) (by decide) g24 ?_
            refine g_ald_n C 0 rfl rfl dX9_telling_84 ?_
            refine g_dup C rfl dX9_telling_85 ?_
            refine g_get C dX9_telling_86 fl_X9_232 in_30 (ec_30 _ _ _ _ _) rfl ?_
            refine g_iconst C dX9_telling_89 ?_
            refine g_iadd C dX9_telling_90 ?_
            refine g_puti C dX9_telling_91 fl_X9_232 in_30 (ec_30 _ _ _ _ _) (Nat.le_of_ble_eq_true rfl) rfl (by decide) ?_
            refine g_iconst C dX9_telling_94 ?_
            exact g_zret C rfl (Or.inr rfl) dX9_telling_95 hf
        · rw [if_neg h16] at hf
          refine g_ald_n C 0 rfl rfl dX9_telling_31 ?_
          refine g_iconst C dX9_telling_32 ?_
          obtain ⟨r26, μ27, hc28, hf⟩ := bn_some hf
          refine g_callVp (As := [vi 5]) (rest := []) C ⟨Nat.zero_le _, Nat.zero_le _⟩ dX9_telling_33 cw_X9_no m_4_129 m_4_131 m_0_8 in_30 (ec_30 _ _ _ _ _) rfl rfl (c_X9_no  hc28) rfl rfl (Nat.le_of_ble_eq_true rfl) ⟨Nat.le_trans (Nat.le_of_ble_eq_true rfl) hfr, Nat.le_trans (Nat.le_of_ble_eq_true rfl) hlc⟩ ?_
          obtain ⟨g29, hf⟩ := gd_some hf
          exact g_zret C rfl g29 dX9_telling_36 hf
set_option maxHeartbeats 4000000 in
set_option maxRecDepth 100000 in
theorem c_X9_telling {l : Launch} {D : va_G} {Y : Nat → ClassId} {α : Adr} {a1 : Int} {a2 : Int} {a3 : Int} {μ : Mem} {r : Int} {μ' : Mem}  (hf : f_X9_telling a1 a2 a3 μ = some (r, μ')) : Ctr l D Y LBm yX9_telling cX9_telling 4 (some .boolean) 1 21 0 0 [vr α 30 0, vi a1, vi a2, vi a3] α μ (some (vi r)) (fun a => a = α) μ' := Ctr_of pn_X9 rfl rfl (Nat.le_of_ble_eq_true rfl) LBm_nd (fun p e s m below meth c sz C => b_X9_telling C (Nat.le_refl _) (Nat.le_refl _)  hf)
end

/-! EndTellerModel.judged -/
def f_X9_judged_L46 (x1 : Int) (x2 : Int) : Nat → Int → Int → Mem → Option (Int × Mem)
  | 0, _, _, _ => none
  | n + 1, x3, x4, μ => (if w32 (μ 30 0 27) ≤ w32 x4 then some (x3, μ) else gd (inb x4 1000) (gd (inb x4 1000) (bn (f_X9_stepOf (μ 50 0 (ix x4)) (μ 51 0 (ix x4)) μ) (fun r14 μ15 => jn (fun y17 => f_X9_judged_L46 x1 x2 n (x3 + y17) (x4 + 1) μ15) (fun j96 => jn (j96 0) (fun j95 => (if w32 r14 = w32 x1 then jn (j96 1) (fun j91 => (if w32 x2 = 0 then j91  else gd (inb x4 1000) ((if w32 (μ15 52 0 (ix x4)) = 0 then j95  else j91 )))) else j95 )))))))
def f_X9_judged (a1 : Int) (a2 : Int) (μ : Mem) : Option (Int × Mem) := (if w32 a1 < 0 then bn (f_X9_refuse 2 (st (st μ 30 0 1 0) 30 0 0 0)) (fun r2 μ3 => some (r2, μ3)) else (if w32 a1 < w32 10 then (if w32 a2 < 0 then bn (f_X9_refuse 5 (st (st μ 30 0 1 0) 30 0 0 0)) (fun r7 μ8 => some (r7, μ8)) else (if w32 a2 ≤ w32 1 then f_X9_judged_L46 a1 a2 FU 0 0 (st (st μ 30 0 1 0) 30 0 0 0) else bn (f_X9_refuse 5 (st (st μ 30 0 1 0) 30 0 0 0)) (fun r25 μ26 => some (r25, μ26)))) else bn (f_X9_refuse 2 (st (st μ 30 0 1 0) 30 0 0 0)) (fun r28 μ29 => some (r28, μ29))))
section
variable {p : Program} {l : Launch} {e : Env} {R : Room} {s : State} {m : MethodId} {args : Array Value} {below : List Frame} {meth : Method} {c : Code} {D : va_G} {Y : Nat → ClassId} {α : Adr} {sz : Nat} {r : Int} {μ' : Mem}
set_option maxHeartbeats 4000000 in
set_option maxRecDepth 100000 in
theorem c_X9_judged_l46 {x1 : Int} {x2 : Int} (C : CX p s m args meth c cX9_judged 5 RX9 (some .int) D Y LBm (Ar LBm α sz)) (hfr : 1 ≤ R.frames) (hlc : 21 ≤ R.locals)    : ∀ (n : Nat) (x3 x4 : Int) (μ : Mem), f_X9_judged_L46 x1 x2 n x3 x4 μ = some (r, μ') → GG D Y LBm (Ar LBm α sz) p l e R s m args below meth c 5 (MQ below (Qcx D Y LBm α sz (some (vi r)) (fun a => a = α) μ') args s 0 0 (Ar LBm α sz)) α 0 0 [(0, vr α 30 0), (1, vi x1), (2, vi x2), (3, vi x3), (4, vi x4)] [] μ 46 := by
  intro n
  induction n with
  | zero =>
    intro x3 x4 μ hf
    exact nomatch (show (none : Option (Int × Mem)) = some _ from hf)
  | succ n ih =>
    intro x3 x4 μ hf
    rw [f_X9_judged_L46.eq_2] at hf
    refine g_ild C 4 rfl dX9_judged_46 ?_
    refine g_ald_n C 0 rfl rfl dX9_judged_48 ?_
    refine g_get C dX9_judged_49 fl_X9_232 in_30 (ec_30 _ _ _ _ _) rfl ?_
    refine g_ic_ge C 104 (by decide) dX9_judged_52 (fun h11 => ?_) (fun h11 => ?_)
    · rw [if_pos h11] at hf
      refine g_ild_n C 3 rfl rfl dX9_judged_104 ?_
      exact g_iret C rfl dX9_judged_105 hf
    · rw [if_neg h11] at hf
      refine g_ild_n C 3 rfl rfl dX9_judged_55 ?_
      refine g_ald_n C 0 rfl rfl dX9_judged_56 ?_
      refine g_get C dX9_judged_57 fl_X9_80 in_30 (ec_30 _ _ _ _ _) rfl ?_
      refine g_ild C 4 rfl dX9_judged_60 ?_
      obtain ⟨g12, hf⟩ := gd_some hf
      refine g_iald C dX9_judged_62 in_50 (fun _ => ec_50 _ _ _ _ _) g12 ?_
      refine g_ald_n C 0 rfl rfl dX9_judged_63 ?_
      refine g_get C dX9_judged_64 fl_X9_83 in_30 (ec_30 _ _ _ _ _) rfl ?_
      refine g_ild C 4 rfl dX9_judged_67 ?_
      obtain ⟨g13, hf⟩ := gd_some hf
      refine g_iald C dX9_judged_69 in_51 (fun _ => ec_51 _ _ _ _ _) g13 ?_
      obtain ⟨r14, μ15, hc16, hf⟩ := bn_some hf
      refine g_callSp (As := [vi (μ 50 0 (ix x4)), vi (μ 51 0 (ix x4))]) (rest := [vi x3]) C ⟨Nat.zero_le _, Nat.zero_le _⟩ dX9_judged_70 cw_X9_stepOf m_5_111 m_5_112 (c_X9_stepOf  hc16) rfl rfl (Nat.le_of_ble_eq_true rfl) ⟨Nat.le_trans (Nat.le_of_ble_eq_true rfl) hfr, Nat.le_trans (Nat.le_of_ble_eq_true rfl) hlc⟩ ?_
      refine g_ild_n C 1 rfl rfl dX9_judged_73 ?_
      obtain ⟨j96, ej18, hf⟩ := jn_some hf
      have hj96 : ∀ (y17 : Int), j96 y17 = some (r, μ') → GG D Y LBm (Ar LBm α sz) p l e R s m args below meth c 5 (MQ below (Qcx D Y LBm α sz (some (vi r)) (fun a => a = α) μ') args s 0 0 (Ar LBm α sz)) α 0 0 [(0, vr α 30 0), (1, vi x1), (2, vi x2), (4, vi x4)] [vi y17, vi x3] μ15 96 := by
        intro y17 hf
        rw [ej18] at hf
        try dsimp only at hf
        refine g_iadd C dX9_judged_96 ?_
        refine g_ist_n (lo' := [(3, vi (x3 + y17)), (0, vr α 30 0), (1, vi x1), (2, vi x2), (4, vi x4)]) C rfl (by decide) rfl dX9_judged_97 ?_
        refine g_iinc (lo' := [(4, vi (x4 + 1)), (3, vi (x3 + y17)), (0, vr α 30 0), (1, vi x1), (2, vi x2)]) C 4 rfl (by decide) rfl dX9_judged_98 ?_
        refine g_goto C 46 (by decide) dX9_judged_101 ?_
        exact g_sub C [2, 3, 4, 1, 0] rfl (ih _ _ _ hf)
      clear ej18
      obtain ⟨j95, ej19, hf⟩ := jn_some hf
      have hj95 : j95  = some (r, μ') → GG D Y LBm (Ar LBm α sz) p l e R s m args below meth c 5 (MQ below (Qcx D Y LBm α sz (some (vi r)) (fun a => a = α) μ') args s 0 0 (Ar LBm α sz)) α 0 0 [(0, vr α 30 0), (1, vi x1), (2, vi x2), (4, vi x4)] [vi x3] μ15 95 := by
        intro  hf
        rw [ej19] at hf
        try dsimp only at hf
        refine g_iconst C dX9_judged_95 ?_
        exact g_sub C [0, 1, 2, 3] rfl (hj96 _ hf)
      clear ej19
      refine g_ic_ne C 95 (by decide) dX9_judged_74 (fun h20 => ?_) (fun h20 => ?_)
      · rw [if_pos h20] at hf
        refine g_ild_n C 2 rfl rfl dX9_judged_77 ?_
        obtain ⟨j91, ej21, hf⟩ := jn_some hf
        have hj91 : j91  = some (r, μ') → GG D Y LBm (Ar LBm α sz) p l e R s m args below meth c 5 (MQ below (Qcx D Y LBm α sz (some (vi r)) (fun a => a = α) μ') args s 0 0 (Ar LBm α sz)) α 0 0 [(0, vr α 30 0), (1, vi x1), (2, vi x2), (4, vi x4)] [vi x3] μ15 91 := by
          intro  hf
          rw [ej21] at hf
          try dsimp only at hf
          refine g_iconst C dX9_judged_91 ?_
          refine g_goto C 96 (by decide) dX9_judged_92 ?_
          exact g_sub C [0, 1, 2, 3] rfl (hj96 _ hf)
        clear ej21
        refine g_if_eq C 91 (by decide) dX9_judged_78 (fun h22 => ?_) (fun h22 => ?_)
        · rw [if_pos h22] at hf
          exact g_sub C [0, 1, 2, 4] rfl (hj91  hf)
        · rw [if_neg h22] at hf
          refine g_ald_n C 0 rfl rfl dX9_judged_81 ?_
          refine g_get C dX9_judged_82 fl_X9_86 in_30 (ec_30 _ _ _ _ _) rfl ?_
          refine g_ild C 4 rfl dX9_judged_85 ?_
          obtain ⟨g23, hf⟩ := gd_some hf
          refine g_zald C dX9_judged_87 in_52 (fun _ => ec_52 _ _ _ _ _) g23 ?_
          refine g_if_eq C 95 (by decide) dX9_judged_88 (fun h24 => ?_) (fun h24 => ?_)
          · rw [if_pos h24] at hf
            exact g_sub C [0, 1, 2, 4] rfl (hj95  hf)
          · rw [if_neg h24] at hf
            exact g_sub C [0, 1, 2, 4] rfl (hj91  hf)
      · rw [if_neg h20] at hf
        exact g_sub C [0, 1, 2, 4] rfl (hj95  hf)
set_option maxHeartbeats 4000000 in
set_option maxRecDepth 100000 in
theorem b_X9_judged {a1 : Int} {a2 : Int} {μ : Mem} (C : CX p s m args meth c cX9_judged 5 RX9 (some .int) D Y LBm (Ar LBm α sz)) (hfr : 1 ≤ R.frames) (hlc : 21 ≤ R.locals)  (hf : f_X9_judged a1 a2 μ = some (r, μ')) : GG D Y LBm (Ar LBm α sz) p l e R s m args below meth c 5 (MQ below (Qcx D Y LBm α sz (some (vi r)) (fun a => a = α) μ') args s 0 0 (Ar LBm α sz)) α 0 0 [(0, vr α 30 0), (1, vi a1), (2, vi a2)] [] μ 0 := by
  unfold f_X9_judged at hf
  refine g_ald_n C 0 rfl rfl dX9_judged_0 ?_
  refine g_iconst C dX9_judged_1 ?_
  refine g_puti C dX9_judged_2 fl_X9_95 in_30 (ec_30 _ _ _ _ _) (Nat.le_of_ble_eq_true rfl) rfl (by decide) ?_
  refine g_ald_n C 0 rfl rfl dX9_judged_5 ?_
  refine g_iconst C dX9_judged_6 ?_
  refine g_puti C dX9_judged_7 fl_X9_98 in_30 (ec_30 _ _ _ _ _) (Nat.le_of_ble_eq_true rfl) rfl (by decide) ?_
  refine g_ild_n C 1 rfl rfl dX9_judged_10 ?_
  refine g_if_lt C 20 (by decide) dX9_judged_11 (fun h1 => ?_) (fun h1 => ?_)
  · rw [if_pos h1] at hf
    refine g_ald_n C 0 rfl rfl dX9_judged_20 ?_
    refine g_iconst C dX9_judged_21 ?_
    obtain ⟨r2, μ3, hc4, hf⟩ := bn_some hf
    refine g_callVp (As := [vi 2]) (rest := []) C ⟨Nat.zero_le _, Nat.zero_le _⟩ dX9_judged_22 cw_X9_refuse m_4_164 m_4_166 m_0_11 in_30 (ec_30 _ _ _ _ _) rfl rfl (c_X9_refuse  hc4) rfl rfl (Nat.le_of_ble_eq_true rfl) ⟨Nat.le_trans (Nat.le_of_ble_eq_true rfl) hfr, Nat.le_trans (Nat.le_of_ble_eq_true rfl) hlc⟩ ?_
    exact g_iret C rfl dX9_judged_25 hf
  · rw [if_neg h1] at hf
    refine g_ild_n C 1 rfl rfl dX9_judged_14 ?_
    refine g_bipush C rfl dX9_judged_15 ?_
    refine g_ic_lt C 26 (by decide) dX9_judged_17 (fun h5 => ?_) (fun h5 => ?_)
    · rw [if_pos h5] at hf
      refine g_ild_n C 2 rfl rfl dX9_judged_26 ?_
      refine g_if_lt C 35 (by decide) dX9_judged_27 (fun h6 => ?_) (fun h6 => ?_)
      · rw [if_pos h6] at hf
        refine g_ald_n C 0 rfl rfl dX9_judged_35 ?_
        refine g_iconst C dX9_judged_36 ?_
        obtain ⟨r7, μ8, hc9, hf⟩ := bn_some hf
        refine g_callVp (As := [vi 5]) (rest := []) C ⟨Nat.zero_le _, Nat.zero_le _⟩ dX9_judged_37 cw_X9_refuse m_4_164 m_4_166 m_0_11 in_30 (ec_30 _ _ _ _ _) rfl rfl (c_X9_refuse  hc9) rfl rfl (Nat.le_of_ble_eq_true rfl) ⟨Nat.le_trans (Nat.le_of_ble_eq_true rfl) hfr, Nat.le_trans (Nat.le_of_ble_eq_true rfl) hlc⟩ ?_
        exact g_iret C rfl dX9_judged_40 hf
      · rw [if_neg h6] at hf
        refine g_ild_n C 2 rfl rfl dX9_judged_30 ?_
        refine g_iconst C dX9_judged_31 ?_
        refine g_ic_le C 41 (by decide) dX9_judged_32 (fun h10 => ?_) (fun h10 => ?_)
        · rw [if_pos h10] at hf
          refine g_iconst C dX9_judged_41 ?_
          refine g_ist_n (lo' := [(3, vi 0), (0, vr α 30 0), (1, vi a1), (2, vi a2)]) C rfl (by decide) rfl dX9_judged_42 ?_
          refine g_iconst C dX9_judged_43 ?_
          refine g_ist (lo' := [(4, vi 0), (3, vi 0), (0, vr α 30 0), (1, vi a1), (2, vi a2)]) C (by decide) rfl dX9_judged_44 ?_
          refine g_sub C [2, 3, 4, 1, 0] rfl (c_X9_judged_l46 C hfr hlc   _ _ _ _ hf)
        · rw [if_neg h10] at hf
          refine g_ald_n C 0 rfl rfl dX9_judged_35 ?_
          refine g_iconst C dX9_judged_36 ?_
          obtain ⟨r25, μ26, hc27, hf⟩ := bn_some hf
          refine g_callVp (As := [vi 5]) (rest := []) C ⟨Nat.zero_le _, Nat.zero_le _⟩ dX9_judged_37 cw_X9_refuse m_4_164 m_4_166 m_0_11 in_30 (ec_30 _ _ _ _ _) rfl rfl (c_X9_refuse  hc27) rfl rfl (Nat.le_of_ble_eq_true rfl) ⟨Nat.le_trans (Nat.le_of_ble_eq_true rfl) hfr, Nat.le_trans (Nat.le_of_ble_eq_true rfl) hlc⟩ ?_
          exact g_iret C rfl dX9_judged_40 hf
    · rw [if_neg h5] at hf
      refine g_ald_n C 0 rfl rfl dX9_judged_20 ?_
      refine g_iconst C dX9_judged_21 ?_
      obtain ⟨r28, μ29, hc30, hf⟩ := bn_some hf
      refine g_callVp (As := [vi 2]) (rest := []) C ⟨Nat.zero_le _, Nat.zero_le _⟩ dX9_judged_22 cw_X9_refuse m_4_164 m_4_166 m_0_11 in_30 (ec_30 _ _ _ _ _) rfl rfl (c_X9_refuse  hc30) rfl rfl (Nat.le_of_ble_eq_true rfl) ⟨Nat.le_trans (Nat.le_of_ble_eq_true rfl) hfr, Nat.le_trans (Nat.le_of_ble_eq_true rfl) hlc⟩ ?_
      exact g_iret C rfl dX9_judged_25 hf
set_option maxHeartbeats 4000000 in
set_option maxRecDepth 100000 in
theorem c_X9_judged {l : Launch} {D : va_G} {Y : Nat → ClassId} {α : Adr} {a1 : Int} {a2 : Int} {μ : Mem} {r : Int} {μ' : Mem}  (hf : f_X9_judged a1 a2 μ = some (r, μ')) : Ctr l D Y LBm yX9_judged cX9_judged 5 (some .int) 1 21 0 0 [vr α 30 0, vi a1, vi a2] α μ (some (vi r)) (fun a => a = α) μ' := Ctr_of pn_X9 rfl rfl (Nat.le_of_ble_eq_true rfl) LBm_nd (fun p e s m below meth c sz C => b_X9_judged C (Nat.le_refl _) (Nat.le_refl _)  hf)
end

/-! EndTellerModel.said -/
def f_X9_said_L37 (x1 : Int) (k162 : Int → Int → Int → Mem → Option (Int × Mem)) : Nat → Int → Int → Int → Int → Mem → Option (Int × Mem)
  | 0, _, _, _, _, _ => none
  | n + 1, x2, x4, x6, x7, μ => (if w32 (μ 30 0 27) ≤ w32 x7 then k162 x2 x4 x6 μ else gd (inb x7 1000) (gd (inb x7 1000) (bn (f_X9_stepOf (μ 50 0 (ix x7)) (μ 51 0 (ix x7)) μ) (fun r10 μ11 => jn (fun y14 y15 y16 μ13 => f_X9_said_L37 x1 k162 n y14 y15 y16 (x7 + 1) μ13) (fun j156 => (if w32 r10 = w32 x1 then gd (inb x7 1000) (gd (inb x7 1000) (gd (inb x7 1000) (bn (f_X9_common ((x2 * (w32 (μ11 51 0 (ix x7)))) + ((w32 (μ11 50 0 (ix x7))) * x4)) (x4 * (w32 (μ11 51 0 (ix x7)))) μ11) (fun r22 μ23 => gd (¬ w64 r22 = 0) (gd (¬ w64 r22 = 0) ((if w64 1099511627776 < w64 (Int.tdiv (w64 ((x2 * (w32 (μ11 51 0 (ix x7)))) + ((w32 (μ11 50 0 (ix x7))) * x4))) (w64 r22)) then bn (f_X9_no 9 μ23) (fun r28 μ29 => gd (bb r28) (some (r28, μ29))) else (if w64 (Int.tdiv (w64 (x4 * (w32 (μ11 51 0 (ix x7))))) (w64 r22)) ≤ w64 1099511627776 then j156 (Int.tdiv (w64 ((x2 * (w32 (μ11 51 0 (ix x7)))) + ((w32 (μ11 50 0 (ix x7))) * x4))) (w64 r22)) (Int.tdiv (w64 (x4 * (w32 (μ11 51 0 (ix x7))))) (w64 r22)) (x6 + 1) μ23 else bn (f_X9_no 9 μ23) (fun r33 μ34 => gd (bb r33) (some (r33, μ34))))))))))) else j156 x2 x4 x6 μ11))))))
def f_X9_said (a1 : Int) (μ : Mem) : Option (Int × Mem) := (if w32 a1 < 0 then bn (f_X9_no 2 (st (st μ 30 0 1 0) 30 0 0 0)) (fun r2 μ3 => gd (bb r2) (some (r2, μ3))) else (if w32 a1 < w32 10 then f_X9_said_L37 a1 (fun y38 y39 y40 μ37 => (if w32 y40 = 0 then bn (f_X9_no 5 μ37) (fun r42 μ43 => gd (bb r42) (some (r42, μ43))) else bn (f_X9_tells y38 (y39 * (w32 y40)) μ37) (fun r46 μ47 => some (1, μ47)))) FU 0 1 0 0 (st (st μ 30 0 1 0) 30 0 0 0) else bn (f_X9_no 2 (st (st μ 30 0 1 0) 30 0 0 0)) (fun r49 μ50 => gd (bb r49) (some (r49, μ50)))))
section
variable {p : Program} {l : Launch} {e : Env} {R : Room} {s : State} {m : MethodId} {args : Array Value} {below : List Frame} {meth : Method} {c : Code} {D : va_G} {Y : Nat → ClassId} {α : Adr} {sz : Nat} {r : Int} {μ' : Mem}
set_option maxHeartbeats 4000000 in
set_option maxRecDepth 100000 in
theorem c_X9_said_l37 {x1 : Int} {k162 : Int → Int → Int → Mem → Option (Int × Mem)} (C : CX p s m args meth c cX9_said 14 RX9 (some .boolean) D Y LBm (Ar LBm α sz)) (hfr : 2 ≤ R.frames) (hlc : 55 ≤ R.locals)  (hk162 : ∀ (y2 y4 y6 : Int) (μ : Mem), k162 y2 y4 y6 μ = some (r, μ') → GG D Y LBm (Ar LBm α sz) p l e R s m args below meth c 14 (MQ below (Qcx D Y LBm α sz (some (vi r)) (fun a => a = α) μ') args s 0 0 (Ar LBm α sz)) α 0 0 [(0, vr α 30 0), (2, vl y2), (4, vl y4), (6, vi y6)] [] μ 162)  : ∀ (n : Nat) (x2 x4 x6 x7 : Int) (μ : Mem), f_X9_said_L37 x1 k162 n x2 x4 x6 x7 μ = some (r, μ') → GG D Y LBm (Ar LBm α sz) p l e R s m args below meth c 14 (MQ below (Qcx D Y LBm α sz (some (vi r)) (fun a => a = α) μ') args s 0 0 (Ar LBm α sz)) α 0 0 [(0, vr α 30 0), (1, vi x1), (2, vl x2), (4, vl x4), (6, vi x6), (7, vi x7)] [] μ 37 := by
  intro n
  induction n with
  | zero =>
    intro x2 x4 x6 x7 μ hf
    exact nomatch (show (none : Option (Int × Mem)) = some _ from hf)
  | succ n ih =>
    intro x2 x4 x6 x7 μ hf
    rw [f_X9_said_L37.eq_2] at hf
    refine g_ild C 5 rfl dX9_said_37 ?_
    refine g_ald_n C 0 rfl rfl dX9_said_39 ?_
    refine g_get C dX9_said_40 fl_X9_232 in_30 (ec_30 _ _ _ _ _) rfl ?_
    refine g_ic_ge C 162 (by decide) dX9_said_43 (fun h7 => ?_) (fun h7 => ?_)
    · rw [if_pos h7] at hf
      exact g_sub C [0, 2, 3, 4] rfl (hk162 _ _ _ _ hf)
    · rw [if_neg h7] at hf
      refine g_ald_n C 0 rfl rfl dX9_said_46 ?_
      refine g_get C dX9_said_47 fl_X9_80 in_30 (ec_30 _ _ _ _ _) rfl ?_
      refine g_ild C 5 rfl dX9_said_50 ?_
      obtain ⟨g8, hf⟩ := gd_some hf
      refine g_iald C dX9_said_52 in_50 (fun _ => ec_50 _ _ _ _ _) g8 ?_
      refine g_ald_n C 0 rfl rfl dX9_said_53 ?_
      refine g_get C dX9_said_54 fl_X9_83 in_30 (ec_30 _ _ _ _ _) rfl ?_
      refine g_ild C 5 rfl dX9_said_57 ?_
      obtain ⟨g9, hf⟩ := gd_some hf
      refine g_iald C dX9_said_59 in_51 (fun _ => ec_51 _ _ _ _ _) g9 ?_
      obtain ⟨r10, μ11, hc12, hf⟩ := bn_some hf
      refine g_callSp (As := [vi (μ 50 0 (ix x7)), vi (μ 51 0 (ix x7))]) (rest := []) C ⟨Nat.zero_le _, Nat.zero_le _⟩ dX9_said_60 cw_X9_stepOf m_5_111 m_5_112 (c_X9_stepOf  hc12) rfl rfl (Nat.le_of_ble_eq_true rfl) ⟨Nat.le_trans (Nat.le_of_ble_eq_true rfl) hfr, Nat.le_trans (Nat.le_of_ble_eq_true rfl) hlc⟩ ?_
      refine g_ild_n C 1 rfl rfl dX9_said_63 ?_
      obtain ⟨j156, ej17, hf⟩ := jn_some hf
      have hj156 : ∀ (y14 y15 y16 : Int) (μ13 : Mem), j156 y14 y15 y16 μ13 = some (r, μ') → GG D Y LBm (Ar LBm α sz) p l e R s m args below meth c 14 (MQ below (Qcx D Y LBm α sz (some (vi r)) (fun a => a = α) μ') args s 0 0 (Ar LBm α sz)) α 0 0 [(0, vr α 30 0), (1, vi x1), (2, vl y14), (4, vl y15), (6, vi y16), (7, vi x7)] [] μ13 156 := by
        intro y14 y15 y16 μ13 hf
        rw [ej17] at hf
        try dsimp only at hf
        refine g_iinc (lo' := [(7, vi (x7 + 1)), (0, vr α 30 0), (1, vi x1), (2, vl y14), (4, vl y15), (6, vi y16)]) C 5 rfl (by decide) rfl dX9_said_156 ?_
        refine g_goto C 37 (by decide) dX9_said_159 ?_
        exact g_sub C [1, 2, 3, 4, 5, 0] rfl (ih _ _ _ _ _ hf)
      clear ej17
      refine g_ic_eq C 70 (by decide) dX9_said_64 (fun h18 => ?_) (fun h18 => ?_)
      · rw [if_pos h18] at hf
        refine g_lld_n C 2 rfl rfl dX9_said_70 ?_
        refine g_ald_n C 0 rfl rfl dX9_said_71 ?_
        refine g_get C dX9_said_72 fl_X9_83 in_30 (ec_30 _ _ _ _ _) rfl ?_
        refine g_ild C 5 rfl dX9_said_75 ?_
        obtain ⟨g19, hf⟩ := gd_some hf
        refine g_iald C dX9_said_77 in_51 (fun _ => ec_51 _ _ _ _ _) g19 ?_
        refine g_i2l C dX9_said_78 ?_
        refine g_lmul C dX9_said_79 ?_
        refine g_ald_n C 0 rfl rfl dX9_said_80 ?_
        refine g_get C dX9_said_81 fl_X9_80 in_30 (ec_30 _ _ _ _ _) rfl ?_
        refine g_ild C 5 rfl dX9_said_84 ?_
        obtain ⟨g20, hf⟩ := gd_some hf
        refine g_iald C dX9_said_86 in_50 (fun _ => ec_50 _ _ _ _ _) g20 ?_
        refine g_i2l C dX9_said_87 ?_
        refine g_lld C 3 rfl dX9_said_88 ?_
        refine g_lmul C dX9_said_90 ?_
        refine g_ladd C dX9_said_91 ?_
        refine g_lst (lo' := [(8, vl ((x2 * (w32 (μ11 51 0 (ix x7)))) + ((w32 (μ11 50 0 (ix x7))) * x4))), (0, vr α 30 0), (1, vi x1), (2, vl x2), (4, vl x4), (6, vi x6), (7, vi x7)]) C (by decide) rfl dX9_said_92 ?_
        refine g_lld C 4 rfl dX9_said_94 ?_
        refine g_ald_n C 1 rfl rfl dX9_said_96 ?_
        refine g_get C dX9_said_97 fl_X9_83 in_30 (ec_30 _ _ _ _ _) rfl ?_
        refine g_ild C 6 rfl dX9_said_100 ?_
        obtain ⟨g21, hf⟩ := gd_some hf
        refine g_iald C dX9_said_102 in_51 (fun _ => ec_51 _ _ _ _ _) g21 ?_
        refine g_i2l C dX9_said_103 ?_
        refine g_lmul C dX9_said_104 ?_
        refine g_lst (lo' := [(10, vl (x4 * (w32 (μ11 51 0 (ix x7))))), (8, vl ((x2 * (w32 (μ11 51 0 (ix x7)))) + ((w32 (μ11 50 0 (ix x7))) * x4))), (0, vr α 30 0), (1, vi x1), (2, vl x2), (4, vl x4), (6, vi x6), (7, vi x7)]) C (by decide) rfl dX9_said_105 ?_
        refine g_lld C 1 rfl dX9_said_107 ?_
        refine g_lld C 0 rfl dX9_said_109 ?_
        obtain ⟨r22, μ23, hc24, hf⟩ := bn_some hf
        refine g_callSp (As := [vl ((x2 * (w32 (μ11 51 0 (ix x7)))) + ((w32 (μ11 50 0 (ix x7))) * x4)), vl (x4 * (w32 (μ11 51 0 (ix x7))))]) (rest := []) C ⟨Nat.zero_le _, Nat.zero_le _⟩ dX9_said_111 cw_X9_common m_4_178 m_4_179 (c_X9_common  hc24) rfl rfl (Nat.le_of_ble_eq_true rfl) ⟨Nat.le_trans (Nat.le_of_ble_eq_true rfl) hfr, Nat.le_trans (Nat.le_of_ble_eq_true rfl) hlc⟩ ?_
        refine g_lst (lo' := [(12, vl r22), (10, vl (x4 * (w32 (μ11 51 0 (ix x7))))), (8, vl ((x2 * (w32 (μ11 51 0 (ix x7)))) + ((w32 (μ11 50 0 (ix x7))) * x4))), (0, vr α 30 0), (1, vi x1), (2, vl x2), (4, vl x4), (6, vi x6), (7, vi x7)]) C (by decide) rfl dX9_said_114 ?_
        refine g_lld C 2 rfl dX9_said_116 ?_
        refine g_lld C 0 rfl dX9_said_118 ?_
        obtain ⟨g25, hf⟩ := gd_some hf
        refine g_ldiv C g25 dX9_said_120 ?_
        refine g_lst_n (lo' := [(2, vl (Int.tdiv (w64 ((x2 * (w32 (μ11 51 0 (ix x7)))) + ((w32 (μ11 50 0 (ix x7))) * x4))) (w64 r22))), (12, vl r22), (10, vl (x4 * (w32 (μ11 51 0 (ix x7))))), (8, vl ((x2 * (w32 (μ11 51 0 (ix x7)))) + ((w32 (μ11 50 0 (ix x7))) * x4))), (0, vr α 30 0), (1, vi x1), (4, vl x4), (6, vi x6), (7, vi x7)]) C rfl (by decide) rfl dX9_said_121 ?_
        refine g_lld C 2 rfl dX9_said_122 ?_
        refine g_lld C 1 rfl dX9_said_124 ?_
        obtain ⟨g26, hf⟩ := gd_some hf
        refine g_ldiv C g26 dX9_said_126 ?_
        refine g_lst (lo' := [(4, vl (Int.tdiv (w64 (x4 * (w32 (μ11 51 0 (ix x7))))) (w64 r22))), (2, vl (Int.tdiv (w64 ((x2 * (w32 (μ11 51 0 (ix x7)))) + ((w32 (μ11 50 0 (ix x7))) * x4))) (w64 r22))), (12, vl r22), (10, vl (x4 * (w32 (μ11 51 0 (ix x7))))), (8, vl ((x2 * (w32 (μ11 51 0 (ix x7)))) + ((w32 (μ11 50 0 (ix x7))) * x4))), (0, vr α 30 0), (1, vi x1), (6, vi x6), (7, vi x7)]) C (by decide) rfl dX9_said_127 ?_
        refine g_iinc (lo' := [(6, vi (x6 + 1)), (4, vl (Int.tdiv (w64 (x4 * (w32 (μ11 51 0 (ix x7))))) (w64 r22))), (2, vl (Int.tdiv (w64 ((x2 * (w32 (μ11 51 0 (ix x7)))) + ((w32 (μ11 50 0 (ix x7))) * x4))) (w64 r22))), (12, vl r22), (10, vl (x4 * (w32 (μ11 51 0 (ix x7))))), (8, vl ((x2 * (w32 (μ11 51 0 (ix x7)))) + ((w32 (μ11 50 0 (ix x7))) * x4))), (0, vr α 30 0), (1, vi x1), (7, vi x7)]) C 7 rfl (by decide) rfl dX9_said_129 ?_
        refine g_lld_n C 2 rfl rfl dX9_said_132 ?_
        refine g_ldc2 (x := 1099511627776) C m_5_118 dX9_said_133 ?_
        refine g_lc_gt C 149 (by decide) dX9_said_136 dX9_said_137 (fun h27 => ?_) (fun h27 => ?_)
        · rw [if_pos h27] at hf
          refine g_ald_n C 6 rfl rfl dX9_said_149 ?_
          refine g_bipush C rfl dX9_said_150 ?_
          obtain ⟨r28, μ29, hc30, hf⟩ := bn_some hf
          refine g_callVp (As := [vi 9]) (rest := []) C ⟨Nat.zero_le _, Nat.zero_le _⟩ dX9_said_152 cw_X9_no m_4_129 m_4_131 m_0_8 in_30 (ec_30 _ _ _ _ _) rfl rfl (c_X9_no  hc30) rfl rfl (Nat.le_of_ble_eq_true rfl) ⟨Nat.le_trans (Nat.le_of_ble_eq_true rfl) hfr, Nat.le_trans (Nat.le_of_ble_eq_true rfl) hlc⟩ ?_
          obtain ⟨g31, hf⟩ := gd_some hf
          exact g_zret C rfl g31 dX9_said_155 hf
        · rw [if_neg h27] at hf
          refine g_lld C 1 rfl dX9_said_140 ?_
          refine g_ldc2 (x := 1099511627776) C m_5_118 dX9_said_142 ?_
          refine g_lc_le C 156 (by decide) dX9_said_145 dX9_said_146 (fun h32 => ?_) (fun h32 => ?_)
          · rw [if_pos h32] at hf
            exact g_sub C [6, 7, 2, 1, 0, 8] rfl (hj156 _ _ _ _ hf)
          · rw [if_neg h32] at hf
            refine g_ald_n C 6 rfl rfl dX9_said_149 ?_
            refine g_bipush C rfl dX9_said_150 ?_
            obtain ⟨r33, μ34, hc35, hf⟩ := bn_some hf
            refine g_callVp (As := [vi 9]) (rest := []) C ⟨Nat.zero_le _, Nat.zero_le _⟩ dX9_said_152 cw_X9_no m_4_129 m_4_131 m_0_8 in_30 (ec_30 _ _ _ _ _) rfl rfl (c_X9_no  hc35) rfl rfl (Nat.le_of_ble_eq_true rfl) ⟨Nat.le_trans (Nat.le_of_ble_eq_true rfl) hfr, Nat.le_trans (Nat.le_of_ble_eq_true rfl) hlc⟩ ?_
            obtain ⟨g36, hf⟩ := gd_some hf
            exact g_zret C rfl g36 dX9_said_155 hf
      · rw [if_neg h18] at hf
        refine g_goto C 156 (by decide) dX9_said_67 ?_
        exact g_sub C [0, 1, 2, 3, 4, 5] rfl (hj156 _ _ _ _ hf)
set_option maxHeartbeats 4000000 in
set_option maxRecDepth 100000 in
theorem b_X9_said {a1 : Int} {μ : Mem} (C : CX p s m args meth c cX9_said 14 RX9 (some .boolean) D Y LBm (Ar LBm α sz)) (hfr : 2 ≤ R.frames) (hlc : 55 ≤ R.locals)  (hf : f_X9_said a1 μ = some (r, μ')) : GG D Y LBm (Ar LBm α sz) p l e R s m args below meth c 14 (MQ below (Qcx D Y LBm α sz (some (vi r)) (fun a => a = α) μ') args s 0 0 (Ar LBm α sz)) α 0 0 [(0, vr α 30 0), (1, vi a1)] [] μ 0 := by
  unfold f_X9_said at hf
  refine g_ald_n C 0 rfl rfl dX9_said_0 ?_
  refine g_iconst C dX9_said_1 ?_
  refine g_puti C dX9_said_2 fl_X9_95 in_30 (ec_30 _ _ _ _ _) (Nat.le_of_ble_eq_true rfl) rfl (by decide) ?_
  refine g_ald_n C 0 rfl rfl dX9_said_5 ?_
  refine g_iconst C dX9_said_6 ?_
  refine g_puti C dX9_said_7 fl_X9_98 in_30 (ec_30 _ _ _ _ _) (Nat.le_of_ble_eq_true rfl) rfl (by decide) ?_
  refine g_ild_n C 1 rfl rfl dX9_said_10 ?_
  refine g_if_lt C 20 (by decide) dX9_said_11 (fun h1 => ?_) (fun h1 => ?_)
  · rw [if_pos h1] at hf
    refine g_ald_n C 0 rfl rfl dX9_said_20 ?_
    refine g_iconst C dX9_said_21 ?_
    obtain ⟨r2, μ3, hc4, hf⟩ := bn_some hf
    refine g_callVp (As := [vi 2]) (rest := []) C ⟨Nat.zero_le _, Nat.zero_le _⟩ dX9_said_22 cw_X9_no m_4_129 m_4_131 m_0_8 in_30 (ec_30 _ _ _ _ _) rfl rfl (c_X9_no  hc4) rfl rfl (Nat.le_of_ble_eq_true rfl) ⟨Nat.le_trans (Nat.le_of_ble_eq_true rfl) hfr, Nat.le_trans (Nat.le_of_ble_eq_true rfl) hlc⟩ ?_
    obtain ⟨g5, hf⟩ := gd_some hf
    exact g_zret C rfl g5 dX9_said_25 hf
  · rw [if_neg h1] at hf
    refine g_ild_n C 1 rfl rfl dX9_said_14 ?_
    refine g_bipush C rfl dX9_said_15 ?_
    refine g_ic_lt C 26 (by decide) dX9_said_17 (fun h6 => ?_) (fun h6 => ?_)
    · rw [if_pos h6] at hf
      refine g_lconst (x := 0) C rfl dX9_said_26 ?_
      refine g_lst_n (lo' := [(2, vl 0), (0, vr α 30 0), (1, vi a1)]) C rfl (by decide) rfl dX9_said_27 ?_
      refine g_lconst (x := 1) C rfl dX9_said_28 ?_
      refine g_lst (lo' := [(4, vl 1), (2, vl 0), (0, vr α 30 0), (1, vi a1)]) C (by decide) rfl dX9_said_29 ?_
      refine g_iconst C dX9_said_31 ?_
      refine g_ist (lo' := [(6, vi 0), (4, vl 1), (2, vl 0), (0, vr α 30 0), (1, vi a1)]) C (by decide) rfl dX9_said_32 ?_
      refine g_iconst C dX9_said_34 ?_
      refine g_ist (lo' := [(7, vi 0), (6, vi 0), (4, vl 1), (2, vl 0), (0, vr α 30 0), (1, vi a1)]) C (by decide) rfl dX9_said_35 ?_
      refine g_sub C [4, 5, 3, 2, 1, 0] rfl (c_X9_said_l37 C hfr hlc  (fun y38 y39 y40 μ37 hf => ?_) _ _ _ _ _ _ hf)
      refine g_ild C 3 rfl dX9_said_162 ?_
      refine g_if_ne C 173 (by decide) dX9_said_164 (fun h41 => ?_) (fun h41 => ?_)
      · rw [if_pos h41] at hf
        refine g_ald_n C 0 rfl rfl dX9_said_167 ?_
        refine g_iconst C dX9_said_168 ?_
        obtain ⟨r42, μ43, hc44, hf⟩ := bn_some hf
        refine g_callVp (As := [vi 5]) (rest := []) C ⟨Nat.zero_le _, Nat.zero_le _⟩ dX9_said_169 cw_X9_no m_4_129 m_4_131 m_0_8 in_30 (ec_30 _ _ _ _ _) rfl rfl (c_X9_no  hc44) rfl rfl (Nat.le_of_ble_eq_true rfl) ⟨Nat.le_trans (Nat.le_of_ble_eq_true rfl) hfr, Nat.le_trans (Nat.le_of_ble_eq_true rfl) hlc⟩ ?_
        obtain ⟨g45, hf⟩ := gd_some hf
        exact g_zret C rfl g45 dX9_said_172 hf
      · rw [if_neg h41] at hf
        refine g_ald_n C 0 rfl rfl dX9_said_173 ?_
        refine g_lld_n C 1 rfl rfl dX9_said_174 ?_
        refine g_lld C 2 rfl dX9_said_175 ?_
        refine g_ild C 3 rfl dX9_said_177 ?_
        refine g_i2l C dX9_said_179 ?_
        refine g_lmul C dX9_said_180 ?_
        obtain ⟨r46, μ47, hc48, hf⟩ := bn_some hf
        refine g_callVp (As := [vl y38, vl (y39 * (w32 y40))]) (rest := []) C ⟨Nat.zero_le _, Nat.zero_le _⟩ dX9_said_181 cw_X9_tells m_5_49 m_5_51 m_0_26 in_30 (ec_30 _ _ _ _ _) rfl rfl (c_X9_tells  hc48) rfl rfl (Nat.le_of_ble_eq_true rfl) ⟨Nat.le_trans (Nat.le_of_ble_eq_true rfl) hfr, Nat.le_trans (Nat.le_of_ble_eq_true rfl) hlc⟩ ?_
        refine g_pop C rfl dX9_said_184 ?_
        refine g_iconst C dX9_said_185 ?_
        exact g_zret C rfl (Or.inr rfl) dX9_said_186 hf
    · rw [if_neg h6] at hf
      refine g_ald_n C 0 rfl rfl dX9_said_20 ?_
      refine g_iconst C dX9_said_21 ?_
      obtain ⟨r49, μ50, hc51, hf⟩ := bn_some hf
      refine g_callVp (As := [vi 2]) (rest := []) C ⟨Nat.zero_le _, Nat.zero_le _⟩ dX9_said_22 cw_X9_no m_4_129 m_4_131 m_0_8 in_30 (ec_30 _ _ _ _ _) rfl rfl (c_X9_no  hc51) rfl rfl (Nat.le_of_ble_eq_true rfl) ⟨Nat.le_trans (Nat.le_of_ble_eq_true rfl) hfr, Nat.le_trans (Nat.le_of_ble_eq_true rfl) hlc⟩ ?_
      obtain ⟨g52, hf⟩ := gd_some hf
      exact g_zret C rfl g52 dX9_said_25 hf
set_option maxHeartbeats 4000000 in
set_option maxRecDepth 100000 in
theorem c_X9_said {l : Launch} {D : va_G} {Y : Nat → ClassId} {α : Adr} {a1 : Int} {μ : Mem} {r : Int} {μ' : Mem}  (hf : f_X9_said a1 μ = some (r, μ')) : Ctr l D Y LBm yX9_said cX9_said 14 (some .boolean) 2 55 0 0 [vr α 30 0, vi a1] α μ (some (vi r)) (fun a => a = α) μ' := Ctr_of pn_X9 rfl rfl (Nat.le_of_ble_eq_true rfl) LBm_nd (fun p e s m below meth c sz C => b_X9_said C (Nat.le_refl _) (Nat.le_refl _)  hf)
end
