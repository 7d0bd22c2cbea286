/-! EndTeller$Ways.isLeft -/
def f_X6_isLeft (a1 : Int) (μ : Mem) : Option (Int × Mem) := gd (inb a1 (μ 28 0 0).toNat) ((if w32 (μ 9 0 (ix a1)) = w32 (-1) then some (0, μ) else some (1, μ)))
section
variable {p : Program} {l : Launch} {e : Env} {R : Room} {s : State} {m : MethodId} {args : Array Value} {below : List Frame} {meth : Method} {c : Code} {D : va_G} {Y : Nat → ClassId} {α : Adr} {sz : Nat} {r : Int} {μ' : Mem}
set_option maxHeartbeats 4000000 in
set_option maxRecDepth 100000 in
theorem b_X6_isLeft {a1 : Int} {μ : Mem} (C : CX p s m args meth c cX6_isLeft 2 RX6 (some .boolean) D Y LBx (Ar LBx α sz)) (hfr : 0 ≤ R.frames) (hlc : 0 ≤ R.locals)  (hf : f_X6_isLeft a1 μ = some (r, μ')) : GG D Y LBx (Ar LBx α sz) p l e R s m args below meth c 2 (MQ below (Qcx D Y LBx α sz (some (vi r)) (fun a => a = α) μ') args s 0 0 (Ar LBx α sz)) α 0 0 [(0, vr α 7 0), (1, vi a1)] [] μ 0 := by
  unfold f_X6_isLeft at hf
  refine g_ald_n C 0 rfl rfl dX6_isLeft_0 ?_
  refine g_get C dX6_isLeft_1 fl_X6_27 in_7 (ec_7 _ _ _ _ _) rfl ?_
  refine g_ild_n C 1 rfl rfl dX6_isLeft_4 ?_
  obtain ⟨g1, hf⟩ := gd_some hf
  refine g_iald C dX6_isLeft_5 in_9 (fun _ => ec_9 _ _ _ _ _) g1 ?_
  refine g_iconst C dX6_isLeft_6 ?_
  refine g_ic_eq C 14 (by decide) dX6_isLeft_7 (fun h2 => ?_) (fun h2 => ?_)
  · rw [if_pos h2] at hf
    refine g_iconst C dX6_isLeft_14 ?_
    exact g_zret C rfl (Or.inl rfl) dX6_isLeft_15 hf
  · rw [if_neg h2] at hf
    refine g_iconst C dX6_isLeft_10 ?_
    refine g_goto C 15 (by decide) dX6_isLeft_11 ?_
    exact g_zret C rfl (Or.inr rfl) dX6_isLeft_15 hf
set_option maxHeartbeats 4000000 in
set_option maxRecDepth 100000 in
theorem c_X6_isLeft {l : Launch} {D : va_G} {Y : Nat → ClassId} {α : Adr} {a1 : Int} {μ : Mem} {r : Int} {μ' : Mem}  (hf : f_X6_isLeft a1 μ = some (r, μ')) : Ctr l D Y LBx yX6_isLeft cX6_isLeft 2 (some .boolean) 0 0 0 0 [vr α 7 0, vi a1] α μ (some (vi r)) (fun a => a = α) μ' := Ctr_of pn_X6 rfl rfl (Nat.le_of_ble_eq_true rfl) LBx_nd (fun p e s m below meth c sz C => b_X6_isLeft C (Nat.le_refl _) (Nat.le_refl _)  hf)
end

/-! EndTeller$Ways.weightEndingBy -/
def f_X6_weightEndingBy_L5 (x1 : Int) : Nat → Int → Int → Mem → Option (Int × Mem)
  | 0, _, _, _ => none
  | n + 1, x2, x4, μ => (if w32 (μ 7 0 6) ≤ w32 x4 then some (x2, μ) else bn (f_X6_isLeft x4 μ) (fun r2 μ3 => jn (fun y5 => f_X6_weightEndingBy_L5 x1 n y5 (x4 + 1) μ3) (fun j45 => (if w32 r2 = 0 then j45 x2 else gd (inb x4 (μ3 28 0 0).toNat) ((if w32 x1 < w32 (μ3 9 0 (ix x4)) then j45 x2 else gd (inb x4 (μ3 28 0 0).toNat) (j45 (x2 + (w32 (μ3 10 0 (ix x4)))))))))))
def f_X6_weightEndingBy (a1 : Int) (μ : Mem) : Option (Int × Mem) := f_X6_weightEndingBy_L5 a1 FU 0 0 μ
section
variable {p : Program} {l : Launch} {e : Env} {R : Room} {s : State} {m : MethodId} {args : Array Value} {below : List Frame} {meth : Method} {c : Code} {D : va_G} {Y : Nat → ClassId} {α : Adr} {sz : Nat} {r : Int} {μ' : Mem}
set_option maxHeartbeats 4000000 in
set_option maxRecDepth 100000 in
theorem c_X6_weightEndingBy_l5 {x1 : Int} (C : CX p s m args meth c cX6_weightEndingBy 5 RX6 (some .long) D Y LBx (Ar LBx α sz)) (hfr : 1 ≤ R.frames) (hlc : 21 ≤ R.locals)    : ∀ (n : Nat) (x2 x4 : Int) (μ : Mem), f_X6_weightEndingBy_L5 x1 n x2 x4 μ = some (r, μ') → GG D Y LBx (Ar LBx α sz) p l e R s m args below meth c 5 (MQ below (Qcx D Y LBx α sz (some (vl r)) (fun a => a = α) μ') args s 0 0 (Ar LBx α sz)) α 0 0 [(0, vr α 7 0), (1, vi x1), (2, vl x2), (4, vi x4)] [] μ 5 := by
  intro n
  induction n with
  | zero =>
    intro x2 x4 μ hf
    exact nomatch (show (none : Option (Int × Mem)) = some _ from hf)
  | succ n ih =>
    intro x2 x4 μ hf
    rw [f_X6_weightEndingBy_L5.eq_2] at hf
    refine g_ild C 3 rfl dX6_weightEndingBy_5 ?_
    refine g_ald_n C 0 rfl rfl dX6_weightEndingBy_7 ?_
    refine g_get C dX6_weightEndingBy_8 fl_X6_37 in_7 (ec_7 _ _ _ _ _) rfl ?_
    refine g_ic_ge C 51 (by decide) dX6_weightEndingBy_11 (fun h1 => ?_) (fun h1 => ?_)
    · rw [if_pos h1] at hf
      refine g_lld_n C 2 rfl rfl dX6_weightEndingBy_51 ?_
      exact g_lret C rfl dX6_weightEndingBy_52 hf
    · rw [if_neg h1] at hf
      refine g_ald_n C 0 rfl rfl dX6_weightEndingBy_14 ?_
      refine g_ild C 3 rfl dX6_weightEndingBy_15 ?_
      obtain ⟨r2, μ3, hc4, hf⟩ := bn_some hf
      refine g_callVp (As := [vi x4]) (rest := []) C ⟨Nat.zero_le _, Nat.zero_le _⟩ dX6_weightEndingBy_17 cw_X6_isLeft m_3_113 m_3_114 m_3_115 in_7 (ec_7 _ _ _ _ _) rfl rfl (c_X6_isLeft  hc4) rfl rfl (Nat.le_of_ble_eq_true rfl) ⟨Nat.le_trans (Nat.le_of_ble_eq_true rfl) hfr, Nat.le_trans (Nat.le_of_ble_eq_true rfl) hlc⟩ ?_
      obtain ⟨j45, ej6, hf⟩ := jn_some hf
      have hj45 : ∀ (y5 : Int), j45 y5 = some (r, μ') → GG D Y LBx (Ar LBx α sz) p l e R s m args below meth c 5 (MQ below (Qcx D Y LBx α sz (some (vl r)) (fun a => a = α) μ') args s 0 0 (Ar LBx α sz)) α 0 0 [(0, vr α 7 0), (1, vi x1), (2, vl y5), (4, vi x4)] [] μ3 45 := by
        intro y5 hf
        rw [ej6] at hf
        try dsimp only at hf
        refine g_iinc (lo' := [(4, vi (x4 + 1)), (0, vr α 7 0), (1, vi x1), (2, vl y5)]) C 3 rfl (by decide) rfl dX6_weightEndingBy_45 ?_
        refine g_goto C 5 (by decide) dX6_weightEndingBy_48 ?_
        exact g_sub C [1, 2, 3, 0] rfl (ih _ _ _ hf)
      clear ej6
      refine g_if_eq C 45 (by decide) dX6_weightEndingBy_20 (fun h7 => ?_) (fun h7 => ?_)
      · rw [if_pos h7] at hf
        exact g_sub C [0, 1, 2, 3] rfl (hj45 _ hf)
      · rw [if_neg h7] at hf
        refine g_ald_n C 0 rfl rfl dX6_weightEndingBy_23 ?_
        refine g_get C dX6_weightEndingBy_24 fl_X6_27 in_7 (ec_7 _ _ _ _ _) rfl ?_
        refine g_ild C 3 rfl dX6_weightEndingBy_27 ?_
        obtain ⟨g8, hf⟩ := gd_some hf
        refine g_iald C dX6_weightEndingBy_29 in_9 (fun _ => ec_9 _ _ _ _ _) g8 ?_
        refine g_ild_n C 1 rfl rfl dX6_weightEndingBy_30 ?_
        refine g_ic_gt C 45 (by decide) dX6_weightEndingBy_31 (fun h9 => ?_) (fun h9 => ?_)
        · rw [if_pos h9] at hf
          exact g_sub C [0, 1, 2, 3] rfl (hj45 _ hf)
        · rw [if_neg h9] at hf
          refine g_lld_n C 2 rfl rfl dX6_weightEndingBy_34 ?_
          refine g_ald_n C 0 rfl rfl dX6_weightEndingBy_35 ?_
          refine g_get C dX6_weightEndingBy_36 fl_X6_30 in_7 (ec_7 _ _ _ _ _) rfl ?_
          refine g_ild C 3 rfl dX6_weightEndingBy_39 ?_
          obtain ⟨g10, hf⟩ := gd_some hf
          refine g_iald C dX6_weightEndingBy_41 in_10 (fun _ => ec_10 _ _ _ _ _) g10 ?_
          refine g_i2l C dX6_weightEndingBy_42 ?_
          refine g_ladd C dX6_weightEndingBy_43 ?_
          refine g_lst_n (lo' := [(2, vl (x2 + (w32 (μ3 10 0 (ix x4))))), (0, vr α 7 0), (1, vi x1), (4, vi x4)]) C rfl (by decide) rfl dX6_weightEndingBy_44 ?_
          exact g_sub C [1, 2, 0, 3] rfl (hj45 _ hf)
set_option maxHeartbeats 4000000 in
set_option maxRecDepth 100000 in
theorem b_X6_weightEndingBy {a1 : Int} {μ : Mem} (C : CX p s m args meth c cX6_weightEndingBy 5 RX6 (some .long) D Y LBx (Ar LBx α sz)) (hfr : 1 ≤ R.frames) (hlc : 21 ≤ R.locals)  (hf : f_X6_weightEndingBy a1 μ = some (r, μ')) : GG D Y LBx (Ar LBx α sz) p l e R s m args below meth c 5 (MQ below (Qcx D Y LBx α sz (some (vl r)) (fun a => a = α) μ') args s 0 0 (Ar LBx α sz)) α 0 0 [(0, vr α 7 0), (1, vi a1)] [] μ 0 := by
  unfold f_X6_weightEndingBy at hf
  refine g_lconst (x := 0) C rfl dX6_weightEndingBy_0 ?_
  refine g_lst_n (lo' := [(2, vl 0), (0, vr α 7 0), (1, vi a1)]) C rfl (by decide) rfl dX6_weightEndingBy_1 ?_
  refine g_iconst C dX6_weightEndingBy_2 ?_
  refine g_ist (lo' := [(4, vi 0), (2, vl 0), (0, vr α 7 0), (1, vi a1)]) C (by decide) rfl dX6_weightEndingBy_3 ?_
  refine g_sub C [2, 3, 1, 0] rfl (c_X6_weightEndingBy_l5 C hfr hlc   _ _ _ _ hf)
set_option maxHeartbeats 4000000 in
set_option maxRecDepth 100000 in
theorem c_X6_weightEndingBy {l : Launch} {D : va_G} {Y : Nat → ClassId} {α : Adr} {a1 : Int} {μ : Mem} {r : Int} {μ' : Mem}  (hf : f_X6_weightEndingBy a1 μ = some (r, μ')) : Ctr l D Y LBx yX6_weightEndingBy cX6_weightEndingBy 5 (some .long) 1 21 0 0 [vr α 7 0, vi a1] α μ (some (vl r)) (fun a => a = α) μ' := Ctr_of pn_X6 rfl rfl (Nat.le_of_ble_eq_true rfl) LBx_nd (fun p e s m below meth c sz C => b_X6_weightEndingBy C (Nat.le_refl _) (Nat.le_refl _)  hf)
end

/-! EndTeller$Ways.sumOfEnds -/
def f_X6_sumOfEnds_L4  : Nat → Int → Int → Mem → Option (Int × Mem)
  | 0, _, _, _ => none
  | n + 1, x1, x3, μ => (if w32 (μ 7 0 6) ≤ w32 x3 then some (x1, μ) else bn (f_X6_isLeft x3 μ) (fun r2 μ3 => jn (fun y5 => f_X6_sumOfEnds_L4 n y5 (x3 + 1) μ3) (fun j38 => (if w32 r2 = 0 then j38 x1 else gd (inb x3 (μ3 28 0 0).toNat) (gd (inb x3 (μ3 28 0 0).toNat) (j38 (x1 + ((w32 (μ3 10 0 (ix x3))) * (w32 (μ3 9 0 (ix x3)))))))))))
def f_X6_sumOfEnds  (μ : Mem) : Option (Int × Mem) := f_X6_sumOfEnds_L4 FU 0 0 μ
section
variable {p : Program} {l : Launch} {e : Env} {R : Room} {s : State} {m : MethodId} {args : Array Value} {below : List Frame} {meth : Method} {c : Code} {D : va_G} {Y : Nat → ClassId} {α : Adr} {sz : Nat} {r : Int} {μ' : Mem}
set_option maxHeartbeats 4000000 in
set_option maxRecDepth 100000 in
theorem c_X6_sumOfEnds_l4  (C : CX p s m args meth c cX6_sumOfEnds 4 RX6 (some .long) D Y LBx (Ar LBx α sz)) (hfr : 1 ≤ R.frames) (hlc : 21 ≤ R.locals)    : ∀ (n : Nat) (x1 x3 : Int) (μ : Mem), f_X6_sumOfEnds_L4 n x1 x3 μ = some (r, μ') → GG D Y LBx (Ar LBx α sz) p l e R s m args below meth c 4 (MQ below (Qcx D Y LBx α sz (some (vl r)) (fun a => a = α) μ') args s 0 0 (Ar LBx α sz)) α 0 0 [(0, vr α 7 0), (1, vl x1), (3, vi x3)] [] μ 4 := by
  intro n
  induction n with
  | zero =>
    intro x1 x3 μ hf
    exact nomatch (show (none : Option (Int × Mem)) = some _ from hf)
  | succ n ih =>
    intro x1 x3 μ hf
    rw [f_X6_sumOfEnds_L4.eq_2] at hf
    refine g_ild_n C 2 rfl rfl dX6_sumOfEnds_4 ?_
    refine g_ald_n C 0 rfl rfl dX6_sumOfEnds_5 ?_
    refine g_get C dX6_sumOfEnds_6 fl_X6_37 in_7 (ec_7 _ _ _ _ _) rfl ?_
    refine g_ic_ge C 44 (by decide) dX6_sumOfEnds_9 (fun h1 => ?_) (fun h1 => ?_)
    · rw [if_pos h1] at hf
      refine g_lld_n C 1 rfl rfl dX6_sumOfEnds_44 ?_
      exact g_lret C rfl dX6_sumOfEnds_45 hf
    · rw [if_neg h1] at hf
      refine g_ald_n C 0 rfl rfl dX6_sumOfEnds_12 ?_
      refine g_ild_n C 2 rfl rfl dX6_sumOfEnds_13 ?_
      obtain ⟨r2, μ3, hc4, hf⟩ := bn_some hf
      refine g_callVp (As := [vi x3]) (rest := []) C ⟨Nat.zero_le _, Nat.zero_le _⟩ dX6_sumOfEnds_14 cw_X6_isLeft m_3_113 m_3_114 m_3_115 in_7 (ec_7 _ _ _ _ _) rfl rfl (c_X6_isLeft  hc4) rfl rfl (Nat.le_of_ble_eq_true rfl) ⟨Nat.le_trans (Nat.le_of_ble_eq_true rfl) hfr, Nat.le_trans (Nat.le_of_ble_eq_true rfl) hlc⟩ ?_
      obtain ⟨j38, ej6, hf⟩ := jn_some hf
      have hj38 : ∀ (y5 : Int), j38 y5 = some (r, μ') → GG D Y LBx (Ar LBx α sz) p l e R s m args below meth c 4 (MQ below (Qcx D Y LBx α sz (some (vl r)) (fun a => a = α) μ') args s 0 0 (Ar LBx α sz)) α 0 0 [(0, vr α 7 0), (1, vl y5), (3, vi x3)] [] μ3 38 := by
        intro y5 hf
        rw [ej6] at hf
        try dsimp only at hf
        refine g_iinc (lo' := [(3, vi (x3 + 1)), (0, vr α 7 0), (1, vl y5)]) C 2 rfl (by decide) rfl dX6_sumOfEnds_38 ?_
        refine g_goto C 4 (by decide) dX6_sumOfEnds_41 ?_
        exact g_sub C [1, 2, 0] rfl (ih _ _ _ hf)
      clear ej6
      refine g_if_eq C 38 (by decide) dX6_sumOfEnds_17 (fun h7 => ?_) (fun h7 => ?_)
      · rw [if_pos h7] at hf
        exact g_sub C [0, 1, 2] rfl (hj38 _ hf)
      · rw [if_neg h7] at hf
        refine g_lld_n C 1 rfl rfl dX6_sumOfEnds_20 ?_
        refine g_ald_n C 0 rfl rfl dX6_sumOfEnds_21 ?_
        refine g_get C dX6_sumOfEnds_22 fl_X6_30 in_7 (ec_7 _ _ _ _ _) rfl ?_
        refine g_ild_n C 2 rfl rfl dX6_sumOfEnds_25 ?_
        obtain ⟨g8, hf⟩ := gd_some hf
        refine g_iald C dX6_sumOfEnds_26 in_10 (fun _ => ec_10 _ _ _ _ _) g8 ?_
        refine g_i2l C dX6_sumOfEnds_27 ?_
        refine g_ald_n C 0 rfl rfl dX6_sumOfEnds_28 ?_
        refine g_get C dX6_sumOfEnds_29 fl_X6_27 in_7 (ec_7 _ _ _ _ _) rfl ?_
        refine g_ild_n C 2 rfl rfl dX6_sumOfEnds_32 ?_
        obtain ⟨g9, hf⟩ := gd_some hf
        refine g_iald C dX6_sumOfEnds_33 in_9 (fun _ => ec_9 _ _ _ _ _) g9 ?_
        refine g_i2l C dX6_sumOfEnds_34 ?_
        refine g_lmul C dX6_sumOfEnds_35 ?_
        refine g_ladd C dX6_sumOfEnds_36 ?_
        refine g_lst_n (lo' := [(1, vl (x1 + ((w32 (μ3 10 0 (ix x3))) * (w32 (μ3 9 0 (ix x3)))))), (0, vr α 7 0), (3, vi x3)]) C rfl (by decide) rfl dX6_sumOfEnds_37 ?_
        exact g_sub C [1, 0, 2] rfl (hj38 _ hf)
set_option maxHeartbeats 4000000 in
set_option maxRecDepth 100000 in
theorem b_X6_sumOfEnds  {μ : Mem} (C : CX p s m args meth c cX6_sumOfEnds 4 RX6 (some .long) D Y LBx (Ar LBx α sz)) (hfr : 1 ≤ R.frames) (hlc : 21 ≤ R.locals)  (hf : f_X6_sumOfEnds μ = some (r, μ')) : GG D Y LBx (Ar LBx α sz) p l e R s m args below meth c 4 (MQ below (Qcx D Y LBx α sz (some (vl r)) (fun a => a = α) μ') args s 0 0 (Ar LBx α sz)) α 0 0 [(0, vr α 7 0)] [] μ 0 := by
  unfold f_X6_sumOfEnds at hf
  refine g_lconst (x := 0) C rfl dX6_sumOfEnds_0 ?_
  refine g_lst_n (lo' := [(1, vl 0), (0, vr α 7 0)]) C rfl (by decide) rfl dX6_sumOfEnds_1 ?_
  refine g_iconst C dX6_sumOfEnds_2 ?_
  refine g_ist_n (lo' := [(3, vi 0), (1, vl 0), (0, vr α 7 0)]) C rfl (by decide) rfl dX6_sumOfEnds_3 ?_
  refine g_sub C [2, 1, 0] rfl (c_X6_sumOfEnds_l4 C hfr hlc   _ _ _ _ hf)
set_option maxHeartbeats 4000000 in
set_option maxRecDepth 100000 in
theorem c_X6_sumOfEnds {l : Launch} {D : va_G} {Y : Nat → ClassId} {α : Adr}  {μ : Mem} {r : Int} {μ' : Mem}  (hf : f_X6_sumOfEnds μ = some (r, μ')) : Ctr l D Y LBx yX6_sumOfEnds cX6_sumOfEnds 4 (some .long) 1 21 0 0 [vr α 7 0] α μ (some (vl r)) (fun a => a = α) μ' := Ctr_of pn_X6 rfl rfl (Nat.le_of_ble_eq_true rfl) LBx_nd (fun p e s m below meth c sz C => b_X6_sumOfEnds C (Nat.le_refl _) (Nat.le_refl _)  hf)
end

/-! EndTeller$Ways.weightWithPartBy -/
def f_X6_weightWithPartBy_L12 (x1 : Int) (x2 : Int) : Nat → Int → Int → Mem → Option (Int × Mem)
  | 0, _, _, _ => none
  | n + 1, x3, x5, μ => (if w32 (μ 7 0 6) ≤ w32 x5 then some (x3, μ) else bn (f_X6_isLeft x5 μ) (fun r5 μ6 => jn (fun y9 μ8 => bn (f_X2_goToNext  μ8) (fun r10 μ11 => f_X6_weightWithPartBy_L12 x1 x2 n y9 (x5 + 1) μ11)) (fun j63 => (if w32 r5 = 0 then j63 x3 μ6 else bn (f_X2_stepThrough (-1) μ6) (fun r15 μ16 => gd (inb x1 10) ((if w32 x2 < w32 (μ16 14 0 (ix x1)) then j63 x3 μ16 else gd (inb x5 (μ16 28 0 0).toNat) (j63 (x3 + (w32 (μ16 10 0 (ix x5)))) μ16))))))))
def f_X6_weightWithPartBy (a1 : Int) (a2 : Int) (μ : Mem) : Option (Int × Mem) := bn (f_X2_goToFirst  μ) (fun r1 μ2 => f_X6_weightWithPartBy_L12 a1 a2 FU 0 0 μ2)
section
variable {p : Program} {l : Launch} {e : Env} {R : Room} {s : State} {m : MethodId} {args : Array Value} {below : List Frame} {meth : Method} {c : Code} {D : va_G} {Y : Nat → ClassId} {α : Adr} {sz : Nat} {r : Int} {μ' : Mem}
set_option maxHeartbeats 4000000 in
set_option maxRecDepth 100000 in
theorem c_X6_weightWithPartBy_l12 {x1 : Int} {x2 : Int} (C : CX p s m args meth c cX6_weightWithPartBy 6 RX6 (some .long) D Y LBx (Ar LBx α sz)) (hfr : 3 ≤ R.frames) (hlc : 66 ≤ R.locals)    : ∀ (n : Nat) (x3 x5 : Int) (μ : Mem), f_X6_weightWithPartBy_L12 x1 x2 n x3 x5 μ = some (r, μ') → GG D Y LBx (Ar LBx α sz) p l e R s m args below meth c 6 (MQ below (Qcx D Y LBx α sz (some (vl r)) (fun a => a = α) μ') args s 0 0 (Ar LBx α sz)) α 0 0 [(0, vr α 7 0), (1, vi x1), (2, vi x2), (3, vl x3), (5, vi x5)] [] μ 12 := by
  intro n
  induction n with
  | zero =>
    intro x3 x5 μ hf
    exact nomatch (show (none : Option (Int × Mem)) = some _ from hf)
  | succ n ih =>
    intro x3 x5 μ hf
    rw [f_X6_weightWithPartBy_L12.eq_2] at hf
    refine g_ild C 4 rfl dX6_weightWithPartBy_12 ?_
    refine g_ald_n C 0 rfl rfl dX6_weightWithPartBy_14 ?_
    refine g_get C dX6_weightWithPartBy_15 fl_X6_37 in_7 (ec_7 _ _ _ _ _) rfl ?_
    refine g_ic_ge C 76 (by decide) dX6_weightWithPartBy_18 (fun h4 => ?_) (fun h4 => ?_)
    · rw [if_pos h4] at hf
      refine g_lld_n C 3 rfl rfl dX6_weightWithPartBy_76 ?_
      exact g_lret C rfl dX6_weightWithPartBy_77 hf
    · rw [if_neg h4] at hf
      refine g_ald_n C 0 rfl rfl dX6_weightWithPartBy_21 ?_
      refine g_ild C 4 rfl dX6_weightWithPartBy_22 ?_
      obtain ⟨r5, μ6, hc7, hf⟩ := bn_some hf
      refine g_callVp (As := [vi x5]) (rest := []) C ⟨Nat.zero_le _, Nat.zero_le _⟩ dX6_weightWithPartBy_24 cw_X6_isLeft m_3_113 m_3_114 m_3_115 in_7 (ec_7 _ _ _ _ _) rfl rfl (c_X6_isLeft  hc7) rfl rfl (Nat.le_of_ble_eq_true rfl) ⟨Nat.le_trans (Nat.le_of_ble_eq_true rfl) hfr, Nat.le_trans (Nat.le_of_ble_eq_true rfl) hlc⟩ ?_
      obtain ⟨j63, ej13, hf⟩ := jn_some hf
      have hj63 : ∀ (y9 : Int) (μ8 : Mem), j63 y9 μ8 = some (r, μ') → GG D Y LBx (Ar LBx α sz) p l e R s m args below meth c 6 (MQ below (Qcx D Y LBx α sz (some (vl r)) (fun a => a = α) μ') args s 0 0 (Ar LBx α sz)) α 0 0 [(0, vr α 7 0), (1, vi x1), (2, vi x2), (3, vl y9), (5, vi x5)] [] μ8 63 := by
        intro y9 μ8 hf
        rw [ej13] at hf
        try dsimp only at hf
        refine g_ald_n C 0 rfl rfl dX6_weightWithPartBy_63 ?_
        refine g_get C dX6_weightWithPartBy_64 fl_X6_12 in_7 (ec_7 _ _ _ _ _) rfl ?_
        obtain ⟨r10, μ11, hc12, hf⟩ := bn_some hf
        refine g_callVp (As := []) (rest := []) C ⟨Nat.zero_le _, Nat.zero_le _⟩ dX6_weightWithPartBy_67 cw_X2_goToNext m_3_105 m_3_106 m_3_107 in_11 (ec_11 _ _ _ _ _) rfl rfl (c_X2_goToNext  hc12) rfl rfl (Nat.le_of_ble_eq_true rfl) ⟨Nat.le_trans (Nat.le_of_ble_eq_true rfl) hfr, Nat.le_trans (Nat.le_of_ble_eq_true rfl) hlc⟩ ?_
        refine g_iinc (lo' := [(5, vi (x5 + 1)), (0, vr α 7 0), (1, vi x1), (2, vi x2), (3, vl y9)]) C 4 rfl (by decide) rfl dX6_weightWithPartBy_70 ?_
        refine g_goto C 12 (by decide) dX6_weightWithPartBy_73 ?_
        exact g_sub C [1, 2, 3, 4, 0] rfl (ih _ _ _ hf)
      clear ej13
      refine g_if_eq C 63 (by decide) dX6_weightWithPartBy_27 (fun h14 => ?_) (fun h14 => ?_)
      · rw [if_pos h14] at hf
        exact g_sub C [0, 1, 2, 3, 4] rfl (hj63 _ _ hf)
      · rw [if_neg h14] at hf
        refine g_ald_n C 0 rfl rfl dX6_weightWithPartBy_30 ?_
        refine g_get C dX6_weightWithPartBy_31 fl_X6_12 in_7 (ec_7 _ _ _ _ _) rfl ?_
        refine g_iconst C dX6_weightWithPartBy_34 ?_
        obtain ⟨r15, μ16, hc17, hf⟩ := bn_some hf
        refine g_callVp (As := [vi (-1)]) (rest := []) C ⟨Nat.zero_le _, Nat.zero_le _⟩ dX6_weightWithPartBy_35 cw_X2_stepThrough m_3_84 m_3_85 m_3_86 in_11 (ec_11 _ _ _ _ _) rfl rfl (c_X2_stepThrough  hc17) rfl rfl (Nat.le_of_ble_eq_true rfl) ⟨Nat.le_trans (Nat.le_of_ble_eq_true rfl) hfr, Nat.le_trans (Nat.le_of_ble_eq_true rfl) hlc⟩ ?_
        refine g_pop C rfl dX6_weightWithPartBy_38 ?_
        refine g_ald_n C 0 rfl rfl dX6_weightWithPartBy_39 ?_
        refine g_get C dX6_weightWithPartBy_40 fl_X6_12 in_7 (ec_7 _ _ _ _ _) rfl ?_
        refine g_get C dX6_weightWithPartBy_43 fl_X6_90 in_11 (ec_11 _ _ _ _ _) rfl ?_
        refine g_ild_n C 1 rfl rfl dX6_weightWithPartBy_46 ?_
        obtain ⟨g18, hf⟩ := gd_some hf
        refine g_iald C dX6_weightWithPartBy_47 in_14 (fun _ => ec_14 _ _ _ _ _) g18 ?_
        refine g_ild_n C 2 rfl rfl dX6_weightWithPartBy_48 ?_
        refine g_ic_gt C 63 (by decide) dX6_weightWithPartBy_49 (fun h19 => ?_) (fun h19 => ?_)
        · rw [if_pos h19] at hf
          exact g_sub C [0, 1, 2, 3, 4] rfl (hj63 _ _ hf)
        · rw [if_neg h19] at hf
          refine g_lld_n C 3 rfl rfl dX6_weightWithPartBy_52 ?_
          refine g_ald_n C 0 rfl rfl dX6_weightWithPartBy_53 ?_
          refine g_get C dX6_weightWithPartBy_54 fl_X6_30 in_7 (ec_7 _ _ _ _ _) rfl ?_
          refine g_ild C 4 rfl dX6_weightWithPartBy_57 ?_
          obtain ⟨g20, hf⟩ := gd_some hf
          refine g_iald C dX6_weightWithPartBy_59 in_10 (fun _ => ec_10 _ _ _ _ _) g20 ?_
          refine g_i2l C dX6_weightWithPartBy_60 ?_
          refine g_ladd C dX6_weightWithPartBy_61 ?_
          refine g_lst_n (lo' := [(3, vl (x3 + (w32 (μ16 10 0 (ix x5))))), (0, vr α 7 0), (1, vi x1), (2, vi x2), (5, vi x5)]) C rfl (by decide) rfl dX6_weightWithPartBy_62 ?_
          exact g_sub C [1, 2, 3, 0, 4] rfl (hj63 _ _ hf)
set_option maxHeartbeats 4000000 in
set_option maxRecDepth 100000 in
theorem b_X6_weightWithPartBy {a1 : Int} {a2 : Int} {μ : Mem} (C : CX p s m args meth c cX6_weightWithPartBy 6 RX6 (some .long) D Y LBx (Ar LBx α sz)) (hfr : 3 ≤ R.frames) (hlc : 66 ≤ R.locals)  (hf : f_X6_weightWithPartBy a1 a2 μ = some (r, μ')) : GG D Y LBx (Ar LBx α sz) p l e R s m args below meth c 6 (MQ below (Qcx D Y LBx α sz (some (vl r)) (fun a => a = α) μ') args s 0 0 (Ar LBx α sz)) α 0 0 [(0, vr α 7 0), (1, vi a1), (2, vi a2)] [] μ 0 := by
  unfold f_X6_weightWithPartBy at hf
  refine g_lconst (x := 0) C rfl dX6_weightWithPartBy_0 ?_
  refine g_lst_n (lo' := [(3, vl 0), (0, vr α 7 0), (1, vi a1), (2, vi a2)]) C rfl (by decide) rfl dX6_weightWithPartBy_1 ?_
  refine g_ald_n C 1 rfl rfl dX6_weightWithPartBy_2 ?_
  refine g_get C dX6_weightWithPartBy_3 fl_X6_12 in_7 (ec_7 _ _ _ _ _) rfl ?_
  obtain ⟨r1, μ2, hc3, hf⟩ := bn_some hf
  refine g_callVp (As := []) (rest := []) C ⟨Nat.zero_le _, Nat.zero_le _⟩ dX6_weightWithPartBy_6 cw_X2_goToFirst m_3_75 m_3_76 m_3_77 in_11 (ec_11 _ _ _ _ _) rfl rfl (c_X2_goToFirst  hc3) rfl rfl (Nat.le_of_ble_eq_true rfl) ⟨Nat.le_trans (Nat.le_of_ble_eq_true rfl) hfr, Nat.le_trans (Nat.le_of_ble_eq_true rfl) hlc⟩ ?_
  refine g_iconst C dX6_weightWithPartBy_9 ?_
  refine g_ist (lo' := [(5, vi 0), (3, vl 0), (0, vr α 7 0), (1, vi a1), (2, vi a2)]) C (by decide) rfl dX6_weightWithPartBy_10 ?_
  refine g_sub C [2, 3, 4, 1, 0] rfl (c_X6_weightWithPartBy_l12 C hfr hlc   _ _ _ _ hf)
set_option maxHeartbeats 4000000 in
set_option maxRecDepth 100000 in
theorem c_X6_weightWithPartBy {l : Launch} {D : va_G} {Y : Nat → ClassId} {α : Adr} {a1 : Int} {a2 : Int} {μ : Mem} {r : Int} {μ' : Mem}  (hf : f_X6_weightWithPartBy a1 a2 μ = some (r, μ')) : Ctr l D Y LBx yX6_weightWithPartBy cX6_weightWithPartBy 6 (some .long) 3 66 0 0 [vr α 7 0, vi a1, vi a2] α μ (some (vl r)) (fun a => a = α) μ' := Ctr_of pn_X6 rfl rfl (Nat.le_of_ble_eq_true rfl) LBx_nd (fun p e s m below meth c sz C => b_X6_weightWithPartBy C (Nat.le_refl _) (Nat.le_refl _)  hf)
end

/-! EndTeller$Ways.weightMovedBy -/
def f_X6_weightMovedBy_L12 (x1 : Int) : Nat → Int → Int → Mem → Option (Int × Mem)
  | 0, _, _, _ => none
  | n + 1, x2, x4, μ => (if w32 (μ 7 0 6) ≤ w32 x4 then some (x2, μ) else bn (f_X6_isLeft x4 μ) (fun r5 μ6 => jn (fun y9 μ8 => bn (f_X2_goToNext  μ8) (fun r10 μ11 => f_X6_weightMovedBy_L12 x1 n y9 (x4 + 1) μ11)) (fun j59 => (if w32 r5 = 0 then j59 x2 μ6 else bn (f_X2_stepThrough x1 μ6) (fun r15 μ16 => gd (inb x4 (μ16 28 0 0).toNat) ((if w32 r15 ≤ w32 (μ16 9 0 (ix x4)) then j59 x2 μ16 else gd (inb x4 (μ16 28 0 0).toNat) (j59 (x2 + (w32 (μ16 10 0 (ix x4)))) μ16))))))))
def f_X6_weightMovedBy (a1 : Int) (μ : Mem) : Option (Int × Mem) := bn (f_X2_goToFirst  μ) (fun r1 μ2 => f_X6_weightMovedBy_L12 a1 FU 0 0 μ2)
section
variable {p : Program} {l : Launch} {e : Env} {R : Room} {s : State} {m : MethodId} {args : Array Value} {below : List Frame} {meth : Method} {c : Code} {D : va_G} {Y : Nat → ClassId} {α : Adr} {sz : Nat} {r : Int} {μ' : Mem}
set_option maxHeartbeats 4000000 in
set_option maxRecDepth 100000 in
theorem c_X6_weightMovedBy_l12 {x1 : Int} (C : CX p s m args meth c cX6_weightMovedBy 5 RX6 (some .long) D Y LBx (Ar LBx α sz)) (hfr : 3 ≤ R.frames) (hlc : 66 ≤ R.locals)    : ∀ (n : Nat) (x2 x4 : Int) (μ : Mem), f_X6_weightMovedBy_L12 x1 n x2 x4 μ = some (r, μ') → GG D Y LBx (Ar LBx α sz) p l e R s m args below meth c 5 (MQ below (Qcx D Y LBx α sz (some (vl r)) (fun a => a = α) μ') args s 0 0 (Ar LBx α sz)) α 0 0 [(0, vr α 7 0), (1, vi x1), (2, vl x2), (4, vi x4)] [] μ 12 := by
  intro n
  induction n with
  | zero =>
    intro x2 x4 μ hf
    exact nomatch (show (none : Option (Int × Mem)) = some _ from hf)
  | succ n ih =>
    intro x2 x4 μ hf
    rw [f_X6_weightMovedBy_L12.eq_2] at hf
    refine g_ild C 3 rfl dX6_weightMovedBy_12 ?_
    refine g_ald_n C 0 rfl rfl dX6_weightMovedBy_14 ?_
    refine g_get C dX6_weightMovedBy_15 fl_X6_37 in_7 (ec_7 _ _ _ _ _) rfl ?_
    refine g_ic_ge C 72 (by decide) dX6_weightMovedBy_18 (fun h4 => ?_) (fun h4 => ?_)
    · rw [if_pos h4] at hf
      refine g_lld_n C 2 rfl rfl dX6_weightMovedBy_72 ?_
      exact g_lret C rfl dX6_weightMovedBy_73 hf
    · rw [if_neg h4] at hf
      refine g_ald_n C 0 rfl rfl dX6_weightMovedBy_21 ?_
      refine g_ild C 3 rfl dX6_weightMovedBy_22 ?_
      obtain ⟨r5, μ6, hc7, hf⟩ := bn_some hf
      refine g_callVp (As := [vi x4]) (rest := []) C ⟨Nat.zero_le _, Nat.zero_le _⟩ dX6_weightMovedBy_24 cw_X6_isLeft m_3_113 m_3_114 m_3_115 in_7 (ec_7 _ _ _ _ _) rfl rfl (c_X6_isLeft  hc7) rfl rfl (Nat.le_of_ble_eq_true rfl) ⟨Nat.le_trans (Nat.le_of_ble_eq_true rfl) hfr, Nat.le_trans (Nat.le_of_ble_eq_true rfl) hlc⟩ ?_
      obtain ⟨j59, ej13, hf⟩ := jn_some hf
      have hj59 : ∀ (y9 : Int) (μ8 : Mem), j59 y9 μ8 = some (r, μ') → GG D Y LBx (Ar LBx α sz) p l e R s m args below meth c 5 (MQ below (Qcx D Y LBx α sz (some (vl r)) (fun a => a = α) μ') args s 0 0 (Ar LBx α sz)) α 0 0 [(0, vr α 7 0), (1, vi x1), (2, vl y9), (4, vi x4)] [] μ8 59 := by
        intro y9 μ8 hf
        rw [ej13] at hf
        try dsimp only at hf
        refine g_ald_n C 0 rfl rfl dX6_weightMovedBy_59 ?_
        refine g_get C dX6_weightMovedBy_60 fl_X6_12 in_7 (ec_7 _ _ _ _ _) rfl ?_
        obtain ⟨r10, μ11, hc12, hf⟩ := bn_some hf
        refine g_callVp (As := []) (rest := []) C ⟨Nat.zero_le _, Nat.zero_le _⟩ dX6_weightMovedBy_63 cw_X2_goToNext m_3_105 m_3_106 m_3_107 in_11 (ec_11 _ _ _ _ _) rfl rfl (c_X2_goToNext  hc12) rfl rfl (Nat.le_of_ble_eq_true rfl) ⟨Nat.le_trans (Nat.le_of_ble_eq_true rfl) hfr, Nat.le_trans (Nat.le_of_ble_eq_true rfl) hlc⟩ ?_
        refine g_iinc (lo' := [(4, vi (x4 + 1)), (0, vr α 7 0), (1, vi x1), (2, vl y9)]) C 3 rfl (by decide) rfl dX6_weightMovedBy_66 ?_
        refine g_goto C 12 (by decide) dX6_weightMovedBy_69 ?_
        exact g_sub C [1, 2, 3, 0] rfl (ih _ _ _ hf)
      clear ej13
      refine g_if_eq C 59 (by decide) dX6_weightMovedBy_27 (fun h14 => ?_) (fun h14 => ?_)
      · rw [if_pos h14] at hf
        exact g_sub C [0, 1, 2, 3] rfl (hj59 _ _ hf)
      · rw [if_neg h14] at hf
        refine g_ald_n C 0 rfl rfl dX6_weightMovedBy_30 ?_
        refine g_get C dX6_weightMovedBy_31 fl_X6_12 in_7 (ec_7 _ _ _ _ _) rfl ?_
        refine g_ild_n C 1 rfl rfl dX6_weightMovedBy_34 ?_
        obtain ⟨r15, μ16, hc17, hf⟩ := bn_some hf
        refine g_callVp (As := [vi x1]) (rest := []) C ⟨Nat.zero_le _, Nat.zero_le _⟩ dX6_weightMovedBy_35 cw_X2_stepThrough m_3_84 m_3_85 m_3_86 in_11 (ec_11 _ _ _ _ _) rfl rfl (c_X2_stepThrough  hc17) rfl rfl (Nat.le_of_ble_eq_true rfl) ⟨Nat.le_trans (Nat.le_of_ble_eq_true rfl) hfr, Nat.le_trans (Nat.le_of_ble_eq_true rfl) hlc⟩ ?_
        refine g_ald_n C 0 rfl rfl dX6_weightMovedBy_38 ?_
        refine g_get C dX6_weightMovedBy_39 fl_X6_27 in_7 (ec_7 _ _ _ _ _) rfl ?_
        refine g_ild C 3 rfl dX6_weightMovedBy_42 ?_
        obtain ⟨g18, hf⟩ := gd_some hf
        refine g_iald C dX6_weightMovedBy_44 in_9 (fun _ => ec_9 _ _ _ _ _) g18 ?_
        refine g_ic_le C 59 (by decide) dX6_weightMovedBy_45 (fun h19 => ?_) (fun h19 => ?_)
        · rw [if_pos h19] at hf
          exact g_sub C [0, 1, 2, 3] rfl (hj59 _ _ hf)
        · rw [if_neg h19] at hf
          refine g_lld_n C 2 rfl rfl dX6_weightMovedBy_48 ?_
          refine g_ald_n C 0 rfl rfl dX6_weightMovedBy_49 ?_
          refine g_get C dX6_weightMovedBy_50 fl_X6_30 in_7 (ec_7 _ _ _ _ _) rfl ?_
          refine g_ild C 3 rfl dX6_weightMovedBy_53 ?_
          obtain ⟨g20, hf⟩ := gd_some hf
          refine g_iald C dX6_weightMovedBy_55 in_10 (fun _ => ec_10 _ _ _ _ _) g20 ?_
          refine g_i2l C dX6_weightMovedBy_56 ?_
          refine g_ladd C dX6_weightMovedBy_57 ?_
          refine g_lst_n (lo' := [(2, vl (x2 + (w32 (μ16 10 0 (ix x4))))), (0, vr α 7 0), (1, vi x1), (4, vi x4)]) C rfl (by decide) rfl dX6_weightMovedBy_58 ?_
          exact g_sub C [1, 2, 0, 3] rfl (hj59 _ _ hf)
set_option maxHeartbeats 4000000 in
set_option maxRecDepth 100000 in
theorem b_X6_weightMovedBy {a1 : Int} {μ : Mem} (C : CX p s m args meth c cX6_weightMovedBy 5 RX6 (some .long) D Y LBx (Ar LBx α sz)) (hfr : 3 ≤ R.frames) (hlc : 66 ≤ R.locals)  (hf : f_X6_weightMovedBy a1 μ = some (r, μ')) : GG D Y LBx (Ar LBx α sz) p l e R s m args below meth c 5 (MQ below (Qcx D Y LBx α sz (some (vl r)) (fun a => a = α) μ') args s 0 0 (Ar LBx α sz)) α 0 0 [(0, vr α 7 0), (1, vi a1)] [] μ 0 := by
  unfold f_X6_weightMovedBy at hf
  refine g_lconst (x := 0) C rfl dX6_weightMovedBy_0 ?_
  refine g_lst_n (lo' := [(2, vl 0), (0, vr α 7 0), (1, vi a1)]) C rfl (by decide) rfl dX6_weightMovedBy_1 ?_
  refine g_ald_n C 1 rfl rfl dX6_weightMovedBy_2 ?_
  refine g_get C dX6_weightMovedBy_3 fl_X6_12 in_7 (ec_7 _ _ _ _ _) rfl ?_
  obtain ⟨r1, μ2, hc3, hf⟩ := bn_some hf
  refine g_callVp (As := []) (rest := []) C ⟨Nat.zero_le _, Nat.zero_le _⟩ dX6_weightMovedBy_6 cw_X2_goToFirst m_3_75 m_3_76 m_3_77 in_11 (ec_11 _ _ _ _ _) rfl rfl (c_X2_goToFirst  hc3) rfl rfl (Nat.le_of_ble_eq_true rfl) ⟨Nat.le_trans (Nat.le_of_ble_eq_true rfl) hfr, Nat.le_trans (Nat.le_of_ble_eq_true rfl) hlc⟩ ?_
  refine g_iconst C dX6_weightMovedBy_9 ?_
  refine g_ist (lo' := [(4, vi 0), (2, vl 0), (0, vr α 7 0), (1, vi a1)]) C (by decide) rfl dX6_weightMovedBy_10 ?_
  refine g_sub C [2, 3, 1, 0] rfl (c_X6_weightMovedBy_l12 C hfr hlc   _ _ _ _ hf)
set_option maxHeartbeats 4000000 in
set_option maxRecDepth 100000 in
theorem c_X6_weightMovedBy {l : Launch} {D : va_G} {Y : Nat → ClassId} {α : Adr} {a1 : Int} {μ : Mem} {r : Int} {μ' : Mem}  (hf : f_X6_weightMovedBy a1 μ = some (r, μ')) : Ctr l D Y LBx yX6_weightMovedBy cX6_weightMovedBy 5 (some .long) 3 66 0 0 [vr α 7 0, vi a1] α μ (some (vl r)) (fun a => a = α) μ' := Ctr_of pn_X6 rfl rfl (Nat.le_of_ble_eq_true rfl) LBx_nd (fun p e s m below meth c sz C => b_X6_weightMovedBy C (Nat.le_refl _) (Nat.le_refl _)  hf)
end

/-! EndTeller$Ways.emptyDays -/
def f_X6_emptyDays_L7  : Nat → Int → Mem → Option (Int × Mem)
  | 0, _, _ => none
  | n + 1, x1, μ => (if w32 (μ 7 0 7) < w32 x1 then some (0, μ) else (if w32 4950 < w32 x1 then some (0, μ) else gd (inb x1 4951) (f_X6_emptyDays_L7 n (x1 + 1) (st μ 8 0 (ix x1) 0))))
def f_X6_emptyDays  (μ : Mem) : Option (Int × Mem) := f_X6_emptyDays_L7 FU 0 (st μ 7 0 9 0)
section
variable {p : Program} {l : Launch} {e : Env} {R : Room} {s : State} {m : MethodId} {args : Array Value} {below : List Frame} {meth : Method} {c : Code} {D : va_G} {Y : Nat → ClassId} {α : Adr} {sz : Nat} {r : Int} {μ' : Mem}
set_option maxHeartbeats 4000000 in
set_option maxRecDepth 100000 in
theorem c_X6_emptyDays_l7  (C : CX p s m args meth c cX6_emptyDays 2 RX6 none D Y LBx (Ar LBx α sz)) (hfr : 0 ≤ R.frames) (hlc : 0 ≤ R.locals)    : ∀ (n : Nat) (x1 : Int) (μ : Mem), f_X6_emptyDays_L7 n x1 μ = some (r, μ') → GG D Y LBx (Ar LBx α sz) p l e R s m args below meth c 2 (MQ below (Qcx D Y LBx α sz none (fun a => a = α) μ') args s 0 0 (Ar LBx α sz)) α 0 0 [(0, vr α 7 0), (1, vi x1)] [] μ 7 := by
  intro n
  induction n with
  | zero =>
    intro x1 μ hf
    exact nomatch (show (none : Option (Int × Mem)) = some _ from hf)
  | succ n ih =>
    intro x1 μ hf
    rw [f_X6_emptyDays_L7.eq_2] at hf
    refine g_ild_n C 1 rfl rfl dX6_emptyDays_7 ?_
    refine g_ald_n C 0 rfl rfl dX6_emptyDays_8 ?_
    refine g_get C dX6_emptyDays_9 fl_X6_41 in_7 (ec_7 _ _ _ _ _) rfl ?_
    refine g_ic_gt C 35 (by decide) dX6_emptyDays_12 (fun h1 => ?_) (fun h1 => ?_)
    · rw [if_pos h1] at hf
      exact g_vret C rfl dX6_emptyDays_35 hf
    · rw [if_neg h1] at hf
      refine g_ild_n C 1 rfl rfl dX6_emptyDays_15 ?_
      refine g_sipush C rfl dX6_emptyDays_16 ?_
      refine g_ic_gt C 35 (by decide) dX6_emptyDays_19 (fun h2 => ?_) (fun h2 => ?_)
      · rw [if_pos h2] at hf
        exact g_vret C rfl dX6_emptyDays_35 hf
      · rw [if_neg h2] at hf
        refine g_ald_n C 0 rfl rfl dX6_emptyDays_22 ?_
        refine g_get C dX6_emptyDays_23 fl_X6_23 in_7 (ec_7 _ _ _ _ _) rfl ?_
        refine g_ild_n C 1 rfl rfl dX6_emptyDays_26 ?_
        refine g_iconst C dX6_emptyDays_27 ?_
        obtain ⟨g3, hf⟩ := gd_some hf
        refine g_iast C dX6_emptyDays_28 in_8 (fun _ => ec_8 _ _ _ _ _) (by decide) g3 ?_
        refine g_iinc (lo' := [(1, vi (x1 + 1)), (0, vr α 7 0)]) C 1 rfl (by decide) rfl dX6_emptyDays_29 ?_
        refine g_goto C 7 (by decide) dX6_emptyDays_32 ?_
        exact g_sub C [1, 0] rfl (ih _ _ hf)
set_option maxHeartbeats 4000000 in
set_option maxRecDepth 100000 in
theorem b_X6_emptyDays  {μ : Mem} (C : CX p s m args meth c cX6_emptyDays 2 RX6 none D Y LBx (Ar LBx α sz)) (hfr : 0 ≤ R.frames) (hlc : 0 ≤ R.locals)  (hf : f_X6_emptyDays μ = some (r, μ')) : GG D Y LBx (Ar LBx α sz) p l e R s m args below meth c 2 (MQ below (Qcx D Y LBx α sz none (fun a => a = α) μ') args s 0 0 (Ar LBx α sz)) α 0 0 [(0, vr α 7 0)] [] μ 0 := by
  unfold f_X6_emptyDays at hf
  refine g_ald_n C 0 rfl rfl dX6_emptyDays_0 ?_
  refine g_lconst (x := 0) C rfl dX6_emptyDays_1 ?_
  refine g_putl C dX6_emptyDays_2 fl_X6_48 in_7 (ec_7 _ _ _ _ _) (Nat.le_of_ble_eq_true rfl) rfl (by decide) ?_
  refine g_iconst C dX6_emptyDays_5 ?_
  refine g_ist_n (lo' := [(1, vi 0), (0, vr α 7 0)]) C rfl (by decide) rfl dX6_emptyDays_6 ?_
  refine g_sub C [1, 0] rfl (c_X6_emptyDays_l7 C hfr hlc   _ _ _ hf)
set_option maxHeartbeats 4000000 in
set_option maxRecDepth 100000 in
theorem c_X6_emptyDays {l : Launch} {D : va_G} {Y : Nat → ClassId} {α : Adr}  {μ : Mem} {r : Int} {μ' : Mem}  (hf : f_X6_emptyDays μ = some (r, μ')) : Ctr l D Y LBx yX6_emptyDays cX6_emptyDays 2 none 0 0 0 0 [vr α 7 0] α μ none (fun a => a = α) μ' := Ctr_of pn_X6 rfl rfl (Nat.le_of_ble_eq_true rfl) LBx_nd (fun p e s m below meth c sz C => b_X6_emptyDays C (Nat.le_refl _) (Nat.le_refl _)  hf)
end

/-! EndTeller$Ways.gather -/
def f_X6_gather (a1 : Int) (μ : Mem) : Option (Int × Mem) := gd (inb a1 (μ 28 0 0).toNat) ((if w32 (μ 9 0 (ix a1)) < 0 then some (0, μ) else (if w32 4950 < w32 (μ 9 0 (ix a1)) then some (0, μ) else gd (inb (μ 9 0 (ix a1)) 4951) (gd (inb a1 (μ 28 0 0).toNat) (gd (inb (μ 9 0 (ix a1)) 4951) (gd (inb a1 ((st μ 8 0 (ix (μ 9 0 (ix a1))) ((μ 8 0 (ix (μ 9 0 (ix a1)))) + (μ 10 0 (ix a1)))) 28 0 0).toNat) (some (0, (st (st μ 8 0 (ix (μ 9 0 (ix a1))) ((μ 8 0 (ix (μ 9 0 (ix a1)))) + (μ 10 0 (ix a1)))) 7 0 9 (((st μ 8 0 (ix (μ 9 0 (ix a1))) ((μ 8 0 (ix (μ 9 0 (ix a1)))) + (μ 10 0 (ix a1)))) 7 0 9) + (w32 ((st μ 8 0 (ix (μ 9 0 (ix a1))) ((μ 8 0 (ix (μ 9 0 (ix a1)))) + (μ 10 0 (ix a1)))) 10 0 (ix a1)))))))))))))
section
variable {p : Program} {l : Launch} {e : Env} {R : Room} {s : State} {m : MethodId} {args : Array Value} {below : List Frame} {meth : Method} {c : Code} {D : va_G} {Y : Nat → ClassId} {α : Adr} {sz : Nat} {r : Int} {μ' : Mem}
set_option maxHeartbeats 4000000 in
set_option maxRecDepth 100000 in
theorem b_X6_gather {a1 : Int} {μ : Mem} (C : CX p s m args meth c cX6_gather 3 RX6 none D Y LBx (Ar LBx α sz)) (hfr : 0 ≤ R.frames) (hlc : 0 ≤ R.locals)  (hf : f_X6_gather a1 μ = some (r, μ')) : GG D Y LBx (Ar LBx α sz) p l e R s m args below meth c 3 (MQ below (Qcx D Y LBx α sz none (fun a => a = α) μ') args s 0 0 (Ar LBx α sz)) α 0 0 [(0, vr α 7 0), (1, vi a1)] [] μ 0 := by
  unfold f_X6_gather at hf
  refine g_ald_n C 0 rfl rfl dX6_gather_0 ?_
  refine g_get C dX6_gather_1 fl_X6_27 in_7 (ec_7 _ _ _ _ _) rfl ?_
  refine g_ild_n C 1 rfl rfl dX6_gather_4 ?_
  obtain ⟨g1, hf⟩ := gd_some hf
  refine g_iald C dX6_gather_5 in_9 (fun _ => ec_9 _ _ _ _ _) g1 ?_
  refine g_ist_n (lo' := [(2, vi (μ 9 0 (ix a1))), (0, vr α 7 0), (1, vi a1)]) C rfl (by decide) rfl dX6_gather_6 ?_
  refine g_ild_n C 0 rfl rfl dX6_gather_7 ?_
  refine g_if_lt C 49 (by decide) dX6_gather_8 (fun h2 => ?_) (fun h2 => ?_)
  · rw [if_pos h2] at hf
    exact g_vret C rfl dX6_gather_49 hf
  · rw [if_neg h2] at hf
    refine g_ild_n C 0 rfl rfl dX6_gather_11 ?_
    refine g_sipush C rfl dX6_gather_12 ?_
    refine g_ic_gt C 49 (by decide) dX6_gather_15 (fun h3 => ?_) (fun h3 => ?_)
    · rw [if_pos h3] at hf
      exact g_vret C rfl dX6_gather_49 hf
    · rw [if_neg h3] at hf
      refine g_ald_n C 1 rfl rfl dX6_gather_18 ?_
      refine g_get C dX6_gather_19 fl_X6_23 in_7 (ec_7 _ _ _ _ _) rfl ?_
      refine g_ild_n C 0 rfl rfl dX6_gather_22 ?_
      refine g_dup2 C rfl rfl dX6_gather_23 ?_
      obtain ⟨g4, hf⟩ := gd_some hf
      refine g_iald C dX6_gather_24 in_8 (fun _ => ec_8 _ _ _ _ _) g4 ?_
      refine g_ald_n C 1 rfl rfl dX6_gather_25 ?_
      refine g_get C dX6_gather_26 fl_X6_30 in_7 (ec_7 _ _ _ _ _) rfl ?_
      refine g_ild_n C 2 rfl rfl dX6_gather_29 ?_
      obtain ⟨g5, hf⟩ := gd_some hf
      refine g_iald C dX6_gather_30 in_10 (fun _ => ec_10 _ _ _ _ _) g5 ?_
      refine g_iadd C dX6_gather_31 ?_
      obtain ⟨g6, hf⟩ := gd_some hf
      refine g_iast C dX6_gather_32 in_8 (fun _ => ec_8 _ _ _ _ _) (by decide) g6 ?_
      refine g_ald_n C 1 rfl rfl dX6_gather_33 ?_
      refine g_dup C rfl dX6_gather_34 ?_
      refine g_get C dX6_gather_35 fl_X6_48 in_7 (ec_7 _ _ _ _ _) rfl ?_
      refine g_ald_n C 1 rfl rfl dX6_gather_38 ?_
      refine g_get C dX6_gather_39 fl_X6_30 in_7 (ec_7 _ _ _ _ _) rfl ?_
      refine g_ild_n C 2 rfl rfl dX6_gather_42 ?_
      obtain ⟨g7, hf⟩ := gd_some hf
      refine g_iald C dX6_gather_43 in_10 (fun _ => ec_10 _ _ _ _ _) g7 ?_
      refine g_i2l C dX6_gather_44 ?_
      refine g_ladd C dX6_gather_45 ?_
      refine g_putl C dX6_gather_46 fl_X6_48 in_7 (ec_7 _ _ _ _ _) (Nat.le_of_ble_eq_true rfl) rfl (by decide) ?_
      exact g_vret C rfl dX6_gather_49 hf
set_option maxHeartbeats 4000000 in
set_option maxRecDepth 100000 in
theorem c_X6_gather {l : Launch} {D : va_G} {Y : Nat → ClassId} {α : Adr} {a1 : Int} {μ : Mem} {r : Int} {μ' : Mem}  (hf : f_X6_gather a1 μ = some (r, μ')) : Ctr l D Y LBx yX6_gather cX6_gather 3 none 0 0 0 0 [vr α 7 0, vi a1] α μ none (fun a => a = α) μ' := Ctr_of pn_X6 rfl rfl (Nat.le_of_ble_eq_true rfl) LBx_nd (fun p e s m below meth c sz C => b_X6_gather C (Nat.le_refl _) (Nat.le_refl _)  hf)
end

/-! EndTeller$Ways.gatherAll -/
def f_X6_gatherAll_L6  : Nat → Int → Mem → Option (Int × Mem)
  | 0, _, _ => none
  | n + 1, x1, μ => (if w32 (μ 7 0 6) ≤ w32 x1 then some (0, μ) else bn (f_X6_gather x1 μ) (fun r5 μ6 => f_X6_gatherAll_L6 n (x1 + 1) μ6))
def f_X6_gatherAll  (μ : Mem) : Option (Int × Mem) := bn (f_X6_emptyDays  μ) (fun r1 μ2 => f_X6_gatherAll_L6 FU 0 μ2)
section
variable {p : Program} {l : Launch} {e : Env} {R : Room} {s : State} {m : MethodId} {args : Array Value} {below : List Frame} {meth : Method} {c : Code} {D : va_G} {Y : Nat → ClassId} {α : Adr} {sz : Nat} {r : Int} {μ' : Mem}
set_option maxHeartbeats 4000000 in
set_option maxRecDepth 100000 in
theorem c_X6_gatherAll_l6  (C : CX p s m args meth c cX6_gatherAll 2 RX6 none D Y LBx (Ar LBx α sz)) (hfr : 1 ≤ R.frames) (hlc : 22 ≤ R.locals)    : ∀ (n : Nat) (x1 : Int) (μ : Mem), f_X6_gatherAll_L6 n x1 μ = some (r, μ') → GG D Y LBx (Ar LBx α sz) p l e R s m args below meth c 2 (MQ below (Qcx D Y LBx α sz none (fun a => a = α) μ') args s 0 0 (Ar LBx α sz)) α 0 0 [(0, vr α 7 0), (1, vi x1)] [] μ 6 := by
  intro n
  induction n with
  | zero =>
    intro x1 μ hf
    exact nomatch (show (none : Option (Int × Mem)) = some _ from hf)
  | succ n ih =>
    intro x1 μ hf
    rw [f_X6_gatherAll_L6.eq_2] at hf
    refine g_ild_n C 1 rfl rfl dX6_gatherAll_6 ?_
    refine g_ald_n C 0 rfl rfl dX6_gatherAll_7 ?_
    refine g_get C dX6_gatherAll_8 fl_X6_37 in_7 (ec_7 _ _ _ _ _) rfl ?_
    refine g_ic_ge C 25 (by decide) dX6_gatherAll_11 (fun h4 => ?_) (fun h4 => ?_)
    · rw [if_pos h4] at hf
      exact g_vret C rfl dX6_gatherAll_25 hf
    · rw [if_neg h4] at hf
      refine g_ald_n C 0 rfl rfl dX6_gatherAll_14 ?_
      refine g_ild_n C 1 rfl rfl dX6_gatherAll_15 ?_
      obtain ⟨r5, μ6, hc7, hf⟩ := bn_some hf
      refine g_callVp (As := [vi x1]) (rest := []) C ⟨Nat.zero_le _, Nat.zero_le _⟩ dX6_gatherAll_16 cw_X6_gather m_3_151 m_3_152 m_3_153 in_7 (ec_7 _ _ _ _ _) rfl rfl (c_X6_gather  hc7) rfl rfl (Nat.le_of_ble_eq_true rfl) ⟨Nat.le_trans (Nat.le_of_ble_eq_true rfl) hfr, Nat.le_trans (Nat.le_of_ble_eq_true rfl) hlc⟩ ?_
      refine g_iinc (lo' := [(1, vi (x1 + 1)), (0, vr α 7 0)]) C 1 rfl (by decide) rfl dX6_gatherAll_19 ?_
      refine g_goto C 6 (by decide) dX6_gatherAll_22 ?_
      exact g_sub C [1, 0] rfl (ih _ _ hf)
set_option maxHeartbeats 4000000 in
set_option maxRecDepth 100000 in
theorem b_X6_gatherAll  {μ : Mem} (C : CX p s m args meth c cX6_gatherAll 2 RX6 none D Y LBx (Ar LBx α sz)) (hfr : 1 ≤ R.frames) (hlc : 22 ≤ R.locals)  (hf : f_X6_gatherAll μ = some (r, μ')) : GG D Y LBx (Ar LBx α sz) p l e R s m args below meth c 2 (MQ below (Qcx D Y LBx α sz none (fun a => a = α) μ') args s 0 0 (Ar LBx α sz)) α 0 0 [(0, vr α 7 0)] [] μ 0 := by
  unfold f_X6_gatherAll at hf
  refine g_ald_n C 0 rfl rfl dX6_gatherAll_0 ?_
  obtain ⟨r1, μ2, hc3, hf⟩ := bn_some hf
  refine g_callVp (As := []) (rest := []) C ⟨Nat.zero_le _, Nat.zero_le _⟩ dX6_gatherAll_1 cw_X6_emptyDays m_3_147 m_3_148 m_3_149 in_7 (ec_7 _ _ _ _ _) rfl rfl (c_X6_emptyDays  hc3) rfl rfl (Nat.le_of_ble_eq_true rfl) ⟨Nat.le_trans (Nat.le_of_ble_eq_true rfl) hfr, Nat.le_trans (Nat.le_of_ble_eq_true rfl) hlc⟩ ?_
  refine g_iconst C dX6_gatherAll_4 ?_
  refine g_ist_n (lo' := [(1, vi 0), (0, vr α 7 0)]) C rfl (by decide) rfl dX6_gatherAll_5 ?_
  refine g_sub C [1, 0] rfl (c_X6_gatherAll_l6 C hfr hlc   _ _ _ hf)
set_option maxHeartbeats 4000000 in
set_option maxRecDepth 100000 in
theorem c_X6_gatherAll {l : Launch} {D : va_G} {Y : Nat → ClassId} {α : Adr}  {μ : Mem} {r : Int} {μ' : Mem}  (hf : f_X6_gatherAll μ = some (r, μ')) : Ctr l D Y LBx yX6_gatherAll cX6_gatherAll 2 none 1 22 0 0 [vr α 7 0] α μ none (fun a => a = α) μ' := Ctr_of pn_X6 rfl rfl (Nat.le_of_ble_eq_true rfl) LBx_nd (fun p e s m below meth c sz C => b_X6_gatherAll C (Nat.le_refl _) (Nat.le_refl _)  hf)
end

/-! EndTeller$Ways.leastDayAtRisk -/
def f_X6_leastDayAtRisk_L12 (x1 : Int) (x2 : Int) : Nat → Int → Int → Mem → Option (Int × Mem)
  | 0, _, _, _ => none
  | n + 1, x3, x5, μ => (if w32 (μ 7 0 7) ≤ w32 x5 then some ((μ 7 0 7), μ) else (if w32 4950 < w32 x5 then some ((μ 7 0 7), μ) else gd (inb x5 4951) ((if w64 ((w32 x1) * (μ 7 0 8)) < w64 ((x3 - (w32 (μ 8 0 (ix x5)))) * (w32 x2)) then f_X6_leastDayAtRisk_L12 x1 x2 n (x3 - (w32 (μ 8 0 (ix x5)))) (x5 + 1) μ else some (x5, μ)))))
def f_X6_leastDayAtRisk (a1 : Int) (a2 : Int) (μ : Mem) : Option (Int × Mem) := bn (f_X6_gatherAll  μ) (fun r1 μ2 => f_X6_leastDayAtRisk_L12 a1 a2 FU (μ2 7 0 8) 0 μ2)
section
variable {p : Program} {l : Launch} {e : Env} {R : Room} {s : State} {m : MethodId} {args : Array Value} {below : List Frame} {meth : Method} {c : Code} {D : va_G} {Y : Nat → ClassId} {α : Adr} {sz : Nat} {r : Int} {μ' : Mem}
set_option maxHeartbeats 4000000 in
set_option maxRecDepth 100000 in
theorem c_X6_leastDayAtRisk_l12 {x1 : Int} {x2 : Int} (C : CX p s m args meth c cX6_leastDayAtRisk 6 RX6 (some .int) D Y LBx (Ar LBx α sz)) (hfr : 2 ≤ R.frames) (hlc : 43 ≤ R.locals)    : ∀ (n : Nat) (x3 x5 : Int) (μ : Mem), f_X6_leastDayAtRisk_L12 x1 x2 n x3 x5 μ = some (r, μ') → GG D Y LBx (Ar LBx α sz) p l e R s m args below meth c 6 (MQ below (Qcx D Y LBx α sz (some (vi r)) (fun a => a = α) μ') args s 0 0 (Ar LBx α sz)) α 0 0 [(0, vr α 7 0), (1, vi x1), (2, vi x2), (3, vl x3), (5, vi x5)] [] μ 12 := by
  intro n
  induction n with
  | zero =>
    intro x3 x5 μ hf
    exact nomatch (show (none : Option (Int × Mem)) = some _ from hf)
  | succ n ih =>
    intro x3 x5 μ hf
    rw [f_X6_leastDayAtRisk_L12.eq_2] at hf
    refine g_ild C 4 rfl dX6_leastDayAtRisk_12 ?_
    refine g_ald_n C 0 rfl rfl dX6_leastDayAtRisk_14 ?_
    refine g_get C dX6_leastDayAtRisk_15 fl_X6_41 in_7 (ec_7 _ _ _ _ _) rfl ?_
    refine g_ic_ge C 64 (by decide) dX6_leastDayAtRisk_18 (fun h4 => ?_) (fun h4 => ?_)
    · rw [if_pos h4] at hf
      refine g_ald_n C 0 rfl rfl dX6_leastDayAtRisk_64 ?_
      refine g_get C dX6_leastDayAtRisk_65 fl_X6_41 in_7 (ec_7 _ _ _ _ _) rfl ?_
      exact g_iret C rfl dX6_leastDayAtRisk_68 hf
    · rw [if_neg h4] at hf
      refine g_ild C 4 rfl dX6_leastDayAtRisk_21 ?_
      refine g_sipush C rfl dX6_leastDayAtRisk_23 ?_
      refine g_ic_gt C 64 (by decide) dX6_leastDayAtRisk_26 (fun h5 => ?_) (fun h5 => ?_)
      · rw [if_pos h5] at hf
        refine g_ald_n C 0 rfl rfl dX6_leastDayAtRisk_64 ?_
        refine g_get C dX6_leastDayAtRisk_65 fl_X6_41 in_7 (ec_7 _ _ _ _ _) rfl ?_
        exact g_iret C rfl dX6_leastDayAtRisk_68 hf
      · rw [if_neg h5] at hf
        refine g_lld_n C 3 rfl rfl dX6_leastDayAtRisk_29 ?_
        refine g_ald_n C 0 rfl rfl dX6_leastDayAtRisk_30 ?_
        refine g_get C dX6_leastDayAtRisk_31 fl_X6_23 in_7 (ec_7 _ _ _ _ _) rfl ?_
        refine g_ild C 4 rfl dX6_leastDayAtRisk_34 ?_
        obtain ⟨g6, hf⟩ := gd_some hf
        refine g_iald C dX6_leastDayAtRisk_36 in_8 (fun _ => ec_8 _ _ _ _ _) g6 ?_
        refine g_i2l C dX6_leastDayAtRisk_37 ?_
        refine g_lsub C dX6_leastDayAtRisk_38 ?_
        refine g_lst_n (lo' := [(3, vl (x3 - (w32 (μ 8 0 (ix x5))))), (0, vr α 7 0), (1, vi x1), (2, vi x2), (5, vi x5)]) C rfl (by decide) rfl dX6_leastDayAtRisk_39 ?_
        refine g_lld_n C 0 rfl rfl dX6_leastDayAtRisk_40 ?_
        refine g_ild_n C 3 rfl rfl dX6_leastDayAtRisk_41 ?_
        refine g_i2l C dX6_leastDayAtRisk_42 ?_
        refine g_lmul C dX6_leastDayAtRisk_43 ?_
        refine g_ild_n C 2 rfl rfl dX6_leastDayAtRisk_44 ?_
        refine g_i2l C dX6_leastDayAtRisk_45 ?_
        refine g_ald_n C 1 rfl rfl dX6_leastDayAtRisk_46 ?_
        refine g_get C dX6_leastDayAtRisk_47 fl_X6_44 in_7 (ec_7 _ _ _ _ _) rfl ?_
        refine g_lmul C dX6_leastDayAtRisk_50 ?_
        refine g_lc_gt C 58 (by decide) dX6_leastDayAtRisk_51 dX6_leastDayAtRisk_52 (fun h7 => ?_) (fun h7 => ?_)
        · rw [if_pos h7] at hf
          refine g_iinc (lo' := [(5, vi (x5 + 1)), (3, vl (x3 - (w32 (μ 8 0 (ix x5))))), (0, vr α 7 0), (1, vi x1), (2, vi x2)]) C 4 rfl (by decide) rfl dX6_leastDayAtRisk_58 ?_
          refine g_goto C 12 (by decide) dX6_leastDayAtRisk_61 ?_
          exact g_sub C [2, 3, 4, 1, 0] rfl (ih _ _ _ hf)
        · rw [if_neg h7] at hf
          refine g_ild C 4 rfl dX6_leastDayAtRisk_55 ?_
          exact g_iret C rfl dX6_leastDayAtRisk_57 hf
set_option maxHeartbeats 4000000 in
set_option maxRecDepth 100000 in
theorem b_X6_leastDayAtRisk {a1 : Int} {a2 : Int} {μ : Mem} (C : CX p s m args meth c cX6_leastDayAtRisk 6 RX6 (some .int) D Y LBx (Ar LBx α sz)) (hfr : 2 ≤ R.frames) (hlc : 43 ≤ R.locals)  (hf : f_X6_leastDayAtRisk a1 a2 μ = some (r, μ')) : GG D Y LBx (Ar LBx α sz) p l e R s m args below meth c 6 (MQ below (Qcx D Y LBx α sz (some (vi r)) (fun a => a = α) μ') args s 0 0 (Ar LBx α sz)) α 0 0 [(0, vr α 7 0), (1, vi a1), (2, vi a2)] [] μ 0 := by
  unfold f_X6_leastDayAtRisk at hf
  refine g_ald_n C 0 rfl rfl dX6_leastDayAtRisk_0 ?_
  obtain ⟨r1, μ2, hc3, hf⟩ := bn_some hf
  refine g_callVp (As := []) (rest := []) C ⟨Nat.zero_le _, Nat.zero_le _⟩ dX6_leastDayAtRisk_1 cw_X6_gatherAll m_3_143 m_3_144 m_3_145 in_7 (ec_7 _ _ _ _ _) rfl rfl (c_X6_gatherAll  hc3) rfl rfl (Nat.le_of_ble_eq_true rfl) ⟨Nat.le_trans (Nat.le_of_ble_eq_true rfl) hfr, Nat.le_trans (Nat.le_of_ble_eq_true rfl) hlc⟩ ?_
  refine g_ald_n C 0 rfl rfl dX6_leastDayAtRisk_4 ?_
  refine g_get C dX6_leastDayAtRisk_5 fl_X6_44 in_7 (ec_7 _ _ _ _ _) rfl ?_
  refine g_lst_n (lo' := [(3, vl (μ2 7 0 8)), (0, vr α 7 0), (1, vi a1), (2, vi a2)]) C rfl (by decide) rfl dX6_leastDayAtRisk_8 ?_
  refine g_iconst C dX6_leastDayAtRisk_9 ?_
  refine g_ist (lo' := [(5, vi 0), (3, vl (μ2 7 0 8)), (0, vr α 7 0), (1, vi a1), (2, vi a2)]) C (by decide) rfl dX6_leastDayAtRisk_10 ?_
  refine g_sub C [2, 3, 4, 1, 0] rfl (c_X6_leastDayAtRisk_l12 C hfr hlc   _ _ _ _ hf)
set_option maxHeartbeats 4000000 in
set_option maxRecDepth 100000 in
theorem c_X6_leastDayAtRisk {l : Launch} {D : va_G} {Y : Nat → ClassId} {α : Adr} {a1 : Int} {a2 : Int} {μ : Mem} {r : Int} {μ' : Mem}  (hf : f_X6_leastDayAtRisk a1 a2 μ = some (r, μ')) : Ctr l D Y LBx yX6_leastDayAtRisk cX6_leastDayAtRisk 6 (some .int) 2 43 0 0 [vr α 7 0, vi a1, vi a2] α μ (some (vi r)) (fun a => a = α) μ' := Ctr_of pn_X6 rfl rfl (Nat.le_of_ble_eq_true rfl) LBx_nd (fun p e s m below meth c sz C => b_X6_leastDayAtRisk C (Nat.le_refl _) (Nat.le_refl _)  hf)
end

/-! EndTeller$Ways.gatherRow -/
def f_X6_gatherRow_L54 (x3 : Int) (x4 : Int) (x5 : Int) (k84 : Mem → Option (Int × Mem)) : Nat → Int → Mem → Option (Int × Mem)
  | 0, _, _ => none
  | n + 1, x6, μ => (if w32 (x5 + x3) ≤ w32 x6 then k84  μ else (if w32 (μ 7 0 6) ≤ w32 x6 then k84  μ else bn (f_X6_gather x6 μ) (fun r12 μ13 => f_X6_gatherRow_L54 x3 x4 x5 k84 n (x6 + 1) μ13)))
def f_X6_gatherRow_L41 (x3 : Int) (x4 : Int) : Nat → Int → Mem → Option (Int × Mem)
  | 0, _, _ => none
  | n + 1, x5, μ => (if w32 (μ 7 0 6) ≤ w32 x5 then some (0, μ) else f_X6_gatherRow_L54 x3 x4 x5 (fun μ15 => f_X6_gatherRow_L41 x3 x4 n (x5 + x4) μ15) FU x5 μ)
def f_X6_gatherRow (a1 : Int) (a2 : Int) (μ : Mem) : Option (Int × Mem) := bn (f_X6_emptyDays  μ) (fun r1 μ2 => bn (f_X7_rowsAhead a1 μ2) (fun r4 μ5 => gd (inb a1 10) ((if w32 1 ≤ w32 (r4 * (μ5 17 (ix a1) 3)) then f_X6_gatherRow_L41 r4 (r4 * (μ5 17 (ix a1) 3)) FU (a2 * r4) μ5 else some (0, μ5)))))
section
variable {p : Program} {l : Launch} {e : Env} {R : Room} {s : State} {m : MethodId} {args : Array Value} {below : List Frame} {meth : Method} {c : Code} {D : va_G} {Y : Nat → ClassId} {α : Adr} {sz : Nat} {r : Int} {μ' : Mem}
set_option maxHeartbeats 4000000 in
set_option maxRecDepth 100000 in
theorem c_X6_gatherRow_l54 {x3 : Int} {x4 : Int} {x5 : Int} {k84 : Mem → Option (Int × Mem)} (C : CX p s m args meth c cX6_gatherRow 7 RX6 none D Y LBx (Ar LBx α sz)) (hfr : 1 ≤ R.frames) (hlc : 23 ≤ R.locals)  (hk84 : ∀ (μ : Mem), k84 μ = some (r, μ') → GG D Y LBx (Ar LBx α sz) p l e R s m args below meth c 7 (MQ below (Qcx D Y LBx α sz none (fun a => a = α) μ') args s 0 0 (Ar LBx α sz)) α 0 0 [(0, vr α 7 0), (3, vi x3), (4, vi x4), (5, vi x5)] [] μ 84)  : ∀ (n : Nat) (x6 : Int) (μ : Mem), f_X6_gatherRow_L54 x3 x4 x5 k84 n x6 μ = some (r, μ') → GG D Y LBx (Ar LBx α sz) p l e R s m args below meth c 7 (MQ below (Qcx D Y LBx α sz none (fun a => a = α) μ') args s 0 0 (Ar LBx α sz)) α 0 0 [(0, vr α 7 0), (3, vi x3), (4, vi x4), (5, vi x5), (6, vi x6)] [] μ 54 := by
  intro n
  induction n with
  | zero =>
    intro x6 μ hf
    exact nomatch (show (none : Option (Int × Mem)) = some _ from hf)
  | succ n ih =>
    intro x6 μ hf
    rw [f_X6_gatherRow_L54.eq_2] at hf
    refine g_ild C 4 rfl dX6_gatherRow_54 ?_
    refine g_ild C 3 rfl dX6_gatherRow_56 ?_
    refine g_ild_n C 1 rfl rfl dX6_gatherRow_58 ?_
    refine g_iadd C dX6_gatherRow_59 ?_
    refine g_ic_ge C 84 (by decide) dX6_gatherRow_60 (fun h10 => ?_) (fun h10 => ?_)
    · rw [if_pos h10] at hf
      exact g_sub C [0, 1, 2, 3] rfl (hk84 _ hf)
    · rw [if_neg h10] at hf
      refine g_ild C 4 rfl dX6_gatherRow_63 ?_
      refine g_ald_n C 0 rfl rfl dX6_gatherRow_65 ?_
      refine g_get C dX6_gatherRow_66 fl_X6_37 in_7 (ec_7 _ _ _ _ _) rfl ?_
      refine g_ic_ge C 84 (by decide) dX6_gatherRow_69 (fun h11 => ?_) (fun h11 => ?_)
      · rw [if_pos h11] at hf
        exact g_sub C [0, 1, 2, 3] rfl (hk84 _ hf)
      · rw [if_neg h11] at hf
        refine g_ald_n C 0 rfl rfl dX6_gatherRow_72 ?_
        refine g_ild C 4 rfl dX6_gatherRow_73 ?_
        obtain ⟨r12, μ13, hc14, hf⟩ := bn_some hf
        refine g_callVp (As := [vi x6]) (rest := []) C ⟨Nat.zero_le _, Nat.zero_le _⟩ dX6_gatherRow_75 cw_X6_gather m_3_151 m_3_152 m_3_153 in_7 (ec_7 _ _ _ _ _) rfl rfl (c_X6_gather  hc14) rfl rfl (Nat.le_of_ble_eq_true rfl) ⟨Nat.le_trans (Nat.le_of_ble_eq_true rfl) hfr, Nat.le_trans (Nat.le_of_ble_eq_true rfl) hlc⟩ ?_
        refine g_iinc (lo' := [(6, vi (x6 + 1)), (0, vr α 7 0), (3, vi x3), (4, vi x4), (5, vi x5)]) C 4 rfl (by decide) rfl dX6_gatherRow_78 ?_
        refine g_goto C 54 (by decide) dX6_gatherRow_81 ?_
        exact g_sub C [1, 2, 3, 4, 0] rfl (ih _ _ hf)
set_option maxHeartbeats 4000000 in
set_option maxRecDepth 100000 in
theorem c_X6_gatherRow_l41 {x3 : Int} {x4 : Int} (C : CX p s m args meth c cX6_gatherRow 7 RX6 none D Y LBx (Ar LBx α sz)) (hfr : 1 ≤ R.frames) (hlc : 23 ≤ R.locals)    : ∀ (n : Nat) (x5 : Int) (μ : Mem), f_X6_gatherRow_L41 x3 x4 n x5 μ = some (r, μ') → GG D Y LBx (Ar LBx α sz) p l e R s m args below meth c 7 (MQ below (Qcx D Y LBx α sz none (fun a => a = α) μ') args s 0 0 (Ar LBx α sz)) α 0 0 [(0, vr α 7 0), (3, vi x3), (4, vi x4), (5, vi x5)] [] μ 41 := by
  intro n
  induction n with
  | zero =>
    intro x5 μ hf
    exact nomatch (show (none : Option (Int × Mem)) = some _ from hf)
  | succ n ih =>
    intro x5 μ hf
    rw [f_X6_gatherRow_L41.eq_2] at hf
    refine g_ild C 3 rfl dX6_gatherRow_41 ?_
    refine g_ald_n C 0 rfl rfl dX6_gatherRow_43 ?_
    refine g_get C dX6_gatherRow_44 fl_X6_37 in_7 (ec_7 _ _ _ _ _) rfl ?_
    refine g_ic_ge C 94 (by decide) dX6_gatherRow_47 (fun h9 => ?_) (fun h9 => ?_)
    · rw [if_pos h9] at hf
      exact g_vret C rfl dX6_gatherRow_94 hf
    · rw [if_neg h9] at hf
      refine g_ild C 3 rfl dX6_gatherRow_50 ?_
      refine g_ist (lo' := [(6, vi x5), (0, vr α 7 0), (3, vi x3), (4, vi x4), (5, vi x5)]) C (by decide) rfl dX6_gatherRow_52 ?_
      refine g_sub C [1, 2, 3, 4, 0] rfl (c_X6_gatherRow_l54 C hfr hlc  (fun μ15 hf => ?_) _ _ _ hf)
      refine g_ild C 3 rfl dX6_gatherRow_84 ?_
      refine g_ild C 2 rfl dX6_gatherRow_86 ?_
      refine g_iadd C dX6_gatherRow_88 ?_
      refine g_ist (lo' := [(5, vi (x5 + x4)), (0, vr α 7 0), (3, vi x3), (4, vi x4)]) C (by decide) rfl dX6_gatherRow_89 ?_
      refine g_goto C 41 (by decide) dX6_gatherRow_91 ?_
      exact g_sub C [1, 2, 3, 0] rfl (ih _ _ hf)
set_option maxHeartbeats 4000000 in
set_option maxRecDepth 100000 in
theorem b_X6_gatherRow {a1 : Int} {a2 : Int} {μ : Mem} (C : CX p s m args meth c cX6_gatherRow 7 RX6 none D Y LBx (Ar LBx α sz)) (hfr : 1 ≤ R.frames) (hlc : 23 ≤ R.locals)  (hf : f_X6_gatherRow a1 a2 μ = some (r, μ')) : GG D Y LBx (Ar LBx α sz) p l e R s m args below meth c 7 (MQ below (Qcx D Y LBx α sz none (fun a => a = α) μ') args s 0 0 (Ar LBx α sz)) α 0 0 [(0, vr α 7 0), (1, vi a1), (2, vi a2)] [] μ 0 := by
  unfold f_X6_gatherRow at hf
  refine g_ald_n C 0 rfl rfl dX6_gatherRow_0 ?_
  obtain ⟨r1, μ2, hc3, hf⟩ := bn_some hf
  refine g_callVp (As := []) (rest := []) C ⟨Nat.zero_le _, Nat.zero_le _⟩ dX6_gatherRow_1 cw_X6_emptyDays m_3_147 m_3_148 m_3_149 in_7 (ec_7 _ _ _ _ _) rfl rfl (c_X6_emptyDays  hc3) rfl rfl (Nat.le_of_ble_eq_true rfl) ⟨Nat.le_trans (Nat.le_of_ble_eq_true rfl) hfr, Nat.le_trans (Nat.le_of_ble_eq_true rfl) hlc⟩ ?_
  refine g_ald_n C 0 rfl rfl dX6_gatherRow_4 ?_
  refine g_get C dX6_gatherRow_5 fl_X6_22 in_7 (ec_7 _ _ _ _ _) rfl ?_
  refine g_ild_n C 1 rfl rfl dX6_gatherRow_8 ?_
  obtain ⟨r4, μ5, hc6, hf⟩ := bn_some hf
  refine g_callVp (As := [vi a1]) (rest := []) C ⟨Nat.zero_le _, Nat.zero_le _⟩ dX6_gatherRow_9 cw_X7_rowsAhead m_3_186 m_3_45 m_3_46 in_15 (ec_15 _ _ _ _ _) rfl rfl (c_X7_rowsAhead  hc6) rfl rfl (Nat.le_of_ble_eq_true rfl) ⟨Nat.le_trans (Nat.le_of_ble_eq_true rfl) hfr, Nat.le_trans (Nat.le_of_ble_eq_true rfl) hlc⟩ ?_
  refine g_ist_n (lo' := [(3, vi r4), (0, vr α 7 0), (1, vi a1), (2, vi a2)]) C rfl (by decide) rfl dX6_gatherRow_12 ?_
  refine g_ild_n C 0 rfl rfl dX6_gatherRow_13 ?_
  refine g_ald_n C 1 rfl rfl dX6_gatherRow_14 ?_
  refine g_get C dX6_gatherRow_15 fl_X6_22 in_7 (ec_7 _ _ _ _ _) rfl ?_
  refine g_get C dX6_gatherRow_18 fl_X6_106 in_15 (ec_15 _ _ _ _ _) rfl ?_
  refine g_ild_n C 2 rfl rfl dX6_gatherRow_21 ?_
  obtain ⟨g7, hf⟩ := gd_some hf
  refine g_aaldI C dX6_gatherRow_22 in_16 (fun _ => ec_16 _ _ _ _ _) rfl g7 ?_
  refine g_get C dX6_gatherRow_23 fl_X6_110 (in_17 (inb_ix g7)) (ec_17 _ _ _ _ _) rfl ?_
  refine g_imul C dX6_gatherRow_26 ?_
  refine g_ist (lo' := [(4, vi (r4 * (μ5 17 (ix a1) 3))), (3, vi r4), (0, vr α 7 0), (1, vi a1), (2, vi a2)]) C (by decide) rfl dX6_gatherRow_27 ?_
  refine g_ild C 0 rfl dX6_gatherRow_29 ?_
  refine g_iconst C dX6_gatherRow_31 ?_
  refine g_ic_ge C 36 (by decide) dX6_gatherRow_32 (fun h8 => ?_) (fun h8 => ?_)
  · rw [if_pos h8] at hf
    refine g_ild_n C 4 rfl rfl dX6_gatherRow_36 ?_
    refine g_ild_n C 1 rfl rfl dX6_gatherRow_37 ?_
    refine g_imul C dX6_gatherRow_38 ?_
    refine g_ist (lo' := [(5, vi (a2 * r4)), (4, vi (r4 * (μ5 17 (ix a1) 3))), (3, vi r4), (0, vr α 7 0), (1, vi a1), (2, vi a2)]) C (by decide) rfl dX6_gatherRow_39 ?_
    refine g_sub C [3, 2, 1, 0] rfl (c_X6_gatherRow_l41 C hfr hlc   _ _ _ hf)
  · rw [if_neg h8] at hf
    exact g_vret C rfl dX6_gatherRow_35 hf
set_option maxHeartbeats 4000000 in
set_option maxRecDepth 100000 in
theorem c_X6_gatherRow {l : Launch} {D : va_G} {Y : Nat → ClassId} {α : Adr} {a1 : Int} {a2 : Int} {μ : Mem} {r : Int} {μ' : Mem}  (hf : f_X6_gatherRow a1 a2 μ = some (r, μ')) : Ctr l D Y LBx yX6_gatherRow cX6_gatherRow 7 none 1 23 0 0 [vr α 7 0, vi a1, vi a2] α μ none (fun a => a = α) μ' := Ctr_of pn_X6 rfl rfl (Nat.le_of_ble_eq_true rfl) LBx_nd (fun p e s m below meth c sz C => b_X6_gatherRow C (Nat.le_refl _) (Nat.le_refl _)  hf)
end

/-! EndTeller$Ways.sumApart -/
def f_X6_sumApart_L7  : Nat → Int → Int → Int → Mem → Option (Int × Mem)
  | 0, _, _, _, _ => none
  | n + 1, x1, x3, x5, μ => (if w32 (μ 7 0 7) ≤ w32 x5 then some ((2 * x3), μ) else (if w32 4950 < w32 x5 then some ((2 * x3), μ) else gd (inb x5 4951) (f_X6_sumApart_L7 n (x1 + (w32 (μ 8 0 (ix x5)))) (x3 + ((x1 + (w32 (μ 8 0 (ix x5)))) * ((μ 7 0 9) - (x1 + (w32 (μ 8 0 (ix x5))))))) (x5 + 1) μ)))
def f_X6_sumApart  (μ : Mem) : Option (Int × Mem) := f_X6_sumApart_L7 FU 0 0 0 μ
section
variable {p : Program} {l : Launch} {e : Env} {R : Room} {s : State} {m : MethodId} {args : Array Value} {below : List Frame} {meth : Method} {c : Code} {D : va_G} {Y : Nat → ClassId} {α : Adr} {sz : Nat} {r : Int} {μ' : Mem}
set_option maxHeartbeats 4000000 in
set_option maxRecDepth 100000 in
theorem c_X6_sumApart_l7  (C : CX p s m args meth c cX6_sumApart 6 RX6 (some .long) D Y LBx (Ar LBx α sz)) (hfr : 0 ≤ R.frames) (hlc : 0 ≤ R.locals)    : ∀ (n : Nat) (x1 x3 x5 : Int) (μ : Mem), f_X6_sumApart_L7 n x1 x3 x5 μ = some (r, μ') → GG D Y LBx (Ar LBx α sz) p l e R s m args below meth c 6 (MQ below (Qcx D Y LBx α sz (some (vl r)) (fun a => a = α) μ') args s 0 0 (Ar LBx α sz)) α 0 0 [(0, vr α 7 0), (1, vl x1), (3, vl x3), (5, vi x5)] [] μ 7 := by
  intro n
  induction n with
  | zero =>
    intro x1 x3 x5 μ hf
    exact nomatch (show (none : Option (Int × Mem)) = some _ from hf)
  | succ n ih =>
    intro x1 x3 x5 μ hf
    rw [f_X6_sumApart_L7.eq_2] at hf
    refine g_ild C 3 rfl dX6_sumApart_7 ?_
    refine g_ald_n C 0 rfl rfl dX6_sumApart_9 ?_
    refine g_get C dX6_sumApart_10 fl_X6_41 in_7 (ec_7 _ _ _ _ _) rfl ?_
    refine g_ic_ge C 52 (by decide) dX6_sumApart_13 (fun h1 => ?_) (fun h1 => ?_)
    · rw [if_pos h1] at hf
      refine g_ldc2 (x := 2) C m_3_172 dX6_sumApart_52 ?_
      refine g_lld_n C 2 rfl rfl dX6_sumApart_55 ?_
      refine g_lmul C dX6_sumApart_56 ?_
      exact g_lret C rfl dX6_sumApart_57 hf
    · rw [if_neg h1] at hf
      refine g_ild C 3 rfl dX6_sumApart_16 ?_
      refine g_sipush C rfl dX6_sumApart_18 ?_
      refine g_ic_gt C 52 (by decide) dX6_sumApart_21 (fun h2 => ?_) (fun h2 => ?_)
      · rw [if_pos h2] at hf
        refine g_ldc2 (x := 2) C m_3_172 dX6_sumApart_52 ?_
        refine g_lld_n C 2 rfl rfl dX6_sumApart_55 ?_
        refine g_lmul C dX6_sumApart_56 ?_
        exact g_lret C rfl dX6_sumApart_57 hf
      · rw [if_neg h2] at hf
        refine g_lld_n C 1 rfl rfl dX6_sumApart_24 ?_
        refine g_ald_n C 0 rfl rfl dX6_sumApart_25 ?_
        refine g_get C dX6_sumApart_26 fl_X6_23 in_7 (ec_7 _ _ _ _ _) rfl ?_
        refine g_ild C 3 rfl dX6_sumApart_29 ?_
        obtain ⟨g3, hf⟩ := gd_some hf
        refine g_iald C dX6_sumApart_31 in_8 (fun _ => ec_8 _ _ _ _ _) g3 ?_
        refine g_i2l C dX6_sumApart_32 ?_
        refine g_ladd C dX6_sumApart_33 ?_
        refine g_lst_n (lo' := [(1, vl (x1 + (w32 (μ 8 0 (ix x5))))), (0, vr α 7 0), (3, vl x3), (5, vi x5)]) C rfl (by decide) rfl dX6_sumApart_34 ?_
        refine g_lld_n C 2 rfl rfl dX6_sumApart_35 ?_
        refine g_lld_n C 0 rfl rfl dX6_sumApart_36 ?_
        refine g_ald_n C 1 rfl rfl dX6_sumApart_37 ?_
        refine g_get C dX6_sumApart_38 fl_X6_48 in_7 (ec_7 _ _ _ _ _) rfl ?_
        refine g_lld_n C 0 rfl rfl dX6_sumApart_41 ?_
        refine g_lsub C dX6_sumApart_42 ?_
        refine g_lmul C dX6_sumApart_43 ?_
        refine g_ladd C dX6_sumApart_44 ?_
        refine g_lst_n (lo' := [(3, vl (x3 + ((x1 + (w32 (μ 8 0 (ix x5)))) * ((μ 7 0 9) - (x1 + (w32 (μ 8 0 (ix x5)))))))), (1, vl (x1 + (w32 (μ 8 0 (ix x5))))), (0, vr α 7 0), (5, vi x5)]) C rfl (by decide) rfl dX6_sumApart_45 ?_
        refine g_iinc (lo' := [(5, vi (x5 + 1)), (3, vl (x3 + ((x1 + (w32 (μ 8 0 (ix x5)))) * ((μ 7 0 9) - (x1 + (w32 (μ 8 0 (ix x5)))))))), (1, vl (x1 + (w32 (μ 8 0 (ix x5))))), (0, vr α 7 0)]) C 3 rfl (by decide) rfl dX6_sumApart_46 ?_
        refine g_goto C 7 (by decide) dX6_sumApart_49 ?_
        exact g_sub C [3, 2, 1, 0] rfl (ih _ _ _ _ hf)
set_option maxHeartbeats 4000000 in
set_option maxRecDepth 100000 in
theorem b_X6_sumApart  {μ : Mem} (C : CX p s m args meth c cX6_sumApart 6 RX6 (some .long) D Y LBx (Ar LBx α sz)) (hfr : 0 ≤ R.frames) (hlc : 0 ≤ R.locals)  (hf : f_X6_sumApart μ = some (r, μ')) : GG D Y LBx (Ar LBx α sz) p l e R s m args below meth c 6 (MQ below (Qcx D Y LBx α sz (some (vl r)) (fun a => a = α) μ') args s 0 0 (Ar LBx α sz)) α 0 0 [(0, vr α 7 0)] [] μ 0 := by
  unfold f_X6_sumApart at hf
  refine g_lconst (x := 0) C rfl dX6_sumApart_0 ?_
  refine g_lst_n (lo' := [(1, vl 0), (0, vr α 7 0)]) C rfl (by decide) rfl dX6_sumApart_1 ?_
  refine g_lconst (x := 0) C rfl dX6_sumApart_2 ?_
  refine g_lst_n (lo' := [(3, vl 0), (1, vl 0), (0, vr α 7 0)]) C rfl (by decide) rfl dX6_sumApart_3 ?_
  refine g_iconst C dX6_sumApart_4 ?_
  refine g_ist (lo' := [(5, vi 0), (3, vl 0), (1, vl 0), (0, vr α 7 0)]) C (by decide) rfl dX6_sumApart_5 ?_
  refine g_sub C [3, 2, 1, 0] rfl (c_X6_sumApart_l7 C hfr hlc   _ _ _ _ _ hf)
set_option maxHeartbeats 4000000 in
set_option maxRecDepth 100000 in
theorem c_X6_sumApart {l : Launch} {D : va_G} {Y : Nat → ClassId} {α : Adr}  {μ : Mem} {r : Int} {μ' : Mem}  (hf : f_X6_sumApart μ = some (r, μ')) : Ctr l D Y LBx yX6_sumApart cX6_sumApart 6 (some .long) 0 0 0 0 [vr α 7 0] α μ (some (vl r)) (fun a => a = α) μ' := Ctr_of pn_X6 rfl rfl (Nat.le_of_ble_eq_true rfl) LBx_nd (fun p e s m below meth c sz C => b_X6_sumApart C (Nat.le_refl _) (Nat.le_refl _)  hf)
end

/-! EndTeller$Ways.sumRest -/
def f_X6_sumRest_L8 (x1 : Int) (q2 : Nat) : Nat → Int → Mem → Option (Int × Mem)
  | 0, _, _ => none
  | n + 1, x3, μ => gd (inb x1 10) ((if w32 (μ 17 (ix x1) 3) ≤ w32 x3 then some (1, μ) else bn (f_X6_gatherRow x1 x3 μ) (fun r6 μ7 => jn (fun μ9 => f_X6_sumRest_L8 x1 q2 n (x3 + 1) μ9) (fun j64 => (if w64 (μ7 7 0 9) ≤ w64 0 then j64  μ7 else bn (f_X6_sumApart  μ7) (fun r12 μ13 => bn (f_X0_add q2 r12 (μ13 7 0 9) μ13) (fun r15 μ16 => (if w64 (μ16 1 q2 1) ≤ w64 1000000 then j64  μ16 else some (0, μ16)))))))))
def f_X6_sumRest (a1 : Int) (i2 : Nat) (μ : Mem) : Option (Int × Mem) := bn (f_X0_become i2 0 1 μ) (fun r1 μ2 => f_X6_sumRest_L8 a1 i2 FU 0 μ2)
section
variable {p : Program} {l : Launch} {e : Env} {R : Room} {s : State} {m : MethodId} {args : Array Value} {below : List Frame} {meth : Method} {c : Code} {D : va_G} {Y : Nat → ClassId} {α : Adr} {sz : Nat} {r : Int} {μ' : Mem}
set_option maxHeartbeats 4000000 in
set_option maxRecDepth 100000 in
theorem c_X6_sumRest_l8 {x1 : Int} {q2 : Nat} (C : CX p s m args meth c cX6_sumRest 4 RX6 (some .boolean) D Y LBx (Ar LBx α sz)) (hfr : 3 ≤ R.frames) (hlc : 80 ≤ R.locals) (hq2 : q2 < 13)   : ∀ (n : Nat) (x3 : Int) (μ : Mem), f_X6_sumRest_L8 x1 q2 n x3 μ = some (r, μ') → GG D Y LBx (Ar LBx α sz) p l e R s m args below meth c 4 (MQ below (Qcx D Y LBx α sz (some (vi r)) (fun a => a = α) μ') args s 0 0 (Ar LBx α sz)) α 0 0 [(0, vr α 7 0), (1, vi x1), (2, vr α 1 q2), (3, vi x3)] [] μ 8 := by
  intro n
  induction n with
  | zero =>
    intro x3 μ hf
    exact nomatch (show (none : Option (Int × Mem)) = some _ from hf)
  | succ n ih =>
    intro x3 μ hf
    rw [f_X6_sumRest_L8.eq_2] at hf
    refine g_ild_n C 3 rfl rfl dX6_sumRest_8 ?_
    refine g_ald_n C 0 rfl rfl dX6_sumRest_9 ?_
    refine g_get C dX6_sumRest_10 fl_X6_22 in_7 (ec_7 _ _ _ _ _) rfl ?_
    refine g_get C dX6_sumRest_13 fl_X6_106 in_15 (ec_15 _ _ _ _ _) rfl ?_
    refine g_ild_n C 1 rfl rfl dX6_sumRest_16 ?_
    obtain ⟨g4, hf⟩ := gd_some hf
    refine g_aaldI C dX6_sumRest_17 in_16 (fun _ => ec_16 _ _ _ _ _) rfl g4 ?_
    refine g_get C dX6_sumRest_18 fl_X6_110 (in_17 (inb_ix g4)) (ec_17 _ _ _ _ _) rfl ?_
    refine g_ic_ge C 70 (by decide) dX6_sumRest_21 (fun h5 => ?_) (fun h5 => ?_)
    · rw [if_pos h5] at hf
      refine g_iconst C dX6_sumRest_70 ?_
      exact g_zret C rfl (Or.inr rfl) dX6_sumRest_71 hf
    · rw [if_neg h5] at hf
      refine g_ald_n C 0 rfl rfl dX6_sumRest_24 ?_
      refine g_ild_n C 1 rfl rfl dX6_sumRest_25 ?_
      refine g_ild_n C 3 rfl rfl dX6_sumRest_26 ?_
      obtain ⟨r6, μ7, hc8, hf⟩ := bn_some hf
      refine g_callVp (As := [vi x1, vi x3]) (rest := []) C ⟨Nat.zero_le _, Nat.zero_le _⟩ dX6_sumRest_27 cw_X6_gatherRow m_3_182 m_3_183 m_3_184 in_7 (ec_7 _ _ _ _ _) rfl rfl (c_X6_gatherRow  hc8) rfl rfl (Nat.le_of_ble_eq_true rfl) ⟨Nat.le_trans (Nat.le_of_ble_eq_true rfl) hfr, Nat.le_trans (Nat.le_of_ble_eq_true rfl) hlc⟩ ?_
      refine g_ald_n C 0 rfl rfl dX6_sumRest_30 ?_
      refine g_get C dX6_sumRest_31 fl_X6_48 in_7 (ec_7 _ _ _ _ _) rfl ?_
      refine g_lconst (x := 0) C rfl dX6_sumRest_34 ?_
      obtain ⟨j64, ej10, hf⟩ := jn_some hf
      have hj64 : ∀ (μ9 : Mem), j64 μ9 = some (r, μ') → GG D Y LBx (Ar LBx α sz) p l e R s m args below meth c 4 (MQ below (Qcx D Y LBx α sz (some (vi r)) (fun a => a = α) μ') args s 0 0 (Ar LBx α sz)) α 0 0 [(0, vr α 7 0), (1, vi x1), (2, vr α 1 q2), (3, vi x3)] [] μ9 64 := by
        intro μ9 hf
        rw [ej10] at hf
        try dsimp only at hf
        refine g_iinc (lo' := [(3, vi (x3 + 1)), (0, vr α 7 0), (1, vi x1), (2, vr α 1 q2)]) C 3 rfl (by decide) rfl dX6_sumRest_64 ?_
        refine g_goto C 8 (by decide) dX6_sumRest_67 ?_
        exact g_sub C [1, 2, 3, 0] rfl (ih _ _ hf)
      clear ej10
      refine g_lc_le C 64 (by decide) dX6_sumRest_35 dX6_sumRest_36 (fun h11 => ?_) (fun h11 => ?_)
      · rw [if_pos h11] at hf
        exact g_sub C [0, 1, 2, 3] rfl (hj64 _ hf)
      · rw [if_neg h11] at hf
        refine g_ald_n C 2 rfl rfl dX6_sumRest_39 ?_
        refine g_ald_n C 0 rfl rfl dX6_sumRest_40 ?_
        obtain ⟨r12, μ13, hc14, hf⟩ := bn_some hf
        refine g_callVp (As := []) (rest := [vr α 1 q2]) C ⟨Nat.zero_le _, Nat.zero_le _⟩ dX6_sumRest_41 cw_X6_sumApart m_3_187 m_3_169 m_3_170 in_7 (ec_7 _ _ _ _ _) rfl rfl (c_X6_sumApart  hc14) rfl rfl (Nat.le_of_ble_eq_true rfl) ⟨Nat.le_trans (Nat.le_of_ble_eq_true rfl) hfr, Nat.le_trans (Nat.le_of_ble_eq_true rfl) hlc⟩ ?_
        refine g_ald_n C 0 rfl rfl dX6_sumRest_44 ?_
        refine g_get C dX6_sumRest_45 fl_X6_48 in_7 (ec_7 _ _ _ _ _) rfl ?_
        obtain ⟨r15, μ16, hc17, hf⟩ := bn_some hf
        refine g_callVp (As := [vl r12, vl (μ13 7 0 9)]) (rest := []) C ⟨Nat.zero_le _, Nat.zero_le _⟩ dX6_sumRest_48 cw_X0_add m_3_188 m_3_189 m_3_190 (in_1 hq2) (ec_1 _ _ _ _ _) rfl rfl (c_X0_add hq2 hc17) rfl rfl (Nat.le_of_ble_eq_true rfl) ⟨Nat.le_trans (Nat.le_of_ble_eq_true rfl) hfr, Nat.le_trans (Nat.le_of_ble_eq_true rfl) hlc⟩ ?_
        refine g_ald_n C 2 rfl rfl dX6_sumRest_51 ?_
        refine g_get C dX6_sumRest_52 fl_X6_134 (in_1 hq2) (ec_1 _ _ _ _ _) rfl ?_
        refine g_ldc2 (x := 1000000) C m_3_193 dX6_sumRest_55 ?_
        refine g_lc_le C 64 (by decide) dX6_sumRest_58 dX6_sumRest_59 (fun h18 => ?_) (fun h18 => ?_)
        · rw [if_pos h18] at hf
          exact g_sub C [0, 1, 2, 3] rfl (hj64 _ hf)
        · rw [if_neg h18] at hf
          refine g_iconst C dX6_sumRest_62 ?_
          exact g_zret C rfl (Or.inl rfl) dX6_sumRest_63 hf
set_option maxHeartbeats 4000000 in
set_option maxRecDepth 100000 in
theorem b_X6_sumRest {a1 : Int} {i2 : Nat} {μ : Mem} (C : CX p s m args meth c cX6_sumRest 4 RX6 (some .boolean) D Y LBx (Ar LBx α sz)) (hfr : 3 ≤ R.frames) (hlc : 80 ≤ R.locals) (hi2 : i2 < 13) (hf : f_X6_sumRest a1 i2 μ = some (r, μ')) : GG D Y LBx (Ar LBx α sz) p l e R s m args below meth c 4 (MQ below (Qcx D Y LBx α sz (some (vi r)) (fun a => a = α) μ') args s 0 0 (Ar LBx α sz)) α 0 0 [(0, vr α 7 0), (1, vi a1), (2, vr α 1 i2)] [] μ 0 := by
  unfold f_X6_sumRest at hf
  refine g_ald_n C 2 rfl rfl dX6_sumRest_0 ?_
  refine g_lconst (x := 0) C rfl dX6_sumRest_1 ?_
  refine g_lconst (x := 1) C rfl dX6_sumRest_2 ?_
  obtain ⟨r1, μ2, hc3, hf⟩ := bn_some hf
  refine g_callVp (As := [vl 0, vl 1]) (rest := []) C ⟨Nat.zero_le _, Nat.zero_le _⟩ dX6_sumRest_3 cw_X0_become m_3_181 m_3_122 m_3_123 (in_1 hi2) (ec_1 _ _ _ _ _) rfl rfl (c_X0_become hi2 hc3) rfl rfl (Nat.le_of_ble_eq_true rfl) ⟨Nat.le_trans (Nat.le_of_ble_eq_true rfl) hfr, Nat.le_trans (Nat.le_of_ble_eq_true rfl) hlc⟩ ?_
  refine g_iconst C dX6_sumRest_6 ?_
  refine g_ist_n (lo' := [(3, vi 0), (0, vr α 7 0), (1, vi a1), (2, vr α 1 i2)]) C rfl (by decide) rfl dX6_sumRest_7 ?_
  refine g_sub C [1, 2, 3, 0] rfl (c_X6_sumRest_l8 C hfr hlc hi2  _ _ _ hf)
set_option maxHeartbeats 4000000 in
set_option maxRecDepth 100000 in
theorem c_X6_sumRest {l : Launch} {D : va_G} {Y : Nat → ClassId} {α : Adr} {a1 : Int} {i2 : Nat} {μ : Mem} {r : Int} {μ' : Mem} (hi2 : i2 < 13) (hf : f_X6_sumRest a1 i2 μ = some (r, μ')) : Ctr l D Y LBx yX6_sumRest cX6_sumRest 4 (some .boolean) 3 80 0 0 [vr α 7 0, vi a1, vr α 1 i2] α μ (some (vi r)) (fun a => a = α) μ' := Ctr_of pn_X6 rfl rfl (Nat.le_of_ble_eq_true rfl) LBx_nd (fun p e s m below meth c sz C => b_X6_sumRest C (Nat.le_refl _) (Nat.le_refl _) hi2 hf)
end
