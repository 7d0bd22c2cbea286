/-! EndTellerModel.isGreat -/
def f_X9_isGreat_L4 (k37 : Int → Mem → Option (Int × Mem)) : Nat → Int → Int → Mem → Option (Int × Mem)
  | 0, _, _, _ => none
  | n + 1, x1, x3, μ => (if w32 (μ 30 0 7) ≤ w32 x3 then k37 x1 μ else bn (f_X9_sumOf x3 μ) (fun r2 μ3 => (if w64 (x1 * (w32 r2)) ≤ w64 20000 then f_X9_isGreat_L4 k37 n (x1 * (w32 r2)) (x3 + 1) μ3 else some (1, μ3))))
def f_X9_isGreat_L39  : Nat → Int → Int → Mem → Option (Int × Mem)
  | 0, _, _, _ => none
  | n + 1, x1, x3, μ => (if w32 (μ 30 0 8) ≤ w32 x3 then some (0, μ) else gd (inb x3 4) ((if w64 (x1 * (w32 (μ 42 0 (ix x3)))) ≤ w64 20000 then f_X9_isGreat_L39 n (x1 * (w32 (μ 42 0 (ix x3)))) (x3 + 1) μ else some (1, μ))))
def f_X9_isGreat  (μ : Mem) : Option (Int × Mem) := f_X9_isGreat_L4 (fun y7 μ6 => f_X9_isGreat_L39 FU y7 0 μ6) FU 1 0 μ
section
variable {p : Program} {l : Launch} {e : Env} {R : Room} {s : State} {m : MethodId} {args : Array Value} {below : List Frame} {meth : Method} {c : Code} {D : va_G} {Y : Nat → ClassId} {α : Adr} {sz : Nat} {r : Int} {μ' : Mem}
set_option maxHeartbeats 4000000 in
set_option maxRecDepth 100000 in
theorem c_X9_isGreat_l4 {k37 : Int → Mem → Option (Int × Mem)} (C : CX p s m args meth c cX9_isGreat 4 RX9 (some .boolean) D Y LBm (Ar LBm α sz)) (hfr : 1 ≤ R.frames) (hlc : 23 ≤ R.locals)  (hk37 : ∀ (y1 : Int) (μ : Mem), k37 y1 μ = some (r, μ') → GG D Y LBm (Ar LBm α sz) p l e R s m args below meth c 4 (MQ below (Qcx D Y LBm α sz (some (vi r)) (fun a => a = α) μ') args s 0 0 (Ar LBm α sz)) α 0 0 [(0, vr α 30 0), (1, vl y1)] [] μ 37)  : ∀ (n : Nat) (x1 x3 : Int) (μ : Mem), f_X9_isGreat_L4 k37 n x1 x3 μ = some (r, μ') → GG D Y LBm (Ar LBm α sz) p l e R s m args below meth c 4 (MQ below (Qcx D Y LBm α sz (some (vi r)) (fun a => a = α) μ') args s 0 0 (Ar LBm α sz)) α 0 0 [(0, vr α 30 0), (1, vl x1), (3, vi x3)] [] μ 4 := by
  intro n
  induction n with
  | zero =>
    intro x1 x3 μ hf
    exact nomatch (show (none : Option (Int × Mem)) = some _ from hf)
  | succ n ih =>
    intro x1 x3 μ hf
    rw [f_X9_isGreat_L4.eq_2] at hf
    refine g_ild_n C 2 rfl rfl dX9_isGreat_4 ?_
    refine g_ald_n C 0 rfl rfl dX9_isGreat_5 ?_
    refine g_get C dX9_isGreat_6 fl_X9_119 in_30 (ec_30 _ _ _ _ _) rfl ?_
    refine g_ic_ge C 37 (by decide) dX9_isGreat_9 (fun h1 => ?_) (fun h1 => ?_)
    · rw [if_pos h1] at hf
      exact g_sub C [0, 1] rfl (hk37 _ _ hf)
    · rw [if_neg h1] at hf
      refine g_lld_n C 1 rfl rfl dX9_isGreat_12 ?_
      refine g_ald_n C 0 rfl rfl dX9_isGreat_13 ?_
      refine g_ild_n C 2 rfl rfl dX9_isGreat_14 ?_
      obtain ⟨r2, μ3, hc4, hf⟩ := bn_some hf
      refine g_callVp (As := [vi x3]) (rest := [vl x1]) C ⟨Nat.zero_le _, Nat.zero_le _⟩ dX9_isGreat_15 cw_X9_sumOf m_4_193 m_4_195 m_0_15 in_30 (ec_30 _ _ _ _ _) rfl rfl (c_X9_sumOf  hc4) rfl rfl (Nat.le_of_ble_eq_true rfl) ⟨Nat.le_trans (Nat.le_of_ble_eq_true rfl) hfr, Nat.le_trans (Nat.le_of_ble_eq_true rfl) hlc⟩ ?_
      refine g_i2l C dX9_isGreat_18 ?_
      refine g_lmul C dX9_isGreat_19 ?_
      refine g_lst_n (lo' := [(1, vl (x1 * (w32 r2))), (0, vr α 30 0), (3, vi x3)]) C rfl (by decide) rfl dX9_isGreat_20 ?_
      refine g_lld_n C 0 rfl rfl dX9_isGreat_21 ?_
      refine g_ldc2 (x := 20000) C m_5_6 dX9_isGreat_22 ?_
      refine g_lc_le C 31 (by decide) dX9_isGreat_25 dX9_isGreat_26 (fun h5 => ?_) (fun h5 => ?_)
      · rw [if_pos h5] at hf
        refine g_iinc (lo' := [(3, vi (x3 + 1)), (1, vl (x1 * (w32 r2))), (0, vr α 30 0)]) C 2 rfl (by decide) rfl dX9_isGreat_31 ?_
        refine g_goto C 4 (by decide) dX9_isGreat_34 ?_
        exact g_sub C [2, 1, 0] rfl (ih _ _ _ hf)
      · rw [if_neg h5] at hf
        refine g_iconst C dX9_isGreat_29 ?_
        exact g_zret C rfl (Or.inr rfl) dX9_isGreat_30 hf
set_option maxHeartbeats 4000000 in
set_option maxRecDepth 100000 in
theorem c_X9_isGreat_l39  (C : CX p s m args meth c cX9_isGreat 4 RX9 (some .boolean) D Y LBm (Ar LBm α sz)) (hfr : 1 ≤ R.frames) (hlc : 23 ≤ R.locals)    : ∀ (n : Nat) (x1 x3 : Int) (μ : Mem), f_X9_isGreat_L39 n x1 x3 μ = some (r, μ') → GG D Y LBm (Ar LBm α sz) p l e R s m args below meth c 4 (MQ below (Qcx D Y LBm α sz (some (vi r)) (fun a => a = α) μ') args s 0 0 (Ar LBm α sz)) α 0 0 [(0, vr α 30 0), (1, vl x1), (3, vi x3)] [] μ 39 := by
  intro n
  induction n with
  | zero =>
    intro x1 x3 μ hf
    exact nomatch (show (none : Option (Int × Mem)) = some _ from hf)
  | succ n ih =>
    intro x1 x3 μ hf
    rw [f_X9_isGreat_L39.eq_2] at hf
    refine g_ild_n C 2 rfl rfl dX9_isGreat_39 ?_
    refine g_ald_n C 0 rfl rfl dX9_isGreat_40 ?_
    refine g_get C dX9_isGreat_41 fl_X9_148 in_30 (ec_30 _ _ _ _ _) rfl ?_
    refine g_ic_ge C 73 (by decide) dX9_isGreat_44 (fun h8 => ?_) (fun h8 => ?_)
    · rw [if_pos h8] at hf
      refine g_iconst C dX9_isGreat_73 ?_
      exact g_zret C rfl (Or.inl rfl) dX9_isGreat_74 hf
    · rw [if_neg h8] at hf
      refine g_lld_n C 1 rfl rfl dX9_isGreat_47 ?_
      refine g_ald_n C 0 rfl rfl dX9_isGreat_48 ?_
      refine g_get C dX9_isGreat_49 fl_X9_55 in_30 (ec_30 _ _ _ _ _) rfl ?_
      refine g_ild_n C 2 rfl rfl dX9_isGreat_52 ?_
      obtain ⟨g9, hf⟩ := gd_some hf
      refine g_iald C dX9_isGreat_53 in_42 (fun _ => ec_42 _ _ _ _ _) g9 ?_
      refine g_i2l C dX9_isGreat_54 ?_
      refine g_lmul C dX9_isGreat_55 ?_
      refine g_lst_n (lo' := [(1, vl (x1 * (w32 (μ 42 0 (ix x3))))), (0, vr α 30 0), (3, vi x3)]) C rfl (by decide) rfl dX9_isGreat_56 ?_
      refine g_lld_n C 0 rfl rfl dX9_isGreat_57 ?_
      refine g_ldc2 (x := 20000) C m_5_6 dX9_isGreat_58 ?_
      refine g_lc_le C 67 (by decide) dX9_isGreat_61 dX9_isGreat_62 (fun h10 => ?_) (fun h10 => ?_)
      · rw [if_pos h10] at hf
        refine g_iinc (lo' := [(3, vi (x3 + 1)), (1, vl (x1 * (w32 (μ 42 0 (ix x3))))), (0, vr α 30 0)]) C 2 rfl (by decide) rfl dX9_isGreat_67 ?_
        refine g_goto C 39 (by decide) dX9_isGreat_70 ?_
        exact g_sub C [2, 1, 0] rfl (ih _ _ _ hf)
      · rw [if_neg h10] at hf
        refine g_iconst C dX9_isGreat_65 ?_
        exact g_zret C rfl (Or.inr rfl) dX9_isGreat_66 hf
set_option maxHeartbeats 4000000 in
set_option maxRecDepth 100000 in
theorem b_X9_isGreat  {μ : Mem} (C : CX p s m args meth c cX9_isGreat 4 RX9 (some .boolean) D Y LBm (Ar LBm α sz)) (hfr : 1 ≤ R.frames) (hlc : 23 ≤ R.locals)  (hf : f_X9_isGreat μ = some (r, μ')) : GG D Y LBm (Ar LBm α sz) p l e R s m args below meth c 4 (MQ below (Qcx D Y LBm α sz (some (vi r)) (fun a => a = α) μ') args s 0 0 (Ar LBm α sz)) α 0 0 [(0, vr α 30 0)] [] μ 0 := by
  unfold f_X9_isGreat at hf
  refine g_lconst (x := 1) C rfl dX9_isGreat_0 ?_
  refine g_lst_n (lo' := [(1, vl 1), (0, vr α 30 0)]) C rfl (by decide) rfl dX9_isGreat_1 ?_
  refine g_iconst C dX9_isGreat_2 ?_
  refine g_ist_n (lo' := [(3, vi 0), (1, vl 1), (0, vr α 30 0)]) C rfl (by decide) rfl dX9_isGreat_3 ?_
  refine g_sub C [2, 1, 0] rfl (c_X9_isGreat_l4 C hfr hlc  (fun y7 μ6 hf => ?_) _ _ _ _ hf)
  refine g_iconst C dX9_isGreat_37 ?_
  refine g_ist_n (lo' := [(3, vi 0), (0, vr α 30 0), (1, vl y7)]) C rfl (by decide) rfl dX9_isGreat_38 ?_
  refine g_sub C [1, 2, 0] rfl (c_X9_isGreat_l39 C hfr hlc   _ _ _ _ hf)
set_option maxHeartbeats 4000000 in
set_option maxRecDepth 100000 in
theorem c_X9_isGreat {l : Launch} {D : va_G} {Y : Nat → ClassId} {α : Adr}  {μ : Mem} {r : Int} {μ' : Mem}  (hf : f_X9_isGreat μ = some (r, μ')) : Ctr l D Y LBm yX9_isGreat cX9_isGreat 4 (some .boolean) 1 23 0 0 [vr α 30 0] α μ (some (vi r)) (fun a => a = α) μ' := Ctr_of pn_X9 rfl rfl (Nat.le_of_ble_eq_true rfl) LBm_nd (fun p e s m below meth c sz C => b_X9_isGreat C (Nat.le_refl _) (Nat.le_refl _)  hf)
end

/-! EndTellerModel.ways -/
def f_X9_ways_L28  : Nat → Int → Int → Mem → Option (Int × Mem)
  | 0, _, _, _ => none
  | n + 1, x1, x2, μ => (if w32 (μ 30 0 7) ≤ w32 x2 then some ((ishl x1 (μ 30 0 8)), μ) else gd (inb x2 10) (f_X9_ways_L28 n (x1 * (μ 34 0 (ix x2))) (x2 + 1) μ))
def f_X9_ways  (μ : Mem) : Option (Int × Mem) := bn (f_X9_isGreat  (st (st μ 30 0 1 0) 30 0 0 0)) (fun r1 μ2 => (if w32 r1 = 0 then f_X9_ways_L28 FU 1 0 μ2 else bn (f_X9_refuse 9 μ2) (fun r7 μ8 => some (r7, μ8))))
section
variable {p : Program} {l : Launch} {e : Env} {R : Room} {s : State} {m : MethodId} {args : Array Value} {below : List Frame} {meth : Method} {c : Code} {D : va_G} {Y : Nat → ClassId} {α : Adr} {sz : Nat} {r : Int} {μ' : Mem}
set_option maxHeartbeats 4000000 in
set_option maxRecDepth 100000 in
theorem c_X9_ways_l28  (C : CX p s m args meth c cX9_ways 3 RX9 (some .int) D Y LBm (Ar LBm α sz)) (hfr : 2 ≤ R.frames) (hlc : 46 ≤ R.locals)    : ∀ (n : Nat) (x1 x2 : Int) (μ : Mem), f_X9_ways_L28 n x1 x2 μ = some (r, μ') → GG D Y LBm (Ar LBm α sz) p l e R s m args below meth c 3 (MQ below (Qcx D Y LBm α sz (some (vi r)) (fun a => a = α) μ') args s 0 0 (Ar LBm α sz)) α 0 0 [(0, vr α 30 0), (1, vi x1), (2, vi x2)] [] μ 28 := by
  intro n
  induction n with
  | zero =>
    intro x1 x2 μ hf
    exact nomatch (show (none : Option (Int × Mem)) = some _ from hf)
  | succ n ih =>
    intro x1 x2 μ hf
    rw [f_X9_ways_L28.eq_2] at hf
    refine g_ild_n C 2 rfl rfl dX9_ways_28 ?_
    refine g_ald_n C 0 rfl rfl dX9_ways_29 ?_
    refine g_get C dX9_ways_30 fl_X9_119 in_30 (ec_30 _ _ _ _ _) rfl ?_
    refine g_ic_ge C 51 (by decide) dX9_ways_33 (fun h5 => ?_) (fun h5 => ?_)
    · rw [if_pos h5] at hf
      refine g_ild_n C 1 rfl rfl dX9_ways_51 ?_
      refine g_ald_n C 0 rfl rfl dX9_ways_52 ?_
      refine g_get C dX9_ways_53 fl_X9_148 in_30 (ec_30 _ _ _ _ _) rfl ?_
      refine g_ishl C dX9_ways_56 ?_
      exact g_iret C rfl dX9_ways_57 hf
    · rw [if_neg h5] at hf
      refine g_ild_n C 1 rfl rfl dX9_ways_36 ?_
      refine g_ald_n C 0 rfl rfl dX9_ways_37 ?_
      refine g_get C dX9_ways_38 fl_X9_31 in_30 (ec_30 _ _ _ _ _) rfl ?_
      refine g_ild_n C 2 rfl rfl dX9_ways_41 ?_
      obtain ⟨g6, hf⟩ := gd_some hf
      refine g_iald C dX9_ways_42 in_34 (fun _ => ec_34 _ _ _ _ _) g6 ?_
      refine g_imul C dX9_ways_43 ?_
      refine g_ist_n (lo' := [(1, vi (x1 * (μ 34 0 (ix x2)))), (0, vr α 30 0), (2, vi x2)]) C rfl (by decide) rfl dX9_ways_44 ?_
      refine g_iinc (lo' := [(2, vi (x2 + 1)), (1, vi (x1 * (μ 34 0 (ix x2)))), (0, vr α 30 0)]) C 2 rfl (by decide) rfl dX9_ways_45 ?_
      refine g_goto C 28 (by decide) dX9_ways_48 ?_
      exact g_sub C [2, 1, 0] rfl (ih _ _ _ hf)
set_option maxHeartbeats 4000000 in
set_option maxRecDepth 100000 in
theorem b_X9_ways  {μ : Mem} (C : CX p s m args meth c cX9_ways 3 RX9 (some .int) D Y LBm (Ar LBm α sz)) (hfr : 2 ≤ R.frames) (hlc : 46 ≤ R.locals)  (hf : f_X9_ways μ = some (r, μ')) : GG D Y LBm (Ar LBm α sz) p l e R s m args below meth c 3 (MQ below (Qcx D Y LBm α sz (some (vi r)) (fun a => a = α) μ') args s 0 0 (Ar LBm α sz)) α 0 0 [(0, vr α 30 0)] [] μ 0 := by
  unfold f_X9_ways at hf
  refine g_ald_n C 0 rfl rfl dX9_ways_0 ?_
  refine g_iconst C dX9_ways_1 ?_
  refine g_puti C dX9_ways_2 fl_X9_95 in_30 (ec_30 _ _ _ _ _) (Nat.le_of_ble_eq_true rfl) rfl (by decide) ?_
  refine g_ald_n C 0 rfl rfl dX9_ways_5 ?_
  refine g_iconst C dX9_ways_6 ?_
  refine g_puti C dX9_ways_7 fl_X9_98 in_30 (ec_30 _ _ _ _ _) (Nat.le_of_ble_eq_true rfl) rfl (by decide) ?_
  refine g_ald_n C 0 rfl rfl dX9_ways_10 ?_
  obtain ⟨r1, μ2, hc3, hf⟩ := bn_some hf
  refine g_callVp (As := []) (rest := []) C ⟨Nat.zero_le _, Nat.zero_le _⟩ dX9_ways_11 cw_X9_isGreat m_5_2 m_5_4 m_0_16 in_30 (ec_30 _ _ _ _ _) rfl rfl (c_X9_isGreat  hc3) rfl rfl (Nat.le_of_ble_eq_true rfl) ⟨Nat.le_trans (Nat.le_of_ble_eq_true rfl) hfr, Nat.le_trans (Nat.le_of_ble_eq_true rfl) hlc⟩ ?_
  refine g_if_eq C 24 (by decide) dX9_ways_14 (fun h4 => ?_) (fun h4 => ?_)
  · rw [if_pos h4] at hf
    refine g_iconst C dX9_ways_24 ?_
    refine g_ist_n (lo' := [(1, vi 1), (0, vr α 30 0)]) C rfl (by decide) rfl dX9_ways_25 ?_
    refine g_iconst C dX9_ways_26 ?_
    refine g_ist_n (lo' := [(2, vi 0), (1, vi 1), (0, vr α 30 0)]) C rfl (by decide) rfl dX9_ways_27 ?_
    refine g_sub C [2, 1, 0] rfl (c_X9_ways_l28 C hfr hlc   _ _ _ _ hf)
  · rw [if_neg h4] at hf
    refine g_ald_n C 0 rfl rfl dX9_ways_17 ?_
    refine g_bipush C rfl dX9_ways_18 ?_
    obtain ⟨r7, μ8, hc9, hf⟩ := bn_some hf
    refine g_callVp (As := [vi 9]) (rest := []) C ⟨Nat.zero_le _, Nat.zero_le _⟩ dX9_ways_20 cw_X9_refuse m_4_164 m_4_166 m_0_11 in_30 (ec_30 _ _ _ _ _) rfl rfl (c_X9_refuse  hc9) rfl rfl (Nat.le_of_ble_eq_true rfl) ⟨Nat.le_trans (Nat.le_of_ble_eq_true rfl) hfr, Nat.le_trans (Nat.le_of_ble_eq_true rfl) hlc⟩ ?_
    exact g_iret C rfl dX9_ways_23 hf
set_option maxHeartbeats 4000000 in
set_option maxRecDepth 100000 in
theorem c_X9_ways {l : Launch} {D : va_G} {Y : Nat → ClassId} {α : Adr}  {μ : Mem} {r : Int} {μ' : Mem}  (hf : f_X9_ways μ = some (r, μ')) : Ctr l D Y LBm yX9_ways cX9_ways 3 (some .int) 2 46 0 0 [vr α 30 0] α μ (some (vi r)) (fun a => a = α) μ' := Ctr_of pn_X9 rfl rfl (Nat.le_of_ble_eq_true rfl) LBm_nd (fun p e s m below meth c sz C => b_X9_ways C (Nat.le_refl _) (Nat.le_refl _)  hf)
end

/-! EndTellerModel.isStuck -/
def f_X9_isStuck_L2  : Nat → Int → Mem → Option (Int × Mem)
  | 0, _, _ => none
  | n + 1, x1, μ => (if w32 (μ 30 0 7) ≤ w32 x1 then some (0, μ) else gd (inb x1 10) ((if w32 (μ 35 0 (ix x1)) ≤ w32 (μ 30 0 9) then f_X9_isStuck_L2 n (x1 + 1) μ else some (1, μ))))
def f_X9_isStuck  (μ : Mem) : Option (Int × Mem) := f_X9_isStuck_L2 FU 0 μ
section
variable {p : Program} {l : Launch} {e : Env} {R : Room} {s : State} {m : MethodId} {args : Array Value} {below : List Frame} {meth : Method} {c : Code} {D : va_G} {Y : Nat → ClassId} {α : Adr} {sz : Nat} {r : Int} {μ' : Mem}
set_option maxHeartbeats 4000000 in
set_option maxRecDepth 100000 in
theorem c_X9_isStuck_l2  (C : CX p s m args meth c cX9_isStuck 2 RX9 (some .boolean) D Y LBm (Ar LBm α sz)) (hfr : 0 ≤ R.frames) (hlc : 0 ≤ R.locals)    : ∀ (n : Nat) (x1 : Int) (μ : Mem), f_X9_isStuck_L2 n x1 μ = some (r, μ') → GG D Y LBm (Ar LBm α sz) p l e R s m args below meth c 2 (MQ below (Qcx D Y LBm α sz (some (vi r)) (fun a => a = α) μ') args s 0 0 (Ar LBm α sz)) α 0 0 [(0, vr α 30 0), (1, vi x1)] [] μ 2 := by
  intro n
  induction n with
  | zero =>
    intro x1 μ hf
    exact nomatch (show (none : Option (Int × Mem)) = some _ from hf)
  | succ n ih =>
    intro x1 μ hf
    rw [f_X9_isStuck_L2.eq_2] at hf
    refine g_ild_n C 1 rfl rfl dX9_isStuck_2 ?_
    refine g_ald_n C 0 rfl rfl dX9_isStuck_3 ?_
    refine g_get C dX9_isStuck_4 fl_X9_119 in_30 (ec_30 _ _ _ _ _) rfl ?_
    refine g_ic_ge C 31 (by decide) dX9_isStuck_7 (fun h1 => ?_) (fun h1 => ?_)
    · rw [if_pos h1] at hf
      refine g_iconst C dX9_isStuck_31 ?_
      exact g_zret C rfl (Or.inl rfl) dX9_isStuck_32 hf
    · rw [if_neg h1] at hf
      refine g_ald_n C 0 rfl rfl dX9_isStuck_10 ?_
      refine g_get C dX9_isStuck_11 fl_X9_34 in_30 (ec_30 _ _ _ _ _) rfl ?_
      refine g_ild_n C 1 rfl rfl dX9_isStuck_14 ?_
      obtain ⟨g2, hf⟩ := gd_some hf
      refine g_iald C dX9_isStuck_15 in_35 (fun _ => ec_35 _ _ _ _ _) g2 ?_
      refine g_ald_n C 0 rfl rfl dX9_isStuck_16 ?_
      refine g_get C dX9_isStuck_17 fl_X9_24 in_30 (ec_30 _ _ _ _ _) rfl ?_
      refine g_ic_le C 25 (by decide) dX9_isStuck_20 (fun h3 => ?_) (fun h3 => ?_)
      · rw [if_pos h3] at hf
        refine g_iinc (lo' := [(1, vi (x1 + 1)), (0, vr α 30 0)]) C 1 rfl (by decide) rfl dX9_isStuck_25 ?_
        refine g_goto C 2 (by decide) dX9_isStuck_28 ?_
        exact g_sub C [1, 0] rfl (ih _ _ hf)
      · rw [if_neg h3] at hf
        refine g_iconst C dX9_isStuck_23 ?_
        exact g_zret C rfl (Or.inr rfl) dX9_isStuck_24 hf
set_option maxHeartbeats 4000000 in
set_option maxRecDepth 100000 in
theorem b_X9_isStuck  {μ : Mem} (C : CX p s m args meth c cX9_isStuck 2 RX9 (some .boolean) D Y LBm (Ar LBm α sz)) (hfr : 0 ≤ R.frames) (hlc : 0 ≤ R.locals)  (hf : f_X9_isStuck μ = some (r, μ')) : GG D Y LBm (Ar LBm α sz) p l e R s m args below meth c 2 (MQ below (Qcx D Y LBm α sz (some (vi r)) (fun a => a = α) μ') args s 0 0 (Ar LBm α sz)) α 0 0 [(0, vr α 30 0)] [] μ 0 := by
  unfold f_X9_isStuck at hf
  refine g_iconst C dX9_isStuck_0 ?_
  refine g_ist_n (lo' := [(1, vi 0), (0, vr α 30 0)]) C rfl (by decide) rfl dX9_isStuck_1 ?_
  refine g_sub C [1, 0] rfl (c_X9_isStuck_l2 C hfr hlc   _ _ _ hf)
set_option maxHeartbeats 4000000 in
set_option maxRecDepth 100000 in
theorem c_X9_isStuck {l : Launch} {D : va_G} {Y : Nat → ClassId} {α : Adr}  {μ : Mem} {r : Int} {μ' : Mem}  (hf : f_X9_isStuck μ = some (r, μ')) : Ctr l D Y LBm yX9_isStuck cX9_isStuck 2 (some .boolean) 0 0 0 0 [vr α 30 0] α μ (some (vi r)) (fun a => a = α) μ' := Ctr_of pn_X9 rfl rfl (Nat.le_of_ble_eq_true rfl) LBm_nd (fun p e s m below meth c sz C => b_X9_isStuck C (Nat.le_refl _) (Nat.le_refl _)  hf)
end

/-! EndTellerModel.firstWay -/
def f_X9_firstWay_L2 (k23 : Mem → Option (Int × Mem)) : Nat → Int → Mem → Option (Int × Mem)
  | 0, _, _ => none
  | n + 1, x1, μ => (if w32 (μ 30 0 7) ≤ w32 x1 then k23  μ else gd (inb x1 10) (f_X9_firstWay_L2 k23 n (x1 + 1) (st μ 44 0 (ix x1) 0)))
def f_X9_firstWay_L25  : Nat → Int → Mem → Option (Int × Mem)
  | 0, _, _ => none
  | n + 1, x1, μ => (if w32 (μ 30 0 8) ≤ w32 x1 then some (0, μ) else gd (inb x1 4) (f_X9_firstWay_L25 n (x1 + 1) (st μ 47 0 (ix x1) 0)))
def f_X9_firstWay  (μ : Mem) : Option (Int × Mem) := f_X9_firstWay_L2 (fun μ3 => f_X9_firstWay_L25 FU 0 μ3) FU 0 μ
section
variable {p : Program} {l : Launch} {e : Env} {R : Room} {s : State} {m : MethodId} {args : Array Value} {below : List Frame} {meth : Method} {c : Code} {D : va_G} {Y : Nat → ClassId} {α : Adr} {sz : Nat} {r : Int} {μ' : Mem}
set_option maxHeartbeats 4000000 in
set_option maxRecDepth 100000 in
theorem c_X9_firstWay_l2 {k23 : Mem → Option (Int × Mem)} (C : CX p s m args meth c cX9_firstWay 2 RX9 none D Y LBm (Ar LBm α sz)) (hfr : 0 ≤ R.frames) (hlc : 0 ≤ R.locals)  (hk23 : ∀ (μ : Mem), k23 μ = some (r, μ') → GG D Y LBm (Ar LBm α sz) p l e R s m args below meth c 2 (MQ below (Qcx D Y LBm α sz none (fun a => a = α) μ') args s 0 0 (Ar LBm α sz)) α 0 0 [(0, vr α 30 0)] [] μ 23)  : ∀ (n : Nat) (x1 : Int) (μ : Mem), f_X9_firstWay_L2 k23 n x1 μ = some (r, μ') → GG D Y LBm (Ar LBm α sz) p l e R s m args below meth c 2 (MQ below (Qcx D Y LBm α sz none (fun a => a = α) μ') args s 0 0 (Ar LBm α sz)) α 0 0 [(0, vr α 30 0), (1, vi x1)] [] μ 2 := by
  intro n
  induction n with
  | zero =>
    intro x1 μ hf
    exact nomatch (show (none : Option (Int × Mem)) = some _ from hf)
  | succ n ih =>
    intro x1 μ hf
    rw [f_X9_firstWay_L2.eq_2] at hf
    refine g_ild_n C 1 rfl rfl dX9_firstWay_2 ?_
    refine g_ald_n C 0 rfl rfl dX9_firstWay_3 ?_
    refine g_get C dX9_firstWay_4 fl_X9_119 in_30 (ec_30 _ _ _ _ _) rfl ?_
    refine g_ic_ge C 23 (by decide) dX9_firstWay_7 (fun h1 => ?_) (fun h1 => ?_)
    · rw [if_pos h1] at hf
      exact g_sub C [0] rfl (hk23 _ hf)
    · rw [if_neg h1] at hf
      refine g_ald_n C 0 rfl rfl dX9_firstWay_10 ?_
      refine g_get C dX9_firstWay_11 fl_X9_61 in_30 (ec_30 _ _ _ _ _) rfl ?_
      refine g_ild_n C 1 rfl rfl dX9_firstWay_14 ?_
      refine g_iconst C dX9_firstWay_15 ?_
      obtain ⟨g2, hf⟩ := gd_some hf
      refine g_iast C dX9_firstWay_16 in_44 (fun _ => ec_44 _ _ _ _ _) (by decide) g2 ?_
      refine g_iinc (lo' := [(1, vi (x1 + 1)), (0, vr α 30 0)]) C 1 rfl (by decide) rfl dX9_firstWay_17 ?_
      refine g_goto C 2 (by decide) dX9_firstWay_20 ?_
      exact g_sub C [1, 0] rfl (ih _ _ hf)
set_option maxHeartbeats 4000000 in
set_option maxRecDepth 100000 in
theorem c_X9_firstWay_l25  (C : CX p s m args meth c cX9_firstWay 2 RX9 none D Y LBm (Ar LBm α sz)) (hfr : 0 ≤ R.frames) (hlc : 0 ≤ R.locals)    : ∀ (n : Nat) (x1 : Int) (μ : Mem), f_X9_firstWay_L25 n x1 μ = some (r, μ') → GG D Y LBm (Ar LBm α sz) p l e R s m args below meth c 2 (MQ below (Qcx D Y LBm α sz none (fun a => a = α) μ') args s 0 0 (Ar LBm α sz)) α 0 0 [(0, vr α 30 0), (1, vi x1)] [] μ 25 := by
  intro n
  induction n with
  | zero =>
    intro x1 μ hf
    exact nomatch (show (none : Option (Int × Mem)) = some _ from hf)
  | succ n ih =>
    intro x1 μ hf
    rw [f_X9_firstWay_L25.eq_2] at hf
    refine g_ild_n C 1 rfl rfl dX9_firstWay_25 ?_
    refine g_ald_n C 0 rfl rfl dX9_firstWay_26 ?_
    refine g_get C dX9_firstWay_27 fl_X9_148 in_30 (ec_30 _ _ _ _ _) rfl ?_
    refine g_ic_ge C 46 (by decide) dX9_firstWay_30 (fun h4 => ?_) (fun h4 => ?_)
    · rw [if_pos h4] at hf
      exact g_vret C rfl dX9_firstWay_46 hf
    · rw [if_neg h4] at hf
      refine g_ald_n C 0 rfl rfl dX9_firstWay_33 ?_
      refine g_get C dX9_firstWay_34 fl_X9_70 in_30 (ec_30 _ _ _ _ _) rfl ?_
      refine g_ild_n C 1 rfl rfl dX9_firstWay_37 ?_
      refine g_iconst C dX9_firstWay_38 ?_
      obtain ⟨g5, hf⟩ := gd_some hf
      refine g_zast C (Or.inl rfl) dX9_firstWay_39 in_47 (fun _ => ec_47 _ _ _ _ _) (by decide) g5 ?_
      refine g_iinc (lo' := [(1, vi (x1 + 1)), (0, vr α 30 0)]) C 1 rfl (by decide) rfl dX9_firstWay_40 ?_
      refine g_goto C 25 (by decide) dX9_firstWay_43 ?_
      exact g_sub C [1, 0] rfl (ih _ _ hf)
set_option maxHeartbeats 4000000 in
set_option maxRecDepth 100000 in
theorem b_X9_firstWay  {μ : Mem} (C : CX p s m args meth c cX9_firstWay 2 RX9 none D Y LBm (Ar LBm α sz)) (hfr : 0 ≤ R.frames) (hlc : 0 ≤ R.locals)  (hf : f_X9_firstWay μ = some (r, μ')) : GG D Y LBm (Ar LBm α sz) p l e R s m args below meth c 2 (MQ below (Qcx D Y LBm α sz none (fun a => a = α) μ') args s 0 0 (Ar LBm α sz)) α 0 0 [(0, vr α 30 0)] [] μ 0 := by
  unfold f_X9_firstWay at hf
  refine g_iconst C dX9_firstWay_0 ?_
  refine g_ist_n (lo' := [(1, vi 0), (0, vr α 30 0)]) C rfl (by decide) rfl dX9_firstWay_1 ?_
  refine g_sub C [1, 0] rfl (c_X9_firstWay_l2 C hfr hlc  (fun μ3 hf => ?_) _ _ _ hf)
  refine g_iconst C dX9_firstWay_23 ?_
  refine g_ist_n (lo' := [(1, vi 0), (0, vr α 30 0)]) C rfl (by decide) rfl dX9_firstWay_24 ?_
  refine g_sub C [1, 0] rfl (c_X9_firstWay_l25 C hfr hlc   _ _ _ hf)
set_option maxHeartbeats 4000000 in
set_option maxRecDepth 100000 in
theorem c_X9_firstWay {l : Launch} {D : va_G} {Y : Nat → ClassId} {α : Adr}  {μ : Mem} {r : Int} {μ' : Mem}  (hf : f_X9_firstWay μ = some (r, μ')) : Ctr l D Y LBm yX9_firstWay cX9_firstWay 2 none 0 0 0 0 [vr α 30 0] α μ none (fun a => a = α) μ' := Ctr_of pn_X9 rfl rfl (Nat.le_of_ble_eq_true rfl) LBm_nd (fun p e s m below meth c sz C => b_X9_firstWay C (Nat.le_refl _) (Nat.le_refl _)  hf)
end

/-! EndTellerModel.nextWay -/
def f_X9_nextWay_L2 (k50 : Mem → Option (Int × Mem)) : Nat → Int → Mem → Option (Int × Mem)
  | 0, _, _ => none
  | n + 1, x1, μ => (if w32 (μ 30 0 7) ≤ w32 x1 then k50  μ else gd (inb x1 10) (gd (inb x1 10) (gd (inb x1 10) (gd (inb x1 10) ((if w32 ((st μ 44 0 (ix x1) ((μ 44 0 (ix x1)) + 1)) 34 0 (ix x1)) ≤ w32 ((st μ 44 0 (ix x1) ((μ 44 0 (ix x1)) + 1)) 44 0 (ix x1)) then gd (inb x1 10) (f_X9_nextWay_L2 k50 n (x1 + 1) (st (st μ 44 0 (ix x1) ((μ 44 0 (ix x1)) + 1)) 44 0 (ix x1) 0)) else some (1, (st μ 44 0 (ix x1) ((μ 44 0 (ix x1)) + 1)))))))))
def f_X9_nextWay_L52  : Nat → Int → Mem → Option (Int × Mem)
  | 0, _, _ => none
  | n + 1, x1, μ => (if w32 (μ 30 0 8) ≤ w32 x1 then some (0, μ) else gd (inb x1 4) (jn (fun y11 => gd (inb x1 4) (gd (bb y11) (gd (inb x1 4) ((if w32 ((st μ 47 0 (ix x1) y11) 47 0 (ix x1)) = 0 then f_X9_nextWay_L52 n (x1 + 1) (st μ 47 0 (ix x1) y11) else some (1, (st μ 47 0 (ix x1) y11))))))) (fun j79 => (if w32 (μ 47 0 (ix x1)) = 0 then j79 1 else j79 0))))
def f_X9_nextWay  (μ : Mem) : Option (Int × Mem) := f_X9_nextWay_L2 (fun μ8 => f_X9_nextWay_L52 FU 0 μ8) FU 0 μ
section
variable {p : Program} {l : Launch} {e : Env} {R : Room} {s : State} {m : MethodId} {args : Array Value} {below : List Frame} {meth : Method} {c : Code} {D : va_G} {Y : Nat → ClassId} {α : Adr} {sz : Nat} {r : Int} {μ' : Mem}
set_option maxHeartbeats 4000000 in
set_option maxRecDepth 100000 in
theorem c_X9_nextWay_l2 {k50 : Mem → Option (Int × Mem)} (C : CX p s m args meth c cX9_nextWay 2 RX9 (some .boolean) D Y LBm (Ar LBm α sz)) (hfr : 0 ≤ R.frames) (hlc : 0 ≤ R.locals)  (hk50 : ∀ (μ : Mem), k50 μ = some (r, μ') → GG D Y LBm (Ar LBm α sz) p l e R s m args below meth c 2 (MQ below (Qcx D Y LBm α sz (some (vi r)) (fun a => a = α) μ') args s 0 0 (Ar LBm α sz)) α 0 0 [(0, vr α 30 0)] [] μ 50)  : ∀ (n : Nat) (x1 : Int) (μ : Mem), f_X9_nextWay_L2 k50 n x1 μ = some (r, μ') → GG D Y LBm (Ar LBm α sz) p l e R s m args below meth c 2 (MQ below (Qcx D Y LBm α sz (some (vi r)) (fun a => a = α) μ') args s 0 0 (Ar LBm α sz)) α 0 0 [(0, vr α 30 0), (1, vi x1)] [] μ 2 := by
  intro n
  induction n with
  | zero =>
    intro x1 μ hf
    exact nomatch (show (none : Option (Int × Mem)) = some _ from hf)
  | succ n ih =>
    intro x1 μ hf
    rw [f_X9_nextWay_L2.eq_2] at hf
    refine g_ild_n C 1 rfl rfl dX9_nextWay_2 ?_
    refine g_ald_n C 0 rfl rfl dX9_nextWay_3 ?_
    refine g_get C dX9_nextWay_4 fl_X9_119 in_30 (ec_30 _ _ _ _ _) rfl ?_
    refine g_ic_ge C 50 (by decide) dX9_nextWay_7 (fun h1 => ?_) (fun h1 => ?_)
    · rw [if_pos h1] at hf
      exact g_sub C [0] rfl (hk50 _ hf)
    · rw [if_neg h1] at hf
      refine g_ald_n C 0 rfl rfl dX9_nextWay_10 ?_
      refine g_get C dX9_nextWay_11 fl_X9_61 in_30 (ec_30 _ _ _ _ _) rfl ?_
      refine g_ild_n C 1 rfl rfl dX9_nextWay_14 ?_
      refine g_dup2 C rfl rfl dX9_nextWay_15 ?_
      obtain ⟨g2, hf⟩ := gd_some hf
      refine g_iald C dX9_nextWay_16 in_44 (fun _ => ec_44 _ _ _ _ _) g2 ?_
      refine g_iconst C dX9_nextWay_17 ?_
      refine g_iadd C dX9_nextWay_18 ?_
      obtain ⟨g3, hf⟩ := gd_some hf
      refine g_iast C dX9_nextWay_19 in_44 (fun _ => ec_44 _ _ _ _ _) (by decide) g3 ?_
      refine g_ald_n C 0 rfl rfl dX9_nextWay_20 ?_
      refine g_get C dX9_nextWay_21 fl_X9_61 in_30 (ec_30 _ _ _ _ _) rfl ?_
      refine g_ild_n C 1 rfl rfl dX9_nextWay_24 ?_
      obtain ⟨g4, hf⟩ := gd_some hf
      refine g_iald C dX9_nextWay_25 in_44 (fun _ => ec_44 _ _ _ _ _) g4 ?_
      refine g_ald_n C 0 rfl rfl dX9_nextWay_26 ?_
      refine g_get C dX9_nextWay_27 fl_X9_31 in_30 (ec_30 _ _ _ _ _) rfl ?_
      refine g_ild_n C 1 rfl rfl dX9_nextWay_30 ?_
      obtain ⟨g5, hf⟩ := gd_some hf
      refine g_iald C dX9_nextWay_31 in_34 (fun _ => ec_34 _ _ _ _ _) g5 ?_
      refine g_ic_ge C 37 (by decide) dX9_nextWay_32 (fun h6 => ?_) (fun h6 => ?_)
      · rw [if_pos h6] at hf
        refine g_ald_n C 0 rfl rfl dX9_nextWay_37 ?_
        refine g_get C dX9_nextWay_38 fl_X9_61 in_30 (ec_30 _ _ _ _ _) rfl ?_
        refine g_ild_n C 1 rfl rfl dX9_nextWay_41 ?_
        refine g_iconst C dX9_nextWay_42 ?_
        obtain ⟨g7, hf⟩ := gd_some hf
        refine g_iast C dX9_nextWay_43 in_44 (fun _ => ec_44 _ _ _ _ _) (by decide) g7 ?_
        refine g_iinc (lo' := [(1, vi (x1 + 1)), (0, vr α 30 0)]) C 1 rfl (by decide) rfl dX9_nextWay_44 ?_
        refine g_goto C 2 (by decide) dX9_nextWay_47 ?_
        exact g_sub C [1, 0] rfl (ih _ _ hf)
      · rw [if_neg h6] at hf
        refine g_iconst C dX9_nextWay_35 ?_
        exact g_zret C rfl (Or.inr rfl) dX9_nextWay_36 hf
set_option maxHeartbeats 4000000 in
set_option maxRecDepth 100000 in
theorem c_X9_nextWay_l52  (C : CX p s m args meth c cX9_nextWay 2 RX9 (some .boolean) D Y LBm (Ar LBm α sz)) (hfr : 0 ≤ R.frames) (hlc : 0 ≤ R.locals)    : ∀ (n : Nat) (x1 : Int) (μ : Mem), f_X9_nextWay_L52 n x1 μ = some (r, μ') → GG D Y LBm (Ar LBm α sz) p l e R s m args below meth c 2 (MQ below (Qcx D Y LBm α sz (some (vi r)) (fun a => a = α) μ') args s 0 0 (Ar LBm α sz)) α 0 0 [(0, vr α 30 0), (1, vi x1)] [] μ 52 := by
  intro n
  induction n with
  | zero =>
    intro x1 μ hf
    exact nomatch (show (none : Option (Int × Mem)) = some _ from hf)
  | succ n ih =>
    intro x1 μ hf
    rw [f_X9_nextWay_L52.eq_2] at hf
    refine g_ild_n C 1 rfl rfl dX9_nextWay_52 ?_
    refine g_ald_n C 0 rfl rfl dX9_nextWay_53 ?_
    refine g_get C dX9_nextWay_54 fl_X9_148 in_30 (ec_30 _ _ _ _ _) rfl ?_
    refine g_ic_ge C 97 (by decide) dX9_nextWay_57 (fun h9 => ?_) (fun h9 => ?_)
    · rw [if_pos h9] at hf
      refine g_iconst C dX9_nextWay_97 ?_
      exact g_zret C rfl (Or.inl rfl) dX9_nextWay_98 hf
    · rw [if_neg h9] at hf
      refine g_ald_n C 0 rfl rfl dX9_nextWay_60 ?_
      refine g_get C dX9_nextWay_61 fl_X9_70 in_30 (ec_30 _ _ _ _ _) rfl ?_
      refine g_ild_n C 1 rfl rfl dX9_nextWay_64 ?_
      refine g_ald_n C 0 rfl rfl dX9_nextWay_65 ?_
      refine g_get C dX9_nextWay_66 fl_X9_70 in_30 (ec_30 _ _ _ _ _) rfl ?_
      refine g_ild_n C 1 rfl rfl dX9_nextWay_69 ?_
      obtain ⟨g10, hf⟩ := gd_some hf
      refine g_zald C dX9_nextWay_70 in_47 (fun _ => ec_47 _ _ _ _ _) g10 ?_
      obtain ⟨j79, ej16, hf⟩ := jn_some hf
      have hj79 : ∀ (y11 : Int), j79 y11 = some (r, μ') → GG D Y LBm (Ar LBm α sz) p l e R s m args below meth c 2 (MQ below (Qcx D Y LBm α sz (some (vi r)) (fun a => a = α) μ') args s 0 0 (Ar LBm α sz)) α 0 0 [(0, vr α 30 0), (1, vi x1)] [vi y11, vi x1, vr α 47 0] μ 79 := by
        intro y11 hf
        rw [ej16] at hf
        try dsimp only at hf
        obtain ⟨g12, hf⟩ := gd_some hf
        obtain ⟨g13, hf⟩ := gd_some hf
        refine g_zast C g13 dX9_nextWay_79 in_47 (fun _ => ec_47 _ _ _ _ _) (by decide) g12 ?_
        refine g_ald_n C 0 rfl rfl dX9_nextWay_80 ?_
        refine g_get C dX9_nextWay_81 fl_X9_70 in_30 (ec_30 _ _ _ _ _) rfl ?_
        refine g_ild_n C 1 rfl rfl dX9_nextWay_84 ?_
        obtain ⟨g14, hf⟩ := gd_some hf
        refine g_zald C dX9_nextWay_85 in_47 (fun _ => ec_47 _ _ _ _ _) g14 ?_
        refine g_if_eq C 91 (by decide) dX9_nextWay_86 (fun h15 => ?_) (fun h15 => ?_)
        · rw [if_pos h15] at hf
          refine g_iinc (lo' := [(1, vi (x1 + 1)), (0, vr α 30 0)]) C 1 rfl (by decide) rfl dX9_nextWay_91 ?_
          refine g_goto C 52 (by decide) dX9_nextWay_94 ?_
          exact g_sub C [1, 0] rfl (ih _ _ hf)
        · rw [if_neg h15] at hf
          refine g_iconst C dX9_nextWay_89 ?_
          exact g_zret C rfl (Or.inr rfl) dX9_nextWay_90 hf
      clear ej16
      refine g_if_ne C 78 (by decide) dX9_nextWay_71 (fun h17 => ?_) (fun h17 => ?_)
      · rw [if_pos h17] at hf
        refine g_iconst C dX9_nextWay_74 ?_
        refine g_goto C 79 (by decide) dX9_nextWay_75 ?_
        exact g_sub C [0, 1] rfl (hj79 _ hf)
      · rw [if_neg h17] at hf
        refine g_iconst C dX9_nextWay_78 ?_
        exact g_sub C [0, 1] rfl (hj79 _ hf)
set_option maxHeartbeats 4000000 in
set_option maxRecDepth 100000 in
theorem b_X9_nextWay  {μ : Mem} (C : CX p s m args meth c cX9_nextWay 2 RX9 (some .boolean) D Y LBm (Ar LBm α sz)) (hfr : 0 ≤ R.frames) (hlc : 0 ≤ R.locals)  (hf : f_X9_nextWay μ = some (r, μ')) : GG D Y LBm (Ar LBm α sz) p l e R s m args below meth c 2 (MQ below (Qcx D Y LBm α sz (some (vi r)) (fun a => a = α) μ') args s 0 0 (Ar LBm α sz)) α 0 0 [(0, vr α 30 0)] [] μ 0 := by
  unfold f_X9_nextWay at hf
  refine g_iconst C dX9_nextWay_0 ?_
  refine g_ist_n (lo' := [(1, vi 0), (0, vr α 30 0)]) C rfl (by decide) rfl dX9_nextWay_1 ?_
  refine g_sub C [1, 0] rfl (c_X9_nextWay_l2 C hfr hlc  (fun μ8 hf => ?_) _ _ _ hf)
  refine g_iconst C dX9_nextWay_50 ?_
  refine g_ist_n (lo' := [(1, vi 0), (0, vr α 30 0)]) C rfl (by decide) rfl dX9_nextWay_51 ?_
  refine g_sub C [1, 0] rfl (c_X9_nextWay_l52 C hfr hlc   _ _ _ hf)
set_option maxHeartbeats 4000000 in
set_option maxRecDepth 100000 in
theorem c_X9_nextWay {l : Launch} {D : va_G} {Y : Nat → ClassId} {α : Adr}  {μ : Mem} {r : Int} {μ' : Mem}  (hf : f_X9_nextWay μ = some (r, μ')) : Ctr l D Y LBm yX9_nextWay cX9_nextWay 2 (some .boolean) 0 0 0 0 [vr α 30 0] α μ (some (vi r)) (fun a => a = α) μ' := Ctr_of pn_X9 rfl rfl (Nat.le_of_ble_eq_true rfl) LBm_nd (fun p e s m below meth c sz C => b_X9_nextWay C (Nat.le_refl _) (Nat.le_refl _)  hf)
end

/-! EndTellerModel.weightOf -/
def f_X9_weightOf_L4 (k38 : Int → Mem → Option (Int × Mem)) : Nat → Int → Int → Mem → Option (Int × Mem)
  | 0, _, _, _ => none
  | n + 1, x1, x3, μ => (if w32 (μ 30 0 7) ≤ w32 x3 then k38 x1 μ else gd (inb x3 10) (gd (inb ((8 * x3) + (μ 44 0 (ix x3))) 80) (f_X9_weightOf_L4 k38 n (x1 * (w32 (μ 39 0 (ix ((8 * x3) + (μ 44 0 (ix x3))))))) (x3 + 1) μ)))
def f_X9_weightOf_L40  : Nat → Int → Int → Mem → Option (Int × Mem)
  | 0, _, _, _ => none
  | n + 1, x1, x3, μ => (if w32 (μ 30 0 8) ≤ w32 x3 then some (x1, μ) else gd (inb x3 4) (jn (fun y8 => f_X9_weightOf_L40 n (x1 * y8) (x3 + 1) μ) (fun j82 => (if w32 (μ 47 0 (ix x3)) = 0 then gd (inb x3 4) (gd (inb x3 4) (j82 (w32 ((μ 42 0 (ix x3)) - (μ 41 0 (ix x3)))))) else gd (inb x3 4) (j82 (w32 (μ 41 0 (ix x3))))))))
def f_X9_weightOf  (μ : Mem) : Option (Int × Mem) := f_X9_weightOf_L4 (fun y5 μ4 => f_X9_weightOf_L40 FU y5 0 μ4) FU 1 0 μ
section
variable {p : Program} {l : Launch} {e : Env} {R : Room} {s : State} {m : MethodId} {args : Array Value} {below : List Frame} {meth : Method} {c : Code} {D : va_G} {Y : Nat → ClassId} {α : Adr} {sz : Nat} {r : Int} {μ' : Mem}
set_option maxHeartbeats 4000000 in
set_option maxRecDepth 100000 in
theorem c_X9_weightOf_l4 {k38 : Int → Mem → Option (Int × Mem)} (C : CX p s m args meth c cX9_weightOf 4 RX9 (some .long) D Y LBm (Ar LBm α sz)) (hfr : 0 ≤ R.frames) (hlc : 0 ≤ R.locals)  (hk38 : ∀ (y1 : Int) (μ : Mem), k38 y1 μ = some (r, μ') → GG D Y LBm (Ar LBm α sz) p l e R s m args below meth c 4 (MQ below (Qcx D Y LBm α sz (some (vl r)) (fun a => a = α) μ') args s 0 0 (Ar LBm α sz)) α 0 0 [(0, vr α 30 0), (1, vl y1)] [] μ 38)  : ∀ (n : Nat) (x1 x3 : Int) (μ : Mem), f_X9_weightOf_L4 k38 n x1 x3 μ = some (r, μ') → GG D Y LBm (Ar LBm α sz) p l e R s m args below meth c 4 (MQ below (Qcx D Y LBm α sz (some (vl r)) (fun a => a = α) μ') args s 0 0 (Ar LBm α sz)) α 0 0 [(0, vr α 30 0), (1, vl x1), (3, vi x3)] [] μ 4 := by
  intro n
  induction n with
  | zero =>
    intro x1 x3 μ hf
    exact nomatch (show (none : Option (Int × Mem)) = some _ from hf)
  | succ n ih =>
    intro x1 x3 μ hf
    rw [f_X9_weightOf_L4.eq_2] at hf
    refine g_ild_n C 2 rfl rfl dX9_weightOf_4 ?_
    refine g_ald_n C 0 rfl rfl dX9_weightOf_5 ?_
    refine g_get C dX9_weightOf_6 fl_X9_119 in_30 (ec_30 _ _ _ _ _) rfl ?_
    refine g_ic_ge C 38 (by decide) dX9_weightOf_9 (fun h1 => ?_) (fun h1 => ?_)
    · rw [if_pos h1] at hf
      exact g_sub C [0, 1] rfl (hk38 _ _ hf)
    · rw [if_neg h1] at hf
      refine g_lld_n C 1 rfl rfl dX9_weightOf_12 ?_
      refine g_ald_n C 0 rfl rfl dX9_weightOf_13 ?_
      refine g_get C dX9_weightOf_14 fl_X9_46 in_30 (ec_30 _ _ _ _ _) rfl ?_
      refine g_bipush C rfl dX9_weightOf_17 ?_
      refine g_ild_n C 2 rfl rfl dX9_weightOf_19 ?_
      refine g_imul C dX9_weightOf_20 ?_
      refine g_ald_n C 0 rfl rfl dX9_weightOf_21 ?_
      refine g_get C dX9_weightOf_22 fl_X9_61 in_30 (ec_30 _ _ _ _ _) rfl ?_
      refine g_ild_n C 2 rfl rfl dX9_weightOf_25 ?_
      obtain ⟨g2, hf⟩ := gd_some hf
      refine g_iald C dX9_weightOf_26 in_44 (fun _ => ec_44 _ _ _ _ _) g2 ?_
      refine g_iadd C dX9_weightOf_27 ?_
      obtain ⟨g3, hf⟩ := gd_some hf
      refine g_iald C dX9_weightOf_28 in_39 (fun _ => ec_39 _ _ _ _ _) g3 ?_
      refine g_i2l C dX9_weightOf_29 ?_
      refine g_lmul C dX9_weightOf_30 ?_
      refine g_lst_n (lo' := [(1, vl (x1 * (w32 (μ 39 0 (ix ((8 * x3) + (μ 44 0 (ix x3)))))))), (0, vr α 30 0), (3, vi x3)]) C rfl (by decide) rfl dX9_weightOf_31 ?_
      refine g_iinc (lo' := [(3, vi (x3 + 1)), (1, vl (x1 * (w32 (μ 39 0 (ix ((8 * x3) + (μ 44 0 (ix x3)))))))), (0, vr α 30 0)]) C 2 rfl (by decide) rfl dX9_weightOf_32 ?_
      refine g_goto C 4 (by decide) dX9_weightOf_35 ?_
      exact g_sub C [2, 1, 0] rfl (ih _ _ _ hf)
set_option maxHeartbeats 4000000 in
set_option maxRecDepth 100000 in
theorem c_X9_weightOf_l40  (C : CX p s m args meth c cX9_weightOf 4 RX9 (some .long) D Y LBm (Ar LBm α sz)) (hfr : 0 ≤ R.frames) (hlc : 0 ≤ R.locals)    : ∀ (n : Nat) (x1 x3 : Int) (μ : Mem), f_X9_weightOf_L40 n x1 x3 μ = some (r, μ') → GG D Y LBm (Ar LBm α sz) p l e R s m args below meth c 4 (MQ below (Qcx D Y LBm α sz (some (vl r)) (fun a => a = α) μ') args s 0 0 (Ar LBm α sz)) α 0 0 [(0, vr α 30 0), (1, vl x1), (3, vi x3)] [] μ 40 := by
  intro n
  induction n with
  | zero =>
    intro x1 x3 μ hf
    exact nomatch (show (none : Option (Int × Mem)) = some _ from hf)
  | succ n ih =>
    intro x1 x3 μ hf
    rw [f_X9_weightOf_L40.eq_2] at hf
    refine g_ild_n C 2 rfl rfl dX9_weightOf_40 ?_
    refine g_ald_n C 0 rfl rfl dX9_weightOf_41 ?_
    refine g_get C dX9_weightOf_42 fl_X9_148 in_30 (ec_30 _ _ _ _ _) rfl ?_
    refine g_ic_ge C 90 (by decide) dX9_weightOf_45 (fun h6 => ?_) (fun h6 => ?_)
    · rw [if_pos h6] at hf
      refine g_lld_n C 1 rfl rfl dX9_weightOf_90 ?_
      exact g_lret C rfl dX9_weightOf_91 hf
    · rw [if_neg h6] at hf
      refine g_lld_n C 1 rfl rfl dX9_weightOf_48 ?_
      refine g_ald_n C 0 rfl rfl dX9_weightOf_49 ?_
      refine g_get C dX9_weightOf_50 fl_X9_70 in_30 (ec_30 _ _ _ _ _) rfl ?_
      refine g_ild_n C 2 rfl rfl dX9_weightOf_53 ?_
      obtain ⟨g7, hf⟩ := gd_some hf
      refine g_zald C dX9_weightOf_54 in_47 (fun _ => ec_47 _ _ _ _ _) g7 ?_
      obtain ⟨j82, ej9, hf⟩ := jn_some hf
      have hj82 : ∀ (y8 : Int), j82 y8 = some (r, μ') → GG D Y LBm (Ar LBm α sz) p l e R s m args below meth c 4 (MQ below (Qcx D Y LBm α sz (some (vl r)) (fun a => a = α) μ') args s 0 0 (Ar LBm α sz)) α 0 0 [(0, vr α 30 0), (3, vi x3)] [vl y8, vl x1] μ 82 := by
        intro y8 hf
        rw [ej9] at hf
        try dsimp only at hf
        refine g_lmul C dX9_weightOf_82 ?_
        refine g_lst_n (lo' := [(1, vl (x1 * y8)), (0, vr α 30 0), (3, vi x3)]) C rfl (by decide) rfl dX9_weightOf_83 ?_
        refine g_iinc (lo' := [(3, vi (x3 + 1)), (1, vl (x1 * y8)), (0, vr α 30 0)]) C 2 rfl (by decide) rfl dX9_weightOf_84 ?_
        refine g_goto C 40 (by decide) dX9_weightOf_87 ?_
        exact g_sub C [2, 1, 0] rfl (ih _ _ _ hf)
      clear ej9
      refine g_if_eq C 68 (by decide) dX9_weightOf_55 (fun h10 => ?_) (fun h10 => ?_)
      · rw [if_pos h10] at hf
        refine g_ald_n C 0 rfl rfl dX9_weightOf_68 ?_
        refine g_get C dX9_weightOf_69 fl_X9_55 in_30 (ec_30 _ _ _ _ _) rfl ?_
        refine g_ild_n C 2 rfl rfl dX9_weightOf_72 ?_
        obtain ⟨g11, hf⟩ := gd_some hf
        refine g_iald C dX9_weightOf_73 in_42 (fun _ => ec_42 _ _ _ _ _) g11 ?_
        refine g_ald_n C 0 rfl rfl dX9_weightOf_74 ?_
        refine g_get C dX9_weightOf_75 fl_X9_52 in_30 (ec_30 _ _ _ _ _) rfl ?_
        refine g_ild_n C 2 rfl rfl dX9_weightOf_78 ?_
        obtain ⟨g12, hf⟩ := gd_some hf
        refine g_iald C dX9_weightOf_79 in_41 (fun _ => ec_41 _ _ _ _ _) g12 ?_
        refine g_isub C dX9_weightOf_80 ?_
        refine g_i2l C dX9_weightOf_81 ?_
        exact g_sub C [0, 2] rfl (hj82 _ hf)
      · rw [if_neg h10] at hf
        refine g_ald_n C 0 rfl rfl dX9_weightOf_58 ?_
        refine g_get C dX9_weightOf_59 fl_X9_52 in_30 (ec_30 _ _ _ _ _) rfl ?_
        refine g_ild_n C 2 rfl rfl dX9_weightOf_62 ?_
        obtain ⟨g13, hf⟩ := gd_some hf
        refine g_iald C dX9_weightOf_63 in_41 (fun _ => ec_41 _ _ _ _ _) g13 ?_
        refine g_i2l C dX9_weightOf_64 ?_
        refine g_goto C 82 (by decide) dX9_weightOf_65 ?_
        exact g_sub C [0, 2] rfl (hj82 _ hf)
set_option maxHeartbeats 4000000 in
set_option maxRecDepth 100000 in
theorem b_X9_weightOf  {μ : Mem} (C : CX p s m args meth c cX9_weightOf 4 RX9 (some .long) D Y LBm (Ar LBm α sz)) (hfr : 0 ≤ R.frames) (hlc : 0 ≤ R.locals)  (hf : f_X9_weightOf μ = some (r, μ')) : GG D Y LBm (Ar LBm α sz) p l e R s m args below meth c 4 (MQ below (Qcx D Y LBm α sz (some (vl r)) (fun a => a = α) μ') args s 0 0 (Ar LBm α sz)) α 0 0 [(0, vr α 30 0)] [] μ 0 := by
  unfold f_X9_weightOf at hf
  refine g_lconst (x := 1) C rfl dX9_weightOf_0 ?_
  refine g_lst_n (lo' := [(1, vl 1), (0, vr α 30 0)]) C rfl (by decide) rfl dX9_weightOf_1 ?_
  refine g_iconst C dX9_weightOf_2 ?_
  refine g_ist_n (lo' := [(3, vi 0), (1, vl 1), (0, vr α 30 0)]) C rfl (by decide) rfl dX9_weightOf_3 ?_
  refine g_sub C [2, 1, 0] rfl (c_X9_weightOf_l4 C hfr hlc  (fun y5 μ4 hf => ?_) _ _ _ _ hf)
  refine g_iconst C dX9_weightOf_38 ?_
  refine g_ist_n (lo' := [(3, vi 0), (0, vr α 30 0), (1, vl y5)]) C rfl (by decide) rfl dX9_weightOf_39 ?_
  refine g_sub C [1, 2, 0] rfl (c_X9_weightOf_l40 C hfr hlc   _ _ _ _ hf)
set_option maxHeartbeats 4000000 in
set_option maxRecDepth 100000 in
theorem c_X9_weightOf {l : Launch} {D : va_G} {Y : Nat → ClassId} {α : Adr}  {μ : Mem} {r : Int} {μ' : Mem}  (hf : f_X9_weightOf μ = some (r, μ')) : Ctr l D Y LBm yX9_weightOf cX9_weightOf 4 (some .long) 0 0 0 0 [vr α 30 0] α μ (some (vl r)) (fun a => a = α) μ' := Ctr_of pn_X9 rfl rfl (Nat.le_of_ble_eq_true rfl) LBm_nd (fun p e s m below meth c sz C => b_X9_weightOf C (Nat.le_refl _) (Nat.le_refl _)  hf)
end

/-! EndTellerModel.areOver -/
def f_X9_areOver_L2 (x1 : Int) : Nat → Int → Mem → Option (Int × Mem)
  | 0, _, _ => none
  | n + 1, x2, μ => (if w32 (μ 30 0 7) ≤ w32 x2 then some (1, μ) else jn (f_X9_areOver_L2 x1 n (x2 + 1) μ) (fun j30 => (if w32 (ian (ishr x1 x2) 1) = w32 1 then gd (inb x2 10) ((if w32 (μ 54 0 (ix x2)) = 0 then some (0, μ) else j30 )) else j30 )))
def f_X9_areOver (a1 : Int) (μ : Mem) : Option (Int × Mem) := f_X9_areOver_L2 a1 FU 0 μ
section
variable {p : Program} {l : Launch} {e : Env} {R : Room} {s : State} {m : MethodId} {args : Array Value} {below : List Frame} {meth : Method} {c : Code} {D : va_G} {Y : Nat → ClassId} {α : Adr} {sz : Nat} {r : Int} {μ' : Mem}
set_option maxHeartbeats 4000000 in
set_option maxRecDepth 100000 in
theorem c_X9_areOver_l2 {x1 : Int} (C : CX p s m args meth c cX9_areOver 3 RX9 (some .boolean) D Y LBm (Ar LBm α sz)) (hfr : 0 ≤ R.frames) (hlc : 0 ≤ R.locals)    : ∀ (n : Nat) (x2 : Int) (μ : Mem), f_X9_areOver_L2 x1 n x2 μ = some (r, μ') → GG D Y LBm (Ar LBm α sz) p l e R s m args below meth c 3 (MQ below (Qcx D Y LBm α sz (some (vi r)) (fun a => a = α) μ') args s 0 0 (Ar LBm α sz)) α 0 0 [(0, vr α 30 0), (1, vi x1), (2, vi x2)] [] μ 2 := by
  intro n
  induction n with
  | zero =>
    intro x2 μ hf
    exact nomatch (show (none : Option (Int × Mem)) = some _ from hf)
  | succ n ih =>
    intro x2 μ hf
    rw [f_X9_areOver_L2.eq_2] at hf
    refine g_ild_n C 2 rfl rfl dX9_areOver_2 ?_
    refine g_ald_n C 0 rfl rfl dX9_areOver_3 ?_
    refine g_get C dX9_areOver_4 fl_X9_119 in_30 (ec_30 _ _ _ _ _) rfl ?_
    refine g_ic_ge C 36 (by decide) dX9_areOver_7 (fun h1 => ?_) (fun h1 => ?_)
    · rw [if_pos h1] at hf
      refine g_iconst C dX9_areOver_36 ?_
      exact g_zret C rfl (Or.inr rfl) dX9_areOver_37 hf
    · rw [if_neg h1] at hf
      refine g_ild_n C 1 rfl rfl dX9_areOver_10 ?_
      refine g_ild_n C 2 rfl rfl dX9_areOver_11 ?_
      refine g_ishr C dX9_areOver_12 ?_
      refine g_iconst C dX9_areOver_13 ?_
      refine g_iand C dX9_areOver_14 ?_
      refine g_iconst C dX9_areOver_15 ?_
      obtain ⟨j30, ej2, hf⟩ := jn_some hf
      have hj30 : j30  = some (r, μ') → GG D Y LBm (Ar LBm α sz) p l e R s m args below meth c 3 (MQ below (Qcx D Y LBm α sz (some (vi r)) (fun a => a = α) μ') args s 0 0 (Ar LBm α sz)) α 0 0 [(0, vr α 30 0), (1, vi x1), (2, vi x2)] [] μ 30 := by
        intro  hf
        rw [ej2] at hf
        try dsimp only at hf
        refine g_iinc (lo' := [(2, vi (x2 + 1)), (0, vr α 30 0), (1, vi x1)]) C 2 rfl (by decide) rfl dX9_areOver_30 ?_
        refine g_goto C 2 (by decide) dX9_areOver_33 ?_
        exact g_sub C [1, 2, 0] rfl (ih _ _ hf)
      clear ej2
      refine g_ic_ne C 30 (by decide) dX9_areOver_16 (fun h3 => ?_) (fun h3 => ?_)
      · rw [if_pos h3] at hf
        refine g_ald_n C 0 rfl rfl dX9_areOver_19 ?_
        refine g_get C dX9_areOver_20 fl_X9_92 in_30 (ec_30 _ _ _ _ _) rfl ?_
        refine g_ild_n C 2 rfl rfl dX9_areOver_23 ?_
        obtain ⟨g4, hf⟩ := gd_some hf
        refine g_zald C dX9_areOver_24 in_54 (fun _ => ec_54 _ _ _ _ _) g4 ?_
        refine g_if_ne C 30 (by decide) dX9_areOver_25 (fun h5 => ?_) (fun h5 => ?_)
        · rw [if_pos h5] at hf
          refine g_iconst C dX9_areOver_28 ?_
          exact g_zret C rfl (Or.inl rfl) dX9_areOver_29 hf
        · rw [if_neg h5] at hf
          exact g_sub C [0, 1, 2] rfl (hj30  hf)
      · rw [if_neg h3] at hf
        exact g_sub C [0, 1, 2] rfl (hj30  hf)
set_option maxHeartbeats 4000000 in
set_option maxRecDepth 100000 in
theorem b_X9_areOver {a1 : Int} {μ : Mem} (C : CX p s m args meth c cX9_areOver 3 RX9 (some .boolean) D Y LBm (Ar LBm α sz)) (hfr : 0 ≤ R.frames) (hlc : 0 ≤ R.locals)  (hf : f_X9_areOver a1 μ = some (r, μ')) : GG D Y LBm (Ar LBm α sz) p l e R s m args below meth c 3 (MQ below (Qcx D Y LBm α sz (some (vi r)) (fun a => a = α) μ') args s 0 0 (Ar LBm α sz)) α 0 0 [(0, vr α 30 0), (1, vi a1)] [] μ 0 := by
  unfold f_X9_areOver at hf
  refine g_iconst C dX9_areOver_0 ?_
  refine g_ist_n (lo' := [(2, vi 0), (0, vr α 30 0), (1, vi a1)]) C rfl (by decide) rfl dX9_areOver_1 ?_
  refine g_sub C [1, 2, 0] rfl (c_X9_areOver_l2 C hfr hlc   _ _ _ hf)
set_option maxHeartbeats 4000000 in
set_option maxRecDepth 100000 in
theorem c_X9_areOver {l : Launch} {D : va_G} {Y : Nat → ClassId} {α : Adr} {a1 : Int} {μ : Mem} {r : Int} {μ' : Mem}  (hf : f_X9_areOver a1 μ = some (r, μ')) : Ctr l D Y LBm yX9_areOver cX9_areOver 3 (some .boolean) 0 0 0 0 [vr α 30 0, vi a1] α μ (some (vi r)) (fun a => a = α) μ' := Ctr_of pn_X9 rfl rfl (Nat.le_of_ble_eq_true rfl) LBm_nd (fun p e s m below meth c sz C => b_X9_areOver C (Nat.le_refl _) (Nat.le_refl _)  hf)
end

/-! EndTellerModel.step -/
def f_X9_step_L45 (x1 : Int) (x2 : Int) (k91 : Mem → Option (Int × Mem)) : Nat → Int → Mem → Option (Int × Mem)
  | 0, _, _ => none
  | n + 1, x3, μ => (if w32 (μ 30 0 8) ≤ w32 x3 then k91  μ else gd (inb x2 10) (gd (inb x3 4) (jn (fun y9 => gd (inb x2 10) (f_X9_step_L45 x1 x2 k91 n (x3 + 1) (st μ 45 0 (ix x2) ((μ 45 0 (ix x2)) + y9)))) (fun j83 => (if w32 (μ 47 0 (ix x3)) = 0 then j83 0 else gd (inb ((4 * x2) + x3) 40) (j83 (μ 40 0 (ix ((4 * x2) + x3)))))))))
def f_X9_step_L2 (x1 : Int) (k111 : Mem → Option (Int × Mem)) : Nat → Int → Mem → Option (Int × Mem)
  | 0, _, _ => none
  | n + 1, x2, μ => (if w32 (μ 30 0 7) ≤ w32 x2 then k111  μ else gd (inb x2 10) (gd (inb ((8 * x2) + (μ 44 0 (ix x2))) 80) (jn (fun y4 => gd (inb x2 10) (f_X9_step_L45 x1 x2 (fun μ14 => gd (inb x2 10) (gd (inb x2 10) (f_X9_step_L2 x1 k111 n (x2 + 1) (st (st μ14 53 0 (ix x2) 0) 54 0 (ix x2) 0)))) FU 0 (st μ 45 0 (ix x2) ((μ 38 0 (ix ((8 * x2) + (μ 44 0 (ix x2))))) + y4)))) (fun j41 => (if w32 x2 = w32 x1 then j41 1 else j41 0)))))
def f_X9_step_L134 (x4 : Int) (k209 : Int → Int → Int → Mem → Option (Int × Mem)) : Nat → Int → Int → Int → Int → Mem → Option (Int × Mem)
  | 0, _, _, _, _, _ => none
  | n + 1, x2, x3, x5, x6, μ => (if w32 (μ 30 0 7) ≤ w32 x6 then k209 x2 x3 x5 μ else gd (inb x6 10) (jn (fun y24 y25 y26 μ23 => f_X9_step_L134 x4 k209 n y24 y25 y26 (x6 + 1) μ23) (fun j203 => (if w32 (μ 53 0 (ix x6)) = 0 then j203 x2 x3 x5 μ else gd (inb x6 10) ((if w32 (μ 54 0 (ix x6)) = 0 then gd (inb x6 10) ((if w32 (μ 46 0 (ix x6)) = w32 x4 then gd (inb x6 10) (gd (inb x6 10) (j203 (x2 + ((st μ 54 0 (ix x6) 1) 35 0 (ix x6))) (x3 + (-1)) x4 (st μ 54 0 (ix x6) 1))) else j203 x2 x3 x5 μ)) else j203 x2 x3 x5 μ))))))
def f_X9_step_L212 (x4 : Int) (k334 : Int → Int → Int → Mem → Option (Int × Mem)) : Nat → Int → Int → Int → Int → Mem → Option (Int × Mem)
  | 0, _, _, _, _, _ => none
  | n + 1, x2, x3, x5, x6, μ => (if w32 (μ 30 0 7) ≤ w32 x6 then k334 x2 x3 x5 μ else gd (inb x6 10) (jn (fun μ41 => f_X9_step_L212 x4 k334 n x2 x3 x5 (x6 + 1) μ41) (fun j256 => (if w32 (μ 53 0 (ix x6)) = 0 then gd (inb x6 10) ((if w32 x2 < w32 (μ 35 0 (ix x6)) then j256  μ else gd (inb x6 10) (bn (f_X9_areOver (μ 36 0 (ix x6)) μ) (fun r47 μ48 => (if w32 r47 = 0 then j256  μ48 else gd (inb x6 10) (gd (inb x6 10) (gd (inb x6 10) (gd (inb x6 10) ((if w32 ((st (st μ48 53 0 (ix x6) 1) 46 0 (ix x6) (x4 + ((st μ48 53 0 (ix x6) 1) 45 0 (ix x6)))) 45 0 (ix x6)) ≤ 0 then gd (inb x6 10) (f_X9_step_L212 x4 k334 n x2 (x3 + (-1)) x4 0 (st (st (st μ48 53 0 (ix x6) 1) 46 0 (ix x6) (x4 + ((st μ48 53 0 (ix x6) 1) 45 0 (ix x6)))) 54 0 (ix x6) 1)) else gd (inb x6 10) (f_X9_step_L212 x4 k334 n (x2 - ((st (st μ48 53 0 (ix x6) 1) 46 0 (ix x6) (x4 + ((st μ48 53 0 (ix x6) 1) 45 0 (ix x6)))) 35 0 (ix x6))) x3 x5 (x6 + 1) (st (st μ48 53 0 (ix x6) 1) 46 0 (ix x6) (x4 + ((st μ48 53 0 (ix x6) 1) 45 0 (ix x6))))))))))))))) else j256  μ))))
def f_X9_step_L341 (x2 : Int) (x3 : Int) (x4 : Int) (x5 : Int) (k390 : Int → Mem → Option (Int × Mem)) : Nat → Int → Int → Mem → Option (Int × Mem)
  | 0, _, _, _ => none
  | n + 1, x7, x8, μ => (if w32 (μ 30 0 7) ≤ w32 x8 then k390 x7 μ else gd (inb x8 10) (jn (fun y65 μ64 => f_X9_step_L341 x2 x3 x4 x5 k390 n y65 (x8 + 1) μ64) (fun j384 => (if w32 (μ 53 0 (ix x8)) = 0 then j384 x7 μ else gd (inb x8 10) ((if w32 (μ 54 0 (ix x8)) = 0 then gd (inb x8 10) (j384 (if w32 (μ 46 0 (ix x8)) < w32 x7 then (μ 46 0 (ix x8)) else x7) μ) else j384 x7 μ))))))
def f_X9_step_L127  : Nat → Int → Int → Int → Int → Mem → Option (Int × Mem)
  | 0, _, _, _, _, _ => none
  | n + 1, x2, x3, x4, x5, μ => (if w32 x3 ≤ 0 then some (x5, μ) else f_X9_step_L134 x4 (fun y36 y37 y38 μ35 => f_X9_step_L212 x4 (fun y59 y60 y61 μ58 => f_X9_step_L341 y59 y60 x4 y61 (fun y72 μ71 => jn (fun y73 => f_X9_step_L127 n y59 y60 y73 y61 μ71) (fun j401 => (if w32 y60 ≤ 0 then j401 x4 else j401 y72))) FU 2147483647 0 μ58) FU y36 y37 y38 0 μ35) FU x2 x3 x5 0 μ)
def f_X9_step (a1 : Int) (μ : Mem) : Option (Int × Mem) := f_X9_step_L2 a1 (fun μ19 => f_X9_step_L127 FU (μ19 30 0 9) (μ19 30 0 7) 0 0 μ19) FU 0 μ
section
variable {p : Program} {l : Launch} {e : Env} {R : Room} {s : State} {m : MethodId} {args : Array Value} {below : List Frame} {meth : Method} {c : Code} {D : va_G} {Y : Nat → ClassId} {α : Adr} {sz : Nat} {r : Int} {μ' : Mem}
set_option maxHeartbeats 4000000 in
set_option maxRecDepth 100000 in
theorem c_X9_step_l45 {x1 : Int} {x2 : Int} {k91 : Mem → Option (Int × Mem)} (C : CX p s m args meth c cX9_step 9 RX9 (some .int) D Y LBm (Ar LBm α sz)) (hfr : 1 ≤ R.frames) (hlc : 22 ≤ R.locals)  (hk91 : ∀ (μ : Mem), k91 μ = some (r, μ') → GG D Y LBm (Ar LBm α sz) p l e R s m args below meth c 9 (MQ below (Qcx D Y LBm α sz (some (vi r)) (fun a => a = α) μ') args s 0 0 (Ar LBm α sz)) α 0 0 [(0, vr α 30 0), (1, vi x1), (2, vi x2)] [] μ 91)  : ∀ (n : Nat) (x3 : Int) (μ : Mem), f_X9_step_L45 x1 x2 k91 n x3 μ = some (r, μ') → GG D Y LBm (Ar LBm α sz) p l e R s m args below meth c 9 (MQ below (Qcx D Y LBm α sz (some (vi r)) (fun a => a = α) μ') args s 0 0 (Ar LBm α sz)) α 0 0 [(0, vr α 30 0), (1, vi x1), (2, vi x2), (3, vi x3)] [] μ 45 := by
  intro n
  induction n with
  | zero =>
    intro x3 μ hf
    exact nomatch (show (none : Option (Int × Mem)) = some _ from hf)
  | succ n ih =>
    intro x3 μ hf
    rw [f_X9_step_L45.eq_2] at hf
    refine g_ild_n C 3 rfl rfl dX9_step_45 ?_
    refine g_ald_n C 0 rfl rfl dX9_step_46 ?_
    refine g_get C dX9_step_47 fl_X9_148 in_30 (ec_30 _ _ _ _ _) rfl ?_
    refine g_ic_ge C 91 (by decide) dX9_step_50 (fun h6 => ?_) (fun h6 => ?_)
    · rw [if_pos h6] at hf
      exact g_sub C [0, 1, 2] rfl (hk91 _ hf)
    · rw [if_neg h6] at hf
      refine g_ald_n C 0 rfl rfl dX9_step_53 ?_
      refine g_get C dX9_step_54 fl_X9_64 in_30 (ec_30 _ _ _ _ _) rfl ?_
      refine g_ild_n C 2 rfl rfl dX9_step_57 ?_
      refine g_dup2 C rfl rfl dX9_step_58 ?_
      obtain ⟨g7, hf⟩ := gd_some hf
      refine g_iald C dX9_step_59 in_45 (fun _ => ec_45 _ _ _ _ _) g7 ?_
      refine g_ald_n C 0 rfl rfl dX9_step_60 ?_
      refine g_get C dX9_step_61 fl_X9_70 in_30 (ec_30 _ _ _ _ _) rfl ?_
      refine g_ild_n C 3 rfl rfl dX9_step_64 ?_
      obtain ⟨g8, hf⟩ := gd_some hf
      refine g_zald C dX9_step_65 in_47 (fun _ => ec_47 _ _ _ _ _) g8 ?_
      obtain ⟨j83, ej11, hf⟩ := jn_some hf
      have hj83 : ∀ (y9 : Int), j83 y9 = some (r, μ') → GG D Y LBm (Ar LBm α sz) p l e R s m args below meth c 9 (MQ below (Qcx D Y LBm α sz (some (vi r)) (fun a => a = α) μ') args s 0 0 (Ar LBm α sz)) α 0 0 [(0, vr α 30 0), (1, vi x1), (2, vi x2), (3, vi x3)] [vi y9, vi (μ 45 0 (ix x2)), vi x2, vr α 45 0] μ 83 := by
        intro y9 hf
        rw [ej11] at hf
        try dsimp only at hf
        refine g_iadd C dX9_step_83 ?_
        obtain ⟨g10, hf⟩ := gd_some hf
        refine g_iast C dX9_step_84 in_45 (fun _ => ec_45 _ _ _ _ _) (by decide) g10 ?_
        refine g_iinc (lo' := [(3, vi (x3 + 1)), (0, vr α 30 0), (1, vi x1), (2, vi x2)]) C 3 rfl (by decide) rfl dX9_step_85 ?_
        refine g_goto C 45 (by decide) dX9_step_88 ?_
        exact g_sub C [1, 2, 3, 0] rfl (ih _ _ hf)
      clear ej11
      refine g_if_eq C 82 (by decide) dX9_step_66 (fun h12 => ?_) (fun h12 => ?_)
      · rw [if_pos h12] at hf
        refine g_iconst C dX9_step_82 ?_
        exact g_sub C [0, 1, 2, 3] rfl (hj83 _ hf)
      · rw [if_neg h12] at hf
        refine g_ald_n C 0 rfl rfl dX9_step_69 ?_
        refine g_get C dX9_step_70 fl_X9_49 in_30 (ec_30 _ _ _ _ _) rfl ?_
        refine g_iconst C dX9_step_73 ?_
        refine g_ild_n C 2 rfl rfl dX9_step_74 ?_
        refine g_imul C dX9_step_75 ?_
        refine g_ild_n C 3 rfl rfl dX9_step_76 ?_
        refine g_iadd C dX9_step_77 ?_
        obtain ⟨g13, hf⟩ := gd_some hf
        refine g_iald C dX9_step_78 in_40 (fun _ => ec_40 _ _ _ _ _) g13 ?_
        refine g_goto C 83 (by decide) dX9_step_79 ?_
        exact g_sub C [0, 1, 2, 3] rfl (hj83 _ hf)
set_option maxHeartbeats 4000000 in
set_option maxRecDepth 100000 in
theorem c_X9_step_l2 {x1 : Int} {k111 : Mem → Option (Int × Mem)} (C : CX p s m args meth c cX9_step 9 RX9 (some .int) D Y LBm (Ar LBm α sz)) (hfr : 1 ≤ R.frames) (hlc : 22 ≤ R.locals)  (hk111 : ∀ (μ : Mem), k111 μ = some (r, μ') → GG D Y LBm (Ar LBm α sz) p l e R s m args below meth c 9 (MQ below (Qcx D Y LBm α sz (some (vi r)) (fun a => a = α) μ') args s 0 0 (Ar LBm α sz)) α 0 0 [(0, vr α 30 0)] [] μ 111)  : ∀ (n : Nat) (x2 : Int) (μ : Mem), f_X9_step_L2 x1 k111 n x2 μ = some (r, μ') → GG D Y LBm (Ar LBm α sz) p l e R s m args below meth c 9 (MQ below (Qcx D Y LBm α sz (some (vi r)) (fun a => a = α) μ') args s 0 0 (Ar LBm α sz)) α 0 0 [(0, vr α 30 0), (1, vi x1), (2, vi x2)] [] μ 2 := by
  intro n
  induction n with
  | zero =>
    intro x2 μ hf
    exact nomatch (show (none : Option (Int × Mem)) = some _ from hf)
  | succ n ih =>
    intro x2 μ hf
    rw [f_X9_step_L2.eq_2] at hf
    refine g_ild_n C 2 rfl rfl dX9_step_2 ?_
    refine g_ald_n C 0 rfl rfl dX9_step_3 ?_
    refine g_get C dX9_step_4 fl_X9_119 in_30 (ec_30 _ _ _ _ _) rfl ?_
    refine g_ic_ge C 111 (by decide) dX9_step_7 (fun h1 => ?_) (fun h1 => ?_)
    · rw [if_pos h1] at hf
      exact g_sub C [0] rfl (hk111 _ hf)
    · rw [if_neg h1] at hf
      refine g_ald_n C 0 rfl rfl dX9_step_10 ?_
      refine g_get C dX9_step_11 fl_X9_64 in_30 (ec_30 _ _ _ _ _) rfl ?_
      refine g_ild_n C 2 rfl rfl dX9_step_14 ?_
      refine g_ald_n C 0 rfl rfl dX9_step_15 ?_
      refine g_get C dX9_step_16 fl_X9_43 in_30 (ec_30 _ _ _ _ _) rfl ?_
      refine g_bipush C rfl dX9_step_19 ?_
      refine g_ild_n C 2 rfl rfl dX9_step_21 ?_
      refine g_imul C dX9_step_22 ?_
      refine g_ald_n C 0 rfl rfl dX9_step_23 ?_
      refine g_get C dX9_step_24 fl_X9_61 in_30 (ec_30 _ _ _ _ _) rfl ?_
      refine g_ild_n C 2 rfl rfl dX9_step_27 ?_
      obtain ⟨g2, hf⟩ := gd_some hf
      refine g_iald C dX9_step_28 in_44 (fun _ => ec_44 _ _ _ _ _) g2 ?_
      refine g_iadd C dX9_step_29 ?_
      obtain ⟨g3, hf⟩ := gd_some hf
      refine g_iald C dX9_step_30 in_38 (fun _ => ec_38 _ _ _ _ _) g3 ?_
      refine g_ild_n C 2 rfl rfl dX9_step_31 ?_
      refine g_ild_n C 1 rfl rfl dX9_step_32 ?_
      obtain ⟨j41, ej17, hf⟩ := jn_some hf
      have hj41 : ∀ (y4 : Int), j41 y4 = some (r, μ') → GG D Y LBm (Ar LBm α sz) p l e R s m args below meth c 9 (MQ below (Qcx D Y LBm α sz (some (vi r)) (fun a => a = α) μ') args s 0 0 (Ar LBm α sz)) α 0 0 [(0, vr α 30 0), (1, vi x1), (2, vi x2)] [vi y4, vi (μ 38 0 (ix ((8 * x2) + (μ 44 0 (ix x2))))), vi x2, vr α 45 0] μ 41 := by
        intro y4 hf
        rw [ej17] at hf
        try dsimp only at hf
        refine g_iadd C dX9_step_41 ?_
        obtain ⟨g5, hf⟩ := gd_some hf
        refine g_iast C dX9_step_42 in_45 (fun _ => ec_45 _ _ _ _ _) (by decide) g5 ?_
        refine g_iconst C dX9_step_43 ?_
        refine g_ist_n (lo' := [(3, vi 0), (0, vr α 30 0), (1, vi x1), (2, vi x2)]) C rfl (by decide) rfl dX9_step_44 ?_
        refine g_sub C [1, 2, 3, 0] rfl (c_X9_step_l45 C hfr hlc  (fun μ14 hf => ?_) _ _ _ hf)
        refine g_ald_n C 0 rfl rfl dX9_step_91 ?_
        refine g_get C dX9_step_92 fl_X9_89 in_30 (ec_30 _ _ _ _ _) rfl ?_
        refine g_ild_n C 2 rfl rfl dX9_step_95 ?_
        refine g_iconst C dX9_step_96 ?_
        obtain ⟨g15, hf⟩ := gd_some hf
        refine g_zast C (Or.inl rfl) dX9_step_97 in_53 (fun _ => ec_53 _ _ _ _ _) (by decide) g15 ?_
        refine g_ald_n C 0 rfl rfl dX9_step_98 ?_
        refine g_get C dX9_step_99 fl_X9_92 in_30 (ec_30 _ _ _ _ _) rfl ?_
        refine g_ild_n C 2 rfl rfl dX9_step_102 ?_
        refine g_iconst C dX9_step_103 ?_
        obtain ⟨g16, hf⟩ := gd_some hf
        refine g_zast C (Or.inl rfl) dX9_step_104 in_54 (fun _ => ec_54 _ _ _ _ _) (by decide) g16 ?_
        refine g_iinc (lo' := [(2, vi (x2 + 1)), (0, vr α 30 0), (1, vi x1)]) C 2 rfl (by decide) rfl dX9_step_105 ?_
        refine g_goto C 2 (by decide) dX9_step_108 ?_
        exact g_sub C [1, 2, 0] rfl (ih _ _ hf)
      clear ej17
      refine g_ic_ne C 40 (by decide) dX9_step_33 (fun h18 => ?_) (fun h18 => ?_)
      · rw [if_pos h18] at hf
        refine g_iconst C dX9_step_36 ?_
        refine g_goto C 41 (by decide) dX9_step_37 ?_
        exact g_sub C [0, 1, 2] rfl (hj41 _ hf)
      · rw [if_neg h18] at hf
        refine g_iconst C dX9_step_40 ?_
        exact g_sub C [0, 1, 2] rfl (hj41 _ hf)
set_option maxHeartbeats 4000000 in
set_option maxRecDepth 100000 in
theorem c_X9_step_l134 {x4 : Int} {k209 : Int → Int → Int → Mem → Option (Int × Mem)} (C : CX p s m args meth c cX9_step 9 RX9 (some .int) D Y LBm (Ar LBm α sz)) (hfr : 1 ≤ R.frames) (hlc : 22 ≤ R.locals)  (hk209 : ∀ (y2 y3 y5 : Int) (μ : Mem), k209 y2 y3 y5 μ = some (r, μ') → GG D Y LBm (Ar LBm α sz) p l e R s m args below meth c 9 (MQ below (Qcx D Y LBm α sz (some (vi r)) (fun a => a = α) μ') args s 0 0 (Ar LBm α sz)) α 0 0 [(0, vr α 30 0), (2, vi y2), (3, vi y3), (4, vi x4), (5, vi y5)] [] μ 209)  : ∀ (n : Nat) (x2 x3 x5 x6 : Int) (μ : Mem), f_X9_step_L134 x4 k209 n x2 x3 x5 x6 μ = some (r, μ') → GG D Y LBm (Ar LBm α sz) p l e R s m args below meth c 9 (MQ below (Qcx D Y LBm α sz (some (vi r)) (fun a => a = α) μ') args s 0 0 (Ar LBm α sz)) α 0 0 [(0, vr α 30 0), (2, vi x2), (3, vi x3), (4, vi x4), (5, vi x5), (6, vi x6)] [] μ 134 := by
  intro n
  induction n with
  | zero =>
    intro x2 x3 x5 x6 μ hf
    exact nomatch (show (none : Option (Int × Mem)) = some _ from hf)
  | succ n ih =>
    intro x2 x3 x5 x6 μ hf
    rw [f_X9_step_L134.eq_2] at hf
    refine g_ild C 5 rfl dX9_step_134 ?_
    refine g_ald_n C 0 rfl rfl dX9_step_136 ?_
    refine g_get C dX9_step_137 fl_X9_119 in_30 (ec_30 _ _ _ _ _) rfl ?_
    refine g_ic_ge C 209 (by decide) dX9_step_140 (fun h21 => ?_) (fun h21 => ?_)
    · rw [if_pos h21] at hf
      exact g_sub C [0, 1, 2, 3, 4] rfl (hk209 _ _ _ _ hf)
    · rw [if_neg h21] at hf
      refine g_ald_n C 0 rfl rfl dX9_step_143 ?_
      refine g_get C dX9_step_144 fl_X9_89 in_30 (ec_30 _ _ _ _ _) rfl ?_
      refine g_ild C 5 rfl dX9_step_147 ?_
      obtain ⟨g22, hf⟩ := gd_some hf
      refine g_zald C dX9_step_149 in_53 (fun _ => ec_53 _ _ _ _ _) g22 ?_
      obtain ⟨j203, ej27, hf⟩ := jn_some hf
      have hj203 : ∀ (y24 y25 y26 : Int) (μ23 : Mem), j203 y24 y25 y26 μ23 = some (r, μ') → GG D Y LBm (Ar LBm α sz) p l e R s m args below meth c 9 (MQ below (Qcx D Y LBm α sz (some (vi r)) (fun a => a = α) μ') args s 0 0 (Ar LBm α sz)) α 0 0 [(0, vr α 30 0), (2, vi y24), (3, vi y25), (4, vi x4), (5, vi y26), (6, vi x6)] [] μ23 203 := by
        intro y24 y25 y26 μ23 hf
        rw [ej27] at hf
        try dsimp only at hf
        refine g_iinc (lo' := [(6, vi (x6 + 1)), (0, vr α 30 0), (2, vi y24), (3, vi y25), (4, vi x4), (5, vi y26)]) C 5 rfl (by decide) rfl dX9_step_203 ?_
        refine g_goto C 134 (by decide) dX9_step_206 ?_
        exact g_sub C [1, 2, 3, 4, 5, 0] rfl (ih _ _ _ _ _ hf)
      clear ej27
      refine g_if_eq C 203 (by decide) dX9_step_150 (fun h28 => ?_) (fun h28 => ?_)
      · rw [if_pos h28] at hf
        exact g_sub C [0, 1, 2, 3, 4, 5] rfl (hj203 _ _ _ _ hf)
      · rw [if_neg h28] at hf
        refine g_ald_n C 0 rfl rfl dX9_step_153 ?_
        refine g_get C dX9_step_154 fl_X9_92 in_30 (ec_30 _ _ _ _ _) rfl ?_
        refine g_ild C 5 rfl dX9_step_157 ?_
        obtain ⟨g29, hf⟩ := gd_some hf
        refine g_zald C dX9_step_159 in_54 (fun _ => ec_54 _ _ _ _ _) g29 ?_
        refine g_if_ne C 203 (by decide) dX9_step_160 (fun h30 => ?_) (fun h30 => ?_)
        · rw [if_pos h30] at hf
          refine g_ald_n C 0 rfl rfl dX9_step_163 ?_
          refine g_get C dX9_step_164 fl_X9_67 in_30 (ec_30 _ _ _ _ _) rfl ?_
          refine g_ild C 5 rfl dX9_step_167 ?_
          obtain ⟨g31, hf⟩ := gd_some hf
          refine g_iald C dX9_step_169 in_46 (fun _ => ec_46 _ _ _ _ _) g31 ?_
          refine g_ild C 3 rfl dX9_step_170 ?_
          refine g_ic_eq C 178 (by decide) dX9_step_172 (fun h32 => ?_) (fun h32 => ?_)
          · rw [if_pos h32] at hf
            refine g_ald_n C 0 rfl rfl dX9_step_178 ?_
            refine g_get C dX9_step_179 fl_X9_92 in_30 (ec_30 _ _ _ _ _) rfl ?_
            refine g_ild C 5 rfl dX9_step_182 ?_
            refine g_iconst C dX9_step_184 ?_
            obtain ⟨g33, hf⟩ := gd_some hf
            refine g_zast C (Or.inr rfl) dX9_step_185 in_54 (fun _ => ec_54 _ _ _ _ _) (by decide) g33 ?_
            refine g_ild_n C 1 rfl rfl dX9_step_186 ?_
            refine g_ald_n C 0 rfl rfl dX9_step_187 ?_
            refine g_get C dX9_step_188 fl_X9_34 in_30 (ec_30 _ _ _ _ _) rfl ?_
            refine g_ild C 5 rfl dX9_step_191 ?_
            obtain ⟨g34, hf⟩ := gd_some hf
            refine g_iald C dX9_step_193 in_35 (fun _ => ec_35 _ _ _ _ _) g34 ?_
            refine g_iadd C dX9_step_194 ?_
            refine g_ist_n (lo' := [(2, vi (x2 + ((st μ 54 0 (ix x6) 1) 35 0 (ix x6)))), (0, vr α 30 0), (3, vi x3), (4, vi x4), (5, vi x5), (6, vi x6)]) C rfl (by decide) rfl dX9_step_195 ?_
            refine g_iinc (lo' := [(3, vi (x3 + (-1))), (2, vi (x2 + ((st μ 54 0 (ix x6) 1) 35 0 (ix x6)))), (0, vr α 30 0), (4, vi x4), (5, vi x5), (6, vi x6)]) C 2 rfl (by decide) rfl dX9_step_196 ?_
            refine g_ild C 3 rfl dX9_step_199 ?_
            refine g_ist (lo' := [(5, vi x4), (3, vi (x3 + (-1))), (2, vi (x2 + ((st μ 54 0 (ix x6) 1) 35 0 (ix x6)))), (0, vr α 30 0), (4, vi x4), (6, vi x6)]) C (by decide) rfl dX9_step_201 ?_
            exact g_sub C [3, 2, 1, 4, 0, 5] rfl (hj203 _ _ _ _ hf)
          · rw [if_neg h32] at hf
            refine g_goto C 203 (by decide) dX9_step_175 ?_
            exact g_sub C [0, 1, 2, 3, 4, 5] rfl (hj203 _ _ _ _ hf)
        · rw [if_neg h30] at hf
          exact g_sub C [0, 1, 2, 3, 4, 5] rfl (hj203 _ _ _ _ hf)
set_option maxHeartbeats 4000000 in
set_option maxRecDepth 100000 in
theorem c_X9_step_l212 {x4 : Int} {k334 : Int → Int → Int → Mem → Option (Int × Mem)} (C : CX p s m args meth c cX9_step 9 RX9 (some .int) D Y LBm (Ar LBm α sz)) (hfr : 1 ≤ R.frames) (hlc : 22 ≤ R.locals)  (hk334 : ∀ (y2 y3 y5 : Int) (μ : Mem), k334 y2 y3 y5 μ = some (r, μ') → GG D Y LBm (Ar LBm α sz) p l e R s m args below meth c 9 (MQ below (Qcx D Y LBm α sz (some (vi r)) (fun a => a = α) μ') args s 0 0 (Ar LBm α sz)) α 0 0 [(0, vr α 30 0), (2, vi y2), (3, vi y3), (4, vi x4), (5, vi y5)] [] μ 334)  : ∀ (n : Nat) (x2 x3 x5 x6 : Int) (μ : Mem), f_X9_step_L212 x4 k334 n x2 x3 x5 x6 μ = some (r, μ') → GG D Y LBm (Ar LBm α sz) p l e R s m args below meth c 9 (MQ below (Qcx D Y LBm α sz (some (vi r)) (fun a => a = α) μ') args s 0 0 (Ar LBm α sz)) α 0 0 [(0, vr α 30 0), (2, vi x2), (3, vi x3), (4, vi x4), (5, vi x5), (6, vi x6)] [] μ 212 := by
  intro n
  induction n with
  | zero =>
    intro x2 x3 x5 x6 μ hf
    exact nomatch (show (none : Option (Int × Mem)) = some _ from hf)
  | succ n ih =>
    intro x2 x3 x5 x6 μ hf
    rw [f_X9_step_L212.eq_2] at hf
    refine g_ild C 5 rfl dX9_step_212 ?_
    refine g_ald_n C 0 rfl rfl dX9_step_214 ?_
    refine g_get C dX9_step_215 fl_X9_119 in_30 (ec_30 _ _ _ _ _) rfl ?_
    refine g_ic_ge C 334 (by decide) dX9_step_218 (fun h39 => ?_) (fun h39 => ?_)
    · rw [if_pos h39] at hf
      exact g_sub C [0, 1, 2, 3, 4] rfl (hk334 _ _ _ _ hf)
    · rw [if_neg h39] at hf
      refine g_ald_n C 0 rfl rfl dX9_step_221 ?_
      refine g_get C dX9_step_222 fl_X9_89 in_30 (ec_30 _ _ _ _ _) rfl ?_
      refine g_ild C 5 rfl dX9_step_225 ?_
      obtain ⟨g40, hf⟩ := gd_some hf
      refine g_zald C dX9_step_227 in_53 (fun _ => ec_53 _ _ _ _ _) g40 ?_
      obtain ⟨j256, ej42, hf⟩ := jn_some hf
      have hj256 : ∀ (μ41 : Mem), j256 μ41 = some (r, μ') → GG D Y LBm (Ar LBm α sz) p l e R s m args below meth c 9 (MQ below (Qcx D Y LBm α sz (some (vi r)) (fun a => a = α) μ') args s 0 0 (Ar LBm α sz)) α 0 0 [(0, vr α 30 0), (2, vi x2), (3, vi x3), (4, vi x4), (5, vi x5), (6, vi x6)] [] μ41 256 := by
        intro μ41 hf
        rw [ej42] at hf
        try dsimp only at hf
        refine g_iinc (lo' := [(6, vi (x6 + 1)), (0, vr α 30 0), (2, vi x2), (3, vi x3), (4, vi x4), (5, vi x5)]) C 5 rfl (by decide) rfl dX9_step_256 ?_
        refine g_goto C 212 (by decide) dX9_step_259 ?_
        exact g_sub C [1, 2, 3, 4, 5, 0] rfl (ih _ _ _ _ _ hf)
      clear ej42
      refine g_if_ne C 256 (by decide) dX9_step_228 (fun h43 => ?_) (fun h43 => ?_)
      · rw [if_pos h43] at hf
        refine g_ald_n C 0 rfl rfl dX9_step_231 ?_
        refine g_get C dX9_step_232 fl_X9_34 in_30 (ec_30 _ _ _ _ _) rfl ?_
        refine g_ild C 5 rfl dX9_step_235 ?_
        obtain ⟨g44, hf⟩ := gd_some hf
        refine g_iald C dX9_step_237 in_35 (fun _ => ec_35 _ _ _ _ _) g44 ?_
        refine g_ild_n C 1 rfl rfl dX9_step_238 ?_
        refine g_ic_gt C 256 (by decide) dX9_step_239 (fun h45 => ?_) (fun h45 => ?_)
        · rw [if_pos h45] at hf
          exact g_sub C [0, 1, 2, 3, 4, 5] rfl (hj256 _ hf)
        · rw [if_neg h45] at hf
          refine g_ald_n C 0 rfl rfl dX9_step_242 ?_
          refine g_ald_n C 0 rfl rfl dX9_step_243 ?_
          refine g_get C dX9_step_244 fl_X9_37 in_30 (ec_30 _ _ _ _ _) rfl ?_
          refine g_ild C 5 rfl dX9_step_247 ?_
          obtain ⟨g46, hf⟩ := gd_some hf
          refine g_iald C dX9_step_249 in_36 (fun _ => ec_36 _ _ _ _ _) g46 ?_
          obtain ⟨r47, μ48, hc49, hf⟩ := bn_some hf
          refine g_callVp (As := [vi (μ 36 0 (ix x6))]) (rest := []) C ⟨Nat.zero_le _, Nat.zero_le _⟩ dX9_step_250 cw_X9_areOver m_5_31 m_5_33 m_0_22 in_30 (ec_30 _ _ _ _ _) rfl rfl (c_X9_areOver  hc49) rfl rfl (Nat.le_of_ble_eq_true rfl) ⟨Nat.le_trans (Nat.le_of_ble_eq_true rfl) hfr, Nat.le_trans (Nat.le_of_ble_eq_true rfl) hlc⟩ ?_
          refine g_if_ne C 262 (by decide) dX9_step_253 (fun h50 => ?_) (fun h50 => ?_)
          · rw [if_pos h50] at hf
            exact g_sub C [0, 1, 2, 3, 4, 5] rfl (hj256 _ hf)
          · rw [if_neg h50] at hf
            refine g_ald_n C 0 rfl rfl dX9_step_262 ?_
            refine g_get C dX9_step_263 fl_X9_89 in_30 (ec_30 _ _ _ _ _) rfl ?_
            refine g_ild C 5 rfl dX9_step_266 ?_
            refine g_iconst C dX9_step_268 ?_
            obtain ⟨g51, hf⟩ := gd_some hf
            refine g_zast C (Or.inr rfl) dX9_step_269 in_53 (fun _ => ec_53 _ _ _ _ _) (by decide) g51 ?_
            refine g_ald_n C 0 rfl rfl dX9_step_270 ?_
            refine g_get C dX9_step_271 fl_X9_67 in_30 (ec_30 _ _ _ _ _) rfl ?_
            refine g_ild C 5 rfl dX9_step_274 ?_
            refine g_ild C 3 rfl dX9_step_276 ?_
            refine g_ald_n C 0 rfl rfl dX9_step_278 ?_
            refine g_get C dX9_step_279 fl_X9_64 in_30 (ec_30 _ _ _ _ _) rfl ?_
            refine g_ild C 5 rfl dX9_step_282 ?_
            obtain ⟨g52, hf⟩ := gd_some hf
            refine g_iald C dX9_step_284 in_45 (fun _ => ec_45 _ _ _ _ _) g52 ?_
            refine g_iadd C dX9_step_285 ?_
            obtain ⟨g53, hf⟩ := gd_some hf
            refine g_iast C dX9_step_286 in_46 (fun _ => ec_46 _ _ _ _ _) (by decide) g53 ?_
            refine g_ald_n C 0 rfl rfl dX9_step_287 ?_
            refine g_get C dX9_step_288 fl_X9_64 in_30 (ec_30 _ _ _ _ _) rfl ?_
            refine g_ild C 5 rfl dX9_step_291 ?_
            obtain ⟨g54, hf⟩ := gd_some hf
            refine g_iald C dX9_step_293 in_45 (fun _ => ec_45 _ _ _ _ _) g54 ?_
            refine g_if_le C 313 (by decide) dX9_step_294 (fun h55 => ?_) (fun h55 => ?_)
            · rw [if_pos h55] at hf
              refine g_ald_n C 0 rfl rfl dX9_step_313 ?_
              refine g_get C dX9_step_314 fl_X9_92 in_30 (ec_30 _ _ _ _ _) rfl ?_
              refine g_ild C 5 rfl dX9_step_317 ?_
              refine g_iconst C dX9_step_319 ?_
              obtain ⟨g56, hf⟩ := gd_some hf
              refine g_zast C (Or.inr rfl) dX9_step_320 in_54 (fun _ => ec_54 _ _ _ _ _) (by decide) g56 ?_
              refine g_iinc (lo' := [(3, vi (x3 + (-1))), (0, vr α 30 0), (2, vi x2), (4, vi x4), (5, vi x5), (6, vi x6)]) C 2 rfl (by decide) rfl dX9_step_321 ?_
              refine g_ild C 3 rfl dX9_step_324 ?_
              refine g_ist (lo' := [(5, vi x4), (3, vi (x3 + (-1))), (0, vr α 30 0), (2, vi x2), (4, vi x4), (6, vi x6)]) C (by decide) rfl dX9_step_326 ?_
              refine g_iconst C dX9_step_328 ?_
              refine g_ist (lo' := [(6, vi 0), (5, vi x4), (3, vi (x3 + (-1))), (0, vr α 30 0), (2, vi x2), (4, vi x4)]) C (by decide) rfl dX9_step_329 ?_
              refine g_goto C 212 (by decide) dX9_step_331 ?_
              exact g_sub C [3, 4, 2, 5, 1, 0] rfl (ih _ _ _ _ _ hf)
            · rw [if_neg h55] at hf
              refine g_ild_n C 1 rfl rfl dX9_step_297 ?_
              refine g_ald_n C 0 rfl rfl dX9_step_298 ?_
              refine g_get C dX9_step_299 fl_X9_34 in_30 (ec_30 _ _ _ _ _) rfl ?_
              refine g_ild C 5 rfl dX9_step_302 ?_
              obtain ⟨g57, hf⟩ := gd_some hf
              refine g_iald C dX9_step_304 in_35 (fun _ => ec_35 _ _ _ _ _) g57 ?_
              refine g_isub C dX9_step_305 ?_
              refine g_ist_n (lo' := [(2, vi (x2 - ((st (st μ48 53 0 (ix x6) 1) 46 0 (ix x6) (x4 + ((st μ48 53 0 (ix x6) 1) 45 0 (ix x6)))) 35 0 (ix x6)))), (0, vr α 30 0), (3, vi x3), (4, vi x4), (5, vi x5), (6, vi x6)]) C rfl (by decide) rfl dX9_step_306 ?_
              refine g_iinc (lo' := [(6, vi (x6 + 1)), (2, vi (x2 - ((st (st μ48 53 0 (ix x6) 1) 46 0 (ix x6) (x4 + ((st μ48 53 0 (ix x6) 1) 45 0 (ix x6)))) 35 0 (ix x6)))), (0, vr α 30 0), (3, vi x3), (4, vi x4), (5, vi x5)]) C 5 rfl (by decide) rfl dX9_step_307 ?_
              refine g_goto C 212 (by decide) dX9_step_310 ?_
              exact g_sub C [2, 1, 3, 4, 5, 0] rfl (ih _ _ _ _ _ hf)
      · rw [if_neg h43] at hf
        exact g_sub C [0, 1, 2, 3, 4, 5] rfl (hj256 _ hf)
set_option maxHeartbeats 4000000 in
set_option maxRecDepth 100000 in
theorem c_X9_step_l341 {x2 : Int} {x3 : Int} {x4 : Int} {x5 : Int} {k390 : Int → Mem → Option (Int × Mem)} (C : CX p s m args meth c cX9_step 9 RX9 (some .int) D Y LBm (Ar LBm α sz)) (hfr : 1 ≤ R.frames) (hlc : 22 ≤ R.locals)  (hk390 : ∀ (y7 : Int) (μ : Mem), k390 y7 μ = some (r, μ') → GG D Y LBm (Ar LBm α sz) p l e R s m args below meth c 9 (MQ below (Qcx D Y LBm α sz (some (vi r)) (fun a => a = α) μ') args s 0 0 (Ar LBm α sz)) α 0 0 [(0, vr α 30 0), (2, vi x2), (3, vi x3), (4, vi x4), (5, vi x5), (7, vi y7)] [] μ 390)  : ∀ (n : Nat) (x7 x8 : Int) (μ : Mem), f_X9_step_L341 x2 x3 x4 x5 k390 n x7 x8 μ = some (r, μ') → GG D Y LBm (Ar LBm α sz) p l e R s m args below meth c 9 (MQ below (Qcx D Y LBm α sz (some (vi r)) (fun a => a = α) μ') args s 0 0 (Ar LBm α sz)) α 0 0 [(0, vr α 30 0), (2, vi x2), (3, vi x3), (4, vi x4), (5, vi x5), (7, vi x7), (8, vi x8)] [] μ 341 := by
  intro n
  induction n with
  | zero =>
    intro x7 x8 μ hf
    exact nomatch (show (none : Option (Int × Mem)) = some _ from hf)
  | succ n ih =>
    intro x7 x8 μ hf
    rw [f_X9_step_L341.eq_2] at hf
    refine g_ild C 6 rfl dX9_step_341 ?_
    refine g_ald_n C 0 rfl rfl dX9_step_343 ?_
    refine g_get C dX9_step_344 fl_X9_119 in_30 (ec_30 _ _ _ _ _) rfl ?_
    refine g_ic_ge C 390 (by decide) dX9_step_347 (fun h62 => ?_) (fun h62 => ?_)
    · rw [if_pos h62] at hf
      exact g_sub C [0, 1, 2, 3, 4, 5] rfl (hk390 _ _ hf)
    · rw [if_neg h62] at hf
      refine g_ald_n C 0 rfl rfl dX9_step_350 ?_
      refine g_get C dX9_step_351 fl_X9_89 in_30 (ec_30 _ _ _ _ _) rfl ?_
      refine g_ild C 6 rfl dX9_step_354 ?_
      obtain ⟨g63, hf⟩ := gd_some hf
      refine g_zald C dX9_step_356 in_53 (fun _ => ec_53 _ _ _ _ _) g63 ?_
      obtain ⟨j384, ej66, hf⟩ := jn_some hf
      have hj384 : ∀ (y65 : Int) (μ64 : Mem), j384 y65 μ64 = some (r, μ') → GG D Y LBm (Ar LBm α sz) p l e R s m args below meth c 9 (MQ below (Qcx D Y LBm α sz (some (vi r)) (fun a => a = α) μ') args s 0 0 (Ar LBm α sz)) α 0 0 [(0, vr α 30 0), (2, vi x2), (3, vi x3), (4, vi x4), (5, vi x5), (7, vi y65), (8, vi x8)] [] μ64 384 := by
        intro y65 μ64 hf
        rw [ej66] at hf
        try dsimp only at hf
        refine g_iinc (lo' := [(8, vi (x8 + 1)), (0, vr α 30 0), (2, vi x2), (3, vi x3), (4, vi x4), (5, vi x5), (7, vi y65)]) C 6 rfl (by decide) rfl dX9_step_384 ?_
        refine g_goto C 341 (by decide) dX9_step_387 ?_
        exact g_sub C [1, 2, 3, 4, 5, 6, 0] rfl (ih _ _ _ hf)
      clear ej66
      refine g_if_eq C 384 (by decide) dX9_step_357 (fun h67 => ?_) (fun h67 => ?_)
      · rw [if_pos h67] at hf
        exact g_sub C [0, 1, 2, 3, 4, 5, 6] rfl (hj384 _ _ hf)
      · rw [if_neg h67] at hf
        refine g_ald_n C 0 rfl rfl dX9_step_360 ?_
        refine g_get C dX9_step_361 fl_X9_92 in_30 (ec_30 _ _ _ _ _) rfl ?_
        refine g_ild C 6 rfl dX9_step_364 ?_
        obtain ⟨g68, hf⟩ := gd_some hf
        refine g_zald C dX9_step_366 in_54 (fun _ => ec_54 _ _ _ _ _) g68 ?_
        refine g_if_ne C 384 (by decide) dX9_step_367 (fun h69 => ?_) (fun h69 => ?_)
        · rw [if_pos h69] at hf
          refine g_ild C 5 rfl dX9_step_370 ?_
          refine g_ald_n C 0 rfl rfl dX9_step_372 ?_
          refine g_get C dX9_step_373 fl_X9_67 in_30 (ec_30 _ _ _ _ _) rfl ?_
          refine g_ild C 6 rfl dX9_step_376 ?_
          obtain ⟨g70, hf⟩ := gd_some hf
          refine g_iald C dX9_step_378 in_46 (fun _ => ec_46 _ _ _ _ _) g70 ?_
          refine g_min C m_5_36 m_3_70 m_1_14 m_3_71 (Nat.le_trans (by decide) hfr) (Nat.le_trans (Nat.le_of_ble_eq_true rfl) hlc) (Nat.zero_le _) (Nat.zero_le _) dX9_step_379 ?_
          refine g_ist (lo' := [(7, vi (if w32 (μ 46 0 (ix x8)) < w32 x7 then (μ 46 0 (ix x8)) else x7)), (0, vr α 30 0), (2, vi x2), (3, vi x3), (4, vi x4), (5, vi x5), (8, vi x8)]) C (by decide) rfl dX9_step_382 ?_
          exact g_sub C [1, 2, 3, 4, 5, 0, 6] rfl (hj384 _ _ hf)
        · rw [if_neg h69] at hf
          exact g_sub C [0, 1, 2, 3, 4, 5, 6] rfl (hj384 _ _ hf)
set_option maxHeartbeats 4000000 in
set_option maxRecDepth 100000 in
theorem c_X9_step_l127  (C : CX p s m args meth c cX9_step 9 RX9 (some .int) D Y LBm (Ar LBm α sz)) (hfr : 1 ≤ R.frames) (hlc : 22 ≤ R.locals)    : ∀ (n : Nat) (x2 x3 x4 x5 : Int) (μ : Mem), f_X9_step_L127 n x2 x3 x4 x5 μ = some (r, μ') → GG D Y LBm (Ar LBm α sz) p l e R s m args below meth c 9 (MQ below (Qcx D Y LBm α sz (some (vi r)) (fun a => a = α) μ') args s 0 0 (Ar LBm α sz)) α 0 0 [(0, vr α 30 0), (2, vi x2), (3, vi x3), (4, vi x4), (5, vi x5)] [] μ 127 := by
  intro n
  induction n with
  | zero =>
    intro x2 x3 x4 x5 μ hf
    exact nomatch (show (none : Option (Int × Mem)) = some _ from hf)
  | succ n ih =>
    intro x2 x3 x4 x5 μ hf
    rw [f_X9_step_L127.eq_2] at hf
    refine g_ild_n C 2 rfl rfl dX9_step_127 ?_
    refine g_if_le C 406 (by decide) dX9_step_128 (fun h20 => ?_) (fun h20 => ?_)
    · rw [if_pos h20] at hf
      refine g_ild C 4 rfl dX9_step_406 ?_
      exact g_iret C rfl dX9_step_408 hf
    · rw [if_neg h20] at hf
      refine g_iconst C dX9_step_131 ?_
      refine g_ist (lo' := [(6, vi 0), (0, vr α 30 0), (2, vi x2), (3, vi x3), (4, vi x4), (5, vi x5)]) C (by decide) rfl dX9_step_132 ?_
      refine g_sub C [1, 2, 3, 4, 5, 0] rfl (c_X9_step_l134 C hfr hlc  (fun y36 y37 y38 μ35 hf => ?_) _ _ _ _ _ _ hf)
      refine g_iconst C dX9_step_209 ?_
      refine g_ist (lo' := [(6, vi 0), (0, vr α 30 0), (2, vi y36), (3, vi y37), (4, vi x4), (5, vi y38)]) C (by decide) rfl dX9_step_210 ?_
      refine g_sub C [1, 2, 3, 4, 5, 0] rfl (c_X9_step_l212 C hfr hlc  (fun y59 y60 y61 μ58 hf => ?_) _ _ _ _ _ _ hf)
      refine g_ldc (x := 2147483647) C m_5_35 dX9_step_334 ?_
      refine g_ist (lo' := [(7, vi 2147483647), (0, vr α 30 0), (2, vi y59), (3, vi y60), (4, vi x4), (5, vi y61)]) C (by decide) rfl dX9_step_336 ?_
      refine g_iconst C dX9_step_338 ?_
      refine g_ist (lo' := [(8, vi 0), (7, vi 2147483647), (0, vr α 30 0), (2, vi y59), (3, vi y60), (4, vi x4), (5, vi y61)]) C (by decide) rfl dX9_step_339 ?_
      refine g_sub C [2, 3, 4, 5, 6, 1, 0] rfl (c_X9_step_l341 C hfr hlc  (fun y72 μ71 hf => ?_) _ _ _ _ hf)
      refine g_ild_n C 2 rfl rfl dX9_step_390 ?_
      obtain ⟨j401, ej74, hf⟩ := jn_some hf
      have hj401 : ∀ (y73 : Int), j401 y73 = some (r, μ') → GG D Y LBm (Ar LBm α sz) p l e R s m args below meth c 9 (MQ below (Qcx D Y LBm α sz (some (vi r)) (fun a => a = α) μ') args s 0 0 (Ar LBm α sz)) α 0 0 [(0, vr α 30 0), (2, vi y59), (3, vi y60), (5, vi y61)] [vi y73] μ71 401 := by
        intro y73 hf
        rw [ej74] at hf
        try dsimp only at hf
        refine g_ist (lo' := [(4, vi y73), (0, vr α 30 0), (2, vi y59), (3, vi y60), (5, vi y61)]) C (by decide) rfl dX9_step_401 ?_
        refine g_goto C 127 (by decide) dX9_step_403 ?_
        exact g_sub C [1, 2, 3, 0, 4] rfl (ih _ _ _ _ _ hf)
      clear ej74
      refine g_if_le C 399 (by decide) dX9_step_391 (fun h75 => ?_) (fun h75 => ?_)
      · rw [if_pos h75] at hf
        refine g_ild C 3 rfl dX9_step_399 ?_
        exact g_sub C [0, 1, 2, 4] rfl (hj401 _ hf)
      · rw [if_neg h75] at hf
        refine g_ild C 5 rfl dX9_step_394 ?_
        refine g_goto C 401 (by decide) dX9_step_396 ?_
        exact g_sub C [0, 1, 2, 4] rfl (hj401 _ hf)
set_option maxHeartbeats 4000000 in
set_option maxRecDepth 100000 in
theorem b_X9_step {a1 : Int} {μ : Mem} (C : CX p s m args meth c cX9_step 9 RX9 (some .int) D Y LBm (Ar LBm α sz)) (hfr : 1 ≤ R.frames) (hlc : 22 ≤ R.locals)  (hf : f_X9_step a1 μ = some (r, μ')) : GG D Y LBm (Ar LBm α sz) p l e R s m args below meth c 9 (MQ below (Qcx D Y LBm α sz (some (vi r)) (fun a => a = α) μ') args s 0 0 (Ar LBm α sz)) α 0 0 [(0, vr α 30 0), (1, vi a1)] [] μ 0 := by
  unfold f_X9_step at hf
  refine g_iconst C dX9_step_0 ?_
  refine g_ist_n (lo' := [(2, vi 0), (0, vr α 30 0), (1, vi a1)]) C rfl (by decide) rfl dX9_step_1 ?_
  refine g_sub C [1, 2, 0] rfl (c_X9_step_l2 C hfr hlc  (fun μ19 hf => ?_) _ _ _ hf)
  refine g_ald_n C 0 rfl rfl dX9_step_111 ?_
  refine g_get C dX9_step_112 fl_X9_24 in_30 (ec_30 _ _ _ _ _) rfl ?_
  refine g_ist_n (lo' := [(2, vi (μ19 30 0 9)), (0, vr α 30 0)]) C rfl (by decide) rfl dX9_step_115 ?_
  refine g_ald_n C 1 rfl rfl dX9_step_116 ?_
  refine g_get C dX9_step_117 fl_X9_119 in_30 (ec_30 _ _ _ _ _) rfl ?_
  refine g_ist_n (lo' := [(3, vi (μ19 30 0 7)), (2, vi (μ19 30 0 9)), (0, vr α 30 0)]) C rfl (by decide) rfl dX9_step_120 ?_
  refine g_iconst C dX9_step_121 ?_
  refine g_ist (lo' := [(4, vi 0), (3, vi (μ19 30 0 7)), (2, vi (μ19 30 0 9)), (0, vr α 30 0)]) C (by decide) rfl dX9_step_122 ?_
  refine g_iconst C dX9_step_124 ?_
  refine g_ist (lo' := [(5, vi 0), (4, vi 0), (3, vi (μ19 30 0 7)), (2, vi (μ19 30 0 9)), (0, vr α 30 0)]) C (by decide) rfl dX9_step_125 ?_
  refine g_sub C [4, 3, 2, 1, 0] rfl (c_X9_step_l127 C hfr hlc   _ _ _ _ _ _ hf)
set_option maxHeartbeats 4000000 in
set_option maxRecDepth 100000 in
theorem c_X9_step {l : Launch} {D : va_G} {Y : Nat → ClassId} {α : Adr} {a1 : Int} {μ : Mem} {r : Int} {μ' : Mem}  (hf : f_X9_step a1 μ = some (r, μ')) : Ctr l D Y LBm yX9_step cX9_step 9 (some .int) 1 22 0 0 [vr α 30 0, vi a1] α μ (some (vi r)) (fun a => a = α) μ' := Ctr_of pn_X9 rfl rfl (Nat.le_of_ble_eq_true rfl) LBm_nd (fun p e s m below meth c sz C => b_X9_step C (Nat.le_refl _) (Nat.le_refl _)  hf)
end

/-! EndTellerModel.isLeft -/
def f_X9_isLeft_L2  : Nat → Int → Mem → Option (Int × Mem)
  | 0, _, _ => none
  | n + 1, x1, μ => (if w32 (μ 30 0 7) ≤ w32 x1 then some (1, μ) else gd (inb x1 10) (jn (f_X9_isLeft_L2 n (x1 + 1) μ) (fun j59 => (if w32 (μ 37 0 (ix x1)) < 0 then (if w32 (μ 30 0 10) < 0 then j59  else gd (inb x1 10) ((if w32 (μ 30 0 10) < w32 (μ 46 0 (ix x1)) then j59  else some (0, μ)))) else gd (inb x1 10) (gd (inb x1 10) ((if w32 (μ 46 0 (ix x1)) = w32 (μ 37 0 (ix x1)) then j59  else some (0, μ))))))))
def f_X9_isLeft  (μ : Mem) : Option (Int × Mem) := f_X9_isLeft_L2 FU 0 μ
section
variable {p : Program} {l : Launch} {e : Env} {R : Room} {s : State} {m : MethodId} {args : Array Value} {below : List Frame} {meth : Method} {c : Code} {D : va_G} {Y : Nat → ClassId} {α : Adr} {sz : Nat} {r : Int} {μ' : Mem}
set_option maxHeartbeats 4000000 in
set_option maxRecDepth 100000 in
theorem c_X9_isLeft_l2  (C : CX p s m args meth c cX9_isLeft 2 RX9 (some .boolean) D Y LBm (Ar LBm α sz)) (hfr : 0 ≤ R.frames) (hlc : 0 ≤ R.locals)    : ∀ (n : Nat) (x1 : Int) (μ : Mem), f_X9_isLeft_L2 n x1 μ = some (r, μ') → GG D Y LBm (Ar LBm α sz) p l e R s m args below meth c 2 (MQ below (Qcx D Y LBm α sz (some (vi r)) (fun a => a = α) μ') args s 0 0 (Ar LBm α sz)) α 0 0 [(0, vr α 30 0), (1, vi x1)] [] μ 2 := by
  intro n
  induction n with
  | zero =>
    intro x1 μ hf
    exact nomatch (show (none : Option (Int × Mem)) = some _ from hf)
  | succ n ih =>
    intro x1 μ hf
    rw [f_X9_isLeft_L2.eq_2] at hf
    refine g_ild_n C 1 rfl rfl dX9_isLeft_2 ?_
    refine g_ald_n C 0 rfl rfl dX9_isLeft_3 ?_
    refine g_get C dX9_isLeft_4 fl_X9_119 in_30 (ec_30 _ _ _ _ _) rfl ?_
    refine g_ic_ge C 65 (by decide) dX9_isLeft_7 (fun h1 => ?_) (fun h1 => ?_)
    · rw [if_pos h1] at hf
      refine g_iconst C dX9_isLeft_65 ?_
      exact g_zret C rfl (Or.inr rfl) dX9_isLeft_66 hf
    · rw [if_neg h1] at hf
      refine g_ald_n C 0 rfl rfl dX9_isLeft_10 ?_
      refine g_get C dX9_isLeft_11 fl_X9_40 in_30 (ec_30 _ _ _ _ _) rfl ?_
      refine g_ild_n C 1 rfl rfl dX9_isLeft_14 ?_
      obtain ⟨g2, hf⟩ := gd_some hf
      refine g_iald C dX9_isLeft_15 in_37 (fun _ => ec_37 _ _ _ _ _) g2 ?_
      obtain ⟨j59, ej3, hf⟩ := jn_some hf
      have hj59 : j59  = some (r, μ') → GG D Y LBm (Ar LBm α sz) p l e R s m args below meth c 2 (MQ below (Qcx D Y LBm α sz (some (vi r)) (fun a => a = α) μ') args s 0 0 (Ar LBm α sz)) α 0 0 [(0, vr α 30 0), (1, vi x1)] [] μ 59 := by
        intro  hf
        rw [ej3] at hf
        try dsimp only at hf
        refine g_iinc (lo' := [(1, vi (x1 + 1)), (0, vr α 30 0)]) C 1 rfl (by decide) rfl dX9_isLeft_59 ?_
        refine g_goto C 2 (by decide) dX9_isLeft_62 ?_
        exact g_sub C [1, 0] rfl (ih _ _ hf)
      clear ej3
      refine g_if_lt C 37 (by decide) dX9_isLeft_16 (fun h4 => ?_) (fun h4 => ?_)
      · rw [if_pos h4] at hf
        refine g_ald_n C 0 rfl rfl dX9_isLeft_37 ?_
        refine g_get C dX9_isLeft_38 fl_X9_28 in_30 (ec_30 _ _ _ _ _) rfl ?_
        refine g_if_lt C 59 (by decide) dX9_isLeft_41 (fun h5 => ?_) (fun h5 => ?_)
        · rw [if_pos h5] at hf
          exact g_sub C [0, 1] rfl (hj59  hf)
        · rw [if_neg h5] at hf
          refine g_ald_n C 0 rfl rfl dX9_isLeft_44 ?_
          refine g_get C dX9_isLeft_45 fl_X9_67 in_30 (ec_30 _ _ _ _ _) rfl ?_
          refine g_ild_n C 1 rfl rfl dX9_isLeft_48 ?_
          obtain ⟨g6, hf⟩ := gd_some hf
          refine g_iald C dX9_isLeft_49 in_46 (fun _ => ec_46 _ _ _ _ _) g6 ?_
          refine g_ald_n C 0 rfl rfl dX9_isLeft_50 ?_
          refine g_get C dX9_isLeft_51 fl_X9_28 in_30 (ec_30 _ _ _ _ _) rfl ?_
          refine g_ic_gt C 59 (by decide) dX9_isLeft_54 (fun h7 => ?_) (fun h7 => ?_)
          · rw [if_pos h7] at hf
            exact g_sub C [0, 1] rfl (hj59  hf)
          · rw [if_neg h7] at hf
            refine g_iconst C dX9_isLeft_57 ?_
            exact g_zret C rfl (Or.inl rfl) dX9_isLeft_58 hf
      · rw [if_neg h4] at hf
        refine g_ald_n C 0 rfl rfl dX9_isLeft_19 ?_
        refine g_get C dX9_isLeft_20 fl_X9_67 in_30 (ec_30 _ _ _ _ _) rfl ?_
        refine g_ild_n C 1 rfl rfl dX9_isLeft_23 ?_
        obtain ⟨g8, hf⟩ := gd_some hf
        refine g_iald C dX9_isLeft_24 in_46 (fun _ => ec_46 _ _ _ _ _) g8 ?_
        refine g_ald_n C 0 rfl rfl dX9_isLeft_25 ?_
        refine g_get C dX9_isLeft_26 fl_X9_40 in_30 (ec_30 _ _ _ _ _) rfl ?_
        refine g_ild_n C 1 rfl rfl dX9_isLeft_29 ?_
        obtain ⟨g9, hf⟩ := gd_some hf
        refine g_iald C dX9_isLeft_30 in_37 (fun _ => ec_37 _ _ _ _ _) g9 ?_
        refine g_ic_eq C 59 (by decide) dX9_isLeft_31 (fun h10 => ?_) (fun h10 => ?_)
        · rw [if_pos h10] at hf
          exact g_sub C [0, 1] rfl (hj59  hf)
        · rw [if_neg h10] at hf
          refine g_goto C 57 (by decide) dX9_isLeft_34 ?_
          refine g_iconst C dX9_isLeft_57 ?_
          exact g_zret C rfl (Or.inl rfl) dX9_isLeft_58 hf
set_option maxHeartbeats 4000000 in
set_option maxRecDepth 100000 in
theorem b_X9_isLeft  {μ : Mem} (C : CX p s m args meth c cX9_isLeft 2 RX9 (some .boolean) D Y LBm (Ar LBm α sz)) (hfr : 0 ≤ R.frames) (hlc : 0 ≤ R.locals)  (hf : f_X9_isLeft μ = some (r, μ')) : GG D Y LBm (Ar LBm α sz) p l e R s m args below meth c 2 (MQ below (Qcx D Y LBm α sz (some (vi r)) (fun a => a = α) μ') args s 0 0 (Ar LBm α sz)) α 0 0 [(0, vr α 30 0)] [] μ 0 := by
  unfold f_X9_isLeft at hf
  refine g_iconst C dX9_isLeft_0 ?_
  refine g_ist_n (lo' := [(1, vi 0), (0, vr α 30 0)]) C rfl (by decide) rfl dX9_isLeft_1 ?_
  refine g_sub C [1, 0] rfl (c_X9_isLeft_l2 C hfr hlc   _ _ _ hf)
set_option maxHeartbeats 4000000 in
set_option maxRecDepth 100000 in
theorem c_X9_isLeft {l : Launch} {D : va_G} {Y : Nat → ClassId} {α : Adr}  {μ : Mem} {r : Int} {μ' : Mem}  (hf : f_X9_isLeft μ = some (r, μ')) : Ctr l D Y LBm yX9_isLeft cX9_isLeft 2 (some .boolean) 0 0 0 0 [vr α 30 0] α μ (some (vi r)) (fun a => a = α) μ' := Ctr_of pn_X9 rfl rfl (Nat.le_of_ble_eq_true rfl) LBm_nd (fun p e s m below meth c sz C => b_X9_isLeft C (Nat.le_refl _) (Nat.le_refl _)  hf)
end

/-! EndTellerModel.sums -/
def f_X9_sums_L23 (x1 : Int) (x2 : Int) (x3 : Int) (k45 : Mem → Option (Int × Mem)) : Nat → Int → Mem → Option (Int × Mem)
  | 0, _, _ => none
  | n + 1, x4, μ => (if w32 6000 ≤ w32 x4 then k45  μ else gd (inb x4 6000) (f_X9_sums_L23 x1 x2 x3 k45 n (x4 + 1) (st μ 48 0 (ix x4) 0)))
def f_X9_sums_L60 (x1 : Int) (x2 : Int) (x3 : Int) (k151 : Int → Mem → Option (Int × Mem)) : Nat → Int → Int → Mem → Option (Int × Mem)
  | 0, _, _, _ => none
  | n + 1, x4, x6, μ => (if w32 x6 = 0 then k151 x4 μ else bn (f_X9_step (-1) μ) (fun r16 μ17 => bn (f_X9_isLeft  μ17) (fun r19 μ20 => jn (fun y23 μ22 => bn (f_X9_nextWay  μ22) (fun r24 μ25 => f_X9_sums_L60 x1 x2 x3 k151 n y23 r24 μ25)) (fun j142 => (if w32 r19 = 0 then j142 x4 μ20 else bn (f_X9_weightOf  μ20) (fun r29 μ30 => jn (jn (fun y32 => gd (inb y32 6000) (gd (inb y32 6000) (j142 (x4 + r29) (st (st μ30 48 0 (ix y32) ((μ30 48 0 (ix y32)) + r29)) 30 0 33 (((st μ30 48 0 (ix y32) ((μ30 48 0 (ix y32)) + r29)) 30 0 33) + r29))))) (fun j125 => (if 0 ≤ w32 x1 then gd (inb x1 10) (j125 (μ30 46 0 (ix x1))) else j125 r16))) (fun j106 => (if w32 x2 < 0 then j106  else gd (inb x2 10) ((if w32 (μ30 44 0 (ix x2)) = w32 x3 then j106  else j142 (x4 + r29) μ30))))))))))
def f_X9_sums (a1 : Int) (a2 : Int) (a3 : Int) (μ : Mem) : Option (Int × Mem) := bn (f_X9_isStuck  μ) (fun r1 μ2 => (if w32 r1 = 0 then bn (f_X9_isGreat  μ2) (fun r5 μ6 => (if w32 r5 = 0 then f_X9_sums_L23 a1 a2 a3 (fun μ11 => bn (f_X9_firstWay  (st μ11 30 0 33 0)) (fun r12 μ13 => f_X9_sums_L60 a1 a2 a3 (fun y43 μ42 => (if w64 y43 = w64 0 then some (10, μ42) else some (0, μ42))) FU 0 1 μ13)) FU 0 μ6 else some (9, μ6))) else some (8, μ2)))
section
variable {p : Program} {l : Launch} {e : Env} {R : Room} {s : State} {m : MethodId} {args : Array Value} {below : List Frame} {meth : Method} {c : Code} {D : va_G} {Y : Nat → ClassId} {α : Adr} {sz : Nat} {r : Int} {μ' : Mem}
set_option maxHeartbeats 4000000 in
set_option maxRecDepth 100000 in
theorem c_X9_sums_l23 {x1 : Int} {x2 : Int} {x3 : Int} {k45 : Mem → Option (Int × Mem)} (C : CX p s m args meth c cX9_sums 10 RX9 (some .int) D Y LBm (Ar LBm α sz)) (hfr : 2 ≤ R.frames) (hlc : 50 ≤ R.locals)  (hk45 : ∀ (μ : Mem), k45 μ = some (r, μ') → GG D Y LBm (Ar LBm α sz) p l e R s m args below meth c 10 (MQ below (Qcx D Y LBm α sz (some (vi r)) (fun a => a = α) μ') args s 0 0 (Ar LBm α sz)) α 0 0 [(0, vr α 30 0), (1, vi x1), (2, vi x2), (3, vi x3)] [] μ 45)  : ∀ (n : Nat) (x4 : Int) (μ : Mem), f_X9_sums_L23 x1 x2 x3 k45 n x4 μ = some (r, μ') → GG D Y LBm (Ar LBm α sz) p l e R s m args below meth c 10 (MQ below (Qcx D Y LBm α sz (some (vi r)) (fun a => a = α) μ') args s 0 0 (Ar LBm α sz)) α 0 0 [(0, vr α 30 0), (1, vi x1), (2, vi x2), (3, vi x3), (4, vi x4)] [] μ 23 := by
  intro n
  induction n with
  | zero =>
    intro x4 μ hf
    exact nomatch (show (none : Option (Int × Mem)) = some _ from hf)
  | succ n ih =>
    intro x4 μ hf
    rw [f_X9_sums_L23.eq_2] at hf
    refine g_ild C 4 rfl dX9_sums_23 ?_
    refine g_sipush C rfl dX9_sums_25 ?_
    refine g_ic_ge C 45 (by decide) dX9_sums_28 (fun h9 => ?_) (fun h9 => ?_)
    · rw [if_pos h9] at hf
      exact g_sub C [0, 1, 2, 3] rfl (hk45 _ hf)
    · rw [if_neg h9] at hf
      refine g_ald_n C 0 rfl rfl dX9_sums_31 ?_
      refine g_get C dX9_sums_32 fl_X9_74 in_30 (ec_30 _ _ _ _ _) rfl ?_
      refine g_ild C 4 rfl dX9_sums_35 ?_
      refine g_lconst (x := 0) C rfl dX9_sums_37 ?_
      obtain ⟨g10, hf⟩ := gd_some hf
      refine g_last C dX9_sums_38 in_48 (fun _ => ec_48 _ _ _ _ _) (by decide) g10 ?_
      refine g_iinc (lo' := [(4, vi (x4 + 1)), (0, vr α 30 0), (1, vi x1), (2, vi x2), (3, vi x3)]) C 4 rfl (by decide) rfl dX9_sums_39 ?_
      refine g_goto C 23 (by decide) dX9_sums_42 ?_
      exact g_sub C [1, 2, 3, 4, 0] rfl (ih _ _ hf)
set_option maxHeartbeats 4000000 in
set_option maxRecDepth 100000 in
theorem c_X9_sums_l60 {x1 : Int} {x2 : Int} {x3 : Int} {k151 : Int → Mem → Option (Int × Mem)} (C : CX p s m args meth c cX9_sums 10 RX9 (some .int) D Y LBm (Ar LBm α sz)) (hfr : 2 ≤ R.frames) (hlc : 50 ≤ R.locals)  (hk151 : ∀ (y4 : Int) (μ : Mem), k151 y4 μ = some (r, μ') → GG D Y LBm (Ar LBm α sz) p l e R s m args below meth c 10 (MQ below (Qcx D Y LBm α sz (some (vi r)) (fun a => a = α) μ') args s 0 0 (Ar LBm α sz)) α 0 0 [(4, vl y4)] [] μ 151)  : ∀ (n : Nat) (x4 x6 : Int) (μ : Mem), f_X9_sums_L60 x1 x2 x3 k151 n x4 x6 μ = some (r, μ') → GG D Y LBm (Ar LBm α sz) p l e R s m args below meth c 10 (MQ below (Qcx D Y LBm α sz (some (vi r)) (fun a => a = α) μ') args s 0 0 (Ar LBm α sz)) α 0 0 [(0, vr α 30 0), (1, vi x1), (2, vi x2), (3, vi x3), (4, vl x4), (6, vi x6)] [] μ 60 := by
  intro n
  induction n with
  | zero =>
    intro x4 x6 μ hf
    exact nomatch (show (none : Option (Int × Mem)) = some _ from hf)
  | succ n ih =>
    intro x4 x6 μ hf
    rw [f_X9_sums_L60.eq_2] at hf
    refine g_ild C 5 rfl dX9_sums_60 ?_
    refine g_if_eq C 151 (by decide) dX9_sums_62 (fun h15 => ?_) (fun h15 => ?_)
    · rw [if_pos h15] at hf
      exact g_sub C [4] rfl (hk151 _ _ hf)
    · rw [if_neg h15] at hf
      refine g_ald_n C 0 rfl rfl dX9_sums_65 ?_
      refine g_iconst C dX9_sums_66 ?_
      obtain ⟨r16, μ17, hc18, hf⟩ := bn_some hf
      refine g_callVp (As := [vi (-1)]) (rest := []) C ⟨Nat.zero_le _, Nat.zero_le _⟩ dX9_sums_67 cw_X9_step m_5_27 m_5_29 m_0_21 in_30 (ec_30 _ _ _ _ _) rfl rfl (c_X9_step  hc18) rfl rfl (Nat.le_of_ble_eq_true rfl) ⟨Nat.le_trans (Nat.le_of_ble_eq_true rfl) hfr, Nat.le_trans (Nat.le_of_ble_eq_true rfl) hlc⟩ ?_
      refine g_ist (lo' := [(7, vi r16), (0, vr α 30 0), (1, vi x1), (2, vi x2), (3, vi x3), (4, vl x4), (6, vi x6)]) C (by decide) rfl dX9_sums_70 ?_
      refine g_ald_n C 1 rfl rfl dX9_sums_72 ?_
      obtain ⟨r19, μ20, hc21, hf⟩ := bn_some hf
      refine g_callVp (As := []) (rest := []) C ⟨Nat.zero_le _, Nat.zero_le _⟩ dX9_sums_73 cw_X9_isLeft m_5_37 m_5_39 m_0_23 in_30 (ec_30 _ _ _ _ _) rfl rfl (c_X9_isLeft  hc21) rfl rfl (Nat.le_of_ble_eq_true rfl) ⟨Nat.le_trans (Nat.le_of_ble_eq_true rfl) hfr, Nat.le_trans (Nat.le_of_ble_eq_true rfl) hlc⟩ ?_
      obtain ⟨j142, ej27, hf⟩ := jn_some hf
      have hj142 : ∀ (y23 : Int) (μ22 : Mem), j142 y23 μ22 = some (r, μ') → GG D Y LBm (Ar LBm α sz) p l e R s m args below meth c 10 (MQ below (Qcx D Y LBm α sz (some (vi r)) (fun a => a = α) μ') args s 0 0 (Ar LBm α sz)) α 0 0 [(0, vr α 30 0), (1, vi x1), (2, vi x2), (3, vi x3), (4, vl y23)] [] μ22 142 := by
        intro y23 μ22 hf
        rw [ej27] at hf
        try dsimp only at hf
        refine g_ald_n C 0 rfl rfl dX9_sums_142 ?_
        obtain ⟨r24, μ25, hc26, hf⟩ := bn_some hf
        refine g_callVp (As := []) (rest := []) C ⟨Nat.zero_le _, Nat.zero_le _⟩ dX9_sums_143 cw_X9_nextWay m_5_45 m_5_47 m_0_25 in_30 (ec_30 _ _ _ _ _) rfl rfl (c_X9_nextWay  hc26) rfl rfl (Nat.le_of_ble_eq_true rfl) ⟨Nat.le_trans (Nat.le_of_ble_eq_true rfl) hfr, Nat.le_trans (Nat.le_of_ble_eq_true rfl) hlc⟩ ?_
        refine g_ist (lo' := [(6, vi r24), (0, vr α 30 0), (1, vi x1), (2, vi x2), (3, vi x3), (4, vl y23)]) C (by decide) rfl dX9_sums_146 ?_
        refine g_goto C 60 (by decide) dX9_sums_148 ?_
        exact g_sub C [1, 2, 3, 4, 5, 0] rfl (ih _ _ _ hf)
      clear ej27
      refine g_if_eq C 142 (by decide) dX9_sums_76 (fun h28 => ?_) (fun h28 => ?_)
      · rw [if_pos h28] at hf
        exact g_sub C [1, 2, 3, 4, 5] rfl (hj142 _ _ hf)
      · rw [if_neg h28] at hf
        refine g_ald_n C 1 rfl rfl dX9_sums_79 ?_
        obtain ⟨r29, μ30, hc31, hf⟩ := bn_some hf
        refine g_callVp (As := []) (rest := []) C ⟨Nat.zero_le _, Nat.zero_le _⟩ dX9_sums_80 cw_X9_weightOf m_5_41 m_5_43 m_0_24 in_30 (ec_30 _ _ _ _ _) rfl rfl (c_X9_weightOf  hc31) rfl rfl (Nat.le_of_ble_eq_true rfl) ⟨Nat.le_trans (Nat.le_of_ble_eq_true rfl) hfr, Nat.le_trans (Nat.le_of_ble_eq_true rfl) hlc⟩ ?_
        refine g_lst (lo' := [(8, vl r29), (7, vi r16), (0, vr α 30 0), (1, vi x1), (2, vi x2), (3, vi x3), (4, vl x4), (6, vi x6)]) C (by decide) rfl dX9_sums_83 ?_
        refine g_lld C 6 rfl dX9_sums_85 ?_
        refine g_lld C 0 rfl dX9_sums_87 ?_
        refine g_ladd C dX9_sums_89 ?_
        refine g_lst (lo' := [(4, vl (x4 + r29)), (8, vl r29), (7, vi r16), (0, vr α 30 0), (1, vi x1), (2, vi x2), (3, vi x3), (6, vi x6)]) C (by decide) rfl dX9_sums_90 ?_
        refine g_ild_n C 5 rfl rfl dX9_sums_92 ?_
        obtain ⟨j106, ej38, hf⟩ := jn_some hf
        have hj106 : j106  = some (r, μ') → GG D Y LBm (Ar LBm α sz) p l e R s m args below meth c 10 (MQ below (Qcx D Y LBm α sz (some (vi r)) (fun a => a = α) μ') args s 0 0 (Ar LBm α sz)) α 0 0 [(0, vr α 30 0), (1, vi x1), (2, vi x2), (3, vi x3), (4, vl (x4 + r29)), (7, vi r16), (8, vl r29)] [] μ30 106 := by
          intro  hf
          rw [ej38] at hf
          try dsimp only at hf
          refine g_ald_n C 0 rfl rfl dX9_sums_106 ?_
          refine g_get C dX9_sums_107 fl_X9_74 in_30 (ec_30 _ _ _ _ _) rfl ?_
          refine g_ild_n C 1 rfl rfl dX9_sums_110 ?_
          obtain ⟨j125, ej35, hf⟩ := jn_some hf
          have hj125 : ∀ (y32 : Int), j125 y32 = some (r, μ') → GG D Y LBm (Ar LBm α sz) p l e R s m args below meth c 10 (MQ below (Qcx D Y LBm α sz (some (vi r)) (fun a => a = α) μ') args s 0 0 (Ar LBm α sz)) α 0 0 [(0, vr α 30 0), (1, vi x1), (2, vi x2), (3, vi x3), (4, vl (x4 + r29)), (8, vl r29)] [vi y32, vr α 48 0] μ30 125 := by
            intro y32 hf
            rw [ej35] at hf
            try dsimp only at hf
            refine g_dup2 C rfl rfl dX9_sums_125 ?_
            obtain ⟨g33, hf⟩ := gd_some hf
            refine g_lald C dX9_sums_126 in_48 (fun _ => ec_48 _ _ _ _ _) g33 ?_
            refine g_lld C 5 rfl dX9_sums_127 ?_
            refine g_ladd C dX9_sums_129 ?_
            obtain ⟨g34, hf⟩ := gd_some hf
            refine g_last C dX9_sums_130 in_48 (fun _ => ec_48 _ _ _ _ _) (by decide) g34 ?_
            refine g_ald_n C 0 rfl rfl dX9_sums_131 ?_
            refine g_dup C rfl dX9_sums_132 ?_
            refine g_get C dX9_sums_133 fl_X9_177 in_30 (ec_30 _ _ _ _ _) rfl ?_
            refine g_lld C 5 rfl dX9_sums_136 ?_
            refine g_ladd C dX9_sums_138 ?_
            refine g_putl C dX9_sums_139 fl_X9_177 in_30 (ec_30 _ _ _ _ _) (Nat.le_of_ble_eq_true rfl) rfl (by decide) ?_
            exact g_sub C [0, 1, 2, 3, 4] rfl (hj142 _ _ hf)
          clear ej35
          refine g_if_ge C 119 (by decide) dX9_sums_111 (fun h36 => ?_) (fun h36 => ?_)
          · rw [if_pos h36] at hf
            refine g_ald_n C 0 rfl rfl dX9_sums_119 ?_
            refine g_get C dX9_sums_120 fl_X9_67 in_30 (ec_30 _ _ _ _ _) rfl ?_
            refine g_ild_n C 1 rfl rfl dX9_sums_123 ?_
            obtain ⟨g37, hf⟩ := gd_some hf
            refine g_iald C dX9_sums_124 in_46 (fun _ => ec_46 _ _ _ _ _) g37 ?_
            exact g_sub C [0, 1, 2, 3, 4, 6] rfl (hj125 _ hf)
          · rw [if_neg h36] at hf
            refine g_ild C 5 rfl dX9_sums_114 ?_
            refine g_goto C 125 (by decide) dX9_sums_116 ?_
            exact g_sub C [0, 1, 2, 3, 4, 6] rfl (hj125 _ hf)
        clear ej38
        refine g_if_lt C 106 (by decide) dX9_sums_93 (fun h39 => ?_) (fun h39 => ?_)
        · rw [if_pos h39] at hf
          exact g_sub C [3, 4, 5, 6, 0, 2, 1] rfl (hj106  hf)
        · rw [if_neg h39] at hf
          refine g_ald_n C 3 rfl rfl dX9_sums_96 ?_
          refine g_get C dX9_sums_97 fl_X9_61 in_30 (ec_30 _ _ _ _ _) rfl ?_
          refine g_ild_n C 5 rfl rfl dX9_sums_100 ?_
          obtain ⟨g40, hf⟩ := gd_some hf
          refine g_iald C dX9_sums_101 in_44 (fun _ => ec_44 _ _ _ _ _) g40 ?_
          refine g_ild_n C 6 rfl rfl dX9_sums_102 ?_
          refine g_ic_ne C 142 (by decide) dX9_sums_103 (fun h41 => ?_) (fun h41 => ?_)
          · rw [if_pos h41] at hf
            exact g_sub C [3, 4, 5, 6, 0, 2, 1] rfl (hj106  hf)
          · rw [if_neg h41] at hf
            exact g_sub C [3, 4, 5, 6, 0] rfl (hj142 _ _ hf)
set_option maxHeartbeats 4000000 in
set_option maxRecDepth 100000 in
theorem b_X9_sums {a1 : Int} {a2 : Int} {a3 : Int} {μ : Mem} (C : CX p s m args meth c cX9_sums 10 RX9 (some .int) D Y LBm (Ar LBm α sz)) (hfr : 2 ≤ R.frames) (hlc : 50 ≤ R.locals)  (hf : f_X9_sums a1 a2 a3 μ = some (r, μ')) : GG D Y LBm (Ar LBm α sz) p l e R s m args below meth c 10 (MQ below (Qcx D Y LBm α sz (some (vi r)) (fun a => a = α) μ') args s 0 0 (Ar LBm α sz)) α 0 0 [(0, vr α 30 0), (1, vi a1), (2, vi a2), (3, vi a3)] [] μ 0 := by
  unfold f_X9_sums at hf
  refine g_ald_n C 0 rfl rfl dX9_sums_0 ?_
  obtain ⟨r1, μ2, hc3, hf⟩ := bn_some hf
  refine g_callVp (As := []) (rest := []) C ⟨Nat.zero_le _, Nat.zero_le _⟩ dX9_sums_1 cw_X9_isStuck m_5_19 m_5_21 m_0_19 in_30 (ec_30 _ _ _ _ _) rfl rfl (c_X9_isStuck  hc3) rfl rfl (Nat.le_of_ble_eq_true rfl) ⟨Nat.le_trans (Nat.le_of_ble_eq_true rfl) hfr, Nat.le_trans (Nat.le_of_ble_eq_true rfl) hlc⟩ ?_
  refine g_if_eq C 10 (by decide) dX9_sums_4 (fun h4 => ?_) (fun h4 => ?_)
  · rw [if_pos h4] at hf
    refine g_ald_n C 0 rfl rfl dX9_sums_10 ?_
    obtain ⟨r5, μ6, hc7, hf⟩ := bn_some hf
    refine g_callVp (As := []) (rest := []) C ⟨Nat.zero_le _, Nat.zero_le _⟩ dX9_sums_11 cw_X9_isGreat m_5_2 m_5_4 m_0_16 in_30 (ec_30 _ _ _ _ _) rfl rfl (c_X9_isGreat  hc7) rfl rfl (Nat.le_of_ble_eq_true rfl) ⟨Nat.le_trans (Nat.le_of_ble_eq_true rfl) hfr, Nat.le_trans (Nat.le_of_ble_eq_true rfl) hlc⟩ ?_
    refine g_if_eq C 20 (by decide) dX9_sums_14 (fun h8 => ?_) (fun h8 => ?_)
    · rw [if_pos h8] at hf
      refine g_iconst C dX9_sums_20 ?_
      refine g_ist (lo' := [(4, vi 0), (0, vr α 30 0), (1, vi a1), (2, vi a2), (3, vi a3)]) C (by decide) rfl dX9_sums_21 ?_
      refine g_sub C [1, 2, 3, 4, 0] rfl (c_X9_sums_l23 C hfr hlc  (fun μ11 hf => ?_) _ _ _ hf)
      refine g_ald_n C 0 rfl rfl dX9_sums_45 ?_
      refine g_lconst (x := 0) C rfl dX9_sums_46 ?_
      refine g_putl C dX9_sums_47 fl_X9_177 in_30 (ec_30 _ _ _ _ _) (Nat.le_of_ble_eq_true rfl) rfl (by decide) ?_
      refine g_lconst (x := 0) C rfl dX9_sums_50 ?_
      refine g_lst (lo' := [(4, vl 0), (0, vr α 30 0), (1, vi a1), (2, vi a2), (3, vi a3)]) C (by decide) rfl dX9_sums_51 ?_
      refine g_ald_n C 1 rfl rfl dX9_sums_53 ?_
      obtain ⟨r12, μ13, hc14, hf⟩ := bn_some hf
      refine g_callVp (As := []) (rest := []) C ⟨Nat.zero_le _, Nat.zero_le _⟩ dX9_sums_54 cw_X9_firstWay m_5_23 m_5_25 m_0_20 in_30 (ec_30 _ _ _ _ _) rfl rfl (c_X9_firstWay  hc14) rfl rfl (Nat.le_of_ble_eq_true rfl) ⟨Nat.le_trans (Nat.le_of_ble_eq_true rfl) hfr, Nat.le_trans (Nat.le_of_ble_eq_true rfl) hlc⟩ ?_
      refine g_iconst C dX9_sums_57 ?_
      refine g_ist (lo' := [(6, vi 1), (4, vl 0), (0, vr α 30 0), (1, vi a1), (2, vi a2), (3, vi a3)]) C (by decide) rfl dX9_sums_58 ?_
      refine g_sub C [2, 3, 4, 5, 1, 0] rfl (c_X9_sums_l60 C hfr hlc  (fun y43 μ42 hf => ?_) _ _ _ _ hf)
      refine g_lld C 0 rfl dX9_sums_151 ?_
      refine g_lconst (x := 0) C rfl dX9_sums_153 ?_
      refine g_lc_ne C 163 (by decide) dX9_sums_154 dX9_sums_155 (fun h44 => ?_) (fun h44 => ?_)
      · rw [if_pos h44] at hf
        refine g_bipush C rfl dX9_sums_158 ?_
        refine g_goto C 164 (by decide) dX9_sums_160 ?_
        exact g_iret C rfl dX9_sums_164 hf
      · rw [if_neg h44] at hf
        refine g_iconst C dX9_sums_163 ?_
        exact g_iret C rfl dX9_sums_164 hf
    · rw [if_neg h8] at hf
      refine g_bipush C rfl dX9_sums_17 ?_
      exact g_iret C rfl dX9_sums_19 hf
  · rw [if_neg h4] at hf
    refine g_bipush C rfl dX9_sums_7 ?_
    exact g_iret C rfl dX9_sums_9 hf
set_option maxHeartbeats 4000000 in
set_option maxRecDepth 100000 in
theorem c_X9_sums {l : Launch} {D : va_G} {Y : Nat → ClassId} {α : Adr} {a1 : Int} {a2 : Int} {a3 : Int} {μ : Mem} {r : Int} {μ' : Mem}  (hf : f_X9_sums a1 a2 a3 μ = some (r, μ')) : Ctr l D Y LBm yX9_sums cX9_sums 10 (some .int) 2 50 0 0 [vr α 30 0, vi a1, vi a2, vi a3] α μ (some (vi r)) (fun a => a = α) μ' := Ctr_of pn_X9 rfl rfl (Nat.le_of_ble_eq_true rfl) LBm_nd (fun p e s m below meth c sz C => b_X9_sums C (Nat.le_refl _) (Nat.le_refl _)  hf)
end

/-! EndTellerModel.tellsUpTo -/
def f_X9_tellsUpTo_L24 (x2 : Int) : Nat → Int → Int → Mem → Option (Int × Mem)
  | 0, _, _, _ => none
  | n + 1, x4, x6, μ => (if w32 6000 ≤ w32 x6 then bn (f_X9_tells x4 (μ 30 0 33) μ) (fun r6 μ7 => some (1, μ7)) else (if w32 x2 < w32 x6 then bn (f_X9_tells x4 (μ 30 0 33) μ) (fun r10 μ11 => some (1, μ11)) else gd (inb x6 6000) (f_X9_tellsUpTo_L24 x2 n (x4 + (μ 48 0 (ix x6))) (x6 + 1) μ)))
def f_X9_tellsUpTo (a1 : Int) (a2 : Int) (μ : Mem) : Option (Int × Mem) := bn (f_X9_sums a1 (-1) 0 μ) (fun r1 μ2 => (if w32 r1 ≤ 0 then f_X9_tellsUpTo_L24 a2 FU 0 0 μ2 else bn (f_X9_no r1 μ2) (fun r14 μ15 => gd (bb r14) (some (r14, μ15)))))
section
variable {p : Program} {l : Launch} {e : Env} {R : Room} {s : State} {m : MethodId} {args : Array Value} {below : List Frame} {meth : Method} {c : Code} {D : va_G} {Y : Nat → ClassId} {α : Adr} {sz : Nat} {r : Int} {μ' : Mem}
set_option maxHeartbeats 4000000 in
set_option maxRecDepth 100000 in
theorem c_X9_tellsUpTo_l24 {x2 : Int} (C : CX p s m args meth c cX9_tellsUpTo 7 RX9 (some .boolean) D Y LBm (Ar LBm α sz)) (hfr : 3 ≤ R.frames) (hlc : 79 ≤ R.locals)    : ∀ (n : Nat) (x4 x6 : Int) (μ : Mem), f_X9_tellsUpTo_L24 x2 n x4 x6 μ = some (r, μ') → GG D Y LBm (Ar LBm α sz) p l e R s m args below meth c 7 (MQ below (Qcx D Y LBm α sz (some (vi r)) (fun a => a = α) μ') args s 0 0 (Ar LBm α sz)) α 0 0 [(0, vr α 30 0), (2, vi x2), (4, vl x4), (6, vi x6)] [] μ 24 := by
  intro n
  induction n with
  | zero =>
    intro x4 x6 μ hf
    exact nomatch (show (none : Option (Int × Mem)) = some _ from hf)
  | succ n ih =>
    intro x4 x6 μ hf
    rw [f_X9_tellsUpTo_L24.eq_2] at hf
    refine g_ild C 3 rfl dX9_tellsUpTo_24 ?_
    refine g_sipush C rfl dX9_tellsUpTo_26 ?_
    refine g_ic_ge C 56 (by decide) dX9_tellsUpTo_29 (fun h5 => ?_) (fun h5 => ?_)
    · rw [if_pos h5] at hf
      refine g_ald_n C 0 rfl rfl dX9_tellsUpTo_56 ?_
      refine g_lld C 2 rfl dX9_tellsUpTo_57 ?_
      refine g_ald_n C 0 rfl rfl dX9_tellsUpTo_59 ?_
      refine g_get C dX9_tellsUpTo_60 fl_X9_177 in_30 (ec_30 _ _ _ _ _) rfl ?_
      obtain ⟨r6, μ7, hc8, hf⟩ := bn_some hf
      refine g_callVp (As := [vl x4, vl (μ 30 0 33)]) (rest := []) C ⟨Nat.zero_le _, Nat.zero_le _⟩ dX9_tellsUpTo_63 cw_X9_tells m_5_49 m_5_51 m_0_26 in_30 (ec_30 _ _ _ _ _) rfl rfl (c_X9_tells  hc8) rfl rfl (Nat.le_of_ble_eq_true rfl) ⟨Nat.le_trans (Nat.le_of_ble_eq_true rfl) hfr, Nat.le_trans (Nat.le_of_ble_eq_true rfl) hlc⟩ ?_
      refine g_pop C rfl dX9_tellsUpTo_66 ?_
      refine g_iconst C dX9_tellsUpTo_67 ?_
      exact g_zret C rfl (Or.inr rfl) dX9_tellsUpTo_68 hf
    · rw [if_neg h5] at hf
      refine g_ild C 3 rfl dX9_tellsUpTo_32 ?_
      refine g_ild_n C 1 rfl rfl dX9_tellsUpTo_34 ?_
      refine g_ic_gt C 56 (by decide) dX9_tellsUpTo_35 (fun h9 => ?_) (fun h9 => ?_)
      · rw [if_pos h9] at hf
        refine g_ald_n C 0 rfl rfl dX9_tellsUpTo_56 ?_
        refine g_lld C 2 rfl dX9_tellsUpTo_57 ?_
        refine g_ald_n C 0 rfl rfl dX9_tellsUpTo_59 ?_
        refine g_get C dX9_tellsUpTo_60 fl_X9_177 in_30 (ec_30 _ _ _ _ _) rfl ?_
        obtain ⟨r10, μ11, hc12, hf⟩ := bn_some hf
        refine g_callVp (As := [vl x4, vl (μ 30 0 33)]) (rest := []) C ⟨Nat.zero_le _, Nat.zero_le _⟩ dX9_tellsUpTo_63 cw_X9_tells m_5_49 m_5_51 m_0_26 in_30 (ec_30 _ _ _ _ _) rfl rfl (c_X9_tells  hc12) rfl rfl (Nat.le_of_ble_eq_true rfl) ⟨Nat.le_trans (Nat.le_of_ble_eq_true rfl) hfr, Nat.le_trans (Nat.le_of_ble_eq_true rfl) hlc⟩ ?_
        refine g_pop C rfl dX9_tellsUpTo_66 ?_
        refine g_iconst C dX9_tellsUpTo_67 ?_
        exact g_zret C rfl (Or.inr rfl) dX9_tellsUpTo_68 hf
      · rw [if_neg h9] at hf
        refine g_lld C 2 rfl dX9_tellsUpTo_38 ?_
        refine g_ald_n C 0 rfl rfl dX9_tellsUpTo_40 ?_
        refine g_get C dX9_tellsUpTo_41 fl_X9_74 in_30 (ec_30 _ _ _ _ _) rfl ?_
        refine g_ild C 3 rfl dX9_tellsUpTo_44 ?_
        obtain ⟨g13, hf⟩ := gd_some hf
        refine g_lald C dX9_tellsUpTo_46 in_48 (fun _ => ec_48 _ _ _ _ _) g13 ?_
        refine g_ladd C dX9_tellsUpTo_47 ?_
        refine g_lst (lo' := [(4, vl (x4 + (μ 48 0 (ix x6)))), (0, vr α 30 0), (2, vi x2), (6, vi x6)]) C (by decide) rfl dX9_tellsUpTo_48 ?_
        refine g_iinc (lo' := [(6, vi (x6 + 1)), (4, vl (x4 + (μ 48 0 (ix x6)))), (0, vr α 30 0), (2, vi x2)]) C 3 rfl (by decide) rfl dX9_tellsUpTo_50 ?_
        refine g_goto C 24 (by decide) dX9_tellsUpTo_53 ?_
        exact g_sub C [2, 3, 1, 0] rfl (ih _ _ _ hf)
set_option maxHeartbeats 4000000 in
set_option maxRecDepth 100000 in
theorem b_X9_tellsUpTo {a1 : Int} {a2 : Int} {μ : Mem} (C : CX p s m args meth c cX9_tellsUpTo 7 RX9 (some .boolean) D Y LBm (Ar LBm α sz)) (hfr : 3 ≤ R.frames) (hlc : 79 ≤ R.locals)  (hf : f_X9_tellsUpTo a1 a2 μ = some (r, μ')) : GG D Y LBm (Ar LBm α sz) p l e R s m args below meth c 7 (MQ below (Qcx D Y LBm α sz (some (vi r)) (fun a => a = α) μ') args s 0 0 (Ar LBm α sz)) α 0 0 [(0, vr α 30 0), (1, vi a1), (2, vi a2)] [] μ 0 := by
  unfold f_X9_tellsUpTo at hf
  refine g_ald_n C 0 rfl rfl dX9_tellsUpTo_0 ?_
  refine g_ild_n C 1 rfl rfl dX9_tellsUpTo_1 ?_
  refine g_iconst C dX9_tellsUpTo_2 ?_
  refine g_iconst C dX9_tellsUpTo_3 ?_
  obtain ⟨r1, μ2, hc3, hf⟩ := bn_some hf
  refine g_callVp (As := [vi a1, vi (-1), vi 0]) (rest := []) C ⟨Nat.zero_le _, Nat.zero_le _⟩ dX9_tellsUpTo_4 cw_X9_sums m_5_15 m_5_17 m_0_18 in_30 (ec_30 _ _ _ _ _) rfl rfl (c_X9_sums  hc3) rfl rfl (Nat.le_of_ble_eq_true rfl) ⟨Nat.le_trans (Nat.le_of_ble_eq_true rfl) hfr, Nat.le_trans (Nat.le_of_ble_eq_true rfl) hlc⟩ ?_
  refine g_ist_n (lo' := [(3, vi r1), (0, vr α 30 0), (1, vi a1), (2, vi a2)]) C rfl (by decide) rfl dX9_tellsUpTo_7 ?_
  refine g_ild_n C 0 rfl rfl dX9_tellsUpTo_8 ?_
  refine g_if_le C 18 (by decide) dX9_tellsUpTo_9 (fun h4 => ?_) (fun h4 => ?_)
  · rw [if_pos h4] at hf
    refine g_lconst (x := 0) C rfl dX9_tellsUpTo_18 ?_
    refine g_lst (lo' := [(4, vl 0), (3, vi r1), (0, vr α 30 0), (1, vi a1), (2, vi a2)]) C (by decide) rfl dX9_tellsUpTo_19 ?_
    refine g_iconst C dX9_tellsUpTo_21 ?_
    refine g_ist (lo' := [(6, vi 0), (4, vl 0), (3, vi r1), (0, vr α 30 0), (1, vi a1), (2, vi a2)]) C (by decide) rfl dX9_tellsUpTo_22 ?_
    refine g_sub C [3, 5, 1, 0] rfl (c_X9_tellsUpTo_l24 C hfr hlc   _ _ _ _ hf)
  · rw [if_neg h4] at hf
    refine g_ald_n C 1 rfl rfl dX9_tellsUpTo_12 ?_
    refine g_ild_n C 0 rfl rfl dX9_tellsUpTo_13 ?_
    obtain ⟨r14, μ15, hc16, hf⟩ := bn_some hf
    refine g_callVp (As := [vi r1]) (rest := []) C ⟨Nat.zero_le _, Nat.zero_le _⟩ dX9_tellsUpTo_14 cw_X9_no m_4_129 m_4_131 m_0_8 in_30 (ec_30 _ _ _ _ _) rfl rfl (c_X9_no  hc16) rfl rfl (Nat.le_of_ble_eq_true rfl) ⟨Nat.le_trans (Nat.le_of_ble_eq_true rfl) hfr, Nat.le_trans (Nat.le_of_ble_eq_true rfl) hlc⟩ ?_
    obtain ⟨g17, hf⟩ := gd_some hf
    exact g_zret C rfl g17 dX9_tellsUpTo_17 hf
set_option maxHeartbeats 4000000 in
set_option maxRecDepth 100000 in
theorem c_X9_tellsUpTo {l : Launch} {D : va_G} {Y : Nat → ClassId} {α : Adr} {a1 : Int} {a2 : Int} {μ : Mem} {r : Int} {μ' : Mem}  (hf : f_X9_tellsUpTo a1 a2 μ = some (r, μ')) : Ctr l D Y LBm yX9_tellsUpTo cX9_tellsUpTo 7 (some .boolean) 3 79 0 0 [vr α 30 0, vi a1, vi a2] α μ (some (vi r)) (fun a => a = α) μ' := Ctr_of pn_X9 rfl rfl (Nat.le_of_ble_eq_true rfl) LBm_nd (fun p e s m below meth c sz C => b_X9_tellsUpTo C (Nat.le_refl _) (Nat.le_refl _)  hf)
end

/-! EndTellerModel.ends -/
def f_X9_ends (a1 : Int) (μ : Mem) : Option (Int × Mem) := (if 0 ≤ w32 a1 then bn (f_X9_tellsUpTo (-1) a1 (st (st μ 30 0 1 0) 30 0 0 0)) (fun r2 μ3 => gd (bb r2) (some (r2, μ3))) else bn (f_X9_no 5 (st (st μ 30 0 1 0) 30 0 0 0)) (fun r6 μ7 => gd (bb r6) (some (r6, μ7))))
section
variable {p : Program} {l : Launch} {e : Env} {R : Room} {s : State} {m : MethodId} {args : Array Value} {below : List Frame} {meth : Method} {c : Code} {D : va_G} {Y : Nat → ClassId} {α : Adr} {sz : Nat} {r : Int} {μ' : Mem}
set_option maxHeartbeats 4000000 in
set_option maxRecDepth 100000 in
theorem b_X9_ends {a1 : Int} {μ : Mem} (C : CX p s m args meth c cX9_ends 2 RX9 (some .boolean) D Y LBm (Ar LBm α sz)) (hfr : 4 ≤ R.frames) (hlc : 105 ≤ R.locals)  (hf : f_X9_ends a1 μ = some (r, μ')) : GG D Y LBm (Ar LBm α sz) p l e R s m args below meth c 2 (MQ below (Qcx D Y LBm α sz (some (vi r)) (fun a => a = α) μ') args s 0 0 (Ar LBm α sz)) α 0 0 [(0, vr α 30 0), (1, vi a1)] [] μ 0 := by
  unfold f_X9_ends at hf
  refine g_ald_n C 0 rfl rfl dX9_ends_0 ?_
  refine g_iconst C dX9_ends_1 ?_
  refine g_puti C dX9_ends_2 fl_X9_95 in_30 (ec_30 _ _ _ _ _) (Nat.le_of_ble_eq_true rfl) rfl (by decide) ?_
  refine g_ald_n C 0 rfl rfl dX9_ends_5 ?_
  refine g_iconst C dX9_ends_6 ?_
  refine g_puti C dX9_ends_7 fl_X9_98 in_30 (ec_30 _ _ _ _ _) (Nat.le_of_ble_eq_true rfl) rfl (by decide) ?_
  refine g_ild_n C 1 rfl rfl dX9_ends_10 ?_
  refine g_if_ge C 22 (by decide) dX9_ends_11 (fun h1 => ?_) (fun h1 => ?_)
  · rw [if_pos h1] at hf
    refine g_ald_n C 0 rfl rfl dX9_ends_22 ?_
    refine g_iconst C dX9_ends_23 ?_
    refine g_ild_n C 1 rfl rfl dX9_ends_24 ?_
    obtain ⟨r2, μ3, hc4, hf⟩ := bn_some hf
    refine g_callVp (As := [vi (-1), vi a1]) (rest := []) C ⟨Nat.zero_le _, Nat.zero_le _⟩ dX9_ends_25 cw_X9_tellsUpTo m_5_11 m_5_13 m_0_17 in_30 (ec_30 _ _ _ _ _) rfl rfl (c_X9_tellsUpTo  hc4) rfl rfl (Nat.le_of_ble_eq_true rfl) ⟨Nat.le_trans (Nat.le_of_ble_eq_true rfl) hfr, Nat.le_trans (Nat.le_of_ble_eq_true rfl) hlc⟩ ?_
    obtain ⟨g5, hf⟩ := gd_some hf
    exact g_zret C rfl g5 dX9_ends_28 hf
  · rw [if_neg h1] at hf
    refine g_ald_n C 0 rfl rfl dX9_ends_14 ?_
    refine g_iconst C dX9_ends_15 ?_
    obtain ⟨r6, μ7, hc8, hf⟩ := bn_some hf
    refine g_callVp (As := [vi 5]) (rest := []) C ⟨Nat.zero_le _, Nat.zero_le _⟩ dX9_ends_16 cw_X9_no m_4_129 m_4_131 m_0_8 in_30 (ec_30 _ _ _ _ _) rfl rfl (c_X9_no  hc8) rfl rfl (Nat.le_of_ble_eq_true rfl) ⟨Nat.le_trans (Nat.le_of_ble_eq_true rfl) hfr, Nat.le_trans (Nat.le_of_ble_eq_true rfl) hlc⟩ ?_
    refine g_goto C 28 (by decide) dX9_ends_19 ?_
    obtain ⟨g9, hf⟩ := gd_some hf
    exact g_zret C rfl g9 dX9_ends_28 hf
set_option maxHeartbeats 4000000 in
set_option maxRecDepth 100000 in
theorem c_X9_ends {l : Launch} {D : va_G} {Y : Nat → ClassId} {α : Adr} {a1 : Int} {μ : Mem} {r : Int} {μ' : Mem}  (hf : f_X9_ends a1 μ = some (r, μ')) : Ctr l D Y LBm yX9_ends cX9_ends 2 (some .boolean) 4 105 0 0 [vr α 30 0, vi a1] α μ (some (vi r)) (fun a => a = α) μ' := Ctr_of pn_X9 rfl rfl (Nat.le_of_ble_eq_true rfl) LBm_nd (fun p e s m below meth c sz C => b_X9_ends C (Nat.le_refl _) (Nat.le_refl _)  hf)
end

/-! EndTellerModel.done -/
def f_X9_done (a1 : Int) (a2 : Int) (μ : Mem) : Option (Int × Mem) := bn (f_X9_isPart a1 (st (st μ 30 0 1 0) 30 0 0 0)) (fun r1 μ2 => (if w32 r1 = 0 then bn (f_X9_no 2 μ2) (fun r5 μ6 => gd (bb r5) (some (r5, μ6))) else (if 0 ≤ w32 a2 then bn (f_X9_tellsUpTo a1 a2 μ2) (fun r10 μ11 => gd (bb r10) (some (r10, μ11))) else bn (f_X9_no 5 μ2) (fun r14 μ15 => gd (bb r14) (some (r14, μ15))))))
section
variable {p : Program} {l : Launch} {e : Env} {R : Room} {s : State} {m : MethodId} {args : Array Value} {below : List Frame} {meth : Method} {c : Code} {D : va_G} {Y : Nat → ClassId} {α : Adr} {sz : Nat} {r : Int} {μ' : Mem}
set_option maxHeartbeats 4000000 in
set_option maxRecDepth 100000 in
theorem b_X9_done {a1 : Int} {a2 : Int} {μ : Mem} (C : CX p s m args meth c cX9_done 3 RX9 (some .boolean) D Y LBm (Ar LBm α sz)) (hfr : 4 ≤ R.frames) (hlc : 105 ≤ R.locals)  (hf : f_X9_done a1 a2 μ = some (r, μ')) : GG D Y LBm (Ar LBm α sz) p l e R s m args below meth c 3 (MQ below (Qcx D Y LBm α sz (some (vi r)) (fun a => a = α) μ') args s 0 0 (Ar LBm α sz)) α 0 0 [(0, vr α 30 0), (1, vi a1), (2, vi a2)] [] μ 0 := by
  unfold f_X9_done at hf
  refine g_ald_n C 0 rfl rfl dX9_done_0 ?_
  refine g_iconst C dX9_done_1 ?_
  refine g_puti C dX9_done_2 fl_X9_95 in_30 (ec_30 _ _ _ _ _) (Nat.le_of_ble_eq_true rfl) rfl (by decide) ?_
  refine g_ald_n C 0 rfl rfl dX9_done_5 ?_
  refine g_iconst C dX9_done_6 ?_
  refine g_puti C dX9_done_7 fl_X9_98 in_30 (ec_30 _ _ _ _ _) (Nat.le_of_ble_eq_true rfl) rfl (by decide) ?_
  refine g_ald_n C 0 rfl rfl dX9_done_10 ?_
  refine g_ild_n C 1 rfl rfl dX9_done_11 ?_
  obtain ⟨r1, μ2, hc3, hf⟩ := bn_some hf
  refine g_callVp (As := [vi a1]) (rest := []) C ⟨Nat.zero_le _, Nat.zero_le _⟩ dX9_done_12 cw_X9_isPart m_4_189 m_4_191 m_0_14 in_30 (ec_30 _ _ _ _ _) rfl rfl (c_X9_isPart  hc3) rfl rfl (Nat.le_of_ble_eq_true rfl) ⟨Nat.le_trans (Nat.le_of_ble_eq_true rfl) hfr, Nat.le_trans (Nat.le_of_ble_eq_true rfl) hlc⟩ ?_
  refine g_if_ne C 24 (by decide) dX9_done_15 (fun h4 => ?_) (fun h4 => ?_)
  · rw [if_pos h4] at hf
    refine g_ald_n C 0 rfl rfl dX9_done_18 ?_
    refine g_iconst C dX9_done_19 ?_
    obtain ⟨r5, μ6, hc7, hf⟩ := bn_some hf
    refine g_callVp (As := [vi 2]) (rest := []) C ⟨Nat.zero_le _, Nat.zero_le _⟩ dX9_done_20 cw_X9_no m_4_129 m_4_131 m_0_8 in_30 (ec_30 _ _ _ _ _) rfl rfl (c_X9_no  hc7) rfl rfl (Nat.le_of_ble_eq_true rfl) ⟨Nat.le_trans (Nat.le_of_ble_eq_true rfl) hfr, Nat.le_trans (Nat.le_of_ble_eq_true rfl) hlc⟩ ?_
    obtain ⟨g8, hf⟩ := gd_some hf
    exact g_zret C rfl g8 dX9_done_23 hf
  · rw [if_neg h4] at hf
    refine g_ild_n C 2 rfl rfl dX9_done_24 ?_
    refine g_if_ge C 36 (by decide) dX9_done_25 (fun h9 => ?_) (fun h9 => ?_)
    · rw [if_pos h9] at hf
      refine g_ald_n C 0 rfl rfl dX9_done_36 ?_
      refine g_ild_n C 1 rfl rfl dX9_done_37 ?_
      refine g_ild_n C 2 rfl rfl dX9_done_38 ?_
      obtain ⟨r10, μ11, hc12, hf⟩ := bn_some hf
      refine g_callVp (As := [vi a1, vi a2]) (rest := []) C ⟨Nat.zero_le _, Nat.zero_le _⟩ dX9_done_39 cw_X9_tellsUpTo m_5_11 m_5_13 m_0_17 in_30 (ec_30 _ _ _ _ _) rfl rfl (c_X9_tellsUpTo  hc12) rfl rfl (Nat.le_of_ble_eq_true rfl) ⟨Nat.le_trans (Nat.le_of_ble_eq_true rfl) hfr, Nat.le_trans (Nat.le_of_ble_eq_true rfl) hlc⟩ ?_
      obtain ⟨g13, hf⟩ := gd_some hf
      exact g_zret C rfl g13 dX9_done_42 hf
    · rw [if_neg h9] at hf
      refine g_ald_n C 0 rfl rfl dX9_done_28 ?_
      refine g_iconst C dX9_done_29 ?_
      obtain ⟨r14, μ15, hc16, hf⟩ := bn_some hf
      refine g_callVp (As := [vi 5]) (rest := []) C ⟨Nat.zero_le _, Nat.zero_le _⟩ dX9_done_30 cw_X9_no m_4_129 m_4_131 m_0_8 in_30 (ec_30 _ _ _ _ _) rfl rfl (c_X9_no  hc16) rfl rfl (Nat.le_of_ble_eq_true rfl) ⟨Nat.le_trans (Nat.le_of_ble_eq_true rfl) hfr, Nat.le_trans (Nat.le_of_ble_eq_true rfl) hlc⟩ ?_
      refine g_goto C 42 (by decide) dX9_done_33 ?_
      obtain ⟨g17, hf⟩ := gd_some hf
      exact g_zret C rfl g17 dX9_done_42 hf
set_option maxHeartbeats 4000000 in
set_option maxRecDepth 100000 in
theorem c_X9_done {l : Launch} {D : va_G} {Y : Nat → ClassId} {α : Adr} {a1 : Int} {a2 : Int} {μ : Mem} {r : Int} {μ' : Mem}  (hf : f_X9_done a1 a2 μ = some (r, μ')) : Ctr l D Y LBm yX9_done cX9_done 3 (some .boolean) 4 105 0 0 [vr α 30 0, vi a1, vi a2] α μ (some (vi r)) (fun a => a = α) μ' := Ctr_of pn_X9 rfl rfl (Nat.le_of_ble_eq_true rfl) LBm_nd (fun p e s m below meth c sz C => b_X9_done C (Nat.le_refl _) (Nat.le_refl _)  hf)
end

/-! EndTellerModel.promise -/
def f_X9_promise_L63 (x1 : Int) (x2 : Int) : Nat → Int → Int → Mem → Option (Int × Mem)
  | 0, _, _, _ => none
  | n + 1, x4, x6, μ => (if w32 6000 ≤ w32 x6 then some ((-1), μ) else gd (inb x6 6000) ((if w64 ((w32 x1) * (μ 30 0 33)) < w64 ((x4 - (μ 48 0 (ix x6))) * (w32 x2)) then f_X9_promise_L63 x1 x2 n (x4 - (μ 48 0 (ix x6))) (x6 + 1) μ else some (x6, μ))))
def f_X9_promise (a1 : Int) (a2 : Int) (μ : Mem) : Option (Int × Mem) := (if w32 a2 < w32 1 then bn (f_X9_refuse 5 (st (st μ 30 0 1 0) 30 0 0 0)) (fun r2 μ3 => some (r2, μ3)) else (if w32 1000000 < w32 a2 then bn (f_X9_refuse 5 (st (st μ 30 0 1 0) 30 0 0 0)) (fun r6 μ7 => some (r6, μ7)) else (if w32 a1 < 0 then bn (f_X9_refuse 5 (st (st μ 30 0 1 0) 30 0 0 0)) (fun r10 μ11 => some (r10, μ11)) else (if w32 a1 ≤ w32 a2 then bn (f_X9_sums (-1) (-1) 0 (st (st μ 30 0 1 0) 30 0 0 0)) (fun r14 μ15 => (if w32 r14 ≤ 0 then f_X9_promise_L63 a1 a2 FU (μ15 30 0 33) 0 μ15 else bn (f_X9_refuse r14 μ15) (fun r21 μ22 => some (r21, μ22)))) else bn (f_X9_refuse 5 (st (st μ 30 0 1 0) 30 0 0 0)) (fun r24 μ25 => some (r24, μ25))))))
section
variable {p : Program} {l : Launch} {e : Env} {R : Room} {s : State} {m : MethodId} {args : Array Value} {below : List Frame} {meth : Method} {c : Code} {D : va_G} {Y : Nat → ClassId} {α : Adr} {sz : Nat} {r : Int} {μ' : Mem}
set_option maxHeartbeats 4000000 in
set_option maxRecDepth 100000 in
theorem c_X9_promise_l63 {x1 : Int} {x2 : Int} (C : CX p s m args meth c cX9_promise 7 RX9 (some .int) D Y LBm (Ar LBm α sz)) (hfr : 3 ≤ R.frames) (hlc : 79 ≤ R.locals)    : ∀ (n : Nat) (x4 x6 : Int) (μ : Mem), f_X9_promise_L63 x1 x2 n x4 x6 μ = some (r, μ') → GG D Y LBm (Ar LBm α sz) p l e R s m args below meth c 7 (MQ below (Qcx D Y LBm α sz (some (vi r)) (fun a => a = α) μ') args s 0 0 (Ar LBm α sz)) α 0 0 [(0, vr α 30 0), (1, vi x1), (2, vi x2), (4, vl x4), (6, vi x6)] [] μ 63 := by
  intro n
  induction n with
  | zero =>
    intro x4 x6 μ hf
    exact nomatch (show (none : Option (Int × Mem)) = some _ from hf)
  | succ n ih =>
    intro x4 x6 μ hf
    rw [f_X9_promise_L63.eq_2] at hf
    refine g_ild C 4 rfl dX9_promise_63 ?_
    refine g_sipush C rfl dX9_promise_65 ?_
    refine g_ic_ge C 108 (by decide) dX9_promise_68 (fun h18 => ?_) (fun h18 => ?_)
    · rw [if_pos h18] at hf
      refine g_iconst C dX9_promise_108 ?_
      exact g_iret C rfl dX9_promise_109 hf
    · rw [if_neg h18] at hf
      refine g_lld C 3 rfl dX9_promise_71 ?_
      refine g_ald_n C 0 rfl rfl dX9_promise_73 ?_
      refine g_get C dX9_promise_74 fl_X9_74 in_30 (ec_30 _ _ _ _ _) rfl ?_
      refine g_ild C 4 rfl dX9_promise_77 ?_
      obtain ⟨g19, hf⟩ := gd_some hf
      refine g_lald C dX9_promise_79 in_48 (fun _ => ec_48 _ _ _ _ _) g19 ?_
      refine g_lsub C dX9_promise_80 ?_
      refine g_lst (lo' := [(4, vl (x4 - (μ 48 0 (ix x6)))), (0, vr α 30 0), (1, vi x1), (2, vi x2), (6, vi x6)]) C (by decide) rfl dX9_promise_81 ?_
      refine g_lld C 0 rfl dX9_promise_83 ?_
      refine g_ild_n C 3 rfl rfl dX9_promise_85 ?_
      refine g_i2l C dX9_promise_86 ?_
      refine g_lmul C dX9_promise_87 ?_
      refine g_ild_n C 2 rfl rfl dX9_promise_88 ?_
      refine g_i2l C dX9_promise_89 ?_
      refine g_ald_n C 1 rfl rfl dX9_promise_90 ?_
      refine g_get C dX9_promise_91 fl_X9_177 in_30 (ec_30 _ _ _ _ _) rfl ?_
      refine g_lmul C dX9_promise_94 ?_
      refine g_lc_gt C 102 (by decide) dX9_promise_95 dX9_promise_96 (fun h20 => ?_) (fun h20 => ?_)
      · rw [if_pos h20] at hf
        refine g_iinc (lo' := [(6, vi (x6 + 1)), (4, vl (x4 - (μ 48 0 (ix x6)))), (0, vr α 30 0), (1, vi x1), (2, vi x2)]) C 4 rfl (by decide) rfl dX9_promise_102 ?_
        refine g_goto C 63 (by decide) dX9_promise_105 ?_
        exact g_sub C [2, 3, 4, 1, 0] rfl (ih _ _ _ hf)
      · rw [if_neg h20] at hf
        refine g_ild C 4 rfl dX9_promise_99 ?_
        exact g_iret C rfl dX9_promise_101 hf
set_option maxHeartbeats 4000000 in
set_option maxRecDepth 100000 in
theorem b_X9_promise {a1 : Int} {a2 : Int} {μ : Mem} (C : CX p s m args meth c cX9_promise 7 RX9 (some .int) D Y LBm (Ar LBm α sz)) (hfr : 3 ≤ R.frames) (hlc : 79 ≤ R.locals)  (hf : f_X9_promise a1 a2 μ = some (r, μ')) : GG D Y LBm (Ar LBm α sz) p l e R s m args below meth c 7 (MQ below (Qcx D Y LBm α sz (some (vi r)) (fun a => a = α) μ') args s 0 0 (Ar LBm α sz)) α 0 0 [(0, vr α 30 0), (1, vi a1), (2, vi a2)] [] μ 0 := by
  unfold f_X9_promise at hf
  refine g_ald_n C 0 rfl rfl dX9_promise_0 ?_
  refine g_iconst C dX9_promise_1 ?_
  refine g_puti C dX9_promise_2 fl_X9_95 in_30 (ec_30 _ _ _ _ _) (Nat.le_of_ble_eq_true rfl) rfl (by decide) ?_
  refine g_ald_n C 0 rfl rfl dX9_promise_5 ?_
  refine g_iconst C dX9_promise_6 ?_
  refine g_puti C dX9_promise_7 fl_X9_98 in_30 (ec_30 _ _ _ _ _) (Nat.le_of_ble_eq_true rfl) rfl (by decide) ?_
  refine g_ild_n C 2 rfl rfl dX9_promise_10 ?_
  refine g_iconst C dX9_promise_11 ?_
  refine g_ic_lt C 30 (by decide) dX9_promise_12 (fun h1 => ?_) (fun h1 => ?_)
  · rw [if_pos h1] at hf
    refine g_ald_n C 0 rfl rfl dX9_promise_30 ?_
    refine g_iconst C dX9_promise_31 ?_
    obtain ⟨r2, μ3, hc4, hf⟩ := bn_some hf
    refine g_callVp (As := [vi 5]) (rest := []) C ⟨Nat.zero_le _, Nat.zero_le _⟩ dX9_promise_32 cw_X9_refuse m_4_164 m_4_166 m_0_11 in_30 (ec_30 _ _ _ _ _) rfl rfl (c_X9_refuse  hc4) rfl rfl (Nat.le_of_ble_eq_true rfl) ⟨Nat.le_trans (Nat.le_of_ble_eq_true rfl) hfr, Nat.le_trans (Nat.le_of_ble_eq_true rfl) hlc⟩ ?_
    exact g_iret C rfl dX9_promise_35 hf
  · rw [if_neg h1] at hf
    refine g_ild_n C 2 rfl rfl dX9_promise_15 ?_
    refine g_ldc (x := 1000000) C m_5_61 dX9_promise_16 ?_
    refine g_ic_gt C 30 (by decide) dX9_promise_18 (fun h5 => ?_) (fun h5 => ?_)
    · rw [if_pos h5] at hf
      refine g_ald_n C 0 rfl rfl dX9_promise_30 ?_
      refine g_iconst C dX9_promise_31 ?_
      obtain ⟨r6, μ7, hc8, hf⟩ := bn_some hf
      refine g_callVp (As := [vi 5]) (rest := []) C ⟨Nat.zero_le _, Nat.zero_le _⟩ dX9_promise_32 cw_X9_refuse m_4_164 m_4_166 m_0_11 in_30 (ec_30 _ _ _ _ _) rfl rfl (c_X9_refuse  hc8) rfl rfl (Nat.le_of_ble_eq_true rfl) ⟨Nat.le_trans (Nat.le_of_ble_eq_true rfl) hfr, Nat.le_trans (Nat.le_of_ble_eq_true rfl) hlc⟩ ?_
      exact g_iret C rfl dX9_promise_35 hf
    · rw [if_neg h5] at hf
      refine g_ild_n C 1 rfl rfl dX9_promise_21 ?_
      refine g_if_lt C 30 (by decide) dX9_promise_22 (fun h9 => ?_) (fun h9 => ?_)
      · rw [if_pos h9] at hf
        refine g_ald_n C 0 rfl rfl dX9_promise_30 ?_
        refine g_iconst C dX9_promise_31 ?_
        obtain ⟨r10, μ11, hc12, hf⟩ := bn_some hf
        refine g_callVp (As := [vi 5]) (rest := []) C ⟨Nat.zero_le _, Nat.zero_le _⟩ dX9_promise_32 cw_X9_refuse m_4_164 m_4_166 m_0_11 in_30 (ec_30 _ _ _ _ _) rfl rfl (c_X9_refuse  hc12) rfl rfl (Nat.le_of_ble_eq_true rfl) ⟨Nat.le_trans (Nat.le_of_ble_eq_true rfl) hfr, Nat.le_trans (Nat.le_of_ble_eq_true rfl) hlc⟩ ?_
        exact g_iret C rfl dX9_promise_35 hf
      · rw [if_neg h9] at hf
        refine g_ild_n C 1 rfl rfl dX9_promise_25 ?_
        refine g_ild_n C 2 rfl rfl dX9_promise_26 ?_
        refine g_ic_le C 36 (by decide) dX9_promise_27 (fun h13 => ?_) (fun h13 => ?_)
        · rw [if_pos h13] at hf
          refine g_ald_n C 0 rfl rfl dX9_promise_36 ?_
          refine g_iconst C dX9_promise_37 ?_
          refine g_iconst C dX9_promise_38 ?_
          refine g_iconst C dX9_promise_39 ?_
          obtain ⟨r14, μ15, hc16, hf⟩ := bn_some hf
          refine g_callVp (As := [vi (-1), vi (-1), vi 0]) (rest := []) C ⟨Nat.zero_le _, Nat.zero_le _⟩ dX9_promise_40 cw_X9_sums m_5_15 m_5_17 m_0_18 in_30 (ec_30 _ _ _ _ _) rfl rfl (c_X9_sums  hc16) rfl rfl (Nat.le_of_ble_eq_true rfl) ⟨Nat.le_trans (Nat.le_of_ble_eq_true rfl) hfr, Nat.le_trans (Nat.le_of_ble_eq_true rfl) hlc⟩ ?_
          refine g_ist_n (lo' := [(3, vi r14), (0, vr α 30 0), (1, vi a1), (2, vi a2)]) C rfl (by decide) rfl dX9_promise_43 ?_
          refine g_ild_n C 0 rfl rfl dX9_promise_44 ?_
          refine g_if_le C 54 (by decide) dX9_promise_45 (fun h17 => ?_) (fun h17 => ?_)
          · rw [if_pos h17] at hf
            refine g_ald_n C 1 rfl rfl dX9_promise_54 ?_
            refine g_get C dX9_promise_55 fl_X9_177 in_30 (ec_30 _ _ _ _ _) rfl ?_
            refine g_lst (lo' := [(4, vl (μ15 30 0 33)), (3, vi r14), (0, vr α 30 0), (1, vi a1), (2, vi a2)]) C (by decide) rfl dX9_promise_58 ?_
            refine g_iconst C dX9_promise_60 ?_
            refine g_ist (lo' := [(6, vi 0), (4, vl (μ15 30 0 33)), (3, vi r14), (0, vr α 30 0), (1, vi a1), (2, vi a2)]) C (by decide) rfl dX9_promise_61 ?_
            refine g_sub C [3, 4, 5, 1, 0] rfl (c_X9_promise_l63 C hfr hlc   _ _ _ _ hf)
          · rw [if_neg h17] at hf
            refine g_ald_n C 1 rfl rfl dX9_promise_48 ?_
            refine g_ild_n C 0 rfl rfl dX9_promise_49 ?_
            obtain ⟨r21, μ22, hc23, hf⟩ := bn_some hf
            refine g_callVp (As := [vi r14]) (rest := []) C ⟨Nat.zero_le _, Nat.zero_le _⟩ dX9_promise_50 cw_X9_refuse m_4_164 m_4_166 m_0_11 in_30 (ec_30 _ _ _ _ _) rfl rfl (c_X9_refuse  hc23) rfl rfl (Nat.le_of_ble_eq_true rfl) ⟨Nat.le_trans (Nat.le_of_ble_eq_true rfl) hfr, Nat.le_trans (Nat.le_of_ble_eq_true rfl) hlc⟩ ?_
            exact g_iret C rfl dX9_promise_53 hf
        · rw [if_neg h13] at hf
          refine g_ald_n C 0 rfl rfl dX9_promise_30 ?_
          refine g_iconst C dX9_promise_31 ?_
          obtain ⟨r24, μ25, hc26, hf⟩ := bn_some hf
          refine g_callVp (As := [vi 5]) (rest := []) C ⟨Nat.zero_le _, Nat.zero_le _⟩ dX9_promise_32 cw_X9_refuse m_4_164 m_4_166 m_0_11 in_30 (ec_30 _ _ _ _ _) rfl rfl (c_X9_refuse  hc26) rfl rfl (Nat.le_of_ble_eq_true rfl) ⟨Nat.le_trans (Nat.le_of_ble_eq_true rfl) hfr, Nat.le_trans (Nat.le_of_ble_eq_true rfl) hlc⟩ ?_
          exact g_iret C rfl dX9_promise_35 hf
set_option maxHeartbeats 4000000 in
set_option maxRecDepth 100000 in
theorem c_X9_promise {l : Launch} {D : va_G} {Y : Nat → ClassId} {α : Adr} {a1 : Int} {a2 : Int} {μ : Mem} {r : Int} {μ' : Mem}  (hf : f_X9_promise a1 a2 μ = some (r, μ')) : Ctr l D Y LBm yX9_promise cX9_promise 7 (some .int) 3 79 0 0 [vr α 30 0, vi a1, vi a2] α μ (some (vi r)) (fun a => a = α) μ' := Ctr_of pn_X9 rfl rfl (Nat.le_of_ble_eq_true rfl) LBm_nd (fun p e s m below meth c sz C => b_X9_promise C (Nat.le_refl _) (Nat.le_refl _)  hf)
end

/-! EndTellerModel.mean -/
def f_X9_mean_L33  : Nat → Int → Int → Mem → Option (Int × Mem)
  | 0, _, _, _ => none
  | n + 1, x2, x4, μ => (if w32 6000 ≤ w32 x4 then bn (f_X9_tells x2 (μ 30 0 33) μ) (fun r6 μ7 => some (1, μ7)) else gd (inb x4 6000) (f_X9_mean_L33 n (x2 + ((w32 x4) * (μ 48 0 (ix x4)))) (x4 + 1) μ))
def f_X9_mean  (μ : Mem) : Option (Int × Mem) := bn (f_X9_sums (-1) (-1) 0 (st (st μ 30 0 1 0) 30 0 0 0)) (fun r1 μ2 => (if w32 r1 ≤ 0 then f_X9_mean_L33 FU 0 0 μ2 else bn (f_X9_no r1 μ2) (fun r10 μ11 => gd (bb r10) (some (r10, μ11)))))
section
variable {p : Program} {l : Launch} {e : Env} {R : Room} {s : State} {m : MethodId} {args : Array Value} {below : List Frame} {meth : Method} {c : Code} {D : va_G} {Y : Nat → ClassId} {α : Adr} {sz : Nat} {r : Int} {μ' : Mem}
set_option maxHeartbeats 4000000 in
set_option maxRecDepth 100000 in
theorem c_X9_mean_l33  (C : CX p s m args meth c cX9_mean 5 RX9 (some .boolean) D Y LBm (Ar LBm α sz)) (hfr : 3 ≤ R.frames) (hlc : 79 ≤ R.locals)    : ∀ (n : Nat) (x2 x4 : Int) (μ : Mem), f_X9_mean_L33 n x2 x4 μ = some (r, μ') → GG D Y LBm (Ar LBm α sz) p l e R s m args below meth c 5 (MQ below (Qcx D Y LBm α sz (some (vi r)) (fun a => a = α) μ') args s 0 0 (Ar LBm α sz)) α 0 0 [(0, vr α 30 0), (2, vl x2), (4, vi x4)] [] μ 33 := by
  intro n
  induction n with
  | zero =>
    intro x2 x4 μ hf
    exact nomatch (show (none : Option (Int × Mem)) = some _ from hf)
  | succ n ih =>
    intro x2 x4 μ hf
    rw [f_X9_mean_L33.eq_2] at hf
    refine g_ild C 2 rfl dX9_mean_33 ?_
    refine g_sipush C rfl dX9_mean_35 ?_
    refine g_ic_ge C 61 (by decide) dX9_mean_38 (fun h5 => ?_) (fun h5 => ?_)
    · rw [if_pos h5] at hf
      refine g_ald_n C 0 rfl rfl dX9_mean_61 ?_
      refine g_lld_n C 1 rfl rfl dX9_mean_62 ?_
      refine g_ald_n C 0 rfl rfl dX9_mean_63 ?_
      refine g_get C dX9_mean_64 fl_X9_177 in_30 (ec_30 _ _ _ _ _) rfl ?_
      obtain ⟨r6, μ7, hc8, hf⟩ := bn_some hf
      refine g_callVp (As := [vl x2, vl (μ 30 0 33)]) (rest := []) C ⟨Nat.zero_le _, Nat.zero_le _⟩ dX9_mean_67 cw_X9_tells m_5_49 m_5_51 m_0_26 in_30 (ec_30 _ _ _ _ _) rfl rfl (c_X9_tells  hc8) rfl rfl (Nat.le_of_ble_eq_true rfl) ⟨Nat.le_trans (Nat.le_of_ble_eq_true rfl) hfr, Nat.le_trans (Nat.le_of_ble_eq_true rfl) hlc⟩ ?_
      refine g_pop C rfl dX9_mean_70 ?_
      refine g_iconst C dX9_mean_71 ?_
      exact g_zret C rfl (Or.inr rfl) dX9_mean_72 hf
    · rw [if_neg h5] at hf
      refine g_lld_n C 1 rfl rfl dX9_mean_41 ?_
      refine g_ild C 2 rfl dX9_mean_42 ?_
      refine g_i2l C dX9_mean_44 ?_
      refine g_ald_n C 0 rfl rfl dX9_mean_45 ?_
      refine g_get C dX9_mean_46 fl_X9_74 in_30 (ec_30 _ _ _ _ _) rfl ?_
      refine g_ild C 2 rfl dX9_mean_49 ?_
      obtain ⟨g9, hf⟩ := gd_some hf
      refine g_lald C dX9_mean_51 in_48 (fun _ => ec_48 _ _ _ _ _) g9 ?_
      refine g_lmul C dX9_mean_52 ?_
      refine g_ladd C dX9_mean_53 ?_
      refine g_lst_n (lo' := [(2, vl (x2 + ((w32 x4) * (μ 48 0 (ix x4))))), (0, vr α 30 0), (4, vi x4)]) C rfl (by decide) rfl dX9_mean_54 ?_
      refine g_iinc (lo' := [(4, vi (x4 + 1)), (2, vl (x2 + ((w32 x4) * (μ 48 0 (ix x4))))), (0, vr α 30 0)]) C 2 rfl (by decide) rfl dX9_mean_55 ?_
      refine g_goto C 33 (by decide) dX9_mean_58 ?_
      exact g_sub C [2, 1, 0] rfl (ih _ _ _ hf)
set_option maxHeartbeats 4000000 in
set_option maxRecDepth 100000 in
theorem b_X9_mean  {μ : Mem} (C : CX p s m args meth c cX9_mean 5 RX9 (some .boolean) D Y LBm (Ar LBm α sz)) (hfr : 3 ≤ R.frames) (hlc : 79 ≤ R.locals)  (hf : f_X9_mean μ = some (r, μ')) : GG D Y LBm (Ar LBm α sz) p l e R s m args below meth c 5 (MQ below (Qcx D Y LBm α sz (some (vi r)) (fun a => a = α) μ') args s 0 0 (Ar LBm α sz)) α 0 0 [(0, vr α 30 0)] [] μ 0 := by
  unfold f_X9_mean at hf
  refine g_ald_n C 0 rfl rfl dX9_mean_0 ?_
  refine g_iconst C dX9_mean_1 ?_
  refine g_puti C dX9_mean_2 fl_X9_95 in_30 (ec_30 _ _ _ _ _) (Nat.le_of_ble_eq_true rfl) rfl (by decide) ?_
  refine g_ald_n C 0 rfl rfl dX9_mean_5 ?_
  refine g_iconst C dX9_mean_6 ?_
  refine g_puti C dX9_mean_7 fl_X9_98 in_30 (ec_30 _ _ _ _ _) (Nat.le_of_ble_eq_true rfl) rfl (by decide) ?_
  refine g_ald_n C 0 rfl rfl dX9_mean_10 ?_
  refine g_iconst C dX9_mean_11 ?_
  refine g_iconst C dX9_mean_12 ?_
  refine g_iconst C dX9_mean_13 ?_
  obtain ⟨r1, μ2, hc3, hf⟩ := bn_some hf
  refine g_callVp (As := [vi (-1), vi (-1), vi 0]) (rest := []) C ⟨Nat.zero_le _, Nat.zero_le _⟩ dX9_mean_14 cw_X9_sums m_5_15 m_5_17 m_0_18 in_30 (ec_30 _ _ _ _ _) rfl rfl (c_X9_sums  hc3) rfl rfl (Nat.le_of_ble_eq_true rfl) ⟨Nat.le_trans (Nat.le_of_ble_eq_true rfl) hfr, Nat.le_trans (Nat.le_of_ble_eq_true rfl) hlc⟩ ?_
  refine g_ist_n (lo' := [(1, vi r1), (0, vr α 30 0)]) C rfl (by decide) rfl dX9_mean_17 ?_
  refine g_ild_n C 0 rfl rfl dX9_mean_18 ?_
  refine g_if_le C 28 (by decide) dX9_mean_19 (fun h4 => ?_) (fun h4 => ?_)
  · rw [if_pos h4] at hf
    refine g_lconst (x := 0) C rfl dX9_mean_28 ?_
    refine g_lst_n (lo' := [(2, vl 0), (1, vi r1), (0, vr α 30 0)]) C rfl (by decide) rfl dX9_mean_29 ?_
    refine g_iconst C dX9_mean_30 ?_
    refine g_ist (lo' := [(4, vi 0), (2, vl 0), (1, vi r1), (0, vr α 30 0)]) C (by decide) rfl dX9_mean_31 ?_
    refine g_sub C [3, 1, 0] rfl (c_X9_mean_l33 C hfr hlc   _ _ _ _ hf)
  · rw [if_neg h4] at hf
    refine g_ald_n C 1 rfl rfl dX9_mean_22 ?_
    refine g_ild_n C 0 rfl rfl dX9_mean_23 ?_
    obtain ⟨r10, μ11, hc12, hf⟩ := bn_some hf
    refine g_callVp (As := [vi r1]) (rest := []) C ⟨Nat.zero_le _, Nat.zero_le _⟩ dX9_mean_24 cw_X9_no m_4_129 m_4_131 m_0_8 in_30 (ec_30 _ _ _ _ _) rfl rfl (c_X9_no  hc12) rfl rfl (Nat.le_of_ble_eq_true rfl) ⟨Nat.le_trans (Nat.le_of_ble_eq_true rfl) hfr, Nat.le_trans (Nat.le_of_ble_eq_true rfl) hlc⟩ ?_
    obtain ⟨g13, hf⟩ := gd_some hf
    exact g_zret C rfl g13 dX9_mean_27 hf
set_option maxHeartbeats 4000000 in
set_option maxRecDepth 100000 in
theorem c_X9_mean {l : Launch} {D : va_G} {Y : Nat → ClassId} {α : Adr}  {μ : Mem} {r : Int} {μ' : Mem}  (hf : f_X9_mean μ = some (r, μ')) : Ctr l D Y LBm yX9_mean cX9_mean 5 (some .boolean) 3 79 0 0 [vr α 30 0] α μ (some (vi r)) (fun a => a = α) μ' := Ctr_of pn_X9 rfl rfl (Nat.le_of_ble_eq_true rfl) LBm_nd (fun p e s m below meth c sz C => b_X9_mean C (Nat.le_refl _) (Nat.le_refl _)  hf)
end
