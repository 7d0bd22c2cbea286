/-! EndTeller$Stepper.takeCauses -/
def f_X2_takeCauses_L88 (x1 : Int) (k128 : Mem → Option (Int × Mem)) : Nat → Int → Mem → Option (Int × Mem)
  | 0, _, _ => none
  | n + 1, x2, μ => (if w32 (μ 15 0 3) ≤ w32 x2 then k128  μ else gd (inb x2 10) (gd (inb x2 10) (gd (inb x1 4) (gd (inb x2 10) (f_X2_takeCauses_L88 x1 k128 n (x2 + 1) (st μ 13 0 (ix x2) ((μ 13 0 (ix x2)) + (μ 20 (ix x2) (ix x1)))))))))
def f_X2_takeCauses_L15  : Nat → Int → Mem → Option (Int × Mem)
  | 0, _, _ => none
  | n + 1, x1, μ => (if w32 (μ 15 0 4) ≤ w32 x1 then some (0, μ) else jn (fun μ5 => f_X2_takeCauses_L15 n (x1 + 1) μ5) (fun j128 => (if w32 (ian (ishr (μ 11 0 4) x1) 1) = 0 then gd (inb x1 4) (gd (inb x1 4) (j128  (st μ 11 0 5 ((μ 11 0 5) * ((μ 22 0 (ix x1)) - (μ 21 0 (ix x1))))))) else gd (inb x1 4) (f_X2_takeCauses_L88 x1 (fun μ16 => j128  μ16) FU 0 (st μ 11 0 5 ((μ 11 0 5) * (μ 21 0 (ix x1))))))))
def f_X2_takeCauses  (μ : Mem) : Option (Int × Mem) := bn (f_J7_fill_53178 13 0 10 0 (st μ 11 0 5 1)) (fun r1 μ2 => f_X2_takeCauses_L15 FU 0 μ2)
section
variable {p : Program} {l : Launch} {e : Env} {R : Room} {s : State} {m : MethodId} {args : Array Value} {below : List Frame} {meth : Method} {c : Code} {D : va_G} {Y : Nat → ClassId} {α : Adr} {sz : Nat} {r : Int} {μ' : Mem}
set_option maxHeartbeats 4000000 in
set_option maxRecDepth 100000 in
theorem c_X2_takeCauses_l88 {x1 : Int} {k128 : Mem → Option (Int × Mem)} (C : CX p s m args meth c cX2_takeCauses 3 RX2 none D Y LBx (Ar LBx α sz)) (hfr : 1 ≤ R.frames) (hlc : 23 ≤ R.locals)  (hk128 : ∀ (μ : Mem), k128 μ = some (r, μ') → GG D Y LBx (Ar LBx α sz) p l e R s m args below meth c 3 (MQ below (Qcx D Y LBx α sz none (fun a => a = α) μ') args s 0 0 (Ar LBx α sz)) α 0 0 [(0, vr α 11 0), (1, vi x1)] [] μ 128)  : ∀ (n : Nat) (x2 : Int) (μ : Mem), f_X2_takeCauses_L88 x1 k128 n x2 μ = some (r, μ') → GG D Y LBx (Ar LBx α sz) p l e R s m args below meth c 3 (MQ below (Qcx D Y LBx α sz none (fun a => a = α) μ') args s 0 0 (Ar LBx α sz)) α 0 0 [(0, vr α 11 0), (1, vi x1), (2, vi x2)] [] μ 88 := by
  intro n
  induction n with
  | zero =>
    intro x2 μ hf
    exact nomatch (show (none : Option (Int × Mem)) = some _ from hf)
  | succ n ih =>
    intro x2 μ hf
    rw [f_X2_takeCauses_L88.eq_2] at hf
    refine g_ild_n C 2 rfl rfl dX2_takeCauses_88 ?_
    refine g_ald_n C 0 rfl rfl dX2_takeCauses_89 ?_
    refine g_get C dX2_takeCauses_90 fl_X2_12 in_11 (ec_11 _ _ _ _ _) rfl ?_
    refine g_get C dX2_takeCauses_93 fl_X2_53 in_15 (ec_15 _ _ _ _ _) rfl ?_
    refine g_ic_ge C 128 (by decide) dX2_takeCauses_96 (fun h11 => ?_) (fun h11 => ?_)
    · rw [if_pos h11] at hf
      exact g_sub C [0, 1] rfl (hk128 _ hf)
    · rw [if_neg h11] at hf
      refine g_ald_n C 0 rfl rfl dX2_takeCauses_99 ?_
      refine g_get C dX2_takeCauses_100 fl_X2_22 in_11 (ec_11 _ _ _ _ _) rfl ?_
      refine g_ild_n C 2 rfl rfl dX2_takeCauses_103 ?_
      refine g_dup2 C rfl rfl dX2_takeCauses_104 ?_
      obtain ⟨g12, hf⟩ := gd_some hf
      refine g_iald C dX2_takeCauses_105 in_13 (fun _ => ec_13 _ _ _ _ _) g12 ?_
      refine g_ald_n C 0 rfl rfl dX2_takeCauses_106 ?_
      refine g_get C dX2_takeCauses_107 fl_X2_12 in_11 (ec_11 _ _ _ _ _) rfl ?_
      refine g_get C dX2_takeCauses_110 fl_X2_56 in_15 (ec_15 _ _ _ _ _) rfl ?_
      refine g_ild_n C 2 rfl rfl dX2_takeCauses_113 ?_
      obtain ⟨g13, hf⟩ := gd_some hf
      refine g_aaldI C dX2_takeCauses_114 in_16 (fun _ => ec_16 _ _ _ _ _) rfl g13 ?_
      refine g_get C dX2_takeCauses_115 fl_X2_74 (in_17 (inb_ix g13)) (ec_17 _ _ _ _ _) rfl ?_
      refine g_ild_n C 1 rfl rfl dX2_takeCauses_118 ?_
      obtain ⟨g14, hf⟩ := gd_some hf
      refine g_iald C dX2_takeCauses_119 (in_20 (inb_ix g13)) (fun _ => ec_20 _ _ _ _ _) g14 ?_
      refine g_iadd C dX2_takeCauses_120 ?_
      obtain ⟨g15, hf⟩ := gd_some hf
      refine g_iast C dX2_takeCauses_121 in_13 (fun _ => ec_13 _ _ _ _ _) (by decide) g15 ?_
      refine g_iinc (lo' := [(2, vi (x2 + 1)), (0, vr α 11 0), (1, vi x1)]) C 2 rfl (by decide) rfl dX2_takeCauses_122 ?_
      refine g_goto C 88 (by decide) dX2_takeCauses_125 ?_
      exact g_sub C [1, 2, 0] rfl (ih _ _ hf)
set_option maxHeartbeats 4000000 in
set_option maxRecDepth 100000 in
theorem c_X2_takeCauses_l15  (C : CX p s m args meth c cX2_takeCauses 3 RX2 none D Y LBx (Ar LBx α sz)) (hfr : 1 ≤ R.frames) (hlc : 23 ≤ R.locals)    : ∀ (n : Nat) (x1 : Int) (μ : Mem), f_X2_takeCauses_L15 n x1 μ = some (r, μ') → GG D Y LBx (Ar LBx α sz) p l e R s m args below meth c 3 (MQ below (Qcx D Y LBx α sz none (fun a => a = α) μ') args s 0 0 (Ar LBx α sz)) α 0 0 [(0, vr α 11 0), (1, vi x1)] [] μ 15 := by
  intro n
  induction n with
  | zero =>
    intro x1 μ hf
    exact nomatch (show (none : Option (Int × Mem)) = some _ from hf)
  | succ n ih =>
    intro x1 μ hf
    rw [f_X2_takeCauses_L15.eq_2] at hf
    refine g_ild_n C 1 rfl rfl dX2_takeCauses_15 ?_
    refine g_ald_n C 0 rfl rfl dX2_takeCauses_16 ?_
    refine g_get C dX2_takeCauses_17 fl_X2_12 in_11 (ec_11 _ _ _ _ _) rfl ?_
    refine g_get C dX2_takeCauses_20 fl_X2_65 in_15 (ec_15 _ _ _ _ _) rfl ?_
    refine g_ic_ge C 134 (by decide) dX2_takeCauses_23 (fun h4 => ?_) (fun h4 => ?_)
    · rw [if_pos h4] at hf
      exact g_vret C rfl dX2_takeCauses_134 hf
    · rw [if_neg h4] at hf
      refine g_ald_n C 0 rfl rfl dX2_takeCauses_26 ?_
      refine g_get C dX2_takeCauses_27 fl_X2_28 in_11 (ec_11 _ _ _ _ _) rfl ?_
      refine g_ild_n C 1 rfl rfl dX2_takeCauses_30 ?_
      refine g_ishr C dX2_takeCauses_31 ?_
      refine g_iconst C dX2_takeCauses_32 ?_
      refine g_iand C dX2_takeCauses_33 ?_
      obtain ⟨j128, ej6, hf⟩ := jn_some hf
      have hj128 : ∀ (μ5 : Mem), j128 μ5 = some (r, μ') → GG D Y LBx (Ar LBx α sz) p l e R s m args below meth c 3 (MQ below (Qcx D Y LBx α sz none (fun a => a = α) μ') args s 0 0 (Ar LBx α sz)) α 0 0 [(0, vr α 11 0), (1, vi x1)] [] μ5 128 := by
        intro μ5 hf
        rw [ej6] at hf
        try dsimp only at hf
        refine g_iinc (lo' := [(1, vi (x1 + 1)), (0, vr α 11 0)]) C 1 rfl (by decide) rfl dX2_takeCauses_128 ?_
        refine g_goto C 15 (by decide) dX2_takeCauses_131 ?_
        exact g_sub C [1, 0] rfl (ih _ _ hf)
      clear ej6
      refine g_if_ne C 68 (by decide) dX2_takeCauses_34 (fun h7 => ?_) (fun h7 => ?_)
      · rw [if_pos h7] at hf
        refine g_ald_n C 0 rfl rfl dX2_takeCauses_37 ?_
        refine g_dup C rfl dX2_takeCauses_38 ?_
        refine g_get C dX2_takeCauses_39 fl_X2_32 in_11 (ec_11 _ _ _ _ _) rfl ?_
        refine g_ald_n C 0 rfl rfl dX2_takeCauses_42 ?_
        refine g_get C dX2_takeCauses_43 fl_X2_12 in_11 (ec_11 _ _ _ _ _) rfl ?_
        refine g_get C dX2_takeCauses_46 fl_X2_68 in_15 (ec_15 _ _ _ _ _) rfl ?_
        refine g_ild_n C 1 rfl rfl dX2_takeCauses_49 ?_
        obtain ⟨g8, hf⟩ := gd_some hf
        refine g_iald C dX2_takeCauses_50 in_22 (fun _ => ec_22 _ _ _ _ _) g8 ?_
        refine g_ald_n C 0 rfl rfl dX2_takeCauses_51 ?_
        refine g_get C dX2_takeCauses_52 fl_X2_12 in_11 (ec_11 _ _ _ _ _) rfl ?_
        refine g_get C dX2_takeCauses_55 fl_X2_71 in_15 (ec_15 _ _ _ _ _) rfl ?_
        refine g_ild_n C 1 rfl rfl dX2_takeCauses_58 ?_
        obtain ⟨g9, hf⟩ := gd_some hf
        refine g_iald C dX2_takeCauses_59 in_21 (fun _ => ec_21 _ _ _ _ _) g9 ?_
        refine g_isub C dX2_takeCauses_60 ?_
        refine g_imul C dX2_takeCauses_61 ?_
        refine g_puti C dX2_takeCauses_62 fl_X2_32 in_11 (ec_11 _ _ _ _ _) (Nat.le_of_ble_eq_true rfl) rfl (by decide) ?_
        refine g_goto C 128 (by decide) dX2_takeCauses_65 ?_
        exact g_sub C [0, 1] rfl (hj128 _ hf)
      · rw [if_neg h7] at hf
        refine g_ald_n C 0 rfl rfl dX2_takeCauses_68 ?_
        refine g_dup C rfl dX2_takeCauses_69 ?_
        refine g_get C dX2_takeCauses_70 fl_X2_32 in_11 (ec_11 _ _ _ _ _) rfl ?_
        refine g_ald_n C 0 rfl rfl dX2_takeCauses_73 ?_
        refine g_get C dX2_takeCauses_74 fl_X2_12 in_11 (ec_11 _ _ _ _ _) rfl ?_
        refine g_get C dX2_takeCauses_77 fl_X2_71 in_15 (ec_15 _ _ _ _ _) rfl ?_
        refine g_ild_n C 1 rfl rfl dX2_takeCauses_80 ?_
        obtain ⟨g10, hf⟩ := gd_some hf
        refine g_iald C dX2_takeCauses_81 in_21 (fun _ => ec_21 _ _ _ _ _) g10 ?_
        refine g_imul C dX2_takeCauses_82 ?_
        refine g_puti C dX2_takeCauses_83 fl_X2_32 in_11 (ec_11 _ _ _ _ _) (Nat.le_of_ble_eq_true rfl) rfl (by decide) ?_
        refine g_iconst C dX2_takeCauses_86 ?_
        refine g_ist_n (lo' := [(2, vi 0), (0, vr α 11 0), (1, vi x1)]) C rfl (by decide) rfl dX2_takeCauses_87 ?_
        refine g_sub C [1, 2, 0] rfl (c_X2_takeCauses_l88 C hfr hlc  (fun μ16 hf => ?_) _ _ _ hf)
        exact g_sub C [0, 1] rfl (hj128 _ hf)
set_option maxHeartbeats 4000000 in
set_option maxRecDepth 100000 in
theorem b_X2_takeCauses  {μ : Mem} (C : CX p s m args meth c cX2_takeCauses 3 RX2 none D Y LBx (Ar LBx α sz)) (hfr : 1 ≤ R.frames) (hlc : 23 ≤ R.locals)  (hf : f_X2_takeCauses μ = some (r, μ')) : GG D Y LBx (Ar LBx α sz) p l e R s m args below meth c 3 (MQ below (Qcx D Y LBx α sz none (fun a => a = α) μ') args s 0 0 (Ar LBx α sz)) α 0 0 [(0, vr α 11 0)] [] μ 0 := by
  unfold f_X2_takeCauses at hf
  refine g_ald_n C 0 rfl rfl dX2_takeCauses_0 ?_
  refine g_iconst C dX2_takeCauses_1 ?_
  refine g_puti C dX2_takeCauses_2 fl_X2_32 in_11 (ec_11 _ _ _ _ _) (Nat.le_of_ble_eq_true rfl) rfl (by decide) ?_
  refine g_ald_n C 0 rfl rfl dX2_takeCauses_5 ?_
  refine g_get C dX2_takeCauses_6 fl_X2_22 in_11 (ec_11 _ _ _ _ _) rfl ?_
  refine g_iconst C dX2_takeCauses_9 ?_
  obtain ⟨r1, μ2, hc3, hf⟩ := bn_some hf
  refine g_callSp (As := [vr α 13 0, vi 0]) (rest := []) C ⟨Nat.zero_le _, Nat.zero_le _⟩ dX2_takeCauses_10 cw_J7_fill_53178 m_3_79 m_2_186 (c_J7_fill_53178 in_13 (fun _ _ _ _ => ec_13 _ _ _ _ _) (by decide) hc3) rfl rfl (Nat.le_of_ble_eq_true rfl) ⟨Nat.le_trans (Nat.le_of_ble_eq_true rfl) hfr, Nat.le_trans (Nat.le_of_ble_eq_true rfl) hlc⟩ ?_
  refine g_iconst C dX2_takeCauses_13 ?_
  refine g_ist_n (lo' := [(1, vi 0), (0, vr α 11 0)]) C rfl (by decide) rfl dX2_takeCauses_14 ?_
  refine g_sub C [1, 0] rfl (c_X2_takeCauses_l15 C hfr hlc   _ _ _ hf)
set_option maxHeartbeats 4000000 in
set_option maxRecDepth 100000 in
theorem c_X2_takeCauses {l : Launch} {D : va_G} {Y : Nat → ClassId} {α : Adr}  {μ : Mem} {r : Int} {μ' : Mem}  (hf : f_X2_takeCauses μ = some (r, μ')) : Ctr l D Y LBx yX2_takeCauses cX2_takeCauses 3 none 1 23 0 0 [vr α 11 0] α μ none (fun a => a = α) μ' := Ctr_of pn_X2 rfl rfl (Nat.le_of_ble_eq_true rfl) LBx_nd (fun p e s m below meth c sz C => b_X2_takeCauses C (Nat.le_refl _) (Nat.le_refl _)  hf)
end

/-! EndTeller$Stepper.goToFirst -/
def f_X2_goToFirst  (μ : Mem) : Option (Int × Mem) := bn (f_J7_fill_53178 12 0 10 0 μ) (fun r1 μ2 => bn (f_X2_takeCauses  (st μ2 11 0 4 0)) (fun r4 μ5 => some (0, μ5)))
section
variable {p : Program} {l : Launch} {e : Env} {R : Room} {s : State} {m : MethodId} {args : Array Value} {below : List Frame} {meth : Method} {c : Code} {D : va_G} {Y : Nat → ClassId} {α : Adr} {sz : Nat} {r : Int} {μ' : Mem}
set_option maxHeartbeats 4000000 in
set_option maxRecDepth 100000 in
theorem b_X2_goToFirst  {μ : Mem} (C : CX p s m args meth c cX2_goToFirst 1 RX2 none D Y LBx (Ar LBx α sz)) (hfr : 2 ≤ R.frames) (hlc : 45 ≤ R.locals)  (hf : f_X2_goToFirst μ = some (r, μ')) : GG D Y LBx (Ar LBx α sz) p l e R s m args below meth c 1 (MQ below (Qcx D Y LBx α sz none (fun a => a = α) μ') args s 0 0 (Ar LBx α sz)) α 0 0 [(0, vr α 11 0)] [] μ 0 := by
  unfold f_X2_goToFirst at hf
  refine g_ald_n C 0 rfl rfl dX2_goToFirst_0 ?_
  refine g_get C dX2_goToFirst_1 fl_X2_18 in_11 (ec_11 _ _ _ _ _) rfl ?_
  refine g_iconst C dX2_goToFirst_4 ?_
  obtain ⟨r1, μ2, hc3, hf⟩ := bn_some hf
  refine g_callSp (As := [vr α 12 0, vi 0]) (rest := []) C ⟨Nat.zero_le _, Nat.zero_le _⟩ dX2_goToFirst_5 cw_J7_fill_53178 m_3_79 m_2_186 (c_J7_fill_53178 in_12 (fun _ _ _ _ => ec_12 _ _ _ _ _) (by decide) hc3) rfl rfl (Nat.le_of_ble_eq_true rfl) ⟨Nat.le_trans (Nat.le_of_ble_eq_true rfl) hfr, Nat.le_trans (Nat.le_of_ble_eq_true rfl) hlc⟩ ?_
  refine g_ald_n C 0 rfl rfl dX2_goToFirst_8 ?_
  refine g_iconst C dX2_goToFirst_9 ?_
  refine g_puti C dX2_goToFirst_10 fl_X2_28 in_11 (ec_11 _ _ _ _ _) (Nat.le_of_ble_eq_true rfl) rfl (by decide) ?_
  refine g_ald_n C 0 rfl rfl dX2_goToFirst_13 ?_
  obtain ⟨r4, μ5, hc6, hf⟩ := bn_some hf
  refine g_callVp (As := []) (rest := []) C ⟨Nat.zero_le _, Nat.zero_le _⟩ dX2_goToFirst_14 cw_X2_takeCauses m_3_80 m_3_81 m_3_82 in_11 (ec_11 _ _ _ _ _) rfl rfl (c_X2_takeCauses  hc6) rfl rfl (Nat.le_of_ble_eq_true rfl) ⟨Nat.le_trans (Nat.le_of_ble_eq_true rfl) hfr, Nat.le_trans (Nat.le_of_ble_eq_true rfl) hlc⟩ ?_
  exact g_vret C rfl dX2_goToFirst_17 hf
set_option maxHeartbeats 4000000 in
set_option maxRecDepth 100000 in
theorem c_X2_goToFirst {l : Launch} {D : va_G} {Y : Nat → ClassId} {α : Adr}  {μ : Mem} {r : Int} {μ' : Mem}  (hf : f_X2_goToFirst μ = some (r, μ')) : Ctr l D Y LBx yX2_goToFirst cX2_goToFirst 1 none 2 45 0 0 [vr α 11 0] α μ none (fun a => a = α) μ' := Ctr_of pn_X2 rfl rfl (Nat.le_of_ble_eq_true rfl) LBx_nd (fun p e s m below meth c sz C => b_X2_goToFirst C (Nat.le_refl _) (Nat.le_refl _)  hf)
end

/-! EndTeller$Stepper.goToNext -/
def f_X2_goToNext_L2  : Nat → Int → Mem → Option (Int × Mem)
  | 0, _, _ => none
  | n + 1, x1, μ => (if w32 (μ 15 0 3) ≤ w32 x1 then bn (f_X2_takeCauses  (st μ 11 0 4 ((μ 11 0 4) + 1))) (fun r2 μ3 => some (0, μ3)) else gd (inb x1 10) (gd (inb x1 10) (gd (inb x1 10) (gd (inb x1 10) ((if w32 ((st μ 12 0 (ix x1) ((μ 12 0 (ix x1)) + 1)) 17 (ix x1) 3) ≤ w32 ((st μ 12 0 (ix x1) ((μ 12 0 (ix x1)) + 1)) 12 0 (ix x1)) then gd (inb x1 10) (f_X2_goToNext_L2 n (x1 + 1) (st (st μ 12 0 (ix x1) ((μ 12 0 (ix x1)) + 1)) 12 0 (ix x1) 0)) else some (0, (st μ 12 0 (ix x1) ((μ 12 0 (ix x1)) + 1)))))))))
def f_X2_goToNext  (μ : Mem) : Option (Int × Mem) := f_X2_goToNext_L2 FU 0 μ
section
variable {p : Program} {l : Launch} {e : Env} {R : Room} {s : State} {m : MethodId} {args : Array Value} {below : List Frame} {meth : Method} {c : Code} {D : va_G} {Y : Nat → ClassId} {α : Adr} {sz : Nat} {r : Int} {μ' : Mem}
set_option maxHeartbeats 4000000 in
set_option maxRecDepth 100000 in
theorem c_X2_goToNext_l2  (C : CX p s m args meth c cX2_goToNext 2 RX2 none D Y LBx (Ar LBx α sz)) (hfr : 2 ≤ R.frames) (hlc : 45 ≤ R.locals)    : ∀ (n : Nat) (x1 : Int) (μ : Mem), f_X2_goToNext_L2 n x1 μ = some (r, μ') → GG D Y LBx (Ar LBx α sz) p l e R s m args below meth c 2 (MQ below (Qcx D Y LBx α sz none (fun a => a = α) μ') args s 0 0 (Ar LBx α sz)) α 0 0 [(0, vr α 11 0), (1, vi x1)] [] μ 2 := by
  intro n
  induction n with
  | zero =>
    intro x1 μ hf
    exact nomatch (show (none : Option (Int × Mem)) = some _ from hf)
  | succ n ih =>
    intro x1 μ hf
    rw [f_X2_goToNext_L2.eq_2] at hf
    refine g_ild_n C 1 rfl rfl dX2_goToNext_2 ?_
    refine g_ald_n C 0 rfl rfl dX2_goToNext_3 ?_
    refine g_get C dX2_goToNext_4 fl_X2_12 in_11 (ec_11 _ _ _ _ _) rfl ?_
    refine g_get C dX2_goToNext_7 fl_X2_53 in_15 (ec_15 _ _ _ _ _) rfl ?_
    refine g_ic_ge C 58 (by decide) dX2_goToNext_10 (fun h1 => ?_) (fun h1 => ?_)
    · rw [if_pos h1] at hf
      refine g_ald_n C 0 rfl rfl dX2_goToNext_58 ?_
      refine g_dup C rfl dX2_goToNext_59 ?_
      refine g_get C dX2_goToNext_60 fl_X2_28 in_11 (ec_11 _ _ _ _ _) rfl ?_
      refine g_iconst C dX2_goToNext_63 ?_
      refine g_iadd C dX2_goToNext_64 ?_
      refine g_puti C dX2_goToNext_65 fl_X2_28 in_11 (ec_11 _ _ _ _ _) (Nat.le_of_ble_eq_true rfl) rfl (by decide) ?_
      refine g_ald_n C 0 rfl rfl dX2_goToNext_68 ?_
      obtain ⟨r2, μ3, hc4, hf⟩ := bn_some hf
      refine g_callVp (As := []) (rest := []) C ⟨Nat.zero_le _, Nat.zero_le _⟩ dX2_goToNext_69 cw_X2_takeCauses m_3_80 m_3_81 m_3_82 in_11 (ec_11 _ _ _ _ _) rfl rfl (c_X2_takeCauses  hc4) rfl rfl (Nat.le_of_ble_eq_true rfl) ⟨Nat.le_trans (Nat.le_of_ble_eq_true rfl) hfr, Nat.le_trans (Nat.le_of_ble_eq_true rfl) hlc⟩ ?_
      exact g_vret C rfl dX2_goToNext_72 hf
    · rw [if_neg h1] at hf
      refine g_ald_n C 0 rfl rfl dX2_goToNext_13 ?_
      refine g_get C dX2_goToNext_14 fl_X2_18 in_11 (ec_11 _ _ _ _ _) rfl ?_
      refine g_ild_n C 1 rfl rfl dX2_goToNext_17 ?_
      refine g_dup2 C rfl rfl dX2_goToNext_18 ?_
      obtain ⟨g5, hf⟩ := gd_some hf
      refine g_iald C dX2_goToNext_19 in_12 (fun _ => ec_12 _ _ _ _ _) g5 ?_
      refine g_iconst C dX2_goToNext_20 ?_
      refine g_iadd C dX2_goToNext_21 ?_
      obtain ⟨g6, hf⟩ := gd_some hf
      refine g_iast C dX2_goToNext_22 in_12 (fun _ => ec_12 _ _ _ _ _) (by decide) g6 ?_
      refine g_ald_n C 0 rfl rfl dX2_goToNext_23 ?_
      refine g_get C dX2_goToNext_24 fl_X2_18 in_11 (ec_11 _ _ _ _ _) rfl ?_
      refine g_ild_n C 1 rfl rfl dX2_goToNext_27 ?_
      obtain ⟨g7, hf⟩ := gd_some hf
      refine g_iald C dX2_goToNext_28 in_12 (fun _ => ec_12 _ _ _ _ _) g7 ?_
      refine g_ald_n C 0 rfl rfl dX2_goToNext_29 ?_
      refine g_get C dX2_goToNext_30 fl_X2_12 in_11 (ec_11 _ _ _ _ _) rfl ?_
      refine g_get C dX2_goToNext_33 fl_X2_56 in_15 (ec_15 _ _ _ _ _) rfl ?_
      refine g_ild_n C 1 rfl rfl dX2_goToNext_36 ?_
      obtain ⟨g8, hf⟩ := gd_some hf
      refine g_aaldI C dX2_goToNext_37 in_16 (fun _ => ec_16 _ _ _ _ _) rfl g8 ?_
      refine g_get C dX2_goToNext_38 fl_X2_60 (in_17 (inb_ix g8)) (ec_17 _ _ _ _ _) rfl ?_
      refine g_ic_ge C 45 (by decide) dX2_goToNext_41 (fun h9 => ?_) (fun h9 => ?_)
      · rw [if_pos h9] at hf
        refine g_ald_n C 0 rfl rfl dX2_goToNext_45 ?_
        refine g_get C dX2_goToNext_46 fl_X2_18 in_11 (ec_11 _ _ _ _ _) rfl ?_
        refine g_ild_n C 1 rfl rfl dX2_goToNext_49 ?_
        refine g_iconst C dX2_goToNext_50 ?_
        obtain ⟨g10, hf⟩ := gd_some hf
        refine g_iast C dX2_goToNext_51 in_12 (fun _ => ec_12 _ _ _ _ _) (by decide) g10 ?_
        refine g_iinc (lo' := [(1, vi (x1 + 1)), (0, vr α 11 0)]) C 1 rfl (by decide) rfl dX2_goToNext_52 ?_
        refine g_goto C 2 (by decide) dX2_goToNext_55 ?_
        exact g_sub C [1, 0] rfl (ih _ _ hf)
      · rw [if_neg h9] at hf
        exact g_vret C rfl dX2_goToNext_44 hf
set_option maxHeartbeats 4000000 in
set_option maxRecDepth 100000 in
theorem b_X2_goToNext  {μ : Mem} (C : CX p s m args meth c cX2_goToNext 2 RX2 none D Y LBx (Ar LBx α sz)) (hfr : 2 ≤ R.frames) (hlc : 45 ≤ R.locals)  (hf : f_X2_goToNext μ = some (r, μ')) : GG D Y LBx (Ar LBx α sz) p l e R s m args below meth c 2 (MQ below (Qcx D Y LBx α sz none (fun a => a = α) μ') args s 0 0 (Ar LBx α sz)) α 0 0 [(0, vr α 11 0)] [] μ 0 := by
  unfold f_X2_goToNext at hf
  refine g_iconst C dX2_goToNext_0 ?_
  refine g_ist_n (lo' := [(1, vi 0), (0, vr α 11 0)]) C rfl (by decide) rfl dX2_goToNext_1 ?_
  refine g_sub C [1, 0] rfl (c_X2_goToNext_l2 C hfr hlc   _ _ _ hf)
set_option maxHeartbeats 4000000 in
set_option maxRecDepth 100000 in
theorem c_X2_goToNext {l : Launch} {D : va_G} {Y : Nat → ClassId} {α : Adr}  {μ : Mem} {r : Int} {μ' : Mem}  (hf : f_X2_goToNext μ = some (r, μ')) : Ctr l D Y LBx yX2_goToNext cX2_goToNext 2 none 2 45 0 0 [vr α 11 0] α μ none (fun a => a = α) μ' := Ctr_of pn_X2 rfl rfl (Nat.le_of_ble_eq_true rfl) LBx_nd (fun p e s m below meth c sz C => b_X2_goToNext C (Nat.le_refl _) (Nat.le_refl _)  hf)
end

/-! EndTeller$Stepper.product -/
def f_X2_product_L7  : Nat → Int → Int → Mem → Option (Int × Mem)
  | 0, _, _, _ => none
  | n + 1, x1, x2, μ => (if w32 (μ 15 0 3) ≤ w32 x2 then some (x1, μ) else gd (inb x2 10) (gd (inb x2 10) (gd (inb (μ 12 0 (ix x2)) 8) (f_X2_product_L7 n (x1 * (μ 19 (ix x2) (ix (μ 12 0 (ix x2))))) (x2 + 1) μ))))
def f_X2_product  (μ : Mem) : Option (Int × Mem) := f_X2_product_L7 FU (μ 11 0 5) 0 μ
section
variable {p : Program} {l : Launch} {e : Env} {R : Room} {s : State} {m : MethodId} {args : Array Value} {below : List Frame} {meth : Method} {c : Code} {D : va_G} {Y : Nat → ClassId} {α : Adr} {sz : Nat} {r : Int} {μ' : Mem}
set_option maxHeartbeats 4000000 in
set_option maxRecDepth 100000 in
theorem c_X2_product_l7  (C : CX p s m args meth c cX2_product 3 RX2 (some .int) D Y LBx (Ar LBx α sz)) (hfr : 0 ≤ R.frames) (hlc : 0 ≤ R.locals)    : ∀ (n : Nat) (x1 x2 : Int) (μ : Mem), f_X2_product_L7 n x1 x2 μ = some (r, μ') → GG D Y LBx (Ar LBx α sz) p l e R s m args below meth c 3 (MQ below (Qcx D Y LBx α sz (some (vi r)) (fun a => a = α) μ') args s 0 0 (Ar LBx α sz)) α 0 0 [(0, vr α 11 0), (1, vi x1), (2, vi x2)] [] μ 7 := by
  intro n
  induction n with
  | zero =>
    intro x1 x2 μ hf
    exact nomatch (show (none : Option (Int × Mem)) = some _ from hf)
  | succ n ih =>
    intro x1 x2 μ hf
    rw [f_X2_product_L7.eq_2] at hf
    refine g_ild_n C 2 rfl rfl dX2_product_7 ?_
    refine g_ald_n C 0 rfl rfl dX2_product_8 ?_
    refine g_get C dX2_product_9 fl_X2_12 in_11 (ec_11 _ _ _ _ _) rfl ?_
    refine g_get C dX2_product_12 fl_X2_53 in_15 (ec_15 _ _ _ _ _) rfl ?_
    refine g_ic_ge C 46 (by decide) dX2_product_15 (fun h1 => ?_) (fun h1 => ?_)
    · rw [if_pos h1] at hf
      refine g_ild_n C 1 rfl rfl dX2_product_46 ?_
      exact g_iret C rfl dX2_product_47 hf
    · rw [if_neg h1] at hf
      refine g_ild_n C 1 rfl rfl dX2_product_18 ?_
      refine g_ald_n C 0 rfl rfl dX2_product_19 ?_
      refine g_get C dX2_product_20 fl_X2_12 in_11 (ec_11 _ _ _ _ _) rfl ?_
      refine g_get C dX2_product_23 fl_X2_56 in_15 (ec_15 _ _ _ _ _) rfl ?_
      refine g_ild_n C 2 rfl rfl dX2_product_26 ?_
      obtain ⟨g2, hf⟩ := gd_some hf
      refine g_aaldI C dX2_product_27 in_16 (fun _ => ec_16 _ _ _ _ _) rfl g2 ?_
      refine g_get C dX2_product_28 fl_X2_77 (in_17 (inb_ix g2)) (ec_17 _ _ _ _ _) rfl ?_
      refine g_ald_n C 0 rfl rfl dX2_product_31 ?_
      refine g_get C dX2_product_32 fl_X2_18 in_11 (ec_11 _ _ _ _ _) rfl ?_
      refine g_ild_n C 2 rfl rfl dX2_product_35 ?_
      obtain ⟨g3, hf⟩ := gd_some hf
      refine g_iald C dX2_product_36 in_12 (fun _ => ec_12 _ _ _ _ _) g3 ?_
      obtain ⟨g4, hf⟩ := gd_some hf
      refine g_iald C dX2_product_37 (in_19 (inb_ix g2)) (fun _ => ec_19 _ _ _ _ _) g4 ?_
      refine g_imul C dX2_product_38 ?_
      refine g_ist_n (lo' := [(1, vi (x1 * (μ 19 (ix x2) (ix (μ 12 0 (ix x2)))))), (0, vr α 11 0), (2, vi x2)]) C rfl (by decide) rfl dX2_product_39 ?_
      refine g_iinc (lo' := [(2, vi (x2 + 1)), (1, vi (x1 * (μ 19 (ix x2) (ix (μ 12 0 (ix x2)))))), (0, vr α 11 0)]) C 2 rfl (by decide) rfl dX2_product_40 ?_
      refine g_goto C 7 (by decide) dX2_product_43 ?_
      exact g_sub C [2, 1, 0] rfl (ih _ _ _ hf)
set_option maxHeartbeats 4000000 in
set_option maxRecDepth 100000 in
theorem b_X2_product  {μ : Mem} (C : CX p s m args meth c cX2_product 3 RX2 (some .int) D Y LBx (Ar LBx α sz)) (hfr : 0 ≤ R.frames) (hlc : 0 ≤ R.locals)  (hf : f_X2_product μ = some (r, μ')) : GG D Y LBx (Ar LBx α sz) p l e R s m args below meth c 3 (MQ below (Qcx D Y LBx α sz (some (vi r)) (fun a => a = α) μ') args s 0 0 (Ar LBx α sz)) α 0 0 [(0, vr α 11 0)] [] μ 0 := by
  unfold f_X2_product at hf
  refine g_ald_n C 0 rfl rfl dX2_product_0 ?_
  refine g_get C dX2_product_1 fl_X2_32 in_11 (ec_11 _ _ _ _ _) rfl ?_
  refine g_ist_n (lo' := [(1, vi (μ 11 0 5)), (0, vr α 11 0)]) C rfl (by decide) rfl dX2_product_4 ?_
  refine g_iconst C dX2_product_5 ?_
  refine g_ist_n (lo' := [(2, vi 0), (1, vi (μ 11 0 5)), (0, vr α 11 0)]) C rfl (by decide) rfl dX2_product_6 ?_
  refine g_sub C [2, 1, 0] rfl (c_X2_product_l7 C hfr hlc   _ _ _ _ hf)
set_option maxHeartbeats 4000000 in
set_option maxRecDepth 100000 in
theorem c_X2_product {l : Launch} {D : va_G} {Y : Nat → ClassId} {α : Adr}  {μ : Mem} {r : Int} {μ' : Mem}  (hf : f_X2_product μ = some (r, μ')) : Ctr l D Y LBx yX2_product cX2_product 3 (some .int) 0 0 0 0 [vr α 11 0] α μ (some (vi r)) (fun a => a = α) μ' := Ctr_of pn_X2 rfl rfl (Nat.le_of_ble_eq_true rfl) LBx_nd (fun p e s m below meth c sz C => b_X2_product C (Nat.le_refl _) (Nat.le_refl _)  hf)
end

/-! EndTeller$Stepper.beginOn -/
def f_X2_beginOn_L2 (x1 : Int) (x2 : Int) : Nat → Int → Mem → Option (Int × Mem)
  | 0, _, _ => none
  | n + 1, x3, μ => (if w32 (μ 15 0 3) ≤ w32 x3 then some (0, μ) else gd (inb x3 10) (jn (fun μ3 => f_X2_beginOn_L2 x1 x2 n (x3 + 1) μ3) (fun j152 => (if w32 (ian (μ 11 0 6) (ishl 1 x3)) = 0 then (if w32 (ian (μ 17 (ix x3) 6) (ixo (μ 11 0 7) (-1))) = 0 then (if w32 (μ 11 0 8) < w32 (μ 17 (ix x3) 5) then j152  μ else gd (inb x3 10) (gd (inb (μ 12 0 (ix x3)) 8) (gd (inb x3 10) (jn (fun y11 => gd (inb x3 10) ((if w32 (((μ 18 (ix x3) (ix (μ 12 0 (ix x3)))) + (μ 13 0 (ix x3))) + y11) = 0 then j152  (st (st (st μ 11 0 6 (ior (μ 11 0 6) (ishl 1 x3))) 14 0 (ix x3) (x1 + (((μ 18 (ix x3) (ix (μ 12 0 (ix x3)))) + (μ 13 0 (ix x3))) + y11))) 11 0 7 (ior ((st (st μ 11 0 6 (ior (μ 11 0 6) (ishl 1 x3))) 14 0 (ix x3) (x1 + (((μ 18 (ix x3) (ix (μ 12 0 (ix x3)))) + (μ 13 0 (ix x3))) + y11))) 11 0 7) (ishl 1 x3))) else j152  (st (st (st μ 11 0 6 (ior (μ 11 0 6) (ishl 1 x3))) 14 0 (ix x3) (x1 + (((μ 18 (ix x3) (ix (μ 12 0 (ix x3)))) + (μ 13 0 (ix x3))) + y11))) 11 0 8 (((st (st μ 11 0 6 (ior (μ 11 0 6) (ishl 1 x3))) 14 0 (ix x3) (x1 + (((μ 18 (ix x3) (ix (μ 12 0 (ix x3)))) + (μ 13 0 (ix x3))) + y11))) 11 0 8) - ((st (st μ 11 0 6 (ior (μ 11 0 6) (ishl 1 x3))) 14 0 (ix x3) (x1 + (((μ 18 (ix x3) (ix (μ 12 0 (ix x3)))) + (μ 13 0 (ix x3))) + y11))) 17 (ix x3) 5)))))) (fun j95 => (if w32 x3 = w32 x2 then j95 1 else j95 0)))))) else j152  μ) else j152  μ))))
def f_X2_beginOn (a1 : Int) (a2 : Int) (μ : Mem) : Option (Int × Mem) := f_X2_beginOn_L2 a1 a2 FU 0 μ
section
variable {p : Program} {l : Launch} {e : Env} {R : Room} {s : State} {m : MethodId} {args : Array Value} {below : List Frame} {meth : Method} {c : Code} {D : va_G} {Y : Nat → ClassId} {α : Adr} {sz : Nat} {r : Int} {μ' : Mem}
set_option maxHeartbeats 4000000 in
set_option maxRecDepth 100000 in
theorem c_X2_beginOn_l2 {x1 : Int} {x2 : Int} (C : CX p s m args meth c cX2_beginOn 7 RX2 none D Y LBx (Ar LBx α sz)) (hfr : 0 ≤ R.frames) (hlc : 0 ≤ R.locals)    : ∀ (n : Nat) (x3 : Int) (μ : Mem), f_X2_beginOn_L2 x1 x2 n x3 μ = some (r, μ') → GG D Y LBx (Ar LBx α sz) p l e R s m args below meth c 7 (MQ below (Qcx D Y LBx α sz none (fun a => a = α) μ') args s 0 0 (Ar LBx α sz)) α 0 0 [(0, vr α 11 0), (1, vi x1), (2, vi x2), (3, vi x3)] [] μ 2 := by
  intro n
  induction n with
  | zero =>
    intro x3 μ hf
    exact nomatch (show (none : Option (Int × Mem)) = some _ from hf)
  | succ n ih =>
    intro x3 μ hf
    rw [f_X2_beginOn_L2.eq_2] at hf
    refine g_ild_n C 3 rfl rfl dX2_beginOn_2 ?_
    refine g_ald_n C 0 rfl rfl dX2_beginOn_3 ?_
    refine g_get C dX2_beginOn_4 fl_X2_12 in_11 (ec_11 _ _ _ _ _) rfl ?_
    refine g_get C dX2_beginOn_7 fl_X2_53 in_15 (ec_15 _ _ _ _ _) rfl ?_
    refine g_ic_ge C 158 (by decide) dX2_beginOn_10 (fun h1 => ?_) (fun h1 => ?_)
    · rw [if_pos h1] at hf
      exact g_vret C rfl dX2_beginOn_158 hf
    · rw [if_neg h1] at hf
      refine g_ald_n C 0 rfl rfl dX2_beginOn_13 ?_
      refine g_get C dX2_beginOn_14 fl_X2_12 in_11 (ec_11 _ _ _ _ _) rfl ?_
      refine g_get C dX2_beginOn_17 fl_X2_56 in_15 (ec_15 _ _ _ _ _) rfl ?_
      refine g_ild_n C 3 rfl rfl dX2_beginOn_20 ?_
      obtain ⟨g2, hf⟩ := gd_some hf
      refine g_aaldI C dX2_beginOn_21 in_16 (fun _ => ec_16 _ _ _ _ _) rfl g2 ?_
      refine g_ast (lo' := [(4, vr α 17 (ix x3)), (0, vr α 11 0), (1, vi x1), (2, vi x2), (3, vi x3)]) C (by decide) rfl dX2_beginOn_22 ?_
      refine g_iconst C dX2_beginOn_24 ?_
      refine g_ild_n C 4 rfl rfl dX2_beginOn_25 ?_
      refine g_ishl C dX2_beginOn_26 ?_
      refine g_ist (lo' := [(5, vi (ishl 1 x3)), (4, vr α 17 (ix x3)), (0, vr α 11 0), (1, vi x1), (2, vi x2), (3, vi x3)]) C (by decide) rfl dX2_beginOn_27 ?_
      refine g_ald_n C 2 rfl rfl dX2_beginOn_29 ?_
      refine g_get C dX2_beginOn_30 fl_X2_35 in_11 (ec_11 _ _ _ _ _) rfl ?_
      refine g_ild C 0 rfl dX2_beginOn_33 ?_
      refine g_iand C dX2_beginOn_35 ?_
      obtain ⟨j152, ej4, hf⟩ := jn_some hf
      have hj152 : ∀ (μ3 : Mem), j152 μ3 = some (r, μ') → GG D Y LBx (Ar LBx α sz) p l e R s m args below meth c 7 (MQ below (Qcx D Y LBx α sz none (fun a => a = α) μ') args s 0 0 (Ar LBx α sz)) α 0 0 [(0, vr α 11 0), (1, vi x1), (2, vi x2), (3, vi x3)] [] μ3 152 := by
        intro μ3 hf
        rw [ej4] at hf
        try dsimp only at hf
        refine g_iinc (lo' := [(3, vi (x3 + 1)), (0, vr α 11 0), (1, vi x1), (2, vi x2)]) C 3 rfl (by decide) rfl dX2_beginOn_152 ?_
        refine g_goto C 2 (by decide) dX2_beginOn_155 ?_
        exact g_sub C [1, 2, 3, 0] rfl (ih _ _ hf)
      clear ej4
      refine g_if_ne C 152 (by decide) dX2_beginOn_36 (fun h5 => ?_) (fun h5 => ?_)
      · rw [if_pos h5] at hf
        refine g_ald C 1 rfl dX2_beginOn_39 ?_
        refine g_get C dX2_beginOn_41 fl_X2_91 (in_17 (inb_ix g2)) (ec_17 _ _ _ _ _) rfl ?_
        refine g_ald_n C 2 rfl rfl dX2_beginOn_44 ?_
        refine g_get C dX2_beginOn_45 fl_X2_38 in_11 (ec_11 _ _ _ _ _) rfl ?_
        refine g_iconst C dX2_beginOn_48 ?_
        refine g_ixor C dX2_beginOn_49 ?_
        refine g_iand C dX2_beginOn_50 ?_
        refine g_if_ne C 152 (by decide) dX2_beginOn_51 (fun h6 => ?_) (fun h6 => ?_)
        · rw [if_pos h6] at hf
          refine g_ald C 1 rfl dX2_beginOn_54 ?_
          refine g_get C dX2_beginOn_56 fl_X2_94 (in_17 (inb_ix g2)) (ec_17 _ _ _ _ _) rfl ?_
          refine g_ald_n C 2 rfl rfl dX2_beginOn_59 ?_
          refine g_get C dX2_beginOn_60 fl_X2_41 in_11 (ec_11 _ _ _ _ _) rfl ?_
          refine g_ic_gt C 152 (by decide) dX2_beginOn_63 (fun h7 => ?_) (fun h7 => ?_)
          · rw [if_pos h7] at hf
            exact g_sub C [2, 3, 4, 5] rfl (hj152 _ hf)
          · rw [if_neg h7] at hf
            refine g_ald C 1 rfl dX2_beginOn_66 ?_
            refine g_get C dX2_beginOn_68 fl_X2_97 (in_17 (inb_ix g2)) (ec_17 _ _ _ _ _) rfl ?_
            refine g_ald_n C 2 rfl rfl dX2_beginOn_71 ?_
            refine g_get C dX2_beginOn_72 fl_X2_18 in_11 (ec_11 _ _ _ _ _) rfl ?_
            refine g_ild_n C 5 rfl rfl dX2_beginOn_75 ?_
            obtain ⟨g8, hf⟩ := gd_some hf
            refine g_iald C dX2_beginOn_76 in_12 (fun _ => ec_12 _ _ _ _ _) g8 ?_
            obtain ⟨g9, hf⟩ := gd_some hf
            refine g_iald C dX2_beginOn_77 (in_18 (inb_ix g2)) (fun _ => ec_18 _ _ _ _ _) g9 ?_
            refine g_ald_n C 2 rfl rfl dX2_beginOn_78 ?_
            refine g_get C dX2_beginOn_79 fl_X2_22 in_11 (ec_11 _ _ _ _ _) rfl ?_
            refine g_ild_n C 5 rfl rfl dX2_beginOn_82 ?_
            obtain ⟨g10, hf⟩ := gd_some hf
            refine g_iald C dX2_beginOn_83 in_13 (fun _ => ec_13 _ _ _ _ _) g10 ?_
            refine g_iadd C dX2_beginOn_84 ?_
            refine g_ild_n C 5 rfl rfl dX2_beginOn_85 ?_
            refine g_ild_n C 4 rfl rfl dX2_beginOn_86 ?_
            obtain ⟨j95, ej14, hf⟩ := jn_some hf
            have hj95 : ∀ (y11 : Int), j95 y11 = some (r, μ') → GG D Y LBx (Ar LBx α sz) p l e R s m args below meth c 7 (MQ below (Qcx D Y LBx α sz none (fun a => a = α) μ') args s 0 0 (Ar LBx α sz)) α 0 0 [(0, vr α 11 0), (1, vi x1), (2, vi x2), (3, vi x3), (4, vr α 17 (ix x3)), (5, vi (ishl 1 x3))] [vi y11, vi ((μ 18 (ix x3) (ix (μ 12 0 (ix x3)))) + (μ 13 0 (ix x3)))] μ 95 := by
              intro y11 hf
              rw [ej14] at hf
              try dsimp only at hf
              refine g_iadd C dX2_beginOn_95 ?_
              refine g_ist (lo' := [(6, vi (((μ 18 (ix x3) (ix (μ 12 0 (ix x3)))) + (μ 13 0 (ix x3))) + y11)), (0, vr α 11 0), (1, vi x1), (2, vi x2), (3, vi x3), (4, vr α 17 (ix x3)), (5, vi (ishl 1 x3))]) C (by decide) rfl dX2_beginOn_96 ?_
              refine g_ald_n C 1 rfl rfl dX2_beginOn_98 ?_
              refine g_dup C rfl dX2_beginOn_99 ?_
              refine g_get C dX2_beginOn_100 fl_X2_35 in_11 (ec_11 _ _ _ _ _) rfl ?_
              refine g_ild C 6 rfl dX2_beginOn_103 ?_
              refine g_ior C dX2_beginOn_105 ?_
              refine g_puti C dX2_beginOn_106 fl_X2_35 in_11 (ec_11 _ _ _ _ _) (Nat.le_of_ble_eq_true rfl) rfl (by decide) ?_
              refine g_ald_n C 1 rfl rfl dX2_beginOn_109 ?_
              refine g_get C dX2_beginOn_110 fl_X2_25 in_11 (ec_11 _ _ _ _ _) rfl ?_
              refine g_ild_n C 4 rfl rfl dX2_beginOn_113 ?_
              refine g_ild_n C 2 rfl rfl dX2_beginOn_114 ?_
              refine g_ild C 0 rfl dX2_beginOn_115 ?_
              refine g_iadd C dX2_beginOn_117 ?_
              obtain ⟨g12, hf⟩ := gd_some hf
              refine g_iast C dX2_beginOn_118 in_14 (fun _ => ec_14 _ _ _ _ _) (by decide) g12 ?_
              refine g_ild C 0 rfl dX2_beginOn_119 ?_
              refine g_if_ne C 138 (by decide) dX2_beginOn_121 (fun h13 => ?_) (fun h13 => ?_)
              · rw [if_pos h13] at hf
                refine g_ald_n C 1 rfl rfl dX2_beginOn_124 ?_
                refine g_dup C rfl dX2_beginOn_125 ?_
                refine g_get C dX2_beginOn_126 fl_X2_38 in_11 (ec_11 _ _ _ _ _) rfl ?_
                refine g_ild C 6 rfl dX2_beginOn_129 ?_
                refine g_ior C dX2_beginOn_131 ?_
                refine g_puti C dX2_beginOn_132 fl_X2_38 in_11 (ec_11 _ _ _ _ _) (Nat.le_of_ble_eq_true rfl) rfl (by decide) ?_
                refine g_goto C 152 (by decide) dX2_beginOn_135 ?_
                exact g_sub C [1, 2, 3, 4] rfl (hj152 _ hf)
              · rw [if_neg h13] at hf
                refine g_ald_n C 1 rfl rfl dX2_beginOn_138 ?_
                refine g_dup C rfl dX2_beginOn_139 ?_
                refine g_get C dX2_beginOn_140 fl_X2_41 in_11 (ec_11 _ _ _ _ _) rfl ?_
                refine g_ald C 5 rfl dX2_beginOn_143 ?_
                refine g_get C dX2_beginOn_145 fl_X2_94 (in_17 (inb_ix g2)) (ec_17 _ _ _ _ _) rfl ?_
                refine g_isub C dX2_beginOn_148 ?_
                refine g_puti C dX2_beginOn_149 fl_X2_41 in_11 (ec_11 _ _ _ _ _) (Nat.le_of_ble_eq_true rfl) rfl (by decide) ?_
                exact g_sub C [1, 2, 3, 4] rfl (hj152 _ hf)
            clear ej14
            refine g_ic_ne C 94 (by decide) dX2_beginOn_87 (fun h15 => ?_) (fun h15 => ?_)
            · rw [if_pos h15] at hf
              refine g_iconst C dX2_beginOn_90 ?_
              refine g_goto C 95 (by decide) dX2_beginOn_91 ?_
              exact g_sub C [2, 3, 4, 5, 1, 0] rfl (hj95 _ hf)
            · rw [if_neg h15] at hf
              refine g_iconst C dX2_beginOn_94 ?_
              exact g_sub C [2, 3, 4, 5, 1, 0] rfl (hj95 _ hf)
        · rw [if_neg h6] at hf
          exact g_sub C [2, 3, 4, 5] rfl (hj152 _ hf)
      · rw [if_neg h5] at hf
        exact g_sub C [2, 3, 4, 5] rfl (hj152 _ hf)
set_option maxHeartbeats 4000000 in
set_option maxRecDepth 100000 in
theorem b_X2_beginOn {a1 : Int} {a2 : Int} {μ : Mem} (C : CX p s m args meth c cX2_beginOn 7 RX2 none D Y LBx (Ar LBx α sz)) (hfr : 0 ≤ R.frames) (hlc : 0 ≤ R.locals)  (hf : f_X2_beginOn a1 a2 μ = some (r, μ')) : GG D Y LBx (Ar LBx α sz) p l e R s m args below meth c 7 (MQ below (Qcx D Y LBx α sz none (fun a => a = α) μ') args s 0 0 (Ar LBx α sz)) α 0 0 [(0, vr α 11 0), (1, vi a1), (2, vi a2)] [] μ 0 := by
  unfold f_X2_beginOn at hf
  refine g_iconst C dX2_beginOn_0 ?_
  refine g_ist_n (lo' := [(3, vi 0), (0, vr α 11 0), (1, vi a1), (2, vi a2)]) C rfl (by decide) rfl dX2_beginOn_1 ?_
  refine g_sub C [1, 2, 3, 0] rfl (c_X2_beginOn_l2 C hfr hlc   _ _ _ hf)
set_option maxHeartbeats 4000000 in
set_option maxRecDepth 100000 in
theorem c_X2_beginOn {l : Launch} {D : va_G} {Y : Nat → ClassId} {α : Adr} {a1 : Int} {a2 : Int} {μ : Mem} {r : Int} {μ' : Mem}  (hf : f_X2_beginOn a1 a2 μ = some (r, μ')) : Ctr l D Y LBx yX2_beginOn cX2_beginOn 7 none 0 0 0 0 [vr α 11 0, vi a1, vi a2] α μ none (fun a => a = α) μ' := Ctr_of pn_X2 rfl rfl (Nat.le_of_ble_eq_true rfl) LBx_nd (fun p e s m below meth c sz C => b_X2_beginOn C (Nat.le_refl _) (Nat.le_refl _)  hf)
end

/-! EndTeller$Stepper.endNext -/
def f_X2_endNext_L23 (x1 : Int) : Nat → Int → Int → Int → Int → Mem → Option (Int × Mem)
  | 0, _, _, _, _, _ => none
  | n + 1, x2, x3, x4, x5, μ => (if w32 (μ 15 0 3) ≤ w32 x5 then some (x2, (st (st μ 11 0 7 (ior (μ 11 0 7) x3)) 11 0 8 (((st μ 11 0 7 (ior (μ 11 0 7) x3)) 11 0 8) + x4))) else jn (fun y2 y3 y4 => f_X2_endNext_L23 x1 n y2 y3 y4 (x5 + 1) μ) (fun j104 => (if w32 (ian (ishr x1 x5) 1) = 0 then j104 x2 x3 x4 else gd (inb x5 10) ((if w32 x2 < w32 (μ 14 0 (ix x5)) then j104 x2 x3 x4 else gd (inb x5 10) (jn (fun y10 y11 y12 => gd (inb x5 10) (j104 y10 (ior y11 (ishl 1 x5)) (y12 + (μ 17 (ix x5) 5)))) (fun j79 => (if w32 x2 ≤ w32 (μ 14 0 (ix x5)) then j79 x2 x3 x4 else gd (inb x5 10) (j79 (μ 14 0 (ix x5)) 0 0)))))))))
def f_X2_endNext  (μ : Mem) : Option (Int × Mem) := f_X2_endNext_L23 (ian (μ 11 0 6) (ixo (μ 11 0 7) (-1))) FU 1000000 0 0 0 μ
section
variable {p : Program} {l : Launch} {e : Env} {R : Room} {s : State} {m : MethodId} {args : Array Value} {below : List Frame} {meth : Method} {c : Code} {D : va_G} {Y : Nat → ClassId} {α : Adr} {sz : Nat} {r : Int} {μ' : Mem}
set_option maxHeartbeats 4000000 in
set_option maxRecDepth 100000 in
theorem c_X2_endNext_l23 {x1 : Int} (C : CX p s m args meth c cX2_endNext 6 RX2 (some .int) D Y LBx (Ar LBx α sz)) (hfr : 0 ≤ R.frames) (hlc : 0 ≤ R.locals)    : ∀ (n : Nat) (x2 x3 x4 x5 : Int) (μ : Mem), f_X2_endNext_L23 x1 n x2 x3 x4 x5 μ = some (r, μ') → GG D Y LBx (Ar LBx α sz) p l e R s m args below meth c 6 (MQ below (Qcx D Y LBx α sz (some (vi r)) (fun a => a = α) μ') args s 0 0 (Ar LBx α sz)) α 0 0 [(0, vr α 11 0), (1, vi x1), (2, vi x2), (3, vi x3), (4, vi x4), (5, vi x5)] [] μ 23 := by
  intro n
  induction n with
  | zero =>
    intro x2 x3 x4 x5 μ hf
    exact nomatch (show (none : Option (Int × Mem)) = some _ from hf)
  | succ n ih =>
    intro x2 x3 x4 x5 μ hf
    rw [f_X2_endNext_L23.eq_2] at hf
    refine g_ild C 5 rfl dX2_endNext_23 ?_
    refine g_ald_n C 0 rfl rfl dX2_endNext_25 ?_
    refine g_get C dX2_endNext_26 fl_X2_12 in_11 (ec_11 _ _ _ _ _) rfl ?_
    refine g_get C dX2_endNext_29 fl_X2_53 in_15 (ec_15 _ _ _ _ _) rfl ?_
    refine g_ic_ge C 110 (by decide) dX2_endNext_32 (fun h1 => ?_) (fun h1 => ?_)
    · rw [if_pos h1] at hf
      refine g_ald_n C 0 rfl rfl dX2_endNext_110 ?_
      refine g_dup C rfl dX2_endNext_111 ?_
      refine g_get C dX2_endNext_112 fl_X2_38 in_11 (ec_11 _ _ _ _ _) rfl ?_
      refine g_ild_n C 3 rfl rfl dX2_endNext_115 ?_
      refine g_ior C dX2_endNext_116 ?_
      refine g_puti C dX2_endNext_117 fl_X2_38 in_11 (ec_11 _ _ _ _ _) (Nat.le_of_ble_eq_true rfl) rfl (by decide) ?_
      refine g_ald_n C 0 rfl rfl dX2_endNext_120 ?_
      refine g_dup C rfl dX2_endNext_121 ?_
      refine g_get C dX2_endNext_122 fl_X2_41 in_11 (ec_11 _ _ _ _ _) rfl ?_
      refine g_ild C 4 rfl dX2_endNext_125 ?_
      refine g_iadd C dX2_endNext_127 ?_
      refine g_puti C dX2_endNext_128 fl_X2_41 in_11 (ec_11 _ _ _ _ _) (Nat.le_of_ble_eq_true rfl) rfl (by decide) ?_
      refine g_ild_n C 2 rfl rfl dX2_endNext_131 ?_
      exact g_iret C rfl dX2_endNext_132 hf
    · rw [if_neg h1] at hf
      refine g_ild_n C 1 rfl rfl dX2_endNext_35 ?_
      refine g_ild C 5 rfl dX2_endNext_36 ?_
      refine g_ishr C dX2_endNext_38 ?_
      refine g_iconst C dX2_endNext_39 ?_
      refine g_iand C dX2_endNext_40 ?_
      obtain ⟨j104, ej5, hf⟩ := jn_some hf
      have hj104 : ∀ (y2 y3 y4 : Int), j104 y2 y3 y4 = some (r, μ') → GG D Y LBx (Ar LBx α sz) p l e R s m args below meth c 6 (MQ below (Qcx D Y LBx α sz (some (vi r)) (fun a => a = α) μ') args s 0 0 (Ar LBx α sz)) α 0 0 [(0, vr α 11 0), (1, vi x1), (2, vi y2), (3, vi y3), (4, vi y4), (5, vi x5)] [] μ 104 := by
        intro y2 y3 y4 hf
        rw [ej5] at hf
        try dsimp only at hf
        refine g_iinc (lo' := [(5, vi (x5 + 1)), (0, vr α 11 0), (1, vi x1), (2, vi y2), (3, vi y3), (4, vi y4)]) C 5 rfl (by decide) rfl dX2_endNext_104 ?_
        refine g_goto C 23 (by decide) dX2_endNext_107 ?_
        exact g_sub C [1, 2, 3, 4, 5, 0] rfl (ih _ _ _ _ _ hf)
      clear ej5
      refine g_if_eq C 104 (by decide) dX2_endNext_41 (fun h6 => ?_) (fun h6 => ?_)
      · rw [if_pos h6] at hf
        exact g_sub C [0, 1, 2, 3, 4, 5] rfl (hj104 _ _ _ hf)
      · rw [if_neg h6] at hf
        refine g_ald_n C 0 rfl rfl dX2_endNext_44 ?_
        refine g_get C dX2_endNext_45 fl_X2_25 in_11 (ec_11 _ _ _ _ _) rfl ?_
        refine g_ild C 5 rfl dX2_endNext_48 ?_
        obtain ⟨g7, hf⟩ := gd_some hf
        refine g_iald C dX2_endNext_50 in_14 (fun _ => ec_14 _ _ _ _ _) g7 ?_
        refine g_ild_n C 2 rfl rfl dX2_endNext_51 ?_
        refine g_ic_gt C 104 (by decide) dX2_endNext_52 (fun h8 => ?_) (fun h8 => ?_)
        · rw [if_pos h8] at hf
          exact g_sub C [0, 1, 2, 3, 4, 5] rfl (hj104 _ _ _ hf)
        · rw [if_neg h8] at hf
          refine g_ald_n C 0 rfl rfl dX2_endNext_55 ?_
          refine g_get C dX2_endNext_56 fl_X2_25 in_11 (ec_11 _ _ _ _ _) rfl ?_
          refine g_ild C 5 rfl dX2_endNext_59 ?_
          obtain ⟨g9, hf⟩ := gd_some hf
          refine g_iald C dX2_endNext_61 in_14 (fun _ => ec_14 _ _ _ _ _) g9 ?_
          refine g_ild_n C 2 rfl rfl dX2_endNext_62 ?_
          obtain ⟨j79, ej14, hf⟩ := jn_some hf
          have hj79 : ∀ (y10 y11 y12 : Int), j79 y10 y11 y12 = some (r, μ') → GG D Y LBx (Ar LBx α sz) p l e R s m args below meth c 6 (MQ below (Qcx D Y LBx α sz (some (vi r)) (fun a => a = α) μ') args s 0 0 (Ar LBx α sz)) α 0 0 [(0, vr α 11 0), (1, vi x1), (2, vi y10), (3, vi y11), (4, vi y12), (5, vi x5)] [] μ 79 := by
            intro y10 y11 y12 hf
            rw [ej14] at hf
            try dsimp only at hf
            refine g_ild_n C 3 rfl rfl dX2_endNext_79 ?_
            refine g_iconst C dX2_endNext_80 ?_
            refine g_ild C 5 rfl dX2_endNext_81 ?_
            refine g_ishl C dX2_endNext_83 ?_
            refine g_ior C dX2_endNext_84 ?_
            refine g_ist_n (lo' := [(3, vi (ior y11 (ishl 1 x5))), (0, vr α 11 0), (1, vi x1), (2, vi y10), (4, vi y12), (5, vi x5)]) C rfl (by decide) rfl dX2_endNext_85 ?_
            refine g_ild C 4 rfl dX2_endNext_86 ?_
            refine g_ald_n C 1 rfl rfl dX2_endNext_88 ?_
            refine g_get C dX2_endNext_89 fl_X2_12 in_11 (ec_11 _ _ _ _ _) rfl ?_
            refine g_get C dX2_endNext_92 fl_X2_56 in_15 (ec_15 _ _ _ _ _) rfl ?_
            refine g_ild C 5 rfl dX2_endNext_95 ?_
            obtain ⟨g13, hf⟩ := gd_some hf
            refine g_aaldI C dX2_endNext_97 in_16 (fun _ => ec_16 _ _ _ _ _) rfl g13 ?_
            refine g_get C dX2_endNext_98 fl_X2_94 (in_17 (inb_ix g13)) (ec_17 _ _ _ _ _) rfl ?_
            refine g_iadd C dX2_endNext_101 ?_
            refine g_ist (lo' := [(4, vi (y12 + (μ 17 (ix x5) 5))), (3, vi (ior y11 (ishl 1 x5))), (0, vr α 11 0), (1, vi x1), (2, vi y10), (5, vi x5)]) C (by decide) rfl dX2_endNext_102 ?_
            exact g_sub C [2, 3, 4, 1, 0, 5] rfl (hj104 _ _ _ hf)
          clear ej14
          refine g_ic_ge C 79 (by decide) dX2_endNext_63 (fun h15 => ?_) (fun h15 => ?_)
          · rw [if_pos h15] at hf
            exact g_sub C [0, 1, 2, 3, 4, 5] rfl (hj79 _ _ _ hf)
          · rw [if_neg h15] at hf
            refine g_ald_n C 0 rfl rfl dX2_endNext_66 ?_
            refine g_get C dX2_endNext_67 fl_X2_25 in_11 (ec_11 _ _ _ _ _) rfl ?_
            refine g_ild C 5 rfl dX2_endNext_70 ?_
            obtain ⟨g16, hf⟩ := gd_some hf
            refine g_iald C dX2_endNext_72 in_14 (fun _ => ec_14 _ _ _ _ _) g16 ?_
            refine g_ist_n (lo' := [(2, vi (μ 14 0 (ix x5))), (0, vr α 11 0), (1, vi x1), (3, vi x3), (4, vi x4), (5, vi x5)]) C rfl (by decide) rfl dX2_endNext_73 ?_
            refine g_iconst C dX2_endNext_74 ?_
            refine g_ist_n (lo' := [(3, vi 0), (2, vi (μ 14 0 (ix x5))), (0, vr α 11 0), (1, vi x1), (4, vi x4), (5, vi x5)]) C rfl (by decide) rfl dX2_endNext_75 ?_
            refine g_iconst C dX2_endNext_76 ?_
            refine g_ist (lo' := [(4, vi 0), (3, vi 0), (2, vi (μ 14 0 (ix x5))), (0, vr α 11 0), (1, vi x1), (5, vi x5)]) C (by decide) rfl dX2_endNext_77 ?_
            exact g_sub C [3, 4, 2, 1, 0, 5] rfl (hj79 _ _ _ hf)
set_option maxHeartbeats 4000000 in
set_option maxRecDepth 100000 in
theorem b_X2_endNext  {μ : Mem} (C : CX p s m args meth c cX2_endNext 6 RX2 (some .int) D Y LBx (Ar LBx α sz)) (hfr : 0 ≤ R.frames) (hlc : 0 ≤ R.locals)  (hf : f_X2_endNext μ = some (r, μ')) : GG D Y LBx (Ar LBx α sz) p l e R s m args below meth c 6 (MQ below (Qcx D Y LBx α sz (some (vi r)) (fun a => a = α) μ') args s 0 0 (Ar LBx α sz)) α 0 0 [(0, vr α 11 0)] [] μ 0 := by
  unfold f_X2_endNext at hf
  refine g_ald_n C 0 rfl rfl dX2_endNext_0 ?_
  refine g_get C dX2_endNext_1 fl_X2_35 in_11 (ec_11 _ _ _ _ _) rfl ?_
  refine g_ald_n C 0 rfl rfl dX2_endNext_4 ?_
  refine g_get C dX2_endNext_5 fl_X2_38 in_11 (ec_11 _ _ _ _ _) rfl ?_
  refine g_iconst C dX2_endNext_8 ?_
  refine g_ixor C dX2_endNext_9 ?_
  refine g_iand C dX2_endNext_10 ?_
  refine g_ist_n (lo' := [(1, vi (ian (μ 11 0 6) (ixo (μ 11 0 7) (-1)))), (0, vr α 11 0)]) C rfl (by decide) rfl dX2_endNext_11 ?_
  refine g_ldc (x := 1000000) C m_3_96 dX2_endNext_12 ?_
  refine g_ist_n (lo' := [(2, vi 1000000), (1, vi (ian (μ 11 0 6) (ixo (μ 11 0 7) (-1)))), (0, vr α 11 0)]) C rfl (by decide) rfl dX2_endNext_14 ?_
  refine g_iconst C dX2_endNext_15 ?_
  refine g_ist_n (lo' := [(3, vi 0), (2, vi 1000000), (1, vi (ian (μ 11 0 6) (ixo (μ 11 0 7) (-1)))), (0, vr α 11 0)]) C rfl (by decide) rfl dX2_endNext_16 ?_
  refine g_iconst C dX2_endNext_17 ?_
  refine g_ist (lo' := [(4, vi 0), (3, vi 0), (2, vi 1000000), (1, vi (ian (μ 11 0 6) (ixo (μ 11 0 7) (-1)))), (0, vr α 11 0)]) C (by decide) rfl dX2_endNext_18 ?_
  refine g_iconst C dX2_endNext_20 ?_
  refine g_ist (lo' := [(5, vi 0), (4, vi 0), (3, vi 0), (2, vi 1000000), (1, vi (ian (μ 11 0 6) (ixo (μ 11 0 7) (-1)))), (0, vr α 11 0)]) C (by decide) rfl dX2_endNext_21 ?_
  refine g_sub C [5, 4, 3, 2, 1, 0] rfl (c_X2_endNext_l23 C hfr hlc   _ _ _ _ _ _ hf)
set_option maxHeartbeats 4000000 in
set_option maxRecDepth 100000 in
theorem c_X2_endNext {l : Launch} {D : va_G} {Y : Nat → ClassId} {α : Adr}  {μ : Mem} {r : Int} {μ' : Mem}  (hf : f_X2_endNext μ = some (r, μ')) : Ctr l D Y LBx yX2_endNext cX2_endNext 6 (some .int) 0 0 0 0 [vr α 11 0] α μ (some (vi r)) (fun a => a = α) μ' := Ctr_of pn_X2 rfl rfl (Nat.le_of_ble_eq_true rfl) LBx_nd (fun p e s m below meth c sz C => b_X2_endNext C (Nat.le_refl _) (Nat.le_refl _)  hf)
end

/-! EndTeller$Stepper.stepThrough -/
def f_X2_stepThrough_L31 (x1 : Int) : Nat → Int → Int → Mem → Option (Int × Mem)
  | 0, _, _, _ => none
  | n + 1, x2, x3, μ => (if w32 10 ≤ w32 x3 then some (x2, μ) else (if w32 (μ 11 0 6) = w32 (μ 11 0 7) then some (x2, μ) else bn (f_X2_endNext  μ) (fun r6 μ7 => bn (f_X2_beginOn r6 x1 μ7) (fun r9 μ10 => f_X2_stepThrough_L31 x1 n r6 (x3 + 1) μ10))))
def f_X2_stepThrough (a1 : Int) (μ : Mem) : Option (Int × Mem) := bn (f_X2_beginOn 0 a1 (st (st (st μ 11 0 6 0) 11 0 7 0) 11 0 8 ((st (st μ 11 0 6 0) 11 0 7 0) 15 0 5))) (fun r1 μ2 => f_X2_stepThrough_L31 a1 FU 0 0 μ2)
section
variable {p : Program} {l : Launch} {e : Env} {R : Room} {s : State} {m : MethodId} {args : Array Value} {below : List Frame} {meth : Method} {c : Code} {D : va_G} {Y : Nat → ClassId} {α : Adr} {sz : Nat} {r : Int} {μ' : Mem}
set_option maxHeartbeats 4000000 in
set_option maxRecDepth 100000 in
theorem c_X2_stepThrough_l31 {x1 : Int} (C : CX p s m args meth c cX2_stepThrough 4 RX2 (some .int) D Y LBx (Ar LBx α sz)) (hfr : 1 ≤ R.frames) (hlc : 26 ≤ R.locals)    : ∀ (n : Nat) (x2 x3 : Int) (μ : Mem), f_X2_stepThrough_L31 x1 n x2 x3 μ = some (r, μ') → GG D Y LBx (Ar LBx α sz) p l e R s m args below meth c 4 (MQ below (Qcx D Y LBx α sz (some (vi r)) (fun a => a = α) μ') args s 0 0 (Ar LBx α sz)) α 0 0 [(0, vr α 11 0), (1, vi x1), (2, vi x2), (3, vi x3)] [] μ 31 := by
  intro n
  induction n with
  | zero =>
    intro x2 x3 μ hf
    exact nomatch (show (none : Option (Int × Mem)) = some _ from hf)
  | succ n ih =>
    intro x2 x3 μ hf
    rw [f_X2_stepThrough_L31.eq_2] at hf
    refine g_ild_n C 3 rfl rfl dX2_stepThrough_31 ?_
    refine g_bipush C rfl dX2_stepThrough_32 ?_
    refine g_ic_ge C 65 (by decide) dX2_stepThrough_34 (fun h4 => ?_) (fun h4 => ?_)
    · rw [if_pos h4] at hf
      refine g_ild_n C 2 rfl rfl dX2_stepThrough_65 ?_
      exact g_iret C rfl dX2_stepThrough_66 hf
    · rw [if_neg h4] at hf
      refine g_ald_n C 0 rfl rfl dX2_stepThrough_37 ?_
      refine g_get C dX2_stepThrough_38 fl_X2_35 in_11 (ec_11 _ _ _ _ _) rfl ?_
      refine g_ald_n C 0 rfl rfl dX2_stepThrough_41 ?_
      refine g_get C dX2_stepThrough_42 fl_X2_38 in_11 (ec_11 _ _ _ _ _) rfl ?_
      refine g_ic_eq C 65 (by decide) dX2_stepThrough_45 (fun h5 => ?_) (fun h5 => ?_)
      · rw [if_pos h5] at hf
        refine g_ild_n C 2 rfl rfl dX2_stepThrough_65 ?_
        exact g_iret C rfl dX2_stepThrough_66 hf
      · rw [if_neg h5] at hf
        refine g_ald_n C 0 rfl rfl dX2_stepThrough_48 ?_
        obtain ⟨r6, μ7, hc8, hf⟩ := bn_some hf
        refine g_callVp (As := []) (rest := []) C ⟨Nat.zero_le _, Nat.zero_le _⟩ dX2_stepThrough_49 cw_X2_endNext m_3_92 m_3_93 m_3_94 in_11 (ec_11 _ _ _ _ _) rfl rfl (c_X2_endNext  hc8) rfl rfl (Nat.le_of_ble_eq_true rfl) ⟨Nat.le_trans (Nat.le_of_ble_eq_true rfl) hfr, Nat.le_trans (Nat.le_of_ble_eq_true rfl) hlc⟩ ?_
        refine g_ist_n (lo' := [(2, vi r6), (0, vr α 11 0), (1, vi x1), (3, vi x3)]) C rfl (by decide) rfl dX2_stepThrough_52 ?_
        refine g_ald_n C 1 rfl rfl dX2_stepThrough_53 ?_
        refine g_ild_n C 0 rfl rfl dX2_stepThrough_54 ?_
        refine g_ild_n C 2 rfl rfl dX2_stepThrough_55 ?_
        obtain ⟨r9, μ10, hc11, hf⟩ := bn_some hf
        refine g_callVp (As := [vi r6, vi x1]) (rest := []) C ⟨Nat.zero_le _, Nat.zero_le _⟩ dX2_stepThrough_56 cw_X2_beginOn m_3_88 m_3_89 m_3_90 in_11 (ec_11 _ _ _ _ _) rfl rfl (c_X2_beginOn  hc11) rfl rfl (Nat.le_of_ble_eq_true rfl) ⟨Nat.le_trans (Nat.le_of_ble_eq_true rfl) hfr, Nat.le_trans (Nat.le_of_ble_eq_true rfl) hlc⟩ ?_
        refine g_iinc (lo' := [(3, vi (x3 + 1)), (2, vi r6), (0, vr α 11 0), (1, vi x1)]) C 3 rfl (by decide) rfl dX2_stepThrough_59 ?_
        refine g_goto C 31 (by decide) dX2_stepThrough_62 ?_
        exact g_sub C [2, 3, 1, 0] rfl (ih _ _ _ hf)
set_option maxHeartbeats 4000000 in
set_option maxRecDepth 100000 in
theorem b_X2_stepThrough {a1 : Int} {μ : Mem} (C : CX p s m args meth c cX2_stepThrough 4 RX2 (some .int) D Y LBx (Ar LBx α sz)) (hfr : 1 ≤ R.frames) (hlc : 26 ≤ R.locals)  (hf : f_X2_stepThrough a1 μ = some (r, μ')) : GG D Y LBx (Ar LBx α sz) p l e R s m args below meth c 4 (MQ below (Qcx D Y LBx α sz (some (vi r)) (fun a => a = α) μ') args s 0 0 (Ar LBx α sz)) α 0 0 [(0, vr α 11 0), (1, vi a1)] [] μ 0 := by
  unfold f_X2_stepThrough at hf
  refine g_iconst C dX2_stepThrough_0 ?_
  refine g_ist_n (lo' := [(2, vi 0), (0, vr α 11 0), (1, vi a1)]) C rfl (by decide) rfl dX2_stepThrough_1 ?_
  refine g_ald_n C 1 rfl rfl dX2_stepThrough_2 ?_
  refine g_iconst C dX2_stepThrough_3 ?_
  refine g_puti C dX2_stepThrough_4 fl_X2_35 in_11 (ec_11 _ _ _ _ _) (Nat.le_of_ble_eq_true rfl) rfl (by decide) ?_
  refine g_ald_n C 1 rfl rfl dX2_stepThrough_7 ?_
  refine g_iconst C dX2_stepThrough_8 ?_
  refine g_puti C dX2_stepThrough_9 fl_X2_38 in_11 (ec_11 _ _ _ _ _) (Nat.le_of_ble_eq_true rfl) rfl (by decide) ?_
  refine g_ald_n C 1 rfl rfl dX2_stepThrough_12 ?_
  refine g_ald_n C 1 rfl rfl dX2_stepThrough_13 ?_
  refine g_get C dX2_stepThrough_14 fl_X2_12 in_11 (ec_11 _ _ _ _ _) rfl ?_
  refine g_get C dX2_stepThrough_17 fl_X2_80 in_15 (ec_15 _ _ _ _ _) rfl ?_
  refine g_puti C dX2_stepThrough_20 fl_X2_41 in_11 (ec_11 _ _ _ _ _) (Nat.le_of_ble_eq_true rfl) rfl (by decide) ?_
  refine g_ald_n C 1 rfl rfl dX2_stepThrough_23 ?_
  refine g_ild_n C 0 rfl rfl dX2_stepThrough_24 ?_
  refine g_ild_n C 2 rfl rfl dX2_stepThrough_25 ?_
  obtain ⟨r1, μ2, hc3, hf⟩ := bn_some hf
  refine g_callVp (As := [vi 0, vi a1]) (rest := []) C ⟨Nat.zero_le _, Nat.zero_le _⟩ dX2_stepThrough_26 cw_X2_beginOn m_3_88 m_3_89 m_3_90 in_11 (ec_11 _ _ _ _ _) rfl rfl (c_X2_beginOn  hc3) rfl rfl (Nat.le_of_ble_eq_true rfl) ⟨Nat.le_trans (Nat.le_of_ble_eq_true rfl) hfr, Nat.le_trans (Nat.le_of_ble_eq_true rfl) hlc⟩ ?_
  refine g_iconst C dX2_stepThrough_29 ?_
  refine g_ist_n (lo' := [(3, vi 0), (2, vi 0), (0, vr α 11 0), (1, vi a1)]) C rfl (by decide) rfl dX2_stepThrough_30 ?_
  refine g_sub C [2, 3, 1, 0] rfl (c_X2_stepThrough_l31 C hfr hlc   _ _ _ _ hf)
set_option maxHeartbeats 4000000 in
set_option maxRecDepth 100000 in
theorem c_X2_stepThrough {l : Launch} {D : va_G} {Y : Nat → ClassId} {α : Adr} {a1 : Int} {μ : Mem} {r : Int} {μ' : Mem}  (hf : f_X2_stepThrough a1 μ = some (r, μ')) : Ctr l D Y LBx yX2_stepThrough cX2_stepThrough 4 (some .int) 1 26 0 0 [vr α 11 0, vi a1] α μ (some (vi r)) (fun a => a = α) μ' := Ctr_of pn_X2 rfl rfl (Nat.le_of_ble_eq_true rfl) LBx_nd (fun p e s m below meth c sz C => b_X2_stepThrough C (Nat.le_refl _) (Nat.le_refl _)  hf)
end

/-! EndTeller$Stepper.agreesWithWhatCame -/
def f_X2_agreesWithWhatCame_L2  : Nat → Int → Mem → Option (Int × Mem)
  | 0, _, _ => none
  | n + 1, x1, μ => (if w32 (μ 15 0 3) ≤ w32 x1 then some (1, μ) else gd (inb x1 10) (jn (f_X2_agreesWithWhatCame_L2 n (x1 + 1) μ) (fun j72 => (if w32 (μ 17 (ix x1) 7) = w32 (-1) then (if w32 (μ 15 0 6) = w32 (-1) then j72  else gd (inb x1 10) ((if w32 (μ 15 0 6) < w32 (μ 14 0 (ix x1)) then j72  else some (0, μ)))) else gd (inb x1 10) ((if w32 (μ 14 0 (ix x1)) = w32 (μ 17 (ix x1) 7) then j72  else some (0, μ)))))))
def f_X2_agreesWithWhatCame  (μ : Mem) : Option (Int × Mem) := f_X2_agreesWithWhatCame_L2 FU 0 μ
section
variable {p : Program} {l : Launch} {e : Env} {R : Room} {s : State} {m : MethodId} {args : Array Value} {below : List Frame} {meth : Method} {c : Code} {D : va_G} {Y : Nat → ClassId} {α : Adr} {sz : Nat} {r : Int} {μ' : Mem}
set_option maxHeartbeats 4000000 in
set_option maxRecDepth 100000 in
theorem c_X2_agreesWithWhatCame_l2  (C : CX p s m args meth c cX2_agreesWithWhatCame 3 RX2 (some .boolean) D Y LBx (Ar LBx α sz)) (hfr : 0 ≤ R.frames) (hlc : 0 ≤ R.locals)    : ∀ (n : Nat) (x1 : Int) (μ : Mem), f_X2_agreesWithWhatCame_L2 n x1 μ = some (r, μ') → GG D Y LBx (Ar LBx α sz) p l e R s m args below meth c 3 (MQ below (Qcx D Y LBx α sz (some (vi r)) (fun a => a = α) μ') args s 0 0 (Ar LBx α sz)) α 0 0 [(0, vr α 11 0), (1, vi x1)] [] μ 2 := by
  intro n
  induction n with
  | zero =>
    intro x1 μ hf
    exact nomatch (show (none : Option (Int × Mem)) = some _ from hf)
  | succ n ih =>
    intro x1 μ hf
    rw [f_X2_agreesWithWhatCame_L2.eq_2] at hf
    refine g_ild_n C 1 rfl rfl dX2_agreesWithWhatCame_2 ?_
    refine g_ald_n C 0 rfl rfl dX2_agreesWithWhatCame_3 ?_
    refine g_get C dX2_agreesWithWhatCame_4 fl_X2_12 in_11 (ec_11 _ _ _ _ _) rfl ?_
    refine g_get C dX2_agreesWithWhatCame_7 fl_X2_53 in_15 (ec_15 _ _ _ _ _) rfl ?_
    refine g_ic_ge C 78 (by decide) dX2_agreesWithWhatCame_10 (fun h1 => ?_) (fun h1 => ?_)
    · rw [if_pos h1] at hf
      refine g_iconst C dX2_agreesWithWhatCame_78 ?_
      exact g_zret C rfl (Or.inr rfl) dX2_agreesWithWhatCame_79 hf
    · rw [if_neg h1] at hf
      refine g_ald_n C 0 rfl rfl dX2_agreesWithWhatCame_13 ?_
      refine g_get C dX2_agreesWithWhatCame_14 fl_X2_12 in_11 (ec_11 _ _ _ _ _) rfl ?_
      refine g_get C dX2_agreesWithWhatCame_17 fl_X2_56 in_15 (ec_15 _ _ _ _ _) rfl ?_
      refine g_ild_n C 1 rfl rfl dX2_agreesWithWhatCame_20 ?_
      obtain ⟨g2, hf⟩ := gd_some hf
      refine g_aaldI C dX2_agreesWithWhatCame_21 in_16 (fun _ => ec_16 _ _ _ _ _) rfl g2 ?_
      refine g_get C dX2_agreesWithWhatCame_22 fl_X2_101 (in_17 (inb_ix g2)) (ec_17 _ _ _ _ _) rfl ?_
      refine g_ist_n (lo' := [(2, vi (μ 17 (ix x1) 7)), (0, vr α 11 0), (1, vi x1)]) C rfl (by decide) rfl dX2_agreesWithWhatCame_25 ?_
      refine g_ild_n C 0 rfl rfl dX2_agreesWithWhatCame_26 ?_
      refine g_iconst C dX2_agreesWithWhatCame_27 ?_
      obtain ⟨j72, ej3, hf⟩ := jn_some hf
      have hj72 : j72  = some (r, μ') → GG D Y LBx (Ar LBx α sz) p l e R s m args below meth c 3 (MQ below (Qcx D Y LBx α sz (some (vi r)) (fun a => a = α) μ') args s 0 0 (Ar LBx α sz)) α 0 0 [(0, vr α 11 0), (1, vi x1)] [] μ 72 := by
        intro  hf
        rw [ej3] at hf
        try dsimp only at hf
        refine g_iinc (lo' := [(1, vi (x1 + 1)), (0, vr α 11 0)]) C 1 rfl (by decide) rfl dX2_agreesWithWhatCame_72 ?_
        refine g_goto C 2 (by decide) dX2_agreesWithWhatCame_75 ?_
        exact g_sub C [1, 0] rfl (ih _ _ hf)
      clear ej3
      refine g_ic_eq C 43 (by decide) dX2_agreesWithWhatCame_28 (fun h4 => ?_) (fun h4 => ?_)
      · rw [if_pos h4] at hf
        refine g_ald_n C 1 rfl rfl dX2_agreesWithWhatCame_43 ?_
        refine g_get C dX2_agreesWithWhatCame_44 fl_X2_12 in_11 (ec_11 _ _ _ _ _) rfl ?_
        refine g_get C dX2_agreesWithWhatCame_47 fl_X2_104 in_15 (ec_15 _ _ _ _ _) rfl ?_
        refine g_iconst C dX2_agreesWithWhatCame_50 ?_
        refine g_ic_eq C 72 (by decide) dX2_agreesWithWhatCame_51 (fun h5 => ?_) (fun h5 => ?_)
        · rw [if_pos h5] at hf
          exact g_sub C [1, 2] rfl (hj72  hf)
        · rw [if_neg h5] at hf
          refine g_ald_n C 1 rfl rfl dX2_agreesWithWhatCame_54 ?_
          refine g_get C dX2_agreesWithWhatCame_55 fl_X2_25 in_11 (ec_11 _ _ _ _ _) rfl ?_
          refine g_ild_n C 2 rfl rfl dX2_agreesWithWhatCame_58 ?_
          obtain ⟨g6, hf⟩ := gd_some hf
          refine g_iald C dX2_agreesWithWhatCame_59 in_14 (fun _ => ec_14 _ _ _ _ _) g6 ?_
          refine g_ald_n C 1 rfl rfl dX2_agreesWithWhatCame_60 ?_
          refine g_get C dX2_agreesWithWhatCame_61 fl_X2_12 in_11 (ec_11 _ _ _ _ _) rfl ?_
          refine g_get C dX2_agreesWithWhatCame_64 fl_X2_104 in_15 (ec_15 _ _ _ _ _) rfl ?_
          refine g_ic_gt C 72 (by decide) dX2_agreesWithWhatCame_67 (fun h7 => ?_) (fun h7 => ?_)
          · rw [if_pos h7] at hf
            exact g_sub C [1, 2] rfl (hj72  hf)
          · rw [if_neg h7] at hf
            refine g_iconst C dX2_agreesWithWhatCame_70 ?_
            exact g_zret C rfl (Or.inl rfl) dX2_agreesWithWhatCame_71 hf
      · rw [if_neg h4] at hf
        refine g_ald_n C 1 rfl rfl dX2_agreesWithWhatCame_31 ?_
        refine g_get C dX2_agreesWithWhatCame_32 fl_X2_25 in_11 (ec_11 _ _ _ _ _) rfl ?_
        refine g_ild_n C 2 rfl rfl dX2_agreesWithWhatCame_35 ?_
        obtain ⟨g8, hf⟩ := gd_some hf
        refine g_iald C dX2_agreesWithWhatCame_36 in_14 (fun _ => ec_14 _ _ _ _ _) g8 ?_
        refine g_ild_n C 0 rfl rfl dX2_agreesWithWhatCame_37 ?_
        refine g_ic_eq C 72 (by decide) dX2_agreesWithWhatCame_38 (fun h9 => ?_) (fun h9 => ?_)
        · rw [if_pos h9] at hf
          exact g_sub C [1, 2] rfl (hj72  hf)
        · rw [if_neg h9] at hf
          refine g_iconst C dX2_agreesWithWhatCame_41 ?_
          exact g_zret C rfl (Or.inl rfl) dX2_agreesWithWhatCame_42 hf
set_option maxHeartbeats 4000000 in
set_option maxRecDepth 100000 in
theorem b_X2_agreesWithWhatCame  {μ : Mem} (C : CX p s m args meth c cX2_agreesWithWhatCame 3 RX2 (some .boolean) D Y LBx (Ar LBx α sz)) (hfr : 0 ≤ R.frames) (hlc : 0 ≤ R.locals)  (hf : f_X2_agreesWithWhatCame μ = some (r, μ')) : GG D Y LBx (Ar LBx α sz) p l e R s m args below meth c 3 (MQ below (Qcx D Y LBx α sz (some (vi r)) (fun a => a = α) μ') args s 0 0 (Ar LBx α sz)) α 0 0 [(0, vr α 11 0)] [] μ 0 := by
  unfold f_X2_agreesWithWhatCame at hf
  refine g_iconst C dX2_agreesWithWhatCame_0 ?_
  refine g_ist_n (lo' := [(1, vi 0), (0, vr α 11 0)]) C rfl (by decide) rfl dX2_agreesWithWhatCame_1 ?_
  refine g_sub C [1, 0] rfl (c_X2_agreesWithWhatCame_l2 C hfr hlc   _ _ _ hf)
set_option maxHeartbeats 4000000 in
set_option maxRecDepth 100000 in
theorem c_X2_agreesWithWhatCame {l : Launch} {D : va_G} {Y : Nat → ClassId} {α : Adr}  {μ : Mem} {r : Int} {μ' : Mem}  (hf : f_X2_agreesWithWhatCame μ = some (r, μ')) : Ctr l D Y LBx yX2_agreesWithWhatCame cX2_agreesWithWhatCame 3 (some .boolean) 0 0 0 0 [vr α 11 0] α μ (some (vi r)) (fun a => a = α) μ' := Ctr_of pn_X2 rfl rfl (Nat.le_of_ble_eq_true rfl) LBx_nd (fun p e s m below meth c sz C => b_X2_agreesWithWhatCame C (Nat.le_refl _) (Nat.le_refl _)  hf)
end
