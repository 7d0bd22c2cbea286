/-! EndTeller$Part.become -/
def f_X1_become_L35 (q0 : Nat) : Nat → Int → Mem → Option (Int × Mem)
  | 0, _, _ => none
  | n + 1, x3, μ => (if w32 99 < w32 x3 then some (0, μ) else (if w32 8 ≤ w32 (μ 17 q0 3) then some (0, μ) else gd (inb x3 199) (jn (fun μ7 => f_X1_become_L35 q0 n (x3 + 1) μ7) (fun j115 => (if w64 (μ 6 0 (ix x3)) = w64 0 then j115  μ else gd (inb (μ 17 q0 3) 8) (gd (inb x3 199) (gd (inb ((st μ 18 q0 (ix (μ 17 q0 3)) x3) 17 q0 3) 8) (gd (inb ((st (st μ 18 q0 (ix (μ 17 q0 3)) x3) 19 q0 (ix ((st μ 18 q0 (ix (μ 17 q0 3)) x3) 17 q0 3)) ((st μ 18 q0 (ix (μ 17 q0 3)) x3) 6 0 (ix x3))) 17 q0 3) 8) (j115  (st (st (st (st μ 18 q0 (ix (μ 17 q0 3)) x3) 19 q0 (ix ((st μ 18 q0 (ix (μ 17 q0 3)) x3) 17 q0 3)) ((st μ 18 q0 (ix (μ 17 q0 3)) x3) 6 0 (ix x3))) 17 q0 4 (((st (st μ 18 q0 (ix (μ 17 q0 3)) x3) 19 q0 (ix ((st μ 18 q0 (ix (μ 17 q0 3)) x3) 17 q0 3)) ((st μ 18 q0 (ix (μ 17 q0 3)) x3) 6 0 (ix x3))) 17 q0 4) + ((st (st μ 18 q0 (ix (μ 17 q0 3)) x3) 19 q0 (ix ((st μ 18 q0 (ix (μ 17 q0 3)) x3) 17 q0 3)) ((st μ 18 q0 (ix (μ 17 q0 3)) x3) 6 0 (ix x3))) 19 q0 (ix ((st (st μ 18 q0 (ix (μ 17 q0 3)) x3) 19 q0 (ix ((st μ 18 q0 (ix (μ 17 q0 3)) x3) 17 q0 3)) ((st μ 18 q0 (ix (μ 17 q0 3)) x3) 6 0 (ix x3))) 17 q0 3))))) 17 q0 3 (((st (st (st μ 18 q0 (ix (μ 17 q0 3)) x3) 19 q0 (ix ((st μ 18 q0 (ix (μ 17 q0 3)) x3) 17 q0 3)) ((st μ 18 q0 (ix (μ 17 q0 3)) x3) 6 0 (ix x3))) 17 q0 4 (((st (st μ 18 q0 (ix (μ 17 q0 3)) x3) 19 q0 (ix ((st μ 18 q0 (ix (μ 17 q0 3)) x3) 17 q0 3)) ((st μ 18 q0 (ix (μ 17 q0 3)) x3) 6 0 (ix x3))) 17 q0 4) + ((st (st μ 18 q0 (ix (μ 17 q0 3)) x3) 19 q0 (ix ((st μ 18 q0 (ix (μ 17 q0 3)) x3) 17 q0 3)) ((st μ 18 q0 (ix (μ 17 q0 3)) x3) 6 0 (ix x3))) 19 q0 (ix ((st (st μ 18 q0 (ix (μ 17 q0 3)) x3) 19 q0 (ix ((st μ 18 q0 (ix (μ 17 q0 3)) x3) 17 q0 3)) ((st μ 18 q0 (ix (μ 17 q0 3)) x3) 6 0 (ix x3))) 17 q0 3))))) 17 q0 3) + 1)))))))))))
def f_X1_become (i0 : Nat) (a2 : Int) (μ : Mem) : Option (Int × Mem) := bn (f_J7_fill_53178 20 i0 4 0 (st (st (st (st (st μ 17 i0 3 0) 17 i0 4 0) 17 i0 5 a2) 17 i0 6 0) 17 i0 7 (-1))) (fun r1 μ2 => f_X1_become_L35 i0 FU 0 μ2)
section
variable {p : Program} {l : Launch} {e : Env} {R : Room} {s : State} {m : MethodId} {args : Array Value} {below : List Frame} {meth : Method} {c : Code} {D : va_G} {Y : Nat → ClassId} {α : Adr} {sz : Nat} {r : Int} {μ' : Mem}
set_option maxHeartbeats 4000000 in
set_option maxRecDepth 100000 in
theorem c_X1_become_l35 {q0 : Nat} (C : CX p s m args meth c cX1_become 4 RX1 none D Y LBx (Ar LBx α sz)) (hfr : 1 ≤ R.frames) (hlc : 23 ≤ R.locals) (hq0 : q0 < 10)   : ∀ (n : Nat) (x3 : Int) (μ : Mem), f_X1_become_L35 q0 n x3 μ = some (r, μ') → GG D Y LBx (Ar LBx α sz) p l e R s m args below meth c 4 (MQ below (Qcx D Y LBx α sz none (fun a => a = α) μ') args s 0 0 (Ar LBx α sz)) α 0 0 [(0, vr α 17 q0), (1, vr α 5 0), (3, vi x3)] [] μ 35 := by
  intro n
  induction n with
  | zero =>
    intro x3 μ hf
    exact nomatch (show (none : Option (Int × Mem)) = some _ from hf)
  | succ n ih =>
    intro x3 μ hf
    rw [f_X1_become_L35.eq_2] at hf
    refine g_ild_n C 2 rfl rfl dX1_become_35 ?_
    refine g_bipush C rfl dX1_become_36 ?_
    refine g_ic_gt C 121 (by decide) dX1_become_38 (fun h4 => ?_) (fun h4 => ?_)
    · rw [if_pos h4] at hf
      exact g_vret C rfl dX1_become_121 hf
    · rw [if_neg h4] at hf
      refine g_ald_n C 0 rfl rfl dX1_become_41 ?_
      refine g_get C dX1_become_42 fl_X1_21 (in_17 hq0) (ec_17 _ _ _ _ _) rfl ?_
      refine g_bipush C rfl dX1_become_45 ?_
      refine g_ic_ge C 121 (by decide) dX1_become_47 (fun h5 => ?_) (fun h5 => ?_)
      · rw [if_pos h5] at hf
        exact g_vret C rfl dX1_become_121 hf
      · rw [if_neg h5] at hf
        refine g_ald_n C 1 rfl rfl dX1_become_50 ?_
        refine g_get C dX1_become_51 fl_X1_43 in_5 (ec_5 _ _ _ _ _) rfl ?_
        refine g_ild_n C 2 rfl rfl dX1_become_54 ?_
        obtain ⟨g6, hf⟩ := gd_some hf
        refine g_lald C dX1_become_55 in_6 (fun _ => ec_6 _ _ _ _ _) g6 ?_
        refine g_lconst (x := 0) C rfl dX1_become_56 ?_
        obtain ⟨j115, ej8, hf⟩ := jn_some hf
        have hj115 : ∀ (μ7 : Mem), j115 μ7 = some (r, μ') → GG D Y LBx (Ar LBx α sz) p l e R s m args below meth c 4 (MQ below (Qcx D Y LBx α sz none (fun a => a = α) μ') args s 0 0 (Ar LBx α sz)) α 0 0 [(0, vr α 17 q0), (1, vr α 5 0), (3, vi x3)] [] μ7 115 := by
          intro μ7 hf
          rw [ej8] at hf
          try dsimp only at hf
          refine g_iinc (lo' := [(3, vi (x3 + 1)), (0, vr α 17 q0), (1, vr α 5 0)]) C 2 rfl (by decide) rfl dX1_become_115 ?_
          refine g_goto C 35 (by decide) dX1_become_118 ?_
          exact g_sub C [1, 2, 0] rfl (ih _ _ hf)
        clear ej8
        refine g_lc_eq C 115 (by decide) dX1_become_57 dX1_become_58 (fun h9 => ?_) (fun h9 => ?_)
        · rw [if_pos h9] at hf
          exact g_sub C [0, 1, 2] rfl (hj115 _ hf)
        · rw [if_neg h9] at hf
          refine g_ald_n C 0 rfl rfl dX1_become_61 ?_
          refine g_get C dX1_become_62 fl_X1_9 (in_17 hq0) (ec_17 _ _ _ _ _) rfl ?_
          refine g_ald_n C 0 rfl rfl dX1_become_65 ?_
          refine g_get C dX1_become_66 fl_X1_21 (in_17 hq0) (ec_17 _ _ _ _ _) rfl ?_
          refine g_ild_n C 2 rfl rfl dX1_become_69 ?_
          obtain ⟨g10, hf⟩ := gd_some hf
          refine g_iast C dX1_become_70 (in_18 hq0) (fun _ => ec_18 _ _ _ _ _) (by decide) g10 ?_
          refine g_ald_n C 0 rfl rfl dX1_become_71 ?_
          refine g_get C dX1_become_72 fl_X1_15 (in_17 hq0) (ec_17 _ _ _ _ _) rfl ?_
          refine g_ald_n C 0 rfl rfl dX1_become_75 ?_
          refine g_get C dX1_become_76 fl_X1_21 (in_17 hq0) (ec_17 _ _ _ _ _) rfl ?_
          refine g_ald_n C 1 rfl rfl dX1_become_79 ?_
          refine g_get C dX1_become_80 fl_X1_43 in_5 (ec_5 _ _ _ _ _) rfl ?_
          refine g_ild_n C 2 rfl rfl dX1_become_83 ?_
          obtain ⟨g11, hf⟩ := gd_some hf
          refine g_lald C dX1_become_84 in_6 (fun _ => ec_6 _ _ _ _ _) g11 ?_
          refine g_l2i C dX1_become_85 ?_
          obtain ⟨g12, hf⟩ := gd_some hf
          refine g_iast C dX1_become_86 (in_19 hq0) (fun _ => ec_19 _ _ _ _ _) (by decide) g12 ?_
          refine g_ald_n C 0 rfl rfl dX1_become_87 ?_
          refine g_dup C rfl dX1_become_88 ?_
          refine g_get C dX1_become_89 fl_X1_25 (in_17 hq0) (ec_17 _ _ _ _ _) rfl ?_
          refine g_ald_n C 0 rfl rfl dX1_become_92 ?_
          refine g_get C dX1_become_93 fl_X1_15 (in_17 hq0) (ec_17 _ _ _ _ _) rfl ?_
          refine g_ald_n C 0 rfl rfl dX1_become_96 ?_
          refine g_get C dX1_become_97 fl_X1_21 (in_17 hq0) (ec_17 _ _ _ _ _) rfl ?_
          obtain ⟨g13, hf⟩ := gd_some hf
          refine g_iald C dX1_become_100 (in_19 hq0) (fun _ => ec_19 _ _ _ _ _) g13 ?_
          refine g_iadd C dX1_become_101 ?_
          refine g_puti C dX1_become_102 fl_X1_25 (in_17 hq0) (ec_17 _ _ _ _ _) (Nat.le_of_ble_eq_true rfl) rfl (by decide) ?_
          refine g_ald_n C 0 rfl rfl dX1_become_105 ?_
          refine g_dup C rfl dX1_become_106 ?_
          refine g_get C dX1_become_107 fl_X1_21 (in_17 hq0) (ec_17 _ _ _ _ _) rfl ?_
          refine g_iconst C dX1_become_110 ?_
          refine g_iadd C dX1_become_111 ?_
          refine g_puti C dX1_become_112 fl_X1_21 (in_17 hq0) (ec_17 _ _ _ _ _) (Nat.le_of_ble_eq_true rfl) rfl (by decide) ?_
          exact g_sub C [0, 1, 2] rfl (hj115 _ hf)
set_option maxHeartbeats 4000000 in
set_option maxRecDepth 100000 in
theorem b_X1_become {i0 : Nat} {a2 : Int} {μ : Mem} (C : CX p s m args meth c cX1_become 4 RX1 none D Y LBx (Ar LBx α sz)) (hfr : 1 ≤ R.frames) (hlc : 23 ≤ R.locals) (hi0 : i0 < 10) (hf : f_X1_become i0 a2 μ = some (r, μ')) : GG D Y LBx (Ar LBx α sz) p l e R s m args below meth c 4 (MQ below (Qcx D Y LBx α sz none (fun a => a = α) μ') args s 0 0 (Ar LBx α sz)) α 0 0 [(0, vr α 17 i0), (1, vr α 5 0), (2, vi a2)] [] μ 0 := by
  unfold f_X1_become at hf
  refine g_ald_n C 0 rfl rfl dX1_become_0 ?_
  refine g_iconst C dX1_become_1 ?_
  refine g_puti C dX1_become_2 fl_X1_21 (in_17 hi0) (ec_17 _ _ _ _ _) (Nat.le_of_ble_eq_true rfl) rfl (by decide) ?_
  refine g_ald_n C 0 rfl rfl dX1_become_5 ?_
  refine g_iconst C dX1_become_6 ?_
  refine g_puti C dX1_become_7 fl_X1_25 (in_17 hi0) (ec_17 _ _ _ _ _) (Nat.le_of_ble_eq_true rfl) rfl (by decide) ?_
  refine g_ald_n C 0 rfl rfl dX1_become_10 ?_
  refine g_ild_n C 2 rfl rfl dX1_become_11 ?_
  refine g_puti C dX1_become_12 fl_X1_28 (in_17 hi0) (ec_17 _ _ _ _ _) (Nat.le_of_ble_eq_true rfl) rfl (by decide) ?_
  refine g_ald_n C 0 rfl rfl dX1_become_15 ?_
  refine g_iconst C dX1_become_16 ?_
  refine g_puti C dX1_become_17 fl_X1_31 (in_17 hi0) (ec_17 _ _ _ _ _) (Nat.le_of_ble_eq_true rfl) rfl (by decide) ?_
  refine g_ald_n C 0 rfl rfl dX1_become_20 ?_
  refine g_iconst C dX1_become_21 ?_
  refine g_puti C dX1_become_22 fl_X1_34 (in_17 hi0) (ec_17 _ _ _ _ _) (Nat.le_of_ble_eq_true rfl) rfl (by decide) ?_
  refine g_ald_n C 0 rfl rfl dX1_become_25 ?_
  refine g_get C dX1_become_26 fl_X1_18 (in_17 hi0) (ec_17 _ _ _ _ _) rfl ?_
  refine g_iconst C dX1_become_29 ?_
  obtain ⟨r1, μ2, hc3, hf⟩ := bn_some hf
  refine g_callSp (As := [vr α 20 i0, vi 0]) (rest := []) C ⟨Nat.zero_le _, Nat.zero_le _⟩ dX1_become_30 cw_J7_fill_53178 m_2_185 m_2_186 (c_J7_fill_53178 (in_20 hi0) (fun _ _ _ _ => ec_20 _ _ _ _ _) (by decide) hc3) rfl rfl (Nat.le_of_ble_eq_true rfl) ⟨Nat.le_trans (Nat.le_of_ble_eq_true rfl) hfr, Nat.le_trans (Nat.le_of_ble_eq_true rfl) hlc⟩ ?_
  refine g_iconst C dX1_become_33 ?_
  refine g_ist_n (lo' := [(3, vi 0), (0, vr α 17 i0), (1, vr α 5 0), (2, vi a2)]) C rfl (by decide) rfl dX1_become_34 ?_
  refine g_sub C [1, 2, 0] rfl (c_X1_become_l35 C hfr hlc hi0  _ _ _ hf)
set_option maxHeartbeats 4000000 in
set_option maxRecDepth 100000 in
theorem c_X1_become {l : Launch} {D : va_G} {Y : Nat → ClassId} {α : Adr} {i0 : Nat} {a2 : Int} {μ : Mem} {r : Int} {μ' : Mem} (hi0 : i0 < 10) (hf : f_X1_become i0 a2 μ = some (r, μ')) : Ctr l D Y LBx yX1_become cX1_become 4 none 1 23 0 0 [vr α 17 i0, vr α 5 0, vi a2] α μ none (fun a => a = α) μ' := Ctr_of pn_X1 rfl rfl (Nat.le_of_ble_eq_true rfl) LBx_nd (fun p e s m below meth c sz C => b_X1_become C (Nat.le_refl _) (Nat.le_refl _) hi0 hf)
end

/-! EndTeller$Part.setNeed -/
def f_X1_setNeed (i0 : Nat) (a1 : Int) (a2 : Int) (μ : Mem) : Option (Int × Mem) := (if w32 a2 = 0 then some (0, (st μ 17 i0 6 (ian (μ 17 i0 6) (ixo (ishl 1 a1) (-1))))) else some (0, (st μ 17 i0 6 (ior (μ 17 i0 6) (ishl 1 a1)))))
section
variable {p : Program} {l : Launch} {e : Env} {R : Room} {s : State} {m : MethodId} {args : Array Value} {below : List Frame} {meth : Method} {c : Code} {D : va_G} {Y : Nat → ClassId} {α : Adr} {sz : Nat} {r : Int} {μ' : Mem}
set_option maxHeartbeats 4000000 in
set_option maxRecDepth 100000 in
theorem b_X1_setNeed {i0 : Nat} {a1 : Int} {a2 : Int} {μ : Mem} (C : CX p s m args meth c cX1_setNeed 3 RX1 none D Y LBx (Ar LBx α sz)) (hfr : 0 ≤ R.frames) (hlc : 0 ≤ R.locals) (hi0 : i0 < 10) (hf : f_X1_setNeed i0 a1 a2 μ = some (r, μ')) : GG D Y LBx (Ar LBx α sz) p l e R s m args below meth c 3 (MQ below (Qcx D Y LBx α sz none (fun a => a = α) μ') args s 0 0 (Ar LBx α sz)) α 0 0 [(0, vr α 17 i0), (1, vi a1), (2, vi a2)] [] μ 0 := by
  unfold f_X1_setNeed at hf
  refine g_ild_n C 2 rfl rfl dX1_setNeed_0 ?_
  refine g_if_eq C 19 (by decide) dX1_setNeed_1 (fun h1 => ?_) (fun h1 => ?_)
  · rw [if_pos h1] at hf
    refine g_ald_n C 0 rfl rfl dX1_setNeed_19 ?_
    refine g_dup C rfl dX1_setNeed_20 ?_
    refine g_get C dX1_setNeed_21 fl_X1_31 (in_17 hi0) (ec_17 _ _ _ _ _) rfl ?_
    refine g_iconst C dX1_setNeed_24 ?_
    refine g_ild_n C 1 rfl rfl dX1_setNeed_25 ?_
    refine g_ishl C dX1_setNeed_26 ?_
    refine g_iconst C dX1_setNeed_27 ?_
    refine g_ixor C dX1_setNeed_28 ?_
    refine g_iand C dX1_setNeed_29 ?_
    refine g_puti C dX1_setNeed_30 fl_X1_31 (in_17 hi0) (ec_17 _ _ _ _ _) (Nat.le_of_ble_eq_true rfl) rfl (by decide) ?_
    exact g_vret C rfl dX1_setNeed_33 hf
  · rw [if_neg h1] at hf
    refine g_ald_n C 0 rfl rfl dX1_setNeed_4 ?_
    refine g_dup C rfl dX1_setNeed_5 ?_
    refine g_get C dX1_setNeed_6 fl_X1_31 (in_17 hi0) (ec_17 _ _ _ _ _) rfl ?_
    refine g_iconst C dX1_setNeed_9 ?_
    refine g_ild_n C 1 rfl rfl dX1_setNeed_10 ?_
    refine g_ishl C dX1_setNeed_11 ?_
    refine g_ior C dX1_setNeed_12 ?_
    refine g_puti C dX1_setNeed_13 fl_X1_31 (in_17 hi0) (ec_17 _ _ _ _ _) (Nat.le_of_ble_eq_true rfl) rfl (by decide) ?_
    refine g_goto C 33 (by decide) dX1_setNeed_16 ?_
    exact g_vret C rfl dX1_setNeed_33 hf
set_option maxHeartbeats 4000000 in
set_option maxRecDepth 100000 in
theorem c_X1_setNeed {l : Launch} {D : va_G} {Y : Nat → ClassId} {α : Adr} {i0 : Nat} {a1 : Int} {a2 : Int} {μ : Mem} {r : Int} {μ' : Mem} (hi0 : i0 < 10) (hf : f_X1_setNeed i0 a1 a2 μ = some (r, μ')) : Ctr l D Y LBx yX1_setNeed cX1_setNeed 3 none 0 0 0 0 [vr α 17 i0, vi a1, vi a2] α μ none (fun a => a = α) μ' := Ctr_of pn_X1 rfl rfl (Nat.le_of_ble_eq_true rfl) LBx_nd (fun p e s m below meth c sz C => b_X1_setNeed C (Nat.le_refl _) (Nat.le_refl _) hi0 hf)
end
