/-! EndTeller$Ways.refresh -/
def HG_X6_refresh (mc ms : Nat) (μ : Mem) : Prop := (¬ w32 (μ 7 0 5) = 0) → ∀ (r : Int) (μ1 : Mem), f_X7_countWays μ = some (r, μ1) → Gm mc ms (st μ1 7 0 6 r)
def f_X6_refresh_L42  : Nat → Int → Mem → Option (Int × Mem)
  | 0, _, _ => none
  | n + 1, x1, μ => (if w32 (μ 7 0 6) ≤ w32 x1 then some (0, (st μ 7 0 5 0)) else bn (f_X2_stepThrough (-1) μ) (fun r12 μ13 => bn (f_X2_product  μ13) (fun r15 μ16 => bn (f_X2_agreesWithWhatCame  μ16) (fun r18 μ19 => gd (inb x1 (μ19 28 0 0).toNat) (jn (fun y22 => gd (inb x1 ((st μ19 10 0 (ix x1) r15) 28 0 0).toNat) (jn (fun μ24 => bn (f_X2_goToNext  μ24) (fun r25 μ26 => f_X6_refresh_L42 n (x1 + 1) μ26)) (fun j127 => (if w32 r18 = 0 then j127  (st (st μ19 10 0 (ix x1) r15) 9 0 (ix x1) y22) else j127  (st (st (st (st μ19 10 0 (ix x1) r15) 9 0 (ix x1) y22) 7 0 8 (((st (st μ19 10 0 (ix x1) r15) 9 0 (ix x1) y22) 7 0 8) + (w32 r15))) 7 0 7 (if w32 ((st (st (st μ19 10 0 (ix x1) r15) 9 0 (ix x1) y22) 7 0 8 (((st (st μ19 10 0 (ix x1) r15) 9 0 (ix x1) y22) 7 0 8) + (w32 r15))) 7 0 7) < w32 r12 then r12 else ((st (st (st μ19 10 0 (ix x1) r15) 9 0 (ix x1) y22) 7 0 8 (((st (st μ19 10 0 (ix x1) r15) 9 0 (ix x1) y22) 7 0 8) + (w32 r15))) 7 0 7))))))) (fun j98 => (if w32 r18 = 0 then j98 (-1) else j98 r12)))))))
def f_X6_refresh  (μ : Mem) : Option (Int × Mem) := (if w32 (μ 7 0 5) = 0 then some (0, μ) else bn (f_X7_countWays  μ) (fun r2 μ3 => bn (f_X6_makeRoom  (st μ3 7 0 6 r2)) (fun r5 μ6 => bn (f_X2_goToFirst  (st (st μ6 7 0 8 0) 7 0 7 0)) (fun r8 μ9 => f_X6_refresh_L42 FU 0 μ9))))
section
variable {mc ms : Nat}
variable {p : Program} {l : Launch} {e : Env} {R : Room} {s : State} {m : MethodId} {args : Array Value} {below : List Frame} {meth : Method} {c : Code} {D : va_G} {Y : Nat → ClassId} {α : Adr} {sz : Nat} {r : Int} {μ' : Mem}
set_option maxHeartbeats 4000000 in
set_option maxRecDepth 100000 in
theorem c_X6_refresh_l42 {α1 : Adr} (C : CX p s m args meth c cX6_refresh 5 RX6 none D Y LBx (Ar LBx α sz)) (hfr : 3 ≤ R.frames) (hlc : 66 ≤ R.locals) (hcl : mc ≤ R.cells) (hsl : ms ≤ R.slots)  (hag : agr α α1)   : ∀ (n : Nat) (x1 : Int) (μ : Mem), f_X6_refresh_L42 n x1 μ = some (r, μ') → GG D Y LBx (Ar LBx α sz) p l e R s m args below meth c 5 (MQ below (Qcx D Y LBx α sz none (agr α) μ') args s mc ms (Ar LBx α sz)) α1 mc ms [(0, vr α1 7 0), (1, vi x1)] [] μ 42 := by
  intro n
  induction n with
  | zero =>
    intro x1 μ hf
    exact nomatch (show (none : Option (Int × Mem)) = some _ from hf)
  | succ n ih =>
    intro x1 μ hf
    rw [f_X6_refresh_L42.eq_2] at hf
    refine g_ild_n C 1 rfl rfl dX6_refresh_42 ?_
    refine g_ald_n C 0 rfl rfl dX6_refresh_43 ?_
    refine g_get C dX6_refresh_44 fl_X6_37 in_7 (ec_7 _ _ _ _ _) rfl ?_
    refine g_ic_ge C 140 (by decide) dX6_refresh_47 (fun h11 => ?_) (fun h11 => ?_)
    · rw [if_pos h11] at hf
      refine g_ald_n C 0 rfl rfl dX6_refresh_140 ?_
      refine g_iconst C dX6_refresh_141 ?_
      refine g_putz C (Or.inl rfl) dX6_refresh_142 fl_X6_33 in_7 (ec_7 _ _ _ _ _) (Nat.le_of_ble_eq_true rfl) rfl (by decide) ?_
      exact g_vret C hag dX6_refresh_145 hf
    · rw [if_neg h11] at hf
      refine g_ald_n C 0 rfl rfl dX6_refresh_50 ?_
      refine g_get C dX6_refresh_51 fl_X6_12 in_7 (ec_7 _ _ _ _ _) rfl ?_
      refine g_iconst C dX6_refresh_54 ?_
      obtain ⟨r12, μ13, hc14, hf⟩ := bn_some hf
      refine g_callVp (As := [vi (-1)]) (rest := []) C ⟨hcl, hsl⟩ dX6_refresh_55 cw_X2_stepThrough m_3_84 m_3_85 m_3_86 in_11 (ec_11 _ _ _ _ _) rfl rfl (c_X2_stepThrough  hc14) rfl rfl (Nat.le_of_ble_eq_true rfl) ⟨Nat.le_trans (Nat.le_of_ble_eq_true rfl) hfr, Nat.le_trans (Nat.le_of_ble_eq_true rfl) hlc⟩ ?_
      refine g_ist_n (lo' := [(2, vi r12), (0, vr α1 7 0), (1, vi x1)]) C rfl (by decide) rfl dX6_refresh_58 ?_
      refine g_ald_n C 1 rfl rfl dX6_refresh_59 ?_
      refine g_get C dX6_refresh_60 fl_X6_12 in_7 (ec_7 _ _ _ _ _) rfl ?_
      obtain ⟨r15, μ16, hc17, hf⟩ := bn_some hf
      refine g_callVp (As := []) (rest := []) C ⟨hcl, hsl⟩ dX6_refresh_63 cw_X2_product m_3_97 m_3_98 m_3_99 in_11 (ec_11 _ _ _ _ _) rfl rfl (c_X2_product  hc17) rfl rfl (Nat.le_of_ble_eq_true rfl) ⟨Nat.le_trans (Nat.le_of_ble_eq_true rfl) hfr, Nat.le_trans (Nat.le_of_ble_eq_true rfl) hlc⟩ ?_
      refine g_ist_n (lo' := [(3, vi r15), (2, vi r12), (0, vr α1 7 0), (1, vi x1)]) C rfl (by decide) rfl dX6_refresh_66 ?_
      refine g_ald_n C 2 rfl rfl dX6_refresh_67 ?_
      refine g_get C dX6_refresh_68 fl_X6_12 in_7 (ec_7 _ _ _ _ _) rfl ?_
      obtain ⟨r18, μ19, hc20, hf⟩ := bn_some hf
      refine g_callVp (As := []) (rest := []) C ⟨hcl, hsl⟩ dX6_refresh_71 cw_X2_agreesWithWhatCame m_3_101 m_3_102 m_3_103 in_11 (ec_11 _ _ _ _ _) rfl rfl (c_X2_agreesWithWhatCame  hc20) rfl rfl (Nat.le_of_ble_eq_true rfl) ⟨Nat.le_trans (Nat.le_of_ble_eq_true rfl) hfr, Nat.le_trans (Nat.le_of_ble_eq_true rfl) hlc⟩ ?_
      refine g_ist (lo' := [(4, vi r18), (3, vi r15), (2, vi r12), (0, vr α1 7 0), (1, vi x1)]) C (by decide) rfl dX6_refresh_74 ?_
      refine g_ald_n C 3 rfl rfl dX6_refresh_76 ?_
      refine g_get C dX6_refresh_77 fl_X6_30 in_7 (ec_7 _ _ _ _ _) rfl ?_
      refine g_ild_n C 4 rfl rfl dX6_refresh_80 ?_
      refine g_ild_n C 1 rfl rfl dX6_refresh_81 ?_
      obtain ⟨g21, hf⟩ := gd_some hf
      refine g_iast C dX6_refresh_82 in_10 (fun _ => ec_10 _ _ _ _ _) (by decide) g21 ?_
      refine g_ald_n C 3 rfl rfl dX6_refresh_83 ?_
      refine g_get C dX6_refresh_84 fl_X6_27 in_7 (ec_7 _ _ _ _ _) rfl ?_
      refine g_ild_n C 4 rfl rfl dX6_refresh_87 ?_
      refine g_ild C 0 rfl dX6_refresh_88 ?_
      obtain ⟨j98, ej30, hf⟩ := jn_some hf
      have hj98 : ∀ (y22 : Int), j98 y22 = some (r, μ') → GG D Y LBx (Ar LBx α sz) p l e R s m args below meth c 5 (MQ below (Qcx D Y LBx α sz none (agr α) μ') args s mc ms (Ar LBx α sz)) α1 mc ms [(0, vr α1 7 0), (1, vi x1), (2, vi r12), (3, vi r15), (4, vi r18)] [vi y22, vi x1, vr α1 9 0] (st μ19 10 0 (ix x1) r15) 98 := by
        intro y22 hf
        rw [ej30] at hf
        try dsimp only at hf
        obtain ⟨g23, hf⟩ := gd_some hf
        refine g_iast C dX6_refresh_98 in_9 (fun _ => ec_9 _ _ _ _ _) (by decide) g23 ?_
        refine g_ild C 4 rfl dX6_refresh_99 ?_
        obtain ⟨j127, ej28, hf⟩ := jn_some hf
        have hj127 : ∀ (μ24 : Mem), j127 μ24 = some (r, μ') → GG D Y LBx (Ar LBx α sz) p l e R s m args below meth c 5 (MQ below (Qcx D Y LBx α sz none (agr α) μ') args s mc ms (Ar LBx α sz)) α1 mc ms [(0, vr α1 7 0), (1, vi x1)] [] μ24 127 := by
          intro μ24 hf
          rw [ej28] at hf
          try dsimp only at hf
          refine g_ald_n C 0 rfl rfl dX6_refresh_127 ?_
          refine g_get C dX6_refresh_128 fl_X6_12 in_7 (ec_7 _ _ _ _ _) rfl ?_
          obtain ⟨r25, μ26, hc27, hf⟩ := bn_some hf
          refine g_callVp (As := []) (rest := []) C ⟨hcl, hsl⟩ dX6_refresh_131 cw_X2_goToNext m_3_105 m_3_106 m_3_107 in_11 (ec_11 _ _ _ _ _) rfl rfl (c_X2_goToNext  hc27) rfl rfl (Nat.le_of_ble_eq_true rfl) ⟨Nat.le_trans (Nat.le_of_ble_eq_true rfl) hfr, Nat.le_trans (Nat.le_of_ble_eq_true rfl) hlc⟩ ?_
          refine g_iinc (lo' := [(1, vi (x1 + 1)), (0, vr α1 7 0)]) C 1 rfl (by decide) rfl dX6_refresh_134 ?_
          refine g_goto C 42 (by decide) dX6_refresh_137 ?_
          exact g_sub C [1, 0] rfl (ih _ _ hf)
        clear ej28
        refine g_if_eq C 127 (by decide) dX6_refresh_101 (fun h29 => ?_) (fun h29 => ?_)
        · rw [if_pos h29] at hf
          exact g_sub C [0, 1] rfl (hj127 _ hf)
        · rw [if_neg h29] at hf
          refine g_ald_n C 0 rfl rfl dX6_refresh_104 ?_
          refine g_dup C rfl dX6_refresh_105 ?_
          refine g_get C dX6_refresh_106 fl_X6_44 in_7 (ec_7 _ _ _ _ _) rfl ?_
          refine g_ild_n C 3 rfl rfl dX6_refresh_109 ?_
          refine g_i2l C dX6_refresh_110 ?_
          refine g_ladd C dX6_refresh_111 ?_
          refine g_putl C dX6_refresh_112 fl_X6_44 in_7 (ec_7 _ _ _ _ _) (Nat.le_of_ble_eq_true rfl) rfl (by decide) ?_
          refine g_ald_n C 0 rfl rfl dX6_refresh_115 ?_
          refine g_ald_n C 0 rfl rfl dX6_refresh_116 ?_
          refine g_get C dX6_refresh_117 fl_X6_41 in_7 (ec_7 _ _ _ _ _) rfl ?_
          refine g_ild_n C 2 rfl rfl dX6_refresh_120 ?_
          refine g_max C m_3_72 m_3_73 m_1_14 m_3_74 (Nat.le_trans (by decide) hfr) (Nat.le_trans (Nat.le_of_ble_eq_true rfl) hlc) hcl hsl dX6_refresh_121 ?_
          refine g_puti C dX6_refresh_124 fl_X6_41 in_7 (ec_7 _ _ _ _ _) (Nat.le_of_ble_eq_true rfl) rfl (by decide) ?_
          exact g_sub C [0, 1] rfl (hj127 _ hf)
      clear ej30
      refine g_if_eq C 97 (by decide) dX6_refresh_90 (fun h31 => ?_) (fun h31 => ?_)
      · rw [if_pos h31] at hf
        refine g_iconst C dX6_refresh_97 ?_
        exact g_sub C [3, 4, 2, 1, 0] rfl (hj98 _ hf)
      · rw [if_neg h31] at hf
        refine g_ild_n C 2 rfl rfl dX6_refresh_93 ?_
        refine g_goto C 98 (by decide) dX6_refresh_94 ?_
        exact g_sub C [3, 4, 2, 1, 0] rfl (hj98 _ hf)
set_option maxHeartbeats 4000000 in
set_option maxRecDepth 100000 in
theorem b_X6_refresh  {μ : Mem} (C : CX p s m args meth c cX6_refresh 5 RX6 none D Y LBx (Ar LBx α sz)) (hfr : 3 ≤ R.frames) (hlc : 66 ≤ R.locals) (hcl : mc ≤ R.cells) (hsl : ms ≤ R.slots)  (hg : HG_X6_refresh mc ms μ) (hf : f_X6_refresh μ = some (r, μ')) : GG D Y LBx (Ar LBx α sz) p l e R s m args below meth c 5 (MQ below (Qcx D Y LBx α sz none (agr α) μ') args s mc ms (Ar LBx α sz)) α 0 0 [(0, vr α 7 0)] [] μ 0 := by
  unfold f_X6_refresh at hf
  refine g_ald_n C 0 rfl rfl dX6_refresh_0 ?_
  refine g_get C dX6_refresh_1 fl_X6_33 in_7 (ec_7 _ _ _ _ _) rfl ?_
  refine g_if_ne C 8 (by decide) dX6_refresh_4 (fun h1 => ?_) (fun h1 => ?_)
  · rw [if_pos h1] at hf
    refine g_wid (k := mc) (n := ms) (Nat.zero_le _) (Nat.zero_le _) ?_
    exact g_vret C (agr_rfl α) dX6_refresh_7 hf
  · rw [if_neg h1] at hf
    refine g_ald_n C 0 rfl rfl dX6_refresh_8 ?_
    refine g_ald_n C 0 rfl rfl dX6_refresh_9 ?_
    refine g_get C dX6_refresh_10 fl_X6_22 in_7 (ec_7 _ _ _ _ _) rfl ?_
    obtain ⟨r2, μ3, hc4, hf⟩ := bn_some hf
    refine g_callVp (As := []) (rest := [vr α 7 0]) C ⟨Nat.zero_le _, Nat.zero_le _⟩ dX6_refresh_13 cw_X7_countWays m_3_64 m_3_41 m_3_42 in_15 (ec_15 _ _ _ _ _) rfl rfl (c_X7_countWays  hc4) rfl rfl (Nat.le_of_ble_eq_true rfl) ⟨Nat.le_trans (Nat.le_of_ble_eq_true rfl) hfr, Nat.le_trans (Nat.le_of_ble_eq_true rfl) hlc⟩ ?_
    refine g_puti C dX6_refresh_16 fl_X6_37 in_7 (ec_7 _ _ _ _ _) (Nat.le_of_ble_eq_true rfl) rfl (by decide) ?_
    refine g_ald_n C 0 rfl rfl dX6_refresh_19 ?_
    obtain ⟨r5, μ6, hc7, hf⟩ := bn_some hf
    refine g_callV (As := []) (rest := []) C dX6_refresh_20 cw_X6_makeRoom m_3_65 m_3_66 m_3_67 in_7 (ec_7 _ _ _ _ _) rfl rfl (c_X6_makeRoom  (hg (by assumption) _ _ hc4) hc7) rfl rfl (Nat.le_of_ble_eq_true rfl) ⟨Nat.le_trans (Nat.le_of_ble_eq_true rfl) hfr, Nat.le_trans (Nat.le_of_ble_eq_true rfl) hlc⟩ ⟨by rw [Nat.zero_add]; exact hcl, by rw [Nat.zero_add]; exact hsl⟩ (fun α1 hag => ?_)
    rw [Nat.zero_add, Nat.zero_add]
    refine g_re (lo' := [(0, vr α1 7 0)]) (sk' := []) (by rw [show vr α1 7 0 = vr α 7 0 from congrArg Value.ref (hag 7 0 (by decide) (by decide))]) (by rfl) ?_
    refine g_ald_n C 0 rfl rfl dX6_refresh_23 ?_
    refine g_lconst (x := 0) C rfl dX6_refresh_24 ?_
    refine g_putl C dX6_refresh_25 fl_X6_44 in_7 (ec_7 _ _ _ _ _) (Nat.le_of_ble_eq_true rfl) rfl (by decide) ?_
    refine g_ald_n C 0 rfl rfl dX6_refresh_28 ?_
    refine g_iconst C dX6_refresh_29 ?_
    refine g_puti C dX6_refresh_30 fl_X6_41 in_7 (ec_7 _ _ _ _ _) (Nat.le_of_ble_eq_true rfl) rfl (by decide) ?_
    refine g_ald_n C 0 rfl rfl dX6_refresh_33 ?_
    refine g_get C dX6_refresh_34 fl_X6_12 in_7 (ec_7 _ _ _ _ _) rfl ?_
    obtain ⟨r8, μ9, hc10, hf⟩ := bn_some hf
    refine g_callVp (As := []) (rest := []) C ⟨hcl, hsl⟩ dX6_refresh_37 cw_X2_goToFirst m_3_75 m_3_76 m_3_77 in_11 (ec_11 _ _ _ _ _) rfl rfl (c_X2_goToFirst  hc10) rfl rfl (Nat.le_of_ble_eq_true rfl) ⟨Nat.le_trans (Nat.le_of_ble_eq_true rfl) hfr, Nat.le_trans (Nat.le_of_ble_eq_true rfl) hlc⟩ ?_
    refine g_iconst C dX6_refresh_40 ?_
    refine g_ist_n (lo' := [(1, vi 0), (0, vr α1 7 0)]) C rfl (by decide) rfl dX6_refresh_41 ?_
    refine g_sub C [1, 0] rfl (c_X6_refresh_l42 C hfr hlc hcl hsl hag  _ _ _ hf)
set_option maxHeartbeats 4000000 in
set_option maxRecDepth 100000 in
theorem c_X6_refresh {l : Launch} {D : va_G} {Y : Nat → ClassId} {α : Adr}  {mc ms : Nat} {μ : Mem} {r : Int} {μ' : Mem}  (hg : HG_X6_refresh mc ms μ) (hf : f_X6_refresh μ = some (r, μ')) : Ctr l D Y LBx yX6_refresh cX6_refresh 5 none 3 66 mc ms [vr α 7 0] α μ none (agr α) μ' := Ctr_of pn_X6 rfl rfl (Nat.le_of_ble_eq_true rfl) LBx_nd (fun p e s m below meth c sz C => b_X6_refresh C (Nat.le_refl _) (Nat.le_refl _) (Nat.le_refl _) (Nat.le_refl _)  hg hf)
end

/-! EndTeller.chanceTrouble -/
def HG_X8_chanceTrouble (mc ms : Nat) (μ : Mem) : Prop := ∀ (r : Int) (μ1 : Mem), f_X7_isStuck μ = some (r, μ1) → w32 r = 0 → ∀ (r2 : Int) (μ2 : Mem), f_X7_isGreat μ1 = some (r2, μ2) → w32 r2 = 0 → HG_X6_refresh mc ms μ2
def f_X8_chanceTrouble  (μ : Mem) : Option (Int × Mem) := bn (f_X7_isStuck  μ) (fun r1 μ2 => (if w32 r1 = 0 then bn (f_X7_isGreat  μ2) (fun r5 μ6 => (if w32 r5 = 0 then bn (f_X6_refresh  μ6) (fun r9 μ10 => (if w64 (μ10 7 0 8) ≤ w64 0 then some (10, μ10) else some (0, μ10))) else some (9, μ6))) else some (8, μ2)))
section
variable {mc ms : Nat}
variable {p : Program} {l : Launch} {e : Env} {R : Room} {s : State} {m : MethodId} {args : Array Value} {below : List Frame} {meth : Method} {c : Code} {D : va_G} {Y : Nat → ClassId} {α : Adr} {sz : Nat} {r : Int} {μ' : Mem}
set_option maxHeartbeats 4000000 in
set_option maxRecDepth 100000 in
theorem b_X8_chanceTrouble  {μ : Mem} (C : CX p s m args meth c cX8_chanceTrouble 1 RX8 (some .int) D Y LBx (Ar LBx α sz)) (hfr : 4 ≤ R.frames) (hlc : 90 ≤ R.locals) (hcl : mc ≤ R.cells) (hsl : ms ≤ R.slots)  (hg : HG_X8_chanceTrouble mc ms μ) (hf : f_X8_chanceTrouble μ = some (r, μ')) : GG D Y LBx (Ar LBx α sz) p l e R s m args below meth c 1 (MQ below (Qcx D Y LBx α sz (some (vi r)) (agr α) μ') args s mc ms (Ar LBx α sz)) α 0 0 [(0, vr α 0 0)] [] μ 0 := by
  unfold f_X8_chanceTrouble at hf
  refine g_ald_n C 0 rfl rfl dX8_chanceTrouble_0 ?_
  refine g_get C dX8_chanceTrouble_1 fl_X8_50 in_0 (ec_0 _ _ _ _ _) rfl ?_
  obtain ⟨r1, μ2, hc3, hf⟩ := bn_some hf
  refine g_callVp (As := []) (rest := []) C ⟨Nat.zero_le _, Nat.zero_le _⟩ dX8_chanceTrouble_4 cw_X7_isStuck m_3_56 m_3_57 m_3_58 in_15 (ec_15 _ _ _ _ _) rfl rfl (c_X7_isStuck  hc3) rfl rfl (Nat.le_of_ble_eq_true rfl) ⟨Nat.le_trans (Nat.le_of_ble_eq_true rfl) hfr, Nat.le_trans (Nat.le_of_ble_eq_true rfl) hlc⟩ ?_
  refine g_if_eq C 13 (by decide) dX8_chanceTrouble_7 (fun h4 => ?_) (fun h4 => ?_)
  · rw [if_pos h4] at hf
    refine g_ald_n C 0 rfl rfl dX8_chanceTrouble_13 ?_
    refine g_get C dX8_chanceTrouble_14 fl_X8_50 in_0 (ec_0 _ _ _ _ _) rfl ?_
    obtain ⟨r5, μ6, hc7, hf⟩ := bn_some hf
    refine g_callVp (As := []) (rest := []) C ⟨Nat.zero_le _, Nat.zero_le _⟩ dX8_chanceTrouble_17 cw_X7_isGreat m_3_35 m_3_36 m_3_37 in_15 (ec_15 _ _ _ _ _) rfl rfl (c_X7_isGreat  hc7) rfl rfl (Nat.le_of_ble_eq_true rfl) ⟨Nat.le_trans (Nat.le_of_ble_eq_true rfl) hfr, Nat.le_trans (Nat.le_of_ble_eq_true rfl) hlc⟩ ?_
    refine g_if_eq C 26 (by decide) dX8_chanceTrouble_20 (fun h8 => ?_) (fun h8 => ?_)
    · rw [if_pos h8] at hf
      refine g_ald_n C 0 rfl rfl dX8_chanceTrouble_26 ?_
      refine g_get C dX8_chanceTrouble_27 fl_X8_42 in_0 (ec_0 _ _ _ _ _) rfl ?_
      obtain ⟨r9, μ10, hc11, hf⟩ := bn_some hf
      refine g_callV (As := []) (rest := []) C dX8_chanceTrouble_30 cw_X6_refresh m_3_60 m_3_61 m_3_62 in_7 (ec_7 _ _ _ _ _) rfl rfl (c_X6_refresh  (hg _ _ hc3 (by assumption) _ _ hc7 (by assumption)) hc11) rfl rfl (Nat.le_of_ble_eq_true rfl) ⟨Nat.le_trans (Nat.le_of_ble_eq_true rfl) hfr, Nat.le_trans (Nat.le_of_ble_eq_true rfl) hlc⟩ ⟨by rw [Nat.zero_add]; exact hcl, by rw [Nat.zero_add]; exact hsl⟩ (fun α1 hag => ?_)
      rw [Nat.zero_add, Nat.zero_add]
      refine g_re (lo' := [(0, vr α1 0 0)]) (sk' := []) (by rw [show vr α1 0 0 = vr α 0 0 from congrArg Value.ref (hag 0 0 (by decide) (by decide))]) (by rfl) ?_
      refine g_ald_n C 0 rfl rfl dX8_chanceTrouble_33 ?_
      refine g_get C dX8_chanceTrouble_34 fl_X8_42 in_0 (ec_0 _ _ _ _ _) rfl ?_
      refine g_get C dX8_chanceTrouble_37 fl_X8_212 in_7 (ec_7 _ _ _ _ _) rfl ?_
      refine g_lconst (x := 0) C rfl dX8_chanceTrouble_40 ?_
      refine g_lc_le C 49 (by decide) dX8_chanceTrouble_41 dX8_chanceTrouble_42 (fun h12 => ?_) (fun h12 => ?_)
      · rw [if_pos h12] at hf
        refine g_bipush C rfl dX8_chanceTrouble_49 ?_
        exact g_iret C hag dX8_chanceTrouble_51 hf
      · rw [if_neg h12] at hf
        refine g_iconst C dX8_chanceTrouble_45 ?_
        refine g_goto C 51 (by decide) dX8_chanceTrouble_46 ?_
        exact g_iret C hag dX8_chanceTrouble_51 hf
    · rw [if_neg h8] at hf
      refine g_bipush C rfl dX8_chanceTrouble_23 ?_
      refine g_wid (k := mc) (n := ms) (Nat.zero_le _) (Nat.zero_le _) ?_
      exact g_iret C (agr_rfl α) dX8_chanceTrouble_25 hf
  · rw [if_neg h4] at hf
    refine g_bipush C rfl dX8_chanceTrouble_10 ?_
    refine g_wid (k := mc) (n := ms) (Nat.zero_le _) (Nat.zero_le _) ?_
    exact g_iret C (agr_rfl α) dX8_chanceTrouble_12 hf
set_option maxHeartbeats 4000000 in
set_option maxRecDepth 100000 in
theorem c_X8_chanceTrouble {l : Launch} {D : va_G} {Y : Nat → ClassId} {α : Adr}  {mc ms : Nat} {μ : Mem} {r : Int} {μ' : Mem}  (hg : HG_X8_chanceTrouble mc ms μ) (hf : f_X8_chanceTrouble μ = some (r, μ')) : Ctr l D Y LBx yX8_chanceTrouble cX8_chanceTrouble 1 (some .int) 4 90 mc ms [vr α 0 0] α μ (some (vi r)) (agr α) μ' := Ctr_of pn_X8 rfl rfl (Nat.le_of_ble_eq_true rfl) LBx_nd (fun p e s m below meth c sz C => b_X8_chanceTrouble C (Nat.le_refl _) (Nat.le_refl _) (Nat.le_refl _) (Nat.le_refl _)  hg hf)
end

/-! EndTeller.ends -/
def HG_X8_ends (mc ms : Nat) (a1 : Int) (μ : Mem) : Prop := 0 ≤ w32 a1 → HG_X8_chanceTrouble mc ms μ
def f_X8_ends (a1 : Int) (μ : Mem) : Option (Int × Mem) := jn (fun y2 μ1 => (if w32 y2 = 0 then bn (f_X6_weightEndingBy a1 μ1) (fun r4 μ5 => bn (f_X8_tell r4 (μ5 7 0 8) μ5) (fun r7 μ8 => gd (bb r7) (some (r7, μ8)))) else bn (f_X8_refuse y2 μ1) (fun r11 μ12 => gd (bb r11) (some (r11, μ12))))) (fun j12 => (if 0 ≤ w32 a1 then bn (f_X8_chanceTrouble  μ) (fun r17 μ18 => j12 r17 μ18) else j12 5 μ))
section
variable {mc ms : Nat}
variable {p : Program} {l : Launch} {e : Env} {R : Room} {s : State} {m : MethodId} {args : Array Value} {below : List Frame} {meth : Method} {c : Code} {D : va_G} {Y : Nat → ClassId} {α : Adr} {sz : Nat} {r : Int} {μ' : Mem}
set_option maxHeartbeats 4000000 in
set_option maxRecDepth 100000 in
theorem b_X8_ends {a1 : Int} {μ : Mem} (C : CX p s m args meth c cX8_ends 3 RX8 (some .boolean) D Y LBx (Ar LBx α sz)) (hfr : 5 ≤ R.frames) (hlc : 110 ≤ R.locals) (hcl : mc ≤ R.cells) (hsl : ms ≤ R.slots)  (hg : HG_X8_ends mc ms a1 μ) (hf : f_X8_ends a1 μ = some (r, μ')) : GG D Y LBx (Ar LBx α sz) p l e R s m args below meth c 3 (MQ below (Qcx D Y LBx α sz (some (vi r)) (agr α) μ') args s mc ms (Ar LBx α sz)) α 0 0 [(0, vr α 0 0), (1, vi a1)] [] μ 0 := by
  unfold f_X8_ends at hf
  refine g_ild_n C 1 rfl rfl dX8_ends_0 ?_
  obtain ⟨j12, ej15, hf⟩ := jn_some hf
  have hj12 : ∀ (α1 : Adr) (hag : agr α α1) (y2 : Int) (μ1 : Mem), j12 y2 μ1 = some (r, μ') → GG D Y LBx (Ar LBx α sz) p l e R s m args below meth c 3 (MQ below (Qcx D Y LBx α sz (some (vi r)) (agr α) μ') args s mc ms (Ar LBx α sz)) α1 mc ms [(0, vr α1 0 0), (1, vi a1)] [vi y2] μ1 12 := by
    intro α1 hag y2 μ1 hf
    rw [ej15] at hf
    try dsimp only at hf
    refine g_ist_n (lo' := [(2, vi y2), (0, vr α1 0 0), (1, vi a1)]) C rfl (by decide) rfl dX8_ends_12 ?_
    refine g_ild_n C 0 rfl rfl dX8_ends_13 ?_
    refine g_if_eq C 23 (by decide) dX8_ends_14 (fun h3 => ?_) (fun h3 => ?_)
    · rw [if_pos h3] at hf
      refine g_ald_n C 1 rfl rfl dX8_ends_23 ?_
      refine g_ald_n C 1 rfl rfl dX8_ends_24 ?_
      refine g_get C dX8_ends_25 fl_X8_42 in_0 (ec_0 _ _ _ _ _) rfl ?_
      refine g_ild_n C 2 rfl rfl dX8_ends_28 ?_
      obtain ⟨r4, μ5, hc6, hf⟩ := bn_some hf
      refine g_callVp (As := [vi a1]) (rest := [vr α1 0 0]) C ⟨hcl, hsl⟩ dX8_ends_29 cw_X6_weightEndingBy m_3_109 m_3_110 m_3_111 in_7 (ec_7 _ _ _ _ _) rfl rfl (c_X6_weightEndingBy  hc6) rfl rfl (Nat.le_of_ble_eq_true rfl) ⟨Nat.le_trans (Nat.le_of_ble_eq_true rfl) hfr, Nat.le_trans (Nat.le_of_ble_eq_true rfl) hlc⟩ ?_
      refine g_ald_n C 1 rfl rfl dX8_ends_32 ?_
      refine g_get C dX8_ends_33 fl_X8_42 in_0 (ec_0 _ _ _ _ _) rfl ?_
      refine g_get C dX8_ends_36 fl_X8_212 in_7 (ec_7 _ _ _ _ _) rfl ?_
      obtain ⟨r7, μ8, hc9, hf⟩ := bn_some hf
      refine g_callVp (As := [vl r4, vl (μ5 7 0 8)]) (rest := []) C ⟨hcl, hsl⟩ dX8_ends_39 cw_X8_tell m_3_117 m_3_119 m_0_7 in_0 (ec_0 _ _ _ _ _) rfl rfl (c_X8_tell  hc9) rfl rfl (Nat.le_of_ble_eq_true rfl) ⟨Nat.le_trans (Nat.le_of_ble_eq_true rfl) hfr, Nat.le_trans (Nat.le_of_ble_eq_true rfl) hlc⟩ ?_
      obtain ⟨g10, hf⟩ := gd_some hf
      exact g_zret C hag g10 dX8_ends_42 hf
    · rw [if_neg h3] at hf
      refine g_ald_n C 1 rfl rfl dX8_ends_17 ?_
      refine g_ild_n C 0 rfl rfl dX8_ends_18 ?_
      obtain ⟨r11, μ12, hc13, hf⟩ := bn_some hf
      refine g_callVp (As := [vi y2]) (rest := []) C ⟨hcl, hsl⟩ dX8_ends_19 cw_X8_refuse m_2_74 m_2_76 m_0_0 in_0 (ec_0 _ _ _ _ _) rfl rfl (c_X8_refuse  hc13) rfl rfl (Nat.le_of_ble_eq_true rfl) ⟨Nat.le_trans (Nat.le_of_ble_eq_true rfl) hfr, Nat.le_trans (Nat.le_of_ble_eq_true rfl) hlc⟩ ?_
      obtain ⟨g14, hf⟩ := gd_some hf
      exact g_zret C hag g14 dX8_ends_22 hf
  clear ej15
  refine g_if_ge C 8 (by decide) dX8_ends_1 (fun h16 => ?_) (fun h16 => ?_)
  · rw [if_pos h16] at hf
    refine g_ald_n C 0 rfl rfl dX8_ends_8 ?_
    obtain ⟨r17, μ18, hc19, hf⟩ := bn_some hf
    refine g_callV (As := []) (rest := []) C dX8_ends_9 cw_X8_chanceTrouble m_3_52 m_3_54 m_0_6 in_0 (ec_0 _ _ _ _ _) rfl rfl (c_X8_chanceTrouble  (hg (by assumption)) hc19) rfl rfl (Nat.le_of_ble_eq_true rfl) ⟨Nat.le_trans (Nat.le_of_ble_eq_true rfl) hfr, Nat.le_trans (Nat.le_of_ble_eq_true rfl) hlc⟩ ⟨by rw [Nat.zero_add]; exact hcl, by rw [Nat.zero_add]; exact hsl⟩ (fun α1 hag => ?_)
    rw [Nat.zero_add, Nat.zero_add]
    refine g_re (lo' := [(0, vr α1 0 0), (1, vi a1)]) (sk' := [vi r17]) (by rw [show vr α1 0 0 = vr α 0 0 from congrArg Value.ref (hag 0 0 (by decide) (by decide))]) (by rfl) ?_
    exact g_sub C [0, 1] rfl (hj12 α1 hag _ _ hf)
  · rw [if_neg h16] at hf
    refine g_iconst C dX8_ends_4 ?_
    refine g_goto C 12 (by decide) dX8_ends_5 ?_
    refine g_wid (k := mc) (n := ms) (Nat.zero_le _) (Nat.zero_le _) ?_
    exact g_sub C [0, 1] rfl (hj12 α (agr_rfl α) _ _ hf)
set_option maxHeartbeats 4000000 in
set_option maxRecDepth 100000 in
theorem c_X8_ends {l : Launch} {D : va_G} {Y : Nat → ClassId} {α : Adr} {a1 : Int} {mc ms : Nat} {μ : Mem} {r : Int} {μ' : Mem}  (hg : HG_X8_ends mc ms a1 μ) (hf : f_X8_ends a1 μ = some (r, μ')) : Ctr l D Y LBx yX8_ends cX8_ends 3 (some .boolean) 5 110 mc ms [vr α 0 0, vi a1] α μ (some (vi r)) (agr α) μ' := Ctr_of pn_X8 rfl rfl (Nat.le_of_ble_eq_true rfl) LBx_nd (fun p e s m below meth c sz C => b_X8_ends C (Nat.le_refl _) (Nat.le_refl _) (Nat.le_refl _) (Nat.le_refl _)  hg hf)
end

/-! EndTeller.done -/
def HG_X8_done (mc ms : Nat) (a1 a2 : Int) (μ : Mem) : Prop := ∀ (r : Int) (μ1 : Mem), f_X7_hasPart a1 μ = some (r, μ1) → ¬ w32 r = 0 → 0 ≤ w32 a2 → HG_X8_chanceTrouble mc ms μ1
def f_X8_done (a1 : Int) (a2 : Int) (μ : Mem) : Option (Int × Mem) := bn (f_X7_hasPart a1 μ) (fun r1 μ2 => (if w32 r1 = 0 then bn (f_X8_refuse 2 μ2) (fun r5 μ6 => gd (bb r5) (some (r5, μ6))) else jn (fun y10 μ9 => (if w32 y10 = 0 then bn (f_X6_weightWithPartBy a1 a2 μ9) (fun r12 μ13 => bn (f_X8_tell r12 (μ13 7 0 8) μ13) (fun r15 μ16 => gd (bb r15) (some (r15, μ16)))) else bn (f_X8_refuse y10 μ9) (fun r19 μ20 => gd (bb r19) (some (r19, μ20))))) (fun j29 => (if 0 ≤ w32 a2 then bn (f_X8_chanceTrouble  μ2) (fun r25 μ26 => j29 r25 μ26) else j29 5 μ2))))
section
variable {mc ms : Nat}
variable {p : Program} {l : Launch} {e : Env} {R : Room} {s : State} {m : MethodId} {args : Array Value} {below : List Frame} {meth : Method} {c : Code} {D : va_G} {Y : Nat → ClassId} {α : Adr} {sz : Nat} {r : Int} {μ' : Mem}
set_option maxHeartbeats 4000000 in
set_option maxRecDepth 100000 in
theorem b_X8_done {a1 : Int} {a2 : Int} {μ : Mem} (C : CX p s m args meth c cX8_done 4 RX8 (some .boolean) D Y LBx (Ar LBx α sz)) (hfr : 5 ≤ R.frames) (hlc : 110 ≤ R.locals) (hcl : mc ≤ R.cells) (hsl : ms ≤ R.slots)  (hg : HG_X8_done mc ms a1 a2 μ) (hf : f_X8_done a1 a2 μ = some (r, μ')) : GG D Y LBx (Ar LBx α sz) p l e R s m args below meth c 4 (MQ below (Qcx D Y LBx α sz (some (vi r)) (agr α) μ') args s mc ms (Ar LBx α sz)) α 0 0 [(0, vr α 0 0), (1, vi a1), (2, vi a2)] [] μ 0 := by
  unfold f_X8_done at hf
  refine g_ald_n C 0 rfl rfl dX8_done_0 ?_
  refine g_get C dX8_done_1 fl_X8_50 in_0 (ec_0 _ _ _ _ _) rfl ?_
  refine g_ild_n C 1 rfl rfl dX8_done_4 ?_
  obtain ⟨r1, μ2, hc3, hf⟩ := bn_some hf
  refine g_callVp (As := [vi a1]) (rest := []) C ⟨Nat.zero_le _, Nat.zero_le _⟩ dX8_done_5 cw_X7_hasPart m_2_200 m_2_201 m_2_202 in_15 (ec_15 _ _ _ _ _) rfl rfl (c_X7_hasPart  hc3) rfl rfl (Nat.le_of_ble_eq_true rfl) ⟨Nat.le_trans (Nat.le_of_ble_eq_true rfl) hfr, Nat.le_trans (Nat.le_of_ble_eq_true rfl) hlc⟩ ?_
  refine g_if_ne C 17 (by decide) dX8_done_8 (fun h4 => ?_) (fun h4 => ?_)
  · rw [if_pos h4] at hf
    refine g_ald_n C 0 rfl rfl dX8_done_11 ?_
    refine g_iconst C dX8_done_12 ?_
    obtain ⟨r5, μ6, hc7, hf⟩ := bn_some hf
    refine g_callVp (As := [vi 2]) (rest := []) C ⟨Nat.zero_le _, Nat.zero_le _⟩ dX8_done_13 cw_X8_refuse m_2_74 m_2_76 m_0_0 in_0 (ec_0 _ _ _ _ _) rfl rfl (c_X8_refuse  hc7) rfl rfl (Nat.le_of_ble_eq_true rfl) ⟨Nat.le_trans (Nat.le_of_ble_eq_true rfl) hfr, Nat.le_trans (Nat.le_of_ble_eq_true rfl) hlc⟩ ?_
    obtain ⟨g8, hf⟩ := gd_some hf
    refine g_wid (k := mc) (n := ms) (Nat.zero_le _) (Nat.zero_le _) ?_
    exact g_zret C (agr_rfl α) g8 dX8_done_16 hf
  · rw [if_neg h4] at hf
    refine g_ild_n C 2 rfl rfl dX8_done_17 ?_
    obtain ⟨j29, ej23, hf⟩ := jn_some hf
    have hj29 : ∀ (α1 : Adr) (hag : agr α α1) (y10 : Int) (μ9 : Mem), j29 y10 μ9 = some (r, μ') → GG D Y LBx (Ar LBx α sz) p l e R s m args below meth c 4 (MQ below (Qcx D Y LBx α sz (some (vi r)) (agr α) μ') args s mc ms (Ar LBx α sz)) α1 mc ms [(0, vr α1 0 0), (1, vi a1), (2, vi a2)] [vi y10] μ9 29 := by
      intro α1 hag y10 μ9 hf
      rw [ej23] at hf
      try dsimp only at hf
      refine g_ist_n (lo' := [(3, vi y10), (0, vr α1 0 0), (1, vi a1), (2, vi a2)]) C rfl (by decide) rfl dX8_done_29 ?_
      refine g_ild_n C 0 rfl rfl dX8_done_30 ?_
      refine g_if_eq C 40 (by decide) dX8_done_31 (fun h11 => ?_) (fun h11 => ?_)
      · rw [if_pos h11] at hf
        refine g_ald_n C 1 rfl rfl dX8_done_40 ?_
        refine g_ald_n C 1 rfl rfl dX8_done_41 ?_
        refine g_get C dX8_done_42 fl_X8_42 in_0 (ec_0 _ _ _ _ _) rfl ?_
        refine g_ild_n C 2 rfl rfl dX8_done_45 ?_
        refine g_ild_n C 3 rfl rfl dX8_done_46 ?_
        obtain ⟨r12, μ13, hc14, hf⟩ := bn_some hf
        refine g_callVp (As := [vi a1, vi a2]) (rest := [vr α1 0 0]) C ⟨hcl, hsl⟩ dX8_done_47 cw_X6_weightWithPartBy m_3_130 m_3_131 m_3_132 in_7 (ec_7 _ _ _ _ _) rfl rfl (c_X6_weightWithPartBy  hc14) rfl rfl (Nat.le_of_ble_eq_true rfl) ⟨Nat.le_trans (Nat.le_of_ble_eq_true rfl) hfr, Nat.le_trans (Nat.le_of_ble_eq_true rfl) hlc⟩ ?_
        refine g_ald_n C 1 rfl rfl dX8_done_50 ?_
        refine g_get C dX8_done_51 fl_X8_42 in_0 (ec_0 _ _ _ _ _) rfl ?_
        refine g_get C dX8_done_54 fl_X8_212 in_7 (ec_7 _ _ _ _ _) rfl ?_
        obtain ⟨r15, μ16, hc17, hf⟩ := bn_some hf
        refine g_callVp (As := [vl r12, vl (μ13 7 0 8)]) (rest := []) C ⟨hcl, hsl⟩ dX8_done_57 cw_X8_tell m_3_117 m_3_119 m_0_7 in_0 (ec_0 _ _ _ _ _) rfl rfl (c_X8_tell  hc17) rfl rfl (Nat.le_of_ble_eq_true rfl) ⟨Nat.le_trans (Nat.le_of_ble_eq_true rfl) hfr, Nat.le_trans (Nat.le_of_ble_eq_true rfl) hlc⟩ ?_
        obtain ⟨g18, hf⟩ := gd_some hf
        exact g_zret C hag g18 dX8_done_60 hf
      · rw [if_neg h11] at hf
        refine g_ald_n C 1 rfl rfl dX8_done_34 ?_
        refine g_ild_n C 0 rfl rfl dX8_done_35 ?_
        obtain ⟨r19, μ20, hc21, hf⟩ := bn_some hf
        refine g_callVp (As := [vi y10]) (rest := []) C ⟨hcl, hsl⟩ dX8_done_36 cw_X8_refuse m_2_74 m_2_76 m_0_0 in_0 (ec_0 _ _ _ _ _) rfl rfl (c_X8_refuse  hc21) rfl rfl (Nat.le_of_ble_eq_true rfl) ⟨Nat.le_trans (Nat.le_of_ble_eq_true rfl) hfr, Nat.le_trans (Nat.le_of_ble_eq_true rfl) hlc⟩ ?_
        obtain ⟨g22, hf⟩ := gd_some hf
        exact g_zret C hag g22 dX8_done_39 hf
    clear ej23
    refine g_if_ge C 25 (by decide) dX8_done_18 (fun h24 => ?_) (fun h24 => ?_)
    · rw [if_pos h24] at hf
      refine g_ald_n C 0 rfl rfl dX8_done_25 ?_
      obtain ⟨r25, μ26, hc27, hf⟩ := bn_some hf
      refine g_callV (As := []) (rest := []) C dX8_done_26 cw_X8_chanceTrouble m_3_52 m_3_54 m_0_6 in_0 (ec_0 _ _ _ _ _) rfl rfl (c_X8_chanceTrouble  (hg _ _ hc3 (by assumption) (by assumption)) hc27) rfl rfl (Nat.le_of_ble_eq_true rfl) ⟨Nat.le_trans (Nat.le_of_ble_eq_true rfl) hfr, Nat.le_trans (Nat.le_of_ble_eq_true rfl) hlc⟩ ⟨by rw [Nat.zero_add]; exact hcl, by rw [Nat.zero_add]; exact hsl⟩ (fun α1 hag => ?_)
      rw [Nat.zero_add, Nat.zero_add]
      refine g_re (lo' := [(0, vr α1 0 0), (1, vi a1), (2, vi a2)]) (sk' := [vi r25]) (by rw [show vr α1 0 0 = vr α 0 0 from congrArg Value.ref (hag 0 0 (by decide) (by decide))]) (by rfl) ?_
      exact g_sub C [0, 1, 2] rfl (hj29 α1 hag _ _ hf)
    · rw [if_neg h24] at hf
      refine g_iconst C dX8_done_21 ?_
      refine g_goto C 29 (by decide) dX8_done_22 ?_
      refine g_wid (k := mc) (n := ms) (Nat.zero_le _) (Nat.zero_le _) ?_
      exact g_sub C [0, 1, 2] rfl (hj29 α (agr_rfl α) _ _ hf)
set_option maxHeartbeats 4000000 in
set_option maxRecDepth 100000 in
theorem c_X8_done {l : Launch} {D : va_G} {Y : Nat → ClassId} {α : Adr} {a1 : Int} {a2 : Int} {mc ms : Nat} {μ : Mem} {r : Int} {μ' : Mem}  (hg : HG_X8_done mc ms a1 a2 μ) (hf : f_X8_done a1 a2 μ = some (r, μ')) : Ctr l D Y LBx yX8_done cX8_done 4 (some .boolean) 5 110 mc ms [vr α 0 0, vi a1, vi a2] α μ (some (vi r)) (agr α) μ' := Ctr_of pn_X8 rfl rfl (Nat.le_of_ble_eq_true rfl) LBx_nd (fun p e s m below meth c sz C => b_X8_done C (Nat.le_refl _) (Nat.le_refl _) (Nat.le_refl _) (Nat.le_refl _)  hg hf)
end

/-! EndTeller.promise -/
def HG_X8_promise (mc ms : Nat) (a1 a2 : Int) (μ : Mem) : Prop := (¬ w32 a1 < 0 ∧ ¬ w32 a2 < w32 a1 ∧ ¬ w32 a2 < w32 1 ∧ ¬ w32 1000000 < w32 a2) → HG_X8_chanceTrouble mc ms μ
def f_X8_promise (a1 : Int) (a2 : Int) (μ : Mem) : Option (Int × Mem) := jn (fun y1 => jn (fun y3 μ2 => (if w32 y3 = 0 then bn (f_X6_leastDayAtRisk a1 a2 (st μ2 0 0 0 0)) (fun r5 μ6 => some (r5, μ6)) else bn (f_X8_refuseNumber y3 μ2) (fun r8 μ9 => some (r8, μ9)))) (fun j38 => (if w32 y1 = 0 then j38 5 μ else bn (f_X8_chanceTrouble  μ) (fun r13 μ14 => j38 r13 μ14)))) (fun j25 => jn (j25 0) (fun j24 => (if w32 a1 < 0 then j24  else (if w32 a2 < w32 a1 then j24  else (if w32 a2 < w32 1 then j24  else (if w32 1000000 < w32 a2 then j24  else j25 1))))))
section
variable {mc ms : Nat}
variable {p : Program} {l : Launch} {e : Env} {R : Room} {s : State} {m : MethodId} {args : Array Value} {below : List Frame} {meth : Method} {c : Code} {D : va_G} {Y : Nat → ClassId} {α : Adr} {sz : Nat} {r : Int} {μ' : Mem}
set_option maxHeartbeats 4000000 in
set_option maxRecDepth 100000 in
theorem b_X8_promise {a1 : Int} {a2 : Int} {μ : Mem} (C : CX p s m args meth c cX8_promise 5 RX8 (some .int) D Y LBx (Ar LBx α sz)) (hfr : 5 ≤ R.frames) (hlc : 110 ≤ R.locals) (hcl : mc ≤ R.cells) (hsl : ms ≤ R.slots)  (hg : HG_X8_promise mc ms a1 a2 μ) (hf : f_X8_promise a1 a2 μ = some (r, μ')) : GG D Y LBx (Ar LBx α sz) p l e R s m args below meth c 5 (MQ below (Qcx D Y LBx α sz (some (vi r)) (agr α) μ') args s mc ms (Ar LBx α sz)) α 0 0 [(0, vr α 0 0), (1, vi a1), (2, vi a2)] [] μ 0 := by
  unfold f_X8_promise at hf
  refine g_ild_n C 1 rfl rfl dX8_promise_0 ?_
  obtain ⟨j25, ej16, hf⟩ := jn_some hf
  have hj25 : ∀ (y1 : Int), (¬ w32 y1 = 0 → (¬ w32 a1 < 0 ∧ ¬ w32 a2 < w32 a1 ∧ ¬ w32 a2 < w32 1 ∧ ¬ w32 1000000 < w32 a2)) → j25 y1 = some (r, μ') → GG D Y LBx (Ar LBx α sz) p l e R s m args below meth c 5 (MQ below (Qcx D Y LBx α sz (some (vi r)) (agr α) μ') args s mc ms (Ar LBx α sz)) α 0 0 [(0, vr α 0 0), (1, vi a1), (2, vi a2)] [vi y1] μ 25 := by
    intro y1 hV hf
    rw [ej16] at hf
    try dsimp only at hf
    refine g_ist_n (lo' := [(3, vi y1), (0, vr α 0 0), (1, vi a1), (2, vi a2)]) C rfl (by decide) rfl dX8_promise_25 ?_
    refine g_ild_n C 0 rfl rfl dX8_promise_26 ?_
    obtain ⟨j38, ej11, hf⟩ := jn_some hf
    have hj38 : ∀ (α1 : Adr) (hag : agr α α1) (y3 : Int) (μ2 : Mem), j38 y3 μ2 = some (r, μ') → GG D Y LBx (Ar LBx α sz) p l e R s m args below meth c 5 (MQ below (Qcx D Y LBx α sz (some (vi r)) (agr α) μ') args s mc ms (Ar LBx α sz)) α1 mc ms [(0, vr α1 0 0), (1, vi a1), (2, vi a2)] [vi y3] μ2 38 := by
      intro α1 hag y3 μ2 hf
      rw [ej11] at hf
      try dsimp only at hf
      refine g_ist (lo' := [(4, vi y3), (0, vr α1 0 0), (1, vi a1), (2, vi a2)]) C (by decide) rfl dX8_promise_38 ?_
      refine g_ild C 0 rfl dX8_promise_40 ?_
      refine g_if_eq C 52 (by decide) dX8_promise_42 (fun h4 => ?_) (fun h4 => ?_)
      · rw [if_pos h4] at hf
        refine g_ald_n C 1 rfl rfl dX8_promise_52 ?_
        refine g_iconst C dX8_promise_53 ?_
        refine g_puti C dX8_promise_54 fl_X8_9 in_0 (ec_0 _ _ _ _ _) (Nat.le_of_ble_eq_true rfl) rfl (by decide) ?_
        refine g_ald_n C 1 rfl rfl dX8_promise_57 ?_
        refine g_get C dX8_promise_58 fl_X8_42 in_0 (ec_0 _ _ _ _ _) rfl ?_
        refine g_ild_n C 2 rfl rfl dX8_promise_61 ?_
        refine g_ild_n C 3 rfl rfl dX8_promise_62 ?_
        obtain ⟨r5, μ6, hc7, hf⟩ := bn_some hf
        refine g_callVp (As := [vi a1, vi a2]) (rest := []) C ⟨hcl, hsl⟩ dX8_promise_63 cw_X6_leastDayAtRisk m_3_139 m_3_140 m_3_141 in_7 (ec_7 _ _ _ _ _) rfl rfl (c_X6_leastDayAtRisk  hc7) rfl rfl (Nat.le_of_ble_eq_true rfl) ⟨Nat.le_trans (Nat.le_of_ble_eq_true rfl) hfr, Nat.le_trans (Nat.le_of_ble_eq_true rfl) hlc⟩ ?_
        exact g_iret C hag dX8_promise_66 hf
      · rw [if_neg h4] at hf
        refine g_ald_n C 1 rfl rfl dX8_promise_45 ?_
        refine g_ild C 0 rfl dX8_promise_46 ?_
        obtain ⟨r8, μ9, hc10, hf⟩ := bn_some hf
        refine g_callVp (As := [vi y3]) (rest := []) C ⟨hcl, hsl⟩ dX8_promise_48 cw_X8_refuseNumber m_2_118 m_2_120 m_0_3 in_0 (ec_0 _ _ _ _ _) rfl rfl (c_X8_refuseNumber  hc10) rfl rfl (Nat.le_of_ble_eq_true rfl) ⟨Nat.le_trans (Nat.le_of_ble_eq_true rfl) hfr, Nat.le_trans (Nat.le_of_ble_eq_true rfl) hlc⟩ ?_
        exact g_iret C hag dX8_promise_51 hf
    clear ej11
    refine g_if_eq C 37 (by decide) dX8_promise_27 (fun h12 => ?_) (fun h12 => ?_)
    · rw [if_pos h12] at hf
      refine g_iconst C dX8_promise_37 ?_
      refine g_wid (k := mc) (n := ms) (Nat.zero_le _) (Nat.zero_le _) ?_
      exact g_sub C [1, 2, 3] rfl (hj38 α (agr_rfl α) _ _ hf)
    · rw [if_neg h12] at hf
      refine g_ald_n C 1 rfl rfl dX8_promise_30 ?_
      obtain ⟨r13, μ14, hc15, hf⟩ := bn_some hf
      refine g_callV (As := []) (rest := []) C dX8_promise_31 cw_X8_chanceTrouble m_3_52 m_3_54 m_0_6 in_0 (ec_0 _ _ _ _ _) rfl rfl (c_X8_chanceTrouble  (hg (hV (by assumption))) hc15) rfl rfl (Nat.le_of_ble_eq_true rfl) ⟨Nat.le_trans (Nat.le_of_ble_eq_true rfl) hfr, Nat.le_trans (Nat.le_of_ble_eq_true rfl) hlc⟩ ⟨by rw [Nat.zero_add]; exact hcl, by rw [Nat.zero_add]; exact hsl⟩ (fun α1 hag => ?_)
      rw [Nat.zero_add, Nat.zero_add]
      refine g_re (lo' := [(3, vi y1), (0, vr α1 0 0), (1, vi a1), (2, vi a2)]) (sk' := [vi r13]) (by rw [show vr α1 0 0 = vr α 0 0 from congrArg Value.ref (hag 0 0 (by decide) (by decide))]) (by rfl) ?_
      refine g_goto C 38 (by decide) dX8_promise_34 ?_
      exact g_sub C [1, 2, 3] rfl (hj38 α1 hag _ _ hf)
  clear ej16
  obtain ⟨j24, ej17, hf⟩ := jn_some hf
  have hj24 : j24  = some (r, μ') → GG D Y LBx (Ar LBx α sz) p l e R s m args below meth c 5 (MQ below (Qcx D Y LBx α sz (some (vi r)) (agr α) μ') args s mc ms (Ar LBx α sz)) α 0 0 [(0, vr α 0 0), (1, vi a1), (2, vi a2)] [] μ 24 := by
    intro  hf
    rw [ej17] at hf
    try dsimp only at hf
    refine g_iconst C dX8_promise_24 ?_
    exact g_sub C [0, 1, 2] rfl (hj25 _ (fun h => absurd (show w32 0 = 0 from rfl) h) hf)
  clear ej17
  refine g_if_lt C 24 (by decide) dX8_promise_1 (fun h18 => ?_) (fun h18 => ?_)
  · rw [if_pos h18] at hf
    exact g_sub C [0, 1, 2] rfl (hj24  hf)
  · rw [if_neg h18] at hf
    refine g_ild_n C 1 rfl rfl dX8_promise_4 ?_
    refine g_ild_n C 2 rfl rfl dX8_promise_5 ?_
    refine g_ic_gt C 24 (by decide) dX8_promise_6 (fun h19 => ?_) (fun h19 => ?_)
    · rw [if_pos h19] at hf
      exact g_sub C [0, 1, 2] rfl (hj24  hf)
    · rw [if_neg h19] at hf
      refine g_ild_n C 2 rfl rfl dX8_promise_9 ?_
      refine g_iconst C dX8_promise_10 ?_
      refine g_ic_lt C 24 (by decide) dX8_promise_11 (fun h20 => ?_) (fun h20 => ?_)
      · rw [if_pos h20] at hf
        exact g_sub C [0, 1, 2] rfl (hj24  hf)
      · rw [if_neg h20] at hf
        refine g_ild_n C 2 rfl rfl dX8_promise_14 ?_
        refine g_ldc (x := 1000000) C m_3_138 dX8_promise_15 ?_
        refine g_ic_gt C 24 (by decide) dX8_promise_17 (fun h21 => ?_) (fun h21 => ?_)
        · rw [if_pos h21] at hf
          exact g_sub C [0, 1, 2] rfl (hj24  hf)
        · rw [if_neg h21] at hf
          refine g_iconst C dX8_promise_20 ?_
          refine g_goto C 25 (by decide) dX8_promise_21 ?_
          exact g_sub C [0, 1, 2] rfl (hj25 _ (fun _ => ⟨h18, h19, h20, h21⟩) hf)
set_option maxHeartbeats 4000000 in
set_option maxRecDepth 100000 in
theorem c_X8_promise {l : Launch} {D : va_G} {Y : Nat → ClassId} {α : Adr} {a1 : Int} {a2 : Int} {mc ms : Nat} {μ : Mem} {r : Int} {μ' : Mem}  (hg : HG_X8_promise mc ms a1 a2 μ) (hf : f_X8_promise a1 a2 μ = some (r, μ')) : Ctr l D Y LBx yX8_promise cX8_promise 5 (some .int) 5 110 mc ms [vr α 0 0, vi a1, vi a2] α μ (some (vi r)) (agr α) μ' := Ctr_of pn_X8 rfl rfl (Nat.le_of_ble_eq_true rfl) LBx_nd (fun p e s m below meth c sz C => b_X8_promise C (Nat.le_refl _) (Nat.le_refl _) (Nat.le_refl _) (Nat.le_refl _)  hg hf)
end

/-! EndTeller.mean -/
def HG_X8_mean (mc ms : Nat)  (μ : Mem) : Prop := HG_X8_chanceTrouble mc ms μ
def f_X8_mean  (μ : Mem) : Option (Int × Mem) := bn (f_X8_chanceTrouble  μ) (fun r1 μ2 => (if w32 r1 = 0 then bn (f_X6_sumOfEnds  μ2) (fun r5 μ6 => bn (f_X8_tell r5 (μ6 7 0 8) μ6) (fun r8 μ9 => gd (bb r8) (some (r8, μ9)))) else bn (f_X8_refuse r1 μ2) (fun r12 μ13 => gd (bb r12) (some (r12, μ13)))))
section
variable {mc ms : Nat}
variable {p : Program} {l : Launch} {e : Env} {R : Room} {s : State} {m : MethodId} {args : Array Value} {below : List Frame} {meth : Method} {c : Code} {D : va_G} {Y : Nat → ClassId} {α : Adr} {sz : Nat} {r : Int} {μ' : Mem}
set_option maxHeartbeats 4000000 in
set_option maxRecDepth 100000 in
theorem b_X8_mean  {μ : Mem} (C : CX p s m args meth c cX8_mean 2 RX8 (some .boolean) D Y LBx (Ar LBx α sz)) (hfr : 5 ≤ R.frames) (hlc : 110 ≤ R.locals) (hcl : mc ≤ R.cells) (hsl : ms ≤ R.slots)  (hg : HG_X8_mean mc ms μ) (hf : f_X8_mean μ = some (r, μ')) : GG D Y LBx (Ar LBx α sz) p l e R s m args below meth c 2 (MQ below (Qcx D Y LBx α sz (some (vi r)) (agr α) μ') args s mc ms (Ar LBx α sz)) α 0 0 [(0, vr α 0 0)] [] μ 0 := by
  unfold f_X8_mean at hf
  refine g_ald_n C 0 rfl rfl dX8_mean_0 ?_
  obtain ⟨r1, μ2, hc3, hf⟩ := bn_some hf
  refine g_callV (As := []) (rest := []) C dX8_mean_1 cw_X8_chanceTrouble m_3_52 m_3_54 m_0_6 in_0 (ec_0 _ _ _ _ _) rfl rfl (c_X8_chanceTrouble  (hg) hc3) rfl rfl (Nat.le_of_ble_eq_true rfl) ⟨Nat.le_trans (Nat.le_of_ble_eq_true rfl) hfr, Nat.le_trans (Nat.le_of_ble_eq_true rfl) hlc⟩ ⟨by rw [Nat.zero_add]; exact hcl, by rw [Nat.zero_add]; exact hsl⟩ (fun α1 hag => ?_)
  rw [Nat.zero_add, Nat.zero_add]
  refine g_re (lo' := [(0, vr α1 0 0)]) (sk' := [vi r1]) (by rw [show vr α1 0 0 = vr α 0 0 from congrArg Value.ref (hag 0 0 (by decide) (by decide))]) (by rfl) ?_
  refine g_ist_n (lo' := [(1, vi r1), (0, vr α1 0 0)]) C rfl (by decide) rfl dX8_mean_4 ?_
  refine g_ild_n C 0 rfl rfl dX8_mean_5 ?_
  refine g_if_eq C 15 (by decide) dX8_mean_6 (fun h4 => ?_) (fun h4 => ?_)
  · rw [if_pos h4] at hf
    refine g_ald_n C 1 rfl rfl dX8_mean_15 ?_
    refine g_ald_n C 1 rfl rfl dX8_mean_16 ?_
    refine g_get C dX8_mean_17 fl_X8_42 in_0 (ec_0 _ _ _ _ _) rfl ?_
    obtain ⟨r5, μ6, hc7, hf⟩ := bn_some hf
    refine g_callVp (As := []) (rest := [vr α1 0 0]) C ⟨hcl, hsl⟩ dX8_mean_20 cw_X6_sumOfEnds m_3_159 m_3_160 m_3_161 in_7 (ec_7 _ _ _ _ _) rfl rfl (c_X6_sumOfEnds  hc7) rfl rfl (Nat.le_of_ble_eq_true rfl) ⟨Nat.le_trans (Nat.le_of_ble_eq_true rfl) hfr, Nat.le_trans (Nat.le_of_ble_eq_true rfl) hlc⟩ ?_
    refine g_ald_n C 1 rfl rfl dX8_mean_23 ?_
    refine g_get C dX8_mean_24 fl_X8_42 in_0 (ec_0 _ _ _ _ _) rfl ?_
    refine g_get C dX8_mean_27 fl_X8_212 in_7 (ec_7 _ _ _ _ _) rfl ?_
    obtain ⟨r8, μ9, hc10, hf⟩ := bn_some hf
    refine g_callVp (As := [vl r5, vl (μ6 7 0 8)]) (rest := []) C ⟨hcl, hsl⟩ dX8_mean_30 cw_X8_tell m_3_117 m_3_119 m_0_7 in_0 (ec_0 _ _ _ _ _) rfl rfl (c_X8_tell  hc10) rfl rfl (Nat.le_of_ble_eq_true rfl) ⟨Nat.le_trans (Nat.le_of_ble_eq_true rfl) hfr, Nat.le_trans (Nat.le_of_ble_eq_true rfl) hlc⟩ ?_
    obtain ⟨g11, hf⟩ := gd_some hf
    exact g_zret C hag g11 dX8_mean_33 hf
  · rw [if_neg h4] at hf
    refine g_ald_n C 1 rfl rfl dX8_mean_9 ?_
    refine g_ild_n C 0 rfl rfl dX8_mean_10 ?_
    obtain ⟨r12, μ13, hc14, hf⟩ := bn_some hf
    refine g_callVp (As := [vi r1]) (rest := []) C ⟨hcl, hsl⟩ dX8_mean_11 cw_X8_refuse m_2_74 m_2_76 m_0_0 in_0 (ec_0 _ _ _ _ _) rfl rfl (c_X8_refuse  hc14) rfl rfl (Nat.le_of_ble_eq_true rfl) ⟨Nat.le_trans (Nat.le_of_ble_eq_true rfl) hfr, Nat.le_trans (Nat.le_of_ble_eq_true rfl) hlc⟩ ?_
    obtain ⟨g15, hf⟩ := gd_some hf
    exact g_zret C hag g15 dX8_mean_14 hf
set_option maxHeartbeats 4000000 in
set_option maxRecDepth 100000 in
theorem c_X8_mean {l : Launch} {D : va_G} {Y : Nat → ClassId} {α : Adr}  {mc ms : Nat} {μ : Mem} {r : Int} {μ' : Mem}  (hg : HG_X8_mean mc ms μ) (hf : f_X8_mean μ = some (r, μ')) : Ctr l D Y LBx yX8_mean cX8_mean 2 (some .boolean) 5 110 mc ms [vr α 0 0] α μ (some (vi r)) (agr α) μ' := Ctr_of pn_X8 rfl rfl (Nat.le_of_ble_eq_true rfl) LBx_nd (fun p e s m below meth c sz C => b_X8_mean C (Nat.le_refl _) (Nat.le_refl _) (Nat.le_refl _) (Nat.le_refl _)  hg hf)
end

/-! EndTeller.spread -/
def HG_X8_spread (mc ms : Nat)  (μ : Mem) : Prop := HG_X8_chanceTrouble mc ms μ
def f_X8_spread  (μ : Mem) : Option (Int × Mem) := bn (f_X8_chanceTrouble  μ) (fun r1 μ2 => (if w32 r1 = 0 then bn (f_X6_gatherAll  μ2) (fun r5 μ6 => bn (f_X6_sumApart  μ6) (fun r8 μ9 => bn (f_X8_tell r8 ((μ9 7 0 8) * (μ9 7 0 8)) μ9) (fun r11 μ12 => gd (bb r11) (some (r11, μ12))))) else bn (f_X8_refuse r1 μ2) (fun r15 μ16 => gd (bb r15) (some (r15, μ16)))))
section
variable {mc ms : Nat}
variable {p : Program} {l : Launch} {e : Env} {R : Room} {s : State} {m : MethodId} {args : Array Value} {below : List Frame} {meth : Method} {c : Code} {D : va_G} {Y : Nat → ClassId} {α : Adr} {sz : Nat} {r : Int} {μ' : Mem}
set_option maxHeartbeats 4000000 in
set_option maxRecDepth 100000 in
theorem b_X8_spread  {μ : Mem} (C : CX p s m args meth c cX8_spread 2 RX8 (some .boolean) D Y LBx (Ar LBx α sz)) (hfr : 5 ≤ R.frames) (hlc : 110 ≤ R.locals) (hcl : mc ≤ R.cells) (hsl : ms ≤ R.slots)  (hg : HG_X8_spread mc ms μ) (hf : f_X8_spread μ = some (r, μ')) : GG D Y LBx (Ar LBx α sz) p l e R s m args below meth c 2 (MQ below (Qcx D Y LBx α sz (some (vi r)) (agr α) μ') args s mc ms (Ar LBx α sz)) α 0 0 [(0, vr α 0 0)] [] μ 0 := by
  unfold f_X8_spread at hf
  refine g_ald_n C 0 rfl rfl dX8_spread_0 ?_
  obtain ⟨r1, μ2, hc3, hf⟩ := bn_some hf
  refine g_callV (As := []) (rest := []) C dX8_spread_1 cw_X8_chanceTrouble m_3_52 m_3_54 m_0_6 in_0 (ec_0 _ _ _ _ _) rfl rfl (c_X8_chanceTrouble  (hg) hc3) rfl rfl (Nat.le_of_ble_eq_true rfl) ⟨Nat.le_trans (Nat.le_of_ble_eq_true rfl) hfr, Nat.le_trans (Nat.le_of_ble_eq_true rfl) hlc⟩ ⟨by rw [Nat.zero_add]; exact hcl, by rw [Nat.zero_add]; exact hsl⟩ (fun α1 hag => ?_)
  rw [Nat.zero_add, Nat.zero_add]
  refine g_re (lo' := [(0, vr α1 0 0)]) (sk' := [vi r1]) (by rw [show vr α1 0 0 = vr α 0 0 from congrArg Value.ref (hag 0 0 (by decide) (by decide))]) (by rfl) ?_
  refine g_ist_n (lo' := [(1, vi r1), (0, vr α1 0 0)]) C rfl (by decide) rfl dX8_spread_4 ?_
  refine g_ild_n C 0 rfl rfl dX8_spread_5 ?_
  refine g_if_eq C 15 (by decide) dX8_spread_6 (fun h4 => ?_) (fun h4 => ?_)
  · rw [if_pos h4] at hf
    refine g_ald_n C 1 rfl rfl dX8_spread_15 ?_
    refine g_get C dX8_spread_16 fl_X8_42 in_0 (ec_0 _ _ _ _ _) rfl ?_
    obtain ⟨r5, μ6, hc7, hf⟩ := bn_some hf
    refine g_callVp (As := []) (rest := []) C ⟨hcl, hsl⟩ dX8_spread_19 cw_X6_gatherAll m_3_167 m_3_144 m_3_145 in_7 (ec_7 _ _ _ _ _) rfl rfl (c_X6_gatherAll  hc7) rfl rfl (Nat.le_of_ble_eq_true rfl) ⟨Nat.le_trans (Nat.le_of_ble_eq_true rfl) hfr, Nat.le_trans (Nat.le_of_ble_eq_true rfl) hlc⟩ ?_
    refine g_ald_n C 1 rfl rfl dX8_spread_22 ?_
    refine g_ald_n C 1 rfl rfl dX8_spread_23 ?_
    refine g_get C dX8_spread_24 fl_X8_42 in_0 (ec_0 _ _ _ _ _) rfl ?_
    obtain ⟨r8, μ9, hc10, hf⟩ := bn_some hf
    refine g_callVp (As := []) (rest := [vr α1 0 0]) C ⟨hcl, hsl⟩ dX8_spread_27 cw_X6_sumApart m_3_168 m_3_169 m_3_170 in_7 (ec_7 _ _ _ _ _) rfl rfl (c_X6_sumApart  hc10) rfl rfl (Nat.le_of_ble_eq_true rfl) ⟨Nat.le_trans (Nat.le_of_ble_eq_true rfl) hfr, Nat.le_trans (Nat.le_of_ble_eq_true rfl) hlc⟩ ?_
    refine g_ald_n C 1 rfl rfl dX8_spread_30 ?_
    refine g_get C dX8_spread_31 fl_X8_42 in_0 (ec_0 _ _ _ _ _) rfl ?_
    refine g_get C dX8_spread_34 fl_X8_212 in_7 (ec_7 _ _ _ _ _) rfl ?_
    refine g_ald_n C 1 rfl rfl dX8_spread_37 ?_
    refine g_get C dX8_spread_38 fl_X8_42 in_0 (ec_0 _ _ _ _ _) rfl ?_
    refine g_get C dX8_spread_41 fl_X8_212 in_7 (ec_7 _ _ _ _ _) rfl ?_
    refine g_lmul C dX8_spread_44 ?_
    obtain ⟨r11, μ12, hc13, hf⟩ := bn_some hf
    refine g_callVp (As := [vl r8, vl ((μ9 7 0 8) * (μ9 7 0 8))]) (rest := []) C ⟨hcl, hsl⟩ dX8_spread_45 cw_X8_tell m_3_117 m_3_119 m_0_7 in_0 (ec_0 _ _ _ _ _) rfl rfl (c_X8_tell  hc13) rfl rfl (Nat.le_of_ble_eq_true rfl) ⟨Nat.le_trans (Nat.le_of_ble_eq_true rfl) hfr, Nat.le_trans (Nat.le_of_ble_eq_true rfl) hlc⟩ ?_
    obtain ⟨g14, hf⟩ := gd_some hf
    exact g_zret C hag g14 dX8_spread_48 hf
  · rw [if_neg h4] at hf
    refine g_ald_n C 1 rfl rfl dX8_spread_9 ?_
    refine g_ild_n C 0 rfl rfl dX8_spread_10 ?_
    obtain ⟨r15, μ16, hc17, hf⟩ := bn_some hf
    refine g_callVp (As := [vi r1]) (rest := []) C ⟨hcl, hsl⟩ dX8_spread_11 cw_X8_refuse m_2_74 m_2_76 m_0_0 in_0 (ec_0 _ _ _ _ _) rfl rfl (c_X8_refuse  hc17) rfl rfl (Nat.le_of_ble_eq_true rfl) ⟨Nat.le_trans (Nat.le_of_ble_eq_true rfl) hfr, Nat.le_trans (Nat.le_of_ble_eq_true rfl) hlc⟩ ?_
    obtain ⟨g18, hf⟩ := gd_some hf
    exact g_zret C hag g18 dX8_spread_14 hf
set_option maxHeartbeats 4000000 in
set_option maxRecDepth 100000 in
theorem c_X8_spread {l : Launch} {D : va_G} {Y : Nat → ClassId} {α : Adr}  {mc ms : Nat} {μ : Mem} {r : Int} {μ' : Mem}  (hg : HG_X8_spread mc ms μ) (hf : f_X8_spread μ = some (r, μ')) : Ctr l D Y LBx yX8_spread cX8_spread 2 (some .boolean) 5 110 mc ms [vr α 0 0] α μ (some (vi r)) (agr α) μ' := Ctr_of pn_X8 rfl rfl (Nat.le_of_ble_eq_true rfl) LBx_nd (fun p e s m below meth c sz C => b_X8_spread C (Nat.le_refl _) (Nat.le_refl _) (Nat.le_refl _) (Nat.le_refl _)  hg hf)
end

/-! EndTeller.sure -/
def HG_X8_sure (mc ms : Nat) (a1 : Int) (μ : Mem) : Prop := ∀ (r : Int) (μ1 : Mem), f_X7_hasPart a1 μ = some (r, μ1) → ¬ w32 r = 0 → HG_X8_chanceTrouble mc ms μ1
def f_X8_sure (a1 : Int) (μ : Mem) : Option (Int × Mem) := bn (f_X7_hasPart a1 μ) (fun r1 μ2 => jn (fun y5 μ4 => (if w32 y5 = 0 then bn (f_X6_sumRest a1 1 μ4) (fun r7 μ8 => (if w32 r7 = 0 then bn (f_X8_refuse 9 μ8) (fun r11 μ12 => gd (bb r11) (some (r11, μ12))) else bn (f_X8_tell (μ8 1 1 0) ((μ8 1 1 1) * (μ8 7 0 8)) μ8) (fun r15 μ16 => gd (bb r15) (some (r15, μ16))))) else bn (f_X8_refuse y5 μ4) (fun r19 μ20 => gd (bb r19) (some (r19, μ20))))) (fun j19 => (if w32 r1 = 0 then j19 2 μ2 else bn (f_X8_chanceTrouble  μ2) (fun r25 μ26 => j19 r25 μ26))))
section
variable {mc ms : Nat}
variable {p : Program} {l : Launch} {e : Env} {R : Room} {s : State} {m : MethodId} {args : Array Value} {below : List Frame} {meth : Method} {c : Code} {D : va_G} {Y : Nat → ClassId} {α : Adr} {sz : Nat} {r : Int} {μ' : Mem}
set_option maxHeartbeats 4000000 in
set_option maxRecDepth 100000 in
theorem b_X8_sure {a1 : Int} {μ : Mem} (C : CX p s m args meth c cX8_sure 3 RX8 (some .boolean) D Y LBx (Ar LBx α sz)) (hfr : 5 ≤ R.frames) (hlc : 110 ≤ R.locals) (hcl : mc ≤ R.cells) (hsl : ms ≤ R.slots)  (hg : HG_X8_sure mc ms a1 μ) (hf : f_X8_sure a1 μ = some (r, μ')) : GG D Y LBx (Ar LBx α sz) p l e R s m args below meth c 3 (MQ below (Qcx D Y LBx α sz (some (vi r)) (agr α) μ') args s mc ms (Ar LBx α sz)) α 0 0 [(0, vr α 0 0), (1, vi a1)] [] μ 0 := by
  unfold f_X8_sure at hf
  refine g_ald_n C 0 rfl rfl dX8_sure_0 ?_
  refine g_get C dX8_sure_1 fl_X8_50 in_0 (ec_0 _ _ _ _ _) rfl ?_
  refine g_ild_n C 1 rfl rfl dX8_sure_4 ?_
  obtain ⟨r1, μ2, hc3, hf⟩ := bn_some hf
  refine g_callVp (As := [vi a1]) (rest := []) C ⟨Nat.zero_le _, Nat.zero_le _⟩ dX8_sure_5 cw_X7_hasPart m_2_200 m_2_201 m_2_202 in_15 (ec_15 _ _ _ _ _) rfl rfl (c_X7_hasPart  hc3) rfl rfl (Nat.le_of_ble_eq_true rfl) ⟨Nat.le_trans (Nat.le_of_ble_eq_true rfl) hfr, Nat.le_trans (Nat.le_of_ble_eq_true rfl) hlc⟩ ?_
  obtain ⟨j19, ej23, hf⟩ := jn_some hf
  have hj19 : ∀ (α1 : Adr) (hag : agr α α1) (y5 : Int) (μ4 : Mem), j19 y5 μ4 = some (r, μ') → GG D Y LBx (Ar LBx α sz) p l e R s m args below meth c 3 (MQ below (Qcx D Y LBx α sz (some (vi r)) (agr α) μ') args s mc ms (Ar LBx α sz)) α1 mc ms [(0, vr α1 0 0), (1, vi a1)] [vi y5] μ4 19 := by
    intro α1 hag y5 μ4 hf
    rw [ej23] at hf
    try dsimp only at hf
    refine g_ist_n (lo' := [(2, vi y5), (0, vr α1 0 0), (1, vi a1)]) C rfl (by decide) rfl dX8_sure_19 ?_
    refine g_ild_n C 0 rfl rfl dX8_sure_20 ?_
    refine g_if_eq C 30 (by decide) dX8_sure_21 (fun h6 => ?_) (fun h6 => ?_)
    · rw [if_pos h6] at hf
      refine g_ald_n C 1 rfl rfl dX8_sure_30 ?_
      refine g_get C dX8_sure_31 fl_X8_42 in_0 (ec_0 _ _ _ _ _) rfl ?_
      refine g_ild_n C 2 rfl rfl dX8_sure_34 ?_
      refine g_ald_n C 1 rfl rfl dX8_sure_35 ?_
      refine g_get C dX8_sure_36 fl_X8_20 in_0 (ec_0 _ _ _ _ _) rfl ?_
      obtain ⟨r7, μ8, hc9, hf⟩ := bn_some hf
      refine g_callVp (As := [vi a1, vr α1 1 1]) (rest := []) C ⟨hcl, hsl⟩ dX8_sure_39 cw_X6_sumRest m_3_177 m_3_178 m_3_179 in_7 (ec_7 _ _ _ _ _) rfl rfl (c_X6_sumRest (by decide) hc9) rfl rfl (Nat.le_of_ble_eq_true rfl) ⟨Nat.le_trans (Nat.le_of_ble_eq_true rfl) hfr, Nat.le_trans (Nat.le_of_ble_eq_true rfl) hlc⟩ ?_
      refine g_if_ne C 52 (by decide) dX8_sure_42 (fun h10 => ?_) (fun h10 => ?_)
      · rw [if_pos h10] at hf
        refine g_ald_n C 1 rfl rfl dX8_sure_45 ?_
        refine g_bipush C rfl dX8_sure_46 ?_
        obtain ⟨r11, μ12, hc13, hf⟩ := bn_some hf
        refine g_callVp (As := [vi 9]) (rest := []) C ⟨hcl, hsl⟩ dX8_sure_48 cw_X8_refuse m_2_74 m_2_76 m_0_0 in_0 (ec_0 _ _ _ _ _) rfl rfl (c_X8_refuse  hc13) rfl rfl (Nat.le_of_ble_eq_true rfl) ⟨Nat.le_trans (Nat.le_of_ble_eq_true rfl) hfr, Nat.le_trans (Nat.le_of_ble_eq_true rfl) hlc⟩ ?_
        obtain ⟨g14, hf⟩ := gd_some hf
        exact g_zret C hag g14 dX8_sure_51 hf
      · rw [if_neg h10] at hf
        refine g_ald_n C 1 rfl rfl dX8_sure_52 ?_
        refine g_ald_n C 1 rfl rfl dX8_sure_53 ?_
        refine g_get C dX8_sure_54 fl_X8_20 in_0 (ec_0 _ _ _ _ _) rfl ?_
        refine g_get C dX8_sure_57 fl_X8_192 (in_1 (by decide)) (ec_1 _ _ _ _ _) rfl ?_
        refine g_ald_n C 1 rfl rfl dX8_sure_60 ?_
        refine g_get C dX8_sure_61 fl_X8_20 in_0 (ec_0 _ _ _ _ _) rfl ?_
        refine g_get C dX8_sure_64 fl_X8_196 (in_1 (by decide)) (ec_1 _ _ _ _ _) rfl ?_
        refine g_ald_n C 1 rfl rfl dX8_sure_67 ?_
        refine g_get C dX8_sure_68 fl_X8_42 in_0 (ec_0 _ _ _ _ _) rfl ?_
        refine g_get C dX8_sure_71 fl_X8_212 in_7 (ec_7 _ _ _ _ _) rfl ?_
        refine g_lmul C dX8_sure_74 ?_
        obtain ⟨r15, μ16, hc17, hf⟩ := bn_some hf
        refine g_callVp (As := [vl (μ8 1 1 0), vl ((μ8 1 1 1) * (μ8 7 0 8))]) (rest := []) C ⟨hcl, hsl⟩ dX8_sure_75 cw_X8_tell m_3_117 m_3_119 m_0_7 in_0 (ec_0 _ _ _ _ _) rfl rfl (c_X8_tell  hc17) rfl rfl (Nat.le_of_ble_eq_true rfl) ⟨Nat.le_trans (Nat.le_of_ble_eq_true rfl) hfr, Nat.le_trans (Nat.le_of_ble_eq_true rfl) hlc⟩ ?_
        obtain ⟨g18, hf⟩ := gd_some hf
        exact g_zret C hag g18 dX8_sure_78 hf
    · rw [if_neg h6] at hf
      refine g_ald_n C 1 rfl rfl dX8_sure_24 ?_
      refine g_ild_n C 0 rfl rfl dX8_sure_25 ?_
      obtain ⟨r19, μ20, hc21, hf⟩ := bn_some hf
      refine g_callVp (As := [vi y5]) (rest := []) C ⟨hcl, hsl⟩ dX8_sure_26 cw_X8_refuse m_2_74 m_2_76 m_0_0 in_0 (ec_0 _ _ _ _ _) rfl rfl (c_X8_refuse  hc21) rfl rfl (Nat.le_of_ble_eq_true rfl) ⟨Nat.le_trans (Nat.le_of_ble_eq_true rfl) hfr, Nat.le_trans (Nat.le_of_ble_eq_true rfl) hlc⟩ ?_
      obtain ⟨g22, hf⟩ := gd_some hf
      exact g_zret C hag g22 dX8_sure_29 hf
  clear ej23
  refine g_if_eq C 18 (by decide) dX8_sure_8 (fun h24 => ?_) (fun h24 => ?_)
  · rw [if_pos h24] at hf
    refine g_iconst C dX8_sure_18 ?_
    refine g_wid (k := mc) (n := ms) (Nat.zero_le _) (Nat.zero_le _) ?_
    exact g_sub C [0, 1] rfl (hj19 α (agr_rfl α) _ _ hf)
  · rw [if_neg h24] at hf
    refine g_ald_n C 0 rfl rfl dX8_sure_11 ?_
    obtain ⟨r25, μ26, hc27, hf⟩ := bn_some hf
    refine g_callV (As := []) (rest := []) C dX8_sure_12 cw_X8_chanceTrouble m_3_52 m_3_54 m_0_6 in_0 (ec_0 _ _ _ _ _) rfl rfl (c_X8_chanceTrouble  (hg _ _ hc3 (by assumption)) hc27) rfl rfl (Nat.le_of_ble_eq_true rfl) ⟨Nat.le_trans (Nat.le_of_ble_eq_true rfl) hfr, Nat.le_trans (Nat.le_of_ble_eq_true rfl) hlc⟩ ⟨by rw [Nat.zero_add]; exact hcl, by rw [Nat.zero_add]; exact hsl⟩ (fun α1 hag => ?_)
    rw [Nat.zero_add, Nat.zero_add]
    refine g_re (lo' := [(0, vr α1 0 0), (1, vi a1)]) (sk' := [vi r25]) (by rw [show vr α1 0 0 = vr α 0 0 from congrArg Value.ref (hag 0 0 (by decide) (by decide))]) (by rfl) ?_
    refine g_goto C 19 (by decide) dX8_sure_15 ?_
    exact g_sub C [0, 1] rfl (hj19 α1 hag _ _ hf)
set_option maxHeartbeats 4000000 in
set_option maxRecDepth 100000 in
theorem c_X8_sure {l : Launch} {D : va_G} {Y : Nat → ClassId} {α : Adr} {a1 : Int} {mc ms : Nat} {μ : Mem} {r : Int} {μ' : Mem}  (hg : HG_X8_sure mc ms a1 μ) (hf : f_X8_sure a1 μ = some (r, μ')) : Ctr l D Y LBx yX8_sure cX8_sure 3 (some .boolean) 5 110 mc ms [vr α 0 0, vi a1] α μ (some (vi r)) (agr α) μ' := Ctr_of pn_X8 rfl rfl (Nat.le_of_ble_eq_true rfl) LBx_nd (fun p e s m below meth c sz C => b_X8_sure C (Nat.le_refl _) (Nat.le_refl _) (Nat.le_refl _) (Nat.le_refl _)  hg hf)
end

/-! EndTeller.surest -/
def HG_X8_surest (mc ms : Nat)  (μ : Mem) : Prop := (¬ w32 (μ 15 0 3) ≤ 0) → HG_X8_chanceTrouble mc ms μ
def f_X8_surest_L33  : Nat → Int → Int → Mem → Option (Int × Mem)
  | 0, _, _, _ => none
  | n + 1, x2, x3, μ => (if w32 (μ 15 0 3) ≤ w32 x3 then some (x2, (st μ 0 0 0 0)) else bn (f_X6_sumRest x3 1 μ) (fun r5 μ6 => (if w32 r5 = 0 then bn (f_X8_refuseNumber 9 μ6) (fun r9 μ10 => some (r9, μ10)) else jn (fun y13 μ12 => f_X8_surest_L33 n y13 (x3 + 1) μ12) (fun j108 => jn (fun μ15 => bn (f_X0_become 2 (μ15 1 1 0) (μ15 1 1 1) μ15) (fun r16 μ17 => j108 x3 μ17)) (fun j85 => (if w32 x2 = w32 (-1) then j85  μ6 else bn (f_X0_isLessThan 1 2 μ6) (fun r21 μ22 => (if w32 r21 = 0 then j108 x2 μ22 else j85  μ22))))))))
def f_X8_surest  (μ : Mem) : Option (Int × Mem) := jn (fun y2 μ1 => (if w32 y2 = 0 then f_X8_surest_L33 FU (-1) 0 μ1 else bn (f_X8_refuseNumber y2 μ1) (fun r25 μ26 => some (r25, μ26)))) (fun j18 => (if w32 (μ 15 0 3) ≤ 0 then j18 2 μ else bn (f_X8_chanceTrouble  μ) (fun r30 μ31 => j18 r30 μ31)))
section
variable {mc ms : Nat}
variable {p : Program} {l : Launch} {e : Env} {R : Room} {s : State} {m : MethodId} {args : Array Value} {below : List Frame} {meth : Method} {c : Code} {D : va_G} {Y : Nat → ClassId} {α : Adr} {sz : Nat} {r : Int} {μ' : Mem}
set_option maxHeartbeats 4000000 in
set_option maxRecDepth 100000 in
theorem c_X8_surest_l33 {α1 : Adr} (C : CX p s m args meth c cX8_surest 4 RX8 (some .int) D Y LBx (Ar LBx α sz)) (hfr : 5 ≤ R.frames) (hlc : 110 ≤ R.locals) (hcl : mc ≤ R.cells) (hsl : ms ≤ R.slots)  (hag : agr α α1)   : ∀ (n : Nat) (x2 x3 : Int) (μ : Mem), f_X8_surest_L33 n x2 x3 μ = some (r, μ') → GG D Y LBx (Ar LBx α sz) p l e R s m args below meth c 4 (MQ below (Qcx D Y LBx α sz (some (vi r)) (agr α) μ') args s mc ms (Ar LBx α sz)) α1 mc ms [(0, vr α1 0 0), (2, vi x2), (3, vi x3)] [] μ 33 := by
  intro n
  induction n with
  | zero =>
    intro x2 x3 μ hf
    exact nomatch (show (none : Option (Int × Mem)) = some _ from hf)
  | succ n ih =>
    intro x2 x3 μ hf
    rw [f_X8_surest_L33.eq_2] at hf
    refine g_ild_n C 2 rfl rfl dX8_surest_33 ?_
    refine g_ald_n C 0 rfl rfl dX8_surest_34 ?_
    refine g_get C dX8_surest_35 fl_X8_50 in_0 (ec_0 _ _ _ _ _) rfl ?_
    refine g_get C dX8_surest_38 fl_X8_241 in_15 (ec_15 _ _ _ _ _) rfl ?_
    refine g_ic_ge C 114 (by decide) dX8_surest_41 (fun h4 => ?_) (fun h4 => ?_)
    · rw [if_pos h4] at hf
      refine g_ald_n C 0 rfl rfl dX8_surest_114 ?_
      refine g_iconst C dX8_surest_115 ?_
      refine g_puti C dX8_surest_116 fl_X8_9 in_0 (ec_0 _ _ _ _ _) (Nat.le_of_ble_eq_true rfl) rfl (by decide) ?_
      refine g_ild_n C 1 rfl rfl dX8_surest_119 ?_
      exact g_iret C hag dX8_surest_120 hf
    · rw [if_neg h4] at hf
      refine g_ald_n C 0 rfl rfl dX8_surest_44 ?_
      refine g_get C dX8_surest_45 fl_X8_42 in_0 (ec_0 _ _ _ _ _) rfl ?_
      refine g_ild_n C 2 rfl rfl dX8_surest_48 ?_
      refine g_ald_n C 0 rfl rfl dX8_surest_49 ?_
      refine g_get C dX8_surest_50 fl_X8_20 in_0 (ec_0 _ _ _ _ _) rfl ?_
      obtain ⟨r5, μ6, hc7, hf⟩ := bn_some hf
      refine g_callVp (As := [vi x3, vr α1 1 1]) (rest := []) C ⟨hcl, hsl⟩ dX8_surest_53 cw_X6_sumRest m_3_177 m_3_178 m_3_179 in_7 (ec_7 _ _ _ _ _) rfl rfl (c_X6_sumRest (by decide) hc7) rfl rfl (Nat.le_of_ble_eq_true rfl) ⟨Nat.le_trans (Nat.le_of_ble_eq_true rfl) hfr, Nat.le_trans (Nat.le_of_ble_eq_true rfl) hlc⟩ ?_
      refine g_if_ne C 66 (by decide) dX8_surest_56 (fun h8 => ?_) (fun h8 => ?_)
      · rw [if_pos h8] at hf
        refine g_ald_n C 0 rfl rfl dX8_surest_59 ?_
        refine g_bipush C rfl dX8_surest_60 ?_
        obtain ⟨r9, μ10, hc11, hf⟩ := bn_some hf
        refine g_callVp (As := [vi 9]) (rest := []) C ⟨hcl, hsl⟩ dX8_surest_62 cw_X8_refuseNumber m_2_118 m_2_120 m_0_3 in_0 (ec_0 _ _ _ _ _) rfl rfl (c_X8_refuseNumber  hc11) rfl rfl (Nat.le_of_ble_eq_true rfl) ⟨Nat.le_trans (Nat.le_of_ble_eq_true rfl) hfr, Nat.le_trans (Nat.le_of_ble_eq_true rfl) hlc⟩ ?_
        exact g_iret C hag dX8_surest_65 hf
      · rw [if_neg h8] at hf
        refine g_ild_n C 1 rfl rfl dX8_surest_66 ?_
        refine g_iconst C dX8_surest_67 ?_
        obtain ⟨j108, ej14, hf⟩ := jn_some hf
        have hj108 : ∀ (y13 : Int) (μ12 : Mem), j108 y13 μ12 = some (r, μ') → GG D Y LBx (Ar LBx α sz) p l e R s m args below meth c 4 (MQ below (Qcx D Y LBx α sz (some (vi r)) (agr α) μ') args s mc ms (Ar LBx α sz)) α1 mc ms [(0, vr α1 0 0), (2, vi y13), (3, vi x3)] [] μ12 108 := by
          intro y13 μ12 hf
          rw [ej14] at hf
          try dsimp only at hf
          refine g_iinc (lo' := [(3, vi (x3 + 1)), (0, vr α1 0 0), (2, vi y13)]) C 2 rfl (by decide) rfl dX8_surest_108 ?_
          refine g_goto C 33 (by decide) dX8_surest_111 ?_
          exact g_sub C [1, 2, 0] rfl (ih _ _ _ hf)
        clear ej14
        obtain ⟨j85, ej19, hf⟩ := jn_some hf
        have hj85 : ∀ (μ15 : Mem), j85 μ15 = some (r, μ') → GG D Y LBx (Ar LBx α sz) p l e R s m args below meth c 4 (MQ below (Qcx D Y LBx α sz (some (vi r)) (agr α) μ') args s mc ms (Ar LBx α sz)) α1 mc ms [(0, vr α1 0 0), (3, vi x3)] [] μ15 85 := by
          intro μ15 hf
          rw [ej19] at hf
          try dsimp only at hf
          refine g_ild_n C 1 rfl rfl dX8_surest_85 ?_
          refine g_ist_n (lo' := [(2, vi x3), (0, vr α1 0 0), (3, vi x3)]) C rfl (by decide) rfl dX8_surest_86 ?_
          refine g_ald_n C 1 rfl rfl dX8_surest_87 ?_
          refine g_get C dX8_surest_88 fl_X8_23 in_0 (ec_0 _ _ _ _ _) rfl ?_
          refine g_ald_n C 1 rfl rfl dX8_surest_91 ?_
          refine g_get C dX8_surest_92 fl_X8_20 in_0 (ec_0 _ _ _ _ _) rfl ?_
          refine g_get C dX8_surest_95 fl_X8_192 (in_1 (by decide)) (ec_1 _ _ _ _ _) rfl ?_
          refine g_ald_n C 1 rfl rfl dX8_surest_98 ?_
          refine g_get C dX8_surest_99 fl_X8_20 in_0 (ec_0 _ _ _ _ _) rfl ?_
          refine g_get C dX8_surest_102 fl_X8_196 (in_1 (by decide)) (ec_1 _ _ _ _ _) rfl ?_
          obtain ⟨r16, μ17, hc18, hf⟩ := bn_some hf
          refine g_callVp (As := [vl (μ15 1 1 0), vl (μ15 1 1 1)]) (rest := []) C ⟨hcl, hsl⟩ dX8_surest_105 cw_X0_become m_3_121 m_3_122 m_3_123 (in_1 (by decide)) (ec_1 _ _ _ _ _) rfl rfl (c_X0_become (by decide) hc18) rfl rfl (Nat.le_of_ble_eq_true rfl) ⟨Nat.le_trans (Nat.le_of_ble_eq_true rfl) hfr, Nat.le_trans (Nat.le_of_ble_eq_true rfl) hlc⟩ ?_
          exact g_sub C [1, 0, 2] rfl (hj108 _ _ hf)
        clear ej19
        refine g_ic_eq C 85 (by decide) dX8_surest_68 (fun h20 => ?_) (fun h20 => ?_)
        · rw [if_pos h20] at hf
          exact g_sub C [0, 2] rfl (hj85 _ hf)
        · rw [if_neg h20] at hf
          refine g_ald_n C 0 rfl rfl dX8_surest_71 ?_
          refine g_get C dX8_surest_72 fl_X8_20 in_0 (ec_0 _ _ _ _ _) rfl ?_
          refine g_ald_n C 0 rfl rfl dX8_surest_75 ?_
          refine g_get C dX8_surest_76 fl_X8_23 in_0 (ec_0 _ _ _ _ _) rfl ?_
          obtain ⟨r21, μ22, hc23, hf⟩ := bn_some hf
          refine g_callVp (As := [vr α1 1 2]) (rest := []) C ⟨hcl, hsl⟩ dX8_surest_79 cw_X0_isLessThan m_3_198 m_3_199 m_3_200 (in_1 (by decide)) (ec_1 _ _ _ _ _) rfl rfl (c_X0_isLessThan (by decide) (by decide) hc23) rfl rfl (Nat.le_of_ble_eq_true rfl) ⟨Nat.le_trans (Nat.le_of_ble_eq_true rfl) hfr, Nat.le_trans (Nat.le_of_ble_eq_true rfl) hlc⟩ ?_
          refine g_if_eq C 108 (by decide) dX8_surest_82 (fun h24 => ?_) (fun h24 => ?_)
          · rw [if_pos h24] at hf
            exact g_sub C [0, 1, 2] rfl (hj108 _ _ hf)
          · rw [if_neg h24] at hf
            exact g_sub C [0, 2] rfl (hj85 _ hf)
set_option maxHeartbeats 4000000 in
set_option maxRecDepth 100000 in
theorem b_X8_surest  {μ : Mem} (C : CX p s m args meth c cX8_surest 4 RX8 (some .int) D Y LBx (Ar LBx α sz)) (hfr : 5 ≤ R.frames) (hlc : 110 ≤ R.locals) (hcl : mc ≤ R.cells) (hsl : ms ≤ R.slots)  (hg : HG_X8_surest mc ms μ) (hf : f_X8_surest μ = some (r, μ')) : GG D Y LBx (Ar LBx α sz) p l e R s m args below meth c 4 (MQ below (Qcx D Y LBx α sz (some (vi r)) (agr α) μ') args s mc ms (Ar LBx α sz)) α 0 0 [(0, vr α 0 0)] [] μ 0 := by
  unfold f_X8_surest at hf
  refine g_ald_n C 0 rfl rfl dX8_surest_0 ?_
  refine g_get C dX8_surest_1 fl_X8_50 in_0 (ec_0 _ _ _ _ _) rfl ?_
  refine g_get C dX8_surest_4 fl_X8_241 in_15 (ec_15 _ _ _ _ _) rfl ?_
  obtain ⟨j18, ej28, hf⟩ := jn_some hf
  have hj18 : ∀ (α1 : Adr) (hag : agr α α1) (y2 : Int) (μ1 : Mem), j18 y2 μ1 = some (r, μ') → GG D Y LBx (Ar LBx α sz) p l e R s m args below meth c 4 (MQ below (Qcx D Y LBx α sz (some (vi r)) (agr α) μ') args s mc ms (Ar LBx α sz)) α1 mc ms [(0, vr α1 0 0)] [vi y2] μ1 18 := by
    intro α1 hag y2 μ1 hf
    rw [ej28] at hf
    try dsimp only at hf
    refine g_ist_n (lo' := [(1, vi y2), (0, vr α1 0 0)]) C rfl (by decide) rfl dX8_surest_18 ?_
    refine g_ild_n C 0 rfl rfl dX8_surest_19 ?_
    refine g_if_eq C 29 (by decide) dX8_surest_20 (fun h3 => ?_) (fun h3 => ?_)
    · rw [if_pos h3] at hf
      refine g_iconst C dX8_surest_29 ?_
      refine g_ist_n (lo' := [(2, vi (-1)), (1, vi y2), (0, vr α1 0 0)]) C rfl (by decide) rfl dX8_surest_30 ?_
      refine g_iconst C dX8_surest_31 ?_
      refine g_ist_n (lo' := [(3, vi 0), (2, vi (-1)), (1, vi y2), (0, vr α1 0 0)]) C rfl (by decide) rfl dX8_surest_32 ?_
      refine g_sub C [3, 1, 0] rfl (c_X8_surest_l33 C hfr hlc hcl hsl hag  _ _ _ _ hf)
    · rw [if_neg h3] at hf
      refine g_ald_n C 1 rfl rfl dX8_surest_23 ?_
      refine g_ild_n C 0 rfl rfl dX8_surest_24 ?_
      obtain ⟨r25, μ26, hc27, hf⟩ := bn_some hf
      refine g_callVp (As := [vi y2]) (rest := []) C ⟨hcl, hsl⟩ dX8_surest_25 cw_X8_refuseNumber m_2_118 m_2_120 m_0_3 in_0 (ec_0 _ _ _ _ _) rfl rfl (c_X8_refuseNumber  hc27) rfl rfl (Nat.le_of_ble_eq_true rfl) ⟨Nat.le_trans (Nat.le_of_ble_eq_true rfl) hfr, Nat.le_trans (Nat.le_of_ble_eq_true rfl) hlc⟩ ?_
      exact g_iret C hag dX8_surest_28 hf
  clear ej28
  refine g_if_le C 17 (by decide) dX8_surest_7 (fun h29 => ?_) (fun h29 => ?_)
  · rw [if_pos h29] at hf
    refine g_iconst C dX8_surest_17 ?_
    refine g_wid (k := mc) (n := ms) (Nat.zero_le _) (Nat.zero_le _) ?_
    exact g_sub C [0] rfl (hj18 α (agr_rfl α) _ _ hf)
  · rw [if_neg h29] at hf
    refine g_ald_n C 0 rfl rfl dX8_surest_10 ?_
    obtain ⟨r30, μ31, hc32, hf⟩ := bn_some hf
    refine g_callV (As := []) (rest := []) C dX8_surest_11 cw_X8_chanceTrouble m_3_52 m_3_54 m_0_6 in_0 (ec_0 _ _ _ _ _) rfl rfl (c_X8_chanceTrouble  (hg (by assumption)) hc32) rfl rfl (Nat.le_of_ble_eq_true rfl) ⟨Nat.le_trans (Nat.le_of_ble_eq_true rfl) hfr, Nat.le_trans (Nat.le_of_ble_eq_true rfl) hlc⟩ ⟨by rw [Nat.zero_add]; exact hcl, by rw [Nat.zero_add]; exact hsl⟩ (fun α1 hag => ?_)
    rw [Nat.zero_add, Nat.zero_add]
    refine g_re (lo' := [(0, vr α1 0 0)]) (sk' := [vi r30]) (by rw [show vr α1 0 0 = vr α 0 0 from congrArg Value.ref (hag 0 0 (by decide) (by decide))]) (by rfl) ?_
    refine g_goto C 18 (by decide) dX8_surest_14 ?_
    exact g_sub C [0] rfl (hj18 α1 hag _ _ hf)
set_option maxHeartbeats 4000000 in
set_option maxRecDepth 100000 in
theorem c_X8_surest {l : Launch} {D : va_G} {Y : Nat → ClassId} {α : Adr}  {mc ms : Nat} {μ : Mem} {r : Int} {μ' : Mem}  (hg : HG_X8_surest mc ms μ) (hf : f_X8_surest μ = some (r, μ')) : Ctr l D Y LBx yX8_surest cX8_surest 4 (some .int) 5 110 mc ms [vr α 0 0] α μ (some (vi r)) (agr α) μ' := Ctr_of pn_X8 rfl rfl (Nat.le_of_ble_eq_true rfl) LBx_nd (fun p e s m below meth c sz C => b_X8_surest C (Nat.le_refl _) (Nat.le_refl _) (Nat.le_refl _) (Nat.le_refl _)  hg hf)
end

/-! EndTeller.moves -/
def HG_X8_moves (mc ms : Nat) (a1 : Int) (μ : Mem) : Prop := ∀ (r : Int) (μ1 : Mem), f_X7_hasPart a1 μ = some (r, μ1) → ¬ w32 r = 0 → HG_X8_chanceTrouble mc ms μ1
def f_X8_moves (a1 : Int) (μ : Mem) : Option (Int × Mem) := bn (f_X7_hasPart a1 μ) (fun r1 μ2 => jn (fun y5 μ4 => (if w32 y5 = 0 then bn (f_X6_weightMovedBy a1 μ4) (fun r7 μ8 => bn (f_X8_tell r7 (μ8 7 0 8) μ8) (fun r10 μ11 => gd (bb r10) (some (r10, μ11)))) else bn (f_X8_refuse y5 μ4) (fun r14 μ15 => gd (bb r14) (some (r14, μ15))))) (fun j19 => (if w32 r1 = 0 then j19 2 μ2 else bn (f_X8_chanceTrouble  μ2) (fun r20 μ21 => j19 r20 μ21))))
section
variable {mc ms : Nat}
variable {p : Program} {l : Launch} {e : Env} {R : Room} {s : State} {m : MethodId} {args : Array Value} {below : List Frame} {meth : Method} {c : Code} {D : va_G} {Y : Nat → ClassId} {α : Adr} {sz : Nat} {r : Int} {μ' : Mem}
set_option maxHeartbeats 4000000 in
set_option maxRecDepth 100000 in
theorem b_X8_moves {a1 : Int} {μ : Mem} (C : CX p s m args meth c cX8_moves 3 RX8 (some .boolean) D Y LBx (Ar LBx α sz)) (hfr : 5 ≤ R.frames) (hlc : 110 ≤ R.locals) (hcl : mc ≤ R.cells) (hsl : ms ≤ R.slots)  (hg : HG_X8_moves mc ms a1 μ) (hf : f_X8_moves a1 μ = some (r, μ')) : GG D Y LBx (Ar LBx α sz) p l e R s m args below meth c 3 (MQ below (Qcx D Y LBx α sz (some (vi r)) (agr α) μ') args s mc ms (Ar LBx α sz)) α 0 0 [(0, vr α 0 0), (1, vi a1)] [] μ 0 := by
  unfold f_X8_moves at hf
  refine g_ald_n C 0 rfl rfl dX8_moves_0 ?_
  refine g_get C dX8_moves_1 fl_X8_50 in_0 (ec_0 _ _ _ _ _) rfl ?_
  refine g_ild_n C 1 rfl rfl dX8_moves_4 ?_
  obtain ⟨r1, μ2, hc3, hf⟩ := bn_some hf
  refine g_callVp (As := [vi a1]) (rest := []) C ⟨Nat.zero_le _, Nat.zero_le _⟩ dX8_moves_5 cw_X7_hasPart m_2_200 m_2_201 m_2_202 in_15 (ec_15 _ _ _ _ _) rfl rfl (c_X7_hasPart  hc3) rfl rfl (Nat.le_of_ble_eq_true rfl) ⟨Nat.le_trans (Nat.le_of_ble_eq_true rfl) hfr, Nat.le_trans (Nat.le_of_ble_eq_true rfl) hlc⟩ ?_
  obtain ⟨j19, ej18, hf⟩ := jn_some hf
  have hj19 : ∀ (α1 : Adr) (hag : agr α α1) (y5 : Int) (μ4 : Mem), j19 y5 μ4 = some (r, μ') → GG D Y LBx (Ar LBx α sz) p l e R s m args below meth c 3 (MQ below (Qcx D Y LBx α sz (some (vi r)) (agr α) μ') args s mc ms (Ar LBx α sz)) α1 mc ms [(0, vr α1 0 0), (1, vi a1)] [vi y5] μ4 19 := by
    intro α1 hag y5 μ4 hf
    rw [ej18] at hf
    try dsimp only at hf
    refine g_ist_n (lo' := [(2, vi y5), (0, vr α1 0 0), (1, vi a1)]) C rfl (by decide) rfl dX8_moves_19 ?_
    refine g_ild_n C 0 rfl rfl dX8_moves_20 ?_
    refine g_if_eq C 30 (by decide) dX8_moves_21 (fun h6 => ?_) (fun h6 => ?_)
    · rw [if_pos h6] at hf
      refine g_ald_n C 1 rfl rfl dX8_moves_30 ?_
      refine g_ald_n C 1 rfl rfl dX8_moves_31 ?_
      refine g_get C dX8_moves_32 fl_X8_42 in_0 (ec_0 _ _ _ _ _) rfl ?_
      refine g_ild_n C 2 rfl rfl dX8_moves_35 ?_
      obtain ⟨r7, μ8, hc9, hf⟩ := bn_some hf
      refine g_callVp (As := [vi a1]) (rest := [vr α1 0 0]) C ⟨hcl, hsl⟩ dX8_moves_36 cw_X6_weightMovedBy m_3_206 m_3_207 m_3_208 in_7 (ec_7 _ _ _ _ _) rfl rfl (c_X6_weightMovedBy  hc9) rfl rfl (Nat.le_of_ble_eq_true rfl) ⟨Nat.le_trans (Nat.le_of_ble_eq_true rfl) hfr, Nat.le_trans (Nat.le_of_ble_eq_true rfl) hlc⟩ ?_
      refine g_ald_n C 1 rfl rfl dX8_moves_39 ?_
      refine g_get C dX8_moves_40 fl_X8_42 in_0 (ec_0 _ _ _ _ _) rfl ?_
      refine g_get C dX8_moves_43 fl_X8_212 in_7 (ec_7 _ _ _ _ _) rfl ?_
      obtain ⟨r10, μ11, hc12, hf⟩ := bn_some hf
      refine g_callVp (As := [vl r7, vl (μ8 7 0 8)]) (rest := []) C ⟨hcl, hsl⟩ dX8_moves_46 cw_X8_tell m_3_117 m_3_119 m_0_7 in_0 (ec_0 _ _ _ _ _) rfl rfl (c_X8_tell  hc12) rfl rfl (Nat.le_of_ble_eq_true rfl) ⟨Nat.le_trans (Nat.le_of_ble_eq_true rfl) hfr, Nat.le_trans (Nat.le_of_ble_eq_true rfl) hlc⟩ ?_
      obtain ⟨g13, hf⟩ := gd_some hf
      exact g_zret C hag g13 dX8_moves_49 hf
    · rw [if_neg h6] at hf
      refine g_ald_n C 1 rfl rfl dX8_moves_24 ?_
      refine g_ild_n C 0 rfl rfl dX8_moves_25 ?_
      obtain ⟨r14, μ15, hc16, hf⟩ := bn_some hf
      refine g_callVp (As := [vi y5]) (rest := []) C ⟨hcl, hsl⟩ dX8_moves_26 cw_X8_refuse m_2_74 m_2_76 m_0_0 in_0 (ec_0 _ _ _ _ _) rfl rfl (c_X8_refuse  hc16) rfl rfl (Nat.le_of_ble_eq_true rfl) ⟨Nat.le_trans (Nat.le_of_ble_eq_true rfl) hfr, Nat.le_trans (Nat.le_of_ble_eq_true rfl) hlc⟩ ?_
      obtain ⟨g17, hf⟩ := gd_some hf
      exact g_zret C hag g17 dX8_moves_29 hf
  clear ej18
  refine g_if_eq C 18 (by decide) dX8_moves_8 (fun h19 => ?_) (fun h19 => ?_)
  · rw [if_pos h19] at hf
    refine g_iconst C dX8_moves_18 ?_
    refine g_wid (k := mc) (n := ms) (Nat.zero_le _) (Nat.zero_le _) ?_
    exact g_sub C [0, 1] rfl (hj19 α (agr_rfl α) _ _ hf)
  · rw [if_neg h19] at hf
    refine g_ald_n C 0 rfl rfl dX8_moves_11 ?_
    obtain ⟨r20, μ21, hc22, hf⟩ := bn_some hf
    refine g_callV (As := []) (rest := []) C dX8_moves_12 cw_X8_chanceTrouble m_3_52 m_3_54 m_0_6 in_0 (ec_0 _ _ _ _ _) rfl rfl (c_X8_chanceTrouble  (hg _ _ hc3 (by assumption)) hc22) rfl rfl (Nat.le_of_ble_eq_true rfl) ⟨Nat.le_trans (Nat.le_of_ble_eq_true rfl) hfr, Nat.le_trans (Nat.le_of_ble_eq_true rfl) hlc⟩ ⟨by rw [Nat.zero_add]; exact hcl, by rw [Nat.zero_add]; exact hsl⟩ (fun α1 hag => ?_)
    rw [Nat.zero_add, Nat.zero_add]
    refine g_re (lo' := [(0, vr α1 0 0), (1, vi a1)]) (sk' := [vi r20]) (by rw [show vr α1 0 0 = vr α 0 0 from congrArg Value.ref (hag 0 0 (by decide) (by decide))]) (by rfl) ?_
    refine g_goto C 19 (by decide) dX8_moves_15 ?_
    exact g_sub C [0, 1] rfl (hj19 α1 hag _ _ hf)
set_option maxHeartbeats 4000000 in
set_option maxRecDepth 100000 in
theorem c_X8_moves {l : Launch} {D : va_G} {Y : Nat → ClassId} {α : Adr} {a1 : Int} {mc ms : Nat} {μ : Mem} {r : Int} {μ' : Mem}  (hg : HG_X8_moves mc ms a1 μ) (hf : f_X8_moves a1 μ = some (r, μ')) : Ctr l D Y LBx yX8_moves cX8_moves 3 (some .boolean) 5 110 mc ms [vr α 0 0, vi a1] α μ (some (vi r)) (agr α) μ' := Ctr_of pn_X8 rfl rfl (Nat.le_of_ble_eq_true rfl) LBx_nd (fun p e s m below meth c sz C => b_X8_moves C (Nat.le_refl _) (Nat.le_refl _) (Nat.le_refl _) (Nat.le_refl _)  hg hf)
end
