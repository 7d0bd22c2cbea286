/-! EndTeller$Tellings.add -/
def f_X4_add (a1 : Int) (a2 : Int) (a3 : Int) (μ : Mem) : Option (Int × Mem) := (if w32 a2 < w32 1 then some (0, μ) else (if w32 a1 < 0 then some (0, μ) else (if w32 a1 ≤ w32 a2 then gd (¬ w32 a2 = 0) (gd (inb (if w32 9 < w32 (Int.tdiv (w32 (10 * a1)) (w32 a2)) then 9 else (Int.tdiv (w32 (10 * a1)) (w32 a2))) 10) (gd (inb (if w32 9 < w32 (Int.tdiv (w32 (10 * a1)) (w32 a2)) then 9 else (Int.tdiv (w32 (10 * a1)) (w32 a2))) 10) (jn (fun μ7 => gd (inb (if w32 9 < w32 (Int.tdiv (w32 (10 * a1)) (w32 a2)) then 9 else (Int.tdiv (w32 (10 * a1)) (w32 a2))) 10) ((if w32 (μ7 27 0 (ix (if w32 9 < w32 (Int.tdiv (w32 (10 * a1)) (w32 a2)) then 9 else (Int.tdiv (w32 (10 * a1)) (w32 a2))))) = 0 then gd (inb (if w32 9 < w32 (Int.tdiv (w32 (10 * a1)) (w32 a2)) then 9 else (Int.tdiv (w32 (10 * a1)) (w32 a2))) 10) (bn (f_X0_add ((ix (if w32 9 < w32 (Int.tdiv (w32 (10 * a1)) (w32 a2)) then 9 else (Int.tdiv (w32 (10 * a1)) (w32 a2)))) + 3) (w32 a1) (w32 a2) μ7) (fun r11 μ12 => gd (inb (if w32 9 < w32 (Int.tdiv (w32 (10 * a1)) (w32 a2)) then 9 else (Int.tdiv (w32 (10 * a1)) (w32 a2))) 10) ((if w64 1099511627776 < w64 (μ12 1 ((ix (if w32 9 < w32 (Int.tdiv (w32 (10 * a1)) (w32 a2)) then 9 else (Int.tdiv (w32 (10 * a1)) (w32 a2)))) + 3) 0) then gd (inb (if w32 9 < w32 (Int.tdiv (w32 (10 * a1)) (w32 a2)) then 9 else (Int.tdiv (w32 (10 * a1)) (w32 a2))) 10) (some (0, (st μ12 27 0 (ix (if w32 9 < w32 (Int.tdiv (w32 (10 * a1)) (w32 a2)) then 9 else (Int.tdiv (w32 (10 * a1)) (w32 a2)))) 1))) else gd (inb (if w32 9 < w32 (Int.tdiv (w32 (10 * a1)) (w32 a2)) then 9 else (Int.tdiv (w32 (10 * a1)) (w32 a2))) 10) ((if w64 (μ12 1 ((ix (if w32 9 < w32 (Int.tdiv (w32 (10 * a1)) (w32 a2)) then 9 else (Int.tdiv (w32 (10 * a1)) (w32 a2)))) + 3) 1) ≤ w64 1099511627776 then gd (inb (if w32 9 < w32 (Int.tdiv (w32 (10 * a1)) (w32 a2)) then 9 else (Int.tdiv (w32 (10 * a1)) (w32 a2))) 10) (some (0, (st μ12 27 0 (ix (if w32 9 < w32 (Int.tdiv (w32 (10 * a1)) (w32 a2)) then 9 else (Int.tdiv (w32 (10 * a1)) (w32 a2)))) 0))) else gd (inb (if w32 9 < w32 (Int.tdiv (w32 (10 * a1)) (w32 a2)) then 9 else (Int.tdiv (w32 (10 * a1)) (w32 a2))) 10) (some (0, (st μ12 27 0 (ix (if w32 9 < w32 (Int.tdiv (w32 (10 * a1)) (w32 a2)) then 9 else (Int.tdiv (w32 (10 * a1)) (w32 a2)))) 1))))))))) else some (0, μ7)))) (fun j64 => (if w32 a3 = 0 then j64  (st (st μ 23 0 4 ((μ 23 0 4) + 1)) 24 0 (ix (if w32 9 < w32 (Int.tdiv (w32 (10 * a1)) (w32 a2)) then 9 else (Int.tdiv (w32 (10 * a1)) (w32 a2)))) (((st μ 23 0 4 ((μ 23 0 4) + 1)) 24 0 (ix (if w32 9 < w32 (Int.tdiv (w32 (10 * a1)) (w32 a2)) then 9 else (Int.tdiv (w32 (10 * a1)) (w32 a2))))) + 1)) else gd (inb (if w32 9 < w32 (Int.tdiv (w32 (10 * a1)) (w32 a2)) then 9 else (Int.tdiv (w32 (10 * a1)) (w32 a2))) 10) (gd (inb (if w32 9 < w32 (Int.tdiv (w32 (10 * a1)) (w32 a2)) then 9 else (Int.tdiv (w32 (10 * a1)) (w32 a2))) 10) (j64  (st (st (st μ 23 0 4 ((μ 23 0 4) + 1)) 24 0 (ix (if w32 9 < w32 (Int.tdiv (w32 (10 * a1)) (w32 a2)) then 9 else (Int.tdiv (w32 (10 * a1)) (w32 a2)))) (((st μ 23 0 4 ((μ 23 0 4) + 1)) 24 0 (ix (if w32 9 < w32 (Int.tdiv (w32 (10 * a1)) (w32 a2)) then 9 else (Int.tdiv (w32 (10 * a1)) (w32 a2))))) + 1)) 25 0 (ix (if w32 9 < w32 (Int.tdiv (w32 (10 * a1)) (w32 a2)) then 9 else (Int.tdiv (w32 (10 * a1)) (w32 a2)))) (((st (st μ 23 0 4 ((μ 23 0 4) + 1)) 24 0 (ix (if w32 9 < w32 (Int.tdiv (w32 (10 * a1)) (w32 a2)) then 9 else (Int.tdiv (w32 (10 * a1)) (w32 a2)))) (((st μ 23 0 4 ((μ 23 0 4) + 1)) 24 0 (ix (if w32 9 < w32 (Int.tdiv (w32 (10 * a1)) (w32 a2)) then 9 else (Int.tdiv (w32 (10 * a1)) (w32 a2))))) + 1)) 25 0 (ix (if w32 9 < w32 (Int.tdiv (w32 (10 * a1)) (w32 a2)) then 9 else (Int.tdiv (w32 (10 * a1)) (w32 a2))))) + 1))))))))) else some (0, μ))))
section
variable {p : Program} {l : Launch} {e : Env} {R : Room} {s : State} {m : MethodId} {args : Array Value} {below : List Frame} {meth : Method} {c : Code} {D : va_G} {Y : Nat → ClassId} {α : Adr} {sz : Nat} {r : Int} {μ' : Mem}
set_option maxHeartbeats 4000000 in
set_option maxRecDepth 100000 in
theorem b_X4_add {a1 : Int} {a2 : Int} {a3 : Int} {μ : Mem} (C : CX p s m args meth c cX4_add 5 RX4 none D Y LBx (Ar LBx α sz)) (hfr : 3 ≤ R.frames) (hlc : 80 ≤ R.locals)  (hf : f_X4_add a1 a2 a3 μ = some (r, μ')) : GG D Y LBx (Ar LBx α sz) p l e R s m args below meth c 5 (MQ below (Qcx D Y LBx α sz none (fun a => a = α) μ') args s 0 0 (Ar LBx α sz)) α 0 0 [(0, vr α 23 0), (1, vi a1), (2, vi a2), (3, vi a3)] [] μ 0 := by
  unfold f_X4_add at hf
  refine g_ild_n C 2 rfl rfl dX4_add_0 ?_
  refine g_iconst C dX4_add_1 ?_
  refine g_ic_lt C 14 (by decide) dX4_add_2 (fun h1 => ?_) (fun h1 => ?_)
  · rw [if_pos h1] at hf
    exact g_vret C rfl dX4_add_14 hf
  · rw [if_neg h1] at hf
    refine g_ild_n C 1 rfl rfl dX4_add_5 ?_
    refine g_if_lt C 14 (by decide) dX4_add_6 (fun h2 => ?_) (fun h2 => ?_)
    · rw [if_pos h2] at hf
      exact g_vret C rfl dX4_add_14 hf
    · rw [if_neg h2] at hf
      refine g_ild_n C 1 rfl rfl dX4_add_9 ?_
      refine g_ild_n C 2 rfl rfl dX4_add_10 ?_
      refine g_ic_le C 15 (by decide) dX4_add_11 (fun h3 => ?_) (fun h3 => ?_)
      · rw [if_pos h3] at hf
        refine g_bipush C rfl dX4_add_15 ?_
        refine g_ild_n C 1 rfl rfl dX4_add_17 ?_
        refine g_imul C dX4_add_18 ?_
        refine g_ild_n C 2 rfl rfl dX4_add_19 ?_
        obtain ⟨g4, hf⟩ := gd_some hf
        refine g_idiv C g4 dX4_add_20 ?_
        refine g_bipush C rfl dX4_add_21 ?_
        refine g_min C m_3_229 m_3_70 m_1_14 m_3_71 (Nat.le_trans (by decide) hfr) (Nat.le_trans (Nat.le_of_ble_eq_true rfl) hlc) (Nat.zero_le _) (Nat.zero_le _) dX4_add_23 ?_
        refine g_ist (lo' := [(4, vi (if w32 9 < w32 (Int.tdiv (w32 (10 * a1)) (w32 a2)) then 9 else (Int.tdiv (w32 (10 * a1)) (w32 a2)))), (0, vr α 23 0), (1, vi a1), (2, vi a2), (3, vi a3)]) C (by decide) rfl dX4_add_26 ?_
        refine g_ald_n C 1 rfl rfl dX4_add_28 ?_
        refine g_dup C rfl dX4_add_29 ?_
        refine g_get C dX4_add_30 fl_X4_28 in_23 (ec_23 _ _ _ _ _) rfl ?_
        refine g_iconst C dX4_add_33 ?_
        refine g_iadd C dX4_add_34 ?_
        refine g_puti C dX4_add_35 fl_X4_28 in_23 (ec_23 _ _ _ _ _) (Nat.le_of_ble_eq_true rfl) rfl (by decide) ?_
        refine g_ald_n C 1 rfl rfl dX4_add_38 ?_
        refine g_get C dX4_add_39 fl_X4_9 in_23 (ec_23 _ _ _ _ _) rfl ?_
        refine g_ild C 0 rfl dX4_add_42 ?_
        refine g_dup2 C rfl rfl dX4_add_44 ?_
        obtain ⟨g5, hf⟩ := gd_some hf
        refine g_iald C dX4_add_45 in_24 (fun _ => ec_24 _ _ _ _ _) g5 ?_
        refine g_iconst C dX4_add_46 ?_
        refine g_iadd C dX4_add_47 ?_
        obtain ⟨g6, hf⟩ := gd_some hf
        refine g_iast C dX4_add_48 in_24 (fun _ => ec_24 _ _ _ _ _) (by decide) g6 ?_
        refine g_ild_n C 4 rfl rfl dX4_add_49 ?_
        obtain ⟨j64, ej21, hf⟩ := jn_some hf
        have hj64 : ∀ (μ7 : Mem), j64 μ7 = some (r, μ') → GG D Y LBx (Ar LBx α sz) p l e R s m args below meth c 5 (MQ below (Qcx D Y LBx α sz none (fun a => a = α) μ') args s 0 0 (Ar LBx α sz)) α 0 0 [(0, vr α 23 0), (1, vi a1), (2, vi a2), (4, vi (if w32 9 < w32 (Int.tdiv (w32 (10 * a1)) (w32 a2)) then 9 else (Int.tdiv (w32 (10 * a1)) (w32 a2))))] [] μ7 64 := by
          intro μ7 hf
          rw [ej21] at hf
          try dsimp only at hf
          refine g_ald_n C 0 rfl rfl dX4_add_64 ?_
          refine g_get C dX4_add_65 fl_X4_24 in_23 (ec_23 _ _ _ _ _) rfl ?_
          refine g_ild C 3 rfl dX4_add_68 ?_
          obtain ⟨g8, hf⟩ := gd_some hf
          refine g_zald C dX4_add_70 in_27 (fun _ => ec_27 _ _ _ _ _) g8 ?_
          refine g_if_ne C 134 (by decide) dX4_add_71 (fun h9 => ?_) (fun h9 => ?_)
          · rw [if_pos h9] at hf
            refine g_ald_n C 0 rfl rfl dX4_add_74 ?_
            refine g_get C dX4_add_75 fl_X4_20 in_23 (ec_23 _ _ _ _ _) rfl ?_
            refine g_ild C 3 rfl dX4_add_78 ?_
            obtain ⟨g10, hf⟩ := gd_some hf
            refine g_aald3 C dX4_add_80 in_26 (fun _ => ec_26 _ _ _ _ _) rfl g10 ?_
            refine g_ild_n C 1 rfl rfl dX4_add_81 ?_
            refine g_i2l C dX4_add_82 ?_
            refine g_ild_n C 2 rfl rfl dX4_add_83 ?_
            refine g_i2l C dX4_add_84 ?_
            obtain ⟨r11, μ12, hc13, hf⟩ := bn_some hf
            refine g_callVp (As := [vl (w32 a1), vl (w32 a2)]) (rest := []) C ⟨Nat.zero_le _, Nat.zero_le _⟩ dX4_add_85 cw_X0_add m_3_230 m_3_189 m_3_190 (in_1 (inb_ix3 g10)) (ec_1 _ _ _ _ _) rfl rfl (c_X0_add (inb_ix3 g10) hc13) rfl rfl (Nat.le_of_ble_eq_true rfl) ⟨Nat.le_trans (Nat.le_of_ble_eq_true rfl) hfr, Nat.le_trans (Nat.le_of_ble_eq_true rfl) hlc⟩ ?_
            refine g_ald_n C 0 rfl rfl dX4_add_88 ?_
            refine g_get C dX4_add_89 fl_X4_24 in_23 (ec_23 _ _ _ _ _) rfl ?_
            refine g_ild C 3 rfl dX4_add_92 ?_
            refine g_ald_n C 0 rfl rfl dX4_add_94 ?_
            refine g_get C dX4_add_95 fl_X4_20 in_23 (ec_23 _ _ _ _ _) rfl ?_
            refine g_ild C 3 rfl dX4_add_98 ?_
            obtain ⟨g14, hf⟩ := gd_some hf
            refine g_aald3 C dX4_add_100 in_26 (fun _ => ec_26 _ _ _ _ _) rfl g14 ?_
            refine g_get C dX4_add_101 fl_X4_43 (in_1 (inb_ix3 g14)) (ec_1 _ _ _ _ _) rfl ?_
            refine g_ldc2 (x := 1099511627776) C m_3_231 dX4_add_104 ?_
            refine g_lc_gt C 128 (by decide) dX4_add_107 dX4_add_108 (fun h15 => ?_) (fun h15 => ?_)
            · rw [if_pos h15] at hf
              refine g_iconst C dX4_add_128 ?_
              refine g_goto C 133 (by decide) dX4_add_129 ?_
              obtain ⟨g16, hf⟩ := gd_some hf
              refine g_zast C (Or.inr rfl) dX4_add_133 in_27 (fun _ => ec_27 _ _ _ _ _) (by decide) g16 ?_
              exact g_vret C rfl dX4_add_134 hf
            · rw [if_neg h15] at hf
              refine g_ald_n C 0 rfl rfl dX4_add_111 ?_
              refine g_get C dX4_add_112 fl_X4_20 in_23 (ec_23 _ _ _ _ _) rfl ?_
              refine g_ild C 3 rfl dX4_add_115 ?_
              obtain ⟨g17, hf⟩ := gd_some hf
              refine g_aald3 C dX4_add_117 in_26 (fun _ => ec_26 _ _ _ _ _) rfl g17 ?_
              refine g_get C dX4_add_118 fl_X4_49 (in_1 (inb_ix3 g17)) (ec_1 _ _ _ _ _) rfl ?_
              refine g_ldc2 (x := 1099511627776) C m_3_231 dX4_add_121 ?_
              refine g_lc_le C 132 (by decide) dX4_add_124 dX4_add_125 (fun h18 => ?_) (fun h18 => ?_)
              · rw [if_pos h18] at hf
                refine g_iconst C dX4_add_132 ?_
                obtain ⟨g19, hf⟩ := gd_some hf
                refine g_zast C (Or.inl rfl) dX4_add_133 in_27 (fun _ => ec_27 _ _ _ _ _) (by decide) g19 ?_
                exact g_vret C rfl dX4_add_134 hf
              · rw [if_neg h18] at hf
                refine g_iconst C dX4_add_128 ?_
                refine g_goto C 133 (by decide) dX4_add_129 ?_
                obtain ⟨g20, hf⟩ := gd_some hf
                refine g_zast C (Or.inr rfl) dX4_add_133 in_27 (fun _ => ec_27 _ _ _ _ _) (by decide) g20 ?_
                exact g_vret C rfl dX4_add_134 hf
          · rw [if_neg h9] at hf
            exact g_vret C rfl dX4_add_134 hf
        clear ej21
        refine g_if_eq C 64 (by decide) dX4_add_50 (fun h22 => ?_) (fun h22 => ?_)
        · rw [if_pos h22] at hf
          exact g_sub C [1, 2, 3, 0] rfl (hj64 _ hf)
        · rw [if_neg h22] at hf
          refine g_ald_n C 1 rfl rfl dX4_add_53 ?_
          refine g_get C dX4_add_54 fl_X4_15 in_23 (ec_23 _ _ _ _ _) rfl ?_
          refine g_ild C 0 rfl dX4_add_57 ?_
          refine g_dup2 C rfl rfl dX4_add_59 ?_
          obtain ⟨g23, hf⟩ := gd_some hf
          refine g_iald C dX4_add_60 in_25 (fun _ => ec_25 _ _ _ _ _) g23 ?_
          refine g_iconst C dX4_add_61 ?_
          refine g_iadd C dX4_add_62 ?_
          obtain ⟨g24, hf⟩ := gd_some hf
          refine g_iast C dX4_add_63 in_25 (fun _ => ec_25 _ _ _ _ _) (by decide) g24 ?_
          exact g_sub C [1, 2, 3, 0] rfl (hj64 _ hf)
      · rw [if_neg h3] at hf
        exact g_vret C rfl dX4_add_14 hf
set_option maxHeartbeats 4000000 in
set_option maxRecDepth 100000 in
theorem c_X4_add {l : Launch} {D : va_G} {Y : Nat → ClassId} {α : Adr} {a1 : Int} {a2 : Int} {a3 : Int} {μ : Mem} {r : Int} {μ' : Mem}  (hf : f_X4_add a1 a2 a3 μ = some (r, μ')) : Ctr l D Y LBx yX4_add cX4_add 5 none 3 80 0 0 [vr α 23 0, vi a1, vi a2, vi a3] α μ none (fun a => a = α) μ' := Ctr_of pn_X4 rfl rfl (Nat.le_of_ble_eq_true rfl) LBx_nd (fun p e s m below meth c sz C => b_X4_add C (Nat.le_refl _) (Nat.le_refl _)  hf)
end
