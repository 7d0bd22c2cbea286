/-! EndTeller$Fraction.become -/
def f_X0_become (i0 : Nat) (a1 : Int) (a3 : Int) (μ : Mem) : Option (Int × Mem) := bn (f_X8_commonDivisor a1 a3 μ) (fun r1 μ2 => (if w64 r1 ≤ w64 0 then some (0, μ2) else gd (¬ w64 r1 = 0) (gd (¬ w64 r1 = 0) (some (0, (st (st μ2 1 i0 0 (Int.tdiv (w64 a1) (w64 r1))) 1 i0 1 (Int.tdiv (w64 a3) (w64 r1))))))))
section
variable {p : Program} {l : Launch} {e : Env} {R : Room} {s : State} {m : MethodId} {args : Array Value} {below : List Frame} {meth : Method} {c : Code} {D : va_G} {Y : Nat → ClassId} {α : Adr} {sz : Nat} {r : Int} {μ' : Mem}
set_option maxHeartbeats 4000000 in
set_option maxRecDepth 100000 in
theorem b_X0_become {i0 : Nat} {a1 : Int} {a3 : Int} {μ : Mem} (C : CX p s m args meth c cX0_become 7 RX0 none D Y LBx (Ar LBx α sz)) (hfr : 1 ≤ R.frames) (hlc : 30 ≤ R.locals) (hi0 : i0 < 13) (hf : f_X0_become i0 a1 a3 μ = some (r, μ')) : GG D Y LBx (Ar LBx α sz) p l e R s m args below meth c 7 (MQ below (Qcx D Y LBx α sz none (fun a => a = α) μ') args s 0 0 (Ar LBx α sz)) α 0 0 [(0, vr α 1 i0), (1, vl a1), (3, vl a3)] [] μ 0 := by
  unfold f_X0_become at hf
  refine g_lld_n C 1 rfl rfl dX0_become_0 ?_
  refine g_lld_n C 2 rfl rfl dX0_become_1 ?_
  obtain ⟨r1, μ2, hc3, hf⟩ := bn_some hf
  refine g_callNp (As := [vl a1, vl a3]) (rest := []) C ⟨Nat.zero_le _, Nat.zero_le _⟩ dX0_become_2 cw_X8_commonDivisor C.hnw.2 m_2_170 (c_X8_commonDivisor  hc3) rfl rfl (Nat.le_of_ble_eq_true rfl) ⟨Nat.le_trans (Nat.le_of_ble_eq_true rfl) hfr, Nat.le_trans (Nat.le_of_ble_eq_true rfl) hlc⟩ ?_
  refine g_lst (lo' := [(5, vl r1), (0, vr α 1 i0), (1, vl a1), (3, vl a3)]) C (by decide) rfl dX0_become_5 ?_
  refine g_lld C 0 rfl dX0_become_7 ?_
  refine g_lconst (x := 0) C rfl dX0_become_9 ?_
  refine g_lc_le C 30 (by decide) dX0_become_10 dX0_become_11 (fun h4 => ?_) (fun h4 => ?_)
  · rw [if_pos h4] at hf
    exact g_vret C rfl dX0_become_30 hf
  · rw [if_neg h4] at hf
    refine g_ald_n C 1 rfl rfl dX0_become_14 ?_
    refine g_lld_n C 2 rfl rfl dX0_become_15 ?_
    refine g_lld C 0 rfl dX0_become_16 ?_
    obtain ⟨g5, hf⟩ := gd_some hf
    refine g_ldiv C g5 dX0_become_18 ?_
    refine g_putl C dX0_become_19 fl_X0_7 (in_1 hi0) (ec_1 _ _ _ _ _) (Nat.le_of_ble_eq_true rfl) rfl (by decide) ?_
    refine g_ald_n C 1 rfl rfl dX0_become_22 ?_
    refine g_lld_n C 3 rfl rfl dX0_become_23 ?_
    refine g_lld C 0 rfl dX0_become_24 ?_
    obtain ⟨g6, hf⟩ := gd_some hf
    refine g_ldiv C g6 dX0_become_26 ?_
    refine g_putl C dX0_become_27 fl_X0_13 (in_1 hi0) (ec_1 _ _ _ _ _) (Nat.le_of_ble_eq_true rfl) rfl (by decide) ?_
    exact g_vret C rfl dX0_become_30 hf
set_option maxHeartbeats 4000000 in
set_option maxRecDepth 100000 in
theorem c_X0_become {l : Launch} {D : va_G} {Y : Nat → ClassId} {α : Adr} {i0 : Nat} {a1 : Int} {a3 : Int} {μ : Mem} {r : Int} {μ' : Mem} (hi0 : i0 < 13) (hf : f_X0_become i0 a1 a3 μ = some (r, μ')) : Ctr l D Y LBx yX0_become cX0_become 7 none 1 30 0 0 [vr α 1 i0, vl a1, vl a3] α μ none (fun a => a = α) μ' := Ctr_of pn_X0 rfl rfl (Nat.le_of_ble_eq_true rfl) LBx_nd (fun p e s m below meth c sz C => b_X0_become C (Nat.le_refl _) (Nat.le_refl _) hi0 hf)
end

/-! EndTeller$Fraction.add -/
def f_X0_add (i0 : Nat) (a1 : Int) (a3 : Int) (μ : Mem) : Option (Int × Mem) := bn (f_X0_become i0 (((μ 1 i0 0) * a3) + (a1 * (μ 1 i0 1))) ((μ 1 i0 1) * a3) μ) (fun r1 μ2 => some (0, μ2))
section
variable {p : Program} {l : Launch} {e : Env} {R : Room} {s : State} {m : MethodId} {args : Array Value} {below : List Frame} {meth : Method} {c : Code} {D : va_G} {Y : Nat → ClassId} {α : Adr} {sz : Nat} {r : Int} {μ' : Mem}
set_option maxHeartbeats 4000000 in
set_option maxRecDepth 100000 in
theorem b_X0_add {i0 : Nat} {a1 : Int} {a3 : Int} {μ : Mem} (C : CX p s m args meth c cX0_add 5 RX0 none D Y LBx (Ar LBx α sz)) (hfr : 2 ≤ R.frames) (hlc : 56 ≤ R.locals) (hi0 : i0 < 13) (hf : f_X0_add i0 a1 a3 μ = some (r, μ')) : GG D Y LBx (Ar LBx α sz) p l e R s m args below meth c 5 (MQ below (Qcx D Y LBx α sz none (fun a => a = α) μ') args s 0 0 (Ar LBx α sz)) α 0 0 [(0, vr α 1 i0), (1, vl a1), (3, vl a3)] [] μ 0 := by
  unfold f_X0_add at hf
  refine g_ald_n C 0 rfl rfl dX0_add_0 ?_
  refine g_ald_n C 0 rfl rfl dX0_add_1 ?_
  refine g_get C dX0_add_2 fl_X0_7 (in_1 hi0) (ec_1 _ _ _ _ _) rfl ?_
  refine g_lld_n C 2 rfl rfl dX0_add_5 ?_
  refine g_lmul C dX0_add_6 ?_
  refine g_lld_n C 1 rfl rfl dX0_add_7 ?_
  refine g_ald_n C 0 rfl rfl dX0_add_8 ?_
  refine g_get C dX0_add_9 fl_X0_13 (in_1 hi0) (ec_1 _ _ _ _ _) rfl ?_
  refine g_lmul C dX0_add_12 ?_
  refine g_ladd C dX0_add_13 ?_
  refine g_ald_n C 0 rfl rfl dX0_add_14 ?_
  refine g_get C dX0_add_15 fl_X0_13 (in_1 hi0) (ec_1 _ _ _ _ _) rfl ?_
  refine g_lld_n C 2 rfl rfl dX0_add_18 ?_
  refine g_lmul C dX0_add_19 ?_
  obtain ⟨r1, μ2, hc3, hf⟩ := bn_some hf
  refine g_callVp (As := [vl (((μ 1 i0 0) * a3) + (a1 * (μ 1 i0 1))), vl ((μ 1 i0 1) * a3)]) (rest := []) C ⟨Nat.zero_le _, Nat.zero_le _⟩ dX0_add_20 cw_X0_become m_3_192 m_3_122 m_3_123 (in_1 hi0) (ec_1 _ _ _ _ _) rfl rfl (c_X0_become hi0 hc3) rfl rfl (Nat.le_of_ble_eq_true rfl) ⟨Nat.le_trans (Nat.le_of_ble_eq_true rfl) hfr, Nat.le_trans (Nat.le_of_ble_eq_true rfl) hlc⟩ ?_
  exact g_vret C rfl dX0_add_23 hf
set_option maxHeartbeats 4000000 in
set_option maxRecDepth 100000 in
theorem c_X0_add {l : Launch} {D : va_G} {Y : Nat → ClassId} {α : Adr} {i0 : Nat} {a1 : Int} {a3 : Int} {μ : Mem} {r : Int} {μ' : Mem} (hi0 : i0 < 13) (hf : f_X0_add i0 a1 a3 μ = some (r, μ')) : Ctr l D Y LBx yX0_add cX0_add 5 none 2 56 0 0 [vr α 1 i0, vl a1, vl a3] α μ none (fun a => a = α) μ' := Ctr_of pn_X0 rfl rfl (Nat.le_of_ble_eq_true rfl) LBx_nd (fun p e s m below meth c sz C => b_X0_add C (Nat.le_refl _) (Nat.le_refl _) hi0 hf)
end

/-! EndTeller$Fraction.isLessThan -/
def f_X0_isLessThan (i0 : Nat) (i1 : Nat) (μ : Mem) : Option (Int × Mem) := (if w64 (μ 1 i0 1) < w64 1 then some (0, μ) else (if w64 1 ≤ w64 (μ 1 i1 1) then gd (¬ w64 (μ 1 i0 1) = 0) (gd (¬ w64 (μ 1 i1 1) = 0) ((if w64 (Int.tdiv (w64 (μ 1 i0 0)) (w64 (μ 1 i0 1))) = w64 (Int.tdiv (w64 (μ 1 i1 0)) (w64 (μ 1 i1 1))) then gd (¬ w64 (μ 1 i0 1) = 0) (gd (¬ w64 (μ 1 i1 1) = 0) ((if w64 ((Int.tmod (w64 (μ 1 i1 0)) (w64 (μ 1 i1 1))) * (μ 1 i0 1)) ≤ w64 ((Int.tmod (w64 (μ 1 i0 0)) (w64 (μ 1 i0 1))) * (μ 1 i1 1)) then some (0, μ) else some (1, μ)))) else (if w64 (Int.tdiv (w64 (μ 1 i1 0)) (w64 (μ 1 i1 1))) ≤ w64 (Int.tdiv (w64 (μ 1 i0 0)) (w64 (μ 1 i0 1))) then some (0, μ) else some (1, μ))))) else some (0, μ)))
section
variable {p : Program} {l : Launch} {e : Env} {R : Room} {s : State} {m : MethodId} {args : Array Value} {below : List Frame} {meth : Method} {c : Code} {D : va_G} {Y : Nat → ClassId} {α : Adr} {sz : Nat} {r : Int} {μ' : Mem}
set_option maxHeartbeats 4000000 in
set_option maxRecDepth 100000 in
theorem b_X0_isLessThan {i0 : Nat} {i1 : Nat} {μ : Mem} (C : CX p s m args meth c cX0_isLessThan 6 RX0 (some .boolean) D Y LBx (Ar LBx α sz)) (hfr : 0 ≤ R.frames) (hlc : 0 ≤ R.locals) (hi0 : i0 < 13) (hi1 : i1 < 13) (hf : f_X0_isLessThan i0 i1 μ = some (r, μ')) : GG D Y LBx (Ar LBx α sz) p l e R s m args below meth c 6 (MQ below (Qcx D Y LBx α sz (some (vi r)) (fun a => a = α) μ') args s 0 0 (Ar LBx α sz)) α 0 0 [(0, vr α 1 i0), (1, vr α 1 i1)] [] μ 0 := by
  unfold f_X0_isLessThan at hf
  refine g_ald_n C 0 rfl rfl dX0_isLessThan_0 ?_
  refine g_get C dX0_isLessThan_1 fl_X0_13 (in_1 hi0) (ec_1 _ _ _ _ _) rfl ?_
  refine g_lconst (x := 1) C rfl dX0_isLessThan_4 ?_
  refine g_lc_lt C 18 (by decide) dX0_isLessThan_5 dX0_isLessThan_6 (fun h1 => ?_) (fun h1 => ?_)
  · rw [if_pos h1] at hf
    refine g_iconst C dX0_isLessThan_18 ?_
    exact g_zret C rfl (Or.inl rfl) dX0_isLessThan_19 hf
  · rw [if_neg h1] at hf
    refine g_ald_n C 1 rfl rfl dX0_isLessThan_9 ?_
    refine g_get C dX0_isLessThan_10 fl_X0_13 (in_1 hi1) (ec_1 _ _ _ _ _) rfl ?_
    refine g_lconst (x := 1) C rfl dX0_isLessThan_13 ?_
    refine g_lc_ge C 20 (by decide) dX0_isLessThan_14 dX0_isLessThan_15 (fun h2 => ?_) (fun h2 => ?_)
    · rw [if_pos h2] at hf
      refine g_ald_n C 0 rfl rfl dX0_isLessThan_20 ?_
      refine g_get C dX0_isLessThan_21 fl_X0_7 (in_1 hi0) (ec_1 _ _ _ _ _) rfl ?_
      refine g_ald_n C 0 rfl rfl dX0_isLessThan_24 ?_
      refine g_get C dX0_isLessThan_25 fl_X0_13 (in_1 hi0) (ec_1 _ _ _ _ _) rfl ?_
      obtain ⟨g3, hf⟩ := gd_some hf
      refine g_ldiv C g3 dX0_isLessThan_28 ?_
      refine g_lst_n (lo' := [(2, vl (Int.tdiv (w64 (μ 1 i0 0)) (w64 (μ 1 i0 1)))), (0, vr α 1 i0), (1, vr α 1 i1)]) C rfl (by decide) rfl dX0_isLessThan_29 ?_
      refine g_ald_n C 2 rfl rfl dX0_isLessThan_30 ?_
      refine g_get C dX0_isLessThan_31 fl_X0_7 (in_1 hi1) (ec_1 _ _ _ _ _) rfl ?_
      refine g_ald_n C 2 rfl rfl dX0_isLessThan_34 ?_
      refine g_get C dX0_isLessThan_35 fl_X0_13 (in_1 hi1) (ec_1 _ _ _ _ _) rfl ?_
      obtain ⟨g4, hf⟩ := gd_some hf
      refine g_ldiv C g4 dX0_isLessThan_38 ?_
      refine g_lst (lo' := [(4, vl (Int.tdiv (w64 (μ 1 i1 0)) (w64 (μ 1 i1 1)))), (2, vl (Int.tdiv (w64 (μ 1 i0 0)) (w64 (μ 1 i0 1)))), (0, vr α 1 i0), (1, vr α 1 i1)]) C (by decide) rfl dX0_isLessThan_39 ?_
      refine g_lld_n C 1 rfl rfl dX0_isLessThan_41 ?_
      refine g_lld C 0 rfl dX0_isLessThan_42 ?_
      refine g_lc_eq C 61 (by decide) dX0_isLessThan_44 dX0_isLessThan_45 (fun h5 => ?_) (fun h5 => ?_)
      · rw [if_pos h5] at hf
        refine g_ald_n C 2 rfl rfl dX0_isLessThan_61 ?_
        refine g_get C dX0_isLessThan_62 fl_X0_7 (in_1 hi0) (ec_1 _ _ _ _ _) rfl ?_
        refine g_ald_n C 2 rfl rfl dX0_isLessThan_65 ?_
        refine g_get C dX0_isLessThan_66 fl_X0_13 (in_1 hi0) (ec_1 _ _ _ _ _) rfl ?_
        obtain ⟨g6, hf⟩ := gd_some hf
        refine g_lrem C g6 dX0_isLessThan_69 ?_
        refine g_ald_n C 3 rfl rfl dX0_isLessThan_70 ?_
        refine g_get C dX0_isLessThan_71 fl_X0_13 (in_1 hi1) (ec_1 _ _ _ _ _) rfl ?_
        refine g_lmul C dX0_isLessThan_74 ?_
        refine g_ald_n C 3 rfl rfl dX0_isLessThan_75 ?_
        refine g_get C dX0_isLessThan_76 fl_X0_7 (in_1 hi1) (ec_1 _ _ _ _ _) rfl ?_
        refine g_ald_n C 3 rfl rfl dX0_isLessThan_79 ?_
        refine g_get C dX0_isLessThan_80 fl_X0_13 (in_1 hi1) (ec_1 _ _ _ _ _) rfl ?_
        obtain ⟨g7, hf⟩ := gd_some hf
        refine g_lrem C g7 dX0_isLessThan_83 ?_
        refine g_ald_n C 2 rfl rfl dX0_isLessThan_84 ?_
        refine g_get C dX0_isLessThan_85 fl_X0_13 (in_1 hi0) (ec_1 _ _ _ _ _) rfl ?_
        refine g_lmul C dX0_isLessThan_88 ?_
        refine g_lc_ge C 97 (by decide) dX0_isLessThan_89 dX0_isLessThan_90 (fun h8 => ?_) (fun h8 => ?_)
        · rw [if_pos h8] at hf
          refine g_iconst C dX0_isLessThan_97 ?_
          exact g_zret C rfl (Or.inl rfl) dX0_isLessThan_98 hf
        · rw [if_neg h8] at hf
          refine g_iconst C dX0_isLessThan_93 ?_
          refine g_goto C 98 (by decide) dX0_isLessThan_94 ?_
          exact g_zret C rfl (Or.inr rfl) dX0_isLessThan_98 hf
      · rw [if_neg h5] at hf
        refine g_lld_n C 1 rfl rfl dX0_isLessThan_48 ?_
        refine g_lld C 0 rfl dX0_isLessThan_49 ?_
        refine g_lc_ge C 59 (by decide) dX0_isLessThan_51 dX0_isLessThan_52 (fun h9 => ?_) (fun h9 => ?_)
        · rw [if_pos h9] at hf
          refine g_iconst C dX0_isLessThan_59 ?_
          exact g_zret C rfl (Or.inl rfl) dX0_isLessThan_60 hf
        · rw [if_neg h9] at hf
          refine g_iconst C dX0_isLessThan_55 ?_
          refine g_goto C 60 (by decide) dX0_isLessThan_56 ?_
          exact g_zret C rfl (Or.inr rfl) dX0_isLessThan_60 hf
    · rw [if_neg h2] at hf
      refine g_iconst C dX0_isLessThan_18 ?_
      exact g_zret C rfl (Or.inl rfl) dX0_isLessThan_19 hf
set_option maxHeartbeats 4000000 in
set_option maxRecDepth 100000 in
theorem c_X0_isLessThan {l : Launch} {D : va_G} {Y : Nat → ClassId} {α : Adr} {i0 : Nat} {i1 : Nat} {μ : Mem} {r : Int} {μ' : Mem} (hi0 : i0 < 13) (hi1 : i1 < 13) (hf : f_X0_isLessThan i0 i1 μ = some (r, μ')) : Ctr l D Y LBx yX0_isLessThan cX0_isLessThan 6 (some .boolean) 0 0 0 0 [vr α 1 i0, vr α 1 i1] α μ (some (vi r)) (fun a => a = α) μ' := Ctr_of pn_X0 rfl rfl (Nat.le_of_ble_eq_true rfl) LBx_nd (fun p e s m below meth c sz C => b_X0_isLessThan C (Nat.le_refl _) (Nat.le_refl _) hi0 hi1 hf)
end
