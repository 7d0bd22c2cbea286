/-! EndTeller.commonDivisor -/
def f_X8_commonDivisor_L9  : Nat → Int → Int → Int → Mem → Option (Int × Mem)
  | 0, _, _, _, _ => none
  | n + 1, x4, x6, x8, μ => (if w32 200 ≤ w32 x8 then some (x4, μ) else (if w64 x6 = w64 0 then some (x4, μ) else gd (¬ w64 x6 = 0) (f_X8_commonDivisor_L9 n x6 (Int.tmod (w64 x4) (w64 x6)) (x8 + 1) μ)))
def f_X8_commonDivisor (a0 : Int) (a2 : Int) (μ : Mem) : Option (Int × Mem) := f_X8_commonDivisor_L9 FU a0 a2 0 μ
section
variable {p : Program} {l : Launch} {e : Env} {R : Room} {s : State} {m : MethodId} {args : Array Value} {below : List Frame} {meth : Method} {c : Code} {D : va_G} {Y : Nat → ClassId} {α : Adr} {sz : Nat} {r : Int} {μ' : Mem}
set_option maxHeartbeats 4000000 in
set_option maxRecDepth 100000 in
theorem c_X8_commonDivisor_l9  (C : CX p s m args meth c cX8_commonDivisor 11 RX8 (some .long) D Y LBx (Ar LBx α sz)) (hfr : 0 ≤ R.frames) (hlc : 0 ≤ R.locals)    : ∀ (n : Nat) (x4 x6 x8 : Int) (μ : Mem), f_X8_commonDivisor_L9 n x4 x6 x8 μ = some (r, μ') → GG D Y LBx (Ar LBx α sz) p l e R s m args below meth c 11 (MQ below (Qcx D Y LBx α sz (some (vl r)) (fun a => a = α) μ') args s 0 0 (Ar LBx α sz)) α 0 0 [(4, vl x4), (6, vl x6), (8, vi x8)] [] μ 9 := by
  intro n
  induction n with
  | zero =>
    intro x4 x6 x8 μ hf
    exact nomatch (show (none : Option (Int × Mem)) = some _ from hf)
  | succ n ih =>
    intro x4 x6 x8 μ hf
    rw [f_X8_commonDivisor_L9.eq_2] at hf
    refine g_ild C 2 rfl dX8_commonDivisor_9 ?_
    refine g_sipush C rfl dX8_commonDivisor_11 ?_
    refine g_ic_ge C 45 (by decide) dX8_commonDivisor_14 (fun h1 => ?_) (fun h1 => ?_)
    · rw [if_pos h1] at hf
      refine g_lld C 0 rfl dX8_commonDivisor_45 ?_
      exact g_lret C rfl dX8_commonDivisor_47 hf
    · rw [if_neg h1] at hf
      refine g_lld C 1 rfl dX8_commonDivisor_17 ?_
      refine g_lconst (x := 0) C rfl dX8_commonDivisor_19 ?_
      refine g_lc_eq C 45 (by decide) dX8_commonDivisor_20 dX8_commonDivisor_21 (fun h2 => ?_) (fun h2 => ?_)
      · rw [if_pos h2] at hf
        refine g_lld C 0 rfl dX8_commonDivisor_45 ?_
        exact g_lret C rfl dX8_commonDivisor_47 hf
      · rw [if_neg h2] at hf
        refine g_lld C 0 rfl dX8_commonDivisor_24 ?_
        refine g_lld C 1 rfl dX8_commonDivisor_26 ?_
        obtain ⟨g3, hf⟩ := gd_some hf
        refine g_lrem C g3 dX8_commonDivisor_28 ?_
        refine g_lst (lo' := [(9, vl (Int.tmod (w64 x4) (w64 x6))), (4, vl x4), (6, vl x6), (8, vi x8)]) C (by decide) rfl dX8_commonDivisor_29 ?_
        refine g_lld C 2 rfl dX8_commonDivisor_31 ?_
        refine g_lst (lo' := [(4, vl x6), (9, vl (Int.tmod (w64 x4) (w64 x6))), (6, vl x6), (8, vi x8)]) C (by decide) rfl dX8_commonDivisor_33 ?_
        refine g_lld C 1 rfl dX8_commonDivisor_35 ?_
        refine g_lst (lo' := [(6, vl (Int.tmod (w64 x4) (w64 x6))), (4, vl x6), (9, vl (Int.tmod (w64 x4) (w64 x6))), (8, vi x8)]) C (by decide) rfl dX8_commonDivisor_37 ?_
        refine g_iinc (lo' := [(8, vi (x8 + 1)), (6, vl (Int.tmod (w64 x4) (w64 x6))), (4, vl x6), (9, vl (Int.tmod (w64 x4) (w64 x6)))]) C 3 rfl (by decide) rfl dX8_commonDivisor_39 ?_
        refine g_goto C 9 (by decide) dX8_commonDivisor_42 ?_
        exact g_sub C [2, 1, 0] rfl (ih _ _ _ _ hf)
set_option maxHeartbeats 4000000 in
set_option maxRecDepth 100000 in
theorem b_X8_commonDivisor {a0 : Int} {a2 : Int} {μ : Mem} (C : CX p s m args meth c cX8_commonDivisor 11 RX8 (some .long) D Y LBx (Ar LBx α sz)) (hfr : 0 ≤ R.frames) (hlc : 0 ≤ R.locals)  (hf : f_X8_commonDivisor a0 a2 μ = some (r, μ')) : GG D Y LBx (Ar LBx α sz) p l e R s m args below meth c 11 (MQ below (Qcx D Y LBx α sz (some (vl r)) (fun a => a = α) μ') args s 0 0 (Ar LBx α sz)) α 0 0 [(0, vl a0), (2, vl a2)] [] μ 0 := by
  unfold f_X8_commonDivisor at hf
  refine g_lld_n C 0 rfl rfl dX8_commonDivisor_0 ?_
  refine g_lst (lo' := [(4, vl a0), (0, vl a0), (2, vl a2)]) C (by decide) rfl dX8_commonDivisor_1 ?_
  refine g_lld_n C 2 rfl rfl dX8_commonDivisor_3 ?_
  refine g_lst (lo' := [(6, vl a2), (4, vl a0), (0, vl a0), (2, vl a2)]) C (by decide) rfl dX8_commonDivisor_4 ?_
  refine g_iconst C dX8_commonDivisor_6 ?_
  refine g_ist (lo' := [(8, vi 0), (6, vl a2), (4, vl a0), (0, vl a0), (2, vl a2)]) C (by decide) rfl dX8_commonDivisor_7 ?_
  refine g_sub C [2, 1, 0] rfl (c_X8_commonDivisor_l9 C hfr hlc   _ _ _ _ _ hf)
set_option maxHeartbeats 4000000 in
set_option maxRecDepth 100000 in
theorem c_X8_commonDivisor {l : Launch} {D : va_G} {Y : Nat → ClassId} {α : Adr} {a0 : Int} {a2 : Int} {μ : Mem} {r : Int} {μ' : Mem}  (hf : f_X8_commonDivisor a0 a2 μ = some (r, μ')) : Ctr l D Y LBx yX8_commonDivisor cX8_commonDivisor 11 (some .long) 0 0 0 0 [vl a0, vl a2] α μ (some (vl r)) (fun a => a = α) μ' := Ctr_of pn_X8 rfl rfl (Nat.le_of_ble_eq_true rfl) LBx_nd (fun p e s m below meth c sz C => b_X8_commonDivisor C (Nat.le_refl _) (Nat.le_refl _)  hf)
end
