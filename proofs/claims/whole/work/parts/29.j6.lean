/-! java/lang/Integer.bitCount -/
def f_J6_bitCount_0f7a4 (a0 : Int) (μ : Mem) : Option (Int × Mem) := some ((ian (((ian (((ian (a0 - (ian (iush a0 1) 1431655765)) 858993459) + (ian (iush (a0 - (ian (iush a0 1) 1431655765)) 2) 858993459)) + (iush ((ian (a0 - (ian (iush a0 1) 1431655765)) 858993459) + (ian (iush (a0 - (ian (iush a0 1) 1431655765)) 2) 858993459)) 4)) 252645135) + (iush (ian (((ian (a0 - (ian (iush a0 1) 1431655765)) 858993459) + (ian (iush (a0 - (ian (iush a0 1) 1431655765)) 2) 858993459)) + (iush ((ian (a0 - (ian (iush a0 1) 1431655765)) 858993459) + (ian (iush (a0 - (ian (iush a0 1) 1431655765)) 2) 858993459)) 4)) 252645135) 8)) + (iush ((ian (((ian (a0 - (ian (iush a0 1) 1431655765)) 858993459) + (ian (iush (a0 - (ian (iush a0 1) 1431655765)) 2) 858993459)) + (iush ((ian (a0 - (ian (iush a0 1) 1431655765)) 858993459) + (ian (iush (a0 - (ian (iush a0 1) 1431655765)) 2) 858993459)) 4)) 252645135) + (iush (ian (((ian (a0 - (ian (iush a0 1) 1431655765)) 858993459) + (ian (iush (a0 - (ian (iush a0 1) 1431655765)) 2) 858993459)) + (iush ((ian (a0 - (ian (iush a0 1) 1431655765)) 858993459) + (ian (iush (a0 - (ian (iush a0 1) 1431655765)) 2) 858993459)) 4)) 252645135) 8)) 16)) 63), μ)
section
variable {p : Program} {l : Launch} {e : Env} {R : Room} {s : State} {m : MethodId} {args : Array Value} {below : List Frame} {meth : Method} {c : Code} {D : va_G} {Y : Nat → ClassId} {α : Adr} {sz : Nat} {r : Int} {μ' : Mem}
set_option maxHeartbeats 4000000 in
set_option maxRecDepth 100000 in
theorem b_J6_bitCount_0f7a4 {a0 : Int} {μ : Mem} (C : CX p s m args meth c cJ6_bitCount_0f7a4 1 RJ6 (some .int) D Y LBx (Ar LBx α sz)) (hfr : 0 ≤ R.frames) (hlc : 0 ≤ R.locals)  (hf : f_J6_bitCount_0f7a4 a0 μ = some (r, μ')) : GG D Y LBx (Ar LBx α sz) p l e R s m args below meth c 1 (MQ below (Qcx D Y LBx α sz (some (vi r)) (fun a => a = α) μ') args s 0 0 (Ar LBx α sz)) α 0 0 [(0, vi a0)] [] μ 0 := by
  unfold f_J6_bitCount_0f7a4 at hf
  refine g_ild_n C 0 rfl rfl dJ6_bitCount_0f7a4_0 ?_
  refine g_ild_n C 0 rfl rfl dJ6_bitCount_0f7a4_1 ?_
  refine g_iconst C dJ6_bitCount_0f7a4_2 ?_
  refine g_iushr C dJ6_bitCount_0f7a4_3 ?_
  refine g_ldcw (x := 1431655765) C m_3_16 dJ6_bitCount_0f7a4_4 ?_
  refine g_iand C dJ6_bitCount_0f7a4_7 ?_
  refine g_isub C dJ6_bitCount_0f7a4_8 ?_
  refine g_ist_n (lo' := [(0, vi (a0 - (ian (iush a0 1) 1431655765)))]) C rfl (by decide) rfl dJ6_bitCount_0f7a4_9 ?_
  refine g_ild_n C 0 rfl rfl dJ6_bitCount_0f7a4_10 ?_
  refine g_ldcw (x := 858993459) C m_3_17 dJ6_bitCount_0f7a4_11 ?_
  refine g_iand C dJ6_bitCount_0f7a4_14 ?_
  refine g_ild_n C 0 rfl rfl dJ6_bitCount_0f7a4_15 ?_
  refine g_iconst C dJ6_bitCount_0f7a4_16 ?_
  refine g_iushr C dJ6_bitCount_0f7a4_17 ?_
  refine g_ldcw (x := 858993459) C m_3_17 dJ6_bitCount_0f7a4_18 ?_
  refine g_iand C dJ6_bitCount_0f7a4_21 ?_
  refine g_iadd C dJ6_bitCount_0f7a4_22 ?_
  refine g_ist_n (lo' := [(0, vi ((ian (a0 - (ian (iush a0 1) 1431655765)) 858993459) + (ian (iush (a0 - (ian (iush a0 1) 1431655765)) 2) 858993459)))]) C rfl (by decide) rfl dJ6_bitCount_0f7a4_23 ?_
  refine g_ild_n C 0 rfl rfl dJ6_bitCount_0f7a4_24 ?_
  refine g_ild_n C 0 rfl rfl dJ6_bitCount_0f7a4_25 ?_
  refine g_iconst C dJ6_bitCount_0f7a4_26 ?_
  refine g_iushr C dJ6_bitCount_0f7a4_27 ?_
  refine g_iadd C dJ6_bitCount_0f7a4_28 ?_
  refine g_ldcw (x := 252645135) C m_3_18 dJ6_bitCount_0f7a4_29 ?_
  refine g_iand C dJ6_bitCount_0f7a4_32 ?_
  refine g_ist_n (lo' := [(0, vi (ian (((ian (a0 - (ian (iush a0 1) 1431655765)) 858993459) + (ian (iush (a0 - (ian (iush a0 1) 1431655765)) 2) 858993459)) + (iush ((ian (a0 - (ian (iush a0 1) 1431655765)) 858993459) + (ian (iush (a0 - (ian (iush a0 1) 1431655765)) 2) 858993459)) 4)) 252645135))]) C rfl (by decide) rfl dJ6_bitCount_0f7a4_33 ?_
  refine g_ild_n C 0 rfl rfl dJ6_bitCount_0f7a4_34 ?_
  refine g_ild_n C 0 rfl rfl dJ6_bitCount_0f7a4_35 ?_
  refine g_bipush C rfl dJ6_bitCount_0f7a4_36 ?_
  refine g_iushr C dJ6_bitCount_0f7a4_38 ?_
  refine g_iadd C dJ6_bitCount_0f7a4_39 ?_
  refine g_ist_n (lo' := [(0, vi ((ian (((ian (a0 - (ian (iush a0 1) 1431655765)) 858993459) + (ian (iush (a0 - (ian (iush a0 1) 1431655765)) 2) 858993459)) + (iush ((ian (a0 - (ian (iush a0 1) 1431655765)) 858993459) + (ian (iush (a0 - (ian (iush a0 1) 1431655765)) 2) 858993459)) 4)) 252645135) + (iush (ian (((ian (a0 - (ian (iush a0 1) 1431655765)) 858993459) + (ian (iush (a0 - (ian (iush a0 1) 1431655765)) 2) 858993459)) + (iush ((ian (a0 - (ian (iush a0 1) 1431655765)) 858993459) + (ian (iush (a0 - (ian (iush a0 1) 1431655765)) 2) 858993459)) 4)) 252645135) 8)))]) C rfl (by decide) rfl dJ6_bitCount_0f7a4_40 ?_
  refine g_ild_n C 0 rfl rfl dJ6_bitCount_0f7a4_41 ?_
  refine g_ild_n C 0 rfl rfl dJ6_bitCount_0f7a4_42 ?_
  refine g_bipush C rfl dJ6_bitCount_0f7a4_43 ?_
  refine g_iushr C dJ6_bitCount_0f7a4_45 ?_
  refine g_iadd C dJ6_bitCount_0f7a4_46 ?_
  refine g_ist_n (lo' := [(0, vi (((ian (((ian (a0 - (ian (iush a0 1) 1431655765)) 858993459) + (ian (iush (a0 - (ian (iush a0 1) 1431655765)) 2) 858993459)) + (iush ((ian (a0 - (ian (iush a0 1) 1431655765)) 858993459) + (ian (iush (a0 - (ian (iush a0 1) 1431655765)) 2) 858993459)) 4)) 252645135) + (iush (ian (((ian (a0 - (ian (iush a0 1) 1431655765)) 858993459) + (ian (iush (a0 - (ian (iush a0 1) 1431655765)) 2) 858993459)) + (iush ((ian (a0 - (ian (iush a0 1) 1431655765)) 858993459) + (ian (iush (a0 - (ian (iush a0 1) 1431655765)) 2) 858993459)) 4)) 252645135) 8)) + (iush ((ian (((ian (a0 - (ian (iush a0 1) 1431655765)) 858993459) + (ian (iush (a0 - (ian (iush a0 1) 1431655765)) 2) 858993459)) + (iush ((ian (a0 - (ian (iush a0 1) 1431655765)) 858993459) + (ian (iush (a0 - (ian (iush a0 1) 1431655765)) 2) 858993459)) 4)) 252645135) + (iush (ian (((ian (a0 - (ian (iush a0 1) 1431655765)) 858993459) + (ian (iush (a0 - (ian (iush a0 1) 1431655765)) 2) 858993459)) + (iush ((ian (a0 - (ian (iush a0 1) 1431655765)) 858993459) + (ian (iush (a0 - (ian (iush a0 1) 1431655765)) 2) 858993459)) 4)) 252645135) 8)) 16)))]) C rfl (by decide) rfl dJ6_bitCount_0f7a4_47 ?_
  refine g_ild_n C 0 rfl rfl dJ6_bitCount_0f7a4_48 ?_
  refine g_bipush C rfl dJ6_bitCount_0f7a4_49 ?_
  refine g_iand C dJ6_bitCount_0f7a4_51 ?_
  exact g_iret C rfl dJ6_bitCount_0f7a4_52 hf
set_option maxHeartbeats 4000000 in
set_option maxRecDepth 100000 in
theorem c_J6_bitCount_0f7a4 {l : Launch} {D : va_G} {Y : Nat → ClassId} {α : Adr} {a0 : Int} {μ : Mem} {r : Int} {μ' : Mem}  (hf : f_J6_bitCount_0f7a4 a0 μ = some (r, μ')) : Ctr l D Y LBx yJ6_bitCount_0f7a4 cJ6_bitCount_0f7a4 1 (some .int) 0 0 0 0 [vi a0] α μ (some (vi r)) (fun a => a = α) μ' := Ctr_of pn_J6 rfl rfl (Nat.le_of_ble_eq_true rfl) LBx_nd (fun p e s m below meth c sz C => b_J6_bitCount_0f7a4 C (Nat.le_refl _) (Nat.le_refl _)  hf)
end
section
variable {p : Program} {l : Launch} {e : Env} {R : Room} {s : State} {m : MethodId} {args : Array Value} {below : List Frame} {meth : Method} {c : Code} {D : va_G} {Y : Nat → ClassId} {α : Adr} {sz : Nat} {r : Int} {μ' : Mem}
set_option maxHeartbeats 4000000 in
set_option maxRecDepth 100000 in
theorem b_J6_bitCount_0f7a4m {a0 : Int} {μ : Mem} (C : CX p s m args meth c cJ6_bitCount_0f7a4 1 RJ6 (some .int) D Y LBm (Ar LBm α sz)) (hfr : 0 ≤ R.frames) (hlc : 0 ≤ R.locals)  (hf : f_J6_bitCount_0f7a4 a0 μ = some (r, μ')) : GG D Y LBm (Ar LBm α sz) p l e R s m args below meth c 1 (MQ below (Qcx D Y LBm α sz (some (vi r)) (fun a => a = α) μ') args s 0 0 (Ar LBm α sz)) α 0 0 [(0, vi a0)] [] μ 0 := by
  unfold f_J6_bitCount_0f7a4 at hf
  refine g_ild_n C 0 rfl rfl dJ6_bitCount_0f7a4_0 ?_
  refine g_ild_n C 0 rfl rfl dJ6_bitCount_0f7a4_1 ?_
  refine g_iconst C dJ6_bitCount_0f7a4_2 ?_
  refine g_iushr C dJ6_bitCount_0f7a4_3 ?_
  refine g_ldcw (x := 1431655765) C m_3_16 dJ6_bitCount_0f7a4_4 ?_
  refine g_iand C dJ6_bitCount_0f7a4_7 ?_
  refine g_isub C dJ6_bitCount_0f7a4_8 ?_
  refine g_ist_n (lo' := [(0, vi (a0 - (ian (iush a0 1) 1431655765)))]) C rfl (by decide) rfl dJ6_bitCount_0f7a4_9 ?_
  refine g_ild_n C 0 rfl rfl dJ6_bitCount_0f7a4_10 ?_
  refine g_ldcw (x := 858993459) C m_3_17 dJ6_bitCount_0f7a4_11 ?_
  refine g_iand C dJ6_bitCount_0f7a4_14 ?_
  refine g_ild_n C 0 rfl rfl dJ6_bitCount_0f7a4_15 ?_
  refine g_iconst C dJ6_bitCount_0f7a4_16 ?_
  refine g_iushr C dJ6_bitCount_0f7a4_17 ?_
  refine g_ldcw (x := 858993459) C m_3_17 dJ6_bitCount_0f7a4_18 ?_
  refine g_iand C dJ6_bitCount_0f7a4_21 ?_
  refine g_iadd C dJ6_bitCount_0f7a4_22 ?_
  refine g_ist_n (lo' := [(0, vi ((ian (a0 - (ian (iush a0 1) 1431655765)) 858993459) + (ian (iush (a0 - (ian (iush a0 1) 1431655765)) 2) 858993459)))]) C rfl (by decide) rfl dJ6_bitCount_0f7a4_23 ?_
  refine g_ild_n C 0 rfl rfl dJ6_bitCount_0f7a4_24 ?_
  refine g_ild_n C 0 rfl rfl dJ6_bitCount_0f7a4_25 ?_
  refine g_iconst C dJ6_bitCount_0f7a4_26 ?_
  refine g_iushr C dJ6_bitCount_0f7a4_27 ?_
  refine g_iadd C dJ6_bitCount_0f7a4_28 ?_
  refine g_ldcw (x := 252645135) C m_3_18 dJ6_bitCount_0f7a4_29 ?_
  refine g_iand C dJ6_bitCount_0f7a4_32 ?_
  refine g_ist_n (lo' := [(0, vi (ian (((ian (a0 - (ian (iush a0 1) 1431655765)) 858993459) + (ian (iush (a0 - (ian (iush a0 1) 1431655765)) 2) 858993459)) + (iush ((ian (a0 - (ian (iush a0 1) 1431655765)) 858993459) + (ian (iush (a0 - (ian (iush a0 1) 1431655765)) 2) 858993459)) 4)) 252645135))]) C rfl (by decide) rfl dJ6_bitCount_0f7a4_33 ?_
  refine g_ild_n C 0 rfl rfl dJ6_bitCount_0f7a4_34 ?_
  refine g_ild_n C 0 rfl rfl dJ6_bitCount_0f7a4_35 ?_
  refine g_bipush C rfl dJ6_bitCount_0f7a4_36 ?_
  refine g_iushr C dJ6_bitCount_0f7a4_38 ?_
  refine g_iadd C dJ6_bitCount_0f7a4_39 ?_
  refine g_ist_n (lo' := [(0, vi ((ian (((ian (a0 - (ian (iush a0 1) 1431655765)) 858993459) + (ian (iush (a0 - (ian (iush a0 1) 1431655765)) 2) 858993459)) + (iush ((ian (a0 - (ian (iush a0 1) 1431655765)) 858993459) + (ian (iush (a0 - (ian (iush a0 1) 1431655765)) 2) 858993459)) 4)) 252645135) + (iush (ian (((ian (a0 - (ian (iush a0 1) 1431655765)) 858993459) + (ian (iush (a0 - (ian (iush a0 1) 1431655765)) 2) 858993459)) + (iush ((ian (a0 - (ian (iush a0 1) 1431655765)) 858993459) + (ian (iush (a0 - (ian (iush a0 1) 1431655765)) 2) 858993459)) 4)) 252645135) 8)))]) C rfl (by decide) rfl dJ6_bitCount_0f7a4_40 ?_
  refine g_ild_n C 0 rfl rfl dJ6_bitCount_0f7a4_41 ?_
  refine g_ild_n C 0 rfl rfl dJ6_bitCount_0f7a4_42 ?_
  refine g_bipush C rfl dJ6_bitCount_0f7a4_43 ?_
  refine g_iushr C dJ6_bitCount_0f7a4_45 ?_
  refine g_iadd C dJ6_bitCount_0f7a4_46 ?_
  refine g_ist_n (lo' := [(0, vi (((ian (((ian (a0 - (ian (iush a0 1) 1431655765)) 858993459) + (ian (iush (a0 - (ian (iush a0 1) 1431655765)) 2) 858993459)) + (iush ((ian (a0 - (ian (iush a0 1) 1431655765)) 858993459) + (ian (iush (a0 - (ian (iush a0 1) 1431655765)) 2) 858993459)) 4)) 252645135) + (iush (ian (((ian (a0 - (ian (iush a0 1) 1431655765)) 858993459) + (ian (iush (a0 - (ian (iush a0 1) 1431655765)) 2) 858993459)) + (iush ((ian (a0 - (ian (iush a0 1) 1431655765)) 858993459) + (ian (iush (a0 - (ian (iush a0 1) 1431655765)) 2) 858993459)) 4)) 252645135) 8)) + (iush ((ian (((ian (a0 - (ian (iush a0 1) 1431655765)) 858993459) + (ian (iush (a0 - (ian (iush a0 1) 1431655765)) 2) 858993459)) + (iush ((ian (a0 - (ian (iush a0 1) 1431655765)) 858993459) + (ian (iush (a0 - (ian (iush a0 1) 1431655765)) 2) 858993459)) 4)) 252645135) + (iush (ian (((ian (a0 - (ian (iush a0 1) 1431655765)) 858993459) + (ian (iush (a0 - (ian (iush a0 1) 1431655765)) 2) 858993459)) + (iush ((ian (a0 - (ian (iush a0 1) 1431655765)) 858993459) + (ian (iush (a0 - (ian (iush a0 1) 1431655765)) 2) 858993459)) 4)) 252645135) 8)) 16)))]) C rfl (by decide) rfl dJ6_bitCount_0f7a4_47 ?_
  refine g_ild_n C 0 rfl rfl dJ6_bitCount_0f7a4_48 ?_
  refine g_bipush C rfl dJ6_bitCount_0f7a4_49 ?_
  refine g_iand C dJ6_bitCount_0f7a4_51 ?_
  exact g_iret C rfl dJ6_bitCount_0f7a4_52 hf
set_option maxHeartbeats 4000000 in
set_option maxRecDepth 100000 in
theorem c_J6_bitCount_0f7a4m {l : Launch} {D : va_G} {Y : Nat → ClassId} {α : Adr} {a0 : Int} {μ : Mem} {r : Int} {μ' : Mem}  (hf : f_J6_bitCount_0f7a4 a0 μ = some (r, μ')) : Ctr l D Y LBm yJ6_bitCount_0f7a4 cJ6_bitCount_0f7a4 1 (some .int) 0 0 0 0 [vi a0] α μ (some (vi r)) (fun a => a = α) μ' := Ctr_of pn_J6 rfl rfl (Nat.le_of_ble_eq_true rfl) LBm_nd (fun p e s m below meth c sz C => b_J6_bitCount_0f7a4m C (Nat.le_refl _) (Nat.le_refl _)  hf)
end
