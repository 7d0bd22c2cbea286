/-! THE REFERENCE'S CONSTRUCTOR (by program ctorm.py) -/
def μM0 : Mem := fun t _ => if t = 30 then (fun k => if k = 3 then 1 else if k = 9 then 30 else if k = 10 then -1 else 0) else fun _ => 0
def μM1 : Mem := st (st (st (st μM0 32 0 0 (-1)) 32 0 1 (-1)) 32 0 2 (-1)) 32 0 3 (-1)
section CRET
variable {p : Program} {l : Launch} {e : Env} {R : Room} {s : State} {m : MethodId} {args : Array Value} {below : List Frame} {meth : Method} {c : Code} {Q : State → Prop}
variable {D : va_G} {Y : Nat → ClassId} {LB : List (Nat × Nat)} {A : Nat → Prop} {cc : ByteArray} {nL : Nat} {own : String} {α : Adr} {cells slots : Nat} {lo : List (Nat × Value)} {sk : List Value} {w : va_W} {μ : Mem} {pc : Nat}
theorem g_cret {h0 sz t0 mc ms : Nat} (C : CX p s m args meth c cc nL own none D Y LB (Ah h0 sz)) (hα : α t0 0 = h0) (hc : cells = mc) (hs : slots = ms) (hd : decode cc pc = .ok (.return_, 1)) : GG D Y LB (Ah h0 sz) p l e R s m args below meth c nL (MQ below (Qci D Y LB t0 μ h0 sz) args s mc ms (Ah h0 sz)) α cells slots lo [] μ pc := by
  intro H locs ls hP hD hS hl
  subst hc
  subst hs
  exact W.vret C.hx C.hb C.hr (fun t ht hW => ⟨⟨rfl, α, hα, by rw [ht]; exact hP, hD⟩, hS.F ht⟩) hS.2.2 hd C.hlk
theorem k_toG (hw : w = wl Y LB α μ) (k : GG D Y LB A p l e R s m args below meth c nL Q α cells slots lo sk μ pc) : GC D A p l e R s m args below meth c nL Q cells slots lo sk w pc := by rw [hw]; exact k
end CRET
theorem CY.toX {p : Program} {s : State} {m : MethodId} {args : Array Value} {meth : Method} {c : Code} {cc : ByteArray} {nL : Nat} {own : String} {D : va_G} {Y : Nat → ClassId} {A : Nat → Prop} {LB : List (Nat × Nat)} (C : CY p s m args meth c cc nL own D Y A) (h : LB.Nodup) : CX p s m args meth c cc nL own none D Y LB A := ⟨C.1.hx, C.1.hb, C.1.hml, C.1.hown, C.1.hts, C.1.hK, C.1.hA, C.1.hr, C.1.hlk, C.1.hnw, h⟩
set_option maxRecDepth 100000 in
theorem l_X9_init {p : Program} {l : Launch} {e : Env} {R : Room} {s : State} {m : MethodId} {args : Array Value} {below : List Frame} {meth : Method} {c : Code} {D : va_G} {Y : Nat → ClassId} {A : Nat → Prop} {Q : State → Prop} {α : Adr} {cells slots : Nat} {μ : Mem} (C : CX p s m args meth c cX9_init 2 RX9 none D Y LBm A) (kend : GG D Y LBm A p l e R s m args below meth c 2 Q α cells slots [(1, vi (0 + 1 + 1 + 1 + 1)), (0, vr α 30 0)] [] (st (st (st (st μ 32 0 0 (-1)) 32 0 1 (-1)) 32 0 2 (-1)) 32 0 3 (-1)) 234) : GG D Y LBm A p l e R s m args below meth c 2 Q α cells slots [(0, vr α 30 0)] [] μ 214 := by
  refine g_iconst C dX9_init_214 ?_
  refine g_ist_n (lo' := [(1, vi 0), (0, vr α 30 0)]) C rfl (by decide) rfl dX9_init_215 ?_
  refine g_ild_n C 0 rfl rfl dX9_init_216 ?_
  refine g_iconst C dX9_init_217 ?_
  refine g_ic_ge C 234 (by decide) dX9_init_218 (fun h => absurd h (by decide +kernel)) (fun h => ?_)
  clear h
  refine g_ald_n C 1 rfl rfl dX9_init_221 ?_
  refine g_get C dX9_init_222 fl_X9_17 in_30 rfl rfl ?_
  refine g_ild_n C 0 rfl rfl dX9_init_225 ?_
  refine g_iconst C dX9_init_226 ?_
  refine g_iast (n := 4) C dX9_init_227 in_32 (fun _ => rfl) (by decide) (by decide +kernel) ?_
  rw [show ix (0) = 0 by decide +kernel]
  refine g_iinc (lo' := [(1, vi (0 + 1)), (0, vr α 30 0)]) C 0 rfl (by decide) rfl dX9_init_228 ?_
  refine g_goto C 216 (by decide) dX9_init_231 ?_
  refine g_ild_n C 0 rfl rfl dX9_init_216 ?_
  refine g_iconst C dX9_init_217 ?_
  refine g_ic_ge C 234 (by decide) dX9_init_218 (fun h => absurd h (by decide +kernel)) (fun h => ?_)
  clear h
  refine g_ald_n C 1 rfl rfl dX9_init_221 ?_
  refine g_get C dX9_init_222 fl_X9_17 in_30 rfl rfl ?_
  refine g_ild_n C 0 rfl rfl dX9_init_225 ?_
  refine g_iconst C dX9_init_226 ?_
  refine g_iast (n := 4) C dX9_init_227 in_32 (fun _ => rfl) (by decide) (by decide +kernel) ?_
  rw [show ix (0 + 1) = 1 by decide +kernel]
  refine g_iinc (lo' := [(1, vi (0 + 1 + 1)), (0, vr α 30 0)]) C 0 rfl (by decide) rfl dX9_init_228 ?_
  refine g_goto C 216 (by decide) dX9_init_231 ?_
  refine g_ild_n C 0 rfl rfl dX9_init_216 ?_
  refine g_iconst C dX9_init_217 ?_
  refine g_ic_ge C 234 (by decide) dX9_init_218 (fun h => absurd h (by decide +kernel)) (fun h => ?_)
  clear h
  refine g_ald_n C 1 rfl rfl dX9_init_221 ?_
  refine g_get C dX9_init_222 fl_X9_17 in_30 rfl rfl ?_
  refine g_ild_n C 0 rfl rfl dX9_init_225 ?_
  refine g_iconst C dX9_init_226 ?_
  refine g_iast (n := 4) C dX9_init_227 in_32 (fun _ => rfl) (by decide) (by decide +kernel) ?_
  rw [show ix (0 + 1 + 1) = 2 by decide +kernel]
  refine g_iinc (lo' := [(1, vi (0 + 1 + 1 + 1)), (0, vr α 30 0)]) C 0 rfl (by decide) rfl dX9_init_228 ?_
  refine g_goto C 216 (by decide) dX9_init_231 ?_
  refine g_ild_n C 0 rfl rfl dX9_init_216 ?_
  refine g_iconst C dX9_init_217 ?_
  refine g_ic_ge C 234 (by decide) dX9_init_218 (fun h => absurd h (by decide +kernel)) (fun h => ?_)
  clear h
  refine g_ald_n C 1 rfl rfl dX9_init_221 ?_
  refine g_get C dX9_init_222 fl_X9_17 in_30 rfl rfl ?_
  refine g_ild_n C 0 rfl rfl dX9_init_225 ?_
  refine g_iconst C dX9_init_226 ?_
  refine g_iast (n := 4) C dX9_init_227 in_32 (fun _ => rfl) (by decide) (by decide +kernel) ?_
  rw [show ix (0 + 1 + 1 + 1) = 3 by decide +kernel]
  refine g_iinc (lo' := [(1, vi (0 + 1 + 1 + 1 + 1)), (0, vr α 30 0)]) C 0 rfl (by decide) rfl dX9_init_228 ?_
  refine g_goto C 216 (by decide) dX9_init_231 ?_
  refine g_ild_n C 0 rfl rfl dX9_init_216 ?_
  refine g_iconst C dX9_init_217 ?_
  refine g_ic_ge C 234 (by decide) dX9_init_218 (fun h => ?_) (fun h => absurd (by decide +kernel) h)
  exact kend
theorem wl_M0 (Y : Nat → ClassId) (α : Adr) : ([(α 30 0, .inr (9, [vi 0, vi 0, vl 0, vl 1, .ref (α 31 0), .ref (α 32 0), .ref (α 33 0), vi 0, vi 0, vi 30, vi (-1), .ref (α 34 0), .ref (α 35 0), .ref (α 36 0), .ref (α 37 0), .ref (α 38 0), .ref (α 39 0), .ref (α 40 0), .ref (α 41 0), .ref (α 42 0), .ref (α 43 0), .ref (α 44 0), .ref (α 45 0), .ref (α 46 0), .ref (α 47 0), .ref (α 48 0), .ref (α 49 0), vi 0, .ref (α 50 0), .ref (α 51 0), .ref (α 52 0), .ref (α 53 0), .ref (α 54 0), vl 0, vl 0, vl 0, vl 0])), (α 31 0, .inl (Y 0, 4, .inl (fun _ => Int32.ofInt 0))), (α 32 0, .inl (Y 0, 4, .inl (fun _ => Int32.ofInt 0))), (α 33 0, .inl (Y 1, 160, .inr (.inl (fun _ => Int64.ofInt 0)))), (α 34 0, .inl (Y 0, 10, .inl (fun _ => Int32.ofInt 0))), (α 35 0, .inl (Y 0, 10, .inl (fun _ => Int32.ofInt 0))), (α 36 0, .inl (Y 0, 10, .inl (fun _ => Int32.ofInt 0))), (α 37 0, .inl (Y 0, 10, .inl (fun _ => Int32.ofInt 0))), (α 38 0, .inl (Y 0, 80, .inl (fun _ => Int32.ofInt 0))), (α 39 0, .inl (Y 0, 80, .inl (fun _ => Int32.ofInt 0))), (α 40 0, .inl (Y 0, 40, .inl (fun _ => Int32.ofInt 0))), (α 41 0, .inl (Y 0, 4, .inl (fun _ => Int32.ofInt 0))), (α 42 0, .inl (Y 0, 4, .inl (fun _ => Int32.ofInt 0))), (α 43 0, .inl (Y 1, 300, .inr (.inl (fun _ => Int64.ofInt 0)))), (α 44 0, .inl (Y 0, 10, .inl (fun _ => Int32.ofInt 0))), (α 45 0, .inl (Y 0, 10, .inl (fun _ => Int32.ofInt 0))), (α 46 0, .inl (Y 0, 10, .inl (fun _ => Int32.ofInt 0))), (α 47 0, .inl (Y 2, 4, .inl (fun _ => Int32.ofInt 0))), (α 48 0, .inl (Y 1, 6000, .inr (.inl (fun _ => Int64.ofInt 0)))), (α 49 0, .inl (Y 1, 6000, .inr (.inl (fun _ => Int64.ofInt 0)))), (α 50 0, .inl (Y 0, 1000, .inl (fun _ => Int32.ofInt 0))), (α 51 0, .inl (Y 0, 1000, .inl (fun _ => Int32.ofInt 0))), (α 52 0, .inl (Y 2, 1000, .inl (fun _ => Int32.ofInt 0))), (α 53 0, .inl (Y 2, 10, .inl (fun _ => Int32.ofInt 0))), (α 54 0, .inl (Y 2, 10, .inl (fun _ => Int32.ofInt 0)))] : va_W) = wl Y LBm α μM0 := by
  have e : LBm = [(30, 0), (31, 0), (32, 0), (33, 0), (34, 0), (35, 0), (36, 0), (37, 0), (38, 0), (39, 0), (40, 0), (41, 0), (42, 0), (43, 0), (44, 0), (45, 0), (46, 0), (47, 0), (48, 0), (49, 0), (50, 0), (51, 0), (52, 0), (53, 0), (54, 0)] := by decide +kernel
  unfold wl
  rw [e]
  simp only [List.map_cons, List.map_nil, ec_30, ec_31, ec_32, ec_33, ec_34, ec_35, ec_36, ec_37, ec_38, ec_39, ec_40, ec_41, ec_42, ec_43, ec_44, ec_45, ec_46, ec_47, ec_48, ec_49, ec_50, ec_51, ec_52, ec_53, ec_54]
  rfl
set_option maxRecDepth 100000 in
set_option maxHeartbeats 800000 in
theorem c_X9_init (l : Launch) (D : va_G) (Y : Nat → ClassId) : CtI l D Y yX9_init cX9_init 2 1 12 24 15770 9 [vi 0, vi 0, vl 0, vl 0, .null, .null, .null, vi 0, vi 0, vi 0, vi 0, .null, .null, .null, .null, .null, .null, .null, .null, .null, .null, .null, .null, .null, .null, .null, .null, vi 0, .null, .null, .null, .null, .null, vl 0, vl 0, vl 0, vl 0] LBm 30 μM1 := CtI_of (own := RX9) pn_X9 rfl rfl (Nat.le_of_ble_eq_true rfl) (fun p e s m below meth c h0 sz C => by
  refine k_ald_n C 0 rfl rfl dX9_init_0 ?_
  refine k_obj C m_4_8 dX9_init_1 (Nat.le_of_ble_eq_true rfl) (Nat.le_of_ble_eq_true rfl) ?_
  refine k_ald_n C 0 rfl rfl dX9_init_4 ?_
  refine k_lconst (x := 1) C rfl dX9_init_5 ?_
  refine k_put (fs' := [vi 0, vi 0, vl 0, vl 1, .null, .null, .null, vi 0, vi 0, vi 0, vi 0, .null, .null, .null, .null, .null, .null, .null, .null, .null, .null, .null, .null, .null, .null, .null, .null, vi 0, .null, .null, .null, .null, .null, vl 0, vl 0, vl 0, vl 0]) C rfl rfl fl_X9_7 rfl (Nat.le_of_ble_eq_true rfl) rfl dX9_init_6 ?_
  refine k_ald_n C 0 rfl rfl dX9_init_9 ?_
  refine k_iconst C dX9_init_10 ?_
  refine k_newi C 4 rfl (by decide +kernel) (by decide) (Nat.le_of_ble_eq_true rfl) (Nat.le_of_ble_eq_true rfl) dX9_init_11 (fun q1 => ?_)
  refine k_put (fs' := [vi 0, vi 0, vl 0, vl 1, .ref q1, .null, .null, vi 0, vi 0, vi 0, vi 0, .null, .null, .null, .null, .null, .null, .null, .null, .null, .null, .null, .null, .null, .null, .null, .null, vi 0, .null, .null, .null, .null, .null, vl 0, vl 0, vl 0, vl 0]) C rfl rfl fl_X9_13 rfl (Nat.le_of_ble_eq_true rfl) rfl dX9_init_13 ?_
  refine k_ald_n C 0 rfl rfl dX9_init_16 ?_
  refine k_iconst C dX9_init_17 ?_
  refine k_newi C 4 rfl (by decide +kernel) (by decide) (Nat.le_of_ble_eq_true rfl) (Nat.le_of_ble_eq_true rfl) dX9_init_18 (fun q2 => ?_)
  refine k_put (fs' := [vi 0, vi 0, vl 0, vl 1, .ref q1, .ref q2, .null, vi 0, vi 0, vi 0, vi 0, .null, .null, .null, .null, .null, .null, .null, .null, .null, .null, .null, .null, .null, .null, .null, .null, vi 0, .null, .null, .null, .null, .null, vl 0, vl 0, vl 0, vl 0]) C rfl rfl fl_X9_17 rfl (Nat.le_of_ble_eq_true rfl) rfl dX9_init_20 ?_
  refine k_ald_n C 0 rfl rfl dX9_init_23 ?_
  refine k_sipush C rfl dX9_init_24 ?_
  refine k_newl C 160 rfl (by decide +kernel) (by decide) (Nat.le_of_ble_eq_true rfl) (Nat.le_of_ble_eq_true rfl) dX9_init_27 (fun q3 => ?_)
  refine k_put (fs' := [vi 0, vi 0, vl 0, vl 1, .ref q1, .ref q2, .ref q3, vi 0, vi 0, vi 0, vi 0, .null, .null, .null, .null, .null, .null, .null, .null, .null, .null, .null, .null, .null, .null, .null, .null, vi 0, .null, .null, .null, .null, .null, vl 0, vl 0, vl 0, vl 0]) C rfl rfl fl_X9_20 rfl (Nat.le_of_ble_eq_true rfl) rfl dX9_init_29 ?_
  refine k_ald_n C 0 rfl rfl dX9_init_32 ?_
  refine k_bipush C rfl dX9_init_33 ?_
  refine k_put (fs' := [vi 0, vi 0, vl 0, vl 1, .ref q1, .ref q2, .ref q3, vi 0, vi 0, vi 30, vi 0, .null, .null, .null, .null, .null, .null, .null, .null, .null, .null, .null, .null, .null, .null, .null, .null, vi 0, .null, .null, .null, .null, .null, vl 0, vl 0, vl 0, vl 0]) C rfl rfl fl_X9_24 rfl (Nat.le_of_ble_eq_true rfl) rfl dX9_init_35 ?_
  refine k_ald_n C 0 rfl rfl dX9_init_38 ?_
  refine k_iconst C dX9_init_39 ?_
  refine k_put (fs' := [vi 0, vi 0, vl 0, vl 1, .ref q1, .ref q2, .ref q3, vi 0, vi 0, vi 30, vi (-1), .null, .null, .null, .null, .null, .null, .null, .null, .null, .null, .null, .null, .null, .null, .null, .null, vi 0, .null, .null, .null, .null, .null, vl 0, vl 0, vl 0, vl 0]) C rfl rfl fl_X9_28 rfl (Nat.le_of_ble_eq_true rfl) rfl dX9_init_40 ?_
  refine k_ald_n C 0 rfl rfl dX9_init_43 ?_
  refine k_bipush C rfl dX9_init_44 ?_
  refine k_newi C 10 rfl (by decide +kernel) (by decide) (Nat.le_of_ble_eq_true rfl) (Nat.le_of_ble_eq_true rfl) dX9_init_46 (fun q4 => ?_)
  refine k_put (fs' := [vi 0, vi 0, vl 0, vl 1, .ref q1, .ref q2, .ref q3, vi 0, vi 0, vi 30, vi (-1), .ref q4, .null, .null, .null, .null, .null, .null, .null, .null, .null, .null, .null, .null, .null, .null, .null, vi 0, .null, .null, .null, .null, .null, vl 0, vl 0, vl 0, vl 0]) C rfl rfl fl_X9_31 rfl (Nat.le_of_ble_eq_true rfl) rfl dX9_init_48 ?_
  refine k_ald_n C 0 rfl rfl dX9_init_51 ?_
  refine k_bipush C rfl dX9_init_52 ?_
  refine k_newi C 10 rfl (by decide +kernel) (by decide) (Nat.le_of_ble_eq_true rfl) (Nat.le_of_ble_eq_true rfl) dX9_init_54 (fun q5 => ?_)
  refine k_put (fs' := [vi 0, vi 0, vl 0, vl 1, .ref q1, .ref q2, .ref q3, vi 0, vi 0, vi 30, vi (-1), .ref q4, .ref q5, .null, .null, .null, .null, .null, .null, .null, .null, .null, .null, .null, .null, .null, .null, vi 0, .null, .null, .null, .null, .null, vl 0, vl 0, vl 0, vl 0]) C rfl rfl fl_X9_34 rfl (Nat.le_of_ble_eq_true rfl) rfl dX9_init_56 ?_
  refine k_ald_n C 0 rfl rfl dX9_init_59 ?_
  refine k_bipush C rfl dX9_init_60 ?_
  refine k_newi C 10 rfl (by decide +kernel) (by decide) (Nat.le_of_ble_eq_true rfl) (Nat.le_of_ble_eq_true rfl) dX9_init_62 (fun q6 => ?_)
  refine k_put (fs' := [vi 0, vi 0, vl 0, vl 1, .ref q1, .ref q2, .ref q3, vi 0, vi 0, vi 30, vi (-1), .ref q4, .ref q5, .ref q6, .null, .null, .null, .null, .null, .null, .null, .null, .null, .null, .null, .null, .null, vi 0, .null, .null, .null, .null, .null, vl 0, vl 0, vl 0, vl 0]) C rfl rfl fl_X9_37 rfl (Nat.le_of_ble_eq_true rfl) rfl dX9_init_64 ?_
  refine k_ald_n C 0 rfl rfl dX9_init_67 ?_
  refine k_bipush C rfl dX9_init_68 ?_
  refine k_newi C 10 rfl (by decide +kernel) (by decide) (Nat.le_of_ble_eq_true rfl) (Nat.le_of_ble_eq_true rfl) dX9_init_70 (fun q7 => ?_)
  refine k_put (fs' := [vi 0, vi 0, vl 0, vl 1, .ref q1, .ref q2, .ref q3, vi 0, vi 0, vi 30, vi (-1), .ref q4, .ref q5, .ref q6, .ref q7, .null, .null, .null, .null, .null, .null, .null, .null, .null, .null, .null, .null, vi 0, .null, .null, .null, .null, .null, vl 0, vl 0, vl 0, vl 0]) C rfl rfl fl_X9_40 rfl (Nat.le_of_ble_eq_true rfl) rfl dX9_init_72 ?_
  refine k_ald_n C 0 rfl rfl dX9_init_75 ?_
  refine k_bipush C rfl dX9_init_76 ?_
  refine k_newi C 80 rfl (by decide +kernel) (by decide) (Nat.le_of_ble_eq_true rfl) (Nat.le_of_ble_eq_true rfl) dX9_init_78 (fun q8 => ?_)
  refine k_put (fs' := [vi 0, vi 0, vl 0, vl 1, .ref q1, .ref q2, .ref q3, vi 0, vi 0, vi 30, vi (-1), .ref q4, .ref q5, .ref q6, .ref q7, .ref q8, .null, .null, .null, .null, .null, .null, .null, .null, .null, .null, .null, vi 0, .null, .null, .null, .null, .null, vl 0, vl 0, vl 0, vl 0]) C rfl rfl fl_X9_43 rfl (Nat.le_of_ble_eq_true rfl) rfl dX9_init_80 ?_
  refine k_ald_n C 0 rfl rfl dX9_init_83 ?_
  refine k_bipush C rfl dX9_init_84 ?_
  refine k_newi C 80 rfl (by decide +kernel) (by decide) (Nat.le_of_ble_eq_true rfl) (Nat.le_of_ble_eq_true rfl) dX9_init_86 (fun q9 => ?_)
  refine k_put (fs' := [vi 0, vi 0, vl 0, vl 1, .ref q1, .ref q2, .ref q3, vi 0, vi 0, vi 30, vi (-1), .ref q4, .ref q5, .ref q6, .ref q7, .ref q8, .ref q9, .null, .null, .null, .null, .null, .null, .null, .null, .null, .null, vi 0, .null, .null, .null, .null, .null, vl 0, vl 0, vl 0, vl 0]) C rfl rfl fl_X9_46 rfl (Nat.le_of_ble_eq_true rfl) rfl dX9_init_88 ?_
  refine k_ald_n C 0 rfl rfl dX9_init_91 ?_
  refine k_bipush C rfl dX9_init_92 ?_
  refine k_newi C 40 rfl (by decide +kernel) (by decide) (Nat.le_of_ble_eq_true rfl) (Nat.le_of_ble_eq_true rfl) dX9_init_94 (fun q10 => ?_)
  refine k_put (fs' := [vi 0, vi 0, vl 0, vl 1, .ref q1, .ref q2, .ref q3, vi 0, vi 0, vi 30, vi (-1), .ref q4, .ref q5, .ref q6, .ref q7, .ref q8, .ref q9, .ref q10, .null, .null, .null, .null, .null, .null, .null, .null, .null, vi 0, .null, .null, .null, .null, .null, vl 0, vl 0, vl 0, vl 0]) C rfl rfl fl_X9_49 rfl (Nat.le_of_ble_eq_true rfl) rfl dX9_init_96 ?_
  refine k_ald_n C 0 rfl rfl dX9_init_99 ?_
  refine k_iconst C dX9_init_100 ?_
  refine k_newi C 4 rfl (by decide +kernel) (by decide) (Nat.le_of_ble_eq_true rfl) (Nat.le_of_ble_eq_true rfl) dX9_init_101 (fun q11 => ?_)
  refine k_put (fs' := [vi 0, vi 0, vl 0, vl 1, .ref q1, .ref q2, .ref q3, vi 0, vi 0, vi 30, vi (-1), .ref q4, .ref q5, .ref q6, .ref q7, .ref q8, .ref q9, .ref q10, .ref q11, .null, .null, .null, .null, .null, .null, .null, .null, vi 0, .null, .null, .null, .null, .null, vl 0, vl 0, vl 0, vl 0]) C rfl rfl fl_X9_52 rfl (Nat.le_of_ble_eq_true rfl) rfl dX9_init_103 ?_
  refine k_ald_n C 0 rfl rfl dX9_init_106 ?_
  refine k_iconst C dX9_init_107 ?_
  refine k_newi C 4 rfl (by decide +kernel) (by decide) (Nat.le_of_ble_eq_true rfl) (Nat.le_of_ble_eq_true rfl) dX9_init_108 (fun q12 => ?_)
  refine k_put (fs' := [vi 0, vi 0, vl 0, vl 1, .ref q1, .ref q2, .ref q3, vi 0, vi 0, vi 30, vi (-1), .ref q4, .ref q5, .ref q6, .ref q7, .ref q8, .ref q9, .ref q10, .ref q11, .ref q12, .null, .null, .null, .null, .null, .null, .null, vi 0, .null, .null, .null, .null, .null, vl 0, vl 0, vl 0, vl 0]) C rfl rfl fl_X9_55 rfl (Nat.le_of_ble_eq_true rfl) rfl dX9_init_110 ?_
  refine k_ald_n C 0 rfl rfl dX9_init_113 ?_
  refine k_sipush C rfl dX9_init_114 ?_
  refine k_newl C 300 rfl (by decide +kernel) (by decide) (Nat.le_of_ble_eq_true rfl) (Nat.le_of_ble_eq_true rfl) dX9_init_117 (fun q13 => ?_)
  refine k_put (fs' := [vi 0, vi 0, vl 0, vl 1, .ref q1, .ref q2, .ref q3, vi 0, vi 0, vi 30, vi (-1), .ref q4, .ref q5, .ref q6, .ref q7, .ref q8, .ref q9, .ref q10, .ref q11, .ref q12, .ref q13, .null, .null, .null, .null, .null, .null, vi 0, .null, .null, .null, .null, .null, vl 0, vl 0, vl 0, vl 0]) C rfl rfl fl_X9_58 rfl (Nat.le_of_ble_eq_true rfl) rfl dX9_init_119 ?_
  refine k_ald_n C 0 rfl rfl dX9_init_122 ?_
  refine k_bipush C rfl dX9_init_123 ?_
  refine k_newi C 10 rfl (by decide +kernel) (by decide) (Nat.le_of_ble_eq_true rfl) (Nat.le_of_ble_eq_true rfl) dX9_init_125 (fun q14 => ?_)
  refine k_put (fs' := [vi 0, vi 0, vl 0, vl 1, .ref q1, .ref q2, .ref q3, vi 0, vi 0, vi 30, vi (-1), .ref q4, .ref q5, .ref q6, .ref q7, .ref q8, .ref q9, .ref q10, .ref q11, .ref q12, .ref q13, .ref q14, .null, .null, .null, .null, .null, vi 0, .null, .null, .null, .null, .null, vl 0, vl 0, vl 0, vl 0]) C rfl rfl fl_X9_61 rfl (Nat.le_of_ble_eq_true rfl) rfl dX9_init_127 ?_
  refine k_ald_n C 0 rfl rfl dX9_init_130 ?_
  refine k_bipush C rfl dX9_init_131 ?_
  refine k_newi C 10 rfl (by decide +kernel) (by decide) (Nat.le_of_ble_eq_true rfl) (Nat.le_of_ble_eq_true rfl) dX9_init_133 (fun q15 => ?_)
  refine k_put (fs' := [vi 0, vi 0, vl 0, vl 1, .ref q1, .ref q2, .ref q3, vi 0, vi 0, vi 30, vi (-1), .ref q4, .ref q5, .ref q6, .ref q7, .ref q8, .ref q9, .ref q10, .ref q11, .ref q12, .ref q13, .ref q14, .ref q15, .null, .null, .null, .null, vi 0, .null, .null, .null, .null, .null, vl 0, vl 0, vl 0, vl 0]) C rfl rfl fl_X9_64 rfl (Nat.le_of_ble_eq_true rfl) rfl dX9_init_135 ?_
  refine k_ald_n C 0 rfl rfl dX9_init_138 ?_
  refine k_bipush C rfl dX9_init_139 ?_
  refine k_newi C 10 rfl (by decide +kernel) (by decide) (Nat.le_of_ble_eq_true rfl) (Nat.le_of_ble_eq_true rfl) dX9_init_141 (fun q16 => ?_)
  refine k_put (fs' := [vi 0, vi 0, vl 0, vl 1, .ref q1, .ref q2, .ref q3, vi 0, vi 0, vi 30, vi (-1), .ref q4, .ref q5, .ref q6, .ref q7, .ref q8, .ref q9, .ref q10, .ref q11, .ref q12, .ref q13, .ref q14, .ref q15, .ref q16, .null, .null, .null, vi 0, .null, .null, .null, .null, .null, vl 0, vl 0, vl 0, vl 0]) C rfl rfl fl_X9_67 rfl (Nat.le_of_ble_eq_true rfl) rfl dX9_init_143 ?_
  refine k_ald_n C 0 rfl rfl dX9_init_146 ?_
  refine k_iconst C dX9_init_147 ?_
  refine k_newz C 4 rfl (by decide +kernel) (by decide) (Nat.le_of_ble_eq_true rfl) (Nat.le_of_ble_eq_true rfl) dX9_init_148 (fun q17 => ?_)
  refine k_put (fs' := [vi 0, vi 0, vl 0, vl 1, .ref q1, .ref q2, .ref q3, vi 0, vi 0, vi 30, vi (-1), .ref q4, .ref q5, .ref q6, .ref q7, .ref q8, .ref q9, .ref q10, .ref q11, .ref q12, .ref q13, .ref q14, .ref q15, .ref q16, .ref q17, .null, .null, vi 0, .null, .null, .null, .null, .null, vl 0, vl 0, vl 0, vl 0]) C rfl rfl fl_X9_70 rfl (Nat.le_of_ble_eq_true rfl) rfl dX9_init_150 ?_
  refine k_ald_n C 0 rfl rfl dX9_init_153 ?_
  refine k_sipush C rfl dX9_init_154 ?_
  refine k_newl C 6000 rfl (by decide +kernel) (by decide) (Nat.le_of_ble_eq_true rfl) (Nat.le_of_ble_eq_true rfl) dX9_init_157 (fun q18 => ?_)
  refine k_put (fs' := [vi 0, vi 0, vl 0, vl 1, .ref q1, .ref q2, .ref q3, vi 0, vi 0, vi 30, vi (-1), .ref q4, .ref q5, .ref q6, .ref q7, .ref q8, .ref q9, .ref q10, .ref q11, .ref q12, .ref q13, .ref q14, .ref q15, .ref q16, .ref q17, .ref q18, .null, vi 0, .null, .null, .null, .null, .null, vl 0, vl 0, vl 0, vl 0]) C rfl rfl fl_X9_74 rfl (Nat.le_of_ble_eq_true rfl) rfl dX9_init_159 ?_
  refine k_ald_n C 0 rfl rfl dX9_init_162 ?_
  refine k_sipush C rfl dX9_init_163 ?_
  refine k_newl C 6000 rfl (by decide +kernel) (by decide) (Nat.le_of_ble_eq_true rfl) (Nat.le_of_ble_eq_true rfl) dX9_init_166 (fun q19 => ?_)
  refine k_put (fs' := [vi 0, vi 0, vl 0, vl 1, .ref q1, .ref q2, .ref q3, vi 0, vi 0, vi 30, vi (-1), .ref q4, .ref q5, .ref q6, .ref q7, .ref q8, .ref q9, .ref q10, .ref q11, .ref q12, .ref q13, .ref q14, .ref q15, .ref q16, .ref q17, .ref q18, .ref q19, vi 0, .null, .null, .null, .null, .null, vl 0, vl 0, vl 0, vl 0]) C rfl rfl fl_X9_77 rfl (Nat.le_of_ble_eq_true rfl) rfl dX9_init_168 ?_
  refine k_ald_n C 0 rfl rfl dX9_init_171 ?_
  refine k_sipush C rfl dX9_init_172 ?_
  refine k_newi C 1000 rfl (by decide +kernel) (by decide) (Nat.le_of_ble_eq_true rfl) (Nat.le_of_ble_eq_true rfl) dX9_init_175 (fun q20 => ?_)
  refine k_put (fs' := [vi 0, vi 0, vl 0, vl 1, .ref q1, .ref q2, .ref q3, vi 0, vi 0, vi 30, vi (-1), .ref q4, .ref q5, .ref q6, .ref q7, .ref q8, .ref q9, .ref q10, .ref q11, .ref q12, .ref q13, .ref q14, .ref q15, .ref q16, .ref q17, .ref q18, .ref q19, vi 0, .ref q20, .null, .null, .null, .null, vl 0, vl 0, vl 0, vl 0]) C rfl rfl fl_X9_80 rfl (Nat.le_of_ble_eq_true rfl) rfl dX9_init_177 ?_
  refine k_ald_n C 0 rfl rfl dX9_init_180 ?_
  refine k_sipush C rfl dX9_init_181 ?_
  refine k_newi C 1000 rfl (by decide +kernel) (by decide) (Nat.le_of_ble_eq_true rfl) (Nat.le_of_ble_eq_true rfl) dX9_init_184 (fun q21 => ?_)
  refine k_put (fs' := [vi 0, vi 0, vl 0, vl 1, .ref q1, .ref q2, .ref q3, vi 0, vi 0, vi 30, vi (-1), .ref q4, .ref q5, .ref q6, .ref q7, .ref q8, .ref q9, .ref q10, .ref q11, .ref q12, .ref q13, .ref q14, .ref q15, .ref q16, .ref q17, .ref q18, .ref q19, vi 0, .ref q20, .ref q21, .null, .null, .null, vl 0, vl 0, vl 0, vl 0]) C rfl rfl fl_X9_83 rfl (Nat.le_of_ble_eq_true rfl) rfl dX9_init_186 ?_
  refine k_ald_n C 0 rfl rfl dX9_init_189 ?_
  refine k_sipush C rfl dX9_init_190 ?_
  refine k_newz C 1000 rfl (by decide +kernel) (by decide) (Nat.le_of_ble_eq_true rfl) (Nat.le_of_ble_eq_true rfl) dX9_init_193 (fun q22 => ?_)
  refine k_put (fs' := [vi 0, vi 0, vl 0, vl 1, .ref q1, .ref q2, .ref q3, vi 0, vi 0, vi 30, vi (-1), .ref q4, .ref q5, .ref q6, .ref q7, .ref q8, .ref q9, .ref q10, .ref q11, .ref q12, .ref q13, .ref q14, .ref q15, .ref q16, .ref q17, .ref q18, .ref q19, vi 0, .ref q20, .ref q21, .ref q22, .null, .null, vl 0, vl 0, vl 0, vl 0]) C rfl rfl fl_X9_86 rfl (Nat.le_of_ble_eq_true rfl) rfl dX9_init_195 ?_
  refine k_ald_n C 0 rfl rfl dX9_init_198 ?_
  refine k_bipush C rfl dX9_init_199 ?_
  refine k_newz C 10 rfl (by decide +kernel) (by decide) (Nat.le_of_ble_eq_true rfl) (Nat.le_of_ble_eq_true rfl) dX9_init_201 (fun q23 => ?_)
  refine k_put (fs' := [vi 0, vi 0, vl 0, vl 1, .ref q1, .ref q2, .ref q3, vi 0, vi 0, vi 30, vi (-1), .ref q4, .ref q5, .ref q6, .ref q7, .ref q8, .ref q9, .ref q10, .ref q11, .ref q12, .ref q13, .ref q14, .ref q15, .ref q16, .ref q17, .ref q18, .ref q19, vi 0, .ref q20, .ref q21, .ref q22, .ref q23, .null, vl 0, vl 0, vl 0, vl 0]) C rfl rfl fl_X9_89 rfl (Nat.le_of_ble_eq_true rfl) rfl dX9_init_203 ?_
  refine k_ald_n C 0 rfl rfl dX9_init_206 ?_
  refine k_bipush C rfl dX9_init_207 ?_
  refine k_newz C 10 rfl (by decide +kernel) (by decide) (Nat.le_of_ble_eq_true rfl) (Nat.le_of_ble_eq_true rfl) dX9_init_209 (fun q24 => ?_)
  refine k_put (fs' := [vi 0, vi 0, vl 0, vl 1, .ref q1, .ref q2, .ref q3, vi 0, vi 0, vi 30, vi (-1), .ref q4, .ref q5, .ref q6, .ref q7, .ref q8, .ref q9, .ref q10, .ref q11, .ref q12, .ref q13, .ref q14, .ref q15, .ref q16, .ref q17, .ref q18, .ref q19, vi 0, .ref q20, .ref q21, .ref q22, .ref q23, .ref q24, vl 0, vl 0, vl 0, vl 0]) C rfl rfl fl_X9_92 rfl (Nat.le_of_ble_eq_true rfl) rfl dX9_init_211 ?_
  obtain ⟨α, a0, a1, a2, a3, a4, a5, a6, a7, a8, a9, a10, a11, a12, a13, a14, a15, a16, a17, a18, a19, a20, a21, a22, a23, a24⟩ : ∃ α : Adr, α 30 0 = h0 ∧ α 31 0 = q1 ∧ α 32 0 = q2 ∧ α 33 0 = q3 ∧ α 34 0 = q4 ∧ α 35 0 = q5 ∧ α 36 0 = q6 ∧ α 37 0 = q7 ∧ α 38 0 = q8 ∧ α 39 0 = q9 ∧ α 40 0 = q10 ∧ α 41 0 = q11 ∧ α 42 0 = q12 ∧ α 43 0 = q13 ∧ α 44 0 = q14 ∧ α 45 0 = q15 ∧ α 46 0 = q16 ∧ α 47 0 = q17 ∧ α 48 0 = q18 ∧ α 49 0 = q19 ∧ α 50 0 = q20 ∧ α 51 0 = q21 ∧ α 52 0 = q22 ∧ α 53 0 = q23 ∧ α 54 0 = q24 := ⟨fun t _ => [h0, q1, q2, q3, q4, q5, q6, q7, q8, q9, q10, q11, q12, q13, q14, q15, q16, q17, q18, q19, q20, q21, q22, q23, q24].getD (t - 30) 0, rfl, rfl, rfl, rfl, rfl, rfl, rfl, rfl, rfl, rfl, rfl, rfl, rfl, rfl, rfl, rfl, rfl, rfl, rfl, rfl, rfl, rfl, rfl, rfl, rfl⟩
  subst a0
  subst a1
  subst a2
  subst a3
  subst a4
  subst a5
  subst a6
  subst a7
  subst a8
  subst a9
  subst a10
  subst a11
  subst a12
  subst a13
  subst a14
  subst a15
  subst a16
  subst a17
  subst a18
  subst a19
  subst a20
  subst a21
  subst a22
  subst a23
  subst a24
  refine k_cast (w' := [(α 30 0, .inr (9, [vi 0, vi 0, vl 0, vl 1, .ref (α 31 0), .ref (α 32 0), .ref (α 33 0), vi 0, vi 0, vi 30, vi (-1), .ref (α 34 0), .ref (α 35 0), .ref (α 36 0), .ref (α 37 0), .ref (α 38 0), .ref (α 39 0), .ref (α 40 0), .ref (α 41 0), .ref (α 42 0), .ref (α 43 0), .ref (α 44 0), .ref (α 45 0), .ref (α 46 0), .ref (α 47 0), .ref (α 48 0), .ref (α 49 0), vi 0, .ref (α 50 0), .ref (α 51 0), .ref (α 52 0), .ref (α 53 0), .ref (α 54 0), vl 0, vl 0, vl 0, vl 0])), (α 31 0, .inl (Y 0, 4, .inl (fun _ => Int32.ofInt 0))), (α 32 0, .inl (Y 0, 4, .inl (fun _ => Int32.ofInt 0))), (α 33 0, .inl (Y 1, 160, .inr (.inl (fun _ => Int64.ofInt 0)))), (α 34 0, .inl (Y 0, 10, .inl (fun _ => Int32.ofInt 0))), (α 35 0, .inl (Y 0, 10, .inl (fun _ => Int32.ofInt 0))), (α 36 0, .inl (Y 0, 10, .inl (fun _ => Int32.ofInt 0))), (α 37 0, .inl (Y 0, 10, .inl (fun _ => Int32.ofInt 0))), (α 38 0, .inl (Y 0, 80, .inl (fun _ => Int32.ofInt 0))), (α 39 0, .inl (Y 0, 80, .inl (fun _ => Int32.ofInt 0))), (α 40 0, .inl (Y 0, 40, .inl (fun _ => Int32.ofInt 0))), (α 41 0, .inl (Y 0, 4, .inl (fun _ => Int32.ofInt 0))), (α 42 0, .inl (Y 0, 4, .inl (fun _ => Int32.ofInt 0))), (α 43 0, .inl (Y 1, 300, .inr (.inl (fun _ => Int64.ofInt 0)))), (α 44 0, .inl (Y 0, 10, .inl (fun _ => Int32.ofInt 0))), (α 45 0, .inl (Y 0, 10, .inl (fun _ => Int32.ofInt 0))), (α 46 0, .inl (Y 0, 10, .inl (fun _ => Int32.ofInt 0))), (α 47 0, .inl (Y 2, 4, .inl (fun _ => Int32.ofInt 0))), (α 48 0, .inl (Y 1, 6000, .inr (.inl (fun _ => Int64.ofInt 0)))), (α 49 0, .inl (Y 1, 6000, .inr (.inl (fun _ => Int64.ofInt 0)))), (α 50 0, .inl (Y 0, 1000, .inl (fun _ => Int32.ofInt 0))), (α 51 0, .inl (Y 0, 1000, .inl (fun _ => Int32.ofInt 0))), (α 52 0, .inl (Y 2, 1000, .inl (fun _ => Int32.ofInt 0))), (α 53 0, .inl (Y 2, 10, .inl (fun _ => Int32.ofInt 0))), (α 54 0, .inl (Y 2, 10, .inl (fun _ => Int32.ofInt 0)))]) (by simp only [List.nil_append, List.cons_append]) ?_
  refine k_toG (LB := LBm) (α := α) (μ := μM0) (wl_M0 Y α) ?_
  refine l_X9_init (C.toX LBm_nd) ?_
  exact g_cret (μ := μM1) (C.toX LBm_nd) rfl rfl rfl dX9_init_234)
