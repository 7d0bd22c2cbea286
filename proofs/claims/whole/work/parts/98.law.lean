/-! THE LAW: its start and its loop (by program law2.py) -/
theorem rel0 : Rel μX0 μM1 := by
  refine ⟨rfl, ⟨rfl, rfl⟩, ?_, ⟨⟨rfl, by decide, by decide⟩, ⟨rfl, by decide, by decide⟩, ⟨rfl, by decide, by decide⟩, ⟨rfl, by decide, by decide⟩, ?_, ?_⟩, ⟨rfl, by decide, by decide, ?_, ?_⟩, ⟨⟨by decide, by decide⟩, Or.inr rfl, ?_⟩⟩
  · intro t ht
    rcases (show t = 0 ∨ t = 1 ∨ t = 2 ∨ t = 3 by omega) with rfl | rfl | rfl | rfl <;> exact Or.inl ⟨rfl, rfl⟩
  · intro p hp
    exact absurd (show (p : Int) < 0 from hp) (by omega)
  · intro p hp
    exact absurd (show (p : Int) < 0 from hp) (by omega)
  · intro p hp
    exact absurd (show (p : Int) < 0 from hp) (by omega)
  · intro s hs
    exact ⟨rfl, rfl, rfl, rfl, rfl⟩
  · intro h
    exact absurd (show (1 : Int) = 0 from h) (by decide)
theorem roo0 : Roo (0 + 1 + 81 + 1 + 24) (0 + 9 + 5752 + 37 + 15770) (μX0 28 0 0) := by
  show Roo (0 + 1 + 81 + 1 + 24) (0 + 9 + 5752 + 37 + 15770) 0
  unfold Roo pc ps
  decide
theorem and31 (x : Int) : ∃ v : Nat, v < 32 ∧ w32 (ian x 31) = v := by
  have h : (Int32.ofInt x &&& Int32.ofInt 31).toBitVec.toNat = (Int32.ofInt x).toBitVec.toNat % 32 := by
    rw [Int32.toBitVec_and, BitVec.toNat_and]
    exact Nat.and_two_pow_sub_one_eq_mod _ 5
  have hlt : (Int32.ofInt x).toBitVec.toNat % 32 < 32 := Nat.mod_lt _ (by decide)
  refine ⟨_, hlt, ?_⟩
  unfold w32 ian
  rw [Int32.ofInt_toInt]
  show (Int32.ofInt x &&& Int32.ofInt 31).toBitVec.toInt = _
  rw [BitVec.toInt_eq_toNat_of_lt (by omega), h]
theorem start_known {s : State} {b : Nat} (hts : ∀ w ∈ lw_tbl, w.before #[Value.ref b] s = true) : ∃ (D : va_G) (Y : Nat → ClassId), va_K D vwCl (tyl Y) s ∧ NC s := by
  have ht : ∀ w ∈ TB, w.before #[Value.ref b] s = true := fun w h => hts w (List.mem_filter.mp h).1
  obtain ⟨c0, i0, k0⟩ := u_known (C := RX0) (T := TX0) (N := 2) (n := 2) ht uw_0 (ht _ m_1_24)
  obtain ⟨c1, i1, k1⟩ := u_known (C := RX1) (T := TX1) (N := 8) (n := 8) ht uw_1 (ht _ m_1_75)
  obtain ⟨c2, i2, k2⟩ := u_known (C := RX2) (T := TX2) (N := 9) (n := 9) ht uw_2 (ht _ m_1_62)
  obtain ⟨c3, i3, k3⟩ := u_known (C := RX3) (T := TX3) (N := 1) (n := 1) ht uw_3 (ht _ m_1_44)
  obtain ⟨c4, i4, k4⟩ := u_known (C := RX4) (T := TX4) (N := 5) (n := 5) ht uw_4 (ht _ m_1_228)
  obtain ⟨c5, i5, k5⟩ := u_known (C := RX5) (T := TX5) (N := 3) (n := 3) ht uw_5 (ht _ m_2_18)
  obtain ⟨c6, i6, k6⟩ := u_known (C := RX6) (T := TX6) (N := 10) (n := 10) ht uw_6 (ht _ m_1_56)
  obtain ⟨c7, i7, k7⟩ := u_known (C := RX7) (T := TX7) (N := 7) (n := 7) ht uw_7 (ht _ m_1_68)
  obtain ⟨c8, i8, k8⟩ := u_known (C := RX8) (T := TX8) (N := 9) (n := 9) ht uw_8 (ht _ m_1_16)
  obtain ⟨c9, i9, k9⟩ := u_known (C := RX9) (T := TX9) (N := 37) (n := 37) ht uw_9 (ht _ m_4_4)
  obtain ⟨yI, qI, pI, aI1, aI2, aI3⟩ := Cond.arrayClass_spec (ht _ m_1_127)
  obtain ⟨yL, qL, pL, aL1, aL2, aL3⟩ := Cond.arrayClass_spec (ht _ m_1_54)
  obtain ⟨yZ, qZ, pZ, aZ1, aZ2, aZ3⟩ := Cond.arrayClass_spec (ht _ m_2_17)
  obtain ⟨pF, yF, qF, bF1, -, bF2, bF3, bF4⟩ := Cond.arrayOver_spec (hts (Jvm.Cond.arrayOver (Jvm.ClassFile.FieldType.object "EndTeller$Fraction")) (List.mem_append_right _ (List.mem_append_left _ (List.mem_of_getElem? (i := 234) rfl))))
  obtain ⟨pP, yP, qP, bP1, -, bP2, bP3, bP4⟩ := Cond.arrayOver_spec (hts (Jvm.Cond.arrayOver (Jvm.ClassFile.FieldType.object "EndTeller$Part")) (List.mem_append_right _ (List.mem_append_left _ (List.mem_of_getElem? (i := 74) rfl))))
  obtain ⟨pT, yT, qT, bT1, -, bT2, bT3, bT4⟩ := Cond.arrayOver_spec (hts (Jvm.Cond.arrayOver (Jvm.ClassFile.FieldType.object "EndTeller$Tray")) (List.mem_append_right _ (List.mem_append_left _ (List.mem_of_getElem? (i := 42) rfl))))
  refine ⟨(fun k => [c0, c1, c2, c3, c4, c5, c6, c7, c8, c9].getD k c0, fun k => [i0, i1, i2, i3, i4, i5, i6, i7, i8, i9].getD k i0), fun k => [yI, yL, yZ, yF, yP, yT].getD k yI, ⟨?_, ?_⟩, ⟨va_Nw.of rfl (hts (Jvm.Cond.methodLinkNest "EndTeller$Table" (38 : Nat) ({ cls := "EndTeller", name := "commonDivisor", desc := "(JJ)J" } : Jvm.MethodName) "EndTeller") (List.mem_append_right _ (List.mem_append_right _ (List.mem_append_left _ (List.mem_of_getElem? (i := 169) rfl))))), va_Nw.of rfl (hts (Jvm.Cond.methodLinkNest "EndTeller$Fraction" (16 : Nat) ({ cls := "EndTeller", name := "commonDivisor", desc := "(JJ)J" } : Jvm.MethodName) "EndTeller") (List.mem_append_right _ (List.mem_append_right _ (List.mem_append_right _ (List.mem_append_left _ (List.mem_of_getElem? (i := 125) rfl))))))⟩, ⟨va_Nw.of rfl (hts (Jvm.Cond.methodLinkNest "EndTeller" (15 : Nat) ({ cls := "EndTeller$Fraction", name := "<init>", desc := "()V" } : Jvm.MethodName) "EndTeller") (List.mem_append_right _ (List.mem_append_left _ (List.mem_of_getElem? (i := 25) rfl)))), va_Nw.of rfl (hts (Jvm.Cond.methodLinkNest "EndTeller" (34 : Nat) ({ cls := "EndTeller$Table", name := "<init>", desc := "()V" } : Jvm.MethodName) "EndTeller") (List.mem_append_right _ (List.mem_append_left _ (List.mem_of_getElem? (i := 45) rfl)))), va_Nw.of rfl (hts (Jvm.Cond.methodLinkNest "EndTeller" (41 : Nat) ({ cls := "EndTeller$Ways", name := "<init>", desc := "()V" } : Jvm.MethodName) "EndTeller") (List.mem_append_right _ (List.mem_append_left _ (List.mem_of_getElem? (i := 57) rfl)))), va_Nw.of rfl (hts (Jvm.Cond.methodLinkNest "EndTeller" (58 : Nat) ({ cls := "EndTeller$Tray", name := "<init>", desc := "()V" } : Jvm.MethodName) "EndTeller") (List.mem_append_right _ (List.mem_append_right _ (List.mem_append_left _ (List.mem_of_getElem? (i := 19) rfl))))), va_Nw.of rfl (hts (Jvm.Cond.methodLinkNest "EndTeller$Tellings" (32 : Nat) ({ cls := "EndTeller$Fraction", name := "<init>", desc := "()V" } : Jvm.MethodName) "EndTeller") (List.mem_append_right _ (List.mem_append_left _ (List.mem_of_getElem? (i := 235) rfl)))), va_Nw.of rfl (hts (Jvm.Cond.methodLinkNest "EndTeller$Ways" (11 : Nat) ({ cls := "EndTeller$Stepper", name := "<init>", desc := "()V" } : Jvm.MethodName) "EndTeller") (List.mem_append_right _ (List.mem_append_left _ (List.mem_of_getElem? (i := 63) rfl)))), va_Nw.of rfl (hts (Jvm.Cond.methodLinkNest "EndTeller$Work" (37 : Nat) ({ cls := "EndTeller$Part", name := "<init>", desc := "()V" } : Jvm.MethodName) "EndTeller") (List.mem_append_right _ (List.mem_append_left _ (List.mem_of_getElem? (i := 76) rfl))))⟩, va_AO.of (hts (Jvm.Cond.arrayOver (Jvm.ClassFile.FieldType.object "EndTeller$Fraction")) (List.mem_append_right _ (List.mem_append_left _ (List.mem_of_getElem? (i := 234) rfl)))), va_AO.of (hts (Jvm.Cond.arrayOver (Jvm.ClassFile.FieldType.object "EndTeller$Part")) (List.mem_append_right _ (List.mem_append_left _ (List.mem_of_getElem? (i := 74) rfl)))), va_AO.of (hts (Jvm.Cond.arrayOver (Jvm.ClassFile.FieldType.object "EndTeller$Tray")) (List.mem_append_right _ (List.mem_append_left _ (List.mem_of_getElem? (i := 42) rfl))))⟩
  · intro k q hq
    match k, hq with
    | 0, hq => cases hq; exact k0
    | 1, hq => cases hq; exact k1
    | 2, hq => cases hq; exact k2
    | 3, hq => cases hq; exact k3
    | 4, hq => cases hq; exact k4
    | 5, hq => cases hq; exact k5
    | 6, hq => cases hq; exact k6
    | 7, hq => cases hq; exact k7
    | 8, hq => cases hq; exact k8
    | 9, hq => cases hq; exact k9
    | k + 10, hq => simp [vwCl] at hq
  · intro k q hq
    match k, hq with
    | 0, hq => cases hq; exact ⟨fun n z => ⟨fun k h => (by cases h), qI, aI2, pI, aI3⟩, aI1⟩
    | 1, hq => cases hq; exact ⟨fun n z => ⟨fun k h => (by cases h), qL, aL2, pL, aL3⟩, aL1⟩
    | 2, hq => cases hq; exact ⟨fun n z => ⟨fun k h => (by cases h), qZ, aZ2, pZ, aZ3⟩, aZ1⟩
    | 3, hq => cases hq; exact ⟨fun n z => ⟨fun k h => (by cases h), qF, bF2, pF, bF3⟩, qF, pF, bF2, bF3, bF1, bF4⟩
    | 4, hq => cases hq; exact ⟨fun n z => ⟨fun k h => (by cases h), qP, bP2, pP, bP3⟩, qP, pP, bP2, bP3, bP1, bP4⟩
    | 5, hq => cases hq; exact ⟨fun n z => ⟨fun k h => (by cases h), qT, bT2, pT, bT3⟩, qT, pT, bT2, bT3, bT1, bT4⟩
    | k + 6, hq => simp [tyl] at hq
set_option maxRecDepth 100000 in
set_option maxHeartbeats 4000000 in
theorem law_loop {p : Program} {l : Launch} {e : Env} {s : State} {m : MethodId} {below : List Frame} {meth : Method} {c : Code} {D : va_G} {Y : Nat → ClassId} {αm : Adr} {b L : Nat} {xs : Nat → Int32} (C : CX p s m #[Value.ref b] meth c cL_law 4 RL ret D Y LB2 (fun q => s.heap.size ≤ q)) (hX : va_X b L xs s s.heap) (hbl : b < s.heap.size) (hL : L ≤ 3072) : ∀ (d N : Nat) (αx : Adr) (μx μm : Mem) (cells slots : Nat), N ≤ L → L < d + N → Rel μx μm → Roo cells slots (μx 28 0 0) → GG D Y LB2 (fun q => s.heap.size ≤ q) p l e room_1 s m #[Value.ref b] below meth c 4 (lw_Z below #[Value.ref b] s) (mA αx αm) cells slots [(3, vi (N : Int)), (2, .ref (αm 30 0)), (1, .ref (αx 0 0)), (0, .ref b)] [] (mM μx μm) 18 := by
  intro d
  induction d with
  | zero =>
    intro N αx μx μm cells slots hN hd
    omega
  | succ d ih =>
    intro N αx μx μm cells slots hN hd hR hrm
    have hbA : ¬ (fun q : Nat => s.heap.size ≤ q) b := Nat.not_le.mpr hbl
    have hw1 : w32 ((L : Int) - 6) = (L : Int) - 6 := w32_id (by omega) (by omega)
    have hw2 : w32 (N : Int) = (N : Int) := w32_id (by omega) (by omega)
    refine g_ild_n C 0 rfl rfl dL_law_18 ?_
    refine g_ald_n C 3 rfl rfl dL_law_19 ?_
    refine g_slen C hX hbl hbA dL_law_20 ?_
    refine g_bipush C rfl dL_law_21 ?_
    refine g_isub C dL_law_23 ?_
    refine g_ic_gt C 1233 (by decide) dL_law_24 (fun h => ?_) (fun h => ?_)
    · intro H locs ls hP hDD hS hl
      refine lv_iconst (v := 1) C.hx C.hb dL_law_1233 (by decide) ?_
      refine va_forget hS.2.2 ?_
      obtain ⟨h1, h2⟩ := hrm.cr hR.len
      refine W.widen (k := 600000) (n := 7302250) h1 h2 ?_
      exact lw_ret C.hx C.hb C.hr C.hlk dL_law_1234
    · rw [hw1, hw2] at h
      have S : SC s (fun q : Nat => s.heap.size ≤ q) b L xs N := ⟨hX, hbl, hbA, hL, by omega⟩
      refine g_arg0 C S 3 0 rfl rfl dL_law_27 dL_law_28 dL_law_29 ?_
      refine g_bipush C rfl dL_law_30 ?_
      refine g_iand C dL_law_32 ?_
      obtain ⟨v, hv, he⟩ := and31 (sc xs N)
      have kn : ∀ (α' : Adr) (μx' μm' : Mem) (cells' slots' : Nat), α' 0 0 = αx 0 0 → Rel μx' μm' → Roo cells' slots' (μx' 28 0 0) → GG D Y LB2 (fun q => s.heap.size ≤ q) p l e room_1 s m #[Value.ref b] below meth c 4 (lw_Z below #[Value.ref b] s) (mA α' αm) cells' slots' [(3, vi (N : Int)), (2, .ref (αm 30 0)), (1, .ref (αx 0 0)), (0, .ref b)] [] (mM μx' μm') 1227 := by
        intro α' μx' μm' cells' slots' h0 hR' hrm'
        refine g_iinc (lo' := [(3, vi ((N : Int) + 6)), (2, .ref (αm 30 0)), (1, .ref (αx 0 0)), (0, .ref b)]) C 0 rfl (by decide) rfl dL_law_1227 ?_
        refine g_goto C 18 (by decide) dL_law_1230 ?_
        have k := ih (N + 6) α' μx' μm' cells' slots' (by omega) (by omega) hR' hrm'
        rw [show ((N + 6 : Nat) : Int) = (N : Int) + 6 by omega, h0] at k
        exact k
      match v, hv, he with
      | 0, _, he => exact g_tabIn (off := 143) C 176 dL_law_33 (by rw [he]; decide) (by rw [he]; decide) (by rw [he]; rfl) (by decide) (law_0 C S hR hrm kn)
      | 1, _, he => exact g_tabIn (off := 156) C 189 dL_law_33 (by rw [he]; decide) (by rw [he]; decide) (by rw [he]; rfl) (by decide) (law_1 C S hR hrm kn)
      | 2, _, he => exact g_tabIn (off := 199) C 232 dL_law_33 (by rw [he]; decide) (by rw [he]; decide) (by rw [he]; rfl) (by decide) (law_2 C S hR hrm kn)
      | 3, _, he => exact g_tabIn (off := 272) C 305 dL_law_33 (by rw [he]; decide) (by rw [he]; decide) (by rw [he]; rfl) (by decide) (law_3 C S hR hrm kn)
      | 4, _, he => exact g_tabIn (off := 306) C 339 dL_law_33 (by rw [he]; decide) (by rw [he]; decide) (by rw [he]; rfl) (by decide) (law_4 C S hR hrm kn)
      | 5, _, he => exact g_tabIn (off := 369) C 402 dL_law_33 (by rw [he]; decide) (by rw [he]; decide) (by rw [he]; rfl) (by decide) (law_5 C S hR hrm kn)
      | 6, _, he => exact g_tabIn (off := 412) C 445 dL_law_33 (by rw [he]; decide) (by rw [he]; decide) (by rw [he]; rfl) (by decide) (law_6 C S hR hrm kn)
      | 7, _, he => exact g_tabIn (off := 445) C 478 dL_law_33 (by rw [he]; decide) (by rw [he]; decide) (by rw [he]; rfl) (by decide) (law_7 C S hR hrm kn)
      | 8, _, he => exact g_tabIn (off := 508) C 541 dL_law_33 (by rw [he]; decide) (by rw [he]; decide) (by rw [he]; rfl) (by decide) (law_8 C S hR hrm kn)
      | 9, _, he => exact g_tabIn (off := 561) C 594 dL_law_33 (by rw [he]; decide) (by rw [he]; decide) (by rw [he]; rfl) (by decide) (law_9 C S hR hrm kn)
      | 10, _, he => exact g_tabIn (off := 620) C 653 dL_law_33 (by rw [he]; decide) (by rw [he]; decide) (by rw [he]; rfl) (by decide) (law_10 C S hR hrm kn)
      | 11, _, he => exact g_tabIn (off := 653) C 686 dL_law_33 (by rw [he]; decide) (by rw [he]; decide) (by rw [he]; rfl) (by decide) (law_11 C S hR hrm kn)
      | 12, _, he => exact g_tabIn (off := 696) C 729 dL_law_33 (by rw [he]; decide) (by rw [he]; decide) (by rw [he]; rfl) (by decide) (law_12 C S hR hrm kn)
      | 13, _, he => exact g_tabIn (off := 719) C 752 dL_law_33 (by rw [he]; decide) (by rw [he]; decide) (by rw [he]; rfl) (by decide) (law_13 C S hR hrm kn)
      | 14, _, he => exact g_tabIn (off := 732) C 765 dL_law_33 (by rw [he]; decide) (by rw [he]; decide) (by rw [he]; rfl) (by decide) (law_14 C S hR hrm kn)
      | 15, _, he => exact g_tabIn (off := 765) C 798 dL_law_33 (by rw [he]; decide) (by rw [he]; decide) (by rw [he]; rfl) (by decide) (law_15 C S hR hrm kn)
      | 16, _, he => exact g_tabIn (off := 808) C 841 dL_law_33 (by rw [he]; decide) (by rw [he]; decide) (by rw [he]; rfl) (by decide) (law_16 C S hR hrm kn)
      | 17, _, he => exact g_tabIn (off := 822) C 855 dL_law_33 (by rw [he]; decide) (by rw [he]; decide) (by rw [he]; rfl) (by decide) (law_17 C S hR hrm kn)
      | 18, _, he => exact g_tabIn (off := 836) C 869 dL_law_33 (by rw [he]; decide) (by rw [he]; decide) (by rw [he]; rfl) (by decide) (law_18 C S hR hrm kn)
      | 19, _, he => exact g_tabIn (off := 849) C 882 dL_law_33 (by rw [he]; decide) (by rw [he]; decide) (by rw [he]; rfl) (by decide) (law_19 C S hR hrm kn)
      | 20, _, he => exact g_tabIn (off := 872) C 905 dL_law_33 (by rw [he]; decide) (by rw [he]; decide) (by rw [he]; rfl) (by decide) (law_20 C S hR hrm kn)
      | 21, _, he => exact g_tabIn (off := 905) C 938 dL_law_33 (by rw [he]; decide) (by rw [he]; decide) (by rw [he]; rfl) (by decide) (law_21 C S hR hrm kn)
      | 22, _, he => exact g_tabIn (off := 938) C 971 dL_law_33 (by rw [he]; decide) (by rw [he]; decide) (by rw [he]; rfl) (by decide) (law_22 C S hR hrm kn)
      | 23, _, he => exact g_tabIn (off := 951) C 984 dL_law_33 (by rw [he]; decide) (by rw [he]; decide) (by rw [he]; rfl) (by decide) (law_23 C S hR hrm kn)
      | 24, _, he => exact g_tabIn (off := 964) C 997 dL_law_33 (by rw [he]; decide) (by rw [he]; decide) (by rw [he]; rfl) (by decide) (law_24 C S hR hrm kn)
      | 25, _, he => exact g_tabIn (off := 987) C 1020 dL_law_33 (by rw [he]; decide) (by rw [he]; decide) (by rw [he]; rfl) (by decide) (law_25 C S hR hrm kn)
      | 26, _, he => exact g_tabIn (off := 1000) C 1033 dL_law_33 (by rw [he]; decide) (by rw [he]; decide) (by rw [he]; rfl) (by decide) (law_26 C S hR hrm kn)
      | 27, _, he => exact g_tabIn (off := 1023) C 1056 dL_law_33 (by rw [he]; decide) (by rw [he]; decide) (by rw [he]; rfl) (by decide) (law_27 C S hR hrm kn)
      | 28, _, he => exact g_tabIn (off := 1056) C 1089 dL_law_33 (by rw [he]; decide) (by rw [he]; decide) (by rw [he]; rfl) (by decide) (law_28 C S hR hrm kn)
      | 29, _, he => exact g_tabIn (off := 1079) C 1112 dL_law_33 (by rw [he]; decide) (by rw [he]; decide) (by rw [he]; rfl) (by decide) (law_29 C S hR hrm kn)
      | 30, _, he => exact g_tabIn (off := 1138) C 1171 dL_law_33 (by rw [he]; decide) (by rw [he]; decide) (by rw [he]; rfl) (by decide) (law_30 C S hR hrm kn)
      | 31, _, he => exact g_tabIn (off := 1171) C 1204 dL_law_33 (by rw [he]; decide) (by rw [he]; decide) (by rw [he]; rfl) (by decide) (law_31 C S hR hrm kn)
      | v + 32, hv, _ => exact absurd hv (by omega)
theorem k_ast0 {p : Program} {l : Launch} {e : Env} {R : Room} {s : State} {m : MethodId} {args : Array Value} {below : List Frame} {meth : Method} {c : Code} {Q : State → Prop} {D : va_G} {A : Nat → Prop} {cc : ByteArray} {nL cells slots pc : Nat} {lo lo' : List (Nat × Value)} {sk : List Value} {w : va_W} (hx : p.tables.exec = Jvm.exec) (hb : c.code = cc) {kf : Fin 4} {i x : Nat} (hi : (kf : Nat) = i) (hn : i < nL) (hlo : (i, Value.ref x) :: lo.filter (fun q => !(q.1 == i) && !(q.1 + 1 == i && q.2.category == 2)) = lo') (hd : decode cc pc = .ok (.astore_n kf, 1)) (k : GC D A p l e R s m args below meth c nL Q cells slots lo' sk w (pc + 1)) : GC D A p l e R s m args below meth c nL Q cells slots lo (Value.ref x :: sk) w pc := fun H locs ls hP hD hS hl => lv_astore_n hx hb hd hi hl hn hlo (fun ls hl => k H locs ls hP hD hS hl)
set_option maxRecDepth 100000 in
set_option maxHeartbeats 4000000 in
/-- from the entry, for every script of at most 3072 ints, the law comes to its end with true -/
theorem whole_start {p : Program} {e : Env} {s : State} {m : MethodId} {below : List Frame} {meth : Method} {c : Code} (l : Launch) {b L : Nat} {xs : Nat → Int32} (hL : L ≤ 3072) (C0 : lw_At p s m meth c b L xs) : W p l e room_1 s m #[Value.ref b] below meth c s.heap [] 0 0 (lw_Z below #[Value.ref b] s) (entryFrame m ([Value.ref b] : List Value).toArray 4) := by
  obtain ⟨hx, hb, hr, hml, hown, hts, hX, hbl, hlocks, hgv⟩ := id C0
  have ht : ∀ w ∈ TB, w.before #[Value.ref b] s = true := fun w h => hts w (List.mem_filter.mp h).1
  obtain ⟨D, Y, hK, hN⟩ := start_known hts
  have hA : ∀ q : Nat, s.heap.size ≤ q → (fun q : Nat => s.heap.size ≤ q) q := fun _ h => h
  have C : CX p s m #[Value.ref b] meth c cL_law 4 RL ret D Y LB2 (fun q => s.heap.size ≤ q) := ⟨hx, hb, hml, hown, ht, hK, hA, hr, hlocks, hN.1, LB2_nd⟩
  have hown : s.vm.findClass RL = some m.cls := hown
  have hl := lv_entry [Value.ref b] (n := 4) (Nat.le_of_ble_eq_true rfl)
  rw [lg_entry_eq]
  have main : GC D (fun q => s.heap.size ≤ q) p l e room_1 s m #[Value.ref b] below meth c 4 (lw_Z below #[Value.ref b] s) 0 0 [(0, .ref b)] [] [] 0 := by
    refine k_mk0 (fs := [vi 0, .null, .null, .null, .null, .null, .null, .null, .null]) (N := 9) (ci := 8) (T := TX8) (ty0 := tyX8) hx hb hml hown ht hK hA hN rfl uw_8 tyX8_ok m_1_15 m_1_16 m_1_1 (fun j hj => by rcases (show j = 0 ∨ j = 1 ∨ j = 2 ∨ j = 3 ∨ j = 4 ∨ j = 5 ∨ j = 6 ∨ j = 7 ∨ j = 8 by omega) with rfl | rfl | rfl | rfl | rfl | rfl | rfl | rfl | rfl <;> rfl) (c_X8_init l D Y) cw_X8_init (Or.inl m_1_17) rfl m_1_18 (Nat.le_of_ble_eq_true rfl) ⟨Nat.le_of_ble_eq_true rfl, Nat.le_of_ble_eq_true rfl⟩ ⟨Nat.le_of_ble_eq_true rfl, Nat.le_of_ble_eq_true rfl⟩ dL_law_0 dL_law_3 dL_law_4 (fun q αx h0 => ?_)
    subst h0
    refine k_ast0 (lo' := [(1, .ref (αx 0 0)), (0, .ref b)]) hx hb rfl (by decide) rfl dL_law_7 ?_
    refine k_mk0 (fs := [vi 0, vi 0, vl 0, vl 0, .null, .null, .null, vi 0, vi 0, vi 0, vi 0, .null, .null, .null, .null, .null, .null, .null, .null, .null, .null, .null, .null, .null, .null, .null, .null, vi 0, .null, .null, .null, .null, .null, vl 0, vl 0, vl 0, vl 0]) (N := 37) (ci := 9) (T := TX9) (ty0 := tyX9) hx hb hml hown ht hK hA hN rfl uw_9 tyX9_ok m_4_3 m_4_4 m_1_10 (fun j hj => by rcases (show j = 0 ∨ j = 1 ∨ j = 2 ∨ j = 3 ∨ j = 4 ∨ j = 5 ∨ j = 6 ∨ j = 7 ∨ j = 8 ∨ j = 9 ∨ j = 10 ∨ j = 11 ∨ j = 12 ∨ j = 13 ∨ j = 14 ∨ j = 15 ∨ j = 16 ∨ j = 17 ∨ j = 18 ∨ j = 19 ∨ j = 20 ∨ j = 21 ∨ j = 22 ∨ j = 23 ∨ j = 24 ∨ j = 25 ∨ j = 26 ∨ j = 27 ∨ j = 28 ∨ j = 29 ∨ j = 30 ∨ j = 31 ∨ j = 32 ∨ j = 33 ∨ j = 34 ∨ j = 35 ∨ j = 36 by omega) with rfl | rfl | rfl | rfl | rfl | rfl | rfl | rfl | rfl | rfl | rfl | rfl | rfl | rfl | rfl | rfl | rfl | rfl | rfl | rfl | rfl | rfl | rfl | rfl | rfl | rfl | rfl | rfl | rfl | rfl | rfl | rfl | rfl | rfl | rfl | rfl | rfl <;> rfl) (c_X9_init l D Y) cw_X9_init (Or.inl m_4_5) rfl m_4_6 (Nat.le_of_ble_eq_true rfl) ⟨Nat.le_of_ble_eq_true rfl, Nat.le_of_ble_eq_true rfl⟩ ⟨Nat.le_of_ble_eq_true rfl, Nat.le_of_ble_eq_true rfl⟩ dL_law_8 dL_law_11 dL_law_12 (fun q αm h0 => ?_)
    subst h0
    refine k_toG (LB := LB2) (α := mA αx αm) (μ := mM μX0 μM1) (by rw [wl2]; rfl) ?_
    refine g_ast_n (lo' := [(2, .ref (αm 30 0)), (1, .ref (αx 0 0)), (0, .ref b)]) C rfl (by decide) rfl dL_law_15 ?_
    refine g_iconst C dL_law_16 ?_
    refine g_ist_n (lo' := [(3, vi ((0 : Nat) : Int)), (2, .ref (αm 30 0)), (1, .ref (αx 0 0)), (0, .ref b)]) C rfl (by decide) rfl dL_law_17 ?_
    exact law_loop C hX hbl hL (L + 1) 0 αx μX0 μM1 _ _ (Nat.zero_le _) (by omega) rel0 roo0
  exact main s.heap [] _ (va_P_iff.mpr fun q h => nomatch h) (va_D_iff.mpr ⟨List.nodup_nil, fun q h => nomatch h⟩) va_S.rf hl
