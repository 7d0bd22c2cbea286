/-! MOVES -/
theorem movedX_L {D : Dt} (O : OKD D) {p : Nat} (hp : p < dnp D) : ∀ (d n j : Nat) (μ : Mem), Frs D μ → SX D j μ → d + j = cW D → d < n → ∃ μ', f_X6_weightMovedBy_L12 (p : Int) n (sm (fun k => if wEnd D k p ≤ wEnd D k (-1) then 0 else lw D k) j) (j : Int) μ = some (sm (fun k => if wEnd D k p ≤ wEnd D k (-1) then 0 else lw D k) (cW D), μ') ∧ ∀ t, t ≠ 11 → t ≠ 12 → t ≠ 13 → t ≠ 14 → μ' t = μ t := by
  have hc := cW_le O
  have h10 := ok_np O
  intro d
  induction d with
  | zero =>
    intro n j μ F hX hd hn
    obtain ⟨n, rfl⟩ : ∃ q, n = q + 1 := ⟨n - 1, by omega⟩
    have hj : j = cW D := by omega
    subst hj
    exact ⟨μ, by rw [f_X6_weightMovedBy_L12.eq_2, fr_6 F, if_pos (Int.le_refl _)], fun t _ _ _ _ => rfl⟩
  | succ d ih =>
    intro n j μ F hX hd hn
    obtain ⟨n, rfl⟩ : ∃ q, n = q + 1 := ⟨n - 1, by omega⟩
    have ht := fr_t F
    have h28 := fr_28 F
    have hjc : j < cW D := by omega
    obtain ⟨l1, l2⟩ := fr_left O F hjc
    obtain ⟨k1, k2, k3⟩ := fr_k F hjc
    have hwp := wWt_pos O (k := j)
    have hwl := wWt_le O hjc
    have hb := wEnd_bd O (k := j) (sl := -1)
    rw [if_neg (by decide)] at hb
    have hb2 := wEnd_bd O (k := j) (sl := (p : Int))
    rw [if_pos (by omega)] at hb2
    have rest : ∀ μ1 : Mem, SX D j μ1 → (∀ t, t ≠ 11 → t ≠ 12 → t ≠ 13 → t ≠ 14 → μ1 t = μ t) → ∃ μ', bn (f_X2_goToNext μ1) (fun r10 μ11 => f_X6_weightMovedBy_L12 (p : Int) n (sm (fun k => if wEnd D k p ≤ wEnd D k (-1) then 0 else lw D k) (j + 1)) ((j : Int) + 1) μ11) = some (sm (fun k => if wEnd D k p ≤ wEnd D k (-1) then 0 else lw D k) (cW D), μ') ∧ ∀ t, t ≠ 11 → t ≠ 12 → t ≠ 13 → t ≠ 14 → μ' t = μ t := by
      intro μ1 X1 h1
      obtain ⟨μ2, b1, b2, b3⟩ := nextX O X1 (by omega)
      have h2 : ∀ t, t ≠ 11 → t ≠ 12 → t ≠ 13 → t ≠ 14 → μ2 t = μ t := fun t q1 q2 q3 q4 => by rw [b3 t q1 q2 q3, h1 t q1 q2 q3 q4]
      obtain ⟨μ', c1, c2⟩ := ih n (j + 1) μ2 (Frs_ext F h2) b2 (by omega) (by omega)
      refine ⟨μ', ?_, fun t q1 q2 q3 q4 => by rw [c2 t q1 q2 q3 q4, h2 t q1 q2 q3 q4]⟩
      rw [b1, bn_s, show ((j : Int) + 1) = ((j + 1 : Nat) : Int) by omega]
      exact c1
    rw [show sm (fun k => if wEnd D k p ≤ wEnd D k (-1) then 0 else lw D k) (j + 1) = sm (fun k => if wEnd D k p ≤ wEnd D k (-1) then 0 else lw D k) j + (if wEnd D j p ≤ wEnd D j (-1) then 0 else lw D j) from rfl] at rest
    rw [f_X6_weightMovedBy_L12.eq_2, fr_6 F, if_neg (show ¬ w32 (cW D : Int) ≤ w32 (j : Int) by rw [w32n (by omega), w32n (by omega)]; omega), l1, bn_s]
    simp only [jn_u]
    by_cases hw : wLft D j
    · obtain ⟨μ1, a1, a2, a3, a4⟩ := stepX2 O (fr_s F) (sl := (p : Int)) (by omega) hX
      rw [lw_y hw] at rest
      rw [if_neg (fun z => l2.1 z hw), if_neg (show ¬ w32 1 = 0 by decide), a1, bn_s, ixn (by omega), a4 28 (by decide) (by decide), a4 10 (by decide) (by decide), a4 9 (by decide) (by decide), gd_inb _ (by omega) (by omega) (by omega), gd_inb _ (by omega) (by omega) (by omega), k1, k2 hw, w32_id (x := wEnd D j p) (by omega) (by omega), w32_id (x := wEnd D j (-1)) (by omega) (by omega), w32_id (x := wWt D j) (by omega) (by omega)]
      by_cases z : wEnd D j p ≤ wEnd D j (-1)
      · rw [if_pos z, Int.add_zero] at rest
        rw [if_pos z]; exact rest μ1 a2 (fun t q1 _ _ q4 => a4 t q1 q4)
      · rw [if_neg z] at rest
        rw [if_neg z]; exact rest μ1 a2 (fun t q1 _ _ q4 => a4 t q1 q4)
    · rw [lw_n hw] at rest
      have e0 : (if wEnd D j p ≤ wEnd D j (-1) then (0 : Int) else 0) = 0 := by split <;> rfl
      rw [e0, Int.add_zero] at rest
      rw [if_pos (l2.2 hw), if_pos w32_0]
      exact rest μ hX (fun t _ _ _ _ => rfl)
theorem movedM_L {D : Dt} (O : OKD D) (hS : nStuck D) (ht : tot D ≤ 20000) {p : Nat} (hp : p < dnp D) (K : Int → Int → Mem → Option (Int × Mem)) : ∀ (d n j : Nat) (μ : Mem), SM D j μ → d + j = cW D → d < n → ∃ μ', f_X9_moves_L64 (p : Int) K n (sm (lw D) j) (sm (fun k => if wEnd D k p ≤ wEnd D k (-1) then 0 else lw D k) j) (if j = cW D then 0 else 1) μ = K (LL D) (sm (fun k => if wEnd D k p ≤ wEnd D k (-1) then 0 else lw D k) (cW D)) μ' ∧ keepM μ μ' := by
  have hc := cW_le O
  have h10 := ok_np O
  intro d
  induction d with
  | zero =>
    intro n j μ hM hd hn
    obtain ⟨n, rfl⟩ : ∃ q, n = q + 1 := ⟨n - 1, by omega⟩
    have hj : j = cW D := by omega
    subst hj
    refine ⟨μ, ?_, keepM_refl _⟩
    rw [f_X9_moves_L64.eq_2, if_pos rfl, if_pos w32_0]
    rfl
  | succ d ih =>
    intro n j μ hM hd hn
    obtain ⟨n, rfl⟩ : ∃ q, n = q + 1 := ⟨n - 1, by omega⟩
    have hjc : j < cW D := by omega
    obtain ⟨μ1, a1, a2, a3, a4⟩ := stepM O hS (sl := -1) (by omega) hM
    have hE : ∀ p, p < dnp D → μ1 46 0 p = wFin D j (-1) p ∧ 0 ≤ wFin D j (-1) p ∧ wFin D j (-1) p ≤ 4951 := fun p hp => ⟨a3 p hp, (wFin_bd O hS hp).1, (wFin_bd O hS hp).2⟩
    have hle := isLeftM O a2.1 hE
    have hb := wEnd_bd O (k := j) (sl := -1)
    rw [if_neg (by decide)] at hb
    have hb2 := wEnd_bd O (k := j) (sl := (p : Int))
    rw [if_pos (by omega)] at hb2
    have d3 : sm (lw D) (j + 1) = sm (lw D) j + lw D j := rfl
    have d4 : sm (fun k => if wEnd D k p ≤ wEnd D k (-1) then 0 else lw D k) (j + 1) = sm (fun k => if wEnd D k p ≤ wEnd D k (-1) then 0 else lw D k) j + (if wEnd D j p ≤ wEnd D j (-1) then 0 else lw D j) := rfl
    have rest : ∀ μ4 : Mem, SM D j μ4 → (∀ t, t ≠ 45 → t ≠ 46 → t ≠ 53 → t ≠ 54 → μ4 t = μ t) → ∃ μ', bn (f_X9_nextWay μ4) (fun r30 μ31 => f_X9_moves_L64 (p : Int) K n (sm (lw D) (j + 1)) (sm (fun k => if wEnd D k p ≤ wEnd D k (-1) then 0 else lw D k) (j + 1)) r30 μ31) = K (LL D) (sm (fun k => if wEnd D k p ≤ wEnd D k (-1) then 0 else lw D k) (cW D)) μ' ∧ keepM μ μ' := by
      intro μ4 M4 q1
      obtain ⟨μ5, b1, b2, b3⟩ := nextM O M4 hjc
      obtain ⟨μ', c1, c2⟩ := ih n (j + 1) μ5 b2 (by omega) (by omega)
      refine ⟨μ', by rw [b1, bn_s]; exact c1, fun t h1 h2 => ?_, fun s hs => ?_⟩
      · rw [c2.1 t h1 h2, b3 t (by omega) (by omega), q1 t (by omega) (by omega) (by omega) (by omega)]
      · rw [c2.2 s hs, b3 30 (by decide) (by decide), q1 30 (by decide) (by decide) (by decide) (by decide)]
    rw [d3, d4] at rest
    rw [f_X9_moves_L64.eq_2, if_neg (show ¬ j = cW D by omega), if_neg (show ¬ w32 1 = 0 by decide), a1, bn_s]
    by_cases hw : wLft D j
    · rw [lw_y hw] at rest
      rw [hle.1 hw, bn_s]
      simp only [jn_u]
      obtain ⟨μ2, e1, e2, e3, e4⟩ := stepM O hS (sl := (p : Int)) (by omega) a2
      rw [if_neg (show ¬ w32 1 = 0 by decide), weightM O a2, bn_s, e1, bn_s, w32_id (x := wEnd D j p) (by omega) (by omega), w32_id (x := wEnd D j (-1)) (by omega) (by omega)]
      have q2 : ∀ t, t ≠ 45 → t ≠ 46 → t ≠ 53 → t ≠ 54 → μ2 t = μ t := fun t h1 h2 h3 h4 => by rw [e4 t h1 h2 h3 h4, a4 t h1 h2 h3 h4]
      by_cases z : wEnd D j p ≤ wEnd D j (-1)
      · rw [if_pos z, Int.add_zero] at rest
        rw [if_pos z]; exact rest μ2 e2 q2
      · rw [if_neg z] at rest
        rw [if_neg z]; exact rest μ2 e2 q2
    · rw [lw_n hw] at rest
      have e0 : (if wEnd D j p ≤ wEnd D j (-1) then (0 : Int) else 0) = 0 := by split <;> rfl
      rw [e0, Int.add_zero, Int.add_zero] at rest
      rw [hle.2 hw, bn_s]
      simp only [jn_u]
      rw [if_pos w32_0]
      exact rest μ1 a2 a4
theorem op_moves {μx μm : Mem} (R : Rel μx μm) {p : Int} (hp : I32 p) : Step (f_X8_moves p μx) (f_X9_moves p μm) := by
  unfold f_X8_moves f_X9_moves
  rw [m0_def]
  obtain ⟨hn1, hn2, hn3⟩ := np_of R
  have e7 : m0 μm 30 0 7 = μm 30 0 7 := m0_k _ (by decide)
  obtain ⟨O, W⟩ := RW_OK R
  obtain ⟨nd1, nd2⟩ := np_D R
  have W0 := WM_m0 W
  by_cases hpp : 0 ≤ p ∧ p < μm 30 0 7
  · obtain ⟨q, rfl⟩ := natOf hpp.1
    have hq : q < dnp (dt μx) := by omega
    rw [hasX_t hp hpp.1 (by omega) (by omega), isM_t hp hpp.1 (by omega) (by omega), bn_s, bn_s, if_neg (show ¬ w32 1 = 0 by decide)]
    simp only [jn_u, f_X8_refuse, f_X9_no, bn_s, gd_b0]
    rw [if_neg (show ¬ w32 1 = 0 by decide)]
    have hX := troubleX O rfl R.2.2.2.2.2
    by_cases h1 : nStuck (dt μx)
    · rw [(stuckM O W0).1 h1, bn_s, if_pos w32_0, isGreatM O W0, bn_s]
      by_cases h2 : tot (dt μx) ≤ 20000
      · obtain ⟨μx', a1, a2, a3⟩ := hX.2.2 h1 h2
        have R' : Rel μx' μm := Rel_x R a2.1 (fun t ht => a3 t (by omega) (by omega) (by omega) (by omega) (by omega) (by omega) (by omega) (by omega)) (by rw [a3 1 (by decide) (by decide) (by decide) (by decide) (by decide) (by decide) (by decide) (by decide)]) (fun s _ => by rw [a3 1 (by decide) (by decide) (by decide) (by decide) (by decide) (by decide) (by decide) (by decide)]) a2.2.2
        have hL := LL_bd O
        have hcw := cW_le O
        obtain ⟨μ2, b1, b2, b3⟩ := firstM O W0
        rw [if_pos h2, if_pos w32_0, a1, bn_s, b1, bn_s]
        obtain ⟨μ3, c1, c2⟩ := movedM_L O h1 h2 hq (fun y43 y44 μ42 => (if w64 y43 = w64 0 then some (0, st μ42 30 0 0 10) else bn (f_X9_tells y44 y43 μ42) (fun r50 μ51 => some (1, μ51)))) (cW (dt μx)) FU 0 μ2 b2 (by omega) (by unfold FU; omega)
        rw [if_neg (show ¬ 0 = cW (dt μx) by omega)] at c1
        have hk : keepM (m0 μm) μ3 := ⟨fun t h1 h2 => by rw [c2.1 t h1 h2, b3 t (by omega) (by omega)], fun s hs => by rw [c2.2 s hs, b3 30 (by decide) (by decide)]⟩
        rw [show f_X9_moves_L64 (q : Int) _ FU 0 0 1 μ2 = _ from c1, w64_id (x := LL (dt μx)) (by omega) (by omega), show w64 0 = 0 from rfl]
        by_cases z : LL (dt μx) ≤ 0
        · rw [if_pos z, if_neg (show ¬ w32 10 = 0 by decide), if_pos (show LL (dt μx) = 0 by omega)]
          exact Step_mk rfl (Rel_rfk R' hk 10)
        · rw [if_neg z, if_pos w32_0, if_neg (show ¬ LL (dt μx) = 0 by omega)]
          unfold f_X6_weightMovedBy
          obtain ⟨μ4, d1, d2, d3⟩ := firstX O a2.1
          obtain ⟨μ5, e1, e2⟩ := movedX_L O hq (cW (dt μx)) FU 0 μ4 (Frs_ext a2 (fun t q1 q2 q3 _ => d3 t q1 q2 q3)) d2 (by omega) (by unfold FU; omega)
          have ef : ∀ t, t ≠ 11 → t ≠ 12 → t ≠ 13 → t ≠ 14 → μ5 t = μx' t := fun t q1 q2 q3 q4 => by rw [e2 t q1 q2 q3 q4, d3 t q1 q2 q3]
          have e8 : μ5 7 0 8 = LL (dt μx) := by rw [ef 7 (by decide) (by decide) (by decide) (by decide)]; exact Frs_8 a2
          rw [d1, bn_s, show f_X6_weightMovedBy_L12 (q : Int) FU 0 0 μ4 = _ from e1, bn_s, e8]
          have hs := sm_tot O (f := fun k => if wEnd (dt μx) k q ≤ wEnd (dt μx) k (-1) then 0 else lw (dt μx) k) (Nat.le_refl _) (fun k _ => by have := lw_bd O (k := k); split <;> omega)
          exact tellK (Rel_stp R' ef) hk hs.1 (by omega) (by omega) (by omega)
      · rw [if_neg h2, if_neg (show ¬ w32 1 = 0 by decide), hX.2.1 h1 h2, bn_s, if_neg (show ¬ w32 9 = 0 by decide)]
        exact Step_mk rfl (Rel_rf R 9)
    · rw [(stuckM O W0).2 h1, bn_s, if_neg (show ¬ w32 1 = 0 by decide), hX.1 h1, bn_s, if_neg (show ¬ w32 8 = 0 by decide)]
      exact Step_mk rfl (Rel_rf R 8)
  · rw [hasX_f hp (by omega) (by omega) (by omega), isM_f hp (by omega) (by omega) (by omega), bn_s, bn_s]
    simp only [jn_u, f_X8_refuse, f_X9_no, bn_s, gd_b0]
    rw [if_pos w32_0, if_pos w32_0, if_neg (show ¬ w32 2 = 0 by decide)]
    exact Step_mk rfl (Rel_rf R 2)
