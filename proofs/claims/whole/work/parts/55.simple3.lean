/-! need, late, cause, told, row -/
theorem Step_mk {r1 r2 : Int} {μx' μm' : Mem} (h : r1 = r2) (R : Rel μx' μm') : Step (some (r1, μx')) (some (r2, μm')) := ⟨r1, μx', μm', rfl, by rw [h], R⟩
theorem op_need {μx μm : Mem} (R : Rel μx μm) {a b c : Int} (ha : I32 a) (hb : I32 b) (hc : I32 c) : Step (f_X8_need a b c μx) (f_X9_need a b c μm) := by
  unfold f_X8_need f_X9_need
  obtain ⟨hn1, hn2, hn3⟩ := np_of R
  rw [m0_def]
  have e7 : m0 μm 30 0 7 = μm 30 0 7 := m0_k _ (by decide)
  by_cases hp : 0 ≤ a ∧ a < μm 30 0 7
  · rw [hasX_t ha hp.1 (by omega) (by omega), isM_t ha hp.1 (by omega) (by omega)]
    simp only [bn_s, w1z, if_false]
    by_cases hq : 0 ≤ b ∧ b < μm 30 0 7
    · rw [hasX_t hb hq.1 (by omega) (by omega), isM_t hb hq.1 (by omega) (by omega)]
      obtain ⟨p, rfl⟩ := natOf hp.1
      obtain ⟨q, rfl⟩ := natOf hq.1
      have hp10 : p < 10 := by omega
      simp (disch := omega) only [f_X1_setNeed, gd_inb, ixn, f_X8_refuse, f_X8_changed, f_X8_well, f_X9_no, bn_s, bn_if, gd_b0, gd_b1, w32n, wr hc, w1z, if_false]
      by_cases h1 : (q : Int) < p
      · simp only [if_pos h1]
        have hRP := rp_of R (p := p) hp.2
        obtain ⟨M, hM⟩ : ∃ M : Nat, μm 36 0 p = (M : Int) := ⟨(μm 36 0 p).toNat, by have := hRP.2.2.1; omega⟩
        have hM2 : M < 2 ^ p := by have := hRP.2.2.1.2.2; rw [hM] at this; exact_mod_cast this
        have hM3 : M < 2 ^ 31 := Nat.lt_of_lt_of_le hM2 (Nat.pow_le_pow_right (by decide) (by omega))
        have hX : μx 17 p 6 = (M : Int) := hRP.2.2.1.1.trans hM
        have hq2 : (2 : Nat) ^ q < 2 ^ 31 := Nat.pow_lt_pow_right (by decide) (by omega)
        have hqp : (2 : Nat) ^ q < 2 ^ p := Nat.pow_lt_pow_right (by decide) (by omega)
        have key : ∀ z : Nat, z < 2 ^ p → Step (some (1, st (st (st μx 17 p 6 (z : Int)) 7 0 5 1) 0 0 0 0)) (some (1, st (m0 μm) 36 0 p (z : Int))) := by
          intro z hz
          refine ⟨_, _, _, rfl, rfl, Rel_work R (fun t h => ?_) (fun t h => ?_) (fun k h => ?_) ?_ ?_ ?_⟩
          · simp (disch := omega) only [st_tag]
          · simp (disch := omega) only [st_tag, m0_tag]
          · rw [st_nt _ (by decide), m0_k _ (by omega)]
          · rw [st_eq, st_nt _ (by decide), m0_0]
          · rw [st_nt _ (by decide), st_eq]
          · rw [dt_st _ (by decide), dt_st _ (by decide)]
            simp (disch := decide) only [st_nt, m0_k, st_tag, m0_tag, st_at]
            refine RW_part R.2.2.2.1 ?_ ?_ (fun q hq h => ?_)
            · unfold dt; rw [st_tag _ (by decide)]
            · unfold dt; simp (disch := decide) only [st_tag]
            · obtain ⟨r1, r2, r3, r4, r5, r6, r7⟩ := h
              unfold dt at r1 r2 r3 r4 r5 r6 r7 ⊢
              unfold RP
              simp (disch := decide) only [st_tag, st_nk] at r1 r2 r3 r4 r5 r6 r7 ⊢
              refine ⟨r1, r2, ?_, r4, r5, r6, r7⟩
              by_cases hqp : q = p
              · subst hqp; rw [st_eq, up_eq]; exact ⟨rfl, by omega, by exact_mod_cast hz⟩
              · rw [st_ni _ hqp, up_ne _ _ hqp]; exact r3
        have e36 : m0 μm 36 0 p = (M : Int) := by rw [m0_tag _ (by decide)]; exact hM
        rw [hX, e36, shl1 q (by omega), b_andn hM3 hq2, b_or hM3 hq2]
        by_cases h2 : c = 0
        · simp only [if_pos h2, bn_s, gd_b1]
          exact key _ (Nat.xor_lt_two_pow hM2 (Nat.lt_of_le_of_lt Nat.and_le_left hM2))
        · simp only [if_neg h2, bn_s, gd_b1]
          exact key _ (Nat.or_lt_two_pow hM2 hqp)
      · simp only [if_neg h1]
        exact ⟨_, _, _, rfl, rfl, Rel_rf R 5⟩
    · rw [hasX_f hb (by omega) (by omega) (by omega), isM_f hb (by omega) (by omega) (by omega)]
      simp only [f_X8_refuse, f_X9_no, bn_s, gd_b0, w0z, if_true]
      exact ⟨_, _, _, rfl, rfl, Rel_rf R 2⟩
  · rw [hasX_f ha (by omega) (by omega) (by omega), isM_f ha (by omega) (by omega) (by omega)]
    simp only [f_X8_refuse, f_X9_no, bn_s, gd_b0, w0z, if_true]
    exact ⟨_, _, _, rfl, rfl, Rel_rf R 2⟩
theorem op_late {μx μm : Mem} (R : Rel μx μm) {a b c : Int} (ha : I32 a) (hb : I32 b) (hc : I32 c) : Step (f_X8_late a b c μx) (f_X9_late a b c μm) := by
  unfold f_X8_late f_X9_late
  obtain ⟨hn1, hn2, hn3⟩ := np_of R
  obtain ⟨hc1, hc2, hc3⟩ := nc_of R
  rw [m0_def]
  have e7 : m0 μm 30 0 7 = μm 30 0 7 := m0_k _ (by decide)
  have e8 : m0 μm 30 0 8 = μm 30 0 8 := m0_k _ (by decide)
  by_cases hp : 0 ≤ a ∧ a < μm 30 0 7
  · rw [hasX_t ha hp.1 (by omega) (by omega), isM_t ha hp.1 (by omega) (by omega)]
    obtain ⟨p, rfl⟩ := natOf hp.1
    have hp10 : p < 10 := by omega
    have w8x : w32 (μx 15 0 4) = μm 30 0 8 := by rw [hc1]; exact w32_id (by omega) (by omega)
    have w8m : w32 (m0 μm 30 0 8) = μm 30 0 8 := by rw [e8]; exact w32_id (by omega) (by omega)
    simp only [f_X8_refuse, f_X8_changed, f_X8_well, f_X9_no, bn_s, gd_b0, gd_b1, wr hb, wr hc, w8x, w8m, show w32 99 = 99 from rfl, w1z, if_false]
    by_cases h1 : b < 0
    · simp only [if_pos h1]
      exact ⟨_, _, _, rfl, rfl, Rel_rf R 2⟩
    · simp only [if_neg h1]
      by_cases h2 : b < μm 30 0 8
      · simp only [if_pos h2]
        by_cases h3 : c < 0
        · simp only [if_pos h3]
          exact ⟨_, _, _, rfl, rfl, Rel_rf R 5⟩
        · simp only [if_neg h3]
          by_cases h4 : c ≤ 99
          · simp only [if_pos h4]
            obtain ⟨q, rfl⟩ := natOf (a := b) (by omega)
            rw [gd_inb _ (by omega) (by omega) (by omega), gd_inb _ (by omega) (by omega) (by omega), gd_inb _ (by omega) (by omega) (by omega), ixn (by omega), ixn (by omega), show (4 * (p : Int) + q) = ((4 * p + q : Nat) : Int) by omega, ixn (by omega)]
            refine ⟨_, _, _, rfl, rfl, Rel_work R (fun t h => ?_) (fun t h => ?_) (fun k h => ?_) ?_ ?_ ?_⟩
            · simp (disch := omega) only [st_tag]
            · simp (disch := omega) only [st_tag, m0_tag]
            · rw [st_nt _ (by decide), m0_k _ (by omega)]
            · rw [st_eq, st_nt _ (by decide), m0_0]
            · rw [st_nt _ (by decide), st_eq]
            · rw [dt_st _ (by decide), dt_st _ (by decide)]
              simp (disch := decide) only [st_nt, m0_k, st_tag, m0_tag, st_at]
              refine RW_part R.2.2.2.1 ?_ ?_ (fun p' hp' h => ?_)
              · unfold dt; rw [st_tag _ (by decide)]
              · unfold dt; simp (disch := decide) only [st_tag]
              · obtain ⟨r1, r2, r3, r4, r5, r6, r7⟩ := h
                unfold dt at r1 r2 r3 r4 r5 r6 r7 ⊢
                unfold RP
                simp (disch := decide) only [st_tag] at r1 r2 r3 r4 r5 r6 r7 ⊢
                refine ⟨r1, r2, r3, r4, r5, r6, fun c' hc' => ?_⟩
                by_cases hpp : p' = p ∧ c' = q
                · obtain ⟨rfl, rfl⟩ := hpp
                  rw [st_eq, up_eq]; exact ⟨rfl, by omega, by omega⟩
                · rw [up_ne _ _ (by omega)]
                  have := r7 c' hc'
                  by_cases hpq : p' = p
                  · subst hpq
                    rw [st_nk _ (by omega)]; exact this
                  · rw [st_ni _ hpq]; exact this
          · simp only [if_neg h4]
            exact ⟨_, _, _, rfl, rfl, Rel_rf R 5⟩
      · simp only [if_neg h2]
        exact ⟨_, _, _, rfl, rfl, Rel_rf R 2⟩
  · rw [hasX_f ha (by omega) (by omega) (by omega), isM_f ha (by omega) (by omega) (by omega)]
    simp only [f_X8_refuse, f_X9_no, bn_s, gd_b0, w0z, if_true]
    exact ⟨_, _, _, rfl, rfl, Rel_rf R 2⟩
theorem op_cause {μx μm : Mem} (R : Rel μx μm) {a b : Int} (ha : I32 a) (hb : I32 b) : Step (f_X8_cause a b μx) (f_X9_cause a b μm) := by
  unfold f_X8_cause f_X9_cause f_X7_addCause
  obtain ⟨hc1, hc2, hc3⟩ := nc_of R
  have w8x : w32 (μx 15 0 4) = μm 30 0 8 := by rw [hc1]; exact w32_id (by omega) (by omega)
  have w8m : w32 (μm 30 0 8) = μm 30 0 8 := w32_id (by omega) (by omega)
  have ws : ∀ v, Step (some (-1, st μx 0 0 0 v)) (some (-1, st (m0 μm) 30 0 0 v)) := fun v => ⟨_, _, _, rfl, rfl, Rel_rf R v⟩
  simp (disch := decide) only [m0_def, m0_k, st_nt, f_X8_refuseNumber, f_X8_changed, f_X8_well, f_X9_refuse, bn_s, bn_if, gd_b0, gd_b1, wr ha, wr hb, w8x, w8m, w32_1, show w32 2 = 2 from rfl, show w32 12 = 12 from rfl, show w32 4 = 4 from rfl, st_eq]
  by_cases h1 : 1 ≤ a ∧ a < b ∧ b ≤ 12
  · obtain ⟨q1, q2, q3⟩ := h1
    rw [if_neg (show ¬ a < 1 by omega), if_neg (show ¬ b ≤ a by omega), if_pos q3, if_neg (show ¬ b < 2 by omega), if_neg (show ¬ 12 < b by omega), if_neg (show ¬ a < 1 by omega), if_pos q2]
    by_cases h2 : μm 30 0 8 = 4
    · rw [if_neg (show ¬ μm 30 0 8 < 4 by omega), if_pos h2]
      exact ws 7
    · rw [if_pos (show μm 30 0 8 < 4 by omega), if_neg (show ¬ (4 : Int) ≤ μm 30 0 8 by omega), if_neg h2]
      obtain ⟨n, hn⟩ := natOf hc2
      have hcx : μx 15 0 4 = (n : Int) := hc1.trans hn
      rw [hn] at hc3 h2
      simp (disch := omega) only [hcx, hn, gd_inb, ixn, bn_s, gd_b1]
      refine Step_mk (by rw [st_eq]) ?_
      refine Rel_work R (fun t h => ?_) (fun t h => ?_) (fun k h => ?_) ?_ ?_ ?_
      · simp (disch := omega) only [st_tag]
      · simp (disch := omega) only [st_tag, m0_tag]
      · simp (disch := omega) only [st_nt, st_nk, m0_k]
      · simp (disch := decide) only [st_eq, st_nt, st_nk, m0_0]
      · rw [st_nt _ (by decide), st_eq]
      · rw [dt_st _ (by decide), dt_st _ (by decide)]
        obtain ⟨-, -, -, ⟨w1, w2, w3, w4, w5, w6⟩, -, -⟩ := R
        unfold dt at w1 w2 w3 w4 w5 w6 ⊢
        simp (disch := decide) only [st_tag, st_nt, st_nk, st_eq, st_at, m0_tag, m0_k] at w1 w2 w3 w4 w5 w6 ⊢
        refine ⟨?_, ?_, ?_, ?_, w5, fun c hc => ?_⟩
        · simp (disch := decide) only [up_ne]; exact w1
        · exact ⟨up_eq (μx 15 0) 4 ((n : Int) + 1), by omega, by omega⟩
        · simp (disch := decide) only [up_ne]; exact w3
        · simp (disch := decide) only [up_ne]; exact w4
        · by_cases hcn : c = n
          · subst hcn; simp only [up_eq]; exact ⟨trivial, trivial, q1, q2, q3⟩
          · simp only [up_ne _ _ hcn]
            exact w6 c (by omega)
  · have hX : ∀ z : Option (Int × Mem), (if a < 1 then some (((-1 : Int), st μx 0 0 0 5)) else if b ≤ a then some ((-1 : Int), st μx 0 0 0 5) else if b ≤ 12 then z else some ((-1 : Int), st μx 0 0 0 5)) = some ((-1 : Int), st μx 0 0 0 5) := by
      intro z
      by_cases g1 : a < 1
      · rw [if_pos g1]
      · rw [if_neg g1]
        by_cases g2 : b ≤ a
        · rw [if_pos g2]
        · rw [if_neg g2, if_neg (show ¬ b ≤ 12 by omega)]
    rw [hX]
    by_cases g1 : b < 2
    · rw [if_pos g1]; exact ws 5
    · rw [if_neg g1]
      by_cases g2 : 12 < b
      · rw [if_pos g2]; exact ws 5
      · rw [if_neg g2]
        by_cases g3 : a < 1
        · rw [if_pos g3]; exact ws 5
        · rw [if_neg g3, if_neg (show ¬ a < b by omega)]; exact ws 5
theorem sumM_L {μ : Mem} {p : Nat} (hp : p < 10) (h1 : μ 34 0 p ≤ 8) (h2 : 0 ≤ μ 34 0 p) : ∀ (d n j : Nat), d + j = (μ 34 0 p).toNat → d < n → f_X9_sumOf_L4 (p : Int) n (sm (fun k => μ 39 0 (8 * p + k)) j) (j : Int) μ = some (sm (fun k => μ 39 0 (8 * p + k)) (μ 34 0 p).toNat, μ) := by
  intro d
  induction d with
  | zero =>
    intro n j hd hn
    obtain ⟨n, rfl⟩ : ∃ q, n = q + 1 := ⟨n - 1, by omega⟩
    rw [f_X9_sumOf_L4.eq_2, gd_inb _ (by omega) (by omega) (by omega), ixn (by omega), if_pos (by rw [w32_id (by omega) (by omega), w32n (by omega)]; omega)]
    rw [show j = (μ 34 0 p).toNat by omega]
  | succ d ih =>
    intro n j hd hn
    obtain ⟨n, rfl⟩ : ∃ q, n = q + 1 := ⟨n - 1, by omega⟩
    rw [f_X9_sumOf_L4.eq_2, gd_inb _ (by omega) (by omega) (by omega), ixn (by omega), if_neg (by rw [w32_id (by omega) (by omega), w32n (by omega)]; omega), gd_inb _ (by omega) (by omega) (by omega), show (8 * (p : Int) + j) = ((8 * p + j : Nat) : Int) by omega, ixn (by omega), show ((j : Int) + 1) = ((j + 1 : Nat) : Int) by omega]
    exact ih n (j + 1) (by omega) (by omega)
theorem sumM {μ : Mem} {p : Nat} (hp : p < 10) (h1 : μ 34 0 p ≤ 8) (h2 : 0 ≤ μ 34 0 p) : f_X9_sumOf (p : Int) μ = some (sm (fun k => μ 39 0 (8 * p + k)) (μ 34 0 p).toNat, μ) := sumM_L hp h1 h2 (μ 34 0 p).toNat FU 0 (by omega) (by unfold FU; omega)
theorem op_told {μx μm : Mem} (R : Rel μx μm) {a b : Int} (ha : I32 a) (hb : I32 b) : Step (f_X8_told a b μx) (f_X9_told a b μm) := by
  unfold f_X8_told f_X9_told
  obtain ⟨hn1, hn2, hn3⟩ := np_of R
  rw [m0_def]
  have e7 : m0 μm 30 0 7 = μm 30 0 7 := m0_k _ (by decide)
  by_cases hp : 0 ≤ a ∧ a < μm 30 0 7
  · rw [hasX_t ha hp.1 (by omega) (by omega), isM_t ha hp.1 (by omega) (by omega)]
    obtain ⟨p, rfl⟩ := natOf hp.1
    have hp10 : p < 10 := by omega
    obtain ⟨r1, r2, r3, r4, r5, r6, r7⟩ := rp_of R hp.2
    unfold dt at r1 r2 r3 r4 r5
    dsimp only at r1 r2 r3 r4 r5
    have e34 : m0 μm 34 = μm 34 := m0_tag _ (by decide)
    have e39 : m0 μm 39 = μm 39 := m0_tag _ (by decide)
    simp only [bn_s, w1z, if_false, wr hb, show w32 4 = 4 from rfl, f_X8_refuseNumber, f_X9_refuse]
    have ws : ∀ v, Step (some (-1, st μx 0 0 0 v)) (some (-1, st (m0 μm) 30 0 0 v)) := fun v => ⟨_, _, _, rfl, rfl, Rel_rf R v⟩
    by_cases h1 : b < 0
    · rw [if_pos h1, if_neg (show ¬ b = 0 by omega), if_neg (show ¬ b = 1 by omega), if_neg (show ¬ b = 2 by omega), if_neg (show ¬ b = 3 by omega), if_neg (show ¬ b = 4 by omega)]
      exact ws 5
    · rw [if_neg h1]
      by_cases h2 : b ≤ 4
      · rw [if_pos h2]
        simp (disch := omega) only [gd_inb, ixn, st_nt]
        by_cases g0 : b = 0
        · rw [if_pos g0, if_pos g0, m0_tag _ (by decide)]
          exact Step_mk r1.1 (Rel_o R)
        · rw [if_neg g0, if_neg g0]
          by_cases g1 : b = 1
          · rw [if_pos g1, if_pos g1, sumM hp10 (by rw [e34]; exact r1.2.2) (by rw [e34]; omega), bn_s, e34, e39]
            exact Step_mk r5 (Rel_o R)
          · rw [if_neg g1, if_neg g1]
            by_cases g2 : b = 2
            · rw [if_pos g2, if_pos g2, m0_tag _ (by decide)]
              exact Step_mk r2.1 (Rel_o R)
            · rw [if_neg g2, if_neg g2]
              by_cases g3 : b = 3
              · rw [if_pos g3, if_pos g3, m0_tag _ (by decide), r3.1]
                exact Step_mk rfl (Rel_o R)
              · rw [if_neg g3, if_neg g3, if_pos (show b = 4 by omega), m0_tag _ (by decide)]
                exact Step_mk r4.1 (Rel_o R)
      · rw [if_neg h2, if_neg (show ¬ b = 0 by omega), if_neg (show ¬ b = 1 by omega), if_neg (show ¬ b = 2 by omega), if_neg (show ¬ b = 3 by omega), if_neg (show ¬ b = 4 by omega)]
        exact ws 5
  · rw [hasX_f ha (by omega) (by omega) (by omega), isM_f ha (by omega) (by omega) (by omega)]
    simp only [f_X8_refuseNumber, f_X9_refuse, bn_s, gd_b0, w0z, if_true]
    exact ⟨_, _, _, rfl, rfl, Rel_rf R 2⟩
theorem op_row {μx μm : Mem} (R : Rel μx μm) {a b c : Int} (ha : I32 a) (hb : I32 b) (hc : I32 c) : Step (f_X8_row a b c μx) (f_X9_row a b c μm) := by
  unfold f_X8_row f_X9_row
  obtain ⟨hn1, hn2, hn3⟩ := np_of R
  rw [m0_def]
  have e7 : m0 μm 30 0 7 = μm 30 0 7 := m0_k _ (by decide)
  have ws : ∀ v, Step (some (-1, st μx 0 0 0 v)) (some (-1, st (m0 μm) 30 0 0 v)) := fun v => ⟨_, _, _, rfl, rfl, Rel_rf R v⟩
  by_cases hp : 0 ≤ a ∧ a < μm 30 0 7
  · rw [hasX_t ha hp.1 (by omega) (by omega), isM_t ha hp.1 (by omega) (by omega)]
    obtain ⟨p, rfl⟩ := natOf hp.1
    have hp10 : p < 10 := by omega
    obtain ⟨r1, r2, r3, r4, r5, r6, r7⟩ := rp_of R hp.2
    unfold dt at r1 r6
    dsimp only at r1 r6
    simp (disch := omega) only [bn_s, w1z, if_false, wr hb, wr hc, w32_1, f_X8_refuseNumber, f_X9_refuse, gd_inb, ixn, m0_tag]
    by_cases h1 : b < 0
    · rw [if_pos h1, if_pos h1]; exact ws 2
    · rw [if_neg h1, if_neg h1, r1.1]
      have e : w32 (μm 34 0 p) = μm 34 0 p := w32_id (by omega) (by omega)
      by_cases h2 : b < μm 34 0 p
      · rw [if_pos (show b < w32 (μm 34 0 p) by omega), if_pos (show b < w32 (μm 34 0 p) by omega)]
        by_cases h3 : c < 0
        · rw [if_pos h3, if_pos h3]; exact ws 5
        · rw [if_neg h3, if_neg h3]
          by_cases h4 : c ≤ 1
          · rw [if_pos h4, if_pos h4]
            obtain ⟨q, rfl⟩ := natOf (a := b) (by omega)
            have h6 := r6 q h2
            rw [gd_inb _ (by omega) (by omega) (by omega), gd_inb _ (by omega) (by omega) (by omega), gd_inb _ (by omega) (by omega) (by omega), gd_inb _ (by omega) (by omega) (by omega), show (8 * (p : Int) + q) = ((8 * p + q : Nat) : Int) by omega, ixn (by omega), ixn (by omega), st_nt _ (by decide), st_nt _ (by decide)]
            by_cases h5 : c = 0
            · rw [if_pos h5, if_pos h5]; exact Step_mk h6.1 (Rel_o R)
            · rw [if_neg h5, if_neg h5]; exact Step_mk h6.2.2.2.1 (Rel_o R)
          · rw [if_neg h4, if_neg h4]; exact ws 5
      · rw [if_neg (show ¬ b < w32 (μm 34 0 p) by omega), if_neg (show ¬ b < w32 (μm 34 0 p) by omega)]; exact ws 2
  · rw [hasX_f ha (by omega) (by omega) (by omega), isM_f ha (by omega) (by omega) (by omega)]
    simp only [f_X8_refuseNumber, f_X9_refuse, bn_s, gd_b0, w0z, if_true]
    exact ws 2
