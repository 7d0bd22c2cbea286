/-! SUREST -/
theorem red_cmp {A B a b : Int} (hA : 0 ≤ A) (hB : 0 < B) : (a * redD A B < redN A B * b) ↔ (a * B < A * b) := by
  have hg := egcd_pos (a := A) hB
  obtain ⟨g, hge⟩ : ∃ g, g = egcd A B := ⟨_, rfl⟩
  have t1 : redN A B * g = A := by
    unfold redN; rw [← hge]; exact Int.tdiv_mul_cancel (by rw [hge]; exact egcd_dl _ _)
  have t2 : redD A B * g = B := by
    unfold redD; rw [← hge]; exact Int.tdiv_mul_cancel (by rw [hge]; exact egcd_dr _ _)
  rw [← hge] at hg
  have e1 : a * redD A B * g = a * B := by rw [Int.mul_assoc, t2]
  have e2 : redN A B * b * g = A * b := by rw [Int.mul_right_comm, t1]
  constructor
  · intro h
    have := Int.mul_lt_mul_of_pos_right h hg
    rw [e1, e2] at this; exact this
  · intro h
    rw [← e1, ← e2] at h
    exact Int.lt_of_mul_lt_mul_right h (by omega)
theorem surest_L {μm0 : Mem} {D : Dt} (O : OKD D) (hS : nStuck D) (ht : tot D ≤ 20000) (hL0 : ¬ LL D ≤ 0) : ∀ (d n j : Nat) (best A B : Int) (μx μm : Mem), d + j = dnp D → d < n → Frs D μx → Rel μx μm0 → keepM (m0 μm0) μm → WM D μm → (best = -1 ∨ ((0 ≤ best ∧ best ≤ 9) ∧ (μx 1 2 0 = redN A B ∧ μx 1 2 1 = redD A B) ∧ (0 ≤ A ∧ A ≤ 60000000000000) ∧ 1 ≤ B ∧ B ≤ 1000000)) →
    Step (f_X8_surest_L33 n best (j : Int) μx) (f_X9_surest_L33 n best A B (j : Int) μm) := by
  have h10 := ok_np O
  intro d
  induction d with
  | zero =>
    intro n j best A B μx μm hd hn F R hk W hb
    obtain ⟨n, rfl⟩ : ∃ q, n = q + 1 := ⟨n - 1, by omega⟩
    have hj : j = dnp D := by omega
    subst hj
    rw [f_X8_surest_L33.eq_2, f_X9_surest_L33.eq_2, wx_np O F.1, wm_np W, if_pos (Int.le_refl _), if_pos (Int.le_refl _)]
    exact Step_mk rfl (Rel_okk R hk)
  | succ d ih =>
    intro n j best A B μx μm hd hn F R hk W hb
    obtain ⟨n, rfl⟩ : ∃ q, n = q + 1 := ⟨n - 1, by omega⟩
    have hjp : j < dnp D := by omega
    obtain ⟨μ2, b1, b2, b3, b4, b5, b6⟩ := restX O hjp F
    obtain ⟨μ3, k1, k2, -, -, -, k6⟩ := knownM O hjp W
    obtain ⟨c1, c2⟩ := k6 hS ht hL0
    have R2 := Rel_rest R b3 (fun i hi _ => b4 i hi) b5
    have hk2 : keepM (m0 μm0) μ3 := ⟨fun t q1 q2 => by rw [k1.1 t q1 q2, hk.1 t q1 q2], fun s hs => by rw [k1.2 s hs, hk.2 s hs]⟩
    have hlt : ¬ w32 (dnp D : Int) ≤ w32 (j : Int) := by rw [w32n (by omega), w32n (by omega)]; omega
    rw [f_X8_surest_L33.eq_2, f_X9_surest_L33.eq_2, wx_np O F.1, wm_np W, if_neg hlt, if_neg hlt, b1, c1, bn_s, bn_s]
    simp only [jn_u, f_X8_refuseNumber, f_X9_refuse, bn_s]
    cases hok : (fk D j (drw D j)).2.2 with
    | false =>
      rw [if_neg (c := (false = true)) (by decide), if_neg (c := (false = true)) (by decide), if_pos w32_0, if_neg (show ¬ w32 9 ≤ 0 by decide)]
      exact Step_mk rfl (Rel_rfk R2 hk2 9)
    | true =>
      rw [if_pos (c := (true = true)) rfl, if_pos (c := (true = true)) rfl, if_neg (show ¬ w32 1 = 0 by decide), if_pos (show w32 0 ≤ 0 by decide)]
      obtain ⟨d1, d2, d3⟩ := c2 hok
      obtain ⟨e1, e2⟩ := b6 hok
      obtain ⟨f1, f2⟩ := fk_A O hS ht hjp hok
      obtain ⟨a1, ha1⟩ : ∃ v, v = (fk D j (drw D j)).1 := ⟨_, rfl⟩
      obtain ⟨a2, ha2⟩ : ∃ v, v = (fk D j (drw D j)).2.1 := ⟨_, rfl⟩
      rw [← ha1] at d1 e1 f1
      rw [← ha2] at d2 e2 f2
      have hrd := red_bd f1.1 (show 0 < a2 by omega)
      -- taken anew
      have take : Step (bn (f_X0_become 2 (μ2 1 1 0) (μ2 1 1 1) μ2) (fun r16 μ17 => f_X8_surest_L33 n (j : Int) ((j : Int) + 1) μ17)) (f_X9_surest_L33 n (j : Int) (μ3 30 0 34) (μ3 30 0 35) ((j : Int) + 1) μ3) := by
        rw [e1, e2, d1, d2, becX f1.1 (by omega) (by omega) (by omega), bn_s, show ((j : Int) + 1) = ((j + 1 : Nat) : Int) by omega]
        refine ih n (j + 1) (j : Int) a1 a2 _ μ3 (by omega) (by omega) ⟨(dt_st _ (by decide)).trans ((dt_st _ (by decide)).trans b2.1), by rw [st_nt _ (by decide), st_nt _ (by decide)]; exact b2.2.1, by simp (disch := decide) only [st_tag]; exact b2.2.2⟩ ?_ hk2 k2 (Or.inr ⟨by omega, ⟨by rw [st_nk _ (by decide), st_eq], by rw [st_eq]⟩, f1, f2⟩)
        exact Rel_rest R2 (fun t q1 _ _ => by rw [st_tag _ q1, st_tag _ q1]) (fun i _ q2 => by rw [st_idx _ q2, st_idx _ q2]) (fun s _ => by rw [st_nt _ (by decide), st_nt _ (by decide)])
      rcases hb with hb | ⟨hb1, hb2, hb3, hb4⟩
      · rw [if_pos (show w32 best = w32 (-1) by rw [hb]), if_pos (show w32 best < 0 by rw [hb]; decide)]
        exact take
      · rw [if_neg (show ¬ w32 best = w32 (-1) by rw [w32_id (by omega) (by omega), show w32 (-1) = -1 from rfl]; omega), if_neg (show ¬ w32 best < 0 by rw [w32_id (by omega) (by omega)]; omega)]
        have hrd2 := red_bd hb3.1 (show 0 < B by omega)
        have i1 : μ2 1 2 = μx 1 2 := b4 2 (by decide)
        have j1 : μ2 1 2 0 = redN A B := by rw [i1]; exact hb2.1
        have j2 : μ2 1 2 1 = redD A B := by rw [i1]; exact hb2.2
        rw [lessX (i := 1) (j := 2) e1 e2 j1 j2 (by omega) f2 (by omega) (by omega), bn_s, d1, d2, lessM (by omega) f2 (by omega) hb4, bn_s]
        have hcmp := red_cmp (A := A) (B := B) (a := a1) (b := a2) hb3.1 (by omega)
        by_cases z : a1 * B < A * a2
        · rw [if_pos (hcmp.2 z), if_pos z, if_neg (show ¬ w32 1 = 0 by decide), if_neg (show ¬ w32 1 = 0 by decide)]
          exact take
        · rw [if_neg (fun y => z (hcmp.1 y)), if_neg z, if_pos w32_0, if_pos w32_0, show ((j : Int) + 1) = ((j + 1 : Nat) : Int) by omega]
          exact ih n (j + 1) best A B μ2 μ3 (by omega) (by omega) b2 R2 hk2 k2 (Or.inr ⟨hb1, by rw [i1]; exact hb2, hb3, hb4⟩)
theorem op_surest {μx μm : Mem} (R : Rel μx μm) : Step (f_X8_surest μx) (f_X9_surest μm) := by
  unfold f_X8_surest f_X9_surest
  rw [m0_def]
  obtain ⟨hn1, hn2, hn3⟩ := np_of R
  have e7 : m0 μm 30 0 7 = μm 30 0 7 := m0_k _ (by decide)
  obtain ⟨O, W⟩ := RW_OK R
  obtain ⟨nd1, nd2⟩ := np_D R
  have W0 := WM_m0 W
  have h10 := ok_np O
  simp only [jn_u, f_X8_refuseNumber, f_X9_refuse, bn_s]
  rw [e7, ← nd1, ← nd2, w32n (by omega)]
  by_cases hz : dnp (dt μx) = 0
  · rw [if_pos (show (dnp (dt μx) : Int) ≤ 0 by omega), if_pos (show (dnp (dt μx) : Int) = 0 by omega), if_neg (show ¬ w32 2 = 0 by decide)]
    exact Step_mk rfl (Rel_rf R 2)
  · rw [if_neg (show ¬ (dnp (dt μx) : Int) ≤ 0 by omega), if_neg (show ¬ (dnp (dt μx) : Int) = 0 by omega)]
    have hX := troubleX O rfl R.2.2.2.2.2
    have hp0 : 0 < dnp (dt μx) := by omega
    -- a bar shows itself at the first part
    have first : ∀ c (μ7 : Mem), f_X9_known ((0 : Nat) : Int) (m0 μm) = some (c, μ7) → 0 < c → c ≤ 100 → f_X9_surest_L33 FU (-1) 0 1 0 (m0 μm) = some (-1, st μ7 30 0 0 c) := by
      intro c μ7 hc h1 h2
      rw [show FU = 999999 + 1 from rfl, f_X9_surest_L33.eq_2, wm_np W0, if_neg (show ¬ w32 (dnp (dt μx) : Int) ≤ w32 0 by rw [w32n (by omega), w32_0]; omega), show f_X9_known 0 (m0 μm) = _ from hc, bn_s, if_neg (by rw [w32_id (by omega) (by omega)]; omega)]
      simp only [f_X9_refuse, bn_s]
    obtain ⟨μm', k1, k2, k3, k4, k5, k6⟩ := knownM O hp0 W0
    by_cases h1 : nStuck (dt μx)
    · by_cases h2 : tot (dt μx) ≤ 20000
      · obtain ⟨μx', a1, a2, a3⟩ := hX.2.2 h1 h2
        have R' : Rel μx' μm := Rel_x R a2.1 (fun t ht => a3 t (by omega) (by omega) (by omega) (by omega) (by omega) (by omega) (by omega) (by omega)) (by rw [a3 1 (by decide) (by decide) (by decide) (by decide) (by decide) (by decide) (by decide) (by decide)]) (fun s _ => by rw [a3 1 (by decide) (by decide) (by decide) (by decide) (by decide) (by decide) (by decide) (by decide)]) a2.2.2
        rw [a1, bn_s]
        by_cases z : LL (dt μx) ≤ 0
        · rw [if_pos z, if_neg (show ¬ w32 10 = 0 by decide), first 10 μm' (k5 h1 h2 z) (by decide) (by decide)]
          exact Step_mk rfl (Rel_rfk R' k1 10)
        · rw [if_neg z, if_pos w32_0]
          exact surest_L O h1 h2 z (dnp (dt μx)) FU 0 (-1) 0 1 μx' (m0 μm) (by omega) (by unfold FU; omega) a2 R' (keepM_refl _) W0 (Or.inl rfl)
      · rw [hX.2.1 h1 h2, bn_s, if_neg (show ¬ w32 9 = 0 by decide), first 9 μm' (k4 h1 h2) (by decide) (by decide)]
        exact Step_mk rfl (Rel_rfk R k1 9)
    · rw [hX.1 h1, bn_s, if_neg (show ¬ w32 8 = 0 by decide), first 8 μm' (k3 h1) (by decide) (by decide)]
      exact Step_mk rfl (Rel_rfk R k1 8)
