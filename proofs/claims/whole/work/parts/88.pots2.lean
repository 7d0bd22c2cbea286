/-! ROOM, call by call: promise, moves, sure, surest -/
theorem leastX {D : Dt} {x y : Int} : ∀ (n : Nat) (z j : Int) (μ μ' : Mem) (r : Int), f_X6_leastDayAtRisk_L12 x y n z j μ = some (r, μ') → μ' = μ := by
  intro n
  induction n with
  | zero => intro z j μ μ' r h; exact absurd (show (none : Option (Int × Mem)) = some (r, μ') from h) (by intro q; cases q)
  | succ n ih =>
    intro z j μ μ' r h
    rw [f_X6_leastDayAtRisk_L12.eq_2] at h
    split at h
    · exact (inj2 h).2.symm
    · split at h
      · exact (inj2 h).2.symm
      · obtain ⟨-, h⟩ := gd_some h
        split at h
        · exact ih _ _ _ _ _ h
        · exact (inj2 h).2.symm
theorem pot_promise {μx μm : Mem} (R : Rel μx μm) {x y : Int} (hx : I32 x) (hy : I32 y) : ∃ mc ms : Nat, HG_X8_promise mc ms x y μx ∧ ∀ r μ', f_X8_promise x y μx = some (r, μ') → Pot (μx 28 0 0) (μ' 28 0 0) mc ms := by
  obtain ⟨O, W⟩ := RW_OK R
  by_cases g : ¬ w32 x < 0 ∧ ¬ w32 y < w32 x ∧ ¬ w32 y < w32 1 ∧ ¬ w32 1000000 < w32 y
  · obtain ⟨mc, ms, c, μ1, g1, a1, hp, hc⟩ := cases_X R
    refine ⟨mc, ms, fun _ => g1, fun r μ' hf => ?_⟩
    unfold f_X8_promise at hf
    simp only [jn_u, f_X8_refuseNumber, bn_s] at hf
    rw [if_neg g.1, if_neg g.2.1, if_neg g.2.2.1, if_neg g.2.2.2, if_neg (show ¬ w32 1 = 0 by decide), a1, bn_s] at hf
    rcases hc with hc | ⟨hc, hL, F⟩
    · rw [if_neg (by rw [w32_id (by omega) (by omega)]; omega)] at hf
      obtain ⟨-, rfl⟩ := inj2 hf
      rw [st_nt _ (by decide)]; exact hp
    · subst hc
      have F2 : Frs (dt μx) (st μ1 0 0 0 0) := ⟨(dt_st _ (by decide)).trans F.1, by rw [st_nt _ (by decide)]; exact F.2.1, by rw [st_tag _ (by decide), st_tag _ (by decide), st_tag _ (by decide), st_tag _ (by decide)]; exact F.2.2⟩
      obtain ⟨μ2, b1, b2, b3, b4⟩ := gatherAllX O F2
      rw [if_pos w32_0] at hf
      unfold f_X6_leastDayAtRisk at hf
      rw [b1, bn_s] at hf
      obtain ⟨r5, μ6, h5, hf⟩ := bn_some hf
      obtain ⟨-, rfl⟩ := inj2 hf
      rw [leastX (D := dt μx) _ _ _ _ _ _ h5, b3 28 (by decide) (by decide), st_nt _ (by decide)]; exact hp
  · refine ⟨0, 0, fun z => absurd z g, fun r μ' hf => ?_⟩
    unfold f_X8_promise at hf
    simp only [jn_u, f_X8_refuseNumber, bn_s] at hf
    have hX : ∀ z w : Option (Int × Mem), (if w32 x < 0 then w else if w32 y < w32 x then w else if w32 y < w32 1 then w else if w32 1000000 < w32 y then w else z) = w := by
      intro z w
      by_cases k1 : w32 x < 0
      · rw [if_pos k1]
      rw [if_neg k1]
      by_cases k2 : w32 y < w32 x
      · rw [if_pos k2]
      rw [if_neg k2]
      by_cases k3 : w32 y < w32 1
      · rw [if_pos k3]
      rw [if_neg k3]
      by_cases k4 : w32 1000000 < w32 y
      · rw [if_pos k4]
      exact absurd ⟨k1, k2, k3, k4⟩ g
    rw [hX, if_pos w32_0, if_neg (show ¬ w32 5 = 0 by decide)] at hf
    obtain ⟨-, rfl⟩ := inj2 hf
    rw [st_nt _ (by decide)]; exact Pot_refl _
theorem pot_moves {μx μm : Mem} (R : Rel μx μm) {p : Int} (hp' : I32 p) : ∃ mc ms : Nat, HG_X8_moves mc ms p μx ∧ ∀ r μ', f_X8_moves p μx = some (r, μ') → Pot (μx 28 0 0) (μ' 28 0 0) mc ms := by
  obtain ⟨O, W⟩ := RW_OK R
  obtain ⟨hn1, hn2, hn3⟩ := np_of R
  obtain ⟨nd1, nd2⟩ := np_D R
  by_cases hpp : 0 ≤ p ∧ p < μm 30 0 7
  · have hh := hasX_t (μ := μx) hp' hpp.1 (by omega) (by omega)
    obtain ⟨mc, ms, c, μ1, g1, a1, hp, hc⟩ := cases_X R
    refine ⟨mc, ms, fun r μ2 hf _ => ?_, fun r μ' hf => ?_⟩
    · rw [hh] at hf
      obtain ⟨-, rfl⟩ := inj2 hf
      exact g1
    · unfold f_X8_moves at hf
      rw [hh, bn_s] at hf
      simp only [jn_u, f_X8_refuse, bn_s, gd_b0] at hf
      rw [if_neg (show ¬ w32 1 = 0 by decide), a1, bn_s] at hf
      rcases hc with hc | ⟨hc, hL, F⟩
      · rw [if_neg (by rw [w32_id (by omega) (by omega)]; omega)] at hf
        obtain ⟨-, rfl⟩ := inj2 hf
        rw [st_nt _ (by decide)]; exact hp
      · subst hc
        obtain ⟨q, rfl⟩ := natOf hpp.1
        have hcw := cW_le O
        have ht := fr_t F
        obtain ⟨μ4, d1, d2, d3⟩ := firstX O F.1
        obtain ⟨μ5, e1, e2⟩ := movedX_L O (show q < dnp (dt μx) by omega) (cW (dt μx)) FU 0 μ4 (Frs_ext F (fun t q1 q2 q3 _ => d3 t q1 q2 q3)) d2 (by omega) (by unfold FU; omega)
        have ef : ∀ t, t ≠ 11 → t ≠ 12 → t ≠ 13 → t ≠ 14 → μ5 t = μ1 t := fun t q1 q2 q3 q4 => by rw [e2 t q1 q2 q3 q4, d3 t q1 q2 q3]
        have e8 : μ5 7 0 8 = LL (dt μx) := by rw [ef 7 (by decide) (by decide) (by decide) (by decide)]; exact Frs_8 F
        have hs := sm_tot O (f := fun k => if wEnd (dt μx) k q ≤ wEnd (dt μx) k (-1) then 0 else lw (dt μx) k) (Nat.le_refl _) (fun k _ => by have := lw_bd O (k := k); split <;> omega)
        obtain ⟨μ6, t1, t2⟩ := tell28 (μ := μ5) hs.1 hL (by omega) (by omega)
        unfold f_X6_weightMovedBy at hf
        rw [if_pos w32_0, d1, bn_s, show f_X6_weightMovedBy_L12 (q : Int) FU 0 0 μ4 = _ from e1, bn_s, e8, t1, bn_s, gd_b1] at hf
        obtain ⟨-, rfl⟩ := inj2 hf
        rw [t2, ef 28 (by decide) (by decide) (by decide) (by decide)]; exact hp
  · have hh := hasX_f (μ := μx) hp' (by omega) (by omega) (by omega)
    refine ⟨0, 0, fun r μ2 hf z => ?_, fun r μ' hf => ?_⟩
    · rw [hh] at hf
      obtain ⟨rfl, -⟩ := inj2 hf
      exact absurd w32_0 z
    · unfold f_X8_moves at hf
      rw [hh, bn_s] at hf
      simp only [jn_u, f_X8_refuse, bn_s, gd_b0] at hf
      rw [if_pos w32_0, if_neg (show ¬ w32 2 = 0 by decide)] at hf
      obtain ⟨-, rfl⟩ := inj2 hf
      rw [st_nt _ (by decide)]; exact Pot_refl _
theorem pot_sure {μx μm : Mem} (R : Rel μx μm) {p : Int} (hp' : I32 p) : ∃ mc ms : Nat, HG_X8_sure mc ms p μx ∧ ∀ r μ', f_X8_sure p μx = some (r, μ') → Pot (μx 28 0 0) (μ' 28 0 0) mc ms := by
  obtain ⟨O, W⟩ := RW_OK R
  obtain ⟨hn1, hn2, hn3⟩ := np_of R
  obtain ⟨nd1, nd2⟩ := np_D R
  by_cases hpp : 0 ≤ p ∧ p < μm 30 0 7
  · have hh := hasX_t (μ := μx) hp' hpp.1 (by omega) (by omega)
    obtain ⟨mc, ms, c, μ1, g1, a1, hp, hc⟩ := cases_X R
    refine ⟨mc, ms, fun r μ2 hf _ => ?_, fun r μ' hf => ?_⟩
    · rw [hh] at hf
      obtain ⟨-, rfl⟩ := inj2 hf
      exact g1
    · unfold f_X8_sure at hf
      rw [hh, bn_s] at hf
      simp only [jn_u, f_X8_refuse, bn_s, gd_b0] at hf
      rw [if_neg (show ¬ w32 1 = 0 by decide), a1, bn_s] at hf
      rcases hc with hc | ⟨hc, hL, F⟩
      · rw [if_neg (by rw [w32_id (by omega) (by omega)]; omega)] at hf
        obtain ⟨-, rfl⟩ := inj2 hf
        rw [st_nt _ (by decide)]; exact hp
      · subst hc
        obtain ⟨q, rfl⟩ := natOf hpp.1
        have hq : q < dnp (dt μx) := by omega
        have ht := fr_t F
        have hLb := LL_bd O
        obtain ⟨μ2, b1, b2, b3, b4, b5, b6⟩ := restX O hq F
        rw [if_pos w32_0, b1, bn_s] at hf
        cases hok : (fk (dt μx) q (drw (dt μx) q)).2.2 with
        | false =>
          rw [hok, if_neg (c := (false = true)) (by decide), if_pos w32_0] at hf
          obtain ⟨-, rfl⟩ := inj2 hf
          rw [st_nt _ (by decide), b3 28 (by decide) (by decide) (by decide)]; exact hp
        | true =>
          obtain ⟨e1, e2⟩ := b6 hok
          obtain ⟨f1, f2⟩ := fk_A O (fr_s F) ht hq hok
          have hm : 0 < (fk (dt μx) q (drw (dt μx) q)).2.1 * LL (dt μx) ∧ (fk (dt μx) q (drw (dt μx) q)).2.1 * LL (dt μx) ≤ 1000000 * 20000 := ⟨Int.mul_pos (by omega) (by omega), mul_two_le f2.2 (by omega) (by omega) hLb.1⟩
          obtain ⟨μ3, t1, t2⟩ := tell28 (μ := μ2) f1.1 hm.1 (by omega) (by omega)
          rw [hok, if_pos (c := (true = true)) rfl, if_neg (show ¬ w32 1 = 0 by decide), e1, e2, Frs_8 b2, t1, bn_s, gd_b1] at hf
          obtain ⟨-, rfl⟩ := inj2 hf
          rw [t2, b3 28 (by decide) (by decide) (by decide)]; exact hp
  · have hh := hasX_f (μ := μx) hp' (by omega) (by omega) (by omega)
    refine ⟨0, 0, fun r μ2 hf z => ?_, fun r μ' hf => ?_⟩
    · rw [hh] at hf
      obtain ⟨rfl, -⟩ := inj2 hf
      exact absurd w32_0 z
    · unfold f_X8_sure at hf
      rw [hh, bn_s] at hf
      simp only [jn_u, f_X8_refuse, bn_s, gd_b0] at hf
      rw [if_pos w32_0, if_neg (show ¬ w32 2 = 0 by decide)] at hf
      obtain ⟨-, rfl⟩ := inj2 hf
      rw [st_nt _ (by decide)]; exact Pot_refl _
theorem less28 {i j : Nat} {μ μ' : Mem} {r : Int} (h : f_X0_isLessThan i j μ = some (r, μ')) : μ' = μ := by
  unfold f_X0_isLessThan at h
  split at h
  · exact (inj2 h).2.symm
  · split at h
    · obtain ⟨-, h⟩ := gd_some h
      obtain ⟨-, h⟩ := gd_some h
      split at h
      · obtain ⟨-, h⟩ := gd_some h
        obtain ⟨-, h⟩ := gd_some h
        split at h
        · exact (inj2 h).2.symm
        · exact (inj2 h).2.symm
      · split at h
        · exact (inj2 h).2.symm
        · exact (inj2 h).2.symm
    · exact (inj2 h).2.symm
theorem surest28 {D : Dt} (O : OKD D) : ∀ (d n j : Nat) (best : Int) (μx μ' : Mem) (r : Int), d + j = dnp D → Frs D μx → f_X8_surest_L33 n best (j : Int) μx = some (r, μ') → μ' 28 = μx 28 := by
  have h10 := ok_np O
  intro d
  induction d with
  | zero =>
    intro n j best μx μ' r hd F h
    cases n with
    | zero => exact absurd (show (none : Option (Int × Mem)) = some (r, μ') from h) (by intro q; cases q)
    | succ n =>
      have hj : j = dnp D := by omega
      subst hj
      rw [f_X8_surest_L33.eq_2, wx_np O F.1, if_pos (Int.le_refl _)] at h
      obtain ⟨-, rfl⟩ := inj2 h
      exact st_tag _ (by decide)
  | succ d ih =>
    intro n j best μx μ' r hd F h
    cases n with
    | zero => exact absurd (show (none : Option (Int × Mem)) = some (r, μ') from h) (by intro q; cases q)
    | succ n =>
      have hjp : j < dnp D := by omega
      have ht := fr_t F
      obtain ⟨μ2, b1, b2, b3, b4, b5, b6⟩ := restX O hjp F
      have e28 : μ2 28 = μx 28 := b3 28 (by decide) (by decide) (by decide)
      rw [f_X8_surest_L33.eq_2, wx_np O F.1, if_neg (show ¬ w32 (dnp D : Int) ≤ w32 (j : Int) by rw [w32n (by omega), w32n (by omega)]; omega), b1, bn_s] at h
      simp only [jn_u, f_X8_refuseNumber, bn_s] at h
      cases hok : (fk D j (drw D j)).2.2 with
      | false =>
        rw [hok, if_neg (c := (false = true)) (by decide), if_pos w32_0] at h
        obtain ⟨-, rfl⟩ := inj2 h
        rw [st_tag _ (by decide)]; exact e28
      | true =>
        rw [hok, if_pos (c := (true = true)) rfl, if_neg (show ¬ w32 1 = 0 by decide)] at h
        obtain ⟨e1, e2⟩ := b6 hok
        obtain ⟨f1, f2⟩ := fk_A O (fr_s F) ht hjp hok
        have take : bn (f_X0_become 2 (μ2 1 1 0) (μ2 1 1 1) μ2) (fun r16 μ17 => f_X8_surest_L33 n (j : Int) ((j : Int) + 1) μ17) = some (r, μ') → μ' 28 = μx 28 := by
          intro h
          rw [e1, e2, becX f1.1 (by omega) (by omega) (by omega), bn_s, show ((j : Int) + 1) = ((j + 1 : Nat) : Int) by omega] at h
          rw [ih n (j + 1) _ _ _ _ (by omega) ⟨(dt_st _ (by decide)).trans ((dt_st _ (by decide)).trans b2.1), by rw [st_nt _ (by decide), st_nt _ (by decide)]; exact b2.2.1, by simp (disch := decide) only [st_tag]; exact b2.2.2⟩ h, st_tag _ (by decide), st_tag _ (by decide)]
          exact e28
        split at h
        · exact take h
        · obtain ⟨r21, μ22, h21, h22⟩ := bn_some h
          have em := less28 h21
          rw [em] at h22
          split at h22
          · rw [show ((j : Int) + 1) = ((j + 1 : Nat) : Int) by omega] at h22
            rw [ih n (j + 1) _ _ _ _ (by omega) b2 h22]; exact e28
          · exact take h22
theorem pot_surest {μx μm : Mem} (R : Rel μx μm) : ∃ mc ms : Nat, HG_X8_surest mc ms μx ∧ ∀ r μ', f_X8_surest μx = some (r, μ') → Pot (μx 28 0 0) (μ' 28 0 0) mc ms := by
  obtain ⟨O, W⟩ := RW_OK R
  by_cases h0 : w32 (μx 15 0 3) ≤ 0
  · refine ⟨0, 0, fun z => absurd h0 z, fun r μ' hf => ?_⟩
    unfold f_X8_surest at hf
    simp only [jn_u, f_X8_refuseNumber, bn_s] at hf
    rw [if_pos h0, if_neg (show ¬ w32 2 = 0 by decide)] at hf
    obtain ⟨-, rfl⟩ := inj2 hf
    rw [st_nt _ (by decide)]; exact Pot_refl _
  · obtain ⟨mc, ms, c, μ1, g1, a1, hp, hc⟩ := cases_X R
    refine ⟨mc, ms, fun _ => g1, fun r μ' hf => ?_⟩
    unfold f_X8_surest at hf
    simp only [jn_u, f_X8_refuseNumber, bn_s] at hf
    rw [if_neg h0, a1, bn_s] at hf
    rcases hc with hc | ⟨hc, hL, F⟩
    · rw [if_neg (by rw [w32_id (by omega) (by omega)]; omega)] at hf
      obtain ⟨-, rfl⟩ := inj2 hf
      rw [st_nt _ (by decide)]; exact hp
    · subst hc
      rw [if_pos w32_0] at hf
      rw [surest28 O (dnp (dt μx)) FU 0 (-1) μ1 μ' r (by omega) F hf]; exact hp
