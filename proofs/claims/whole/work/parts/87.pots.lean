/-! ROOM, call by call -/
theorem inj2 {r r' : Int} {μ μ' : Mem} (h : some (r, μ) = some (r', μ')) : r = r' ∧ μ = μ' := Prod.mk.inj (Option.some.inj h)
theorem tell28 {μ : Mem} {a b : Int} (ha : 0 ≤ a) (hb : 0 < b) (ha2 : a ≤ 9223372036854775807) (hb2 : b ≤ 9223372036854775807) : ∃ μ', f_X8_tell a b μ = some (1, μ') ∧ μ' 28 = μ 28 := by
  unfold f_X8_tell
  rw [becX ha hb ha2 hb2]
  simp only [bn_s, f_X8_well, gd_b1]
  exact ⟨_, rfl, by rw [st_tag _ (by decide), st_tag _ (by decide), st_tag _ (by decide)]⟩
theorem cases_X {μx μm : Mem} (R : Rel μx μm) : ∃ (mc ms : Nat) (c : Int) (μ1 : Mem), HG_X8_chanceTrouble mc ms μx ∧ f_X8_chanceTrouble μx = some (c, μ1) ∧ Pot (μx 28 0 0) (μ1 28 0 0) mc ms ∧ ((c = 8 ∨ c = 9 ∨ c = 10) ∨ (c = 0 ∧ 0 < LL (dt μx) ∧ Frs (dt μx) μ1)) := by
  obtain ⟨O, W⟩ := RW_OK R
  obtain ⟨c, μ1, μm', a1, -, -, -, -, a6⟩ := chance_step R (a := -1) (cp := -1) (cr := 0) (by omega) (by omega) (by omega)
  obtain ⟨mc, ms, g1, g2⟩ := pot_chance O rfl R.2.2.2.2.2
  refine ⟨mc, ms, c, μ1, g1, a1, g2 _ _ a1, ?_⟩
  rcases a6 with h | ⟨h1, -, -, h2, h3, -⟩
  · exact Or.inl h
  · exact Or.inr ⟨h1, h2, h3⟩
theorem pot_ends {μx μm : Mem} (R : Rel μx μm) {a : Int} (ha : I32 a) : ∃ mc ms : Nat, HG_X8_ends mc ms a μx ∧ ∀ r μ', f_X8_ends a μx = some (r, μ') → Pot (μx 28 0 0) (μ' 28 0 0) mc ms := by
  obtain ⟨O, W⟩ := RW_OK R
  by_cases h0 : 0 ≤ w32 a
  · obtain ⟨mc, ms, c, μ1, g1, a1, hp, hc⟩ := cases_X R
    refine ⟨mc, ms, fun _ => g1, fun r μ' hf => ?_⟩
    unfold f_X8_ends at hf
    simp only [jn_u, f_X8_refuse, bn_s, gd_b0] at hf
    rw [if_pos h0, a1, bn_s] at hf
    rcases hc with hc | ⟨hc, hL, F⟩
    · rw [if_neg (by rw [w32_id (by omega) (by omega)]; omega)] at hf
      obtain ⟨-, rfl⟩ := inj2 hf
      rw [st_nt _ (by decide)]; exact hp
    · subst hc
      have hs := sm_tot O (f := fun k => if wEnd (dt μx) k (-1) ≤ a then lw (dt μx) k else 0) (Nat.le_refl _) (fun k _ => by have := lw_bd O (k := k); split <;> omega)
      have ht := fr_t F
      obtain ⟨μ2, t1, t2⟩ := tell28 (μ := μ1) hs.1 hL (by omega) (by omega)
      rw [if_pos w32_0, byX O F ha, bn_s, Frs_8 F, t1, bn_s, gd_b1] at hf
      obtain ⟨-, rfl⟩ := inj2 hf
      rw [t2]; exact hp
  · refine ⟨0, 0, fun z => absurd z h0, fun r μ' hf => ?_⟩
    unfold f_X8_ends at hf
    simp only [jn_u, f_X8_refuse, bn_s, gd_b0] at hf
    rw [if_neg h0, if_neg (show ¬ w32 5 = 0 by decide)] at hf
    obtain ⟨-, rfl⟩ := inj2 hf
    rw [st_nt _ (by decide)]; exact Pot_refl _
theorem pot_done {μx μm : Mem} (R : Rel μx μm) {p a : Int} (hp' : I32 p) (ha : I32 a) : ∃ mc ms : Nat, HG_X8_done mc ms p a μx ∧ ∀ r μ', f_X8_done p a μx = some (r, μ') → Pot (μx 28 0 0) (μ' 28 0 0) mc ms := by
  obtain ⟨O, W⟩ := RW_OK R
  obtain ⟨hn1, hn2, hn3⟩ := np_of R
  obtain ⟨nd1, nd2⟩ := np_D R
  by_cases hpp : 0 ≤ p ∧ p < μm 30 0 7
  · have hh := hasX_t (μ := μx) hp' hpp.1 (by omega) (by omega)
    by_cases h0 : 0 ≤ w32 a
    · obtain ⟨mc, ms, c, μ1, g1, a1, hp, hc⟩ := cases_X R
      refine ⟨mc, ms, fun r μ2 hf _ _ => ?_, fun r μ' hf => ?_⟩
      · rw [hh] at hf
        obtain ⟨-, rfl⟩ := inj2 hf
        exact g1
      · unfold f_X8_done at hf
        rw [hh, bn_s, if_neg (show ¬ w32 1 = 0 by decide)] at hf
        simp only [jn_u, f_X8_refuse, bn_s, gd_b0] at hf
        rw [if_pos h0, a1, bn_s] at hf
        rcases hc with hc | ⟨hc, hL, F⟩
        · rw [if_neg (by rw [w32_id (by omega) (by omega)]; omega)] at hf
          obtain ⟨-, rfl⟩ := inj2 hf
          rw [st_nt _ (by decide)]; exact hp
        · subst hc
          obtain ⟨q, rfl⟩ := natOf hpp.1
          have hs := sm_tot O (f := fun k => if wFin (dt μx) k (-1) q ≤ a then lw (dt μx) k else 0) (Nat.le_refl _) (fun k _ => by have := lw_bd O (k := k); split <;> omega)
          have ht := fr_t F
          obtain ⟨μ2, c1, c2⟩ := withX O (show q < dnp (dt μx) by omega) ha F
          have e8 : μ2 7 0 8 = LL (dt μx) := by rw [c2 7 (by decide) (by decide) (by decide) (by decide)]; exact Frs_8 F
          obtain ⟨μ3, t1, t2⟩ := tell28 (μ := μ2) hs.1 hL (by omega) (by omega)
          rw [if_pos w32_0, c1, bn_s, e8, t1, bn_s, gd_b1] at hf
          obtain ⟨-, rfl⟩ := inj2 hf
          rw [t2, c2 28 (by decide) (by decide) (by decide) (by decide)]; exact hp
    · refine ⟨0, 0, fun r μ2 _ _ z => absurd z h0, fun r μ' hf => ?_⟩
      unfold f_X8_done at hf
      rw [hh, bn_s, if_neg (show ¬ w32 1 = 0 by decide)] at hf
      simp only [jn_u, f_X8_refuse, bn_s, gd_b0] at hf
      rw [if_neg h0, if_neg (show ¬ w32 5 = 0 by decide)] at hf
      obtain ⟨-, rfl⟩ := inj2 hf
      rw [st_nt _ (by decide)]; exact Pot_refl _
  · have hh := hasX_f (μ := μx) hp' (by omega) (by omega) (by omega)
    refine ⟨0, 0, fun r μ2 hf z => ?_, fun r μ' hf => ?_⟩
    · rw [hh] at hf
      obtain ⟨rfl, -⟩ := inj2 hf
      exact absurd w32_0 z
    · unfold f_X8_done at hf
      rw [hh, bn_s, if_pos w32_0] at hf
      simp only [f_X8_refuse, bn_s, gd_b0] at hf
      obtain ⟨-, rfl⟩ := inj2 hf
      rw [st_nt _ (by decide)]; exact Pot_refl _
theorem pot_mean {μx μm : Mem} (R : Rel μx μm) : ∃ mc ms : Nat, HG_X8_mean mc ms μx ∧ ∀ r μ', f_X8_mean μx = some (r, μ') → Pot (μx 28 0 0) (μ' 28 0 0) mc ms := by
  obtain ⟨O, W⟩ := RW_OK R
  obtain ⟨mc, ms, c, μ1, g1, a1, hp, hc⟩ := cases_X R
  refine ⟨mc, ms, g1, fun r μ' hf => ?_⟩
  unfold f_X8_mean at hf
  simp only [f_X8_refuse, bn_s, gd_b0] at hf
  rw [a1, bn_s] at hf
  rcases hc with hc | ⟨hc, hL, F⟩
  · rw [if_neg (by rw [w32_id (by omega) (by omega)]; omega)] at hf
    obtain ⟨-, rfl⟩ := inj2 hf
    rw [st_nt _ (by decide)]; exact hp
  · subst hc
    have ht := fr_t F
    have hLb := LL_bd O
    have hs1 : 0 ≤ sm (fun k => wEnd (dt μx) k (-1) * lw (dt μx) k) (cW (dt μx)) := sm_nn (fun k _ => Int.mul_nonneg (wEnd_bd O).1 (lw_bd O).1)
    have hs2 : sm (fun k => wEnd (dt μx) k (-1) * lw (dt μx) k) (cW (dt μx)) ≤ 4950 * LL (dt μx) := by
      have := sm_le (f := fun k => wEnd (dt μx) k (-1) * lw (dt μx) k) (g := fun k => 4950 * lw (dt μx) k) (cW (dt μx)) (fun k _ => by
        have hb := wEnd_bd O (k := k) (sl := -1)
        rw [if_neg (by decide)] at hb
        exact Int.mul_le_mul_of_nonneg_right (by omega) (lw_bd O).1)
      rw [sm_cmull] at this
      exact this
    obtain ⟨μ2, t1, t2⟩ := tell28 (μ := μ1) hs1 hL (by omega) (by omega)
    rw [if_pos w32_0, meanX O F, bn_s, Frs_8 F, t1, bn_s, gd_b1] at hf
    obtain ⟨-, rfl⟩ := inj2 hf
    rw [t2]; exact hp
theorem pot_spread {μx μm : Mem} (R : Rel μx μm) : ∃ mc ms : Nat, HG_X8_spread mc ms μx ∧ ∀ r μ', f_X8_spread μx = some (r, μ') → Pot (μx 28 0 0) (μ' 28 0 0) mc ms := by
  obtain ⟨O, W⟩ := RW_OK R
  obtain ⟨mc, ms, c, μ1, g1, a1, hp, hc⟩ := cases_X R
  refine ⟨mc, ms, g1, fun r μ' hf => ?_⟩
  unfold f_X8_spread at hf
  simp only [f_X8_refuse, bn_s, gd_b0] at hf
  rw [a1, bn_s] at hf
  rcases hc with hc | ⟨hc, hL, F⟩
  · rw [if_neg (by rw [w32_id (by omega) (by omega)]; omega)] at hf
    obtain ⟨-, rfl⟩ := inj2 hf
    rw [st_nt _ (by decide)]; exact hp
  · subst hc
    have ht := fr_t F
    have hLb := LL_bd O
    have hb := apt_bd O (fr_s F) (cp := -1) (cr := 0)
    rw [gat_all] at hb
    have hq : 1 ≤ LL (dt μx) * LL (dt μx) ∧ LL (dt μx) * LL (dt μx) ≤ 20000 * 20000 := ⟨by have := le_mul1 (show 0 ≤ LL (dt μx) by omega) (show 1 ≤ LL (dt μx) by omega); omega, mul_two_le (by omega) (by omega) hLb.1 hLb.1⟩
    obtain ⟨μ2, b1, b2, b3, b4⟩ := gatherAllX O F
    obtain ⟨μ3, t1, t2⟩ := tell28 (μ := μ2) hb.1 (show 0 < LL (dt μx) * LL (dt μx) by omega) (by omega) (by omega)
    rw [if_pos w32_0, b1, bn_s, apartX O b2, bn_s, Frs_8 b2.1, t1, bn_s, gd_b1] at hf
    obtain ⟨-, rfl⟩ := inj2 hf
    rw [t2, b3 28 (by decide) (by decide)]; exact hp
