/-! SURE -/
theorem restX {D : Dt} (O : OKD D) {p : Nat} (hp : p < dnp D) {μ : Mem} (F : Frs D μ) : ∃ μ', f_X6_sumRest (p : Int) 1 μ = some (if (fk D p (drw D p)).2.2 then 1 else 0, μ') ∧ Frs D μ' ∧ (∀ t, t ≠ 1 → t ≠ 7 → t ≠ 8 → μ' t = μ t) ∧ (∀ i, i ≠ 1 → μ' 1 i = μ 1 i) ∧ (∀ s, s ≠ 9 → μ' 7 0 s = μ 7 0 s) ∧ ((fk D p (drw D p)).2.2 = true → μ' 1 1 0 = (fk D p (drw D p)).1 ∧ μ' 1 1 1 = (fk D p (drw D p)).2.1) := by
  have hcw := cW_le O
  have ht := fr_t F
  have hS := fr_s F
  have h10 := ok_np O
  have hrw := ok_rw O hp
  have hLL := LL_bd O
  have wm : w64 1000000 = 1000000 := rfl
  have L : ∀ (d n r : Nat) (μ1 : Mem), d + r = drw D p → d < n → Frs D μ1 → (fk D p r).2.2 = true → μ1 1 1 0 = (fk D p r).1 → μ1 1 1 1 = (fk D p r).2.1 → ∃ μ', f_X6_sumRest_L8 (p : Int) 1 n (r : Int) μ1 = some (if (fk D p (drw D p)).2.2 then 1 else 0, μ') ∧ Frs D μ' ∧ (∀ t, t ≠ 1 → t ≠ 7 → t ≠ 8 → μ' t = μ1 t) ∧ (∀ i, i ≠ 1 → μ' 1 i = μ1 1 i) ∧ (∀ s, s ≠ 9 → μ' 7 0 s = μ1 7 0 s) ∧ ((fk D p (drw D p)).2.2 = true → μ' 1 1 0 = (fk D p (drw D p)).1 ∧ μ' 1 1 1 = (fk D p (drw D p)).2.1) := by
    intro d
    induction d with
    | zero =>
      intro n r μ1 hd hn F1 hok h0 h1
      obtain ⟨n, rfl⟩ : ∃ q, n = q + 1 := ⟨n - 1, by omega⟩
      have hr : r = drw D p := by omega
      subst hr
      refine ⟨μ1, ?_, F1, fun t _ _ _ => rfl, fun i _ => rfl, fun s _ => rfl, fun _ => ⟨h0, h1⟩⟩
      rw [f_X6_sumRest_L8.eq_2, gd_inb _ (by omega) (by omega) (by omega), ixn (by omega), wx_rw O F1.1 hp, if_pos (Int.le_refl _), hok]
      rfl
    | succ d ih =>
      intro n r μ1 hd hn F1 hok h0 h1
      obtain ⟨n, rfl⟩ : ∃ q, n = q + 1 := ⟨n - 1, by omega⟩
      obtain ⟨μ2, a1, a2, a3, a4⟩ := gatherRowX O (r := r) hp (by omega) F1
      have hg9 : μ2 7 0 9 = gat D p r := a2.2.2
      have hG := gat_nn O (cp := (p : Int)) (cr := (r : Int))
      have hGL := (bel_bd O hS (cp := (p : Int)) (cr := (r : Int)) (i := 0)).2.2
      rw [f_X6_sumRest_L8.eq_2, gd_inb _ (by omega) (by omega) (by omega), ixn (by omega), wx_rw O F1.1 hp, if_neg (show ¬ w32 (drw D p : Int) ≤ w32 (r : Int) by rw [w32n (by omega), w32n (by omega)]; omega), a1, bn_s]
      simp only [jn_u]
      rw [hg9, w64_id (x := gat D p r) (by omega) (by omega), show w64 0 = 0 from rfl, show ((r : Int) + 1) = ((r + 1 : Nat) : Int) by omega]
      by_cases z : gat D p r ≤ 0
      · rw [if_pos z]
        have e := fk_n (D := D) (p := p) (r := r) (fun y => by have := y.2; omega)
        obtain ⟨μ', c1, c2, c3, c4, c5, c6⟩ := ih n (r + 1) μ2 (by omega) (by omega) a2.1 (by rw [e]; exact hok) (by rw [e, a3 1 (by decide) (by decide)]; exact h0) (by rw [e, a3 1 (by decide) (by decide)]; exact h1)
        exact ⟨μ', c1, c2, fun t q1 q2 q3 => by rw [c3 t q1 q2 q3, a3 t q2 q3], fun i hi => by rw [c4 i hi, a3 1 (by decide) (by decide)], fun s hs => by rw [c5 s hs, a4 s hs], c6⟩
      · obtain ⟨i1, i2, i3⟩ := fk_bd O hS ht hp r (by omega) hok
        have hs := gat_sum O hp r (by omega)
        have hap := apt_bd O hS (cp := (p : Int)) (cr := (r : Int))
        have e := fk_y (D := D) (p := p) (r := r) hok (by omega)
        rw [if_neg z, apartX O a2, bn_s, hg9]
        unfold f_X0_add
        rw [a3 1 (by decide) (by decide), h0, h1]
        obtain ⟨A, hA⟩ : ∃ A, A = (fk D p r).1 := ⟨_, rfl⟩
        obtain ⟨B, hB⟩ : ∃ B, B = (fk D p r).2.1 := ⟨_, rfl⟩
        obtain ⟨G, hGe⟩ : ∃ G, G = gat D p r := ⟨_, rfl⟩
        obtain ⟨a, hae⟩ : ∃ a, a = apt D p r := ⟨_, rfl⟩
        rw [← hA, ← hB, ← hGe, ← hae] at e ⊢
        rw [← hA, ← hB] at i3
        rw [← hA] at i1
        rw [← hB] at i2
        rw [← hGe] at hG hGL z hap
        rw [← hae] at hap
        have hM : 0 < B * G ∧ B * G ≤ 1000000 * 20000 := ⟨Int.mul_pos (by omega) (by omega), mul_two_le i2.2 (by omega) (by omega) hG⟩
        have v1 : B * (3000 * sm (fun r : Nat => gat D p r) r) ≤ 1000000 * 60000000 := mul_two_le i2.2 (by omega) (by omega) (by omega)
        have v2 : 0 ≤ A * G ∧ A * G ≤ 60000000000000 * 20000 := ⟨Int.mul_nonneg i1 hG, mul_two_le (by omega) (by omega) i1 hG⟩
        have v3 : G * G ≤ 20000 * 20000 := mul_two_le (by omega) (by omega) hG hG
        have v5 : a ≤ 1200000000000 := Int.le_trans hap.2 (Int.le_trans (Int.mul_le_mul_of_nonneg_left v3 (by decide)) (by decide))
        have v4 : 0 ≤ a * B ∧ a * B ≤ 1200000000000 * 1000000 := ⟨Int.mul_nonneg hap.1 (by omega), mul_two_le v5 i2.2 hap.1 (by omega)⟩
        have hrd := red_bd (show 0 ≤ A * G + a * B by omega) hM.1
        rw [becX (by omega) hM.1 (by omega) (by omega), bn_s, bn_s, st_eq, w64_id (x := redD (A * G + a * B) (B * G)) (by omega) (by omega), wm]
        have F3 : Frs D (st (st μ2 1 1 0 (redN (A * G + a * B) (B * G))) 1 1 1 (redD (A * G + a * B) (B * G))) := ⟨(dt_st _ (by decide)).trans ((dt_st _ (by decide)).trans a2.1.1), by rw [st_nt _ (by decide), st_nt _ (by decide)]; exact a2.1.2.1, by simp (disch := decide) only [st_tag]; exact a2.1.2.2⟩
        by_cases y : redD (A * G + a * B) (B * G) ≤ 1000000
        · rw [if_pos y]
          obtain ⟨μ', c1, c2, c3, c4, c5, c6⟩ := ih n (r + 1) (st (st μ2 1 1 0 (redN (A * G + a * B) (B * G))) 1 1 1 (redD (A * G + a * B) (B * G))) (by omega) (by omega) F3 (by rw [e]; exact decide_eq_true y) (by rw [e, st_nk _ (by decide), st_eq]) (by rw [e, st_eq])
          exact ⟨μ', c1, c2, fun t q1 q2 q3 => by rw [c3 t q1 q2 q3, st_tag _ q1, st_tag _ q1, a3 t q2 q3], fun i hi => by rw [c4 i hi, st_idx _ hi, st_idx _ hi, a3 1 (by decide) (by decide)], fun s hs => by rw [c5 s hs, st_nt _ (by decide), st_nt _ (by decide), a4 s hs], c6⟩
        · rw [if_neg y]
          have hf : (fk D p (drw D p)).2.2 = false := by
            have := fk_stay (D := D) (p := p) (r := r + 1) (by rw [e]; exact decide_eq_false y) d
            rwa [show r + 1 + d = drw D p by omega] at this
          rw [hf]
          exact ⟨_, rfl, F3, fun t q1 q2 q3 => by rw [st_tag _ q1, st_tag _ q1, a3 t q2 q3], fun i hi => by rw [st_idx _ hi, st_idx _ hi, a3 1 (by decide) (by decide)], fun s hs => by rw [st_nt _ (by decide), st_nt _ (by decide), a4 s hs], fun q => absurd q (by decide)⟩
  unfold f_X6_sumRest
  rw [becX (by decide) (by decide) (by decide) (by decide), bn_s]
  have r0 : redN 0 1 = 0 := by decide
  have r1 : redD 0 1 = 1 := by decide
  rw [r0, r1]
  obtain ⟨μ', c1, c2, c3, c4, c5, c6⟩ := L (drw D p) FU 0 (st (st μ 1 1 0 0) 1 1 1 1) (by omega) (by unfold FU; omega) ⟨(dt_st _ (by decide)).trans ((dt_st _ (by decide)).trans F.1), by rw [st_nt _ (by decide), st_nt _ (by decide)]; exact F.2.1, by simp (disch := decide) only [st_tag]; exact F.2.2⟩ rfl (by rw [st_nk _ (by decide), st_eq]; rfl) (by rw [st_eq]; rfl)
  exact ⟨μ', c1, c2, fun t q1 q2 q3 => by rw [c3 t q1 q2 q3, st_tag _ q1, st_tag _ q1], fun i hi => by rw [c4 i hi, st_idx _ hi, st_idx _ hi], fun s hs => by rw [c5 s hs, st_nt _ (by decide), st_nt _ (by decide)], c6⟩
theorem knownM {D : Dt} (O : OKD D) {p : Nat} (hp : p < dnp D) {μ : Mem} (W : WM D μ) : ∃ μ', keepM μ μ' ∧ WM D μ' ∧ (¬ nStuck D → f_X9_known (p : Int) μ = some (8, μ')) ∧ (nStuck D → ¬ tot D ≤ 20000 → f_X9_known (p : Int) μ = some (9, μ')) ∧ (nStuck D → tot D ≤ 20000 → LL D ≤ 0 → f_X9_known (p : Int) μ = some (10, μ')) ∧ (nStuck D → tot D ≤ 20000 → ¬ LL D ≤ 0 → f_X9_known (p : Int) μ = some (if (fk D p (drw D p)).2.2 then 0 else 9, μ') ∧ ((fk D p (drw D p)).2.2 = true → μ' 30 0 34 = (fk D p (drw D p)).1 ∧ μ' 30 0 35 = (fk D p (drw D p)).2.1 ∧ μ' 30 0 36 = LL D)) := by
  have hcw := cW_le O
  have h10 := ok_np O
  have hrw := ok_rw O hp
  have hLL := LL_bd O
  have wm : w64 1000000 = 1000000 := rfl
  obtain ⟨μ0, hμ0⟩ : ∃ μ0, μ0 = st (st (st μ 30 0 34 0) 30 0 35 1) 30 0 36 0 := ⟨_, rfl⟩
  have k0 : keepM μ μ0 := ⟨fun t h1 _ => by rw [hμ0, st_tag _ h1, st_tag _ h1, st_tag _ h1], fun s hs => by rw [hμ0, st_nk _ (by omega), st_nk _ (by omega), st_nk _ (by omega)]⟩
  have W0 : WM D μ0 := WM_ext W (fun t h1 h2 => k0.1 t (by omega) (by omega)) (fun s hs => k0.2 s (by omega))
  have first : ∀ c, f_X9_sums (-1) (p : Int) ((0 : Nat) : Int) μ0 = some (c, μ0) → 0 < c → c ≤ 100 → f_X9_known (p : Int) μ = some (c, μ0) := by
    intro c hc h1 h2
    unfold f_X9_known
    rw [← hμ0, show FU = 999999 + 1 from rfl, f_X9_known_L17.eq_2, gd_inb _ (by omega) (by omega) (by omega), ixn (by omega), wm_rw W0 hp, if_neg (show ¬ w32 (drw D p : Int) ≤ w32 0 by rw [w32n (by omega), w32_0]; omega), show f_X9_sums (-1) (p : Int) 0 μ0 = _ from hc, bn_s, if_neg (by rw [w32_id (by omega) (by omega)]; omega)]
  have hs0 := sumsM O (a := -1) (cp := (p : Int)) (cr := ((0 : Nat) : Int)) (by omega) (by omega) (by omega) W0
  by_cases h1 : nStuck D
  · by_cases h2 : tot D ≤ 20000
    · by_cases h3 : LL D ≤ 0
      · obtain ⟨μ1, a1, a2, a3, a4, a5⟩ := hs0.2.2 h1 h2
        rw [if_pos h3] at a1
        have ka := keepS_M a5
        refine ⟨μ1, ⟨fun t q1 q2 => by rw [ka.1 t q1 q2, k0.1 t q1 q2], fun s hs => by rw [ka.2 s hs, k0.2 s hs]⟩, a2, fun z => absurd h1 z, fun _ z => absurd h2 z, fun _ _ _ => ?_, fun _ _ z => absurd h3 z⟩
        unfold f_X9_known
        rw [← hμ0, show FU = 999999 + 1 from rfl, f_X9_known_L17.eq_2, gd_inb _ (by omega) (by omega) (by omega), ixn (by omega), wm_rw W0 hp, if_neg (show ¬ w32 (drw D p : Int) ≤ w32 0 by rw [w32n (by omega), w32_0]; omega), show f_X9_sums (-1) (p : Int) 0 μ0 = _ from a1, bn_s, if_neg (by decide)]
      · have L : ∀ (d n r : Nat) (μ1 : Mem), d + r = drw D p → d < n → WM D μ1 → (fk D p r).2.2 = true → μ1 30 0 34 = (fk D p r).1 → μ1 30 0 35 = (fk D p r).2.1 → μ1 30 0 36 = sm (fun r : Nat => gat D p r) r → ∃ μ', f_X9_known_L17 (p : Int) n (r : Int) μ1 = some (if (fk D p (drw D p)).2.2 then 0 else 9, μ') ∧ keepM μ1 μ' ∧ WM D μ' ∧ ((fk D p (drw D p)).2.2 = true → μ' 30 0 34 = (fk D p (drw D p)).1 ∧ μ' 30 0 35 = (fk D p (drw D p)).2.1 ∧ μ' 30 0 36 = LL D) := by
          intro d
          induction d with
          | zero =>
            intro n r μ1 hd hn W1 hok e34 e35 e36
            obtain ⟨n, rfl⟩ : ∃ q, n = q + 1 := ⟨n - 1, by omega⟩
            have hr : r = drw D p := by omega
            subst hr
            refine ⟨μ1, ?_, keepM_refl _, W1, fun _ => ⟨e34, e35, by rw [e36]; exact (gat_sum O hp _ (Nat.le_refl _)).2.2 rfl⟩⟩
            rw [f_X9_known_L17.eq_2, gd_inb _ (by omega) (by omega) (by omega), ixn (by omega), wm_rw W1 hp, if_pos (Int.le_refl _), hok]
            rfl
          | succ d ih =>
            intro n r μ1 hd hn W1 hok e34 e35 e36
            obtain ⟨n, rfl⟩ : ∃ q, n = q + 1 := ⟨n - 1, by omega⟩
            obtain ⟨μ2, a1, a2, a3, a4, a5⟩ := (sumsM O (a := -1) (cp := (p : Int)) (cr := (r : Int)) (by omega) (by omega) (by omega) W1).2.2 h1 h2
            rw [if_neg h3] at a1
            have hG := gat_nn O (cp := (p : Int)) (cr := (r : Int))
            have hGL := (bel_bd O h1 (cp := (p : Int)) (cr := (r : Int)) (i := 0)).2.2
            have e33 : μ2 30 0 33 = gat D p r := a4
            have f34 : μ2 30 0 34 = (fk D p r).1 := by rw [a5.2 34 (by decide)]; exact e34
            have f35 : μ2 30 0 35 = (fk D p r).2.1 := by rw [a5.2 35 (by decide)]; exact e35
            have f36 : μ2 30 0 36 = sm (fun r : Nat => gat D p r) r := by rw [a5.2 36 (by decide)]; exact e36
            have ka := keepS_M a5
            obtain ⟨μ3, hμ3⟩ : ∃ μ3, μ3 = st μ2 30 0 36 (μ2 30 0 36 + μ2 30 0 33) := ⟨_, rfl⟩
            have g33 : μ3 30 0 33 = gat D p r := by rw [hμ3, st_nk _ (by decide)]; exact e33
            have g34 : μ3 30 0 34 = (fk D p r).1 := by rw [hμ3, st_nk _ (by decide)]; exact f34
            have g35 : μ3 30 0 35 = (fk D p r).2.1 := by rw [hμ3, st_nk _ (by decide)]; exact f35
            have g36 : μ3 30 0 36 = sm (fun r : Nat => gat D p r) (r + 1) := by rw [hμ3, st_eq, f36, e33]; rfl
            have k3 : keepM μ1 μ3 := ⟨fun t q1 q2 => by rw [hμ3, st_tag _ q1, ka.1 t q1 q2], fun s hs => by rw [hμ3, st_nk _ (by omega), ka.2 s hs]⟩
            have W3 : WM D μ3 := WM_ext W1 (fun t q1 q2 => k3.1 t (by omega) (by omega)) (fun s hs => k3.2 s (by omega))
            rw [f_X9_known_L17.eq_2, gd_inb _ (by omega) (by omega) (by omega), ixn (by omega), wm_rw W1 hp, if_neg (show ¬ w32 (drw D p : Int) ≤ w32 (r : Int) by rw [w32n (by omega), w32n (by omega)]; omega), a1, bn_s, if_pos (show w32 0 ≤ 0 by decide), ← hμ3]
            simp only [jn_u]
            rw [g33, g34, w64_id (x := gat D p r) (by omega) (by omega), show w64 0 = 0 from rfl, show ((r : Int) + 1) = ((r + 1 : Nat) : Int) by omega]
            by_cases z : gat D p r = 0
            · rw [if_pos z]
              have e := fk_n (D := D) (p := p) (r := r) (fun y => by have := y.2; omega)
              obtain ⟨μ', c1, c2, c3, c4⟩ := ih n (r + 1) μ3 (by omega) (by omega) W3 (by rw [e]; exact hok) (by rw [e]; exact g34) (by rw [e]; exact g35) g36
              exact ⟨μ', c1, ⟨fun t q1 q2 => by rw [c2.1 t q1 q2, k3.1 t q1 q2], fun s hs => by rw [c2.2 s hs, k3.2 s hs]⟩, c3, c4⟩
            · obtain ⟨i1, i2, i3⟩ := fk_bd O h1 h2 hp r (by omega) hok
              have hs := gat_sum O hp r (by omega)
              have hap := apt_bd O h1 (cp := (p : Int)) (cr := (r : Int))
              have e := fk_y (D := D) (p := p) (r := r) hok (by omega)
              rw [if_neg z, apartM (D := D) (cp := (p : Int)) (cr := (r : Int)) (by rw [hμ3, st_tag _ (by decide)]; exact a3) g33, bn_s, g33, g35]
              obtain ⟨A, hA⟩ : ∃ A, A = (fk D p r).1 := ⟨_, rfl⟩
              obtain ⟨B, hB⟩ : ∃ B, B = (fk D p r).2.1 := ⟨_, rfl⟩
              obtain ⟨G, hGe⟩ : ∃ G, G = gat D p r := ⟨_, rfl⟩
              obtain ⟨a, hae⟩ : ∃ a, a = apt D p r := ⟨_, rfl⟩
              rw [← hA, ← hB, ← hGe, ← hae] at e ⊢
              rw [← hA, ← hB] at i3
              rw [← hA] at i1
              rw [← hB] at i2
              rw [← hGe] at hG hGL z hap
              rw [← hae] at hap
              have hM : 0 < B * G ∧ B * G ≤ 1000000 * 20000 := ⟨Int.mul_pos (by omega) (by omega), mul_two_le i2.2 (by omega) (by omega) hG⟩
              have v1 : B * (3000 * sm (fun r : Nat => gat D p r) r) ≤ 1000000 * 60000000 := mul_two_le i2.2 (by omega) (by omega) (by omega)
              have v2 : 0 ≤ A * G ∧ A * G ≤ 60000000000000 * 20000 := ⟨Int.mul_nonneg i1 hG, mul_two_le (by omega) (by omega) i1 hG⟩
              have v3 : G * G ≤ 20000 * 20000 := mul_two_le (by omega) (by omega) hG hG
              have v5 : a ≤ 1200000000000 := Int.le_trans hap.2 (Int.le_trans (Int.mul_le_mul_of_nonneg_left v3 (by decide)) (by decide))
              have v4 : 0 ≤ a * B ∧ a * B ≤ 1200000000000 * 1000000 := ⟨Int.mul_nonneg hap.1 (by omega), mul_two_le v5 i2.2 hap.1 (by omega)⟩
              have hrd := red_bd (show 0 ≤ A * G + a * B by omega) hM.1
              have hg := egcd_pos (a := A * G + a * B) hM.1
              have hg2 := egcd_le (a := A * G + a * B) hM.1
              have x1 : w64 (egcd (A * G + a * B) (B * G)) = egcd (A * G + a * B) (B * G) := w64_id (by omega) (by omega)
              have x2 : w64 (A * G + a * B) = A * G + a * B := w64_id (by omega) (by omega)
              have x3 : w64 (B * G) = B * G := w64_id (by omega) (by omega)
              rw [common_M _ (by omega) (by omega) (by omega) (by omega), bn_s, gd_t _ (by rw [x1]; omega), gd_t _ (by rw [x1]; omega), x1, x2, x3, show Int.tdiv (A * G + a * B) (egcd (A * G + a * B) (B * G)) = redN (A * G + a * B) (B * G) from rfl, show Int.tdiv (B * G) (egcd (A * G + a * B) (B * G)) = redD (A * G + a * B) (B * G) from rfl, st_eq, w64_id (x := redD (A * G + a * B) (B * G)) (by omega) (by omega), wm]
              have k4 : keepM μ1 (st (st μ3 30 0 34 (redN (A * G + a * B) (B * G))) 30 0 35 (redD (A * G + a * B) (B * G))) := ⟨fun t q1 q2 => by rw [st_tag _ q1, st_tag _ q1, k3.1 t q1 q2], fun s hs => by rw [st_nk _ (by omega), st_nk _ (by omega), k3.2 s hs]⟩
              have W4 : WM D (st (st μ3 30 0 34 (redN (A * G + a * B) (B * G))) 30 0 35 (redD (A * G + a * B) (B * G))) := WM_ext W1 (fun t q1 q2 => k4.1 t (by omega) (by omega)) (fun s hs => k4.2 s (by omega))
              by_cases y : redD (A * G + a * B) (B * G) ≤ 1000000
              · rw [if_pos y]
                obtain ⟨μ', c1, c2, c3, c4⟩ := ih n (r + 1) (st (st μ3 30 0 34 (redN (A * G + a * B) (B * G))) 30 0 35 (redD (A * G + a * B) (B * G))) (by omega) (by omega) W4 (by rw [e]; exact decide_eq_true y) (by rw [e, st_nk _ (by decide), st_eq]) (by rw [e, st_eq]) (by rw [st_nk _ (by decide), st_nk _ (by decide)]; exact g36)
                exact ⟨μ', c1, ⟨fun t q1 q2 => by rw [c2.1 t q1 q2, k4.1 t q1 q2], fun s hs => by rw [c2.2 s hs, k4.2 s hs]⟩, c3, c4⟩
              · rw [if_neg y]
                have hf : (fk D p (drw D p)).2.2 = false := by
                  have := fk_stay (D := D) (p := p) (r := r + 1) (by rw [e]; exact decide_eq_false y) d
                  rwa [show r + 1 + d = drw D p by omega] at this
                rw [hf]
                exact ⟨_, rfl, k4, W4, fun q => absurd q (by decide)⟩
        obtain ⟨μ', c1, c2, c3, c4⟩ := L (drw D p) FU 0 μ0 (by omega) (by unfold FU; omega) W0 rfl (by rw [hμ0, st_nk _ (by decide), st_nk _ (by decide), st_eq]; rfl) (by rw [hμ0, st_nk _ (by decide), st_eq]; rfl) (by rw [hμ0, st_eq]; rfl)
        refine ⟨μ', ⟨fun t q1 q2 => by rw [c2.1 t q1 q2, k0.1 t q1 q2], fun s hs => by rw [c2.2 s hs, k0.2 s hs]⟩, c3, fun z => absurd h1 z, fun _ z => absurd h2 z, fun _ _ z => absurd z h3, fun _ _ _ => ⟨?_, c4⟩⟩
        unfold f_X9_known
        rw [← hμ0]; exact c1
    · exact ⟨μ0, k0, W0, fun z => absurd h1 z, fun _ _ => first 9 (hs0.2.1 h1 h2) (by decide) (by decide), fun _ z => absurd z h2, fun _ z => absurd z h2⟩
  · exact ⟨μ0, k0, W0, fun _ => first 8 (hs0.1 h1) (by decide) (by decide), fun z => absurd z h1, fun z => absurd z h1, fun z => absurd z h1⟩
