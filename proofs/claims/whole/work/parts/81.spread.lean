/-! SPREAD, PROMISE -/
theorem Rel_g {μx μm μx' : Mem} (R : Rel μx μm) (h : ∀ t, t ≠ 7 → t ≠ 8 → μx' t = μx t) (h7 : ∀ s, s ≠ 9 → μx' 7 0 s = μx 7 0 s) : Rel μx' μm :=
  Rel_x R (dt_of (fun t h1 _ => h t (by omega) (by omega))) (fun t ht => h t (by omega) (by omega)) (by rw [h 1 (by decide) (by decide)]) (fun s _ => by rw [h 1 (by decide) (by decide)]) (by
    rw [h 9 (by decide) (by decide), h 10 (by decide) (by decide), h 28 (by decide) (by decide)]
    exact Cach_ext R.2.2.2.2.2 (h7 5 (by decide)) (h7 6 (by decide)) (h7 7 (by decide)) (h7 8 (by decide)))
theorem Rel_okk {μx μm μm' : Mem} (R : Rel μx μm) (hk : keepM (m0 μm) μm') : Rel (st μx 0 0 0 0) μm' := by
  refine Rel_ext R sx_tag (fun t h1 h2 h3 => ?_) (fun k h => ?_) (by rw [st_eq, hk.2 0 (by omega), m0_0])
  · rw [hk.1 t h1 (by omega), m0_tag _ h1]
  · rw [hk.2 k (by omega), m0_k _ (by omega)]
theorem gat_all {D : Dt} {cr : Int} : gat D (-1) cr = LL D := sm_congr _ (fun k _ => cwt_all (by decide))
theorem op_spread {μx μm : Mem} (R : Rel μx μm) : Step (f_X8_spread μx) (f_X9_spread μm) := by
  obtain ⟨O, W⟩ := RW_OK R
  unfold f_X8_spread f_X9_spread
  rw [m0_def]
  obtain ⟨c, μx', μm', a1, a2, a3, a4, a5, a6⟩ := chance_step R (a := -1) (cp := -1) (cr := 0) (by omega) (by omega) (by omega)
  rw [a1, a2, bn_s, bn_s]
  rcases a6 with hc | ⟨hc, h1, h2, h3, F, W', h48, h33⟩
  · rw [if_neg (by rw [w32_id (by omega) (by omega)]; omega), if_neg (by rw [w32_id (by omega) (by omega)]; omega)]
    simp only [f_X8_refuse, f_X9_no, bn_s, gd_b0]
    exact Step_mk rfl (Rel_rfk a3 a4 c)
  · subst hc
    obtain ⟨μ2, b1, b2, b3, b4⟩ := gatherAllX O F
    have e33 : μm' 30 0 33 = LL (dt μx) := by rw [h33]; exact gat_all
    have e8 : μ2 7 0 8 = LL (dt μx) := Frs_8 b2.1
    rw [if_pos w32_0, if_pos (by decide), b1, bn_s, apartX O b2, bn_s, apartM h48 h33, bn_s, e8, e33]
    have hL := LL_bd O
    have hb := apt_bd O h1 (cp := -1) (cr := 0)
    rw [gat_all] at hb
    have hq : 1 ≤ LL (dt μx) * LL (dt μx) ∧ LL (dt μx) * LL (dt μx) ≤ 20000 * 20000 := ⟨by have := le_mul1 (show 0 ≤ LL (dt μx) by omega) (show 1 ≤ LL (dt μx) by omega); omega, mul_two_le (by omega) (by omega) hL.1 hL.1⟩
    exact tellK (Rel_g a3 b3 b4) a4 hb.1 (by omega) (by omega) (by omega)
theorem least_both {D : Dt} (O : OKD D) {μ μm : Mem} (G : GS D (-1) 0 (cW D) μ) (h48 : ∀ s, s < 6000 → μm 48 0 s = sm (dst D (-1) (-1) 0 s) (cW D)) (h33 : μm 30 0 33 = LL D) {x y : Int} (hx : 0 ≤ x ∧ x ≤ y) (hy : y ≤ 1000000) {e : Nat} (he : μ 7 0 7 = (e : Int)) : ∀ (d n n' j : Nat), d + j = e → d < n → d < n' → ∃ r, f_X6_leastDayAtRisk_L12 x y n (LL D - bel D (-1) 0 j) (j : Int) μ = some (r, μ) ∧ f_X9_promise_L63 x y n' (LL D - bel D (-1) 0 j) (j : Int) μm = some (r, μm) := by
  obtain ⟨F, g8, g9⟩ := G
  have hS := fr_s F
  have ht := fr_t F
  have hLL := LL_bd O
  have w6 : w32 6000 = 6000 := rfl
  obtain ⟨h7, h7'⟩ := fr_7 F
  have wx : w32 x = x := w32_id (by omega) (by omega)
  have wy : w32 y = y := w32_id (by omega) (by omega)
  have hxl : 0 ≤ x * LL D ∧ x * LL D ≤ 1000000 * 20000 := ⟨Int.mul_nonneg hx.1 hLL.1, mul_two_le (by omega) (by omega) hx.1 hLL.1⟩
  have wxl : w64 (x * LL D) = x * LL D := w64_id (by omega) (by omega)
  have hbb : ∀ j, 0 ≤ LL D - bel D (-1) 0 j ∧ LL D - bel D (-1) 0 j ≤ 20000 := fun j => by
    have := bel_bd O hS (cp := -1) (cr := 0) (i := j)
    rw [gat_all] at this
    omega
  have hpb : ∀ j, 0 ≤ (LL D - bel D (-1) 0 j) * y ∧ (LL D - bel D (-1) 0 j) * y ≤ 20000 * 1000000 := fun j => ⟨Int.mul_nonneg (hbb j).1 (by omega), mul_two_le (hbb j).2 hy (hbb j).1 (by omega)⟩
  have e8 : μ 7 0 8 = LL D := Frs_8 F
  intro d
  induction d with
  | zero =>
    intro n n' j hd hn hn'
    obtain ⟨n, rfl⟩ : ∃ q, n = q + 1 := ⟨n - 1, by omega⟩
    obtain ⟨n', rfl⟩ : ∃ q, n' = q + 1 := ⟨n' - 1, by omega⟩
    have hj : j = e := by omega
    subst hj
    have hall : bel D (-1) 0 (j + 1) = LL D := by rw [bel_all O hS (fun k hk hw => by have := h7' k hk hw; omega)]; exact gat_all
    have hm : LL D - bel D (-1) 0 j - μm 48 0 j = 0 := by
      have : bel D (-1) 0 (j + 1) = bel D (-1) 0 j + sm (dst D (-1) (-1) 0 j) (cW D) := rfl
      rw [h48 j (by omega)]; omega
    refine ⟨(j : Int), ?_, ?_⟩
    · rw [f_X6_leastDayAtRisk_L12.eq_2, he, if_pos (Int.le_refl _)]
    · rw [f_X9_promise_L63.eq_2, if_neg (show ¬ w32 6000 ≤ w32 (j : Int) by rw [w32n (by omega), w6]; omega), gd_inb _ (by omega) (by omega) (by omega), ixn (by omega), h33, hm, wx, wxl, Int.zero_mul, if_neg (show ¬ x * LL D < w64 0 by rw [show w64 0 = 0 from rfl]; omega)]
  | succ d ih =>
    intro n n' j hd hn hn'
    obtain ⟨n, rfl⟩ : ∃ q, n = q + 1 := ⟨n - 1, by omega⟩
    obtain ⟨n', rfl⟩ : ∃ q, n' = q + 1 := ⟨n' - 1, by omega⟩
    have es : bel D (-1) 0 (j + 1) = bel D (-1) 0 j + sm (dst D (-1) (-1) 0 j) (cW D) := rfl
    have hX : LL D - bel D (-1) 0 j - μ 8 0 j = LL D - bel D (-1) 0 (j + 1) := by rw [g8 j (by omega)]; omega
    have hM : LL D - bel D (-1) 0 j - μm 48 0 j = LL D - bel D (-1) 0 (j + 1) := by rw [h48 j (by omega)]; omega
    have hd8 : μ 8 0 j = LL D - bel D (-1) 0 j - (LL D - bel D (-1) 0 (j + 1)) := by omega
    have b1 := hbb j
    have b2 := hbb (j + 1)
    have b3 := hpb (j + 1)
    have wp : w64 ((LL D - bel D (-1) 0 (j + 1)) * y) = (LL D - bel D (-1) 0 (j + 1)) * y := w64_id (by omega) (by omega)
    obtain ⟨r, i1, i2⟩ := ih n n' (j + 1) (by omega) (by omega) (by omega)
    rw [f_X6_leastDayAtRisk_L12.eq_2, he, if_neg (show ¬ w32 (e : Int) ≤ w32 (j : Int) by rw [w32n (by omega), w32n (by omega)]; omega), if_neg (show ¬ w32 4950 < w32 (j : Int) by rw [show w32 4950 = 4950 from rfl, w32n (by omega)]; omega), gd_inb _ (by omega) (by omega) (by omega), ixn (by omega), w32_id (x := μ 8 0 j) (by omega) (by omega), hX, e8, wx, wy, wxl, wp]
    rw [f_X9_promise_L63.eq_2, if_neg (show ¬ w32 6000 ≤ w32 (j : Int) by rw [w32n (by omega), w6]; omega), gd_inb _ (by omega) (by omega) (by omega), ixn (by omega), hM, h33, wx, wy, wxl, wp]
    by_cases z : x * LL D < (LL D - bel D (-1) 0 (j + 1)) * y
    · rw [if_pos z, if_pos z, show ((j : Int) + 1) = ((j + 1 : Nat) : Int) by omega]
      exact ⟨r, i1, i2⟩
    · rw [if_neg z, if_neg z]
      exact ⟨(j : Int), rfl, rfl⟩
theorem op_promise {μx μm : Mem} (R : Rel μx μm) {x y : Int} (hx : I32 x) (hy : I32 y) : Step (f_X8_promise x y μx) (f_X9_promise x y μm) := by
  obtain ⟨O, W⟩ := RW_OK R
  unfold f_X8_promise f_X9_promise
  rw [m0_def]
  simp only [jn_u, f_X8_refuseNumber, f_X9_refuse, bn_s]
  have wx := wr hx
  have wy := wr hy
  have e1 : w32 1 = 1 := rfl
  have em : w32 1000000 = 1000000 := rfl
  by_cases g : 0 ≤ x ∧ x ≤ y ∧ 1 ≤ y ∧ y ≤ 1000000
  · obtain ⟨g1, g2, g3, g4⟩ := g
    rw [if_neg (show ¬ w32 x < 0 by omega), if_neg (show ¬ w32 y < w32 x by omega), if_neg (show ¬ w32 y < w32 1 by omega), if_neg (show ¬ w32 1000000 < w32 y by omega), if_neg (show ¬ w32 y < w32 1 by omega), if_neg (show ¬ w32 1000000 < w32 y by omega), if_neg (show ¬ w32 x < 0 by omega), if_pos (show w32 x ≤ w32 y by omega), if_neg (show ¬ w32 1 = 0 by decide)]
    obtain ⟨c, μx', μm', a1, a2, a3, a4, a5, a6⟩ := chance_step R (a := -1) (cp := -1) (cr := 0) (by omega) (by omega) (by omega)
    rw [a1, a2, bn_s, bn_s]
    rcases a6 with hc | ⟨hc, h1, h2, h3, F, W', h48, h33⟩
    · rw [if_neg (by rw [w32_id (by omega) (by omega)]; omega), if_neg (by rw [w32_id (by omega) (by omega)]; omega)]
      exact Step_mk rfl (Rel_rfk a3 a4 c)
    · subst hc
      have e33 : μm' 30 0 33 = LL (dt μx) := by rw [h33]; exact gat_all
      have F2 : Frs (dt μx) (st μx' 0 0 0 0) := ⟨(dt_st _ (by decide)).trans F.1, by rw [st_nt _ (by decide)]; exact F.2.1, by rw [st_tag _ (by decide), st_tag _ (by decide), st_tag _ (by decide), st_tag _ (by decide)]; exact F.2.2⟩
      unfold f_X6_leastDayAtRisk
      obtain ⟨μ2, b1, b2, b3, b4⟩ := gatherAllX O F2
      obtain ⟨e, he⟩ := natOf (fr_7 b2.1).1.1
      have h7 := (fr_7 b2.1).1.2
      obtain ⟨r, c1, c2⟩ := least_both O b2 h48 e33 ⟨g1, g2⟩ g4 he e FU FU 0 (by omega) (by unfold FU; omega) (by unfold FU; omega)
      have e0 : LL (dt μx) - bel (dt μx) (-1) 0 0 = LL (dt μx) := by show LL (dt μx) - 0 = _; omega
      rw [e0] at c1 c2
      rw [if_pos w32_0, if_pos (by decide), b1, bn_s, Frs_8 b2.1, show f_X6_leastDayAtRisk_L12 x y FU (LL (dt μx)) 0 μ2 = _ from c1, bn_s, e33, show f_X9_promise_L63 x y FU (LL (dt μx)) 0 μm' = _ from c2]
      exact Step_mk rfl (Rel_g (Rel_okk a3 a4) b3 b4)
  · have hX : ∀ z : Option (Int × Mem), (if w32 x < 0 then some ((-1 : Int), st μx 0 0 0 5) else if w32 y < w32 x then some ((-1 : Int), st μx 0 0 0 5) else if w32 y < w32 1 then some ((-1 : Int), st μx 0 0 0 5) else if w32 1000000 < w32 y then some ((-1 : Int), st μx 0 0 0 5) else z) = some ((-1 : Int), st μx 0 0 0 5) := by
      intro z
      by_cases k1 : x < 0
      · rw [if_pos (by omega)]
      rw [if_neg (show ¬ w32 x < 0 by omega)]
      by_cases k2 : y < x
      · rw [if_pos (by omega)]
      rw [if_neg (show ¬ w32 y < w32 x by omega)]
      by_cases k3 : y < 1
      · rw [if_pos (by omega)]
      rw [if_neg (show ¬ w32 y < w32 1 by omega), if_pos (by omega)]
    have hM : ∀ z : Option (Int × Mem), (if w32 y < w32 1 then some ((-1 : Int), st (m0 μm) 30 0 0 5) else if w32 1000000 < w32 y then some ((-1 : Int), st (m0 μm) 30 0 0 5) else if w32 x < 0 then some ((-1 : Int), st (m0 μm) 30 0 0 5) else if w32 x ≤ w32 y then z else some ((-1 : Int), st (m0 μm) 30 0 0 5)) = some ((-1 : Int), st (m0 μm) 30 0 0 5) := by
      intro z
      by_cases k1 : y < 1
      · rw [if_pos (by omega)]
      rw [if_neg (show ¬ w32 y < w32 1 by omega)]
      by_cases k2 : 1000000 < y
      · rw [if_pos (by omega)]
      rw [if_neg (show ¬ w32 1000000 < w32 y by omega)]
      by_cases k3 : x < 0
      · rw [if_pos (by omega)]
      rw [if_neg (show ¬ w32 x < 0 by omega), if_neg (by omega)]
    rw [hM]
    rw [if_pos w32_0, if_neg (show ¬ w32 5 = 0 by decide), hX]
    exact Step_mk rfl (Rel_rf R 5)
