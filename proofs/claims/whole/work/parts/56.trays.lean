/-! TRAYS -/
theorem isT_t {μ : Mem} {a : Int} (ha : I32 a) (h0 : 0 ≤ a) (h1 : a < 4) : f_X8_isTray a μ = some (1, μ) := by
  unfold f_X8_isTray
  rw [if_neg (by rw [wr ha]; omega), if_neg (by rw [wr ha, show w32 4 = 4 from rfl]; omega)]
theorem isT_f {μ : Mem} {a : Int} (ha : I32 a) (h : ¬ (0 ≤ a ∧ a < 4)) : f_X8_isTray a μ = some (0, μ) := by
  unfold f_X8_isTray
  by_cases h3 : a < 0
  · rw [if_pos (by rw [wr ha]; omega)]
  · rw [if_neg (by rw [wr ha]; omega), if_pos (by rw [wr ha, show w32 4 = 4 from rfl]; omega)]
/-- the trays change -/
theorem Rel_tray {μx μm μx' μm' : Mem} (R : Rel μx μm) (hx : ∀ t, t ≠ 0 → t ≠ 3 → t ≠ 4 → μx' t = μx t) (hm : ∀ t, t ≠ 30 → t ≠ 31 → t ≠ 32 → t ≠ 33 → μm' t = μm t) (hs : ∀ k, k = 2 ∨ k = 3 ∨ k = 7 ∨ k = 8 ∨ k = 9 ∨ k = 10 ∨ k = 27 → μm' 30 0 k = μm 30 0 k) (h0 : μx' 0 0 0 = μm' 30 0 0)
    (ht : RT (μx' 3) (μx' 4) (μm' 31 0) (μm' 32 0) (μm' 33 0)) : Rel μx' μm' := by
  obtain ⟨-, r2, r3, r4, r5, r6⟩ := R
  have hd : dt μx' = dt μx := by unfold dt; rw [hx 15 (by decide) (by decide) (by decide), hx 17 (by decide) (by decide) (by decide), hx 18 (by decide) (by decide) (by decide), hx 19 (by decide) (by decide) (by decide), hx 20 (by decide) (by decide) (by decide), hx 21 (by decide) (by decide) (by decide), hx 22 (by decide) (by decide) (by decide)]
  refine ⟨h0, ?_, ht, ?_, ?_, ?_⟩
  · rw [hx 1 (by decide) (by decide) (by decide), hs 2 (by omega), hs 3 (by omega)]; exact r2
  · rw [hd, hs 7 (by omega), hs 8 (by omega), hs 9 (by omega), hs 10 (by omega)]
    simp (disch := decide) only [hm]
    exact r4
  · rw [hs 27 (by omega)]
    simp (disch := decide) only [hm, hx]
    exact r5
  · rw [hd]
    simp (disch := decide) only [hx]
    exact r6
theorem trayM_L {x1 x3 : Nat} (h1 : x1 < 4) (h3 : x3 ≤ 40) : ∀ (d n j : Nat) (μ : Mem), d + j = x3 → d < n → f_X9_tray_L74 x1 x3 n (j : Int) μ = some (1, fun t i q => if t = 33 ∧ i = 0 ∧ 40 * x1 + j ≤ q ∧ q < 40 * x1 + x3 then 0 else μ t i q) := by
  intro d
  induction d with
  | zero =>
    intro n j μ hd hn
    obtain ⟨n, rfl⟩ : ∃ q, n = q + 1 := ⟨n - 1, by omega⟩
    rw [f_X9_tray_L74.eq_2, if_pos (by rw [w32n (by omega), w32n (by omega)]; omega)]
    congr 2
    funext t i q
    rw [if_neg (by omega)]
  | succ d ih =>
    intro n j μ hd hn
    obtain ⟨n, rfl⟩ : ∃ q, n = q + 1 := ⟨n - 1, by omega⟩
    rw [f_X9_tray_L74.eq_2, if_neg (by rw [w32n (by omega), w32n (by omega)]; omega), gd_inb _ (by omega) (by omega) (by omega), show (40 * (x1 : Int) + j) = ((40 * x1 + j : Nat) : Int) by omega, ixn (by omega), show ((j : Int) + 1) = ((j + 1 : Nat) : Int) by omega, ih n (j + 1) _ (by omega) (by omega)]
    congr 2
    funext t i q
    by_cases hq : t = 33 ∧ i = 0 ∧ 40 * x1 + j ≤ q ∧ q < 40 * x1 + x3
    · rw [if_pos hq]
      obtain ⟨rfl, rfl, q1, q2⟩ := hq
      by_cases hj : q = 40 * x1 + j
      · subst hj; rw [if_neg (by omega), st_eq]
      · rw [if_pos (by omega)]
    · rw [if_neg hq, if_neg (by omega)]
      by_cases ht : t = 33
      · by_cases hi : i = 0
        · rw [ht, hi, st_nk _ (by omega)]
        · rw [st_ni _ hi]
      · rw [st_nt _ ht]
theorem op_tray {μx μm : Mem} (R : Rel μx μm) {a b c : Int} (ha : I32 a) (hb : I32 b) (hc : I32 c) : Step (f_X8_tray a b c μx) (f_X9_tray a b c μm) := by
  unfold f_X8_tray f_X9_tray
  rw [m0_def]
  have ws : ∀ v, Step (some (0, st μx 0 0 0 v)) (some (0, st (m0 μm) 30 0 0 v)) := fun v => ⟨_, _, _, rfl, rfl, Rel_rf R v⟩
  by_cases hp : 0 ≤ a ∧ a < 4
  · rw [isT_t ha hp.1 hp.2]
    simp only [bn_s, w1z, if_false, f_X8_refuse, f_X9_no, gd_b0, wr ha, wr hb, wr hc, show w32 4 = 4 from rfl, show w32 3 = 3 from rfl, show w32 40 = 40 from rfl]
    rw [if_neg (show ¬ a < 0 by omega), if_neg (show ¬ (4 : Int) ≤ a by omega)]
    by_cases h1 : b < 0
    · rw [if_pos h1, if_pos h1]; exact ws 1
    · rw [if_neg h1, if_neg h1]
      by_cases h2 : b < 4
      · rw [if_pos h2, if_pos (show b ≤ 3 by omega)]
        by_cases h3 : c ≤ 40
        · rw [if_pos h3, if_pos h3]
          by_cases h4 : 0 ≤ c
          · rw [if_pos h4, if_pos h4]
            obtain ⟨p, rfl⟩ := natOf hp.1
            obtain ⟨q, rfl⟩ := natOf h4
            simp (disch := omega) only [gd_inb, ixn]
            unfold f_X5_layOut
            rw [fillL _ _ _ _ _ (by omega), bn_s, bn_s, show f_X9_tray_L74 (p : Int) (q : Int) FU 0 (st (st (m0 μm) 31 0 p b) 32 0 p (q : Int)) = _ from trayM_L (by omega) (by omega) q FU 0 _ (by omega) (by unfold FU; omega)]
            simp only [f_X8_well, bn_s, gd_b1]
            refine Step_mk rfl (Rel_tray R (fun t h0 h3 h4 => ?_) (fun t h0 h1 h2 h3 => ?_) (fun k h => ?_) ?_ ?_)
            · rw [st_tag _ h0, st_tag _ h3, st_tag _ h3, fl_tag _ h4]
            · funext i q'
              rw [if_neg (by omega), st_nt _ h2, st_nt _ h1, m0_tag _ h0]
            · try dsimp only
              rw [if_neg (by omega), st_nt _ (by decide), st_nt _ (by decide), m0_k _ (by omega)]
            · try dsimp only
              rw [st_eq, if_neg (by omega), st_nt _ (by decide), st_nt _ (by decide), m0_0]
            · intro t ht
              by_cases htp : t = p
              · subst htp
                right
                dsimp only
                simp (disch := omega) only [if_neg, st_nt, st_nk, st_eq, st_tag, fl_tag]
                refine ⟨by omega, by omega, trivial, trivial, by omega, by omega, fun k hk => ?_⟩
                rw [fl_in _ (by omega), if_pos ⟨trivial, trivial, by omega, by omega⟩]
                exact ⟨rfl, by decide, by decide⟩
              · have := R.2.2.1 t ht
                dsimp only
                simp (disch := omega) only [if_neg, st_nt, st_nk, st_ni, st_tag, m0_tag, fl_tag]
                rw [fl_idx _ htp]
                rcases this with h | ⟨h1, h2, h3, h4, h5, h6, h7⟩
                · exact Or.inl h
                · refine Or.inr ⟨h1, h2, h3, h4, h5, h6, fun k hk => ?_⟩
                  rw [if_neg (by omega)]
                  exact h7 k hk
          · rw [if_neg h4, if_neg h4]; exact ws 6
        · rw [if_neg h3, if_neg h3]; exact ws 5
      · rw [if_neg h2, if_neg (show ¬ b ≤ 3 by omega)]; exact ws 1
  · rw [isT_f ha hp]
    simp only [bn_s, w0z, if_true, f_X8_refuse, f_X9_no, gd_b0, wr ha, show w32 4 = 4 from rfl]
    by_cases h1 : a < 0
    · rw [if_pos h1]; exact ws 1
    · rw [if_neg h1, if_pos (show (4 : Int) ≤ a by omega)]; exact ws 1
theorem place_X {μx μm : Mem} (R : Rel μx μm) {a b : Int} (ha : I32 a) (hb : I32 b) (v : Int) : ∃ r : Int, f_X8_placeTrouble a b μx = some (r, μx) ∧ f_X9_placed a b (st μm 30 0 1 v) = some (r, st μm 30 0 1 v) ∧ 0 ≤ r ∧ r ≤ 4 ∧ (r = 0 → ∃ p q : Nat, a = p ∧ b = q ∧ p < 4 ∧ (q : Int) < μm 32 0 p ∧ 0 ≤ μx 3 p 1 ∧ μx 3 p 1 ≤ 3 ∧ μx 3 p 1 = μm 31 0 p ∧ μx 3 p 2 = μm 32 0 p ∧ μm 32 0 p ≤ 40) := by
  unfold f_X8_placeTrouble f_X9_placed f_X9_trayed
  by_cases hp : 0 ≤ a ∧ a < 4
  · rw [isT_t ha hp.1 hp.2]
    obtain ⟨p, rfl⟩ := natOf hp.1
    have hp4 : p < 4 := by omega
    simp (disch := omega) only [bn_s, bn_if, w1z, if_false, w32n, wr hb, show w32 4 = 4 from rfl, gd_inb, ixn, st_nt]
    rw [if_neg (show ¬ (p : Int) < 0 by omega), if_pos (show (p : Int) < 4 by omega)]
    unfold f_X5_isMissing f_X5_has
    rcases R.2.2.1 p hp4 with ⟨h1, h2⟩ | ⟨h1, h2, h3, h4, h5, h6, h7⟩
    · refine ⟨3, ?_, ?_, by omega, by omega, fun h => by omega⟩
      · rw [h1, if_pos rfl, bn_s, if_neg (by decide)]
      · rw [h2, if_neg (by decide), if_neg (by decide)]
    · have e1 : w32 (μx 3 p 1) = μx 3 p 1 := w32_id (by omega) (by omega)
      have e2 : w32 (μm 32 0 p) = μm 32 0 p := w32_id (by omega) (by omega)
      rw [if_neg (show ¬ w32 (μx 3 p 1) = w32 (-1) by rw [e1, w32_m1]; omega), bn_s, if_pos w32_0, h4, e2, wr hb, if_pos h5, if_pos (show w32 0 ≤ 0 by decide)]
      by_cases g1 : b < 0
      · refine ⟨4, ?_, ?_, by omega, by omega, fun h => by omega⟩
        · rw [if_pos g1, bn_s, if_pos w32_0]
        · rw [if_pos g1]
      · by_cases g2 : b < μm 32 0 p
        · refine ⟨0, ?_, ?_, by omega, by omega, fun _ => ?_⟩
          · rw [if_neg g1, if_neg (show ¬ μm 32 0 p ≤ b by omega), bn_s, if_neg (by decide)]
          · rw [if_neg g1, if_pos g2]
          · obtain ⟨q, rfl⟩ := natOf (a := b) (by omega)
            exact ⟨p, q, rfl, rfl, hp4, g2, h1, h2, h3, h4, h6⟩
        · refine ⟨4, ?_, ?_, by omega, by omega, fun h => by omega⟩
          · rw [if_neg g1, if_pos (show μm 32 0 p ≤ b by omega), bn_s, if_pos w32_0]
          · rw [if_neg g1, if_neg g2]
  · rw [isT_f ha hp]
    refine ⟨1, ?_, ?_, by omega, by omega, fun h => by omega⟩
    · rw [bn_s, if_pos w32_0]
    · have e := wr ha
      by_cases g1 : a < 0
      · rw [if_pos (show w32 a < 0 by omega), bn_s, if_neg (by decide)]
      · rw [if_neg (show ¬ w32 a < 0 by omega), if_neg (by rw [show w32 4 = 4 from rfl]; omega), bn_s, if_neg (by decide)]
theorem cutI {a : Int} (ha : I64 a) (s : Int) : I64 (w32 (i8 a)) ∧ I64 (w32 (i16 a)) ∧ I64 (w32 a) := by
  refine ⟨⟨?_, ?_⟩, ⟨?_, ?_⟩, ⟨?_, ?_⟩⟩
  · have := w32_ge (i8 a); omega
  · have := w32_le (i8 a); omega
  · have := w32_ge (i16 a); omega
  · have := w32_le (i16 a); omega
  · have := w32_ge a; omega
  · have := w32_le a; omega
theorem Rel_pl {μx μm : Mem} (R : Rel μx μm) (r : Int) : Rel (st μx 0 0 0 r) (st (st μm 30 0 1 0) 30 0 0 r) := by
  refine Rel_ext R sx_tag (fun t h _ _ => ?_) (fun k h => ?_) ?_
  · rw [st_tag _ h, st_tag _ h]
  · rw [st_nk _ (by omega), st_nk _ (by omega)]
  · rw [st_eq, st_eq]
theorem op_write {μx μm : Mem} (R : Rel μx μm) {a b c : Int} (ha : I32 a) (hb : I32 b) (hc : I64 c) : Step (f_X8_write a b c μx) (f_X9_write a b c μm) := by
  unfold f_X8_write f_X9_write
  obtain ⟨r, hx, hm, hr0, hr4, hr⟩ := place_X R ha hb 0
  rw [hx, hm, bn_s, bn_s, st_eq, w32_id (x := r) (by omega) (by omega)]
  by_cases h0 : r = 0
  · obtain ⟨p, q, rfl, rfl, hp4, hq, g1, g2, g3, g4, g6⟩ := hr h0
    subst h0
    simp (disch := omega) only [if_true, gd_inb, ixn, Int.le_refl]
    unfold f_X5_put f_X5_has f_X5_cut f_X9_cut
    have e1 : w32 (μm 31 0 p) = μm 31 0 p := w32_id (by omega) (by omega)
    have e2 : w32 (μm 32 0 p) = μm 32 0 p := w32_id (by omega) (by omega)
    rw [if_neg (show ¬ w32 (q : Int) < 0 by rw [w32n (by omega)]; omega), if_neg (show ¬ w32 (μx 3 p 2) ≤ w32 (q : Int) by rw [g4, e2, w32n (by omega)]; omega), bn_s, if_neg (by decide)]
    have key : ∀ z : Int, I64 z → Step (bn (bn (some (z, μx)) fun r5 μ6 => gd (inb (q : Int) 40) (some (0, st μ6 4 p (ix (q : Int)) r5))) fun r6 μ7 => bn (f_X8_well μ7) fun r9 μ10 => gd (bb r9) (some (r9, μ10))) (bn (some (z, st (st μm 30 0 1 0) 30 0 0 0)) fun r6 μ7 => some (1, st μ7 33 0 (ix (40 * (p : Int) + q)) r6)) := by
      intro z hz
      simp only [bn_s, f_X8_well]
      rw [gd_inb _ (by omega) (by omega) (by omega), bn_s, gd_b1, ixn (by omega), show (40 * (p : Int) + q) = ((40 * p + q : Nat) : Int) by omega, ixn (by omega)]
      refine Step_mk rfl (Rel_tray R (fun t h0 h3 h4 => ?_) (fun t h0 h1 h2 h3 => ?_) (fun k h => ?_) ?_ ?_)
      · rw [st_tag _ h0, st_tag _ h4]
      · rw [st_tag _ h3, st_tag _ h0, st_tag _ h0]
      · rw [st_nt _ (by decide), st_nk _ (by omega), st_nk _ (by omega)]
      · rw [st_eq, st_nt _ (by decide), st_eq]
      · intro t ht
        simp (disch := decide) only [st_tag, st_at]
        rcases R.2.2.1 t ht with h | ⟨h1, h2, h3, h4, h5, h6, h7⟩
        · exact Or.inl h
        · refine Or.inr ⟨h1, h2, h3, h4, h5, h6, fun k hk => ?_⟩
          by_cases hkk : t = p ∧ k = q
          · obtain ⟨rfl, rfl⟩ := hkk
            rw [st_eq, up_eq]; exact ⟨rfl, hz⟩
          · rw [up_ne _ _ (by omega)]
            by_cases htp : t = p
            · rw [htp, st_nk _ (by omega)]; rw [htp] at h7 hk; exact h7 k hk
            · rw [st_ni _ htp]; exact h7 k hk
    have hcc := cutI hc 0
    have e31 : st (st μm 30 0 1 0) 30 0 0 0 31 0 p = μm 31 0 p := by rw [st_nt _ (by decide), st_nt _ (by decide)]
    rw [e31, g3, e1, w32_1, show w32 2 = 2 from rfl]
    by_cases k0 : μm 31 0 p = 0
    · rw [if_pos k0, if_pos k0]; exact key _ hcc.1
    · rw [if_neg k0, if_neg k0]
      by_cases k1 : μm 31 0 p = 1
      · rw [if_pos k1, if_pos k1]; exact key _ hcc.2.1
      · rw [if_neg k1, if_neg k1]
        by_cases k2 : μm 31 0 p = 2
        · rw [if_pos k2, if_pos k2]; exact key _ hcc.2.2
        · rw [if_neg k2, if_neg k2]; exact key _ hc
  · rw [if_neg h0, if_neg (show ¬ r ≤ 0 by omega)]
    simp only [f_X8_refuse, bn_s, gd_b0]
    exact Step_mk rfl (Rel_pl R r)
theorem op_read {μx μm : Mem} (R : Rel μx μm) {a b : Int} (ha : I32 a) (hb : I32 b) : Step (f_X8_read a b μx) (f_X9_read a b μm) := by
  unfold f_X8_read f_X9_read
  obtain ⟨r, hx, hm, hr0, hr4, hr⟩ := place_X R ha hb 0
  rw [hx, hm, bn_s, bn_s, st_eq, w32_id (x := r) (by omega) (by omega)]
  by_cases h0 : r = 0
  · obtain ⟨p, q, rfl, rfl, hp4, hq, g1, g2, g3, g4, g6⟩ := hr h0
    subst h0
    simp (disch := omega) only [if_true, gd_inb, ixn, Int.le_refl]
    unfold f_X5_numberAt f_X5_has
    have e2 : w32 (μm 32 0 p) = μm 32 0 p := w32_id (by omega) (by omega)
    rw [st_nt _ (by decide), if_neg (show ¬ w32 (q : Int) < 0 by rw [w32n (by omega)]; omega), if_neg (show ¬ w32 (μx 3 p 2) ≤ w32 (q : Int) by rw [g4, e2, w32n (by omega)]; omega), bn_s, if_neg (by decide), gd_inb _ (by omega) (by omega) (by omega), bn_s, ixn (by omega), show (40 * (p : Int) + q) = ((40 * p + q : Nat) : Int) by omega, ixn (by omega), st_nt _ (by decide), st_nt _ (by decide), st_nt _ (by decide)]
    refine Step_mk ?_ (Rel_ok R)
    rcases R.2.2.1 p hp4 with h | ⟨h1, h2, h3, h4, h5, h6, h7⟩
    · omega
    · exact (h7 q hq).1
  · rw [if_neg h0, if_neg (show ¬ r ≤ 0 by omega)]
    simp only [f_X8_refuseNumber, bn_s, w32_m1]
    exact Step_mk rfl (Rel_pl R r)
