/-! either, again -/
/-- what a part's table is, of both -/
theorem part_tab {μx μm : Mem} (R : Rel μx μm) {p : Nat} (hp : (p : Int) < μm 30 0 7) : ∃ (r : Nat) (dd : Nat → Nat) (ww : Nat → Int) (aw : Int), 1 ≤ r ∧ r ≤ 8 ∧ μx 17 p 3 = (r : Int) ∧ μm 34 0 p = (r : Int) ∧ μx 17 p 4 = aw ∧ aw = sm (fun k => μm 39 0 (8 * p + k)) r ∧ 1 ≤ aw ∧ aw ≤ 8000 ∧ ∀ k, k < r → μx 18 p k = (dd k : Int) ∧ dd k < 100 ∧ μx 19 p k = ww k ∧ 1 ≤ ww k ∧ ww k ≤ 1000 ∧ μm 38 0 (8 * p + k) = (dd k : Int) ∧ μm 39 0 (8 * p + k) = ww k := by
  obtain ⟨r1, r2, r3, r4, r5, r6, r7⟩ := rp_of R hp
  unfold dt at r1 r5 r6
  dsimp only at r1 r5 r6
  have hb := sm_bd (f := fun k => μm 39 0 (8 * p + k)) (B := 1000) (μm 34 0 p).toNat (fun k hk => by have := r6 k (by omega); omega)
  have hg := sm_ge (f := fun k => μm 39 0 (8 * p + k)) (μm 34 0 p).toNat 0 (by omega) (fun k hk => by have := r6 k (by omega); omega)
  have h0 := r6 0 (by omega)
  refine ⟨(μm 34 0 p).toNat, fun k => (μm 38 0 (8 * p + k)).toNat, fun k => μm 39 0 (8 * p + k), μx 17 p 4, by omega, by omega, by omega, by omega, rfl, r5, ?_, ?_, fun k hk => ?_⟩
  · rw [r5]; omega
  · rw [r5]; omega
  · have := r6 k (by omega)
    refine ⟨?_, ?_, this.2.2.2.1, this.2.2.2.2.1, this.2.2.2.2.2, ?_, rfl⟩
    · dsimp only; omega
    · dsimp only; omega
    · dsimp only; omega
theorem eithM_1 {p q : Nat} {v w x5 : Int} {dd : Nat → Nat} {ww : Nat → Int} {r r2 : Nat} {aw : Int} (k137 : Mem → Option (Int × Mem)) (hp : p < 10) (hq : q < 10) (hr : r ≤ 8) (hr2 : r2 ≤ 8) (haw : I32 aw) (hv : I32 v) : ∀ (e n j : Nat) (μ : Mem), e + j = r → e < n → μ 34 0 p = (r : Int) → μ 34 0 q = (r2 : Int) → aw = sm (fun k => μ 39 0 (8 * q + k)) r2 → (∀ k, k < r → μ 38 0 (8 * p + k) = (dd k : Int) ∧ dd k < 100 ∧ μ 39 0 (8 * p + k) = ww k ∧ I32 (ww k)) →
    ∃ μ', f_X9_either_L77 p q v w x5 k137 n (j : Int) μ = k137 μ' ∧ (∀ t, t ≠ 43 → μ' t = μ t) ∧ ∀ d, μ' 43 0 d + sm (ad dd (fun k => v * aw * ww k) d) j = μ 43 0 d + sm (ad dd (fun k => v * aw * ww k) d) r := by
  intro e
  induction e with
  | zero =>
    intro n j μ he hn h3 h4 h5 hk
    obtain ⟨n, rfl⟩ : ∃ q, n = q + 1 := ⟨n - 1, by omega⟩
    refine ⟨μ, ?_, fun _ _ => rfl, fun d => by rw [show j = r by omega]⟩
    rw [f_X9_either_L77.eq_2, gd_inb _ (by omega) (by omega) (by omega), ixn (by omega), if_pos (by rw [h3, w32n (by omega), w32n (by omega)]; omega)]
  | succ e ih =>
    intro n j μ he hn h3 h4 h5 hk
    obtain ⟨n, rfl⟩ : ∃ q, n = q + 1 := ⟨n - 1, by omega⟩
    obtain ⟨k1, k2, k3, k4⟩ := hk j (by omega)
    obtain ⟨μ', a1, a2, a3⟩ := ih n (j + 1) (st μ 43 0 (dd j) (μ 43 0 (dd j) + v * ww j * aw)) (by omega) (by omega) (by rw [st_nt _ (by decide)]; exact h3) (by rw [st_nt _ (by decide)]; exact h4) (by rw [h5]; apply sm_congr; intro k _; rw [st_nt _ (by decide)]) (fun k hk' => by rw [st_nt _ (by decide), st_nt _ (by decide)]; exact hk k hk')
    refine ⟨μ', ?_, fun t ht => by rw [a2 t ht, st_tag _ ht], fun d => ?_⟩
    · have hsum := sumM (μ := μ) (p := q) hq (by rw [h4]; omega) (by rw [h4]; omega)
      rw [h4, Int.toNat_natCast, ← h5] at hsum
      rw [f_X9_either_L77.eq_2, gd_inb _ (by omega) (by omega) (by omega), ixn (by omega), if_neg (by rw [h3, w32n (by omega), w32n (by omega)]; omega), gd_inb _ (by omega) (by omega) (by omega), show (8 * (p : Int) + j) = ((8 * p + j : Nat) : Int) by omega, ixn (by omega), k1, gd_inb _ (by omega) (by omega) (by omega), gd_inb _ (by omega) (by omega) (by omega), hsum, bn_s, gd_inb _ (by omega) (by omega) (by omega), ixn (by omega), k3, wr k4, wr haw, wr hv, show ((j : Int) + 1) = ((j + 1 : Nat) : Int) by omega]
      exact a1
    · have := a3 d
      have e1 : sm (ad dd (fun k => v * aw * ww k) d) (j + 1) = sm (ad dd (fun k => v * aw * ww k) d) j + ad dd (fun k => v * aw * ww k) d j := rfl
      rw [e1] at this
      by_cases hd : dd j = d
      · subst hd
        rw [st_eq] at this
        have e2 : ad dd (fun k => v * aw * ww k) (dd j) j = v * aw * ww j := if_pos rfl
        have e3 : v * ww j * aw = v * aw * ww j := Int.mul_right_comm v (ww j) aw
        omega
      · rw [st_nk _ (Ne.symm hd)] at this
        have e2 : ad dd (fun k => v * aw * ww k) d j = 0 := if_neg hd
        omega
theorem eithM_2 {p q : Nat} {w x5 : Int} {dd : Nat → Nat} {ww : Nat → Int} {r r2 : Nat} {aw : Int} (hp : p < 10) (hq : q < 10) (hr : r ≤ 8) (hr2 : r2 ≤ 8) (haw : I32 aw) (hv : I32 w) : ∀ (e n j : Nat) (μ : Mem), e + j = r → e < n → μ 34 0 q = (r : Int) → μ 34 0 p = (r2 : Int) → aw = sm (fun k => μ 39 0 (8 * p + k)) r2 → (∀ k, k < r → μ 38 0 (8 * q + k) = (dd k : Int) ∧ dd k < 100 ∧ μ 39 0 (8 * q + k) = ww k ∧ I32 (ww k)) →
    ∃ μ', f_X9_either_L140 p q w x5 n (j : Int) μ = f_X9_adds x5 μ' ∧ (∀ t, t ≠ 43 → μ' t = μ t) ∧ ∀ d, μ' 43 0 d + sm (ad dd (fun k => w * aw * ww k) d) j = μ 43 0 d + sm (ad dd (fun k => w * aw * ww k) d) r := by
  intro e
  induction e with
  | zero =>
    intro n j μ he hn h3 h4 h5 hk
    obtain ⟨n, rfl⟩ : ∃ q, n = q + 1 := ⟨n - 1, by omega⟩
    refine ⟨μ, ?_, fun _ _ => rfl, fun d => by rw [show j = r by omega]⟩
    rw [f_X9_either_L140.eq_2, gd_inb _ (by omega) (by omega) (by omega), ixn (by omega), if_pos (by rw [h3, w32n (by omega), w32n (by omega)]; omega), bn_id]
  | succ e ih =>
    intro n j μ he hn h3 h4 h5 hk
    obtain ⟨n, rfl⟩ : ∃ q, n = q + 1 := ⟨n - 1, by omega⟩
    obtain ⟨k1, k2, k3, k4⟩ := hk j (by omega)
    obtain ⟨μ', a1, a2, a3⟩ := ih n (j + 1) (st μ 43 0 (dd j) (μ 43 0 (dd j) + w * ww j * aw)) (by omega) (by omega) (by rw [st_nt _ (by decide)]; exact h3) (by rw [st_nt _ (by decide)]; exact h4) (by rw [h5]; apply sm_congr; intro k _; rw [st_nt _ (by decide)]) (fun k hk' => by rw [st_nt _ (by decide), st_nt _ (by decide)]; exact hk k hk')
    refine ⟨μ', ?_, fun t ht => by rw [a2 t ht, st_tag _ ht], fun d => ?_⟩
    · have hsum := sumM (μ := μ) (p := p) hp (by rw [h4]; omega) (by rw [h4]; omega)
      rw [h4, Int.toNat_natCast, ← h5] at hsum
      rw [f_X9_either_L140.eq_2, gd_inb _ (by omega) (by omega) (by omega), ixn (by omega), if_neg (by rw [h3, w32n (by omega), w32n (by omega)]; omega), gd_inb _ (by omega) (by omega) (by omega), show (8 * (q : Int) + j) = ((8 * q + j : Nat) : Int) by omega, ixn (by omega), k1, gd_inb _ (by omega) (by omega) (by omega), gd_inb _ (by omega) (by omega) (by omega), hsum, bn_s, gd_inb _ (by omega) (by omega) (by omega), ixn (by omega), k3, wr k4, wr haw, wr hv, show ((j : Int) + 1) = ((j + 1 : Nat) : Int) by omega]
      exact a1
    · have := a3 d
      have e1 : sm (ad dd (fun k => w * aw * ww k) d) (j + 1) = sm (ad dd (fun k => w * aw * ww k) d) j + ad dd (fun k => w * aw * ww k) d j := rfl
      rw [e1] at this
      by_cases hd : dd j = d
      · subst hd
        rw [st_eq] at this
        have e2 : ad dd (fun k => w * aw * ww k) (dd j) j = w * aw * ww j := if_pos rfl
        have e3 : w * ww j * aw = w * aw * ww j := Int.mul_right_comm w (ww j) aw
        omega
      · rw [st_nk _ (Ne.symm hd)] at this
        have e2 : ad dd (fun k => w * aw * ww k) d j = 0 := if_neg hd
        omega
theorem mul3_bd {a b c A B C : Int} (h1 : 0 ≤ a ∧ a ≤ A) (h2 : 0 ≤ b ∧ b ≤ B) (h3 : 0 ≤ c ∧ c ≤ C) : 0 ≤ a * b * c ∧ a * b * c ≤ A * B * C := by
  have e1 : a * b ≤ A * B := Int.mul_le_mul h1.2 h2.2 h2.1 (by omega)
  have e0 : 0 ≤ a * b := Int.mul_nonneg h1.1 h2.1
  exact ⟨Int.mul_nonneg e0 h3.1, Int.mul_le_mul e1 h3.2 h3.1 (by omega)⟩
theorem mul3_pos {a b c : Int} (h1 : 0 < a) (h2 : 0 < b) (h3 : 0 < c) : 0 < a * b * c := Int.mul_pos (Int.mul_pos h1 h2) h3
theorem ad_bd {dd : Nat → Nat} {ww : Nat → Int} {B : Int} {n : Nat} (hB : 0 ≤ B) (h : ∀ k, k < n → 0 ≤ ww k ∧ ww k ≤ B) (d : Nat) : 0 ≤ sm (ad dd ww d) n ∧ sm (ad dd ww d) n ≤ B * n := by
  apply sm_bd
  intro k hk
  unfold ad
  have := h k hk
  split <;> omega
set_option maxHeartbeats 4000000 in
theorem op_either {μx μm : Mem} (R : Rel μx μm) {a b v w h : Int} (ha : I32 a) (hb : I32 b) (hv : I32 v) (hw : I32 w) (hh : I32 h) : Step (f_X8_either a b v w h μx) (f_X9_either a b v w h μm) := by
  unfold f_X8_either f_X9_either
  obtain ⟨hn1, hn2, hn3⟩ := np_of R
  rw [m0_def]
  have e7 : m0 μm 30 0 7 = μm 30 0 7 := m0_k _ (by decide)
  have ws : ∀ v, Step (some (-1, st μx 0 0 0 v)) (some (-1, st (m0 μm) 30 0 0 v)) := fun v => ⟨_, _, _, rfl, rfl, Rel_rf R v⟩
  have wv := wr hv
  have ww' := wr hw
  have e99 : w32 99 = 99 := rfl
  have e1 : w32 1 = 1 := rfl
  by_cases hp : 0 ≤ a ∧ a < μm 30 0 7
  · rw [hasX_t ha hp.1 (by omega) (by omega), isM_t ha hp.1 (by omega) (by omega), bn_s, bn_s]
    simp only [w1z, if_false]
    by_cases hq : 0 ≤ b ∧ b < μm 30 0 7
    · rw [hasX_t hb hq.1 (by omega) (by omega), isM_t hb hq.1 (by omega) (by omega), bn_s, bn_s]
      simp only [w1z, if_false]
      simp only [f_X8_refuseNumber, f_X9_refuse, bn_s, bn_id]
      by_cases g1 : v < 1
      · rw [if_pos (by omega), if_pos (by omega)]; exact ws 5
      rw [if_neg (show ¬ w32 v < w32 1 by omega), if_neg (show ¬ w32 v < w32 1 by omega)]
      by_cases g2 : 99 < v
      · rw [if_pos (by omega), if_pos (by omega)]; exact ws 5
      rw [if_neg (show ¬ w32 99 < w32 v by omega), if_neg (show ¬ w32 99 < w32 v by omega)]
      by_cases g3 : w < 1
      · rw [if_pos (by omega), if_pos (by omega)]; exact ws 5
      rw [if_neg (show ¬ w32 w < w32 1 by omega), if_neg (show ¬ w32 w < w32 1 by omega)]
      by_cases g4 : 99 < w
      · rw [if_pos (by omega), if_pos (by omega)]; exact ws 5
      rw [if_neg (show ¬ w32 99 < w32 w by omega), if_neg (show ¬ w32 99 < w32 w by omega)]
      by_cases g5 : 0 ≤ h ∧ h ≤ 9
      · rw [(handsX hh).1 g5, (handsM hh).1 g5, bn_s, bn_s]
        simp only [w1z, if_false]
        obtain ⟨p, rfl⟩ := natOf hp.1
        obtain ⟨q, rfl⟩ := natOf hq.1
        have hp10 : p < 10 := by omega
        have hq10 : q < 10 := by omega
        obtain ⟨r, dd, wp, aw, p1, p2, p3, p4, p5, p6, p7, p8, p9⟩ := part_tab R hp.2
        obtain ⟨r', dd', wp', aw', q1, q2, q3, q4, q5, q6, q7, q8, q9⟩ := part_tab R hq.2
        rw [gd_inb _ (by omega) (by omega) (by omega), gd_inb _ (by omega) (by omega) (by omega), emptyX, bn_s, clrM, bn_s, ixn (by omega), ixn (by omega)]
        have f17 : fl_ μx 6 0 199 0 17 = μx 17 := fl_tag _ (by decide)
        have f18 : fl_ μx 6 0 199 0 18 = μx 18 := fl_tag _ (by decide)
        have f19 : fl_ μx 6 0 199 0 19 = μx 19 := fl_tag _ (by decide)
        have I9 : ∀ z : Int, 0 ≤ z → z ≤ 8000 → I32 z := fun z h1 h2 => ⟨by omega, by omega⟩
        rw [f17, q5, wv, wr (I9 aw' (by omega) q8)]
        obtain ⟨μ1, a1, a2, a3⟩ := onceX (q := p) (tm := v * aw') (dd := dd) (ww := wp) p2 (μ := fl_ μx 6 0 199 0) (by rw [f17]; exact p3) (fun k hk => by rw [f18, f19]; have := p9 k hk; exact ⟨this.1, by omega, this.2.2.1, I9 _ (by omega) (by omega)⟩)
        rw [a1, bn_s, a2 17 (by decide), f17, p5, ww', wr (I9 aw (by omega) p8)]
        obtain ⟨μ2, b1, b2, b3⟩ := onceX (q := q) (tm := w * aw) (dd := dd') (ww := wp') q2 (μ := μ1) (by rw [a2 17 (by decide), f17]; exact q3) (fun k hk => by rw [a2 18 (by decide), a2 19 (by decide), f18, f19]; have := q9 k hk; exact ⟨this.1, by omega, this.2.2.1, I9 _ (by omega) (by omega)⟩)
        rw [b1, bn_s]
        have gm : ∀ t, t ≠ 30 → t ≠ 43 → fl_ (m0 μm) 43 0 300 0 t = μm t := fun t h1 h2 => by rw [fl_tag _ h2, m0_tag _ h1]
        obtain ⟨μ3, c1, c2, c3⟩ := eithM_1 (p := p) (q := q) (v := v) (w := w) (x5 := h) (dd := dd) (ww := wp) (r := r) (r2 := r') (aw := aw') (fun μ50 => f_X9_either_L140 p q w h FU 0 μ50) hp10 hq10 p2 q2 (I9 _ (by omega) q8) hv r FU 0 (fl_ (m0 μm) 43 0 300 0) (by omega) (by unfold FU; omega) (by rw [gm 34 (by decide) (by decide)]; exact p4) (by rw [gm 34 (by decide) (by decide)]; exact q4) (by rw [gm 39 (by decide) (by decide)]; exact q6) (fun k hk => by rw [gm 38 (by decide) (by decide), gm 39 (by decide) (by decide)]; have := p9 k hk; exact ⟨this.2.2.2.2.2.1, this.2.1, this.2.2.2.2.2.2, I9 _ (by omega) (by omega)⟩)
        rw [show f_X9_either_L77 (p : Int) q v w h _ FU 0 _ = _ from c1]
        obtain ⟨μ4, d1, d2, d3⟩ := eithM_2 (p := p) (q := q) (w := w) (x5 := h) (dd := dd') (ww := wp') (r := r') (r2 := r) (aw := aw) hp10 hq10 q2 p2 (I9 _ (by omega) p8) hw r' FU 0 μ3 (by omega) (by unfold FU; omega) (by rw [c2 34 (by decide), gm 34 (by decide) (by decide)]; exact q4) (by rw [c2 34 (by decide), gm 34 (by decide) (by decide)]; exact p4) (by rw [c2 39 (by decide), gm 39 (by decide) (by decide)]; exact p6) (fun k hk => by rw [c2 38 (by decide), c2 39 (by decide), gm 38 (by decide) (by decide), gm 39 (by decide) (by decide)]; have := q9 k hk; exact ⟨this.2.2.2.2.2.1, this.2.1, this.2.2.2.2.2.2, I9 _ (by omega) (by omega)⟩)
        rw [show f_X9_either_L140 (p : Int) q w h FU 0 μ3 = _ from d1]
        have B1 : ∀ k, k < r → 0 ≤ v * aw' * wp k ∧ v * aw' * wp k ≤ 99 * 8000 * 1000 := fun k hk => by have := p9 k hk; exact mul3_bd ⟨by omega, by omega⟩ ⟨by omega, q8⟩ ⟨by omega, by omega⟩
        have B2 : ∀ k, k < r' → 0 ≤ w * aw * wp' k ∧ w * aw * wp' k ≤ 99 * 8000 * 1000 := fun k hk => by have := q9 k hk; exact mul3_bd ⟨by omega, by omega⟩ ⟨by omega, p8⟩ ⟨by omega, by omega⟩
        refine adds_step R (S := fun d => sm (ad dd (fun k => v * aw' * wp k) d) r + sm (ad dd' (fun k => w * aw * wp' k) d) r') (fun t ht => ?_) (fun t h30 h43 => ?_) (fun k k0 k1 => ?_) ?_ (fun d => ?_) (fun d hd => ?_) (fun d hd => ?_) (fun d hd => ?_) ⟨dd 0, ?_, ?_⟩ g5
        · rw [b2 t ht, a2 t ht, fl_tag _ ht]
        · rw [d2 t h43, c2 t h43, gm t h30 h43]
        · rw [d2 30 (by decide), c2 30 (by decide), fl_tag _ (by decide), m0_k _ ⟨k0, k1⟩]
        · rw [d2 30 (by decide), c2 30 (by decide), fl_tag _ (by decide), m0_0]
        · have h1 := ad_bd (dd := dd) (by omega) B1 d
          have h2 := ad_bd (dd := dd') (by omega) B2 d
          have p2' : (r : Int) ≤ 8 := by omega
          have q2' : (r' : Int) ≤ 8 := by omega
          try dsimp only
          omega
        · rw [b3 d, a3 d, fl_in _ hd]; omega
        · have h1 := d3 d
          have h2 := c3 d
          rw [show sm (ad dd' (fun k => w * aw * wp' k) d) 0 = 0 from rfl] at h1
          rw [show sm (ad dd (fun k => v * aw' * wp k) d) 0 = 0 from rfl, fl_in _ hd] at h2
          try dsimp only
          omega
        · have z1 : sm (ad dd (fun k => v * aw' * wp k) d) r = 0 := sm_zero _ (fun k hk => if_neg (by have := p9 k hk; omega))
          have z2 : sm (ad dd' (fun k => w * aw * wp' k) d) r' = 0 := sm_zero _ (fun k hk => if_neg (by have := q9 k hk; omega))
          try dsimp only
          rw [z1, z2]; rfl
        · have := p9 0 (by omega); omega
        · have h1 := sm_ge (f := ad dd (fun k => v * aw' * wp k) (dd 0)) r 0 (by omega) (fun k hk => by unfold ad; have := B1 k hk; split; exact this.1; exact Int.le_refl 0)
          have h2 := ad_bd (dd := dd') (by omega) B2 (dd 0)
          have h3 : ad dd (fun k => v * aw' * wp k) (dd 0) 0 = v * aw' * wp 0 := if_pos rfl
          have h4 : 0 < v * aw' * wp 0 := mul3_pos (by omega) (by omega) (by have := p9 0 (by omega); omega)
          try dsimp only
          omega
      · rw [(handsX hh).2 g5, (handsM hh).2 g5, bn_s, bn_s, if_pos w32_0, if_pos w32_0]
        exact ws 5
    · rw [hasX_f hb (by omega) (by omega) (by omega), isM_f hb (by omega) (by omega) (by omega)]
      simp only [f_X8_refuseNumber, f_X9_refuse, bn_s, w0z, if_true]
      exact ws 2
  · rw [hasX_f ha (by omega) (by omega) (by omega), isM_f ha (by omega) (by omega) (by omega)]
    simp only [f_X8_refuseNumber, f_X9_refuse, bn_s, w0z, if_true]
    exact ws 2

/-! again -/
theorem agM_i {p : Nat} {n1 x3 x4 x5 : Int} {dd : Nat → Nat} {ww : Nat → Int} {r k0 : Nat} (k194 : Mem → Option (Int × Mem)) (hp : p < 10) (hr : r ≤ 8) (hk0 : k0 < r) (hn1 : I32 n1) : ∀ (e n j : Nat) (μ : Mem), e + j = r → e < n → μ 34 0 p = (r : Int) → (∀ k, k < r → μ 38 0 (8 * p + k) = (dd k : Int) ∧ dd k < 100 ∧ μ 39 0 (8 * p + k) = ww k ∧ I32 (ww k)) →
    ∃ μ', f_X9_again_L124 p n1 x3 x4 x5 ((8 * p + k0 : Nat) : Int) k194 n (j : Int) μ = k194 μ' ∧ (∀ t, t ≠ 43 → μ' t = μ t) ∧ ∀ d, μ' 43 0 d + sm (ad (fun m => dd k0 + dd m) (fun m => n1 * ww k0 * ww m) d) j = μ 43 0 d + sm (ad (fun m => dd k0 + dd m) (fun m => n1 * ww k0 * ww m) d) r := by
  intro e
  induction e with
  | zero =>
    intro n j μ he hn h3 hk
    obtain ⟨n, rfl⟩ : ∃ q, n = q + 1 := ⟨n - 1, by omega⟩
    refine ⟨μ, ?_, fun _ _ => rfl, fun d => by rw [show j = r by omega]⟩
    rw [f_X9_again_L124.eq_2, gd_inb _ (by omega) (by omega) (by omega), ixn (by omega), if_pos (by rw [h3, w32n (by omega), w32n (by omega)]; omega)]
  | succ e ih =>
    intro n j μ he hn h3 hk
    obtain ⟨n, rfl⟩ : ∃ q, n = q + 1 := ⟨n - 1, by omega⟩
    obtain ⟨k1, k2, k3, k4⟩ := hk j (by omega)
    obtain ⟨l1, l2, l3, l4⟩ := hk k0 hk0
    obtain ⟨μ', a1, a2, a3⟩ := ih n (j + 1) (st μ 43 0 (dd k0 + dd j) (μ 43 0 (dd k0 + dd j) + n1 * ww k0 * ww j)) (by omega) (by omega) (by rw [st_nt _ (by decide)]; exact h3) (fun k hk' => by rw [st_nt _ (by decide), st_nt _ (by decide)]; exact hk k hk')
    refine ⟨μ', ?_, fun t ht => by rw [a2 t ht, st_tag _ ht], fun d => ?_⟩
    · rw [f_X9_again_L124.eq_2, gd_inb _ (by omega) (by omega) (by omega), ixn (by omega), if_neg (by rw [h3, w32n (by omega), w32n (by omega)]; omega), gd_inb _ (by omega) (by omega) (by omega), gd_inb _ (by omega) (by omega) (by omega), show (8 * (p : Int) + j) = ((8 * p + j : Nat) : Int) by omega, ixn (by omega), ixn (by omega), k1, l1, show ((dd k0 : Int) + dd j) = ((dd k0 + dd j : Nat) : Int) by omega, gd_inb _ (by omega) (by omega) (by omega), gd_inb _ (by omega) (by omega) (by omega), gd_inb _ (by omega) (by omega) (by omega), gd_inb _ (by omega) (by omega) (by omega), ixn (by omega), k3, l3, wr k4, wr l4, wr hn1, show ((j : Int) + 1) = ((j + 1 : Nat) : Int) by omega]
      exact a1
    · have := a3 d
      have e1 : sm (ad (fun m => dd k0 + dd m) (fun m => n1 * ww k0 * ww m) d) (j + 1) = sm (ad (fun m => dd k0 + dd m) (fun m => n1 * ww k0 * ww m) d) j + ad (fun m => dd k0 + dd m) (fun m => n1 * ww k0 * ww m) d j := rfl
      rw [e1] at this
      by_cases hd : dd k0 + dd j = d
      · subst hd
        rw [st_eq] at this
        have e2 : ad (fun m => dd k0 + dd m) (fun m => n1 * ww k0 * ww m) (dd k0 + dd j) j = n1 * ww k0 * ww j := if_pos rfl
        omega
      · rw [st_nk _ (Ne.symm hd)] at this
        have e2 : ad (fun m => dd k0 + dd m) (fun m => n1 * ww k0 * ww m) d j = 0 := if_neg hd
        omega
def ag (dd : Nat → Nat) (z n1 : Int) (ww : Nat → Int) (r d k : Nat) : Int := ad dd (fun k => z * ww k) d k + ad2 dd n1 ww r d k
theorem agM_L {p : Nat} {n1 d1 x4 : Int} {dd : Nat → Nat} {ww : Nat → Int} {r : Nat} {aw : Int} (hp : p < 10) (hr : r ≤ 8) (hn1 : I32 n1) (hdn : I32 (d1 - n1)) (haw : I32 aw) : ∀ (e n j : Nat) (μ : Mem), e + j = r → e < n → μ 34 0 p = (r : Int) → aw = sm (fun k => μ 39 0 (8 * p + k)) r → (∀ k, k < r → μ 38 0 (8 * p + k) = (dd k : Int) ∧ dd k < 100 ∧ μ 39 0 (8 * p + k) = ww k ∧ I32 (ww k)) →
    ∃ μ', f_X9_again_L66 p n1 d1 x4 n (j : Int) μ = f_X9_adds x4 μ' ∧ (∀ t, t ≠ 43 → μ' t = μ t) ∧ ∀ d, μ' 43 0 d + sm (ag dd ((d1 - n1) * aw) n1 ww r d) j = μ 43 0 d + sm (ag dd ((d1 - n1) * aw) n1 ww r d) r := by
  intro e
  induction e with
  | zero =>
    intro n j μ he hn h3 h5 hk
    obtain ⟨n, rfl⟩ : ∃ q, n = q + 1 := ⟨n - 1, by omega⟩
    refine ⟨μ, ?_, fun _ _ => rfl, fun d => by rw [show j = r by omega]⟩
    rw [f_X9_again_L66.eq_2, gd_inb _ (by omega) (by omega) (by omega), ixn (by omega), if_pos (by rw [h3, w32n (by omega), w32n (by omega)]; omega), bn_id]
  | succ e ih =>
    intro n j μ he hn h3 h5 hk
    obtain ⟨n, rfl⟩ : ∃ q, n = q + 1 := ⟨n - 1, by omega⟩
    obtain ⟨k1, k2, k3, k4⟩ := hk j (by omega)
    obtain ⟨μ1, c1, c2, c3⟩ := agM_i (p := p) (n1 := n1) (x3 := d1) (x4 := x4) (x5 := (j : Int)) (k0 := j) (fun μ54 => f_X9_again_L66 p n1 d1 x4 n ((j : Int) + 1) μ54) hp hr (by omega) hn1 r FU 0 (st μ 43 0 (dd j) (μ 43 0 (dd j) + (d1 - n1) * ww j * aw)) (by omega) (by unfold FU; omega) (by rw [st_nt _ (by decide)]; exact h3) (fun k hk' => by rw [st_nt _ (by decide), st_nt _ (by decide)]; exact hk k hk')
    have cc : ∀ t, t ≠ 43 → μ1 t = μ t := fun t ht => by rw [c2 t ht, st_tag _ ht]
    obtain ⟨μ', a1, a2, a3⟩ := ih n (j + 1) μ1 (by omega) (by omega) (by rw [cc 34 (by decide)]; exact h3) (by rw [cc 39 (by decide)]; exact h5) (fun k hk' => by rw [cc 38 (by decide), cc 39 (by decide)]; exact hk k hk')
    refine ⟨μ', ?_, fun t ht => by rw [a2 t ht, cc t ht], fun d => ?_⟩
    · have hsum := sumM (μ := μ) (p := p) hp (by rw [h3]; omega) (by rw [h3]; omega)
      rw [h3, Int.toNat_natCast, ← h5] at hsum
      rw [f_X9_again_L66.eq_2, gd_inb _ (by omega) (by omega) (by omega), ixn (by omega), if_neg (by rw [h3, w32n (by omega), w32n (by omega)]; omega), gd_inb _ (by omega) (by omega) (by omega), show (8 * (p : Int) + j) = ((8 * p + j : Nat) : Int) by omega, ixn (by omega), k1, gd_inb _ (by omega) (by omega) (by omega), gd_inb _ (by omega) (by omega) (by omega), hsum, bn_s, gd_inb _ (by omega) (by omega) (by omega), ixn (by omega), k3, wr k4, wr haw, wr hdn]
      rw [show f_X9_again_L124 (p : Int) n1 d1 x4 (j : Int) ((8 * p + j : Nat) : Int) _ FU 0 _ = _ from c1, show ((j : Int) + 1) = ((j + 1 : Nat) : Int) by omega]
      exact a1
    · have h1 := a3 d
      have h2 := c3 d
      have e1 : sm (ag dd ((d1 - n1) * aw) n1 ww r d) (j + 1) = sm (ag dd ((d1 - n1) * aw) n1 ww r d) j + (ad dd (fun k => (d1 - n1) * aw * ww k) d j + sm (ad (fun m => dd j + dd m) (fun m => n1 * ww j * ww m) d) r) := rfl
      rw [e1] at h1
      rw [show sm (ad (fun m => dd j + dd m) (fun m => n1 * ww j * ww m) d) 0 = 0 from rfl] at h2
      by_cases hd : dd j = d
      · subst hd
        rw [st_eq] at h2
        have e2 : ad dd (fun k => (d1 - n1) * aw * ww k) (dd j) j = (d1 - n1) * aw * ww j := if_pos rfl
        have e3 : (d1 - n1) * ww j * aw = (d1 - n1) * aw * ww j := Int.mul_right_comm _ (ww j) aw
        omega
      · rw [st_nk _ (Ne.symm hd)] at h2
        have e2 : ad dd (fun k => (d1 - n1) * aw * ww k) d j = 0 := if_neg hd
        omega
set_option maxHeartbeats 4000000 in
theorem op_again {μx μm : Mem} (R : Rel μx μm) {a n d h : Int} (ha : I32 a) (hn : I32 n) (hd : I32 d) (hh : I32 h) : Step (f_X8_again a n d h μx) (f_X9_again a n d h μm) := by
  unfold f_X8_again f_X9_again
  obtain ⟨hn1, hn2, hn3⟩ := np_of R
  rw [m0_def]
  have e7 : m0 μm 30 0 7 = μm 30 0 7 := m0_k _ (by decide)
  have ws : ∀ v, Step (some (-1, st μx 0 0 0 v)) (some (-1, st (m0 μm) 30 0 0 v)) := fun v => ⟨_, _, _, rfl, rfl, Rel_rf R v⟩
  have wn := wr hn
  have wd := wr hd
  have e99 : w32 99 = 99 := rfl
  have e1 : w32 1 = 1 := rfl
  have e2 : w32 2 = 2 := rfl
  by_cases hp : 0 ≤ a ∧ a < μm 30 0 7
  · rw [hasX_t ha hp.1 (by omega) (by omega), isM_t ha hp.1 (by omega) (by omega), bn_s, bn_s]
    simp only [w1z, if_false, f_X8_refuseNumber, f_X9_refuse, bn_s, bn_id]
    by_cases g : 1 ≤ n ∧ n < d ∧ d ≤ 99
    · rw [if_neg (show ¬ w32 n < w32 1 by omega), if_neg (show ¬ w32 d ≤ w32 n by omega), if_neg (show ¬ w32 99 < w32 d by omega), if_neg (show ¬ w32 d < w32 2 by omega), if_neg (show ¬ w32 99 < w32 d by omega), if_neg (show ¬ w32 n < w32 1 by omega), if_neg (show ¬ w32 d ≤ w32 n by omega)]
      by_cases g5 : 0 ≤ h ∧ h ≤ 9
      · rw [(handsX hh).1 g5, (handsM hh).1 g5, bn_s, bn_s]
        simp only [w1z, if_false]
        obtain ⟨p, rfl⟩ := natOf hp.1
        have hp10 : p < 10 := by omega
        obtain ⟨r, dd, wp, aw, p1, p2, p3, p4, p5, p6, p7, p8, p9⟩ := part_tab R hp.2
        rw [gd_inb _ (by omega) (by omega) (by omega), emptyX, bn_s, clrM, bn_s, ixn (by omega)]
        have f17 : fl_ μx 6 0 199 0 17 = μx 17 := fl_tag _ (by decide)
        have f18 : fl_ μx 6 0 199 0 18 = μx 18 := fl_tag _ (by decide)
        have f19 : fl_ μx 6 0 199 0 19 = μx 19 := fl_tag _ (by decide)
        have I9 : ∀ z : Int, 0 ≤ z → z ≤ 8000 → I32 z := fun z h1 h2 => ⟨by omega, by omega⟩
        have idn : I32 (d - n) := ⟨by omega, by omega⟩
        rw [f17, p5, wr idn, wn, wr (I9 aw (by omega) p8)]
        obtain ⟨μ1, a1, a2, a3⟩ := onceX (q := p) (tm := (d - n) * aw) (dd := dd) (ww := wp) p2 (μ := fl_ μx 6 0 199 0) (by rw [f17]; exact p3) (fun k hk => by rw [f18, f19]; have := p9 k hk; exact ⟨this.1, by omega, this.2.2.1, I9 _ (by omega) (by omega)⟩)
        rw [a1, bn_s]
        obtain ⟨μ2, b1, b2, b3⟩ := twiceX (q := p) (tm := n) (dd := dd) (ww := wp) p2 (μ := μ1) (by rw [a2 17 (by decide), f17]; exact p3) (fun k hk => by rw [a2 18 (by decide), a2 19 (by decide), f18, f19]; have := p9 k hk; exact ⟨this.1, by omega, this.2.2.1, I9 _ (by omega) (by omega)⟩)
        rw [b1, bn_s]
        have gm : ∀ t, t ≠ 30 → t ≠ 43 → fl_ (m0 μm) 43 0 300 0 t = μm t := fun t h1 h2 => by rw [fl_tag _ h2, m0_tag _ h1]
        obtain ⟨μ3, c1, c2, c3⟩ := agM_L (p := p) (n1 := n) (d1 := d) (x4 := h) (dd := dd) (ww := wp) (r := r) (aw := aw) hp10 p2 hn idn (I9 _ (by omega) p8) r FU 0 (fl_ (m0 μm) 43 0 300 0) (by omega) (by unfold FU; omega) (by rw [gm 34 (by decide) (by decide)]; exact p4) (by rw [gm 39 (by decide) (by decide)]; exact p6) (fun k hk => by rw [gm 38 (by decide) (by decide), gm 39 (by decide) (by decide)]; have := p9 k hk; exact ⟨this.2.2.2.2.2.1, this.2.1, this.2.2.2.2.2.2, I9 _ (by omega) (by omega)⟩)
        rw [show f_X9_again_L66 (p : Int) n d h FU 0 _ = _ from c1]
        have B1 : ∀ k, k < r → 0 ≤ (d - n) * aw * wp k ∧ (d - n) * aw * wp k ≤ 99 * 8000 * 1000 := fun k hk => by have := p9 k hk; exact mul3_bd ⟨by omega, by omega⟩ ⟨by omega, p8⟩ ⟨by omega, by omega⟩
        have B2 : ∀ k m, k < r → m < r → 0 ≤ n * wp k * wp m ∧ n * wp k * wp m ≤ 99 * 1000 * 1000 := fun k m hk hm => by have := p9 k hk; have := p9 m hm; exact mul3_bd ⟨by omega, by omega⟩ ⟨by omega, by omega⟩ ⟨by omega, by omega⟩
        have B3 : ∀ dy k, k < r → 0 ≤ ad2 dd n wp r dy k ∧ ad2 dd n wp r dy k ≤ 99 * 1000 * 1000 * 8 := fun dy k hk => by
          have := ad_bd (dd := fun m => dd k + dd m) (ww := fun m => n * wp k * wp m) (by omega) (fun m hm => B2 k m hk hm) dy
          have hr8 : (r : Int) ≤ 8 := by omega
          unfold ad2
          omega
        have B4 : ∀ dy, 0 ≤ sm (ad2 dd n wp r dy) r ∧ sm (ad2 dd n wp r dy) r ≤ 99 * 1000 * 1000 * 8 * r := fun dy => sm_bd r (fun k hk => B3 dy k hk)
        refine adds_step R (S := fun dy => sm (ad dd (fun k => (d - n) * aw * wp k) dy) r + sm (ad2 dd n wp r dy) r) (fun t ht => ?_) (fun t h30 h43 => ?_) (fun k k0 k1 => ?_) ?_ (fun dy => ?_) (fun dy hdy => ?_) (fun dy hdy => ?_) (fun dy hdy => ?_) ⟨dd 0, ?_, ?_⟩ g5
        · rw [b2 t ht, a2 t ht, fl_tag _ ht]
        · rw [c2 t h43, gm t h30 h43]
        · rw [c2 30 (by decide), fl_tag _ (by decide), m0_k _ ⟨k0, k1⟩]
        · rw [c2 30 (by decide), fl_tag _ (by decide), m0_0]
        · have h1 := ad_bd (dd := dd) (by omega) B1 dy
          have h2 := B4 dy
          have p2' : (r : Int) ≤ 8 := by omega
          omega
        · rw [b3 dy, a3 dy, fl_in _ hdy]; omega
        · have h2 := c3 dy
          rw [show sm (ag dd ((d - n) * aw) n wp r dy) 0 = 0 from rfl, fl_in _ hdy] at h2
          have h3 : sm (ag dd ((d - n) * aw) n wp r dy) r = sm (ad dd (fun k => (d - n) * aw * wp k) dy) r + sm (ad2 dd n wp r dy) r := sm_add _ _ r
          omega
        · have z1 : sm (ad dd (fun k => (d - n) * aw * wp k) dy) r = 0 := sm_zero _ (fun k hk => if_neg (by have := p9 k hk; omega))
          have z2 : sm (ad2 dd n wp r dy) r = 0 := sm_zero _ (fun k hk => sm_zero _ (fun m hm => if_neg (show ¬ dd k + dd m = dy by have := p9 k hk; have := p9 m hm; omega)))
          rw [z1, z2]; rfl
        · have := p9 0 (by omega); omega
        · have h1 := sm_ge (f := ad dd (fun k => (d - n) * aw * wp k) (dd 0)) r 0 (by omega) (fun k hk => by unfold ad; have := B1 k hk; split; exact this.1; exact Int.le_refl 0)
          have h2 := B4 (dd 0)
          have h3 : ad dd (fun k => (d - n) * aw * wp k) (dd 0) 0 = (d - n) * aw * wp 0 := if_pos rfl
          have h4 : 0 < (d - n) * aw * wp 0 := mul3_pos (by omega) (by omega) (by have := p9 0 (by omega); omega)
          omega
      · rw [(handsX hh).2 g5, (handsM hh).2 g5, bn_s, bn_s, if_pos w32_0, if_pos w32_0]
        exact ws 5
    · have hX : ∀ z : Option (Int × Mem), (if w32 n < w32 1 then some (((-1 : Int), st μx 0 0 0 5)) else if w32 d ≤ w32 n then some ((-1 : Int), st μx 0 0 0 5) else if w32 99 < w32 d then some ((-1 : Int), st μx 0 0 0 5) else z) = some ((-1 : Int), st μx 0 0 0 5) := by
        intro z
        by_cases k1 : n < 1
        · rw [if_pos (by omega)]
        rw [if_neg (show ¬ w32 n < w32 1 by omega)]
        by_cases k2 : d ≤ n
        · rw [if_pos (by omega)]
        rw [if_neg (show ¬ w32 d ≤ w32 n by omega), if_pos (by omega)]
      have hM : ∀ z : Option (Int × Mem), (if w32 d < w32 2 then some (((-1 : Int), st (m0 μm) 30 0 0 5)) else if w32 99 < w32 d then some ((-1 : Int), st (m0 μm) 30 0 0 5) else if w32 n < w32 1 then some ((-1 : Int), st (m0 μm) 30 0 0 5) else if w32 d ≤ w32 n then some ((-1 : Int), st (m0 μm) 30 0 0 5) else z) = some ((-1 : Int), st (m0 μm) 30 0 0 5) := by
        intro z
        by_cases k1 : d < 2
        · rw [if_pos (by omega)]
        rw [if_neg (show ¬ w32 d < w32 2 by omega)]
        by_cases k2 : 99 < d
        · rw [if_pos (by omega)]
        rw [if_neg (show ¬ w32 99 < w32 d by omega)]
        by_cases k3 : n < 1
        · rw [if_pos (by omega)]
        rw [if_neg (show ¬ w32 n < w32 1 by omega), if_pos (by omega)]
      rw [hX, hM]
      exact ws 5
  · rw [hasX_f ha (by omega) (by omega) (by omega), isM_f ha (by omega) (by omega) (by omega)]
    simp only [f_X8_refuseNumber, f_X9_refuse, bn_s, w0z, if_true]
    exact ws 2
