/-! pour -/
def pm (μ : Mem) (A B l h : Nat) : Mem := fun t i q => if t = 33 ∧ i = 0 ∧ B + l ≤ q ∧ q < B + h then μ 33 0 (A + (q - B)) else μ t i q
theorem pm_0 (μ : Mem) (A B l : Nat) : pm μ A B l l = μ := by
  funext t i q
  unfold pm
  rw [if_neg (by omega)]
/-- the next number up -/
theorem pm_up (μ : Mem) {A B k : Nat} (h : A ≥ B ∨ A + k < B) : st (pm μ A B 0 k) 33 0 (B + k) (pm μ A B 0 k 33 0 (A + k)) = pm μ A B 0 (k + 1) := by
  have e : pm μ A B 0 k 33 0 (A + k) = μ 33 0 (A + k) := by unfold pm; rw [if_neg (by omega)]
  rw [e]
  funext t i q
  by_cases ht : t = 33 ∧ i = 0
  · obtain ⟨rfl, rfl⟩ := ht
    by_cases hq : q = B + k
    · subst hq
      rw [st_eq]
      unfold pm
      rw [if_pos (by omega), Nat.add_sub_cancel_left]
    · rw [st_nk _ hq]
      unfold pm
      by_cases hr : B ≤ q ∧ q < B + k
      · rw [if_pos (by omega), if_pos (by omega)]
      · rw [if_neg (by omega), if_neg (by omega)]
  · rw [st_ne _ ht]
    unfold pm
    rw [if_neg (by omega), if_neg (by omega)]
theorem pm_dn (μ : Mem) {A B k m : Nat} (hk : k < m) (h : A ≤ B ∨ B + m ≤ A) : st (pm μ A B (m - k) m) 33 0 (B + (m - 1 - k)) (pm μ A B (m - k) m 33 0 (A + (m - 1 - k))) = pm μ A B (m - (k + 1)) m := by
  have e : pm μ A B (m - k) m 33 0 (A + (m - 1 - k)) = μ 33 0 (A + (m - 1 - k)) := by unfold pm; rw [if_neg (by omega)]
  rw [e]
  funext t i q
  by_cases ht : t = 33 ∧ i = 0
  · obtain ⟨rfl, rfl⟩ := ht
    by_cases hq : q = B + (m - 1 - k)
    · subst hq
      rw [st_eq]
      unfold pm
      rw [if_pos (by omega), Nat.add_sub_cancel_left]
    · rw [st_nk _ hq]
      unfold pm
      by_cases hr : B + (m - k) ≤ q ∧ q < B + m
      · rw [if_pos (by omega), if_pos (by omega)]
      · rw [if_neg (by omega), if_neg (by omega)]
  · rw [st_ne _ ht]
    unfold pm
    rw [if_neg (by omega), if_neg (by omega)]
theorem pourM0 {x1 x2 x3 x4 m : Nat} (μ : Mem) (h1 : 40 * x1 + x2 + m ≤ 160) (h2 : 40 * x3 + x4 + m ≤ 160) (hab : ∀ k, k < m → 40 * x1 + x2 ≥ 40 * x3 + x4 ∨ 40 * x1 + x2 + k < 40 * x3 + x4) : ∀ (d n k : Nat), d + k = m → d < n → f_X9_pour_L158 x1 x2 x3 x4 m 0 n (k : Int) (pm μ (40 * x1 + x2) (40 * x3 + x4) 0 k) = some (1, pm μ (40 * x1 + x2) (40 * x3 + x4) 0 m) := by
  intro d
  induction d with
  | zero =>
    intro n k hd hn
    obtain ⟨n, rfl⟩ : ∃ q, n = q + 1 := ⟨n - 1, by omega⟩
    rw [f_X9_pour_L158.eq_2, if_pos (by rw [w32n (by omega), w32n (by omega)]; omega), show k = m by omega]
  | succ d ih =>
    intro n k hd hn
    obtain ⟨n, rfl⟩ : ∃ q, n = q + 1 := ⟨n - 1, by omega⟩
    rw [f_X9_pour_L158.eq_2, if_neg (by rw [w32n (by omega), w32n (by omega)]; omega), jn_u, if_pos w32_0]
    dsimp only
    rw [gd_inb _ (by omega) (by omega) (by omega), gd_inb _ (by omega) (by omega) (by omega), show (40 * (x1 : Int) + x2 + k) = ((40 * x1 + x2 + k : Nat) : Int) by omega, show (40 * (x3 : Int) + x4 + k) = ((40 * x3 + x4 + k : Nat) : Int) by omega, ixn (by omega), ixn (by omega), show ((k : Int) + 1) = ((k + 1 : Nat) : Int) by omega, pm_up μ (hab k (by omega))]
    exact ih n (k + 1) (by omega) (by omega)
theorem pourM1 {x1 x2 x3 x4 m : Nat} (μ : Mem) (h1 : 40 * x1 + x2 + m ≤ 160) (h2 : 40 * x3 + x4 + m ≤ 160) (hab : 40 * x1 + x2 ≤ 40 * x3 + x4 ∨ 40 * x3 + x4 + m ≤ 40 * x1 + x2) : ∀ (d n k : Nat), d + k = m → d < n → f_X9_pour_L158 x1 x2 x3 x4 m 1 n (k : Int) (pm μ (40 * x1 + x2) (40 * x3 + x4) (m - k) m) = some (1, pm μ (40 * x1 + x2) (40 * x3 + x4) 0 m) := by
  intro d
  induction d with
  | zero =>
    intro n k hd hn
    obtain ⟨n, rfl⟩ : ∃ q, n = q + 1 := ⟨n - 1, by omega⟩
    rw [f_X9_pour_L158.eq_2, if_pos (by rw [w32n (by omega), w32n (by omega)]; omega), show m - k = 0 by omega]
  | succ d ih =>
    intro n k hd hn
    obtain ⟨n, rfl⟩ : ∃ q, n = q + 1 := ⟨n - 1, by omega⟩
    rw [f_X9_pour_L158.eq_2, if_neg (by rw [w32n (by omega), w32n (by omega)]; omega), jn_u, if_neg (by decide)]
    dsimp only
    rw [gd_inb _ (by omega) (by omega) (by omega), gd_inb _ (by omega) (by omega) (by omega), show (40 * (x1 : Int) + x2 + ((m : Int) - 1 - k)) = ((40 * x1 + x2 + (m - 1 - k) : Nat) : Int) by omega, show (40 * (x3 : Int) + x4 + ((m : Int) - 1 - k)) = ((40 * x3 + x4 + (m - 1 - k) : Nat) : Int) by omega, ixn (by omega), ixn (by omega), show ((k : Int) + 1) = ((k + 1 : Nat) : Int) by omega, pm_dn μ (by omega) hab]
    exact ih n (k + 1) (by omega) (by omega)
theorem hasRun_t {μ : Mem} {i : Nat} {a b : Int} (ha : I32 a) (hb : I32 b) (h0 : 0 ≤ a) (h1 : 0 ≤ b) (h2 : a + b ≤ μ 3 i 2) (h3 : μ 3 i 2 ≤ 40) : f_X5_hasRun i a b μ = some (1, μ) := by
  unfold f_X5_hasRun
  have e1 := wr ha
  have e2 := wr hb
  have e3 : w32 (μ 3 i 2 - b) = μ 3 i 2 - b := w32_id (by omega) (by omega)
  rw [if_neg (by omega), if_neg (by omega), if_neg (by omega)]
theorem hasRun_f {μ : Mem} {i : Nat} {a b : Int} (ha : I32 a) (hb : I32 b) (h1 : 0 ≤ b) (h2 : ¬ (0 ≤ a ∧ a + b ≤ μ 3 i 2)) (h3 : μ 3 i 2 ≤ 40) (h4 : 0 ≤ μ 3 i 2) : f_X5_hasRun i a b μ = some (0, μ) := by
  unfold f_X5_hasRun
  have e1 := wr ha
  have e2 := wr hb
  have hb2 := hb.2
  have e3 : w32 (μ 3 i 2 - b) = μ 3 i 2 - b := w32_id (by omega) (by omega)
  by_cases g : a < 0
  · rw [if_pos (by omega)]
  · rw [if_neg (by omega), if_neg (by omega), if_pos (by omega)]
theorem miss_t {μ : Mem} {i : Nat} (h : μ 3 i 1 = -1) : f_X5_isMissing i μ = some (1, μ) := by
  unfold f_X5_isMissing
  rw [h, if_pos rfl]
theorem miss_f {μ : Mem} {i : Nat} (h : 0 ≤ μ 3 i 1) (h2 : μ 3 i 1 ≤ 3) : f_X5_isMissing i μ = some (0, μ) := by
  unfold f_X5_isMissing
  rw [if_neg (by rw [w32_id (by omega) (by omega), w32_m1]; omega)]
set_option maxHeartbeats 4000000 in
theorem op_pour {μx μm : Mem} (R : Rel μx μm) {a b c d e : Int} (ha : I32 a) (hb : I32 b) (hc : I32 c) (hd : I32 d) (he : I32 e) : Step (f_X8_pour a b c d e μx) (f_X9_pour a b c d e μm) := by
  unfold f_X8_pour f_X9_pour
  rw [m0_def]
  have ws : ∀ v, Step (some (0, st μx 0 0 0 v)) (some (0, st (m0 μm) 30 0 0 v)) := fun v => ⟨_, _, _, rfl, rfl, Rel_rf R v⟩
  have wa := wr ha
  have wb := wr hb
  have wc := wr hc
  have wd := wr hd
  have we := wr he
  have w4 : w32 4 = 4 := rfl
  by_cases hp : 0 ≤ a ∧ a < 4
  · rw [isT_t ha hp.1 hp.2, bn_s, if_neg (by decide), if_neg (show ¬ w32 a < 0 by omega), if_neg (show ¬ w32 4 ≤ w32 a by omega)]
    by_cases hq : 0 ≤ c ∧ c < 4
    · rw [isT_t hc hq.1 hq.2, bn_s, if_neg (by decide), if_neg (show ¬ w32 c < 0 by omega), if_pos (show w32 c < w32 4 by omega)]
      obtain ⟨p, rfl⟩ := natOf hp.1
      obtain ⟨q, rfl⟩ := natOf hq.1
      have hp4 : p < 4 := by omega
      have hq4 : q < 4 := by omega
      simp (disch := omega) only [gd_inb, ixn, m0_tag, f_X8_refuse, f_X9_no, bn_s, gd_b0]
      rcases R.2.2.1 p hp4 with ⟨h1, h2⟩ | ⟨h1, h2, h3, h4, h5, h6, h7⟩
      · rw [miss_t h1, bn_s, if_neg (by decide), h2, if_pos (by decide)]
        exact ws 3
      · have ep : w32 (μm 32 0 p) = μm 32 0 p := w32_id (by omega) (by omega)
        rw [miss_f h1 h2, bn_s, if_pos w32_0, if_neg (show ¬ w32 (μm 32 0 p) < 0 by omega)]
        rcases R.2.2.1 q hq4 with ⟨g1, g2⟩ | ⟨g1, g2, g3, g4, g5, g6, g7⟩
        · rw [miss_t g1, bn_s, if_neg (by decide), g2, if_neg (by decide)]
          exact ws 3
        · have eq' : w32 (μm 32 0 q) = μm 32 0 q := w32_id (by omega) (by omega)
          rw [miss_f g1 g2, bn_s, if_pos w32_0, if_pos (show 0 ≤ w32 (μm 32 0 q) by omega), h3, g3]
          by_cases k1 : w32 (μm 31 0 p) = w32 (μm 31 0 q)
          · rw [if_pos k1, if_pos k1]
            by_cases k2 : 0 ≤ e
            · rw [if_pos (show 0 ≤ w32 e by omega), if_pos (show 0 ≤ w32 e by omega)]
              have hb2 := hb.2
              have hd2 := hd.2
              have he2 := he.2
              have hb1 := hb.1
              have hd1 := hd.1
              have e1 : w64 (w32 b + w32 e) = b + e := by rw [wb, we]; exact w64_id (by omega) (by omega)
              have e2 : w64 (w32 d + w32 e) = d + e := by rw [wd, we]; exact w64_id (by omega) (by omega)
              have e3 : w64 (w32 (μm 32 0 p)) = μm 32 0 p := by rw [w64_w32, ep]
              have e4 : w64 (w32 (μm 32 0 q)) = μm 32 0 q := by rw [w64_w32, eq']
              by_cases k3 : 0 ≤ b ∧ b + e ≤ μx 3 p 2
              · rw [hasRun_t hb he k3.1 k2 k3.2 (by omega), bn_s, if_neg (by decide), if_neg (show ¬ w32 b < 0 by omega)]
                by_cases k4 : 0 ≤ d ∧ d + e ≤ μx 3 q 2
                · rw [hasRun_t hd he k4.1 k2 k4.2 (by omega), bn_s, if_neg (by decide), if_neg (show ¬ w32 d < 0 by omega), if_neg (show ¬ w64 (w32 (μm 32 0 p)) < w64 (w32 b + w32 e) by omega), if_pos (show w64 (w32 d + w32 e) ≤ w64 (w32 (μm 32 0 q)) by omega), jn_u]
                  obtain ⟨i, rfl⟩ := natOf k3.1
                  obtain ⟨j, rfl⟩ := natOf k4.1
                  obtain ⟨m, rfl⟩ := natOf k2
                  rw [gd_t _ (by rw [ixn (by omega), ixn (by omega), ixn (by omega)]; refine ⟨⟨by omega, by omega⟩, by omega, by omega, by omega⟩)]
                  simp only [f_X8_well, bn_s, gd_b1]
                  have hM : (if w32 (j : Int) ≤ w32 (i : Int) then f_X9_pour_L158 p i q j m 0 FU 0 (m0 μm) else f_X9_pour_L158 p i q j m 1 FU 0 (m0 μm)) = some (1, pm (m0 μm) (40 * p + i) (40 * q + j) 0 m) := by
                    by_cases hji : j ≤ i
                    · rw [if_pos (by omega)]
                      have := pourM0 (x1 := p) (x2 := i) (x3 := q) (x4 := j) (m := m) (m0 μm) (by omega) (by omega) (fun k hk => by
                        rcases Nat.lt_trichotomy p q with z | z | z
                        · right; omega
                        · left; omega
                        · left; omega) m FU 0 (by omega) (by unfold FU; omega)
                      rw [pm_0] at this
                      exact this
                    · rw [if_neg (by omega)]
                      have := pourM1 (x1 := p) (x2 := i) (x3 := q) (x4 := j) (m := m) (m0 μm) (by omega) (by omega) (by
                        rcases Nat.lt_trichotomy p q with z | z | z
                        · left; omega
                        · left; omega
                        · right; omega) m FU 0 (by omega) (by unfold FU; omega)
                      rw [Nat.sub_zero, pm_0] at this
                      exact this
                  rw [hM]
                  refine Step_mk rfl (Rel_tray R (fun t h0 h3 h4 => ?_) (fun t h0 h1 h2 h3 => ?_) (fun k h => ?_) ?_ ?_)
                  · rw [st_tag _ h0]
                    funext i'
                    unfold cpy
                    rw [if_neg (fun q => h4 q.1)]
                  · funext i' k'
                    unfold pm
                    rw [if_neg (fun q => h3 q.1), m0_tag _ h0]
                  · unfold pm
                    rw [if_neg (by omega), m0_k _ (by omega)]
                  · unfold pm
                    rw [st_eq, if_neg (by omega), m0_0]
                  · intro t ht
                    have e31 : pm (m0 μm) (40 * p + i) (40 * q + j) 0 m 31 = μm 31 := by funext i' k'; unfold pm; rw [if_neg (by omega), m0_tag _ (by decide)]
                    have e32 : pm (m0 μm) (40 * p + i) (40 * q + j) 0 m 32 = μm 32 := by funext i' k'; unfold pm; rw [if_neg (by omega), m0_tag _ (by decide)]
                    have e3 : st (cpy μx 4 p 4 q i j m) 0 0 0 0 3 = μx 3 := by rw [st_tag _ (by decide)]; funext i'; unfold cpy; rw [if_neg (by omega)]
                    rw [e31, e32, e3]
                    rcases R.2.2.1 t ht with h | ⟨l1, l2, l3, l4, l5, l6, l7⟩
                    · exact Or.inl h
                    · refine Or.inr ⟨l1, l2, l3, l4, l5, l6, fun k hk => ?_⟩
                      rw [st_tag _ (by decide)]
                      unfold cpy pm
                      rw [ixn (by omega), ixn (by omega), ixn (by omega)]
                      by_cases htq : t = q
                      · subst htq
                        rw [if_pos ⟨rfl, rfl⟩]
                        by_cases hkr : j ≤ k ∧ k < j + m
                        · rw [if_pos hkr, if_pos ⟨rfl, rfl, by omega, by omega⟩, m0_tag _ (by decide)]
                          have := h7 (i + (k - j)) (by omega)
                          rw [show 40 * p + i + (40 * t + k - (40 * t + j)) = 40 * p + (i + (k - j)) by omega]
                          exact this
                        · rw [if_neg hkr, if_neg (by omega), m0_tag _ (by decide)]
                          exact l7 k hk
                      · rw [if_neg (by omega), if_neg (by omega), m0_tag _ (by decide)]
                        exact l7 k hk
                · rw [hasRun_f hd he k2 k4 (by omega) (by omega), bn_s, if_pos w32_0]
                  by_cases k5 : d < 0
                  · rw [if_pos (show w32 d < 0 by omega)]; exact ws 4
                  · rw [if_neg (show ¬ w32 d < 0 by omega), if_neg (show ¬ w64 (w32 (μm 32 0 p)) < w64 (w32 b + w32 e) by omega), if_neg (show ¬ w64 (w32 d + w32 e) ≤ w64 (w32 (μm 32 0 q)) by omega)]; exact ws 4
              · rw [hasRun_f hb he k2 k3 (by omega) (by omega), bn_s, if_pos w32_0]
                by_cases k5 : b < 0
                · rw [if_pos (show w32 b < 0 by omega)]; exact ws 4
                · rw [if_neg (show ¬ w32 b < 0 by omega)]
                  by_cases k6 : d < 0
                  · rw [if_pos (show w32 d < 0 by omega)]; exact ws 4
                  · rw [if_neg (show ¬ w32 d < 0 by omega), if_pos (show w64 (w32 (μm 32 0 p)) < w64 (w32 b + w32 e) by omega)]; exact ws 4
            · rw [if_neg (show ¬ 0 ≤ w32 e by omega), if_neg (show ¬ 0 ≤ w32 e by omega)]; exact ws 6
          · rw [if_neg k1, if_neg k1]; exact ws 11
    · rw [isT_f hc hq]
      simp only [bn_s, w0z, if_true, f_X8_refuse, f_X9_no, gd_b0]
      by_cases h1 : c < 0
      · rw [if_pos (show w32 c < 0 by omega)]; exact ws 1
      · rw [if_neg (show ¬ w32 c < 0 by omega), if_neg (show ¬ w32 c < w32 4 by omega)]; exact ws 1
  · rw [isT_f ha hp]
    simp only [bn_s, w0z, if_true, f_X8_refuse, f_X9_no, gd_b0]
    by_cases h1 : a < 0
    · rw [if_pos (show w32 a < 0 by omega)]; exact ws 1
    · rw [if_neg (show ¬ w32 a < 0 by omega), if_pos (show w32 4 ≤ w32 a by omega)]; exact ws 1
