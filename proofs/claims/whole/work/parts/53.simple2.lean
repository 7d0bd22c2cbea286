/-! SIMPLE calls about parts -/
theorem hasX_t {μ : Mem} {a : Int} (ha : I32 a) (h0 : 0 ≤ a) (h1 : a < μ 15 0 3) (h2 : μ 15 0 3 ≤ 10) : f_X7_hasPart a μ = some (1, μ) := by
  unfold f_X7_hasPart
  rw [if_neg (by rw [wr ha]; omega), if_neg (by rw [wr ha, w32_id (by omega) (by omega)]; omega)]
theorem hasX_f {μ : Mem} {a : Int} (ha : I32 a) (h : ¬ (0 ≤ a ∧ a < μ 15 0 3)) (h1 : 0 ≤ μ 15 0 3) (h2 : μ 15 0 3 ≤ 10) : f_X7_hasPart a μ = some (0, μ) := by
  unfold f_X7_hasPart
  by_cases h3 : a < 0
  · rw [if_pos (by rw [wr ha]; omega)]
  · rw [if_neg (by rw [wr ha]; omega), if_pos (by rw [wr ha, w32_id (by omega) (by omega)]; omega)]
theorem isM_t {μ : Mem} {a : Int} (ha : I32 a) (h0 : 0 ≤ a) (h1 : a < μ 30 0 7) (h2 : μ 30 0 7 ≤ 10) : f_X9_isPart a μ = some (1, μ) := by
  unfold f_X9_isPart
  rw [if_neg (by rw [wr ha]; omega), if_neg (by rw [wr ha, w32_id (by omega) (by omega)]; omega)]
theorem isM_f {μ : Mem} {a : Int} (ha : I32 a) (h : ¬ (0 ≤ a ∧ a < μ 30 0 7)) (h1 : 0 ≤ μ 30 0 7) (h2 : μ 30 0 7 ≤ 10) : f_X9_isPart a μ = some (0, μ) := by
  unfold f_X9_isPart
  by_cases h3 : a < 0
  · rw [if_pos (by rw [wr ha]; omega)]
  · rw [if_neg (by rw [wr ha]; omega), if_pos (by rw [wr ha, w32_id (by omega) (by omega)]; omega)]
/-- the model's memory at a call's start -/
def m0 (μ : Mem) : Mem := st (st μ 30 0 1 0) 30 0 0 0
theorem m0_def (μ : Mem) : st (st μ 30 0 1 0) 30 0 0 0 = m0 μ := rfl
theorem m0_tag (μ : Mem) {t : Nat} (h : t ≠ 30) : m0 μ t = μ t := by unfold m0; rw [st_tag _ h, st_tag _ h]
theorem m0_k (μ : Mem) {k : Nat} (h : k ≠ 0 ∧ k ≠ 1) : m0 μ 30 0 k = μ 30 0 k := by unfold m0; rw [st_nk _ h.1, st_nk _ h.2]
theorem m0_0 (μ : Mem) : m0 μ 30 0 0 = 0 := by unfold m0; rw [st_eq]
theorem Rel_rf {μx μm : Mem} (R : Rel μx μm) (v : Int) : Rel (st μx 0 0 0 v) (st (m0 μm) 30 0 0 v) := Rel_ref R v
theorem Rel_o {μx μm : Mem} (R : Rel μx μm) : Rel (st μx 0 0 0 0) (m0 μm) := Rel_ok R
theorem np_of {μx μm : Mem} (R : Rel μx μm) : μx 15 0 3 = μm 30 0 7 ∧ 0 ≤ μm 30 0 7 ∧ μm 30 0 7 ≤ 10 := R.2.2.2.1.1
theorem nc_of {μx μm : Mem} (R : Rel μx μm) : μx 15 0 4 = μm 30 0 8 ∧ 0 ≤ μm 30 0 8 ∧ μm 30 0 8 ≤ 4 := R.2.2.2.1.2.1
theorem rp_of {μx μm : Mem} (R : Rel μx μm) {p : Nat} (h : (p : Int) < μm 30 0 7) : RP (dt μx) p (μm 34 0) (μm 35 0) (μm 36 0) (μm 37 0) (μm 38 0) (μm 39 0) (μm 40 0) := R.2.2.2.1.2.2.2.2.1 p h
theorem op_today {μx μm : Mem} (R : Rel μx μm) {a : Int} (ha : I32 a) : Step (f_X8_today a μx) (f_X9_today a μm) := by
  unfold f_X8_today f_X9_today f_X8_isCameDay
  simp only [f_X8_refuse, f_X8_changed, f_X8_well, f_X9_no, bn_s, bn_if, gd_b0, gd_b1, wr ha, w32_m1, show w32 9999 = 9999 from rfl, w0z, w1z, if_true, if_false, m0_def]
  have key : -1 ≤ a → a ≤ 9999 → Step (some (1, st (st (st μx 15 0 6 a) 7 0 5 1) 0 0 0 0)) (some (1, st (m0 μm) 30 0 10 a)) := by
    intro h1 h2
    refine ⟨_, _, _, rfl, rfl, Rel_work R (fun t h => ?_) (fun t h => ?_) (fun k h => ?_) ?_ ?_ ?_⟩
    · rw [st_tag _ (by omega), st_tag _ (by omega), st_tag _ (by omega)]
    · rw [st_tag _ (by omega), m0_tag _ (by omega)]
    · rw [st_nk _ (by omega), m0_k _ (by omega)]
    · rw [st_eq, st_nk _ (by decide), m0_0]
    · rw [st_nt _ (by decide), st_eq]
    · obtain ⟨-, -, -, ⟨w1, w2, w3, w4, w5, w6⟩, -, -⟩ := R
      have e1 : dt (st (st (st μx 15 0 6 a) 7 0 5 1) 0 0 0 0) = (up (μx 15 0) 6 a, (dt μx).2) := by
        rw [dt_st _ (by decide), dt_st _ (by decide)]
        unfold dt
        rw [st_at, st_tag _ (by decide), st_tag _ (by decide), st_tag _ (by decide), st_tag _ (by decide), st_tag _ (by decide), st_tag _ (by decide)]
      rw [e1]
      simp (disch := decide) only [st_tag, st_nk, st_eq, st_at, up_ne, m0_tag, m0_k]
      exact ⟨w1, w2, w3, ⟨rfl, by omega, by omega⟩, w5, w6⟩
  by_cases h1 : a = -1
  · subst h1
    simp only [if_true, show ¬ ((-1 : Int) < -1) by decide, if_false, show ((-1 : Int) ≤ 9999) by decide]
    exact key (by decide) (by decide)
  · by_cases h2 : a < 0
    · have h3 : a < -1 := by omega
      simp only [if_neg h1, if_pos h2, if_pos h3]
      exact ⟨_, _, _, rfl, rfl, Rel_rf R 5⟩
    · have h3 : ¬ a < -1 := by omega
      simp only [if_neg h1, if_neg h2, if_neg h3]
      by_cases h4 : 9999 < a
      · have h5 : ¬ a ≤ 9999 := by omega
        simp only [if_pos h4, if_neg h5]
        exact ⟨_, _, _, rfl, rfl, Rel_rf R 5⟩
      · have h5 : a ≤ 9999 := by omega
        simp only [if_neg h4, if_pos h5]
        exact key (by omega) h5
theorem op_clear {μx μm : Mem} (R : Rel μx μm) : Step (f_X8_clear μx) (f_X9_clear μm) := by
  unfold f_X8_clear f_X9_clear f_X7_forget
  simp only [f_X8_changed, f_X8_well, bn_s, gd_b1, m0_def]
  refine ⟨_, _, _, rfl, rfl, Rel_work R (fun t h => ?_) (fun t h => ?_) (fun k h => ?_) ?_ ?_ ?_⟩
  · simp (disch := omega) only [st_tag]
  · simp (disch := omega) only [st_tag, m0_tag]
  · simp (disch := omega) only [st_nk, m0_k]
  · simp (disch := decide) only [st_eq, st_nk, m0_0]
  · rw [st_nt _ (by decide), st_eq]
  · unfold dt
    simp (disch := decide) only [st_tag, st_nk, st_eq, st_at, up_ne, up_eq, m0_tag, m0_k]
    refine ⟨⟨?_, by decide, by decide⟩, ⟨?_, by decide, by decide⟩, ⟨?_, by decide, by decide⟩, ⟨?_, by decide, by decide⟩, fun p h => by omega, fun c h => by omega⟩
    all_goals simp (disch := decide) only [up_ne, up_eq]
/-- a number of one part changes -/
theorem RW_part {D D' : Dt} {np nc hs td : Int} {m34 m35 m36 m37 m38 m39 m40 m41 m42 m36' m37' m40' : Nat → Int} (W : RW D np nc hs td m34 m35 m36 m37 m38 m39 m40 m41 m42) (h1 : D'.1 = D.1) (h2 : D'.2.2.2.2.2 = D.2.2.2.2.2) (hp : ∀ p : Nat, (p : Int) < np → RP D p m34 m35 m36 m37 m38 m39 m40 → RP D' p m34 m35 m36' m37' m38 m39 m40') : RW D' np nc hs td m34 m35 m36' m37' m38 m39 m40' m41 m42 := by
  obtain ⟨w1, w2, w3, w4, w5, w6⟩ := W
  unfold RW
  rw [h1, h2]
  exact ⟨w1, w2, w3, w4, fun p h => hp p h (w5 p h), w6⟩
theorem natOf {a : Int} (h : 0 ≤ a) : ∃ p : Nat, a = (p : Int) := ⟨a.toNat, by omega⟩
theorem op_end {μx μm : Mem} (R : Rel μx μm) {a b : Int} (ha : I32 a) (hb : I32 b) : Step (f_X8_end a b μx) (f_X9_end a b μm) := by
  unfold f_X8_end f_X9_end
  obtain ⟨hn1, hn2, hn3⟩ := np_of R
  rw [m0_def]
  have e7 : m0 μm 30 0 7 = μm 30 0 7 := m0_k _ (by decide)
  by_cases hp : 0 ≤ a ∧ a < μm 30 0 7
  · rw [hasX_t ha hp.1 (by omega) (by omega), isM_t ha hp.1 (by omega) (by omega)]
    obtain ⟨p, rfl⟩ := natOf hp.1
    have hp10 : p < 10 := by omega
    unfold f_X8_isCameDay
    simp (disch := omega) only [gd_inb, ixn, f_X8_refuse, f_X8_changed, f_X8_well, f_X9_no, bn_s, bn_if, gd_b0, gd_b1, wr hb, w32_m1, show w32 9999 = 9999 from rfl, w0z, w1z, if_true, if_false]
    have key : -1 ≤ b → b ≤ 9999 → Step (some (1, st (st (st μx 17 p 7 b) 7 0 5 1) 0 0 0 0)) (some (1, st (m0 μm) 37 0 p b)) := by
      intro h1 h2
      refine ⟨_, _, _, rfl, rfl, Rel_work R (fun t h => ?_) (fun t h => ?_) (fun k h => ?_) ?_ ?_ ?_⟩
      · simp (disch := omega) only [st_tag]
      · simp (disch := omega) only [st_tag, m0_tag]
      · rw [st_nt _ (by decide), m0_k _ (by omega)]
      · rw [st_eq, st_nt _ (by decide), m0_0]
      · rw [st_nt _ (by decide), st_eq]
      · rw [dt_st _ (by decide), dt_st _ (by decide)]
        simp (disch := decide) only [st_nt, m0_k, st_tag, m0_tag, st_at]
        refine RW_part R.2.2.2.1 ?_ ?_ (fun q hq h => ?_)
        · unfold dt; rw [st_tag _ (by decide)]
        · unfold dt; simp (disch := decide) only [st_tag]
        · obtain ⟨r1, r2, r3, r4, r5, r6, r7⟩ := h
          unfold dt at r1 r2 r3 r4 r5 r6 r7 ⊢
          unfold RP
          simp (disch := decide) only [st_tag, st_nk] at r1 r2 r3 r4 r5 r6 r7 ⊢
          refine ⟨r1, r2, r3, ?_, r5, r6, r7⟩
          by_cases hqp : q = p
          · subst hqp; rw [st_eq, up_eq]; exact ⟨rfl, h1, h2⟩
          · rw [st_ni _ hqp, up_ne _ _ hqp]; exact r4
    by_cases h1 : b = -1
    · subst h1
      simp only [if_true, show ¬ ((-1 : Int) < -1) by decide, if_false, show ((-1 : Int) ≤ 9999) by decide]
      exact key (by decide) (by decide)
    · by_cases h2 : b < 0
      · have h3 : b < -1 := by omega
        simp only [if_neg h1, if_pos h2, if_pos h3]
        exact ⟨_, _, _, rfl, rfl, Rel_rf R 5⟩
      · have h3 : ¬ b < -1 := by omega
        simp only [if_neg h1, if_neg h2, if_neg h3]
        by_cases h4 : 9999 < b
        · have h5 : ¬ b ≤ 9999 := by omega
          simp only [if_pos h4, if_neg h5]
          exact ⟨_, _, _, rfl, rfl, Rel_rf R 5⟩
        · have h5 : b ≤ 9999 := by omega
          simp only [if_neg h4, if_pos h5]
          exact key (by omega) h5
  · rw [hasX_f ha (by omega) (by omega) (by omega), isM_f ha (by omega) (by omega) (by omega)]
    simp only [f_X8_refuse, f_X9_no, bn_s, gd_b0, w0z, if_true]
    exact ⟨_, _, _, rfl, rfl, Rel_rf R 2⟩
