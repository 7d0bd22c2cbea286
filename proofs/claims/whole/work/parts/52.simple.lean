/-! SIMPLE calls -/
theorem w0z : (w32 0 = 0) ↔ True := ⟨fun _ => trivial, fun _ => rfl⟩
theorem w1z : (w32 1 = 0) ↔ False := ⟨fun h => by revert h; decide, fun h => h.elim⟩
theorem wr {a : Int} (h : I32 a) : w32 a = a := w32_id h.1 h.2
theorem dt_st (μ : Mem) {t i k : Nat} {v : Int} (h : t ≠ 15 ∧ t ≠ 17 ∧ t ≠ 18 ∧ t ≠ 19 ∧ t ≠ 20 ∧ t ≠ 21 ∧ t ≠ 22) : dt (st μ t i k v) = dt μ := by
  unfold dt
  rw [st_tag μ (Ne.symm h.1), st_tag μ (Ne.symm h.2.1), st_tag μ (Ne.symm h.2.2.1), st_tag μ (Ne.symm h.2.2.2.1), st_tag μ (Ne.symm h.2.2.2.2.1), st_tag μ (Ne.symm h.2.2.2.2.2.1), st_tag μ (Ne.symm h.2.2.2.2.2.2)]
/-- only the status, and on the model's side what no answer shows, has changed -/
theorem Rel_ext {μx μm μx' μm' : Mem} (R : Rel μx μm) (hx : ∀ t, t ≠ 0 → μx' t = μx t) (hm : ∀ t, t ≠ 30 → t < 43 ∨ 49 < t → t < 53 → μm' t = μm t) (hs : ∀ k, k = 2 ∨ k = 3 ∨ k = 7 ∨ k = 8 ∨ k = 9 ∨ k = 10 ∨ k = 27 → μm' 30 0 k = μm 30 0 k) (h0 : μx' 0 0 0 = μm' 30 0 0) : Rel μx' μm' := by
  obtain ⟨-, r2, r3, r4, r5, r6⟩ := R
  have hd : dt μx' = dt μx := by unfold dt; rw [hx 15 (by decide), hx 17 (by decide), hx 18 (by decide), hx 19 (by decide), hx 20 (by decide), hx 21 (by decide), hx 22 (by decide)]
  refine ⟨h0, ?_, ?_, ?_, ?_, ?_⟩
  · rw [hx 1 (by decide), hs 2 (by omega), hs 3 (by omega)]; exact r2
  · rw [hx 3 (by decide), hx 4 (by decide), hm 31 (by decide) (by omega) (by omega), hm 32 (by decide) (by omega) (by omega), hm 33 (by decide) (by omega) (by omega)]; exact r3
  · rw [hd, hs 7 (by omega), hs 8 (by omega), hs 9 (by omega), hs 10 (by omega), hm 34 (by decide) (by omega) (by omega), hm 35 (by decide) (by omega) (by omega), hm 36 (by decide) (by omega) (by omega), hm 37 (by decide) (by omega) (by omega), hm 38 (by decide) (by omega) (by omega), hm 39 (by decide) (by omega) (by omega), hm 40 (by decide) (by omega) (by omega), hm 41 (by decide) (by omega) (by omega), hm 42 (by decide) (by omega) (by omega)]; exact r4
  · rw [hx 1 (by decide), hx 23 (by decide), hx 24 (by decide), hx 25 (by decide), hx 27 (by decide), hs 27 (by omega), hm 50 (by decide) (by omega) (by omega), hm 51 (by decide) (by omega) (by omega), hm 52 (by decide) (by omega) (by omega)]; exact r5
  · rw [hd, hx 7 (by decide), hx 9 (by decide), hx 10 (by decide), hx 28 (by decide)]; exact r6
theorem sx_tag {μ : Mem} {v : Int} : ∀ t, t ≠ 0 → st μ 0 0 0 v t = μ t := fun t h => st_tag μ h
/-- a refusal: the model's thrown, status 0, then the status -/
theorem Rel_ref {μx μm : Mem} (R : Rel μx μm) (v : Int) : Rel (st μx 0 0 0 v) (st (st (st μm 30 0 1 0) 30 0 0 0) 30 0 0 v) := by
  refine Rel_ext R sx_tag (fun t h _ _ => ?_) (fun k h => ?_) ?_
  · rw [st_tag _ h, st_tag _ h, st_tag _ h]
  · rw [st_nk _ (by omega), st_nk _ (by omega), st_nk _ (by omega)]
  · rw [st_eq, st_eq]
theorem Rel_ok {μx μm : Mem} (R : Rel μx μm) : Rel (st μx 0 0 0 0) (st (st μm 30 0 1 0) 30 0 0 0) := by
  refine Rel_ext R sx_tag (fun t h _ _ => ?_) (fun k h => ?_) ?_
  · rw [st_tag _ h, st_tag _ h]
  · rw [st_nk _ (by omega), st_nk _ (by omega)]
  · rw [st_eq, st_eq]
theorem op_status {μx μm : Mem} (R : Rel μx μm) : Step (f_X8_status μx) (f_X9_status μm) := by
  refine ⟨μx 0 0 0, μx, st μm 30 0 1 0, rfl, ?_, ?_⟩
  · unfold f_X9_status; rw [st_nk _ (by decide), R.1]
  · refine Rel_ext R (fun _ _ => rfl) (fun t h _ _ => st_tag _ h) (fun k h => st_nk _ (by omega)) ?_
    rw [st_nk _ (by decide)]; exact R.1
theorem op_upper {μx μm : Mem} (R : Rel μx μm) : Step (f_X8_upper μx) (f_X9_upper μm) := by
  refine ⟨μx 1 0 0, μx, st μm 30 0 1 0, rfl, ?_, ?_⟩
  · unfold f_X9_upper; rw [st_nk _ (by decide), R.2.1.1]
  · refine Rel_ext R (fun _ _ => rfl) (fun t h _ _ => st_tag _ h) (fun k h => st_nk _ (by omega)) ?_
    rw [st_nk _ (by decide)]; exact R.1
theorem op_lower {μx μm : Mem} (R : Rel μx μm) : Step (f_X8_lower μx) (f_X9_lower μm) := by
  refine ⟨μx 1 0 1, μx, st μm 30 0 1 0, rfl, ?_, ?_⟩
  · unfold f_X9_lower; rw [st_nk _ (by decide), R.2.1.2]
  · refine Rel_ext R (fun _ _ => rfl) (fun t h _ _ => st_tag _ h) (fun k h => st_nk _ (by omega)) ?_
    rw [st_nk _ (by decide)]; exact R.1
/-- what came, hands, clear: the work changes, and no way is kept -/
theorem Rel_work {μx μm μx' μm' : Mem} (R : Rel μx μm) (hx : ∀ t, t = 1 ∨ t = 3 ∨ t = 4 ∨ t = 23 ∨ t = 24 ∨ t = 25 ∨ t = 27 ∨ t = 28 → μx' t = μx t) (hm : ∀ t, t = 31 ∨ t = 32 ∨ t = 33 ∨ t = 50 ∨ t = 51 ∨ t = 52 → μm' t = μm t) (hs : ∀ k, k = 2 ∨ k = 3 ∨ k = 27 → μm' 30 0 k = μm 30 0 k) (h0 : μx' 0 0 0 = μm' 30 0 0) (h7 : μx' 7 0 5 = 1)
    (hw : RW (dt μx') (μm' 30 0 7) (μm' 30 0 8) (μm' 30 0 9) (μm' 30 0 10) (μm' 34 0) (μm' 35 0) (μm' 36 0) (μm' 37 0) (μm' 38 0) (μm' 39 0) (μm' 40 0) (μm' 41 0) (μm' 42 0)) : Rel μx' μm' := by
  obtain ⟨-, r2, r3, r4, r5, r6⟩ := R
  refine ⟨h0, ?_, ?_, hw, ?_, ?_⟩
  · rw [hx 1 (by omega), hs 2 (by omega), hs 3 (by omega)]; exact r2
  · rw [hx 3 (by omega), hx 4 (by omega), hm 31 (by omega), hm 32 (by omega), hm 33 (by omega)]; exact r3
  · rw [hx 1 (by omega), hx 23 (by omega), hx 24 (by omega), hx 25 (by omega), hx 27 (by omega), hs 27 (by omega), hm 50 (by omega), hm 51 (by omega), hm 52 (by omega)]; exact r5
  · refine ⟨?_, Or.inr h7, fun h => ?_⟩
    · rw [hx 28 (by omega)]; exact r6.1
    · rw [h7] at h; exact absurd h (by decide)
theorem op_hands {μx μm : Mem} (R : Rel μx μm) {a : Int} (ha : I32 a) : Step (f_X8_hands a μx) (f_X9_hands a μm) := by
  unfold f_X8_hands f_X9_hands
  simp only [f_X8_refuse, f_X8_changed, f_X8_well, f_X9_no, bn_s, gd_b0, gd_b1, wr ha, w32_1, show w32 30 = 30 from rfl]
  by_cases h1 : a < 1
  · simp only [if_pos h1]
    exact ⟨_, _, _, rfl, rfl, Rel_ref R 5⟩
  · simp only [if_neg h1]
    by_cases h2 : a ≤ 30
    · simp only [if_pos h2]
      refine ⟨_, _, _, rfl, rfl, Rel_work R (fun t h => ?_) (fun t h => ?_) (fun k h => ?_) ?_ ?_ ?_⟩
      · rw [st_tag _ (by omega), st_tag _ (by omega), st_tag _ (by omega)]
      · rw [st_tag _ (by omega), st_tag _ (by omega), st_tag _ (by omega)]
      · rw [st_nk _ (by omega), st_nk _ (by omega), st_nk _ (by omega)]
      · rw [st_eq, st_nk _ (by decide), st_eq]
      · rw [st_nt _ (by decide), st_eq]
      · obtain ⟨-, -, -, ⟨w1, w2, w3, w4, w5, w6⟩, -, -⟩ := R
        have e1 : dt (st (st (st μx 15 0 5 a) 7 0 5 1) 0 0 0 0) = (up (μx 15 0) 5 a, (dt μx).2) := by
          rw [dt_st _ (by decide), dt_st _ (by decide)]
          unfold dt
          rw [st_at, st_tag _ (by decide), st_tag _ (by decide), st_tag _ (by decide), st_tag _ (by decide), st_tag _ (by decide), st_tag _ (by decide)]
        rw [e1]
        simp (disch := decide) only [st_tag, st_nk, st_eq, st_at, up_ne]
        exact ⟨w1, w2, ⟨rfl, by omega, by omega⟩, w4, w5, w6⟩
    · simp only [if_neg h2]
      exact ⟨_, _, _, rfl, rfl, Rel_ref R 5⟩
