/-! CHANCES: what bars them, the ends, the parts, the mean -/
theorem Cach_ext {D : Dt} {x7 x7' x9 x10 : Nat → Int} {n : Int} (h : Cach D x7 x9 x10 n) (h5 : x7' 5 = x7 5) (h6 : x7' 6 = x7 6) (h7 : x7' 7 = x7 7) (h8 : x7' 8 = x7 8) : Cach D x7' x9 x10 n := by
  unfold Cach
  rw [h5, h6, h7, h8]; exact h
theorem Rel_x {μx μm μx' : Mem} (R : Rel μx μm) (hD : dt μx' = dt μx) (h : ∀ t, t = 0 ∨ t = 3 ∨ t = 4 ∨ t = 23 ∨ t = 24 ∨ t = 25 ∨ t = 27 → μx' t = μx t) (h10 : μx' 1 0 = μx 1 0) (h13 : ∀ s, 3 ≤ s → μx' 1 s = μx 1 s) (hc : Cach (dt μx) (μx' 7 0) (μx' 9 0) (μx' 10 0) (μx' 28 0 0)) : Rel μx' μm := by
  obtain ⟨r1, r2, r3, r4, r5, r6⟩ := R
  refine ⟨?_, ?_, ?_, ?_, ?_, ?_⟩
  · rw [h 0 (by omega)]; exact r1
  · rw [h10]; exact r2
  · rw [h 3 (by omega), h 4 (by omega)]; exact r3
  · rw [hD]; exact r4
  · rw [h 23 (by omega), h 24 (by omega), h 25 (by omega), h 27 (by omega)]
    obtain ⟨t1, t2, t3, t4, t5⟩ := r5
    refine ⟨t1, t2, t3, t4, fun s hs => ?_⟩
    rw [h13 (s + 3) (by omega)]; exact t5 s hs
  · rw [hD]; exact hc
theorem Rel_rfk {μx μm μm' : Mem} (R : Rel μx μm) (hk : keepM (m0 μm) μm') (v : Int) : Rel (st μx 0 0 0 v) (st μm' 30 0 0 v) := by
  refine Rel_ext R sx_tag (fun t h1 h2 h3 => ?_) (fun k h => ?_) (by rw [st_eq, st_eq])
  · rw [st_tag _ h1, hk.1 t h1 (by omega), m0_tag _ h1]
  · rw [st_nk _ (by omega), hk.2 k (by omega), m0_k _ (by omega)]
theorem keepM_refl (μ : Mem) : keepM μ μ := ⟨fun _ _ _ => rfl, fun _ _ => rfl⟩
/-- both find the same bar, or none -/
theorem chance_step {μx μm : Mem} (R : Rel μx μm) {a cp cr : Int} (ha : -1 ≤ a ∧ a < dnp (dt μx)) (hcp : -1 ≤ cp ∧ cp < dnp (dt μx)) (hcr : 0 ≤ cr ∧ cr ≤ 10) :
    ∃ (c : Int) (μx' μm' : Mem), f_X8_chanceTrouble μx = some (c, μx') ∧ f_X9_sums a cp cr (m0 μm) = some (c, μm') ∧ Rel μx' μm ∧ keepM (m0 μm) μm' ∧ dt μx' = dt μx ∧ ((c = 8 ∨ c = 9 ∨ c = 10) ∨ (c = 0 ∧ nStuck (dt μx) ∧ tot (dt μx) ≤ 20000 ∧ 0 < LL (dt μx) ∧ Frs (dt μx) μx' ∧ WM (dt μx) μm' ∧ (∀ s, s < 6000 → μm' 48 0 s = sm (dst (dt μx) a cp cr s) (cW (dt μx))) ∧ μm' 30 0 33 = sm (cwt (dt μx) cp cr) (cW (dt μx)))) := by
  obtain ⟨O, W⟩ := RW_OK R
  have hX := troubleX O rfl R.2.2.2.2.2
  have hM := sumsM O ha hcp hcr (WM_m0 W)
  by_cases h1 : nStuck (dt μx)
  · by_cases h2 : tot (dt μx) ≤ 20000
    · obtain ⟨μx', a1, a2, a3⟩ := hX.2.2 h1 h2
      obtain ⟨μm', b1, b2, b3, b4, b5⟩ := hM.2.2 h1 h2
      refine ⟨_, μx', μm', a1, b1, Rel_x R a2.1 (fun t ht => a3 t (by omega) (by omega) (by omega) (by omega) (by omega) (by omega) (by omega) (by omega)) (by rw [a3 1 (by decide) (by decide) (by decide) (by decide) (by decide) (by decide) (by decide) (by decide)]) (fun s _ => by rw [a3 1 (by decide) (by decide) (by decide) (by decide) (by decide) (by decide) (by decide) (by decide)]) a2.2.2, keepS_M b5, a2.1, ?_⟩
      by_cases z : LL (dt μx) ≤ 0
      · rw [if_pos z]; exact Or.inl (by omega)
      · rw [if_neg z]; exact Or.inr ⟨rfl, h1, h2, by omega, a2, b2, b3, b4⟩
    · exact ⟨9, μx, m0 μm, hX.2.1 h1 h2, hM.2.1 h1 h2, R, keepM_refl _, rfl, Or.inl (by omega)⟩
  · exact ⟨8, μx, m0 μm, hX.1 h1, hM.1 h1, R, keepM_refl _, rfl, Or.inl (by omega)⟩
section
variable {D : Dt} {μ : Mem}
theorem fr_6 (F : Frs D μ) : μ 7 0 6 = (cW D : Int) := (F.2.2.2.2 F.2.1).2.2.1
theorem fr_28 (F : Frs D μ) : (cW D : Int) ≤ μ 28 0 0 ∧ μ 28 0 0 ≤ 20000 := ⟨(F.2.2.2.2 F.2.1).2.2.2.1, F.2.2.1.2⟩
theorem fr_t (F : Frs D μ) : tot D ≤ 20000 := (F.2.2.2.2 F.2.1).2.1
theorem fr_s (F : Frs D μ) : nStuck D := (F.2.2.2.2 F.2.1).1
theorem fr_k (F : Frs D μ) {k : Nat} (h : k < cW D) : μ 10 0 k = wWt D k ∧ (wLft D k → μ 9 0 k = wEnd D k (-1)) ∧ (¬ wLft D k → μ 9 0 k = -1) := (F.2.2.2.2 F.2.1).2.2.2.2.1 k h
theorem fr_7 (F : Frs D μ) : (0 ≤ μ 7 0 7 ∧ μ 7 0 7 ≤ 4950) ∧ ∀ k, k < cW D → wLft D k → wEnd D k (-1) ≤ μ 7 0 7 := (F.2.2.2.2 F.2.1).2.2.2.2.2.2
theorem fr_left (O : OKD D) (F : Frs D μ) {k : Nat} (h : k < cW D) : f_X6_isLeft (k : Int) μ = some (if μ 9 0 k = -1 then 0 else 1, μ) ∧ (μ 9 0 k = -1 ↔ ¬ wLft D k) := by
  have hc := cW_le O
  have ht := fr_t F
  have h28 := fr_28 F
  obtain ⟨k1, k2, k3⟩ := fr_k F h
  have hb := wEnd_bd O (k := k) (sl := -1)
  rw [if_neg (by decide)] at hb
  have hv : -1 ≤ μ 9 0 k ∧ μ 9 0 k ≤ 4950 := by
    by_cases z : wLft D k
    · rw [k2 z]; omega
    · rw [k3 z]; omega
  refine ⟨?_, ?_⟩
  · unfold f_X6_isLeft
    rw [gd_inb _ (by omega) (by omega) (by omega), ixn (by omega), w32_id (x := μ 9 0 k) (by omega) (by omega), show w32 (-1) = -1 from rfl]
    by_cases z : μ 9 0 k = -1
    · rw [if_pos z, if_pos z]
    · rw [if_neg z, if_neg z]
  · constructor
    · intro z y
      have := k2 y
      omega
    · exact k3
end
theorem byX {D : Dt} (O : OKD D) {μ : Mem} (F : Frs D μ) {a : Int} (ha : I32 a) : f_X6_weightEndingBy a μ = some (sm (fun k => if wEnd D k (-1) ≤ a then lw D k else 0) (cW D), μ) := by
  have hc := cW_le O
  have ht := fr_t F
  have h28 := fr_28 F
  have L : ∀ (d n j : Nat), d + j = cW D → d < n → f_X6_weightEndingBy_L5 a n (sm (fun k => if wEnd D k (-1) ≤ a then lw D k else 0) j) (j : Int) μ = some (sm (fun k => if wEnd D k (-1) ≤ a then lw D k else 0) (cW D), μ) := by
    intro d
    induction d with
    | zero =>
      intro n j hd hn
      obtain ⟨n, rfl⟩ : ∃ q, n = q + 1 := ⟨n - 1, by omega⟩
      have hj : j = cW D := by omega
      subst hj
      rw [f_X6_weightEndingBy_L5.eq_2, fr_6 F, if_pos (Int.le_refl _)]
    | succ d ih =>
      intro n j hd hn
      obtain ⟨n, rfl⟩ : ∃ q, n = q + 1 := ⟨n - 1, by omega⟩
      have hjc : j < cW D := by omega
      obtain ⟨l1, l2⟩ := fr_left O F hjc
      obtain ⟨k1, k2, k3⟩ := fr_k F hjc
      have hwp := wWt_pos O (k := j)
      have hwl := wWt_le O hjc
      have hb := wEnd_bd O (k := j) (sl := -1)
      rw [if_neg (by decide)] at hb
      have ih' := ih n (j + 1) (by omega) (by omega)
      rw [show sm (fun k => if wEnd D k (-1) ≤ a then lw D k else 0) (j + 1) = sm (fun k => if wEnd D k (-1) ≤ a then lw D k else 0) j + (if wEnd D j (-1) ≤ a then lw D j else 0) from rfl] at ih'
      rw [f_X6_weightEndingBy_L5.eq_2, fr_6 F, if_neg (show ¬ w32 (cW D : Int) ≤ w32 (j : Int) by rw [w32n (by omega), w32n (by omega)]; omega), l1, bn_s]
      simp only [jn_u]
      rw [gd_inb _ (by omega) (by omega) (by omega), gd_inb _ (by omega) (by omega) (by omega), ixn (by omega), show ((j : Int) + 1) = ((j + 1 : Nat) : Int) by omega]
      by_cases hw : wLft D j
      · rw [lw_y hw] at ih'
        rw [if_neg (fun z => l2.1 z hw), if_neg (show ¬ w32 1 = 0 by decide), k2 hw, k1, wr ha, w32_id (x := wEnd D j (-1)) (by omega) (by omega), w32_id (x := wWt D j) (by omega) (by omega)]
        by_cases z : a < wEnd D j (-1)
        · rw [if_neg (by omega), Int.add_zero] at ih'
          rw [if_pos z]; exact ih'
        · rw [if_pos (by omega)] at ih'
          rw [if_neg z]; exact ih'
      · rw [lw_n hw] at ih'
        rw [if_pos (l2.2 hw), if_pos w32_0]
        have e0 : (if wEnd D j (-1) ≤ a then (0 : Int) else 0) = 0 := by split <;> rfl
        rw [e0, Int.add_zero] at ih'
        exact ih'
  exact L (cW D) FU 0 (by omega) (by unfold FU; omega)
theorem meanX {D : Dt} (O : OKD D) {μ : Mem} (F : Frs D μ) : f_X6_sumOfEnds μ = some (sm (fun k => wEnd D k (-1) * lw D k) (cW D), μ) := by
  have hc := cW_le O
  have ht := fr_t F
  have h28 := fr_28 F
  have L : ∀ (d n j : Nat), d + j = cW D → d < n → f_X6_sumOfEnds_L4 n (sm (fun k => wEnd D k (-1) * lw D k) j) (j : Int) μ = some (sm (fun k => wEnd D k (-1) * lw D k) (cW D), μ) := by
    intro d
    induction d with
    | zero =>
      intro n j hd hn
      obtain ⟨n, rfl⟩ : ∃ q, n = q + 1 := ⟨n - 1, by omega⟩
      have hj : j = cW D := by omega
      subst hj
      rw [f_X6_sumOfEnds_L4.eq_2, fr_6 F, if_pos (Int.le_refl _)]
    | succ d ih =>
      intro n j hd hn
      obtain ⟨n, rfl⟩ : ∃ q, n = q + 1 := ⟨n - 1, by omega⟩
      have hjc : j < cW D := by omega
      obtain ⟨l1, l2⟩ := fr_left O F hjc
      obtain ⟨k1, k2, k3⟩ := fr_k F hjc
      have hwp := wWt_pos O (k := j)
      have hwl := wWt_le O hjc
      have hb := wEnd_bd O (k := j) (sl := -1)
      rw [if_neg (by decide)] at hb
      have ih' := ih n (j + 1) (by omega) (by omega)
      rw [show sm (fun k => wEnd D k (-1) * lw D k) (j + 1) = sm (fun k => wEnd D k (-1) * lw D k) j + wEnd D j (-1) * lw D j from rfl] at ih'
      rw [f_X6_sumOfEnds_L4.eq_2, fr_6 F, if_neg (show ¬ w32 (cW D : Int) ≤ w32 (j : Int) by rw [w32n (by omega), w32n (by omega)]; omega), l1, bn_s]
      simp only [jn_u]
      rw [gd_inb _ (by omega) (by omega) (by omega), gd_inb _ (by omega) (by omega) (by omega), ixn (by omega), show ((j : Int) + 1) = ((j + 1 : Nat) : Int) by omega]
      by_cases hw : wLft D j
      · rw [lw_y hw, Int.mul_comm] at ih'
        rw [if_neg (fun z => l2.1 z hw), if_neg (show ¬ w32 1 = 0 by decide), k2 hw, k1, w32_id (x := wEnd D j (-1)) (by omega) (by omega), w32_id (x := wWt D j) (by omega) (by omega)]
        exact ih'
      · rw [lw_n hw, Int.mul_zero, Int.add_zero] at ih'
        rw [if_pos (l2.2 hw), if_pos w32_0]
        exact ih'
  exact L (cW D) FU 0 (by omega) (by unfold FU; omega)
theorem Frs_ext {D : Dt} {μ μ' : Mem} (F : Frs D μ) (h : ∀ t, t ≠ 11 → t ≠ 12 → t ≠ 13 → t ≠ 14 → μ' t = μ t) : Frs D μ' := by
  obtain ⟨f1, f2, f3⟩ := F
  refine ⟨(dt_of (fun t h1 _ => h t (by omega) (by omega) (by omega) (by omega))).trans f1, ?_, ?_⟩
  · rw [h 7 (by decide) (by decide) (by decide) (by decide)]; exact f2
  · rw [h 7 (by decide) (by decide) (by decide) (by decide), h 9 (by decide) (by decide) (by decide) (by decide), h 10 (by decide) (by decide) (by decide) (by decide), h 28 (by decide) (by decide) (by decide) (by decide)]; exact f3
theorem withX_L {D : Dt} (O : OKD D) {p : Nat} (hp : p < dnp D) {a : Int} (ha : I32 a) : ∀ (d n j : Nat) (μ : Mem), Frs D μ → SX D j μ → d + j = cW D → d < n → ∃ μ', f_X6_weightWithPartBy_L12 (p : Int) a n (sm (fun k => if wFin D k (-1) p ≤ a then lw D k else 0) j) (j : Int) μ = some (sm (fun k => if wFin D k (-1) p ≤ a then lw D k else 0) (cW D), μ') ∧ ∀ t, t ≠ 11 → t ≠ 12 → t ≠ 13 → t ≠ 14 → μ' t = μ t := by
  have hc := cW_le O
  have h10 := ok_np O
  intro d
  induction d with
  | zero =>
    intro n j μ F hX hd hn
    obtain ⟨n, rfl⟩ : ∃ q, n = q + 1 := ⟨n - 1, by omega⟩
    have hj : j = cW D := by omega
    subst hj
    exact ⟨μ, by rw [f_X6_weightWithPartBy_L12.eq_2, fr_6 F, if_pos (Int.le_refl _)], fun t _ _ _ _ => rfl⟩
  | succ d ih =>
    intro n j μ F hX hd hn
    obtain ⟨n, rfl⟩ : ∃ q, n = q + 1 := ⟨n - 1, by omega⟩
    have ht := fr_t F
    have h28 := fr_28 F
    have hjc : j < cW D := by omega
    obtain ⟨l1, l2⟩ := fr_left O F hjc
    obtain ⟨k1, k2, k3⟩ := fr_k F hjc
    have hwp := wWt_pos O (k := j)
    have hwl := wWt_le O hjc
    have hb := wFin_bd O (fr_s F) (k := j) (sl := -1) hp
    have rest : ∀ μ1 : Mem, SX D j μ1 → (∀ t, t ≠ 11 → t ≠ 12 → t ≠ 13 → t ≠ 14 → μ1 t = μ t) → ∃ μ', bn (f_X2_goToNext μ1) (fun r10 μ11 => f_X6_weightWithPartBy_L12 (p : Int) a n (sm (fun k => if wFin D k (-1) p ≤ a then lw D k else 0) (j + 1)) ((j : Int) + 1) μ11) = some (sm (fun k => if wFin D k (-1) p ≤ a then lw D k else 0) (cW D), μ') ∧ ∀ t, t ≠ 11 → t ≠ 12 → t ≠ 13 → t ≠ 14 → μ' t = μ t := by
      intro μ1 X1 h1
      obtain ⟨μ2, b1, b2, b3⟩ := nextX O X1 (by omega)
      have h2 : ∀ t, t ≠ 11 → t ≠ 12 → t ≠ 13 → t ≠ 14 → μ2 t = μ t := fun t q1 q2 q3 q4 => by rw [b3 t q1 q2 q3, h1 t q1 q2 q3 q4]
      obtain ⟨μ', c1, c2⟩ := ih n (j + 1) μ2 (Frs_ext F h2) b2 (by omega) (by omega)
      refine ⟨μ', ?_, fun t q1 q2 q3 q4 => by rw [c2 t q1 q2 q3 q4, h2 t q1 q2 q3 q4]⟩
      rw [b1, bn_s, show ((j : Int) + 1) = ((j + 1 : Nat) : Int) by omega]
      exact c1
    rw [show sm (fun k => if wFin D k (-1) p ≤ a then lw D k else 0) (j + 1) = sm (fun k => if wFin D k (-1) p ≤ a then lw D k else 0) j + (if wFin D j (-1) p ≤ a then lw D j else 0) from rfl] at rest
    rw [f_X6_weightWithPartBy_L12.eq_2, fr_6 F, if_neg (show ¬ w32 (cW D : Int) ≤ w32 (j : Int) by rw [w32n (by omega), w32n (by omega)]; omega), l1, bn_s]
    simp only [jn_u]
    by_cases hw : wLft D j
    · obtain ⟨μ1, a1, a2, a3, a4⟩ := stepX2 O (fr_s F) (sl := -1) (by omega) hX
      rw [lw_y hw] at rest
      rw [if_neg (fun z => l2.1 z hw), if_neg (show ¬ w32 1 = 0 by decide), a1, bn_s, gd_inb _ (by omega) (by omega) (by omega), ixn (by omega), ixn (by omega), a3 p hp, a4 28 (by decide) (by decide), a4 10 (by decide) (by decide), gd_inb _ (by omega) (by omega) (by omega), k1, wr ha, w32_id (x := wFin D j (-1) p) (by omega) (by omega), w32_id (x := wWt D j) (by omega) (by omega)]
      by_cases z : a < wFin D j (-1) p
      · rw [if_neg (by omega), Int.add_zero] at rest
        rw [if_pos z]; exact rest μ1 a2 (fun t q1 _ _ q4 => a4 t q1 q4)
      · rw [if_pos (by omega)] at rest
        rw [if_neg z]; exact rest μ1 a2 (fun t q1 _ _ q4 => a4 t q1 q4)
    · rw [lw_n hw] at rest
      have e0 : (if wFin D j (-1) p ≤ a then (0 : Int) else 0) = 0 := by split <;> rfl
      rw [e0, Int.add_zero] at rest
      rw [if_pos (l2.2 hw), if_pos w32_0]
      exact rest μ hX (fun t _ _ _ _ => rfl)
theorem withX {D : Dt} (O : OKD D) {p : Nat} (hp : p < dnp D) {a : Int} (ha : I32 a) {μ : Mem} (F : Frs D μ) : ∃ μ', f_X6_weightWithPartBy (p : Int) a μ = some (sm (fun k => if wFin D k (-1) p ≤ a then lw D k else 0) (cW D), μ') ∧ ∀ t, t ≠ 11 → t ≠ 12 → t ≠ 13 → t ≠ 14 → μ' t = μ t := by
  have hc := cW_le O
  have ht := fr_t F
  unfold f_X6_weightWithPartBy
  obtain ⟨μ1, a1, a2, a3⟩ := firstX O F.1
  obtain ⟨μ2, b1, b2⟩ := withX_L O hp ha (cW D) FU 0 μ1 (Frs_ext F (fun t q1 q2 q3 _ => a3 t q1 q2 q3)) a2 (by omega) (by unfold FU; omega)
  refine ⟨μ2, ?_, fun t q1 q2 q3 q4 => by rw [b2 t q1 q2 q3 q4, a3 t q1 q2 q3]⟩
  rw [a1, bn_s]; exact b1
