/-! LESS: two ways to compare fractions; SURE -/
theorem qlt {a b c d : Int} (hb : 0 < b) (hd : 0 < d) (h : a / b < c / d) : a * d < c * b := by
  have h1 := Int.lt_ediv_add_one_mul_self a hb
  have h2 := Int.ediv_mul_le c (show d ≠ 0 by omega)
  have h3 : a * d < (a / b + 1) * b * d := Int.mul_lt_mul_of_pos_right h1 hd
  have h4 : (a / b + 1) * b * d ≤ c / d * b * d := Int.mul_le_mul_of_nonneg_right (Int.mul_le_mul_of_nonneg_right (by omega) (by omega)) (by omega)
  have h5 : c / d * b * d = c / d * d * b := Int.mul_right_comm _ _ _
  have h6 : c / d * d * b ≤ c * b := Int.mul_le_mul_of_nonneg_right h2 (by omega)
  omega
theorem qeq {a b c d : Int} (h : a / b = c / d) : c * b - a * d = b * (c % d) - d * (a % b) := by
  have h1 : a = b * (a / b) + a % b := (Int.mul_ediv_add_emod a b).symm
  have h2 : c = d * (c / d) + c % d := (Int.mul_ediv_add_emod c d).symm
  have e1 : a * d = b * (a / b) * d + a % b * d := by rw [← Int.add_mul, ← h1]
  have e2 : c * b = d * (c / d) * b + c % d * b := by rw [← Int.add_mul, ← h2]
  have e3 : d * (c / d) * b = b * (a / b) * d := by rw [← h, Int.mul_comm d, Int.mul_assoc, Int.mul_comm b, Int.mul_assoc, Int.mul_comm d]
  have e4 : c % d * b = b * (c % d) := Int.mul_comm _ _
  have e5 : a % b * d = d * (a % b) := Int.mul_comm _ _
  omega
def lres (a b c d f : Int) : Int := if a * d = c * b then 0 else if a * d < c * b then (if f = 0 then 1 else 0) else (if f = 0 then 0 else 1)
/-- the class's way -/
theorem lessX {μ : Mem} {i j : Nat} {a b c d : Int} (h1 : μ 1 i 0 = a) (h2 : μ 1 i 1 = b) (h3 : μ 1 j 0 = c) (h4 : μ 1 j 1 = d) (ha : 0 ≤ a ∧ a ≤ 100000000000000) (hb : 1 ≤ b ∧ b ≤ 1000000) (hc : 0 ≤ c ∧ c ≤ 100000000000000) (hd : 1 ≤ d ∧ d ≤ 1000000) : f_X0_isLessThan i j μ = some (if a * d < c * b then 1 else 0, μ) := by
  unfold f_X0_isLessThan
  have w1 : w64 1 = 1 := rfl
  have wa : w64 a = a := w64_id (by omega) (by omega)
  have wb : w64 b = b := w64_id (by omega) (by omega)
  have wc : w64 c = c := w64_id (by omega) (by omega)
  have wd : w64 d = d := w64_id (by omega) (by omega)
  have q1 : 0 ≤ a / b ∧ a / b ≤ a := ⟨Int.ediv_nonneg ha.1 (by omega), Int.ediv_le_self _ ha.1⟩
  have q2 : 0 ≤ c / d ∧ c / d ≤ c := ⟨Int.ediv_nonneg hc.1 (by omega), Int.ediv_le_self _ hc.1⟩
  have m1 : 0 ≤ a % b ∧ a % b < b := ⟨Int.emod_nonneg _ (by omega), Int.emod_lt_of_pos _ (by omega)⟩
  have m2 : 0 ≤ c % d ∧ c % d < d := ⟨Int.emod_nonneg _ (by omega), Int.emod_lt_of_pos _ (by omega)⟩
  have p1 : 0 ≤ a % b * d ∧ a % b * d ≤ 1000000 * 1000000 := ⟨Int.mul_nonneg m1.1 (by omega), mul_two_le (by omega) hd.2 m1.1 (by omega)⟩
  have p2 : 0 ≤ c % d * b ∧ c % d * b ≤ 1000000 * 1000000 := ⟨Int.mul_nonneg m2.1 (by omega), mul_two_le (by omega) hb.2 m2.1 (by omega)⟩
  rw [h1, h2, h3, h4, wa, wb, wc, wd, w1, if_neg (show ¬ b < 1 by omega), if_pos (show 1 ≤ d by omega), gd_t _ (show ¬ b = 0 by omega), gd_t _ (show ¬ d = 0 by omega), Int.tdiv_eq_ediv_of_nonneg ha.1, Int.tdiv_eq_ediv_of_nonneg hc.1, Int.tmod_eq_emod_of_nonneg ha.1, Int.tmod_eq_emod_of_nonneg hc.1, w64_id (x := a / b) (by omega) (by omega), w64_id (x := c / d) (by omega) (by omega), w64_id (x := c % d * b) (by omega) (by omega), w64_id (x := a % b * d) (by omega) (by omega)]
  by_cases e : a / b = c / d
  · have hq := qeq e
    have c1 : c % d * b = b * (c % d) := Int.mul_comm _ _
    have c2 : a % b * d = d * (a % b) := Int.mul_comm _ _
    rw [if_pos e, gd_t _ (show ¬ b = 0 by omega), gd_t _ (show ¬ d = 0 by omega)]
    by_cases z : c % d * b ≤ a % b * d
    · rw [if_pos z, if_neg (by omega)]
    · rw [if_neg z, if_pos (by omega)]
  · rw [if_neg e]
    by_cases z : c / d ≤ a / b
    · have := qlt (a := c) (b := d) (c := a) (d := b) (by omega) (by omega) (by omega)
      rw [if_pos z, if_neg (by omega)]
    · have := qlt (a := a) (b := b) (c := c) (d := d) (by omega) (by omega) (by omega)
      rw [if_neg z, if_pos this]
/-- the model's class's way: one turn -/
def lK : Int → Int → Int → Int → Int → Mem → Option (Int × Mem) := fun y12 y13 y14 y15 y16 μ11 => jn (jn (fun y17 => (if w32 y16 = w32 y17 then some (0, μ11) else some (1, μ11))) (fun j139 => jn (j139 0) (fun j138 => (if w64 y13 = w64 0 then j138  else jn (j139 1) (fun j134 => (if w64 y15 = w64 0 then j134  else gd (¬ w64 y13 = 0) (gd (¬ w64 y15 = 0) ((if w64 (Int.tdiv (w64 y14) (w64 y15)) ≤ w64 (Int.tdiv (w64 y12) (w64 y13)) then j138  else j134 ))))))))) (fun j106 => (if w64 y13 = w64 0 then (if w64 y15 = w64 0 then some (0, μ11) else j106 ) else j106 ))
def lval (a b c d f : Int) : Prop := (0 ≤ a ∧ a ≤ 100000000000000) ∧ (0 ≤ b ∧ b ≤ 100000000000000) ∧ (0 ≤ c ∧ c ≤ 100000000000000) ∧ (0 ≤ d ∧ d ≤ 100000000000000) ∧ (b = 0 → 0 < a) ∧ (d = 0 → 0 < c) ∧ (f = 0 ∨ f = 1)
theorem lessM_1 {μ : Mem} {a b c d f : Int} (hv : lval a b c d f) (n : Nat) : f_X9_isLess_L17 lK (n + 1) a b c d f μ = some (lres a b c d f, μ) ∨ (0 < b ∧ ∃ f', lval b (a % b) d (c % d) f' ∧ lres b (a % b) d (c % d) f' = lres a b c d f ∧ f_X9_isLess_L17 lK (n + 1) a b c d f μ = f_X9_isLess_L17 lK n b (a % b) d (c % d) f' μ) := by
  obtain ⟨ha, hb, hc, hd, h1, h2, hf⟩ := hv
  have w0 : w64 0 = 0 := rfl
  have wa : w64 a = a := w64_id (by omega) (by omega)
  have wb : w64 b = b := w64_id (by omega) (by omega)
  have wc : w64 c = c := w64_id (by omega) (by omega)
  have wd : w64 d = d := w64_id (by omega) (by omega)
  have wf : w32 f = f := w32_id (by omega) (by omega)
  have q1 : 0 ≤ a / b ∧ a / b ≤ a := ⟨Int.ediv_nonneg ha.1 (by omega), Int.ediv_le_self _ ha.1⟩
  have q2 : 0 ≤ c / d ∧ c / d ≤ c := ⟨Int.ediv_nonneg hc.1 (by omega), Int.ediv_le_self _ hc.1⟩
  rw [f_X9_isLess_L17.eq_2, wa, wb, wc, wd, w0]
  by_cases b0 : b = 0
  · left
    rw [if_pos b0]
    unfold lK lres
    simp only [jn_u]
    rw [wb, wd, w0, if_pos b0]
    by_cases d0 : d = 0
    · rw [if_pos d0, b0, d0, Int.mul_zero, Int.mul_zero, if_pos rfl]
    · have hp : 0 < a * d := Int.mul_pos (h1 b0) (by omega)
      rw [if_neg d0, if_pos b0, wf, b0, Int.mul_zero, if_neg (show ¬ a * d = 0 by omega), if_neg (show ¬ a * d < 0 by omega), show w32 0 = 0 from rfl]
      by_cases f0 : f = 0
      · rw [if_pos f0, if_pos f0]
      · rw [if_neg f0, if_neg f0]
  · rw [if_neg b0]
    by_cases d0 : d = 0
    · left
      rw [if_pos d0]
      unfold lK lres
      simp only [jn_u]
      have hp : 0 < c * b := Int.mul_pos (h2 d0) (by omega)
      rw [wb, wd, w0, if_neg b0, if_neg b0, if_pos d0, wf, d0, Int.mul_zero, if_neg (show ¬ 0 = c * b by omega), if_pos hp, show w32 1 = 1 from rfl]
      by_cases f0 : f = 0
      · rw [if_neg (show ¬ f = 1 by omega), if_pos f0]
      · rw [if_pos (show f = 1 by omega), if_neg f0]
    · rw [if_neg d0, gd_t _ b0, gd_t _ d0, Int.tdiv_eq_ediv_of_nonneg ha.1, Int.tdiv_eq_ediv_of_nonneg hc.1, Int.tmod_eq_emod_of_nonneg ha.1, Int.tmod_eq_emod_of_nonneg hc.1, w64_id (x := a / b) (by omega) (by omega), w64_id (x := c / d) (by omega) (by omega)]
      have m1 : 0 ≤ a % b ∧ a % b < b := ⟨Int.emod_nonneg _ (by omega), Int.emod_lt_of_pos _ (by omega)⟩
      have m2 : 0 ≤ c % d ∧ c % d < d := ⟨Int.emod_nonneg _ (by omega), Int.emod_lt_of_pos _ (by omega)⟩
      by_cases e : a / b = c / d
      · right
        have hq := qeq e
        rw [if_pos e, gd_t _ b0, gd_t _ d0, jn_ite, wf]
        refine ⟨by omega, if f = 0 then 1 else 0, ⟨hb, by omega, hd, by omega, fun _ => by omega, fun _ => by omega, ?_⟩, ?_, rfl⟩
        · split <;> omega
        · unfold lres
          by_cases x1 : a * d = c * b
          · rw [if_pos x1, if_pos (by omega)]
          · rw [if_neg x1, if_neg (by omega)]
            by_cases x2 : a * d < c * b
            · rw [if_pos x2, if_neg (by omega)]
              rcases hf with f0 | f0 <;> rw [f0] <;> decide
            · rw [if_neg x2, if_pos (by omega)]
              rcases hf with f0 | f0 <;> rw [f0] <;> decide
      · left
        rw [if_neg e]
        unfold lK lres
        simp only [jn_u]
        rw [wa, wb, wc, wd, w0, if_neg b0, if_neg b0, if_neg d0, gd_t _ b0, gd_t _ d0, Int.tdiv_eq_ediv_of_nonneg ha.1, Int.tdiv_eq_ediv_of_nonneg hc.1, w64_id (x := a / b) (by omega) (by omega), w64_id (x := c / d) (by omega) (by omega), wf, show w32 0 = 0 from rfl, show w32 1 = 1 from rfl]
        by_cases z : c / d ≤ a / b
        · have := qlt (a := c) (b := d) (c := a) (d := b) (by omega) (by omega) (by omega)
          rw [if_pos z, if_neg (show ¬ a * d = c * b by omega), if_neg (show ¬ a * d < c * b by omega)]
          by_cases f0 : f = 0
          · rw [if_pos f0, if_pos f0]
          · rw [if_neg f0, if_neg f0]
        · have := qlt (a := a) (b := b) (c := c) (d := d) (by omega) (by omega) (by omega)
          rw [if_neg z, if_neg (show ¬ a * d = c * b by omega), if_pos this]
          by_cases f0 : f = 0
          · rw [if_neg (show ¬ f = 1 by omega), if_pos f0]
          · rw [if_pos (show f = 1 by omega), if_neg f0]
theorem lessM_L {μ : Mem} : ∀ (n : Nat) (a b c d f : Int), lval a b c d f → b < n → f_X9_isLess_L17 lK n a b c d f μ = some (lres a b c d f, μ) := by
  intro n
  induction n with
  | zero => intro a b c d f hv hb; exact absurd hv.2.1.1 (by omega)
  | succ n ih =>
    intro a b c d f hv hb
    rcases lessM_1 hv n with h | ⟨h0, f', h1, h2, h3⟩
    · exact h
    · rw [h3, ih _ _ _ _ _ h1 (by have := Int.emod_lt_of_pos a h0; omega), h2]
theorem lessM {μ : Mem} {a b c d : Int} (ha : 0 ≤ a ∧ a ≤ 100000000000000) (hb : 1 ≤ b ∧ b ≤ 1000000) (hc : 0 ≤ c ∧ c ≤ 100000000000000) (hd : 1 ≤ d ∧ d ≤ 1000000) : f_X9_isLess a b c d μ = some (if a * d < c * b then 1 else 0, μ) := by
  have hv : lval a b c d 0 := ⟨ha, by omega, hc, by omega, by omega, by omega, Or.inl rfl⟩
  have hr : lres a b c d 0 = if a * d < c * b then 1 else 0 := by
    unfold lres
    by_cases x1 : a * d = c * b
    · rw [if_pos x1, if_neg (by omega)]
    · rw [if_neg x1]
      rfl
  rw [← hr]
  show f_X9_isLess_L17 lK FU a b c d 0 μ = _
  rw [show FU = (999998 + 1) + 1 from rfl]
  rcases lessM_1 (μ := μ) hv (999998 + 1) with h | ⟨h0, f', h1, h2, h3⟩
  · exact h
  · rw [h3, ← h2]
    have m1 := Int.emod_lt_of_pos a h0
    rcases lessM_1 (μ := μ) h1 999998 with k | ⟨k0, f2, k1, k2, k3⟩
    · exact k
    · rw [k3, ← k2]
      have m2 := Int.emod_lt_of_pos b k0
      have m3 : b % (a % b) ≤ b - a % b := by
        have e1 := Int.mul_ediv_add_emod b (a % b)
        have e2 : 1 ≤ b / (a % b) := Int.le_ediv_of_mul_le k0 (by omega)
        have e3 : a % b * 1 ≤ a % b * (b / (a % b)) := Int.mul_le_mul_of_nonneg_left e2 (by omega)
        omega
      exact lessM_L _ _ _ _ _ _ k1 (by omega)
theorem fk_A {D : Dt} (O : OKD D) (hS : nStuck D) (ht : tot D ≤ 20000) {p : Nat} (hp : p < dnp D) (h : (fk D p (drw D p)).2.2 = true) : (0 ≤ (fk D p (drw D p)).1 ∧ (fk D p (drw D p)).1 ≤ 60000000000000) ∧ 1 ≤ (fk D p (drw D p)).2.1 ∧ (fk D p (drw D p)).2.1 ≤ 1000000 := by
  obtain ⟨i1, i2, i3⟩ := fk_bd O hS ht hp (drw D p) (Nat.le_refl _) h
  have hs := gat_sum O hp (drw D p) (Nat.le_refl _)
  have hL := LL_bd O
  have v1 : (fk D p (drw D p)).2.1 * (3000 * sm (fun r : Nat => gat D p r) (drw D p)) ≤ 1000000 * 60000000 := mul_two_le i2.2 (by omega) (by omega) (by omega)
  exact ⟨⟨i1, Int.le_trans i3 (Int.le_trans v1 (by decide))⟩, i2⟩
theorem Rel_rest {μx μm μx' : Mem} (R : Rel μx μm) (h : ∀ t, t ≠ 1 → t ≠ 7 → t ≠ 8 → μx' t = μx t) (h1 : ∀ i, i ≠ 1 → i ≠ 2 → μx' 1 i = μx 1 i) (h7 : ∀ s, s ≠ 9 → μx' 7 0 s = μx 7 0 s) : Rel μx' μm :=
  Rel_x R (dt_of (fun t h1 _ => h t (by omega) (by omega) (by omega))) (fun t ht => h t (by omega) (by omega) (by omega)) (h1 0 (by decide) (by decide)) (fun s hs => h1 s (by omega) (by omega)) (by
    rw [h 9 (by decide) (by decide) (by decide), h 10 (by decide) (by decide) (by decide), h 28 (by decide) (by decide) (by decide)]
    exact Cach_ext R.2.2.2.2.2 (h7 5 (by decide)) (h7 6 (by decide)) (h7 7 (by decide)) (h7 8 (by decide)))
theorem op_sure {μx μm : Mem} (R : Rel μx μm) {p : Int} (hp : I32 p) : Step (f_X8_sure p μx) (f_X9_sure p μm) := by
  unfold f_X8_sure f_X9_sure
  rw [m0_def]
  obtain ⟨hn1, hn2, hn3⟩ := np_of R
  have e7 : m0 μm 30 0 7 = μm 30 0 7 := m0_k _ (by decide)
  obtain ⟨O, W⟩ := RW_OK R
  obtain ⟨nd1, nd2⟩ := np_D R
  by_cases hpp : 0 ≤ p ∧ p < μm 30 0 7
  · obtain ⟨q, rfl⟩ := natOf hpp.1
    have hq : q < dnp (dt μx) := by omega
    rw [hasX_t hp hpp.1 (by omega) (by omega), isM_t hp hpp.1 (by omega) (by omega), bn_s, bn_s]
    simp only [jn_u, f_X8_refuse, f_X9_no, bn_s, gd_b0]
    rw [if_neg (show ¬ w32 1 = 0 by decide), if_neg (show ¬ w32 1 = 0 by decide)]
    have hX := troubleX O rfl R.2.2.2.2.2
    obtain ⟨μm', k1, k2, k3, k4, k5, k6⟩ := knownM O hq (WM_m0 W)
    by_cases h1 : nStuck (dt μx)
    · by_cases h2 : tot (dt μx) ≤ 20000
      · obtain ⟨μx', a1, a2, a3⟩ := hX.2.2 h1 h2
        have R' : Rel μx' μm := Rel_x R a2.1 (fun t ht => a3 t (by omega) (by omega) (by omega) (by omega) (by omega) (by omega) (by omega) (by omega)) (by rw [a3 1 (by decide) (by decide) (by decide) (by decide) (by decide) (by decide) (by decide) (by decide)]) (fun s _ => by rw [a3 1 (by decide) (by decide) (by decide) (by decide) (by decide) (by decide) (by decide) (by decide)]) a2.2.2
        rw [a1, bn_s]
        by_cases z : LL (dt μx) ≤ 0
        · rw [if_pos z, if_neg (show ¬ w32 10 = 0 by decide), k5 h1 h2 z, bn_s, if_neg (show ¬ w32 10 ≤ 0 by decide)]
          exact Step_mk rfl (Rel_rfk R' k1 10)
        · obtain ⟨c1, c2⟩ := k6 h1 h2 z
          obtain ⟨μ2, b1, b2, b3, b4, b5, b6⟩ := restX O hq a2
          have R2 := Rel_rest R' b3 (fun i hi _ => b4 i hi) b5
          rw [if_neg z, if_pos w32_0, b1, bn_s, c1, bn_s]
          cases hok : (fk (dt μx) q (drw (dt μx) q)).2.2 with
          | false =>
            rw [if_neg (c := (false = true)) (by decide), if_neg (c := (false = true)) (by decide), if_pos w32_0, if_neg (show ¬ w32 9 ≤ 0 by decide)]
            exact Step_mk rfl (Rel_rfk R2 k1 9)
          | true =>
            rw [if_pos rfl, if_pos rfl, if_neg (show ¬ w32 1 = 0 by decide), if_pos (show w32 0 ≤ 0 by decide)]
            obtain ⟨d1, d2, d3⟩ := c2 hok
            obtain ⟨e1, e2⟩ := b6 hok
            obtain ⟨f1, f2⟩ := fk_A O h1 h2 hq hok
            have hL := LL_bd O
            have hm : 0 < (fk (dt μx) q (drw (dt μx) q)).2.1 * LL (dt μx) ∧ (fk (dt μx) q (drw (dt μx) q)).2.1 * LL (dt μx) ≤ 1000000 * 20000 := ⟨Int.mul_pos (by omega) (by omega), mul_two_le f2.2 (by omega) (by omega) hL.1⟩
            rw [d1, d2, d3, e1, e2, Frs_8 b2]
            exact tellK R2 k1 f1.1 hm.1 (by omega) (by omega)
      · rw [hX.2.1 h1 h2, bn_s, if_neg (show ¬ w32 9 = 0 by decide), k4 h1 h2, bn_s, if_neg (show ¬ w32 9 ≤ 0 by decide)]
        exact Step_mk rfl (Rel_rfk R k1 9)
    · rw [hX.1 h1, bn_s, if_neg (show ¬ w32 8 = 0 by decide), k3 h1, bn_s, if_neg (show ¬ w32 8 ≤ 0 by decide)]
      exact Step_mk rfl (Rel_rfk R k1 8)
  · rw [hasX_f hp (by omega) (by omega) (by omega), isM_f hp (by omega) (by omega) (by omega), bn_s, bn_s]
    simp only [jn_u, f_X8_refuse, f_X9_no, bn_s, gd_b0]
    rw [if_pos w32_0, if_pos w32_0, if_neg (show ¬ w32 2 = 0 by decide)]
    exact Step_mk rfl (Rel_rf R 2)
