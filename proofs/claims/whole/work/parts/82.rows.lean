/-! THE REST when a part is known -/
theorem rowsXp {D : Dt} {μ : Mem} (O : OKD D) (X : dt μ = D) {p : Nat} (hp : p ≤ dnp D) : f_X7_rowsAhead (p : Int) μ = some ((wR D p : Int), μ) := by
  have h10 := ok_np O
  have L : ∀ (d n j : Nat), d + j = p → d < n → f_X7_rowsAhead_L4 (p : Int) n (wR D j : Int) (j : Int) μ = some ((wR D p : Int), μ) := by
    intro d
    induction d with
    | zero =>
      intro n j hd hn
      obtain ⟨n, rfl⟩ : ∃ q, n = q + 1 := ⟨n - 1, by omega⟩
      have hj : j = p := by omega
      subst hj
      rw [f_X7_rowsAhead_L4.eq_2, if_pos (Int.le_refl _)]
    | succ d ih =>
      intro n j hd hn
      obtain ⟨n, rfl⟩ : ∃ q, n = q + 1 := ⟨n - 1, by omega⟩
      rw [f_X7_rowsAhead_L4.eq_2, wx_np O X, if_neg (show ¬ w32 (p : Int) ≤ w32 (j : Int) by rw [w32n (by omega), w32n (by omega)]; omega), if_neg (show ¬ w32 (dnp D : Int) ≤ w32 (j : Int) by rw [w32n (by omega), w32n (by omega)]; omega), gd_inb _ (by omega) (by omega) (by omega), ixn (by omega), wx_rw O X (by omega), show ((j : Int) + 1) = ((j + 1 : Nat) : Int) by omega, ← Int.natCast_mul]
      exact ih n (j + 1) (by omega) (by omega)
  exact L p FU 0 (by omega) (by unfold FU; omega)
theorem dig_blk {D : Dt} (O : OKD D) {p i t : Nat} (hp : p < dnp D) (ht : t < wR D p * drw D p) : dig D (wR D p * drw D p * i + t) p = t / wR D p := by
  have h := dig_low O (n := p + 1) (p := p) (q := i) (i := t) (by omega) (by omega)
  have e : wR D (p + 1) = wR D p * drw D p := rfl
  rw [e] at h
  rw [h]
  have hw := ((cW_le O).2.2.2 p (by omega)).1
  unfold dig
  exact Nat.mod_eq_of_lt (by rw [Nat.div_lt_iff_lt_mul hw, Nat.mul_comm]; exact ht)
theorem innerX {D : Dt} (O : OKD D) {cp cr x4 : Int} {x w : Nat} (hle : x + w ≤ cW D) (hcd : ∀ k, x ≤ k → k < x + w → cond D cp cr k) (ht : tot D ≤ 20000) (K : Mem → Option (Int × Mem)) : ∀ (d n j : Nat) (μ : Mem), d + j = x + w → x ≤ j → d < n → GS D cp cr j μ → ∃ μ', f_X6_gatherRow_L54 (w : Int) x4 (x : Int) K n (j : Int) μ = K μ' ∧ GS D cp cr (x + w) μ' ∧ (∀ t, t ≠ 7 → t ≠ 8 → μ' t = μ t) ∧ ∀ s, s ≠ 9 → μ' 7 0 s = μ 7 0 s := by
  have hcw := cW_le O
  have exw : w32 ((x : Int) + (w : Int)) = ((x + w : Nat) : Int) := by rw [show ((x : Int) + (w : Int)) = ((x + w : Nat) : Int) by omega, w32n (by omega)]
  intro d
  induction d with
  | zero =>
    intro n j μ hd hx hn G
    obtain ⟨n, rfl⟩ : ∃ q, n = q + 1 := ⟨n - 1, by omega⟩
    have hj : j = x + w := by omega
    subst hj
    refine ⟨μ, ?_, G, fun t _ _ => rfl, fun s _ => rfl⟩
    rw [f_X6_gatherRow_L54.eq_2, if_pos (show w32 ((x : Int) + (w : Int)) ≤ w32 ((x + w : Nat) : Int) by rw [exw, w32n (by omega)]; omega)]
  | succ d ih =>
    intro n j μ hd hx hn G
    obtain ⟨n, rfl⟩ : ∃ q, n = q + 1 := ⟨n - 1, by omega⟩
    obtain ⟨μ3, b1, b2, b3, b4⟩ := gather1 O (show j < cW D by omega) (hcd j hx (by omega)) G
    obtain ⟨μ4, c1, c2, c3, c4⟩ := ih n (j + 1) μ3 (by omega) (by omega) (by omega) b2
    refine ⟨μ4, ?_, c2, fun t q1 q2 => by rw [c3 t q1 q2, b3 t q1 q2], fun s hs => by rw [c4 s hs, b4 s hs]⟩
    rw [f_X6_gatherRow_L54.eq_2, if_neg (show ¬ w32 ((x : Int) + (w : Int)) ≤ w32 (j : Int) by rw [exw, w32n (by omega)]; omega), fr_6 G.1, if_neg (show ¬ w32 (cW D : Int) ≤ w32 (j : Int) by rw [w32n (by omega), w32n (by omega)]; omega), b1, bn_s, show ((j : Int) + 1) = ((j + 1 : Nat) : Int) by omega]
    exact c1
theorem gatherRowX {D : Dt} (O : OKD D) {p r : Nat} (hp : p < dnp D) (hr : r < drw D p) {μ : Mem} (F : Frs D μ) : ∃ μ', f_X6_gatherRow (p : Int) (r : Int) μ = some (0, μ') ∧ GS D (p : Int) (r : Int) (cW D) μ' ∧ (∀ t, t ≠ 7 → t ≠ 8 → μ' t = μ t) ∧ ∀ s, s ≠ 9 → μ' 7 0 s = μ 7 0 s := by
  have hcw := cW_le O
  have ht := fr_t F
  have h10 := ok_np O
  have hrw := ok_rw O hp
  have hw0 := (hcw.2.2.2 p (by omega)).1
  obtain ⟨w, hw⟩ : ∃ w, w = wR D p := ⟨_, rfl⟩
  obtain ⟨m, hm⟩ : ∃ m, m = drw D p := ⟨_, rfl⟩
  obtain ⟨B, hB⟩ : ∃ B, B = w * m := ⟨_, rfl⟩
  have hBw : wR D p * drw D p = B := by rw [hB, hw, hm]
  have hdv : B ∣ cW D := by
    have := wR_dvd (D := D) (n := p + 1) (dnp D - (p + 1))
    rw [show p + 1 + (dnp D - (p + 1)) = dnp D by omega] at this
    have e : wR D (p + 1) = B := hBw
    rw [e] at this
    exact Nat.dvd_trans this ⟨2 ^ dnc D, rfl⟩
  obtain ⟨Q, hQ⟩ := hdv
  have hB1 : 1 ≤ B := by rw [hB]; exact Nat.mul_pos (show 0 < w by omega) (show 0 < m by omega)
  have hBc : B ≤ cW D := by
    rw [hQ]; exact Nat.le_mul_of_pos_right _ (by
      apply Nat.pos_of_ne_zero; intro z; rw [z] at hQ; omega)
  have hrB : r * w + w ≤ B := by
    have : (r + 1) * w ≤ m * w := Nat.mul_le_mul_right w (by omega)
    rw [Nat.add_mul, Nat.one_mul, Nat.mul_comm m w, ← hB] at this
    exact this
  have hcd : ∀ i t, t < B → (cond D (p : Int) (r : Int) (B * i + t) ↔ t / w = r) := by
    intro i t htB
    have h := dig_blk O (i := i) hp (show t < wR D p * drw D p by rw [hBw]; exact htB)
    rw [hBw, ← hw] at h
    unfold cond
    rw [Int.toNat_natCast, h]
    omega
  have L : ∀ (d n i : Nat) (μ2 : Mem), d + i = Q → d < n → GS D (p : Int) (r : Int) (B * i) μ2 → ∃ μ', f_X6_gatherRow_L41 (w : Int) (B : Int) n ((B * i + r * w : Nat) : Int) μ2 = some (0, μ') ∧ GS D (p : Int) (r : Int) (cW D) μ' ∧ (∀ t, t ≠ 7 → t ≠ 8 → μ' t = μ2 t) ∧ ∀ s, s ≠ 9 → μ' 7 0 s = μ2 7 0 s := by
    intro d
    induction d with
    | zero =>
      intro n i μ2 hd hn G
      obtain ⟨n, rfl⟩ : ∃ q, n = q + 1 := ⟨n - 1, by omega⟩
      have hi : i = Q := by omega
      rw [hi, ← hQ] at G ⊢
      refine ⟨μ2, ?_, G, fun t _ _ => rfl, fun s _ => rfl⟩
      rw [f_X6_gatherRow_L41.eq_2, fr_6 G.1, if_pos (show w32 (cW D : Int) ≤ w32 ((cW D + r * w : Nat) : Int) by rw [w32n (by omega), w32n (by omega)]; omega)]
    | succ d ih =>
      intro n i μ2 hd hn G
      obtain ⟨n, rfl⟩ : ∃ q, n = q + 1 := ⟨n - 1, by omega⟩
      have hiB : B * i + B ≤ cW D := by
        rw [hQ, ← Nat.mul_succ]; exact Nat.mul_le_mul_left B (by omega)
      have G1 : GS D (p : Int) (r : Int) (B * i + r * w) μ2 := GS_skip G (by omega) (fun k h1 h2 => by
        obtain ⟨t, rfl⟩ : ∃ t, k = B * i + t := ⟨k - B * i, by omega⟩
        rw [hcd i t (by omega)]
        intro z
        have : t / w < r := by rw [Nat.div_lt_iff_lt_mul (by omega)]; omega
        omega)
      obtain ⟨μ3, b1, b2, b3, b4⟩ := innerX O (cp := (p : Int)) (cr := (r : Int)) (x4 := (B : Int)) (x := B * i + r * w) (w := w) (by omega) (fun k h1 h2 => by
        obtain ⟨t, rfl⟩ : ∃ t, k = B * i + t := ⟨k - B * i, by omega⟩
        rw [hcd i t (by omega)]
        exact Nat.div_eq_of_lt_le (by omega) (by rw [Nat.add_mul, Nat.one_mul]; omega)) ht (fun μ15 => f_X6_gatherRow_L41 (w : Int) (B : Int) n (((B * i + r * w : Nat) : Int) + (B : Int)) μ15) w FU (B * i + r * w) μ2 (by omega) (by omega) (by unfold FU; omega) G1
      have G3 : GS D (p : Int) (r : Int) (B * (i + 1)) μ3 := GS_skip b2 (by rw [Nat.mul_succ]; omega) (fun k h1 h2 => by
        rw [Nat.mul_succ] at h2
        obtain ⟨t, rfl⟩ : ∃ t, k = B * i + t := ⟨k - B * i, by omega⟩
        rw [hcd i t (by omega)]
        intro z
        have : r < t / w := by
          have : r + 1 ≤ t / w := by rw [Nat.le_div_iff_mul_le (by omega), Nat.add_mul, Nat.one_mul]; omega
          omega
        omega)
      obtain ⟨μ4, c1, c2, c3, c4⟩ := ih n (i + 1) μ3 (by omega) (by omega) G3
      refine ⟨μ4, ?_, c2, fun t q1 q2 => by rw [c3 t q1 q2, b3 t q1 q2], fun s hs => by rw [c4 s hs, b4 s hs]⟩
      rw [f_X6_gatherRow_L41.eq_2, fr_6 G.1, if_neg (show ¬ w32 (cW D : Int) ≤ w32 ((B * i + r * w : Nat) : Int) by rw [w32n (by omega), w32n (by omega)]; omega), b1, show (((B * i + r * w : Nat) : Int) + (B : Int)) = ((B * (i + 1) + r * w : Nat) : Int) by rw [Nat.mul_succ]; omega]
      exact c1
  unfold f_X6_gatherRow
  obtain ⟨μ1, a1, a2, a3, a4, a5, a6⟩ := emptyDX F
  obtain ⟨μ', b1, b2, b3, b4⟩ := L Q FU 0 μ1 (by omega) (by
    have : Q ≤ cW D := by rw [hQ]; exact Nat.le_mul_of_pos_left _ (by omega)
    unfold FU; omega) ⟨a2, fun d hd => by rw [a6 d (by rw [a4 7 (by decide)] at hd; exact hd)]; rfl, by rw [a5]; rfl⟩
  refine ⟨μ', ?_, b2, fun t q1 q2 => by rw [b3 t q1 q2, a3 t q1 q2], fun s hs => by rw [b4 s hs, a4 s hs]⟩
  have ewm : (wR D p : Int) * (drw D p : Int) = (B : Int) := by rw [← hBw, Int.natCast_mul]
  rw [a1, bn_s, rowsXp O a2.1 (by omega), bn_s, gd_inb _ (by omega) (by omega) (by omega), ixn (by omega), wx_rw O a2.1 hp, ewm, if_pos (show w32 1 ≤ w32 (B : Int) by rw [w32n (by omega), show w32 1 = 1 from rfl]; omega), ← hw]
  have e0 : (r : Int) * (w : Int) = ((B * 0 + r * w : Nat) : Int) := by rw [Nat.mul_zero, Nat.zero_add, Int.natCast_mul]
  rw [e0]
  exact b1
/-- the rest, row by row -/
noncomputable def fk (D : Dt) (p : Nat) : Nat → Int × Int × Bool
  | 0 => (0, 1, true)
  | r + 1 => if (fk D p r).2.2 = true ∧ 0 < gat D p r then
      (redN ((fk D p r).1 * gat D p r + apt D p r * (fk D p r).2.1) ((fk D p r).2.1 * gat D p r), redD ((fk D p r).1 * gat D p r + apt D p r * (fk D p r).2.1) ((fk D p r).2.1 * gat D p r),
        decide (redD ((fk D p r).1 * gat D p r + apt D p r * (fk D p r).2.1) ((fk D p r).2.1 * gat D p r) ≤ 1000000))
    else fk D p r
theorem fk_y {D : Dt} {p r : Nat} (h1 : (fk D p r).2.2 = true) (h2 : 0 < gat D p r) : fk D p (r + 1) = (redN ((fk D p r).1 * gat D p r + apt D p r * (fk D p r).2.1) ((fk D p r).2.1 * gat D p r), redD ((fk D p r).1 * gat D p r + apt D p r * (fk D p r).2.1) ((fk D p r).2.1 * gat D p r),
        decide (redD ((fk D p r).1 * gat D p r + apt D p r * (fk D p r).2.1) ((fk D p r).2.1 * gat D p r) ≤ 1000000)) := if_pos ⟨h1, h2⟩
theorem fk_n {D : Dt} {p r : Nat} (h : ¬ ((fk D p r).2.2 = true ∧ 0 < gat D p r)) : fk D p (r + 1) = fk D p r := if_neg h
theorem fk_stay {D : Dt} {p r : Nat} (h : (fk D p r).2.2 = false) : ∀ d, (fk D p (r + d)).2.2 = false := by
  intro d
  induction d with
  | zero => exact h
  | succ d ih => rw [show r + (d + 1) = (r + d) + 1 by omega, fk_n (fun z => by rw [ih] at z; exact absurd z.1 (by decide))]; exact ih
theorem gat_nn {D : Dt} (O : OKD D) {cp cr : Int} : 0 ≤ gat D cp cr := sm_nn (fun k _ => (cwt_bd O).1)
/-- the rows' weights make the whole -/
theorem gat_sum {D : Dt} (O : OKD D) {p : Nat} (hp : p < dnp D) : ∀ r, r ≤ drw D p → 0 ≤ sm (fun r : Nat => gat D p r) r ∧ sm (fun r : Nat => gat D p r) r ≤ LL D ∧ (r = drw D p → sm (fun r : Nat => gat D p r) r = LL D) := by
  intro r hr
  have h := sm_day (P := fun _ => True) (V := fun k => (dig D k p : Int)) (w := lw D) (n := cW D) (fun k _ => by omega) (fun _ => 1) r
  have e1 : sm (fun r : Nat => gat D p r) r = sm (fun d => 1 * sm (fun k => if True ∧ (dig D k p : Int) = (d : Int) then lw D k else 0) (cW D)) r := sm_congr _ (fun d _ => by
    rw [Int.one_mul]
    refine sm_congr _ (fun k _ => ?_)
    unfold cwt cond
    rw [Int.toNat_natCast]
    by_cases z : (dig D k p : Int) = (d : Int)
    · rw [if_pos (Or.inr z), if_pos ⟨trivial, z⟩]
    · rw [if_neg (fun y => y.elim (fun q => by omega) z), if_neg (fun y => z y.2)])
  rw [e1, show sm (fun d => 1 * sm (fun k => if True ∧ (dig D k p : Int) = (d : Int) then lw D k else 0) (cW D)) r = _ from h]
  refine ⟨sm_nn (fun k _ => ?_), sm_le _ (fun k _ => ?_), fun e => sm_congr _ (fun k _ => ?_)⟩
  · have := (lw_bd O (k := k)).1; split <;> omega
  · have := (lw_bd O (k := k)).1; split <;> omega
  · have := dig_lt O (k := k) hp
    rw [if_pos ⟨trivial, by omega⟩, Int.one_mul]
theorem fk_bd {D : Dt} (O : OKD D) (hS : nStuck D) (ht : tot D ≤ 20000) {p : Nat} (hp : p < dnp D) : ∀ r, r ≤ drw D p → (fk D p r).2.2 = true → 0 ≤ (fk D p r).1 ∧ (1 ≤ (fk D p r).2.1 ∧ (fk D p r).2.1 ≤ 1000000) ∧ (fk D p r).1 ≤ (fk D p r).2.1 * (3000 * sm (fun r : Nat => gat D p r) r) := by
  intro r
  induction r with
  | zero => intro _ _; exact ⟨show (0 : Int) ≤ 0 by decide, ⟨show (1 : Int) ≤ 1 by decide, show (1 : Int) ≤ 1000000 by decide⟩, show (0 : Int) ≤ 1 * (3000 * 0) by decide⟩
  | succ r ih =>
    intro hr hok
    have hG := gat_nn O (cp := (p : Int)) (cr := (r : Int))
    have es : sm (fun r : Nat => gat D p r) (r + 1) = sm (fun r : Nat => gat D p r) r + gat D p r := rfl
    by_cases hc : (fk D p r).2.2 = true ∧ 0 < gat D p r
    · obtain ⟨i1, i2, i3⟩ := ih (by omega) hc.1
      rw [fk_y hc.1 hc.2] at hok ⊢
      have hap := apt_bd O hS (cp := (p : Int)) (cr := (r : Int))
      have hs := gat_sum O hp r (by omega)
      obtain ⟨A, hA⟩ : ∃ A, A = (fk D p r).1 := ⟨_, rfl⟩
      obtain ⟨B, hB⟩ : ∃ B, B = (fk D p r).2.1 := ⟨_, rfl⟩
      obtain ⟨G, hGe⟩ : ∃ G, G = gat D p r := ⟨_, rfl⟩
      obtain ⟨a, ha⟩ : ∃ a, a = apt D p r := ⟨_, rfl⟩
      obtain ⟨S, hSe⟩ : ∃ S, S = sm (fun r : Nat => gat D p r) r := ⟨_, rfl⟩
      rw [es]
      rw [← hA, ← hB, ← hGe, ← ha] at hok ⊢
      rw [← hA, ← hB, ← hSe] at i3
      rw [← hA] at i1
      rw [← hB] at i2
      rw [← hGe] at hap hG
      rw [← ha] at hap
      rw [← hSe] at hs ⊢
      have hG1 : 0 < G := by rw [hGe]; exact hc.2
      have hM : 0 < B * G := Int.mul_pos (by omega) hG1
      have hN : 0 ≤ A * G + a * B := Int.add_nonneg (Int.mul_nonneg i1 hG) (Int.mul_nonneg hap.1 (by omega))
      have hrd := red_bd hN hM
      have hok' : redD (A * G + a * B) (B * G) ≤ 1000000 := of_decide_eq_true hok
      refine ⟨hrd.1, ⟨hrd.2.2.1, hok'⟩, ?_⟩
      -- the bound, times the common divisor
      have hg := egcd_pos (a := A * G + a * B) hM
      obtain ⟨g, hge⟩ : ∃ g, g = egcd (A * G + a * B) (B * G) := ⟨_, rfl⟩
      have t1 : redN (A * G + a * B) (B * G) * g = A * G + a * B := by
        unfold redN; rw [← hge]; exact Int.tdiv_mul_cancel (by rw [hge]; exact egcd_dl _ _)
      have t2 : redD (A * G + a * B) (B * G) * g = B * G := by
        unfold redD; rw [← hge]; exact Int.tdiv_mul_cancel (by rw [hge]; exact egcd_dr _ _)
      rw [← hge] at hg
      apply Int.le_of_mul_le_mul_right _ hg
      rw [t1, Int.mul_right_comm, t2]
      have u1 : A * G ≤ B * (3000 * S) * G := Int.mul_le_mul_of_nonneg_right i3 hG
      have u2 : a * B ≤ 3000 * (G * G) * B := Int.mul_le_mul_of_nonneg_right hap.2 (by omega)
      have u3 : B * (3000 * S) * G = B * G * (3000 * S) := Int.mul_right_comm _ _ _
      have u4 : 3000 * (G * G) * B = B * G * (3000 * G) := by
        rw [Int.mul_comm _ B, ← Int.mul_assoc 3000, Int.mul_comm (3000 * G) G, ← Int.mul_assoc]
      have u5 : B * G * (3000 * (S + G)) = B * G * (3000 * S) + B * G * (3000 * G) := by rw [Int.mul_add 3000, Int.mul_add]
      show A * G + a * B ≤ B * G * (3000 * (S + G))
      omega
    · rw [fk_n hc] at hok ⊢
      obtain ⟨i1, i2, i3⟩ := ih (by omega) hok
      refine ⟨i1, i2, Int.le_trans i3 (Int.mul_le_mul_of_nonneg_left (by rw [es]; omega) (by omega))⟩
