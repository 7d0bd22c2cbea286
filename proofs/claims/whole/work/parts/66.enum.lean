/-! THE WAYS one after another -/
theorem dv1 {b k : Nat} (hb : 0 < b) (h : b ∣ k + 1) : (k + 1) / b = k / b + 1 := by
  obtain ⟨q, hq⟩ := h
  rw [hq, Nat.mul_div_cancel_left q hb]
  have hq0 : q ≠ 0 := by intro z; rw [z] at hq; omega
  obtain ⟨q, rfl⟩ : ∃ z, q = z + 1 := ⟨q - 1, by omega⟩
  have : k / b = q := by
    refine Nat.div_eq_of_lt_le ?_ ?_
    · rw [Nat.mul_comm]; rw [Nat.mul_add] at hq; omega
    · rw [Nat.mul_comm]; omega
  omega
theorem dv2 {b k : Nat} (hb : 0 < b) (h : ¬ b ∣ k + 1) : (k + 1) / b = k / b := by
  have h1 := Nat.div_add_mod (k + 1) b
  have h2 : (k + 1) % b ≠ 0 := fun z => h (Nat.dvd_of_mod_eq_zero z)
  have h3 := Nat.mod_lt (k + 1) hb
  symm
  refine Nat.div_eq_of_lt_le ?_ ?_
  · rw [Nat.mul_comm]; omega
  · rw [Nat.mul_comm, Nat.mul_add]; omega
theorem incA {w r k : Nat} (hw : 0 < w) (hr : 0 < r) (h : w ∣ k + 1) (e : r ≤ k / w % r + 1) : w * r ∣ k + 1 ∧ (k + 1) / w % r = 0 := by
  have hx := dv1 hw h
  have hlt := Nat.mod_lt (k / w) hr
  have hd := Nat.div_add_mod (k / w) r
  have hrd : r ∣ k / w + 1 := ⟨k / w / r + 1, by rw [Nat.mul_add]; omega⟩
  have hk : k + 1 = w * (k / w + 1) := by rw [← hx]; exact (Nat.mul_div_cancel' h).symm
  refine ⟨?_, by rw [hx]; exact Nat.mod_eq_zero_of_dvd hrd⟩
  rw [hk]; exact Nat.mul_dvd_mul_left w hrd
theorem incB {w r k : Nat} (hw : 0 < w) (h : w ∣ k + 1) (e : ¬ r ≤ k / w % r + 1) : (k + 1) / w % r = k / w % r + 1 ∧ ∀ v, w * r ∣ v → 0 < v → (k + 1) / v = k / v := by
  have hx := dv1 hw h
  have hd := Nat.div_add_mod (k / w) r
  have hm : (k + 1) / w % r = k / w % r + 1 := by
    rw [hx, show k / w + 1 = r * (k / w / r) + (k / w % r + 1) by omega, Nat.mul_add_mod, Nat.mod_eq_of_lt (by omega)]
  refine ⟨hm, fun v hv hv0 => dv2 hv0 (fun z => ?_)⟩
  obtain ⟨q, hq⟩ := Nat.dvd_trans hv z
  have : (k + 1) / w % r = 0 := by rw [hq, Nat.mul_assoc, Nat.mul_div_cancel_left _ hw, Nat.mul_mod_right]
  omega
theorem wR_dvd {D : Dt} {n : Nat} : ∀ d, wR D n ∣ wR D (n + d) := by
  intro d
  induction d with
  | zero => exact Nat.dvd_refl _
  | succ d ih => exact Nat.dvd_trans ih ⟨drw D (n + d), rfl⟩
theorem dig_lt {D : Dt} (O : OKD D) {k p : Nat} (h : p < dnp D) : dig D k p < drw D p := Nat.mod_lt _ (by have := ok_rw O h; omega)
def SX (D : Dt) (k : Nat) (μ : Mem) : Prop := dt μ = D ∧ (∀ p, p < dnp D → μ 12 0 p = (dig D k p : Int)) ∧ μ 11 0 4 = ((k / wR D (dnp D) : Nat) : Int) ∧ μ 11 0 5 = pr (fun c => if cbt D k c then dct D c else dcl D c - dct D c) (dnc D) ∧ ∀ p, p < dnp D → μ 13 0 p = late1 D (cbt D k) p
def SM (D : Dt) (k : Nat) (μ : Mem) : Prop := WM D μ ∧ (∀ p, p < dnp D → μ 44 0 p = (dig D k p : Int)) ∧ ∀ c, c < dnc D → μ 47 0 c = if cbt D k c then 1 else 0
theorem takeX_1 {D : Dt} (O : OKD D) (K : Mem → Option (Int × Mem)) {c : Nat} (hc : c < dnc D) : ∀ (d n j : Nat) (μ : Mem), dt μ = D → d + j = dnp D → d < n →
    ∃ μ', f_X2_takeCauses_L88 (c : Int) K n (j : Int) μ = K μ' ∧ (∀ t, t ≠ 13 → μ' t = μ t) ∧ (∀ s, s < j → μ' 13 0 s = μ 13 0 s) ∧ ∀ s, j ≤ s → s < dnp D → μ' 13 0 s = μ 13 0 s + dlt D s c := by
  intro d
  have h10 := ok_np O
  have h4 := ok_nc O
  induction d with
  | zero =>
    intro n j μ X hd hn
    obtain ⟨n, rfl⟩ : ∃ q, n = q + 1 := ⟨n - 1, by omega⟩
    refine ⟨μ, ?_, fun t _ => rfl, fun s _ => rfl, fun s h1 h2 => by omega⟩
    rw [f_X2_takeCauses_L88.eq_2, wx_np O X, if_pos (show w32 (dnp D : Int) ≤ w32 (j : Int) by rw [show j = dnp D by omega]; omega)]
  | succ d ih =>
    intro n j μ X hd hn
    obtain ⟨n, rfl⟩ : ∃ q, n = q + 1 := ⟨n - 1, by omega⟩
    obtain ⟨μ', h1, h2, h3, h5⟩ := ih n (j + 1) (st μ 13 0 j (μ 13 0 j + dlt D j c)) (by rw [dt_st _ (by decide)]; exact X) (by omega) (by omega)
    refine ⟨μ', ?_, fun t ht => by rw [h2 t ht, st_tag _ ht], fun s hs => by rw [h3 s (by omega), st_nk _ (by omega)], fun s hs1 hs2 => ?_⟩
    · rw [f_X2_takeCauses_L88.eq_2, wx_np O X, if_neg (show ¬ w32 (dnp D : Int) ≤ w32 (j : Int) by rw [w32n (by omega), w32n (by omega)]; omega), gd_inb _ (by omega) (by omega) (by omega), gd_inb _ (by omega) (by omega) (by omega), gd_inb _ (by omega) (by omega) (by omega), gd_inb _ (by omega) (by omega) (by omega), ixn (by omega), ixn (by omega), wx_lt X, show ((j : Int) + 1) = ((j + 1 : Nat) : Int) by omega]
      exact h1
    · by_cases e : s = j
      · rw [e, h3 j (by omega), st_eq]
      · rw [h5 s (by omega) hs2, st_nk _ e]
theorem takeX_2 {D : Dt} (O : OKD D) {C : Nat} (hC : C < 2 ^ 31) : ∀ (d n j : Nat) (μ : Mem), dt μ = D → μ 11 0 4 = (C : Int) → d + j = dnc D → d < n → μ 11 0 5 = pr (fun c => if C.testBit c then dct D c else dcl D c - dct D c) j → (∀ s, s < dnp D → μ 13 0 s = sm (fun c => if C.testBit c then dlt D s c else 0) j) →
    ∃ μ', f_X2_takeCauses_L15 n (j : Int) μ = some (0, μ') ∧ (∀ t, t ≠ 11 → t ≠ 13 → μ' t = μ t) ∧ (∀ s, s ≠ 5 → μ' 11 0 s = μ 11 0 s) ∧ μ' 11 0 5 = pr (fun c => if C.testBit c then dct D c else dcl D c - dct D c) (dnc D) ∧ ∀ s, s < dnp D → μ' 13 0 s = sm (fun c => if C.testBit c then dlt D s c else 0) (dnc D) := by
  intro d
  have h10 := ok_np O
  have h4 := ok_nc O
  induction d with
  | zero =>
    intro n j μ X hC4 hd hn h5 h13
    obtain ⟨n, rfl⟩ : ∃ q, n = q + 1 := ⟨n - 1, by omega⟩
    have hj : j = dnc D := by omega
    refine ⟨μ, ?_, fun t _ _ => rfl, fun s _ => rfl, by rw [← hj]; exact h5, by rw [← hj]; exact h13⟩
    rw [f_X2_takeCauses_L15.eq_2, wx_nc O X, if_pos (show w32 (dnc D : Int) ≤ w32 (j : Int) by rw [hj]; omega)]
  | succ d ih =>
    intro n j μ X hC4 hd hn h5 h13
    obtain ⟨n, rfl⟩ : ∃ q, n = q + 1 := ⟨n - 1, by omega⟩
    rw [f_X2_takeCauses_L15.eq_2, wx_nc O X, if_neg (show ¬ w32 (dnc D : Int) ≤ w32 (j : Int) by rw [w32n (by omega), w32n (by omega)]; omega)]
    simp only [jn_u]
    rw [hC4, b_bit (by omega) hC, gd_inb _ (by omega) (by omega) (by omega), gd_inb _ (by omega) (by omega) (by omega), gd_inb _ (by omega) (by omega) (by omega), ixn (by omega), wx_cl X, wx_ct X, show ((j : Int) + 1) = ((j + 1 : Nat) : Int) by omega]
    cases hb : C.testBit j with
    | false =>
      rw [if_neg (c := (false = true)) (by decide), if_pos w32_0]
      obtain ⟨μ', g1, g2, g3, g4, g5⟩ := ih n (j + 1) (st μ 11 0 5 (μ 11 0 5 * (dcl D j - dct D j))) (by rw [dt_st _ (by decide)]; exact X) (by rw [st_nk _ (by decide)]; exact hC4) (by omega) (by omega) (by
          rw [st_eq, h5]
          show _ = pr (fun c => if C.testBit c then dct D c else dcl D c - dct D c) j * (if C.testBit j then dct D j else dcl D j - dct D j)
          rw [hb, if_neg (c := (false = true)) (by decide)]) (fun s hs => by
          rw [st_nt _ (by decide), h13 s hs]
          show _ = sm (fun c => if C.testBit c then dlt D s c else 0) j + (if C.testBit j then dlt D s j else 0)
          rw [hb, if_neg (c := (false = true)) (by decide)]; omega)
      exact ⟨μ', g1, fun t h1 h2 => by rw [g2 t h1 h2, st_tag _ h1], fun s hs => by rw [g3 s hs, st_nk _ hs], g4, g5⟩
    | true =>
      rw [if_pos rfl, if_neg (show ¬ w32 1 = 0 by decide)]
      obtain ⟨μ1, k1, k2, k3, k4⟩ := takeX_1 O (fun μ16 => f_X2_takeCauses_L15 n ((j + 1 : Nat) : Int) μ16) (show j < dnc D by omega) (dnp D) FU 0 (st μ 11 0 5 (μ 11 0 5 * dct D j)) (by rw [dt_st _ (by decide)]; exact X) (by omega) (by unfold FU; omega)
      rw [show f_X2_takeCauses_L88 (j : Int) _ FU 0 (st μ 11 0 5 (μ 11 0 5 * dct D j)) = _ from k1]
      obtain ⟨μ', g1, g2, g3, g4, g5⟩ := ih n (j + 1) μ1 (by
          have : dt μ1 = dt (st μ 11 0 5 (μ 11 0 5 * dct D j)) := by unfold dt; rw [k2 15 (by decide), k2 17 (by decide), k2 18 (by decide), k2 19 (by decide), k2 20 (by decide), k2 21 (by decide), k2 22 (by decide)]
          rw [this, dt_st _ (by decide)]; exact X) (by rw [k2 11 (by decide), st_nk _ (by decide)]; exact hC4) (by omega) (by omega) (by
          rw [k2 11 (by decide), st_eq, h5]
          show _ = pr (fun c => if C.testBit c then dct D c else dcl D c - dct D c) j * (if C.testBit j then dct D j else dcl D j - dct D j)
          rw [hb, if_pos rfl]) (fun s hs => by
          rw [k4 s (by omega) hs, st_nt _ (by decide), h13 s hs]
          show _ = sm (fun c => if C.testBit c then dlt D s c else 0) j + (if C.testBit j then dlt D s j else 0)
          rw [hb, if_pos rfl])
      exact ⟨μ', g1, fun t h1 h2 => by rw [g2 t h1 h2, k2 t h2, st_tag _ h1], fun s hs => by rw [g3 s hs, k2 11 (by decide), st_nk _ hs], g4, g5⟩
theorem takeX {D : Dt} (O : OKD D) {C : Nat} (hC : C < 2 ^ 31) {μ : Mem} (X : dt μ = D) (h4 : μ 11 0 4 = (C : Int)) :
    ∃ μ', f_X2_takeCauses μ = some (0, μ') ∧ (∀ t, t ≠ 11 → t ≠ 13 → μ' t = μ t) ∧ (∀ s, s ≠ 5 → μ' 11 0 s = μ 11 0 s) ∧ μ' 11 0 5 = pr (fun c => if C.testBit c then dct D c else dcl D c - dct D c) (dnc D) ∧ ∀ s, s < dnp D → μ' 13 0 s = sm (fun c => if C.testBit c then dlt D s c else 0) (dnc D) := by
  have h10 := ok_np O
  unfold f_X2_takeCauses
  rw [fillI 13 0 10 0 _ (by decide), bn_s]
  have hdt : dt (fl_ (st μ 11 0 5 1) 13 0 10 0) = D := by
    rw [← X]; unfold dt
    rw [fl_tag _ (by decide), fl_tag _ (by decide), fl_tag _ (by decide), fl_tag _ (by decide), fl_tag _ (by decide), fl_tag _ (by decide), fl_tag _ (by decide)]
    exact dt_st _ (by decide)
  obtain ⟨μ', g1, g2, g3, g4, g5⟩ := takeX_2 O hC (dnc D) FU 0 (fl_ (st μ 11 0 5 1) 13 0 10 0) hdt (by rw [fl_tag _ (by decide), st_nk _ (by decide)]; exact h4) (by omega) (by have := ok_nc O; unfold FU; omega) (by rw [fl_tag _ (by decide), st_eq]; rfl) (fun s hs => by rw [fl_in _ (by omega)]; rfl)
  exact ⟨μ', g1, fun t h1 h2 => by rw [g2 t h1 h2, fl_tag _ h2, st_tag _ h1], fun s hs => by rw [g3 s hs, fl_tag _ (by decide), st_nk _ hs], g4, g5⟩
theorem dt_of {μ μ' : Mem} (h : ∀ t, 14 < t → t < 23 → μ' t = μ t) : dt μ' = dt μ := by
  unfold dt; rw [h 15 (by decide) (by decide), h 17 (by decide) (by decide), h 18 (by decide) (by decide), h 19 (by decide) (by decide), h 20 (by decide) (by decide), h 21 (by decide) (by decide), h 22 (by decide) (by decide)]
theorem firstX {D : Dt} (O : OKD D) {μ : Mem} (X : dt μ = D) : ∃ μ', f_X2_goToFirst μ = some (0, μ') ∧ SX D 0 μ' ∧ ∀ t, t ≠ 11 → t ≠ 12 → t ≠ 13 → μ' t = μ t := by
  have h10 := ok_np O
  unfold f_X2_goToFirst
  rw [fillI 12 0 10 0 _ (by decide), bn_s]
  have hdt : dt (st (fl_ μ 12 0 10 0) 11 0 4 0) = D := by
    rw [← X, dt_st _ (by decide)]; exact dt_of (fun t h1 _ => fl_tag _ (by omega))
  obtain ⟨μ', g1, g2, g3, g4, g5⟩ := takeX O (C := 0) (by decide) hdt (by rw [st_eq]; rfl)
  have e0 : 0 / wR D (dnp D) = 0 := Nat.zero_div _
  refine ⟨μ', by rw [g1, bn_s], ⟨?_, fun p hp => ?_, ?_, ?_, ?_⟩, fun t h1 h2 h3 => by rw [g2 t h1 h3, st_tag _ h1, fl_tag _ h2]⟩
  · rw [← hdt]; exact dt_of (fun t h1 _ => g2 t (by omega) (by omega))
  · rw [g2 12 (by decide) (by decide), st_tag _ (by decide), fl_in _ (by omega)]
    unfold dig; rw [Nat.zero_div, Nat.zero_mod]; rfl
  · rw [g3 4 (by decide), st_eq, e0]; rfl
  · rw [g4]; unfold cbt; rw [e0]
  · unfold late1 cbt; rw [e0]; exact g5
theorem nextX_L {D : Dt} (O : OKD D) {k : Nat} {μ0 : Mem} (S : SX D k μ0) (hk : k < 1000000) : ∀ (d n j : Nat) (μ : Mem), d + j = dnp D → d < n → (∀ t, t ≠ 12 → μ t = μ0 t) → (∀ s, s < j → μ 12 0 s = (dig D (k + 1) s : Int)) → (∀ s, j ≤ s → μ 12 0 s = μ0 12 0 s) → wR D j ∣ k + 1 →
    ∃ μ', f_X2_goToNext_L2 n (j : Int) μ = some (0, μ') ∧ SX D (k + 1) μ' ∧ ∀ t, t ≠ 11 → t ≠ 12 → t ≠ 13 → μ' t = μ0 t := by
  obtain ⟨X0, s12, s4, s5, s13⟩ := S
  intro d
  have h10 := ok_np O
  have hc := cW_le O
  induction d with
  | zero =>
    intro n j μ hd hn ht h1 h2 hdv
    obtain ⟨n, rfl⟩ : ∃ q, n = q + 1 := ⟨n - 1, by omega⟩
    have hj : j = dnp D := by omega
    subst hj
    have X : dt μ = D := by rw [← X0]; exact dt_of (fun t h1 _ => ht t (by omega))
    have hx := dv1 (hc.2.2.2 (dnp D) (Nat.le_refl _)).1 hdv
    have hle : k / wR D (dnp D) ≤ k := Nat.div_le_self _ _
    rw [f_X2_goToNext_L2.eq_2, wx_np O X, if_pos (Int.le_refl _)]
    obtain ⟨μ', g1, g2, g3, g4, g5⟩ := takeX O (C := k / wR D (dnp D) + 1) (by omega) (μ := st μ 11 0 4 (μ 11 0 4 + 1)) (by rw [dt_st _ (by decide)]; exact X) (by rw [st_eq, ht 11 (by decide), s4]; omega)
    refine ⟨μ', by rw [g1, bn_s], ⟨?_, fun p hp => ?_, ?_, ?_, ?_⟩, fun t h1 h2 h3 => by rw [g2 t h1 h3, st_tag _ h1, ht t h2]⟩
    · rw [← X]; exact dt_of (fun t h1 _ => by rw [g2 t (by omega) (by omega), st_tag _ (by omega)])
    · rw [g2 12 (by decide) (by decide), st_tag _ (by decide)]; exact h1 p hp
    · rw [g3 4 (by decide), st_eq, ht 11 (by decide), s4, hx]; omega
    · rw [g4]; unfold cbt; rw [hx]
    · unfold late1 cbt; rw [hx]; exact g5
  | succ d ih =>
    intro n j μ hd hn ht h1 h2 hdv
    obtain ⟨n, rfl⟩ : ∃ q, n = q + 1 := ⟨n - 1, by omega⟩
    have X : dt μ = D := by rw [← X0]; exact dt_of (fun t h1 _ => ht t (by omega))
    have hjp : j < dnp D := by omega
    have hr := ok_rw O hjp
    have hdl := dig_lt O (k := k) hjp
    have hw0 := (hc.2.2.2 j (by omega)).1
    have e12 : μ 12 0 j = (dig D k j : Int) := by rw [h2 j (Nat.le_refl _)]; exact s12 j hjp
    rw [f_X2_goToNext_L2.eq_2, wx_np O X, if_neg (show ¬ w32 (dnp D : Int) ≤ w32 (j : Int) by rw [w32n (by omega), w32n (by omega)]; omega), gd_inb _ (by omega) (by omega) (by omega), gd_inb _ (by omega) (by omega) (by omega), gd_inb _ (by omega) (by omega) (by omega), gd_inb _ (by omega) (by omega) (by omega), gd_inb _ (by omega) (by omega) (by omega), ixn (by omega), st_eq, st_nt _ (by decide), wx_rw O X hjp, e12, w32n (by omega), w32_id (x := (dig D k j : Int) + 1) (by omega) (by omega)]
    by_cases z : drw D j ≤ dig D k j + 1
    · obtain ⟨i1, i2⟩ := incA hw0 hr.1 hdv z
      rw [if_pos (show (drw D j : Int) ≤ (dig D k j : Int) + 1 by omega), show ((j : Int) + 1) = ((j + 1 : Nat) : Int) by omega]
      exact ih n (j + 1) _ (by omega) (by omega) (fun t h => by rw [st_tag _ h, st_tag _ h, ht t h]) (fun s hs => by
        by_cases e : s = j
        · rw [e, st_eq]; unfold dig; rw [i2]; rfl
        · rw [st_nk _ e, st_nk _ e]; exact h1 s (by omega)) (fun s hs => by rw [st_nk _ (by omega), st_nk _ (by omega)]; exact h2 s (by omega)) i1
    · obtain ⟨i1, i2⟩ := incB hw0 hdv z
      rw [if_neg (show ¬ (drw D j : Int) ≤ (dig D k j : Int) + 1 by omega)]
      have hv : ∀ s, j < s → s ≤ dnp D → (k + 1) / wR D s = k / wR D s := fun s hs1 hs2 => i2 _ (by
        have := wR_dvd (D := D) (n := j + 1) (s - (j + 1))
        rw [show j + 1 + (s - (j + 1)) = s by omega] at this; exact this) (hc.2.2.2 s hs2).1
      have hcc : (k + 1) / wR D (dnp D) = k / wR D (dnp D) := hv _ hjp (Nat.le_refl _)
      refine ⟨_, rfl, ⟨?_, fun p hp => ?_, ?_, ?_, ?_⟩, fun t _ h _ => by rw [st_tag _ h, ht t h]⟩
      · rw [dt_st _ (by decide)]; exact X
      · by_cases e : p = j
        · rw [e, st_eq]; unfold dig; rw [i1]; omega
        · rw [st_nk _ e]
          by_cases e2 : p < j
          · exact h1 p e2
          · rw [h2 p (by omega), s12 p hp]; unfold dig; rw [hv p (by omega) (by omega)]
      · rw [st_nt _ (by decide), ht 11 (by decide), s4, hcc]
      · rw [st_nt _ (by decide), ht 11 (by decide), s5]; unfold cbt; rw [hcc]
      · intro p hp
        rw [st_nt _ (by decide), ht 13 (by decide), s13 p hp]; unfold late1 cbt; rw [hcc]
theorem nextX {D : Dt} (O : OKD D) {k : Nat} {μ : Mem} (S : SX D k μ) (hk : k < 1000000) : ∃ μ', f_X2_goToNext μ = some (0, μ') ∧ SX D (k + 1) μ' ∧ ∀ t, t ≠ 11 → t ≠ 12 → t ≠ 13 → μ' t = μ t :=
  nextX_L O S hk (dnp D) FU 0 μ (by omega) (by have := ok_np O; unfold FU; omega) (fun t _ => rfl) (fun s hs => absurd hs (by omega)) (fun s _ => rfl) ⟨k + 1, by show k + 1 = 1 * (k + 1); omega⟩
theorem prodX {D : Dt} (O : OKD D) {k : Nat} {μ : Mem} (S : SX D k μ) : f_X2_product μ = some (wWt D k, μ) := by
  obtain ⟨X, s12, s4, s5, s13⟩ := S
  have h10 := ok_np O
  have L : ∀ (d n j : Nat), d + j = dnp D → d < n → f_X2_product_L7 n (μ 11 0 5 * pr (fun p => dwt D p (dig D k p)) j) (j : Int) μ = some (μ 11 0 5 * pr (fun p => dwt D p (dig D k p)) (dnp D), μ) := by
    intro d
    induction d with
    | zero =>
      intro n j hd hn
      obtain ⟨n, rfl⟩ : ∃ q, n = q + 1 := ⟨n - 1, by omega⟩
      have hj : j = dnp D := by omega
      subst hj
      rw [f_X2_product_L7.eq_2, wx_np O X, if_pos (Int.le_refl _)]
    | succ d ih =>
      intro n j hd hn
      obtain ⟨n, rfl⟩ : ∃ q, n = q + 1 := ⟨n - 1, by omega⟩
      have hjp : j < dnp D := by omega
      have hr := ok_rw O hjp
      have hdl := dig_lt O (k := k) hjp
      rw [f_X2_product_L7.eq_2, wx_np O X, if_neg (show ¬ w32 (dnp D : Int) ≤ w32 (j : Int) by rw [w32n (by omega), w32n (by omega)]; omega), gd_inb _ (by omega) (by omega) (by omega), gd_inb _ (by omega) (by omega) (by omega), ixn (by omega), s12 j hjp, gd_inb _ (by omega) (by omega) (by omega), ixn (by omega), wx_wt X, show ((j : Int) + 1) = ((j + 1 : Nat) : Int) by omega, Int.mul_assoc]
      exact ih n (j + 1) (by omega) (by omega)
  have := L (dnp D) FU 0 (by omega) (by unfold FU; omega)
  rw [show pr (fun p => dwt D p (dig D k p)) 0 = 1 from rfl, Int.mul_one] at this
  unfold f_X2_product
  rw [show f_X2_product_L7 FU (μ 11 0 5) 0 μ = _ from this, s5, Int.mul_comm]
  rfl
