/-! THE WAYS one after another, in the model -/
theorem WMs {D : Dt} {μ μ' : Mem} (W : WM D μ) (h : ∀ t, t < 43 → μ' t = μ t) : WM D μ' := WM_ext W (fun t _ _ => h t (by omega)) (fun k _ => by rw [h 30 (by decide)])
theorem firstM_1 {D : Dt} (O : OKD D) (K : Mem → Option (Int × Mem)) : ∀ (d n j : Nat) (μ : Mem), WM D μ → d + j = dnp D → d < n →
    ∃ μ', f_X9_firstWay_L2 K n (j : Int) μ = K μ' ∧ (∀ t, t ≠ 44 → μ' t = μ t) ∧ (∀ s, s < j → μ' 44 0 s = μ 44 0 s) ∧ ∀ s, j ≤ s → s < dnp D → μ' 44 0 s = 0 := by
  intro d
  have h10 := ok_np O
  induction d with
  | zero =>
    intro n j μ W hd hn
    obtain ⟨n, rfl⟩ : ∃ q, n = q + 1 := ⟨n - 1, by omega⟩
    refine ⟨μ, ?_, fun t _ => rfl, fun s _ => rfl, fun s h1 h2 => by omega⟩
    rw [f_X9_firstWay_L2.eq_2, wm_np W, if_pos (show w32 (dnp D : Int) ≤ w32 (j : Int) by rw [show j = dnp D by omega]; omega)]
  | succ d ih =>
    intro n j μ W hd hn
    obtain ⟨n, rfl⟩ : ∃ q, n = q + 1 := ⟨n - 1, by omega⟩
    obtain ⟨μ', h1, h2, h3, h5⟩ := ih n (j + 1) (st μ 44 0 j 0) (WMs W (fun t ht => st_tag _ (by omega))) (by omega) (by omega)
    refine ⟨μ', ?_, fun t ht => by rw [h2 t ht, st_tag _ ht], fun s hs => by rw [h3 s (by omega), st_nk _ (by omega)], fun s hs1 hs2 => ?_⟩
    · rw [f_X9_firstWay_L2.eq_2, wm_np W, if_neg (show ¬ w32 (dnp D : Int) ≤ w32 (j : Int) by rw [w32n (by omega), w32n (by omega)]; omega), gd_inb _ (by omega) (by omega) (by omega), ixn (by omega), show ((j : Int) + 1) = ((j + 1 : Nat) : Int) by omega]
      exact h1
    · by_cases e : s = j
      · rw [e, h3 j (by omega), st_eq]
      · exact h5 s (by omega) hs2
theorem firstM_2 {D : Dt} (O : OKD D) : ∀ (d n j : Nat) (μ : Mem), WM D μ → d + j = dnc D → d < n →
    ∃ μ', f_X9_firstWay_L25 n (j : Int) μ = some (0, μ') ∧ (∀ t, t ≠ 47 → μ' t = μ t) ∧ (∀ s, s < j → μ' 47 0 s = μ 47 0 s) ∧ ∀ s, j ≤ s → s < dnc D → μ' 47 0 s = 0 := by
  intro d
  have h10 := ok_nc O
  induction d with
  | zero =>
    intro n j μ W hd hn
    obtain ⟨n, rfl⟩ : ∃ q, n = q + 1 := ⟨n - 1, by omega⟩
    refine ⟨μ, ?_, fun t _ => rfl, fun s _ => rfl, fun s h1 h2 => by omega⟩
    rw [f_X9_firstWay_L25.eq_2, wm_nc W, if_pos (show w32 (dnc D : Int) ≤ w32 (j : Int) by rw [show j = dnc D by omega]; omega)]
  | succ d ih =>
    intro n j μ W hd hn
    obtain ⟨n, rfl⟩ : ∃ q, n = q + 1 := ⟨n - 1, by omega⟩
    obtain ⟨μ', h1, h2, h3, h5⟩ := ih n (j + 1) (st μ 47 0 j 0) (WMs W (fun t ht => st_tag _ (by omega))) (by omega) (by omega)
    refine ⟨μ', ?_, fun t ht => by rw [h2 t ht, st_tag _ ht], fun s hs => by rw [h3 s (by omega), st_nk _ (by omega)], fun s hs1 hs2 => ?_⟩
    · rw [f_X9_firstWay_L25.eq_2, wm_nc W, if_neg (show ¬ w32 (dnc D : Int) ≤ w32 (j : Int) by rw [w32n (by omega), w32n (by omega)]; omega), gd_inb _ (by omega) (by omega) (by omega), ixn (by omega), show ((j : Int) + 1) = ((j + 1 : Nat) : Int) by omega]
      exact h1
    · by_cases e : s = j
      · rw [e, h3 j (by omega), st_eq]
      · exact h5 s (by omega) hs2
theorem firstM {D : Dt} (O : OKD D) {μ : Mem} (W : WM D μ) : ∃ μ', f_X9_firstWay μ = some (0, μ') ∧ SM D 0 μ' ∧ ∀ t, t ≠ 44 → t ≠ 47 → μ' t = μ t := by
  have h10 := ok_np O
  have h4 := ok_nc O
  unfold f_X9_firstWay
  obtain ⟨μ1, a1, a2, -, a3⟩ := firstM_1 O (fun μ3 => f_X9_firstWay_L25 FU 0 μ3) (dnp D) FU 0 μ W (by omega) (by unfold FU; omega)
  obtain ⟨μ2, b1, b2, -, b3⟩ := firstM_2 O (dnc D) FU 0 μ1 (WMs W (fun t ht => a2 t (by omega))) (by omega) (by unfold FU; omega)
  have e0 : 0 / wR D (dnp D) = 0 := Nat.zero_div _
  refine ⟨μ2, ?_, ⟨WMs W (fun t ht => by rw [b2 t (by omega), a2 t (by omega)]), fun p hp => ?_, fun c hc => ?_⟩, fun t h1 h2 => by rw [b2 t h2, a2 t h1]⟩
  · rw [show f_X9_firstWay_L2 _ FU 0 μ = _ from a1]; exact b1
  · rw [b2 44 (by decide), a3 p (by omega) hp]; unfold dig; rw [Nat.zero_div, Nat.zero_mod]; rfl
  · rw [b3 c (by omega) hc]; unfold cbt; rw [e0, Nat.zero_testBit]; rfl
/-- the causes, as a number one greater -/
theorem bit_div {C j : Nat} : C.testBit j = decide (C / 2 ^ j % 2 = 1) := Nat.testBit_eq_decide_div_mod_eq
theorem nextM_2 {D : Dt} (O : OKD D) {C : Nat} {μ0 : Mem} (W0 : WM D μ0) (hc0 : ∀ c, c < dnc D → μ0 47 0 c = if C.testBit c then 1 else 0) : ∀ (d n j : Nat) (μ : Mem), d + j = dnc D → d < n → (∀ t, t ≠ 47 → μ t = μ0 t) → (∀ s, s < j → μ 47 0 s = if (C + 1).testBit s then 1 else 0) → (∀ s, j ≤ s → μ 47 0 s = μ0 47 0 s) → 2 ^ j ∣ C + 1 →
    ∃ μ', f_X9_nextWay_L52 n (j : Int) μ = some (if 2 ^ dnc D ∣ C + 1 then 0 else 1, μ') ∧ (∀ t, t ≠ 47 → μ' t = μ0 t) ∧ ∀ s, s < dnc D → μ' 47 0 s = if (C + 1).testBit s then 1 else 0 := by
  intro d
  have h10 := ok_nc O
  induction d with
  | zero =>
    intro n j μ hd hn ht h1 h2 hdv
    obtain ⟨n, rfl⟩ : ∃ q, n = q + 1 := ⟨n - 1, by omega⟩
    have hj : j = dnc D := by omega
    subst hj
    refine ⟨μ, ?_, ht, h1⟩
    rw [f_X9_nextWay_L52.eq_2, ht 30 (by decide), wm_nc W0, if_pos (Int.le_refl _), if_pos hdv]
  | succ d ih =>
    intro n j μ hd hn ht h1 h2 hdv
    obtain ⟨n, rfl⟩ : ∃ q, n = q + 1 := ⟨n - 1, by omega⟩
    have hjp : j < dnc D := by omega
    have hw0 : 0 < 2 ^ j := Nat.two_pow_pos j
    rw [f_X9_nextWay_L52.eq_2, ht 30 (by decide), wm_nc W0, if_neg (show ¬ w32 (dnc D : Int) ≤ w32 (j : Int) by rw [w32n (by omega), w32n (by omega)]; omega)]
    simp only [jn_u]
    rw [gd_inb _ (by omega) (by omega) (by omega), gd_inb _ (by omega) (by omega) (by omega), gd_inb _ (by omega) (by omega) (by omega), gd_inb _ (by omega) (by omega) (by omega), gd_inb _ (by omega) (by omega) (by omega), ixn (by omega), h2 j (Nat.le_refl _), hc0 j hjp, st_eq, st_eq, gd_b0, gd_b1]
    cases hb : C.testBit j with
    | true =>
      rw [if_pos rfl, if_neg (show ¬ w32 1 = 0 by decide), if_pos w32_0, show ((j : Int) + 1) = ((j + 1 : Nat) : Int) by omega]
      rw [bit_div, decide_eq_true_eq] at hb
      obtain ⟨i1, i2⟩ := incA hw0 (show 0 < 2 by decide) hdv (show 2 ≤ C / 2 ^ j % 2 + 1 by omega)
      refine ih n (j + 1) _ (by omega) (by omega) (fun t h => by rw [st_tag _ h, ht t h]) (fun s hs => ?_) (fun s hs => by rw [st_nk _ (by omega)]; exact h2 s (by omega)) (by rw [Nat.pow_succ]; exact i1)
      by_cases e : s = j
      · rw [e, st_eq, bit_div, i2]; rfl
      · rw [st_nk _ e]; exact h1 s (by omega)
    | false =>
      rw [if_neg (c := (false = true)) (by decide), if_pos w32_0, if_neg (show ¬ w32 1 = 0 by decide)]
      rw [bit_div, decide_eq_false_iff_not] at hb
      obtain ⟨i1, i2⟩ := incB hw0 hdv (show ¬ 2 ≤ C / 2 ^ j % 2 + 1 by omega)
      have hv : ∀ s, j < s → (C + 1) / 2 ^ s = C / 2 ^ s := fun s hs => i2 _ ⟨2 ^ (s - (j + 1)), by rw [← Nat.pow_succ, ← Nat.pow_add]; congr 1; omega⟩ (Nat.two_pow_pos s)
      have hnd : ¬ 2 ^ dnc D ∣ C + 1 := by
        intro z
        have a := dv1 (Nat.two_pow_pos (dnc D)) z
        have b := hv (dnc D) hjp
        omega
      refine ⟨_, by rw [if_neg hnd], fun t h => by rw [st_tag _ h, ht t h], fun s hs => ?_⟩
      by_cases e : s = j
      · rw [e, st_eq, bit_div, i1, if_pos (decide_eq_true (by omega))]
      · rw [st_nk _ e]
        by_cases e2 : s < j
        · exact h1 s e2
        · rw [h2 s (by omega), hc0 s hs, bit_div, bit_div, hv s (by omega)]
theorem nextM_L {D : Dt} (O : OKD D) {k : Nat} {μ0 : Mem} (S : SM D k μ0) (hk : k < cW D) : ∀ (d n j : Nat) (μ : Mem), d + j = dnp D → d < n → (∀ t, t ≠ 44 → μ t = μ0 t) → (∀ s, s < j → μ 44 0 s = (dig D (k + 1) s : Int)) → (∀ s, j ≤ s → μ 44 0 s = μ0 44 0 s) → wR D j ∣ k + 1 →
    ∃ μ', f_X9_nextWay_L2 (fun μ8 => f_X9_nextWay_L52 FU 0 μ8) n (j : Int) μ = some (if k + 1 = cW D then 0 else 1, μ') ∧ SM D (k + 1) μ' ∧ ∀ t, t ≠ 44 → t ≠ 47 → μ' t = μ0 t := by
  obtain ⟨W0, s44, s47⟩ := S
  intro d
  have h10 := ok_np O
  have hc := cW_le O
  induction d with
  | zero =>
    intro n j μ hd hn ht h1 h2 hdv
    obtain ⟨n, rfl⟩ : ∃ q, n = q + 1 := ⟨n - 1, by omega⟩
    have hj : j = dnp D := by omega
    subst hj
    have W : WM D μ := WMs W0 (fun t h => ht t (by omega))
    have hw0 := (hc.2.2.2 (dnp D) (Nat.le_refl _)).1
    have hx := dv1 hw0 hdv
    rw [f_X9_nextWay_L2.eq_2, wm_np W, if_pos (Int.le_refl _)]
    obtain ⟨μ', g1, g2, g3⟩ := nextM_2 O (C := k / wR D (dnp D)) W (fun c hc' => by rw [ht 47 (by decide)]; exact s47 c hc') (dnc D) FU 0 μ (by omega) (by have := ok_nc O; unfold FU; omega) (fun t _ => rfl) (fun s hs => absurd hs (by omega)) (fun s _ => rfl) (by rw [Nat.pow_zero]; exact Nat.one_dvd _)
    refine ⟨μ', ?_, ⟨WMs W (fun t h => g2 t (by omega)), fun p hp => ?_, fun c hc' => ?_⟩, fun t h1 h2 => by rw [g2 t h2, ht t h1]⟩
    · show f_X9_nextWay_L52 FU 0 μ = _
      rw [show f_X9_nextWay_L52 FU 0 μ = _ from g1]
      have hiff : (2 ^ dnc D ∣ k / wR D (dnp D) + 1) ↔ k + 1 = cW D := by
        have hk1 : k + 1 = wR D (dnp D) * (k / wR D (dnp D) + 1) := by rw [← hx]; exact (Nat.mul_div_cancel' hdv).symm
        constructor
        · intro ⟨q, hq⟩
          rw [hq, ← Nat.mul_assoc] at hk1
          have : wR D (dnp D) * 2 ^ dnc D = cW D := rfl
          rw [this] at hk1
          have hq1 : q ≠ 0 := by intro z; rw [z] at hk1; omega
          have : cW D ≤ cW D * q := Nat.le_mul_of_pos_right _ (by omega)
          omega
        · intro e
          rw [e] at hk1
          have : wR D (dnp D) * 2 ^ dnc D = wR D (dnp D) * (k / wR D (dnp D) + 1) := hk1
          rw [← Nat.eq_of_mul_eq_mul_left hw0 this]
          exact Nat.dvd_refl _
      by_cases e : k + 1 = cW D
      · rw [if_pos (hiff.2 e), if_pos e]
      · rw [if_neg (fun z => e (hiff.1 z)), if_neg e]
    · rw [g2 44 (by decide)]; exact h1 p hp
    · rw [g3 c hc']; unfold cbt; rw [hx]
  | succ d ih =>
    intro n j μ hd hn ht h1 h2 hdv
    obtain ⟨n, rfl⟩ : ∃ q, n = q + 1 := ⟨n - 1, by omega⟩
    have W : WM D μ := WMs W0 (fun t h => ht t (by omega))
    have hjp : j < dnp D := by omega
    have hr := ok_rw O hjp
    have hdl := dig_lt O (k := k) hjp
    have hw0 := (hc.2.2.2 j (by omega)).1
    have e12 : μ 44 0 j = (dig D k j : Int) := by rw [h2 j (Nat.le_refl _)]; exact s44 j hjp
    rw [f_X9_nextWay_L2.eq_2, wm_np W, if_neg (show ¬ w32 (dnp D : Int) ≤ w32 (j : Int) by rw [w32n (by omega), w32n (by omega)]; omega), gd_inb _ (by omega) (by omega) (by omega), gd_inb _ (by omega) (by omega) (by omega), gd_inb _ (by omega) (by omega) (by omega), gd_inb _ (by omega) (by omega) (by omega), gd_inb _ (by omega) (by omega) (by omega), ixn (by omega), st_eq, st_nt _ (by decide), wm_rw W hjp, e12, w32n (by omega), w32_id (x := (dig D k j : Int) + 1) (by omega) (by omega)]
    by_cases z : drw D j ≤ dig D k j + 1
    · obtain ⟨i1, i2⟩ := incA hw0 hr.1 hdv z
      rw [if_pos (show (drw D j : Int) ≤ (dig D k j : Int) + 1 by omega), show ((j : Int) + 1) = ((j + 1 : Nat) : Int) by omega]
      exact ih n (j + 1) _ (by omega) (by omega) (fun t h => by rw [st_tag _ h, st_tag _ h, ht t h]) (fun s hs => by
        by_cases e : s = j
        · rw [e, st_eq]; unfold dig; rw [i2]; rfl
        · rw [st_nk _ e, st_nk _ e]; exact h1 s (by omega)) (fun s hs => by rw [st_nk _ (by omega), st_nk _ (by omega)]; exact h2 s (by omega)) i1
    · obtain ⟨i1, i2⟩ := incB hw0 hdv z
      rw [if_neg (show ¬ (drw D j : Int) ≤ (dig D k j : Int) + 1 by omega)]
      have hv : ∀ s, j < s → s ≤ dnp D → (k + 1) / wR D s = k / wR D s := fun s hs1 hs2 => i2 _ (by
        have := wR_dvd (D := D) (n := j + 1) (s - (j + 1))
        rw [show j + 1 + (s - (j + 1)) = s by omega] at this; exact this) (hc.2.2.2 s hs2).1
      have hcc : (k + 1) / wR D (dnp D) = k / wR D (dnp D) := hv _ hjp (Nat.le_refl _)
      have hne : ¬ k + 1 = cW D := by
        intro e
        have hdv2 : wR D (dnp D) ∣ k + 1 := by rw [e]; exact ⟨2 ^ dnc D, rfl⟩
        have := dv1 (hc.2.2.2 (dnp D) (Nat.le_refl _)).1 hdv2
        omega
      refine ⟨_, by rw [if_neg hne], ⟨?_, fun p hp => ?_, fun c hc' => ?_⟩, fun t h _ => by rw [st_tag _ h, ht t h]⟩
      · exact WMs W (fun t h => st_tag _ (by omega))
      · by_cases e : p = j
        · rw [e, st_eq]; unfold dig; rw [i1]; omega
        · rw [st_nk _ e]
          by_cases e2 : p < j
          · exact h1 p e2
          · rw [h2 p (by omega), s44 p hp]; unfold dig; rw [hv p (by omega) (by omega)]
      · rw [st_nt _ (by decide), ht 47 (by decide), s47 c hc']; unfold cbt; rw [hcc]
theorem nextM {D : Dt} (O : OKD D) {k : Nat} {μ : Mem} (S : SM D k μ) (hk : k < cW D) : ∃ μ', f_X9_nextWay μ = some (if k + 1 = cW D then 0 else 1, μ') ∧ SM D (k + 1) μ' ∧ ∀ t, t ≠ 44 → t ≠ 47 → μ' t = μ t :=
  nextM_L O S hk (dnp D) FU 0 μ (by omega) (by have := ok_np O; unfold FU; omega) (fun t _ => rfl) (fun s hs => absurd hs (by omega)) (fun s _ => rfl) ⟨k + 1, by show k + 1 = 1 * (k + 1); omega⟩
theorem weightM {D : Dt} (O : OKD D) {k : Nat} {μ : Mem} (S : SM D k μ) : f_X9_weightOf μ = some (wWt D k, μ) := by
  obtain ⟨W, s44, s47⟩ := S
  have h10 := ok_np O
  have h4 := ok_nc O
  have L : ∀ K : Int → Mem → Option (Int × Mem), ∀ (d n j : Nat), d + j = dnp D → d < n → f_X9_weightOf_L4 K n (pr (fun p => dwt D p (dig D k p)) j) (j : Int) μ = K (pr (fun p => dwt D p (dig D k p)) (dnp D)) μ := by
    intro K d
    induction d with
    | zero =>
      intro n j hd hn
      obtain ⟨n, rfl⟩ : ∃ q, n = q + 1 := ⟨n - 1, by omega⟩
      have hj : j = dnp D := by omega
      subst hj
      rw [f_X9_weightOf_L4.eq_2, wm_np W, if_pos (Int.le_refl _)]
    | succ d ih =>
      intro n j hd hn
      obtain ⟨n, rfl⟩ : ∃ q, n = q + 1 := ⟨n - 1, by omega⟩
      have hjp : j < dnp D := by omega
      have hr := ok_rw O hjp
      have hdl := dig_lt O (k := k) hjp
      have hw := ok_wt O hjp hdl
      rw [f_X9_weightOf_L4.eq_2, wm_np W, if_neg (show ¬ w32 (dnp D : Int) ≤ w32 (j : Int) by rw [w32n (by omega), w32n (by omega)]; omega), gd_inb _ (by omega) (by omega) (by omega), ixn (by omega), s44 j hjp, gd_inb _ (by omega) (by omega) (by omega), show (8 * (j : Int) + (dig D k j : Int)) = ((8 * j + dig D k j : Nat) : Int) by omega, ixn (by omega), wm_wt W hjp hdl, w32_id (x := dwt D j (dig D k j)) (by omega) (by omega), show ((j : Int) + 1) = ((j + 1 : Nat) : Int) by omega]
      exact ih n (j + 1) (by omega) (by omega)
  have L2 : ∀ (P : Int) (d n j : Nat), d + j = dnc D → d < n → f_X9_weightOf_L40 n (P * pr (fun c => if cbt D k c then dct D c else dcl D c - dct D c) j) (j : Int) μ = some (P * pr (fun c => if cbt D k c then dct D c else dcl D c - dct D c) (dnc D), μ) := by
    intro P d
    induction d with
    | zero =>
      intro n j hd hn
      obtain ⟨n, rfl⟩ : ∃ q, n = q + 1 := ⟨n - 1, by omega⟩
      have hj : j = dnc D := by omega
      subst hj
      rw [f_X9_weightOf_L40.eq_2, wm_nc W, if_pos (Int.le_refl _)]
    | succ d ih =>
      intro n j hd hn
      obtain ⟨n, rfl⟩ : ∃ q, n = q + 1 := ⟨n - 1, by omega⟩
      have hjp : j < dnc D := by omega
      have hw := ok_ct O hjp
      have ih' := ih n (j + 1) (by omega) (by omega)
      rw [show pr (fun c => if cbt D k c then dct D c else dcl D c - dct D c) (j + 1) = pr (fun c => if cbt D k c then dct D c else dcl D c - dct D c) j * (if cbt D k j then dct D j else dcl D j - dct D j) from rfl, ← Int.mul_assoc] at ih'
      rw [f_X9_weightOf_L40.eq_2, wm_nc W, if_neg (show ¬ w32 (dnc D : Int) ≤ w32 (j : Int) by rw [w32n (by omega), w32n (by omega)]; omega)]
      simp only [jn_u]
      rw [gd_inb _ (by omega) (by omega) (by omega), gd_inb _ (by omega) (by omega) (by omega), gd_inb _ (by omega) (by omega) (by omega), gd_inb _ (by omega) (by omega) (by omega), ixn (by omega), s47 j hjp, wm_cl W hjp, wm_ct W hjp, w32_id (x := dcl D j - dct D j) (by omega) (by omega), w32_id (x := dct D j) (by omega) (by omega), show ((j : Int) + 1) = ((j + 1 : Nat) : Int) by omega]
      cases hb : cbt D k j with
      | true => rw [hb, if_pos rfl] at ih'; rw [if_pos rfl, if_neg (show ¬ w32 1 = 0 by decide)]; exact ih'
      | false => rw [hb, if_neg (c := (false = true)) (by decide)] at ih'; rw [if_neg (c := (false = true)) (by decide), if_pos w32_0]; exact ih'
  unfold f_X9_weightOf
  rw [show f_X9_weightOf_L4 _ FU 1 0 μ = _ from L _ (dnp D) FU 0 (by omega) (by unfold FU; omega)]
  have := L2 (pr (fun p => dwt D p (dig D k p)) (dnp D)) (dnc D) FU 0 (by omega) (by unfold FU; omega)
  rw [show pr (fun c => if cbt D k c then dct D c else dcl D c - dct D c) 0 = 1 from rfl, Int.mul_one] at this
  exact this
