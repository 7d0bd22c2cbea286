/-! THE STEPPING whole; what is left -/
theorem enN_S0 {D : Dt} {day : Int} : enN D day (S0 D) = S0 D := by
  have h1 : (fun p => (S0 D).2.1 p || (decide (p < dnp D) && runs (S0 D) p && decide ((S0 D).2.2.1 p = day))) = (fun _ => false) := by
    funext p
    show (false || (decide (p < dnp D) && false && decide ((0 : Int) = day))) = false
    rw [Bool.and_false, Bool.false_and]; rfl
  have h2 : fr1 D (S0 D) day (dnp D) = 0 := fr1_z _ (fun p _ h => absurd (show false = true from h) (by decide))
  unfold enN
  rw [h1, h2]
  show (_, _, _, dhs D + 0) = _
  rw [Int.add_zero]; rfl
theorem stepM {D : Dt} (O : OKD D) (hS : nStuck D) {k : Nat} {sl : Int} (hsl : -1 ≤ sl ∧ sl ≤ 9) {μ : Mem} (hM : SM D k μ) : ∃ μ', f_X9_step sl μ = some (wEnd D k sl, μ') ∧ SM D k μ' ∧ (∀ p, p < dnp D → μ' 46 0 p = wFin D k sl p) ∧ ∀ t, t ≠ 45 → t ≠ 46 → t ≠ 53 → t ≠ 54 → μ' t = μ t := by
  have h10 := ok_np O
  have hhs := ok_hs O
  unfold f_X9_step
  obtain ⟨μ1, a1, a2, a3⟩ := takesM O hsl (fun μ19 => f_X9_step_L127 FU (μ19 30 0 9) (μ19 30 0 7) 0 0 μ19) (dnp D) FU 0 μ hM (by omega) (by unfold FU; omega) (fun s hs => absurd hs (by omega))
  rw [show f_X9_step_L2 sl _ FU 0 μ = _ from a1]
  have M1 : SM D k μ1 := SM_ext hM (fun t ht => a2 t (by omega) (by omega) (by omega))
  have W1 := M1.1
  rw [wm_hs W1, wm_np W1]
  obtain ⟨T, hTe⟩ : ∃ T, T = tkg D (dig D k) (cbt D k) sl := ⟨_, rfl⟩
  have hT : ∀ p, p < dnp D → 0 ≤ T p ∧ T p ≤ 496 := fun p hp => by rw [hTe]; have := tkg_bd O (k := k) (sl := sl) hp; split at this <;> omega
  have hTT : sm T (dnp D) ≤ 4951 := by rw [hTe]; have := tkg_sum O (k := k) (sl := sl); split at this <;> omega
  have R1 : RM D (S0 D) μ1 := fun p hp => ⟨(a3 p hp).2.1, (a3 p hp).2.2, fun h => absurd (show false = true from h) (by decide)⟩
  have h45 : ∀ p, p < dnp D → μ1 45 0 p = T p := fun p hp => by rw [hTe]; exact (a3 p hp).1
  have main : ∃ μ', f_X9_step_L127 FU (dhs D) (dnp D : Int) 0 0 μ1 = some ((sim D T).1, μ') ∧ RM D (sim D T).2 μ' ∧ ∀ t, t ≠ 46 → t ≠ 53 → t ≠ 54 → μ' t = μ1 t := by
    rw [show FU = 999999 + 1 from rfl, f_X9_step_L127.eq_2]
    by_cases hz : dnp D = 0
    · rw [if_pos (by rw [hz]; decide)]
      have e : sim D T = (0, S0 D) := by
        unfold sim
        rw [hz]
        exact simL_f (by rw [hz]; rfl)
      rw [e]
      exact ⟨μ1, rfl, R1, fun t _ _ _ => rfl⟩
    · rw [if_neg (by rw [w32n (by omega)]; omega)]
      have I0 : Inv D T 0 (S0 D) := S0_Inv O (fun p hp => (hT p hp).1)
      have j2 := Stn_0 O (T := T) (fun p hp => (hT p hp).1)
      have R0 : RM D (enJ D 0 0 (S0 D)) μ1 := fun p hp => by
        have : (enJ D 0 0 (S0 D)).2.1 p = (S0 D).2.1 p := bii (by rw [enJ_O]; exact ⟨fun z => z.elim (fun y => y) (fun y => absurd y.1 (by omega)), Or.inl⟩)
        rw [this]; exact R1 p hp
      have l0 : lf D (enJ D 0 0 (S0 D)) = (dnp D : Int) := by
        have : lf D (enJ D 0 0 (S0 D)) = sm (fun _ => 1) (dnp D) := sm_congr _ (fun p hp => by
          have : (enJ D 0 0 (S0 D)).2.1 p = (S0 D).2.1 p := bii (by rw [enJ_O]; exact ⟨fun z => z.elim (fun y => y) (fun y => absurd y.1 (by omega)), Or.inl⟩)
          rw [this]; rfl)
        rw [this]
        have : ∀ n : Nat, sm (fun _ => 1) n = (n : Int) := by
          intro n
          induction n with
          | zero => rfl
          | succ n ih => show sm (fun _ => 1) n + 1 = _; rw [ih]; omega
        exact this _
      have F0 : (enJ D 0 0 (S0 D)).2.2.2 = dhs D := by show dhs D + 0 = _; omega
      obtain ⟨x5', μ2, c1, c2, c3, -, c5⟩ := endM_L O (S := S0 D) (day := 0) (by omega) (fun p _ h => absurd (show false = true from h) (by decide)) (fun y36 y37 y38 μ35 => f_X9_step_L212 0 (fun y59 y60 y61 μ58 => f_X9_step_L341 y59 y60 0 y61 (fun y72 μ71 => jn (fun y73 => f_X9_step_L127 999999 y59 y60 y73 y61 μ71) (fun j401 => (if w32 y60 ≤ 0 then j401 0 else j401 y72))) FU 2147483647 0 μ58) FU y36 y37 y38 0 μ35) (dnp D) FU 0 0 μ1 W1 R0 (by omega) (by unfold FU; omega) (fun ⟨p, y, _⟩ => absurd y (by omega))
      rw [l0, F0] at c1
      rw [show f_X9_step_L134 0 _ FU (dhs D) (dnp D : Int) 0 0 μ1 = _ from c1]
      rw [c5 rfl]
      rw [enN_S0] at c2
      rw [enN_S0]
      obtain ⟨μ3, b1, b2, b3⟩ := begM_L O (T := T) (day := 0) (S := S0 D) hT I0 (fun y59 y60 y61 μ58 => f_X9_step_L341 y59 y60 0 y61 (fun y72 μ71 => jn (fun y73 => f_X9_step_L127 999999 y59 y60 y73 y61 μ71) (fun j401 => (if w32 y60 ≤ 0 then j401 0 else j401 y72))) FU 2147483647 0 μ58) (dnp D) FU 0 μ2 (WMs W1 (fun t ht => c3 t (by omega))) (by rw [c3 45 (by decide)]; exact h45) c2 (by omega) (by unfold FU; omega)
      have t2 : ∀ t, t ≠ 46 → t ≠ 53 → t ≠ 54 → μ3 t = μ1 t := fun t h1 h2 h3 => by rw [b3 t h1 h2 h3, c3 t h3]
      have W2 : WM D μ3 := WMs W1 (fun t ht => t2 t (by omega) (by omega) (by omega))
      rw [show f_X9_step_L212 0 _ FU (S0 D).2.2.2 (lf D (S0 D)) 0 0 μ2 = _ from b1]
      have hE1 : ∀ p, p < dnp D → (bgN D T 0 (dnp D) (S0 D)).1 p = true → 0 ≤ (bgN D T 0 (dnp D) (S0 D)).2.2.1 p ∧ (bgN D T 0 (dnp D) (S0 D)).2.2.1 p ≤ 4951 := fun p hp hB => by have := j2.1.2.2.2.2.2 p hp hB; omega
      have d1 := nxtM_L O W2 b2 (fun p hp hB => by have := hE1 p hp hB; omega) (bgN D T 0 (dnp D) (S0 D)).2.2.2 (lf D (bgN D T 0 (dnp D) (S0 D))) 0 0 (fun y72 μ71 => jn (fun y73 => f_X9_step_L127 999999 (bgN D T 0 (dnp D) (S0 D)).2.2.2 (lf D (bgN D T 0 (dnp D) (S0 D))) y73 0 μ71) (fun j401 => (if w32 (lf D (bgN D T 0 (dnp D) (S0 D))) ≤ 0 then j401 0 else j401 y72))) (dnp D) FU 0 (by omega) (by unfold FU; omega)
      try dsimp only
      rw [show f_X9_step_L341 _ _ 0 0 _ FU 2147483647 0 μ3 = _ from d1]
      try dsimp only
      have hb2 := lf_bd (D := D) (S := bgN D T 0 (dnp D) (S0 D))
      simp only [jn_u]
      rw [w32_id (x := lf D (bgN D T 0 (dnp D) (S0 D))) (by omega) (by omega)]
      have fin : ∀ x4', (anyr (bgN D T 0 (dnp D) (S0 D)) (dnp D) = true → x4' = nxt (bgN D T 0 (dnp D) (S0 D)) (dnp D) 1000000) → ∃ μ', f_X9_step_L127 999999 (bgN D T 0 (dnp D) (S0 D)).2.2.2 (lf D (bgN D T 0 (dnp D) (S0 D))) x4' 0 μ3 = some ((sim D T).1, μ') ∧ RM D (sim D T).2 μ' ∧ ∀ t, t ≠ 46 → t ≠ 53 → t ≠ 54 → μ' t = μ1 t := by
        intro x4' hx
        obtain ⟨μ4, k1, k2, k3⟩ := goM_L O hS hT hTT 10 999999 0 x4' _ μ3 j2 (by omega) (by omega) hx W2 (by rw [t2 45 (by decide) (by decide) (by decide)]; exact h45) b2
        exact ⟨μ4, k1, k2, fun t h1 h2 h3 => by rw [k3 t h1 h2 h3, t2 t h1 h2 h3]⟩
      by_cases hz : lf D (bgN D T 0 (dnp D) (S0 D)) ≤ 0
      · rw [if_pos hz]
        exact fin _ (fun y => by have := lf_any y; omega)
      · rw [if_neg hz]
        exact fin _ (fun y => nxt_two (fun p hp hB => by have := hE1 p hp hB; omega) y)
  obtain ⟨μ', g1, g2, g3⟩ := main
  have ht : ∀ t, t ≠ 45 → t ≠ 46 → t ≠ 53 → t ≠ 54 → μ' t = μ t := fun t h0 h1 h2 h3 => by rw [g3 t h1 h2 h3, a2 t h0 h2 h3]
  refine ⟨μ', ?_, SM_ext hM (fun t h => ht t (by omega) (by omega) (by omega) (by omega)), fun p hp => ?_, ht⟩
  · rw [g1, hTe]; rfl
  · have hse := sim_end O hS (T := T) (fun p hp => (hT p hp).1) (by omega)
    rw [(g2 p hp).2.2 (hse.1.2.1 p (hse.2 p hp)), hTe]; rfl
/-- the class's stepping, with the days of the parts' ends -/
theorem stepX2 {D : Dt} (O : OKD D) (hS : nStuck D) {k : Nat} {sl : Int} (hsl : -1 ≤ sl ∧ sl ≤ 9) {μ : Mem} (hX : SX D k μ) : ∃ μ', f_X2_stepThrough sl μ = some (wEnd D k sl, μ') ∧ SX D k μ' ∧ (∀ p, p < dnp D → μ' 14 0 p = wFin D k sl p) ∧ ∀ t, t ≠ 11 → t ≠ 14 → μ' t = μ t := by
  obtain ⟨μ', g1, g2, g3, g4⟩ := stepX O hsl hX
  refine ⟨μ', g1, g2, fun p hp => ?_, g4⟩
  have hT0 : ∀ p, p < dnp D → 0 ≤ tkg D (dig D k) (cbt D k) sl p := fun p hp => (tkg_bd O hp).1
  have hTT : sm (tkg D (dig D k) (cbt D k) sl) (dnp D) < 1000000 := by have := (tkg_sum O (k := k) (sl := sl)).2; split at this <;> omega
  have hse := sim_end O hS hT0 hTT
  obtain ⟨b, o, -, -, -, -, -, h14⟩ := g3
  exact h14 p hp (hse.1.2.1 p (hse.2 p hp))
theorem wEnd_bd {D : Dt} (O : OKD D) {k : Nat} {sl : Int} : 0 ≤ wEnd D k sl ∧ wEnd D k sl ≤ 4950 + (if 0 ≤ sl then 1 else 0) := by
  have hT0 : ∀ p, p < dnp D → 0 ≤ tkg D (dig D k) (cbt D k) sl p := fun p hp => (tkg_bd O hp).1
  have ht := tkg_sum O (k := k) (sl := sl)
  have hTT : sm (tkg D (dig D k) (cbt D k) sl) (dnp D) < 1000000 := by have := ht.2; split at this <;> omega
  have h := (simL_Stn O hT0 hTT 10 0 _ (Stn_0 O hT0)).1.1.2.2.2.1
  have h2 := sO_le (D := D) (T := tkg D (dig D k) (cbt D k) sl) (S := (sim D (tkg D (dig D k) (cbt D k) sl)).2) hT0
  have h3 : 0 ≤ wEnd D k sl ∧ wEnd D k sl ≤ sO D (tkg D (dig D k) (cbt D k) sl) (sim D (tkg D (dig D k) (cbt D k) sl)).2 := h
  omega
theorem wFin_bd {D : Dt} (O : OKD D) (hS : nStuck D) {k : Nat} {sl : Int} {p : Nat} (hp : p < dnp D) : 0 ≤ wFin D k sl p ∧ wFin D k sl p ≤ 4951 := by
  have hT0 : ∀ p, p < dnp D → 0 ≤ tkg D (dig D k) (cbt D k) sl p := fun p hp => (tkg_bd O hp).1
  have ht := tkg_sum O (k := k) (sl := sl)
  have hTT : sm (tkg D (dig D k) (cbt D k) sl) (dnp D) ≤ 4951 := by have := ht.2; split at this <;> omega
  have hse := sim_end O hS hT0 (by omega)
  have h : 0 ≤ wFin D k sl p ∧ wFin D k sl p ≤ sm (tkg D (dig D k) (cbt D k) sl) (dnp D) := hse.1.2.2.2.2.2 p hp (hse.1.2.1 p (hse.2 p hp))
  omega
/-- what is left -/
theorem agreesX {D : Dt} (O : OKD D) {μ : Mem} (X : dt μ = D) {E : Nat → Int} (hE : ∀ p, p < dnp D → μ 14 0 p = E p ∧ 0 ≤ E p ∧ E p ≤ 4951) : (lftE D E → f_X2_agreesWithWhatCame μ = some (1, μ)) ∧ (¬ lftE D E → f_X2_agreesWithWhatCame μ = some (0, μ)) := by
  have h10 := ok_np O
  have htd := ok_td O
  have wm1 : w32 (-1) = -1 := rfl
  have L : ∀ (d n j : Nat), d + j = dnp D → d < n → (∀ p, p < j → (if 0 ≤ dcm D p then E p = dcm D p else 0 ≤ dtd D → dtd D < E p)) → (lftE D E → f_X2_agreesWithWhatCame_L2 n (j : Int) μ = some (1, μ)) ∧ (¬ lftE D E → f_X2_agreesWithWhatCame_L2 n (j : Int) μ = some (0, μ)) := by
    intro d
    induction d with
    | zero =>
      intro n j hd hn hq
      obtain ⟨n, rfl⟩ : ∃ q, n = q + 1 := ⟨n - 1, by omega⟩
      have hj : j = dnp D := by omega
      subst hj
      rw [f_X2_agreesWithWhatCame_L2.eq_2, wx_np O X, if_pos (Int.le_refl _)]
      exact ⟨fun _ => rfl, fun h => absurd hq h⟩
    | succ d ih =>
      intro n j hd hn hq
      obtain ⟨n, rfl⟩ : ∃ q, n = q + 1 := ⟨n - 1, by omega⟩
      have hjp : j < dnp D := by omega
      have hcm := ok_cm O hjp
      obtain ⟨e1, e2, e3⟩ := hE j hjp
      have ih' := ih n (j + 1) (by omega) (by omega)
      rw [show ((j + 1 : Nat) : Int) = (j : Int) + 1 by omega] at ih'
      have yes : (if 0 ≤ dcm D j then E j = dcm D j else 0 ≤ dtd D → dtd D < E j) → (lftE D E → f_X2_agreesWithWhatCame_L2 n ((j : Int) + 1) μ = some (1, μ)) ∧ (¬ lftE D E → f_X2_agreesWithWhatCame_L2 n ((j : Int) + 1) μ = some (0, μ)) := fun h => ih' (fun p hp => by
        by_cases e : p = j
        · rw [e]; exact h
        · exact hq p (by omega))
      have no : ¬ (if 0 ≤ dcm D j then E j = dcm D j else 0 ≤ dtd D → dtd D < E j) → ¬ lftE D E := fun h z => h (z j hjp)
      rw [f_X2_agreesWithWhatCame_L2.eq_2, wx_np O X, if_neg (show ¬ w32 (dnp D : Int) ≤ w32 (j : Int) by rw [w32n (by omega), w32n (by omega)]; omega)]
      simp only [jn_u]
      rw [gd_inb _ (by omega) (by omega) (by omega), gd_inb _ (by omega) (by omega) (by omega), gd_inb _ (by omega) (by omega) (by omega), ixn (by omega), wx_cm X, wx_td X, e1, wm1, w32_id (x := dcm D j) (by omega) (by omega), w32_id (x := dtd D) (by omega) (by omega), w32_id (x := E j) (by omega) (by omega)]
      by_cases c1 : dcm D j = -1
      · rw [if_pos c1]
        have hn0 : ¬ 0 ≤ dcm D j := by omega
        by_cases c2 : dtd D = -1
        · rw [if_pos c2]
          exact yes (by rw [if_neg hn0]; omega)
        · rw [if_neg c2]
          by_cases c3 : dtd D < E j
          · rw [if_pos c3]
            exact yes (by rw [if_neg hn0]; exact fun _ => c3)
          · rw [if_neg c3]
            have := no (by rw [if_neg hn0]; exact fun z => c3 (z (by omega)))
            exact ⟨fun h => absurd h this, fun _ => rfl⟩
      · rw [if_neg c1]
        have hn0 : 0 ≤ dcm D j := by omega
        by_cases c2 : E j = dcm D j
        · rw [if_pos c2]
          exact yes (by rw [if_pos hn0]; exact c2)
        · rw [if_neg c2]
          have := no (by rw [if_pos hn0]; exact c2)
          exact ⟨fun h => absurd h this, fun _ => rfl⟩
  exact L (dnp D) FU 0 (by omega) (by unfold FU; omega) (fun q h => absurd h (by omega))
theorem isLeftM {D : Dt} (O : OKD D) {μ : Mem} (W : WM D μ) {E : Nat → Int} (hE : ∀ p, p < dnp D → μ 46 0 p = E p ∧ 0 ≤ E p ∧ E p ≤ 4951) : (lftE D E → f_X9_isLeft μ = some (1, μ)) ∧ (¬ lftE D E → f_X9_isLeft μ = some (0, μ)) := by
  have h10 := ok_np O
  have htd := ok_td O
  have L : ∀ (d n j : Nat), d + j = dnp D → d < n → (∀ p, p < j → (if 0 ≤ dcm D p then E p = dcm D p else 0 ≤ dtd D → dtd D < E p)) → (lftE D E → f_X9_isLeft_L2 n (j : Int) μ = some (1, μ)) ∧ (¬ lftE D E → f_X9_isLeft_L2 n (j : Int) μ = some (0, μ)) := by
    intro d
    induction d with
    | zero =>
      intro n j hd hn hq
      obtain ⟨n, rfl⟩ : ∃ q, n = q + 1 := ⟨n - 1, by omega⟩
      have hj : j = dnp D := by omega
      subst hj
      rw [f_X9_isLeft_L2.eq_2, wm_np W, if_pos (Int.le_refl _)]
      exact ⟨fun _ => rfl, fun h => absurd hq h⟩
    | succ d ih =>
      intro n j hd hn hq
      obtain ⟨n, rfl⟩ : ∃ q, n = q + 1 := ⟨n - 1, by omega⟩
      have hjp : j < dnp D := by omega
      have hcm := ok_cm O hjp
      obtain ⟨e1, e2, e3⟩ := hE j hjp
      have ih' := ih n (j + 1) (by omega) (by omega)
      rw [show ((j + 1 : Nat) : Int) = (j : Int) + 1 by omega] at ih'
      have yes : (if 0 ≤ dcm D j then E j = dcm D j else 0 ≤ dtd D → dtd D < E j) → (lftE D E → f_X9_isLeft_L2 n ((j : Int) + 1) μ = some (1, μ)) ∧ (¬ lftE D E → f_X9_isLeft_L2 n ((j : Int) + 1) μ = some (0, μ)) := fun h => ih' (fun p hp => by
        by_cases e : p = j
        · rw [e]; exact h
        · exact hq p (by omega))
      have no : ¬ (if 0 ≤ dcm D j then E j = dcm D j else 0 ≤ dtd D → dtd D < E j) → ¬ lftE D E := fun h z => h (z j hjp)
      rw [f_X9_isLeft_L2.eq_2, wm_np W, if_neg (show ¬ w32 (dnp D : Int) ≤ w32 (j : Int) by rw [w32n (by omega), w32n (by omega)]; omega)]
      simp only [jn_u]
      rw [gd_inb _ (by omega) (by omega) (by omega), gd_inb _ (by omega) (by omega) (by omega), gd_inb _ (by omega) (by omega) (by omega), gd_inb _ (by omega) (by omega) (by omega), ixn (by omega), wm_cm W hjp, wm_td W, e1, w32_id (x := dcm D j) (by omega) (by omega), w32_id (x := dtd D) (by omega) (by omega), w32_id (x := E j) (by omega) (by omega)]
      by_cases c1 : dcm D j < 0
      · rw [if_pos c1]
        have hn0 : ¬ 0 ≤ dcm D j := by omega
        by_cases c2 : dtd D < 0
        · rw [if_pos c2]
          exact yes (by rw [if_neg hn0]; omega)
        · rw [if_neg c2]
          by_cases c3 : dtd D < E j
          · rw [if_pos c3]
            exact yes (by rw [if_neg hn0]; exact fun _ => c3)
          · rw [if_neg c3]
            have := no (by rw [if_neg hn0]; exact fun z => c3 (z (by omega)))
            exact ⟨fun h => absurd h this, fun _ => rfl⟩
      · rw [if_neg c1]
        have hn0 : 0 ≤ dcm D j := by omega
        by_cases c2 : E j = dcm D j
        · rw [if_pos c2]
          exact yes (by rw [if_pos hn0]; exact c2)
        · rw [if_neg c2]
          have := no (by rw [if_pos hn0]; exact c2)
          exact ⟨fun h => absurd h this, fun _ => rfl⟩
  exact L (dnp D) FU 0 (by omega) (by unfold FU; omega) (fun q h => absurd h (by omega))
