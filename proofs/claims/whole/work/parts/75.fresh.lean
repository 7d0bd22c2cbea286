/-! THE WAYS that are kept, made anew -/
theorem SX_ext2 {D : Dt} {k : Nat} {μ μ' : Mem} (S : SX D k μ) (h : ∀ t, t ≠ 7 → t ≠ 9 → t ≠ 10 → μ' t = μ t) : SX D k μ' := by
  obtain ⟨X, s12, s4, s5, s13⟩ := S
  exact ⟨(dt_of (fun t h1 _ => h t (by omega) (by omega) (by omega))).trans X, by rw [h 12 (by decide) (by decide) (by decide)]; exact s12, by rw [h 11 (by decide) (by decide) (by decide)]; exact s4, by rw [h 11 (by decide) (by decide) (by decide)]; exact s5, by rw [h 13 (by decide) (by decide) (by decide)]; exact s13⟩
theorem roomX {μ : Mem} {c : Nat} (hc : c ≤ 20000) (h6 : μ 7 0 6 = (c : Int)) (hn : 0 ≤ μ 28 0 0 ∧ μ 28 0 0 ≤ 20000) : ∃ μ', f_X6_makeRoom μ = some (0, μ') ∧ (∀ t, t ≠ 9 → t ≠ 10 → t ≠ 28 → μ' t = μ t) ∧ (c : Int) ≤ μ' 28 0 0 ∧ μ' 28 0 0 ≤ 20000 := by
  unfold f_X6_makeRoom
  rw [h6, w32n (by omega), show (((μ 28 0 0).toNat : Nat) : Int) = μ 28 0 0 by omega, w32_id (x := μ 28 0 0) (by omega) (by omega)]
  by_cases h : (c : Int) ≤ μ 28 0 0
  · rw [if_pos h]
    exact ⟨μ, rfl, fun t _ _ _ => rfl, h, hn.2⟩
  · rw [if_neg h]
    have hm : 0 ≤ minR μ ∧ minR μ ≤ 20000 := by
      unfold minR
      rw [show (((μ 28 0 0).toNat : Nat) : Int) = μ 28 0 0 by omega, show w32 20000 = 20000 from rfl, w32_id (x := 2 * μ 28 0 0) (by omega) (by omega)]
      split <;> omega
    have hr : (c : Int) ≤ newR μ ∧ newR μ ≤ 20000 := by
      unfold newR
      rw [h6, w32n (by omega), w32_id (x := minR μ) (by omega) (by omega)]
      split <;> omega
    rw [gd_t _ (by omega)]
    refine ⟨_, rfl, fun t h1 h2 h3 => ?_, ?_, ?_⟩
    · unfold nwM
      funext i k
      rw [if_neg h3, if_neg (by omega)]
    · unfold nwM; rw [if_pos rfl]; exact hr.1
    · unfold nwM; rw [if_pos rfl]; exact hr.2
theorem freshX_L {D : Dt} (O : OKD D) (hS : nStuck D) (ht : tot D ≤ 20000) : ∀ (d n j : Nat) (μ : Mem), d + j = cW D → d < n → SX D j μ → μ 7 0 6 = (cW D : Int) → ((cW D : Int) ≤ μ 28 0 0 ∧ μ 28 0 0 ≤ 20000) → (∀ k, k < j → μ 10 0 k = wWt D k ∧ (wLft D k → μ 9 0 k = wEnd D k (-1)) ∧ (¬ wLft D k → μ 9 0 k = -1)) → μ 7 0 8 = sm (lw D) j → (0 ≤ μ 7 0 7 ∧ μ 7 0 7 ≤ 4950) → (∀ k, k < j → wLft D k → wEnd D k (-1) ≤ μ 7 0 7) →
    ∃ μ', f_X6_refresh_L42 n (j : Int) μ = some (0, μ') ∧ dt μ' = D ∧ μ' 7 0 5 = 0 ∧ Cach D (μ' 7 0) (μ' 9 0) (μ' 10 0) (μ' 28 0 0) ∧ ∀ t, t ≠ 7 → t ≠ 9 → t ≠ 10 → t ≠ 11 → t ≠ 12 → t ≠ 13 → t ≠ 14 → μ' t = μ t := by
  have hcw := cW_le O
  intro d
  induction d with
  | zero =>
    intro n j μ hd hn hX h6 h28 hk h8 h7 hl
    obtain ⟨n, rfl⟩ : ∃ q, n = q + 1 := ⟨n - 1, by omega⟩
    have hj : j = cW D := by omega
    subst hj
    refine ⟨st μ 7 0 5 0, ?_, (dt_st _ (by decide)).trans hX.1, st_eq _ _ _ _ _, ⟨⟨?_, ?_⟩, Or.inl (st_eq _ _ _ _ _), fun _ => ⟨hS, ht, ?_, ?_, fun k hkk => ?_, ?_, ?_, fun k hkk hw => ?_⟩⟩, fun t h1 _ _ _ _ _ _ => st_tag _ h1⟩
    · rw [f_X6_refresh_L42.eq_2, h6, if_pos (Int.le_refl _)]
    · rw [st_nt _ (by decide)]; omega
    · rw [st_nt _ (by decide)]; omega
    · rw [st_nk _ (by decide)]; exact h6
    · rw [st_nt _ (by decide)]; exact h28.1
    · rw [st_nt _ (by decide), st_nt _ (by decide)]; exact hk k hkk
    · rw [st_nk _ (by decide)]; exact h8
    · rw [st_nk _ (by decide)]; exact h7
    · rw [st_nk _ (by decide)]; exact hl k hkk hw
  | succ d ih =>
    intro n j μ hd hn hX h6 h28 hk h8 h7 hl
    obtain ⟨n, rfl⟩ : ∃ q, n = q + 1 := ⟨n - 1, by omega⟩
    have hjc : j < cW D := by omega
    obtain ⟨μ1, a1, a2, a3, a4⟩ := stepX2 O hS (sl := -1) (by omega) hX
    have hwb := wEnd_bd O (k := j) (sl := -1)
    rw [if_neg (by decide)] at hwb
    have hwp := wWt_pos O (k := j)
    have hwl := wWt_le O hjc
    have hE : ∀ p, p < dnp D → μ1 14 0 p = wFin D j (-1) p ∧ 0 ≤ wFin D j (-1) p ∧ wFin D j (-1) p ≤ 4951 := fun p hp => ⟨a3 p hp, (wFin_bd O hS hp).1, (wFin_bd O hS hp).2⟩
    have hag := agreesX O a2.1 hE
    have e28 : μ1 28 = μ 28 := a4 28 (by decide) (by decide)
    have e7 : μ1 7 = μ 7 := a4 7 (by decide) (by decide)
    have e9 : μ1 9 = μ 9 := a4 9 (by decide) (by decide)
    have e10 : μ1 10 = μ 10 := a4 10 (by decide) (by decide)
    have i28 : (j : Int) < ((μ 28 0 0).toNat : Nat) := by omega
    have l28 : (μ 28 0 0).toNat ≤ 2147483647 := by omega
    -- the rest of the turn
    have rest : ∀ μ4 : Mem, (∀ t, t ≠ 7 → t ≠ 9 → t ≠ 10 → μ4 t = μ1 t) → μ4 7 0 6 = (cW D : Int) → (∀ k, k ≠ j → μ4 10 0 k = μ 10 0 k ∧ μ4 9 0 k = μ 9 0 k) → μ4 10 0 j = wWt D j → (wLft D j → μ4 9 0 j = wEnd D j (-1)) → (¬ wLft D j → μ4 9 0 j = -1) → μ4 7 0 8 = sm (lw D) (j + 1) → (0 ≤ μ4 7 0 7 ∧ μ4 7 0 7 ≤ 4950) → μ 7 0 7 ≤ μ4 7 0 7 → (wLft D j → wEnd D j (-1) ≤ μ4 7 0 7) →
        ∃ μ', bn (f_X2_goToNext μ4) (fun r25 μ26 => f_X6_refresh_L42 n ((j : Int) + 1) μ26) = some (0, μ') ∧ dt μ' = D ∧ μ' 7 0 5 = 0 ∧ Cach D (μ' 7 0) (μ' 9 0) (μ' 10 0) (μ' 28 0 0) ∧ ∀ t, t ≠ 7 → t ≠ 9 → t ≠ 10 → t ≠ 11 → t ≠ 12 → t ≠ 13 → t ≠ 14 → μ' t = μ t := by
      intro μ4 q1 q2 q3 q4 q5 q6 q7 q8 q9 q10
      obtain ⟨μ5, b1, b2, b3⟩ := nextX O (SX_ext2 a2 q1) (by omega)
      have f7 : μ5 7 = μ4 7 := b3 7 (by decide) (by decide) (by decide)
      have f9 : μ5 9 = μ4 9 := b3 9 (by decide) (by decide) (by decide)
      have f10 : μ5 10 = μ4 10 := b3 10 (by decide) (by decide) (by decide)
      have f28 : μ5 28 = μ 28 := by rw [b3 28 (by decide) (by decide) (by decide), q1 28 (by decide) (by decide) (by decide), e28]
      obtain ⟨μ', c1, c2, c3, c4, c5⟩ := ih n (j + 1) μ5 (by omega) (by omega) b2 (by rw [f7]; exact q2) (by rw [f28]; exact h28) (fun k hkk => by
        rw [f9, f10]
        by_cases e : k = j
        · rw [e]; exact ⟨q4, q5, q6⟩
        · rw [(q3 k e).1, (q3 k e).2]; exact hk k (by omega)) (by rw [f7]; exact q7) (by rw [f7]; exact q8) (fun k hkk hw => by
        rw [f7]
        by_cases e : k = j
        · rw [e] at hw ⊢; exact q10 hw
        · have := hl k (by omega) hw; omega)
      refine ⟨μ', ?_, c2, c3, c4, fun t h1 h2 h3 h4 h5 h6 h7 => by rw [c5 t h1 h2 h3 h4 h5 h6 h7, b3 t h4 h5 h6, q1 t h1 h2 h3, a4 t h4 h7]⟩
      rw [b1, bn_s, show ((j : Int) + 1) = ((j + 1 : Nat) : Int) by omega]
      exact c1
    rw [f_X6_refresh_L42.eq_2, h6, if_neg (show ¬ w32 (cW D : Int) ≤ w32 (j : Int) by rw [w32n (by omega), w32n (by omega)]; omega), a1, bn_s, prodX O a2, bn_s]
    have hsum : sm (lw D) (j + 1) = sm (lw D) j + lw D j := rfl
    by_cases hw : wLft D j
    · rw [hag.1 hw, bn_s]
      simp only [jn_u]
      rw [if_neg (show ¬ w32 1 = 0 by decide), if_neg (show ¬ w32 1 = 0 by decide), st_nt μ1 (by decide), e28, gd_inb _ (by omega) i28 l28, gd_inb _ (by omega) i28 l28, ixn (by omega)]
      have s8 : st (st μ1 10 0 j (wWt D j)) 9 0 j (wEnd D j (-1)) 7 0 8 = sm (lw D) j := by rw [st_nt _ (by decide), st_nt _ (by decide), e7]; exact h8
      have s7 : ∀ v, st (st (st μ1 10 0 j (wWt D j)) 9 0 j (wEnd D j (-1))) 7 0 8 v 7 0 7 = μ 7 0 7 := fun v => by rw [st_nk _ (by decide), st_nt _ (by decide), st_nt _ (by decide), e7]
      rw [s8, s7, w32_id (x := wWt D j) (by omega) (by omega), w32_id (x := μ 7 0 7) (by omega) (by omega), w32_id (x := wEnd D j (-1)) (by omega) (by omega)]
      refine rest _ (fun t h1 h2 h3 => by rw [st_tag _ h1, st_tag _ h1, st_tag _ h2, st_tag _ h3]) ?_ (fun k hkk => ⟨?_, ?_⟩) ?_ (fun _ => ?_) (fun z => absurd hw z) ?_ ?_ ?_ (fun _ => ?_)
      · rw [st_nk _ (by decide), st_nk _ (by decide), st_nt _ (by decide), st_nt _ (by decide), e7]; exact h6
      · rw [st_nt _ (by decide), st_nt _ (by decide), st_nt _ (by decide), st_nk _ hkk, e10]
      · rw [st_nt _ (by decide), st_nt _ (by decide), st_nk _ hkk, st_nt _ (by decide), e9]
      · rw [st_nt _ (by decide), st_nt _ (by decide), st_nt _ (by decide), st_eq]
      · rw [st_nt _ (by decide), st_nt _ (by decide), st_eq]
      · rw [st_nk _ (by decide), st_eq, hsum, lw_y hw]
      · rw [st_eq]; split <;> omega
      · rw [st_eq]; split <;> omega
      · rw [st_eq]; split <;> omega
    · rw [hag.2 hw, bn_s]
      simp only [jn_u]
      rw [if_pos w32_0, if_pos w32_0, st_nt μ1 (by decide), e28, gd_inb _ (by omega) i28 l28, gd_inb _ (by omega) i28 l28, ixn (by omega)]
      refine rest _ (fun t h1 h2 h3 => by rw [st_tag _ h2, st_tag _ h3]) ?_ (fun k hkk => ⟨?_, ?_⟩) ?_ (fun z => absurd z hw) (fun _ => ?_) ?_ ?_ ?_ (fun z => absurd z hw)
      · rw [st_nt _ (by decide), st_nt _ (by decide), e7]; exact h6
      · rw [st_nt _ (by decide), st_nk _ hkk, e10]
      · rw [st_nk _ hkk, st_nt _ (by decide), e9]
      · rw [st_nt _ (by decide), st_eq]
      · rw [st_eq]
      · rw [st_nt _ (by decide), st_nt _ (by decide), e7, hsum, lw_n hw, Int.add_zero]; exact h8
      · rw [st_nt _ (by decide), st_nt _ (by decide), e7]; exact h7
      · rw [st_nt _ (by decide), st_nt _ (by decide), e7]; exact Int.le_refl _
def Frs (D : Dt) (μ : Mem) : Prop := dt μ = D ∧ μ 7 0 5 = 0 ∧ Cach D (μ 7 0) (μ 9 0) (μ 10 0) (μ 28 0 0)
theorem freshX {D : Dt} (O : OKD D) (hS : nStuck D) (ht : tot D ≤ 20000) {μ : Mem} (X : dt μ = D) (hc : Cach D (μ 7 0) (μ 9 0) (μ 10 0) (μ 28 0 0)) : ∃ μ', f_X6_refresh μ = some (0, μ') ∧ Frs D μ' ∧ ∀ t, t ≠ 7 → t ≠ 9 → t ≠ 10 → t ≠ 11 → t ≠ 12 → t ≠ 13 → t ≠ 14 → t ≠ 28 → μ' t = μ t := by
  have hcw := cW_le O
  unfold f_X6_refresh
  obtain ⟨hc1, hc2, hc3⟩ := hc
  rcases hc2 with h5 | h5
  · rw [if_pos (by rw [h5]; rfl)]
    exact ⟨μ, rfl, ⟨X, h5, hc1, Or.inl h5, hc3⟩, fun t _ _ _ _ _ _ _ _ => rfl⟩
  · rw [if_neg (by rw [h5]; decide), countX O X ht, bn_s]
    obtain ⟨μ1, a1, a2, a3, a4⟩ := roomX (μ := st μ 7 0 6 (cW D : Int)) (c := cW D) (by omega) (st_eq _ _ _ _ _) (by rw [st_nt _ (by decide)]; exact hc1)
    rw [a1, bn_s]
    have X2 : dt (st (st μ1 7 0 8 0) 7 0 7 0) = D := by
      rw [← X, dt_st _ (by decide), dt_st _ (by decide)]
      exact dt_of (fun t h1 h2 => by rw [a2 t (by omega) (by omega) (by omega), st_tag _ (by omega)])
    obtain ⟨μ2, b1, b2, b3⟩ := firstX O X2
    rw [b1, bn_s]
    have f7 : μ2 7 = st (st μ1 7 0 8 0) 7 0 7 0 7 := b3 7 (by decide) (by decide) (by decide)
    obtain ⟨μ3, c1, c2, c3, c4, c5⟩ := freshX_L O hS ht (cW D) FU 0 μ2 (by omega) (by unfold FU; omega) b2 (by rw [f7, st_nk _ (by decide), st_nk _ (by decide), a2 7 (by decide) (by decide) (by decide), st_eq]) (by rw [b3 28 (by decide) (by decide) (by decide), st_nt _ (by decide), st_nt _ (by decide)]; exact ⟨a3, a4⟩) (fun k hk => absurd hk (by omega)) (by rw [f7, st_nk _ (by decide), st_eq]; rfl) (by rw [f7, st_eq]; omega) (fun k hk => absurd hk (by omega))
    refine ⟨μ3, c1, ⟨c2, c3, c4⟩, fun t h1 h2 h3 h4 h5 h6 h7 h8 => ?_⟩
    rw [c5 t h1 h2 h3 h4 h5 h6 h7, b3 t h4 h5 h6, st_tag _ h1, st_tag _ h1, a2 t h2 h3 h8, st_tag _ h1]
theorem Frs_8 {D : Dt} {μ : Mem} (F : Frs D μ) : μ 7 0 8 = LL D := (F.2.2.2.2 F.2.1).2.2.2.2.2.1
/-- what bars a chance, in the class -/
theorem troubleX {D : Dt} (O : OKD D) {μ : Mem} (X : dt μ = D) (hc : Cach D (μ 7 0) (μ 9 0) (μ 10 0) (μ 28 0 0)) : (¬ nStuck D → f_X8_chanceTrouble μ = some (8, μ)) ∧ (nStuck D → ¬ tot D ≤ 20000 → f_X8_chanceTrouble μ = some (9, μ)) ∧ (nStuck D → tot D ≤ 20000 → ∃ μ', f_X8_chanceTrouble μ = some (if LL D ≤ 0 then 10 else 0, μ') ∧ Frs D μ' ∧ ∀ t, t ≠ 7 → t ≠ 9 → t ≠ 10 → t ≠ 11 → t ≠ 12 → t ≠ 13 → t ≠ 14 → t ≠ 28 → μ' t = μ t) := by
  unfold f_X8_chanceTrouble
  refine ⟨fun h => ?_, fun h h2 => ?_, fun h h2 => ?_⟩
  · rw [(stuckX O X).2 h, bn_s, if_neg (show ¬ w32 1 = 0 by decide)]
  · rw [(stuckX O X).1 h, bn_s, if_pos w32_0, isGreatX O X, bn_s, if_neg h2, if_neg (show ¬ w32 1 = 0 by decide)]
  · obtain ⟨μ', a1, a2, a3⟩ := freshX O h h2 X hc
    have hL := LL_bd O
    refine ⟨μ', ?_, a2, a3⟩
    rw [(stuckX O X).1 h, bn_s, if_pos w32_0, isGreatX O X, bn_s, if_pos h2, if_pos w32_0, a1, bn_s, Frs_8 a2, w64_id (x := LL D) (by omega) (by omega), show w64 0 = 0 from rfl]
    by_cases z : LL D ≤ 0
    · rw [if_pos z, if_pos z]
    · rw [if_neg z, if_neg z]
