/-! THE STEPPING, in the model's class -/
theorem SM_ext {D : Dt} {k : Nat} {μ μ' : Mem} (S : SM D k μ) (h : ∀ t, t < 45 ∨ t = 47 → μ' t = μ t) : SM D k μ' := by
  obtain ⟨W, s44, s47⟩ := S
  exact ⟨WMs W (fun t ht => h t (by omega)), by rw [h 44 (by omega)]; exact s44, by rw [h 47 (by omega)]; exact s47⟩
def RM (D : Dt) (S : Sm) (μ : Mem) : Prop := ∀ p, p < dnp D → μ 53 0 p = (if S.1 p then 1 else 0) ∧ μ 54 0 p = (if S.2.1 p then 1 else 0) ∧ (S.1 p = true → μ 46 0 p = S.2.2.1 p)
theorem ite32 {a b a' b' : Int} (ha : a' = a) (hb : b' = b) {i : Decidable (a' = b')} : @ite Int (a' = b') i 1 0 = if a = b then 1 else 0 := by
  subst ha; subst hb
  by_cases h : a' = b'
  · rw [if_pos h, if_pos h]
  · rw [if_neg h, if_neg h]
theorem takesM_1 {D : Dt} (O : OKD D) {k : Nat} {sl : Int} (K : Mem → Option (Int × Mem)) {p : Nat} (hp : p < dnp D) {A : Int} : ∀ (d n j : Nat) (μ : Mem), SM D k μ → d + j = dnc D → d < n → μ 45 0 p = A + sm (fun c => if cbt D k c then dlt D p c else 0) j →
    ∃ μ', f_X9_step_L45 sl (p : Int) K n (j : Int) μ = K μ' ∧ (∀ t, t ≠ 45 → μ' t = μ t) ∧ (∀ s, s ≠ p → μ' 45 0 s = μ 45 0 s) ∧ μ' 45 0 p = A + late1 D (cbt D k) p := by
  have h10 := ok_np O
  have h4 := ok_nc O
  intro d
  induction d with
  | zero =>
    intro n j μ hS hd hn h45
    obtain ⟨n, rfl⟩ : ∃ q, n = q + 1 := ⟨n - 1, by omega⟩
    have hj : j = dnc D := by omega
    subst hj
    refine ⟨μ, ?_, fun t _ => rfl, fun s _ => rfl, h45⟩
    rw [f_X9_step_L45.eq_2, wm_nc hS.1, if_pos (Int.le_refl _)]
  | succ d ih =>
    intro n j μ hS hd hn h45
    obtain ⟨n, rfl⟩ : ∃ q, n = q + 1 := ⟨n - 1, by omega⟩
    have hjc : j < dnc D := by omega
    have ih' := ih n (j + 1) (st μ 45 0 p (A + sm (fun c => if cbt D k c then dlt D p c else 0) (j + 1))) (SM_ext hS (fun t ht => st_tag _ (by omega))) (by omega) (by omega) (st_eq _ _ _ _ _)
    obtain ⟨μ', g1, g2, g3, g4⟩ := ih'
    refine ⟨μ', ?_, fun t ht => by rw [g2 t ht, st_tag _ ht], fun s hs => by rw [g3 s hs, st_nk _ hs], g4⟩
    have e1 : sm (fun c => if cbt D k c then dlt D p c else 0) (j + 1) = sm (fun c => if cbt D k c then dlt D p c else 0) j + (if cbt D k j then dlt D p j else 0) := rfl
    rw [e1, ← Int.add_assoc] at g1
    rw [f_X9_step_L45.eq_2, wm_nc hS.1, if_neg (show ¬ w32 (dnc D : Int) ≤ w32 (j : Int) by rw [w32n (by omega), w32n (by omega)]; omega)]
    simp only [jn_u]
    rw [gd_inb _ (by omega) (by omega) (by omega), gd_inb _ (by omega) (by omega) (by omega), gd_inb _ (by omega) (by omega) (by omega), gd_inb _ (by omega) (by omega) (by omega), gd_inb _ (by omega) (by omega) (by omega), ixn (by omega), ixn (by omega), hS.2.2 j hjc, h45, show (4 * (p : Int) + (j : Int)) = ((4 * p + j : Nat) : Int) by omega, ixn (by omega), wm_lt hS.1 hp (by omega), show ((j : Int) + 1) = ((j + 1 : Nat) : Int) by omega]
    cases hb : cbt D k j with
    | true => rw [hb, if_pos rfl] at g1; rw [if_pos rfl, if_neg (show ¬ w32 1 = 0 by decide)]; exact g1
    | false => rw [hb, if_neg (c := (false = true)) (by decide)] at g1; rw [if_neg (c := (false = true)) (by decide), if_pos w32_0]; exact g1
theorem takesM {D : Dt} (O : OKD D) {k : Nat} {sl : Int} (hsl : -1 ≤ sl ∧ sl ≤ 9) (K : Mem → Option (Int × Mem)) : ∀ (d n j : Nat) (μ : Mem), SM D k μ → d + j = dnp D → d < n → (∀ s, s < j → μ 45 0 s = tkg D (dig D k) (cbt D k) sl s ∧ μ 53 0 s = 0 ∧ μ 54 0 s = 0) →
    ∃ μ', f_X9_step_L2 sl K n (j : Int) μ = K μ' ∧ (∀ t, t ≠ 45 → t ≠ 53 → t ≠ 54 → μ' t = μ t) ∧ ∀ s, s < dnp D → μ' 45 0 s = tkg D (dig D k) (cbt D k) sl s ∧ μ' 53 0 s = 0 ∧ μ' 54 0 s = 0 := by
  have h10 := ok_np O
  have h4 := ok_nc O
  intro d
  induction d with
  | zero =>
    intro n j μ hS hd hn h45
    obtain ⟨n, rfl⟩ : ∃ q, n = q + 1 := ⟨n - 1, by omega⟩
    have hj : j = dnp D := by omega
    subst hj
    refine ⟨μ, ?_, fun t _ _ _ => rfl, h45⟩
    rw [f_X9_step_L2.eq_2, wm_np hS.1, if_pos (Int.le_refl _)]
  | succ d ih =>
    intro n j μ hS hd hn h45
    obtain ⟨n, rfl⟩ : ∃ q, n = q + 1 := ⟨n - 1, by omega⟩
    have hjp : j < dnp D := by omega
    have hdl := dig_lt O (k := k) hjp
    have hr := ok_rw O hjp
    obtain ⟨μ1, g1, g2, g3, g4⟩ := takesM_1 O (k := k) (sl := sl) (fun μ14 => gd (inb (j : Int) 10) (gd (inb (j : Int) 10) (f_X9_step_L2 sl K n ((j : Int) + 1) (st (st μ14 53 0 (ix (j : Int)) 0) 54 0 (ix (j : Int)) 0)))) hjp (A := ddy D j (dig D k j) + (if (j : Int) = sl then 1 else 0)) (dnc D) FU 0 (st μ 45 0 j (ddy D j (dig D k j) + (if (j : Int) = sl then 1 else 0))) (SM_ext hS (fun t ht => st_tag _ (by omega))) (by omega) (by unfold FU; omega) (by rw [st_eq]; show _ = _ + (0 : Int); omega)
    obtain ⟨μ2, k1, k2, k3⟩ := ih n (j + 1) (st (st μ1 53 0 j 0) 54 0 j 0) (SM_ext hS (fun t ht => by rw [st_tag _ (by omega), st_tag _ (by omega), g2 t (by omega), st_tag _ (by omega)])) (by omega) (by omega) (fun s hs => by
      by_cases e : s = j
      · rw [e]
        refine ⟨?_, by rw [st_nt _ (by decide), st_eq], by rw [st_eq]⟩
        rw [st_nt _ (by decide), st_nt _ (by decide), g4]; unfold tkg; omega
      · have := h45 s (by omega)
        rw [st_nt _ (by decide), st_nt _ (by decide), g3 s e, st_nk _ e, st_nt _ (by decide), st_nk _ e, st_nk _ e, st_nt _ (by decide), g2 53 (by decide), g2 54 (by decide), st_nt _ (by decide), st_nt _ (by decide)]
        exact this)
    refine ⟨μ2, ?_, fun t h1 h2 h3 => by rw [k2 t h1 h2 h3, st_tag _ h3, st_tag _ h2, g2 t h1, st_tag _ h1], k3⟩
    rw [f_X9_step_L2.eq_2, wm_np hS.1, if_neg (show ¬ w32 (dnp D : Int) ≤ w32 (j : Int) by rw [w32n (by omega), w32n (by omega)]; omega), jn_ite, gd_inb _ (by omega) (by omega) (by omega), ixn (by omega), hS.2.1 j hjp, gd_inb _ (by omega) (by omega) (by omega), gd_inb _ (by omega) (by omega) (by omega), show (8 * (j : Int) + (dig D k j : Int)) = ((8 * j + dig D k j : Nat) : Int) by omega, ixn (by omega), wm_dy hS.1 hjp hdl, ite32 (show w32 (j : Int) = j from w32n (by omega)) (show w32 sl = sl from w32_id (by omega) (by omega))]
    rw [ixn (by omega)] at g1
    rw [show f_X9_step_L45 sl (j : Int) _ FU 0 _ = _ from g1, gd_inb _ (by omega) (by omega) (by omega), gd_inb _ (by omega) (by omega) (by omega), show ((j : Int) + 1) = ((j + 1 : Nat) : Int) by omega]
    exact k1
theorem overM {D : Dt} (O : OKD D) {S : Sm} {μ : Mem} (W : WM D μ) (hR : RM D S μ) {x : Nat} (hx : x < 2 ^ 10) : ((∀ q, q < dnp D → x.testBit q = true → S.2.1 q = true) → f_X9_areOver (x : Int) μ = some (1, μ)) ∧ (¬ (∀ q, q < dnp D → x.testBit q = true → S.2.1 q = true) → f_X9_areOver (x : Int) μ = some (0, μ)) := by
  have h10 := ok_np O
  have L : ∀ (d n j : Nat), d + j = dnp D → d < n → (∀ q, q < j → x.testBit q = true → S.2.1 q = true) → ((∀ q, q < dnp D → x.testBit q = true → S.2.1 q = true) → f_X9_areOver_L2 (x : Int) n (j : Int) μ = some (1, μ)) ∧ (¬ (∀ q, q < dnp D → x.testBit q = true → S.2.1 q = true) → f_X9_areOver_L2 (x : Int) n (j : Int) μ = some (0, μ)) := by
    intro d
    induction d with
    | zero =>
      intro n j hd hn hq
      obtain ⟨n, rfl⟩ : ∃ q, n = q + 1 := ⟨n - 1, by omega⟩
      have hj : j = dnp D := by omega
      subst hj
      rw [f_X9_areOver_L2.eq_2, wm_np W, if_pos (Int.le_refl _)]
      exact ⟨fun _ => rfl, fun h => absurd hq h⟩
    | succ d ih =>
      intro n j hd hn hq
      obtain ⟨n, rfl⟩ : ∃ q, n = q + 1 := ⟨n - 1, by omega⟩
      have hjp : j < dnp D := by omega
      have ih' := ih n (j + 1) (by omega) (by omega)
      rw [f_X9_areOver_L2.eq_2, wm_np W, if_neg (show ¬ w32 (dnp D : Int) ≤ w32 (j : Int) by rw [w32n (by omega), w32n (by omega)]; omega)]
      simp only [jn_u]
      rw [b_bit (by omega) (by omega), gd_inb _ (by omega) (by omega) (by omega), ixn (by omega), (hR j hjp).2.1, show ((j : Int) + 1) = ((j + 1 : Nat) : Int) by omega]
      cases hb : x.testBit j with
      | true =>
        rw [if_pos rfl, if_pos rfl]
        cases ho : S.2.1 j with
        | true =>
          rw [if_pos rfl, if_neg (show ¬ w32 1 = 0 by decide)]
          exact ih' (fun q h1 h2 => by by_cases e : q = j; · rw [e]; exact ho
                                       · exact hq q (by omega) h2)
        | false =>
          rw [if_neg (c := (false = true)) (by decide), if_pos w32_0]
          exact ⟨fun h => by have := h j hjp hb; rw [ho] at this; exact absurd this (by decide), fun _ => rfl⟩
      | false =>
        rw [if_neg (c := (false = true)) (by decide), if_neg (show ¬ w32 0 = w32 1 by decide)]
        exact ih' (fun q h1 h2 => by by_cases e : q = j; · rw [e, hb] at h2; exact absurd h2 (by decide)
                                     · exact hq q (by omega) h2)
  exact L (dnp D) FU 0 (by omega) (by unfold FU; omega) (fun q h => absurd h (by omega))
/-- those that end on a day -/
theorem endM_L {D : Dt} (O : OKD D) {S : Sm} {day : Int} (hday : 0 ≤ day ∧ day ≤ 1000000) (hE : ∀ p, p < dnp D → S.1 p = true → 0 ≤ S.2.2.1 p ∧ S.2.2.1 p ≤ 1000000) (K : Int → Int → Int → Mem → Option (Int × Mem)) : ∀ (d n j : Nat) (x5 : Int) (μ : Mem), WM D μ → RM D (enJ D day j S) μ → d + j = dnp D → d < n → ((∃ p, p < j ∧ runs S p = true ∧ S.2.2.1 p = day) → x5 = day) →
    ∃ x5' μ', f_X9_step_L134 day K n (enJ D day j S).2.2.2 (lf D (enJ D day j S)) x5 (j : Int) μ = K (enN D day S).2.2.2 (lf D (enN D day S)) x5' μ' ∧ RM D (enN D day S) μ' ∧ (∀ t, t ≠ 54 → μ' t = μ t) ∧ ((∃ p, p < dnp D ∧ runs S p = true ∧ S.2.2.1 p = day) → x5' = day) ∧ (x5 = day → x5' = day) := by
  have h10 := ok_np O
  intro d
  induction d with
  | zero =>
    intro n j x5 μ W hR hd hn hx
    obtain ⟨n, rfl⟩ : ∃ q, n = q + 1 := ⟨n - 1, by omega⟩
    have hj : j = dnp D := by omega
    subst hj
    refine ⟨x5, μ, ?_, hR, fun t _ => rfl, hx, fun h => h⟩
    rw [f_X9_step_L134.eq_2, wm_np W, if_pos (Int.le_refl _)]
    rfl
  | succ d ih =>
    intro n j x5 μ W hR hd hn hx
    obtain ⟨n, rfl⟩ : ∃ q, n = q + 1 := ⟨n - 1, by omega⟩
    have hjp : j < dnp D := by omega
    obtain ⟨r1, r2, r3⟩ := hR j hjp
    have hOj : (enJ D day j S).2.1 j = S.2.1 j := bii (by rw [enJ_O]; exact ⟨fun z => z.elim (fun y => y) (fun y => absurd y.1 (by omega)), Or.inl⟩)
    rw [hOj] at r2
    have r1' : μ 53 0 j = if S.1 j then 1 else 0 := r1
    have r3' : S.1 j = true → μ 46 0 j = S.2.2.1 j := r3
    have dF : (enJ D day (j + 1) S).2.2.2 = (enJ D day j S).2.2.2 + (if runs S j = true ∧ S.2.2.1 j = day then dhd D j else 0) := by
      show S.2.2.2 + (fr1 D S day j + (if runs S j = true ∧ S.2.2.1 j = day then dhd D j else 0)) = S.2.2.2 + fr1 D S day j + _
      omega
    have hOq : ∀ q, q ≠ j → (enJ D day (j + 1) S).2.1 q = (enJ D day j S).2.1 q := fun q hq => bii (by
      rw [enJ_O, enJ_O]
      exact ⟨fun z => z.elim Or.inl (fun y => Or.inr ⟨by omega, y.2⟩), fun z => z.elim Or.inl (fun y => Or.inr ⟨by omega, y.2⟩)⟩)
    have stay : ¬ (runs S j = true ∧ S.2.2.1 j = day) → ∃ x5' μ', f_X9_step_L134 day K n (enJ D day j S).2.2.2 (lf D (enJ D day j S)) x5 ((j : Int) + 1) μ = K (enN D day S).2.2.2 (lf D (enN D day S)) x5' μ' ∧ RM D (enN D day S) μ' ∧ (∀ t, t ≠ 54 → μ' t = μ t) ∧ ((∃ p, p < dnp D ∧ runs S p = true ∧ S.2.2.1 p = day) → x5' = day) ∧ (x5 = day → x5' = day) := by
      intro hc
      have hO2 : ∀ q, (enJ D day (j + 1) S).2.1 q = (enJ D day j S).2.1 q := fun q => by
        by_cases e : q = j
        · rw [e, hOj]; exact bii (by rw [enJ_O]; exact ⟨fun z => z.elim (fun y => y) (fun y => absurd y.2 hc), Or.inl⟩)
        · exact hOq q e
      have e1 : lf D (enJ D day (j + 1) S) = lf D (enJ D day j S) := sm_congr _ (fun q _ => by rw [hO2 q])
      rw [if_neg hc, Int.add_zero] at dF
      rw [← dF, ← e1, show ((j : Int) + 1) = ((j + 1 : Nat) : Int) by omega]
      exact ih n (j + 1) x5 μ W (fun p hp => by rw [hO2 p]; exact hR p hp) (by omega) (by omega) (fun ⟨p, h1, h2, h3⟩ => hx ⟨p, by have : p ≠ j := fun z => hc (z ▸ ⟨h2, h3⟩); omega, h2, h3⟩)
    rw [f_X9_step_L134.eq_2, wm_np W, if_neg (show ¬ w32 (dnp D : Int) ≤ w32 (j : Int) by rw [w32n (by omega), w32n (by omega)]; omega)]
    simp only [jn_u]
    rw [gd_inb _ (by omega) (by omega) (by omega), gd_inb _ (by omega) (by omega) (by omega), gd_inb _ (by omega) (by omega) (by omega), gd_inb _ (by omega) (by omega) (by omega), gd_inb _ (by omega) (by omega) (by omega), ixn (by omega), r1', r2]
    cases hB : S.1 j with
    | false =>
      rw [if_neg (c := (false = true)) (by decide), if_pos w32_0]
      exact stay (fun z => by have := (runs_t.1 z.1).1; rw [hB] at this; exact absurd this (by decide))
    | true =>
      rw [if_pos rfl, if_neg (show ¬ w32 1 = 0 by decide)]
      cases hO : S.2.1 j with
      | true =>
        rw [if_pos rfl, if_neg (show ¬ w32 1 = 0 by decide)]
        exact stay (fun z => by have := (runs_t.1 z.1).2; rw [hO] at this; exact absurd this (by decide))
      | false =>
        rw [if_neg (c := (false = true)) (by decide), if_pos w32_0, r3' hB]
        have hEj := hE j hjp hB
        rw [w32_id (x := S.2.2.1 j) (by omega) (by omega), w32_id (x := day) (by omega) (by omega)]
        by_cases hc : S.2.2.1 j = day
        · rw [if_pos hc, st_nt _ (by decide), wm_hd W hjp]
          have hrun : runs S j = true := runs_t.2 ⟨hB, hO⟩
          rw [if_pos ⟨hrun, hc⟩] at dF
          have hOj1 : (enJ D day (j + 1) S).2.1 j = true := enJ_O.2 (Or.inr ⟨by omega, hrun, hc⟩)
          have e1 : lf D (enJ D day (j + 1) S) = lf D (enJ D day j S) + -1 := by
            have := sm_upd (f := fun q => if (enJ D day j S).2.1 q then (0 : Int) else 1) (g := fun q => if (enJ D day (j + 1) S).2.1 q then (0 : Int) else 1) (p := j) (dnp D) (fun q hq _ => by
              show (if (enJ D day (j + 1) S).2.1 q = true then (0 : Int) else 1) = (if (enJ D day j S).2.1 q = true then 0 else 1)
              rw [hOq q hq])
            rw [if_pos hjp, if_pos hOj1, if_neg (by rw [hOj, hO]; decide)] at this
            exact this
          rw [← dF, ← e1, show ((j : Int) + 1) = ((j + 1 : Nat) : Int) by omega]
          obtain ⟨x5', μ', g1, g2, g3, g4, g5⟩ := ih n (j + 1) day (st μ 54 0 j 1) (WMs W (fun t ht => st_tag _ (by omega))) (fun p hp => by
            refine ⟨by rw [st_nt _ (by decide)]; exact (hR p hp).1, ?_, fun h => by rw [st_nt _ (by decide)]; exact (hR p hp).2.2 h⟩
            by_cases e : p = j
            · rw [e, st_eq, hOj1, if_pos rfl]
            · rw [st_nk _ e, hOq p e]; exact (hR p hp).2.1) (by omega) (by omega) (fun _ => rfl)
          exact ⟨x5', μ', g1, g2, fun t ht => by rw [g3 t ht, st_tag _ ht], g4, fun _ => g5 rfl⟩
        · rw [if_neg hc]
          exact stay (fun z => hc z.2)
