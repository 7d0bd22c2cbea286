/-! THE STEPPING, in the model's class: the beginnings, the days -/
section
variable {D : Dt} {T : Nat → Int} {day : Int} {S : Sm} {μ : Mem} {K : Int → Int → Int → Mem → Option (Int × Mem)} {n j : Nat} {l x5 : Int}
theorem beg_cond (O : OKD D) (W : WM D μ) (hR : RM D S μ) (hj : j < dnp D) (hF : 0 ≤ S.2.2.2 ∧ S.2.2.2 ≤ 30) (hc : ¬ canB D j S) : f_X9_step_L212 day K (n + 1) S.2.2.2 l x5 (j : Int) μ = f_X9_step_L212 day K n S.2.2.2 l x5 ((j : Int) + 1) μ := by
  have h10 := ok_np O
  have hhd := ok_hd O hj
  have hnd10 : dnd D j < 2 ^ 10 := Nat.lt_trans (ok_nd O hj) (p10 (by omega))
  obtain ⟨r1, r2, r3⟩ := hR j hj
  rw [f_X9_step_L212.eq_2, wm_np W, if_neg (show ¬ w32 (dnp D : Int) ≤ w32 (j : Int) by rw [w32n (by omega), w32n (by omega)]; omega)]
  simp only [jn_u]
  rw [gd_inb _ (by omega) (by omega) (by omega), gd_inb _ (by omega) (by omega) (by omega), gd_inb _ (by omega) (by omega) (by omega), ixn (by omega), r1, wm_hd W hj, wm_nd W hj, w32_id (x := S.2.2.2) (by omega) (by omega), w32_id (x := dhd D j) (by omega) (by omega)]
  cases hB : S.1 j with
  | true => rw [if_pos rfl, if_neg (show ¬ w32 1 = 0 by decide)]
  | false =>
    rw [if_neg (c := (false = true)) (by decide), if_pos w32_0]
    by_cases e3 : S.2.2.2 < dhd D j
    · rw [if_pos e3]
    · rw [if_neg e3]
      have e2 : ¬ (∀ q, q < dnp D → (dnd D j).testBit q = true → S.2.1 q = true) := fun z => hc ⟨hB, by omega, z⟩
      rw [(overM O W hR hnd10).2 e2, bn_s, if_pos w32_0]
theorem beg_yes (O : OKD D) (W : WM D μ) (hR : RM D S μ) (hj : j < dnp D) (hF : 0 ≤ S.2.2.2 ∧ S.2.2.2 ≤ 30) (h45 : μ 45 0 j = T j) (hT : 0 ≤ T j ∧ T j ≤ 496) (hc : canB D j S) :
    (T j = 0 → f_X9_step_L212 day K (n + 1) S.2.2.2 l x5 (j : Int) μ = f_X9_step_L212 day K n S.2.2.2 (l + -1) day 0 (st (st (st μ 53 0 j 1) 46 0 j (day + T j)) 54 0 j 1)) ∧
    (¬ T j = 0 → f_X9_step_L212 day K (n + 1) S.2.2.2 l x5 (j : Int) μ = f_X9_step_L212 day K n (S.2.2.2 - dhd D j) l x5 ((j : Int) + 1) (st (st μ 53 0 j 1) 46 0 j (day + T j))) := by
  have h10 := ok_np O
  have hhd := ok_hd O hj
  have hnd10 : dnd D j < 2 ^ 10 := Nat.lt_trans (ok_nd O hj) (p10 (by omega))
  obtain ⟨r1, r2, r3⟩ := hR j hj
  have a1 : st (st μ 53 0 j 1) 46 0 j (day + T j) 45 0 j = T j := by rw [st_nt _ (by decide), st_nt _ (by decide)]; exact h45
  have a2 : st (st μ 53 0 j 1) 46 0 j (day + T j) 35 0 j = dhd D j := by rw [st_nt _ (by decide), st_nt _ (by decide)]; exact wm_hd W hj
  have a3 : st μ 53 0 j 1 45 0 j = T j := by rw [st_nt _ (by decide)]; exact h45
  have key : ∀ z1 z2, (z1 = f_X9_step_L212 day K n S.2.2.2 (l + -1) day 0 (st (st (st μ 53 0 j 1) 46 0 j (day + T j)) 54 0 j 1)) → (z2 = f_X9_step_L212 day K n (S.2.2.2 - dhd D j) l x5 ((j : Int) + 1) (st (st μ 53 0 j 1) 46 0 j (day + T j))) → f_X9_step_L212 day K (n + 1) S.2.2.2 l x5 (j : Int) μ = if T j ≤ 0 then z1 else z2 := by
    intro z1 z2 hz1 hz2
    rw [f_X9_step_L212.eq_2, wm_np W, if_neg (show ¬ w32 (dnp D : Int) ≤ w32 (j : Int) by rw [w32n (by omega), w32n (by omega)]; omega)]
    simp only [jn_u]
    rw [gd_inb _ (by omega) (by omega) (by omega), gd_inb _ (by omega) (by omega) (by omega), gd_inb _ (by omega) (by omega) (by omega), ixn (by omega), r1, wm_hd W hj, wm_nd W hj, w32_id (x := S.2.2.2) (by omega) (by omega), w32_id (x := dhd D j) (by omega) (by omega), if_neg (c := (S.1 j = true)) (by rw [hc.1]; decide), if_pos w32_0, if_neg (show ¬ S.2.2.2 < dhd D j by have := hc.2.1; omega), (overM O W hR hnd10).1 hc.2.2, bn_s, if_neg (show ¬ w32 1 = 0 by decide), gd_inb _ (by omega) (by omega) (by omega), gd_inb _ (by omega) (by omega) (by omega), gd_inb _ (by omega) (by omega) (by omega), gd_inb _ (by omega) (by omega) (by omega), gd_inb _ (by omega) (by omega) (by omega), gd_inb _ (by omega) (by omega) (by omega), a3, a1, a2, w32_id (x := T j) (by omega) (by omega), hz1, hz2]
  refine ⟨fun h => ?_, fun h => ?_⟩
  · rw [key _ _ rfl rfl, if_pos (by omega)]
  · rw [key _ _ rfl rfl, if_neg (by omega)]
theorem beg_skip (O : OKD D) (W : WM D μ) (hR : RM D S μ) (hF : 0 ≤ S.2.2.2 ∧ S.2.2.2 ≤ 30) : ∀ (d i n : Nat), i + d ≤ dnp D → (∀ p, i ≤ p → p < i + d → ¬ canB D p S) → f_X9_step_L212 day K (n + d) S.2.2.2 l x5 (i : Int) μ = f_X9_step_L212 day K n S.2.2.2 l x5 ((i + d : Nat) : Int) μ := by
  intro d
  induction d with
  | zero => intro i n _ _; rfl
  | succ d ih =>
    intro i n hi hc
    rw [show n + (d + 1) = (n + d) + 1 by omega, beg_cond O W hR (show i < dnp D by omega) hF (hc i (by omega) (by omega)), show ((i : Int) + 1) = ((i + 1 : Nat) : Int) by omega, ih (i + 1) n (by omega) (fun p h1 h2 => hc p (by omega) (by omega)), show i + 1 + d = i + (d + 1) by omega]
end
theorem RM_0 {D : Dt} {T : Nat → Int} {day : Int} {S : Sm} {μ : Mem} {j : Nat} (hR : RM D S μ) : RM D (setB S.1 j true, setB S.2.1 j true, up S.2.2.1 j (day + T j), S.2.2.2) (st (st (st μ 53 0 j 1) 46 0 j (day + T j)) 54 0 j 1) := by
  intro p hp
  obtain ⟨r1, r2, r3⟩ := hR p hp
  show (st (st (st μ 53 0 j 1) 46 0 j (day + T j)) 54 0 j 1 53 0 p = if setB S.1 j true p = true then 1 else 0) ∧ (st (st (st μ 53 0 j 1) 46 0 j (day + T j)) 54 0 j 1 54 0 p = if setB S.2.1 j true p = true then 1 else 0) ∧ (setB S.1 j true p = true → st (st (st μ 53 0 j 1) 46 0 j (day + T j)) 54 0 j 1 46 0 p = up S.2.2.1 j (day + T j) p)
  by_cases e : p = j
  · subst e
    rw [setB_eq, setB_eq, up_eq]
    exact ⟨by rw [st_nt _ (by decide), st_nt _ (by decide), st_eq]; rfl, by rw [st_eq]; rfl, fun _ => by rw [st_nt _ (by decide), st_eq]⟩
  · rw [setB_ne e, setB_ne e, up_ne _ _ e]
    exact ⟨by rw [st_nt _ (by decide), st_nt _ (by decide), st_nk _ e]; exact r1, by rw [st_nk _ e, st_nt _ (by decide), st_nt _ (by decide)]; exact r2, fun h => by rw [st_nt _ (by decide), st_nk _ e, st_nt _ (by decide)]; exact r3 h⟩
theorem RM_1 {D : Dt} {T : Nat → Int} {day F : Int} {S : Sm} {μ : Mem} {j : Nat} (hR : RM D S μ) : RM D (setB S.1 j true, S.2.1, up S.2.2.1 j (day + T j), F) (st (st μ 53 0 j 1) 46 0 j (day + T j)) := by
  intro p hp
  obtain ⟨r1, r2, r3⟩ := hR p hp
  show (st (st μ 53 0 j 1) 46 0 j (day + T j) 53 0 p = if setB S.1 j true p = true then 1 else 0) ∧ (st (st μ 53 0 j 1) 46 0 j (day + T j) 54 0 p = if S.2.1 p = true then 1 else 0) ∧ (setB S.1 j true p = true → st (st μ 53 0 j 1) 46 0 j (day + T j) 46 0 p = up S.2.2.1 j (day + T j) p)
  by_cases e : p = j
  · subst e
    rw [setB_eq, up_eq]
    exact ⟨by rw [st_nt _ (by decide), st_eq]; rfl, by rw [st_nt _ (by decide), st_nt _ (by decide)]; exact r2, fun _ => by rw [st_eq]⟩
  · rw [setB_ne e, up_ne _ _ e]
    exact ⟨by rw [st_nt _ (by decide), st_nk _ e]; exact r1, by rw [st_nt _ (by decide), st_nt _ (by decide)]; exact r2, fun h => by rw [st_nk _ e, st_nt _ (by decide)]; exact r3 h⟩
theorem Inv_F {D : Dt} (O : OKD D) {T : Nat → Int} {day : Int} {S : Sm} (I : Inv D T day S) : 0 ≤ S.2.2.2 ∧ S.2.2.2 ≤ 30 := by
  have h1 := I.2.2.1
  have h2 := (sm_bd (f := fun q => if runs S q then dhd D q else 0) (B := 9) (dnp D) (fun q hq => by have := ok_hd O hq; split <;> omega)).1
  have : sR D S = sm (fun q => if runs S q then dhd D q else 0) (dnp D) := rfl
  have := ok_hs O
  omega
theorem begM_L {D : Dt} (O : OKD D) {T : Nat → Int} {day : Int} {S : Sm} (hT : ∀ p, p < dnp D → 0 ≤ T p ∧ T p ≤ 496) (I : Inv D T day S) (K : Int → Int → Int → Mem → Option (Int × Mem)) : ∀ (d n j : Nat) (μ : Mem), WM D μ → (∀ p, p < dnp D → μ 45 0 p = T p) → RM D (bgN D T day j S) μ → d + j = dnp D → 13 * (d + 1) ≤ n →
    ∃ μ', f_X9_step_L212 day K n (bgN D T day j S).2.2.2 (lf D (bgN D T day j S)) day (j : Int) μ = K (bgN D T day (dnp D) S).2.2.2 (lf D (bgN D T day (dnp D) S)) day μ' ∧ RM D (bgN D T day (dnp D) S) μ' ∧ ∀ t, t ≠ 46 → t ≠ 53 → t ≠ 54 → μ' t = μ t := by
  have h10 := ok_np O
  intro d
  induction d with
  | zero =>
    intro n j μ W h45 hR hd hn
    obtain ⟨n, rfl⟩ : ∃ q, n = q + 1 := ⟨n - 1, by omega⟩
    have hj : j = dnp D := by omega
    subst hj
    refine ⟨μ, ?_, hR, fun t _ _ _ => rfl⟩
    rw [f_X9_step_L212.eq_2, wm_np W, if_pos (Int.le_refl _)]
  | succ d ih =>
    intro n j μ W h45 hR hd hn
    have hjp : j < dnp D := by omega
    obtain ⟨S', hS'⟩ : ∃ S', S' = bgN D T day j S := ⟨_, rfl⟩
    have I' : Inv D T day S' := by rw [hS']; exact bgN_Inv (fun p hp => (hT p hp).1) I j (by omega)
    have I1 := bg1_Inv (fun p hp => (hT p hp).1) I' hjp
    have hF := Inv_F O I'
    have hF1 := Inv_F O I1
    have hno : ∀ p, p < j → ¬ canB D p S' := by rw [hS']; exact bgN_no O j (by omega)
    have hno1 : ∀ p, p ≤ j → ¬ canB D p (bg1 D T day j S') := fun p hp => noB O hjp hp (fun h => hno p h)
    have hnx : bgN D T day (j + 1) S = bg1 D T day j S' := by rw [hS']; rfl
    rw [← hS'] at hR ⊢
    by_cases hc : canB D j S'
    · by_cases h0 : T j = 0
      · -- it takes no day: on from the first again
        have e1 : lf D (bg1 D T day j S') = lf D S' + -1 := by
          have := sm_upd (f := fun q => if S'.2.1 q then (0 : Int) else 1) (g := fun q => if (bg1 D T day j S').2.1 q then (0 : Int) else 1) (p := j) (dnp D) (fun q hq _ => by
            rw [bg1_0 hc h0]
            show (if setB S'.2.1 j true q = true then (0 : Int) else 1) = (if S'.2.1 q = true then 0 else 1)
            rw [setB_ne hq])
          have hO : S'.2.1 j = false := bfa (fun z => by have := I'.2.1 j z; rw [hc.1] at this; exact absurd this (by decide))
          rw [if_pos hjp, if_pos (by rw [bg1_0 hc h0]; exact setB_eq), if_neg (by rw [hO]; decide)] at this
          exact this
        have eF : (bg1 D T day j S').2.2.2 = S'.2.2.2 := by rw [bg1_0 hc h0]
        obtain ⟨μ1, hμ1⟩ : ∃ μ1, μ1 = st (st (st μ 53 0 j 1) 46 0 j (day + T j)) 54 0 j 1 := ⟨_, rfl⟩
        have ht1 : ∀ t, t ≠ 46 → t ≠ 53 → t ≠ 54 → μ1 t = μ t := fun t h1 h2 h3 => by rw [hμ1, st_tag _ h3, st_tag _ h1, st_tag _ h2]
        have W1 : WM D μ1 := WMs W (fun t ht => ht1 t (by omega) (by omega) (by omega))
        have R1 : RM D (bg1 D T day j S') μ1 := by rw [bg1_0 hc h0, hμ1]; exact RM_0 hR
        obtain ⟨n, rfl⟩ : ∃ q, n = (q + (j + 1)) + 1 := ⟨n - (j + 2), by omega⟩
        obtain ⟨μ', g1, g2, g3⟩ := ih n (j + 1) μ1 W1 (by rw [ht1 45 (by decide) (by decide) (by decide)]; exact h45) (by rw [hnx]; exact R1) (by omega) (by omega)
        refine ⟨μ', ?_, g2, fun t h1 h2 h3 => by rw [g3 t h1 h2 h3, ht1 t h1 h2 h3]⟩
        rw [(beg_yes O W hR hjp hF (h45 j hjp) (hT j hjp) hc).1 h0, ← hμ1, ← e1, ← eF]
        rw [show f_X9_step_L212 day K (n + (j + 1)) (bg1 D T day j S').2.2.2 (lf D (bg1 D T day j S')) day 0 μ1 = _ from beg_skip O W1 R1 hF1 (j + 1) 0 n (by omega) (fun p _ h2 => hno1 p (by omega)), Nat.zero_add]
        rw [hnx] at g1
        exact g1
      · have e1 : lf D (bg1 D T day j S') = lf D S' := by rw [bg1_1 hc h0]; rfl
        have eF : (bg1 D T day j S').2.2.2 = S'.2.2.2 - dhd D j := by rw [bg1_1 hc h0]
        obtain ⟨n, rfl⟩ : ∃ q, n = q + 1 := ⟨n - 1, by omega⟩
        obtain ⟨μ', g1, g2, g3⟩ := ih n (j + 1) (st (st μ 53 0 j 1) 46 0 j (day + T j)) (WMs W (fun t ht => by rw [st_tag _ (by omega), st_tag _ (by omega)])) (by rw [st_tag _ (by decide), st_tag _ (by decide)]; exact h45) (by rw [hnx, bg1_1 hc h0]; exact RM_1 hR) (by omega) (by omega)
        refine ⟨μ', ?_, g2, fun t h1 h2 h3 => by rw [g3 t h1 h2 h3, st_tag _ h1, st_tag _ h2]⟩
        rw [hnx, e1, eF] at g1
        rw [(beg_yes O W hR hjp hF (h45 j hjp) (hT j hjp) hc).2 h0, show ((j : Int) + 1) = ((j + 1 : Nat) : Int) by omega]
        exact g1
    · obtain ⟨n, rfl⟩ : ∃ q, n = q + 1 := ⟨n - 1, by omega⟩
      obtain ⟨μ', g1, g2, g3⟩ := ih n (j + 1) μ W h45 (by rw [hnx, bg1_n hc]; exact hR) (by omega) (by omega)
      refine ⟨μ', ?_, g2, g3⟩
      rw [hnx, bg1_n hc] at g1
      rw [beg_cond O W hR hjp hF hc, show ((j : Int) + 1) = ((j + 1 : Nat) : Int) by omega]
      exact g1
theorem nxtM_L {D : Dt} (O : OKD D) {S : Sm} {μ : Mem} (W : WM D μ) (hR : RM D S μ) (hE : ∀ p, p < dnp D → S.1 p = true → 0 ≤ S.2.2.1 p ∧ S.2.2.1 p ≤ 1000000) (x2 x3 x4 x5 : Int) (K : Int → Mem → Option (Int × Mem)) : ∀ (d n j : Nat), d + j = dnp D → d < n → f_X9_step_L341 x2 x3 x4 x5 K n (nxt S j 2147483647) (j : Int) μ = K (nxt S (dnp D) 2147483647) μ := by
  have h10 := ok_np O
  intro d
  induction d with
  | zero =>
    intro n j hd hn
    obtain ⟨n, rfl⟩ : ∃ q, n = q + 1 := ⟨n - 1, by omega⟩
    have hj : j = dnp D := by omega
    subst hj
    rw [f_X9_step_L341.eq_2, wm_np W, if_pos (Int.le_refl _)]
  | succ d ih =>
    intro n j hd hn
    obtain ⟨n, rfl⟩ : ∃ q, n = q + 1 := ⟨n - 1, by omega⟩
    have hjp : j < dnp D := by omega
    obtain ⟨r1, r2, r3⟩ := hR j hjp
    have ih' := ih n (j + 1) (by omega) (by omega)
    have hnx := nxt_ex (S := S) (d0 := 2147483647) j (fun p hp hr => by have := hE p (by omega) (runs_t.1 hr).1; omega)
    have hN : 0 ≤ nxt S j 2147483647 ∧ nxt S j 2147483647 ≤ 2147483647 := by
      cases ha : anyr S j with
      | true => obtain ⟨p, h1, h2, h3⟩ := hnx.1 ha; have := hE p (by omega) (runs_t.1 h2).1; omega
      | false => have := hnx.2.1 ha; omega
    have dN : nxt S (j + 1) 2147483647 = if runs S j = true ∧ S.2.2.1 j < nxt S j 2147483647 then S.2.2.1 j else nxt S j 2147483647 := rfl
    rw [f_X9_step_L341.eq_2, wm_np W, if_neg (show ¬ w32 (dnp D : Int) ≤ w32 (j : Int) by rw [w32n (by omega), w32n (by omega)]; omega)]
    simp only [jn_u]
    rw [gd_inb _ (by omega) (by omega) (by omega), gd_inb _ (by omega) (by omega) (by omega), gd_inb _ (by omega) (by omega) (by omega), ixn (by omega), r1, r2, show ((j : Int) + 1) = ((j + 1 : Nat) : Int) by omega]
    cases hB : S.1 j with
    | false =>
      rw [if_neg (c := (false = true)) (by decide), if_pos w32_0]
      rw [dN, if_neg (fun z => by have := (runs_t.1 z.1).1; rw [hB] at this; exact absurd this (by decide))] at ih'
      exact ih'
    | true =>
      rw [if_pos rfl, if_neg (show ¬ w32 1 = 0 by decide)]
      cases hO : S.2.1 j with
      | true =>
        rw [if_pos rfl, if_neg (show ¬ w32 1 = 0 by decide)]
        rw [dN, if_neg (fun z => by have := (runs_t.1 z.1).2; rw [hO] at this; exact absurd this (by decide))] at ih'
        exact ih'
      | false =>
        have hEj := hE j hjp hB
        rw [if_neg (c := (false = true)) (by decide), if_pos w32_0, r3 hB, w32_id (x := S.2.2.1 j) (by omega) (by omega), w32_id (x := nxt S j 2147483647) (by omega) (by omega)]
        by_cases z : S.2.2.1 j < nxt S j 2147483647
        · rw [dN, if_pos ⟨runs_t.2 ⟨hB, hO⟩, z⟩] at ih'
          rw [if_pos z]; exact ih'
        · rw [dN, if_neg (fun y => z y.2)] at ih'
          rw [if_neg z]; exact ih'
theorem nxt_two {D : Dt} {S : Sm} (hE : ∀ p, p < dnp D → S.1 p = true → 0 ≤ S.2.2.1 p ∧ S.2.2.1 p < 1000000) (ha : anyr S (dnp D) = true) : nxt S (dnp D) 2147483647 = nxt S (dnp D) 1000000 := by
  have h1 := nxt_ex (S := S) (d0 := 2147483647) (dnp D) (fun p hp hr => by have := hE p (by omega) (runs_t.1 hr).1; omega)
  have h2 := nxt_ex (S := S) (d0 := 1000000) (dnp D) (fun p hp hr => by have := hE p (by omega) (runs_t.1 hr).1; omega)
  obtain ⟨p, a1, a2, a3⟩ := h1.1 ha
  obtain ⟨q, b1, b2, b3⟩ := h2.1 ha
  have := h1.2.2 q b1 b2
  have := h2.2.2 p a1 a2
  omega
theorem lf_0 {D : Dt} {S : Sm} (h : ∀ p, p < dnp D → S.2.1 p = true) : lf D S = 0 := sm_zero _ (fun q hq => by rw [h q hq]; rfl)
theorem lf_any {D : Dt} {S : Sm} (h : anyr S (dnp D) = true) : 1 ≤ lf D S := by
  obtain ⟨p, h1, h2⟩ := (anyr_t (dnp D)).1 h
  have := sm_ge (f := fun q => if S.2.1 q then (0 : Int) else 1) (dnp D) p h1 (fun q _ => by split <;> omega)
  rw [if_neg (by rw [(runs_t.1 h2).2]; decide)] at this
  exact this
theorem goM_L {D : Dt} (O : OKD D) (hS : nStuck D) {T : Nat → Int} (hT : ∀ p, p < dnp D → 0 ≤ T p ∧ T p ≤ 496) (hTT : sm T (dnp D) ≤ 4951) : ∀ (m n : Nat) (d x4 : Int) (S : Sm) (μ : Mem), Stn D T d S → lf D S ≤ m → m < n → (anyr S (dnp D) = true → x4 = nxt S (dnp D) 1000000) → WM D μ → (∀ p, p < dnp D → μ 45 0 p = T p) → RM D S μ →
    ∃ μ', f_X9_step_L127 n S.2.2.2 (lf D S) x4 d μ = some ((simL D T m d S).1, μ') ∧ RM D (simL D T m d S).2 μ' ∧ ∀ t, t ≠ 46 → t ≠ 53 → t ≠ 54 → μ' t = μ t := by
  have h10 := ok_np O
  intro m
  induction m with
  | zero =>
    intro n d x4 S μ hSt hl hn h4 W h45 hR
    obtain ⟨n, rfl⟩ : ∃ q, n = q + 1 := ⟨n - 1, by omega⟩
    have hb := lf_bd (D := D) (S := S)
    refine ⟨μ, ?_, hR, fun t _ _ _ => rfl⟩
    rw [f_X9_step_L127.eq_2, if_pos (by rw [w32_id (by omega) (by omega)]; omega)]
    rfl
  | succ m ih =>
    intro n d x4 S μ hSt hl hn h4 W h45 hR
    obtain ⟨n, rfl⟩ : ∃ q, n = q + 1 := ⟨n - 1, by omega⟩
    have hb := lf_bd (D := D) (S := S)
    have wl0 : w32 (lf D S) = lf D S := w32_id (by omega) (by omega)
    by_cases ha : anyr S (dnp D) = true
    · have h1 := lf_any ha
      have hx4 := h4 ha
      subst hx4
      have hE : ∀ p, p < dnp D → S.1 p = true → 0 ≤ S.2.2.1 p ∧ S.2.2.1 p ≤ 1000000 := fun p hp hB => by have := hSt.1.2.2.2.2.2 p hp hB; omega
      obtain ⟨p0, z1, z2, z3⟩ := (Stn_nxt hSt.1 (by omega)).1 ha
      have hE0 := hE p0 z1 (runs_t.1 z2).1
      obtain ⟨j1, j2, j3⟩ := Stn_go O (fun p hp => (hT p hp).1) (by omega) hSt.1 ha
      obtain ⟨N, hN⟩ : ∃ N, N = nxt S (dnp D) 1000000 := ⟨_, rfl⟩
      rw [simL_t ha]
      rw [← hN] at z3 j1 j2 j3 ⊢
      have hE1 : ∀ p, p < dnp D → (bgN D T N (dnp D) (enN D N S)).1 p = true → 0 ≤ (bgN D T N (dnp D) (enN D N S)).2.2.1 p ∧ (bgN D T N (dnp D) (enN D N S)).2.2.1 p ≤ 4951 := fun p hp hB => by have := j2.1.2.2.2.2.2 p hp hB; omega
      rw [f_X9_step_L127.eq_2, if_neg (by rw [wl0]; omega)]
      have R0 : RM D (enJ D N 0 S) μ := fun p hp => by
        have : (enJ D N 0 S).2.1 p = S.2.1 p := bii (by rw [enJ_O]; exact ⟨fun z => z.elim (fun y => y) (fun y => absurd y.1 (by omega)), Or.inl⟩)
        rw [this]; exact hR p hp
      have l0 : lf D (enJ D N 0 S) = lf D S := sm_congr _ (fun p hp => by
        have : (enJ D N 0 S).2.1 p = S.2.1 p := bii (by rw [enJ_O]; exact ⟨fun z => z.elim (fun y => y) (fun y => absurd y.1 (by omega)), Or.inl⟩)
        rw [this])
      have F0 : (enJ D N 0 S).2.2.2 = S.2.2.2 := by show S.2.2.2 + 0 = _; omega
      obtain ⟨x5', μ1, a1, a2, a3, a4, -⟩ := endM_L O (S := S) (day := N) (by omega) hE _ (dnp D) FU 0 d μ W R0 (by omega) (by unfold FU; omega) (fun ⟨p, y, _⟩ => absurd y (by omega))
      rw [l0, F0] at a1
      rw [show f_X9_step_L134 N _ FU S.2.2.2 (lf D S) d 0 μ = _ from a1]
      rw [a4 ⟨p0, z1, z2, z3.symm⟩]
      obtain ⟨μ2, b1, b2, b3⟩ := begM_L O (T := T) (day := N) (S := enN D N S) hT j1 (fun y59 y60 y61 μ58 => f_X9_step_L341 y59 y60 N y61 (fun y72 μ71 => jn (fun y73 => f_X9_step_L127 n y59 y60 y73 y61 μ71) (fun j401 => (if w32 y60 ≤ 0 then j401 N else j401 y72))) FU 2147483647 0 μ58) (dnp D) FU 0 μ1 (WMs W (fun t ht => a3 t (by omega))) (by rw [a3 45 (by decide)]; exact h45) a2 (by omega) (by unfold FU; omega)
      have t2 : ∀ t, t ≠ 46 → t ≠ 53 → t ≠ 54 → μ2 t = μ t := fun t h1 h2 h3 => by rw [b3 t h1 h2 h3, a3 t h3]
      have W2 : WM D μ2 := WMs W (fun t ht => t2 t (by omega) (by omega) (by omega))
      rw [show f_X9_step_L212 N _ FU (enN D N S).2.2.2 (lf D (enN D N S)) N 0 μ1 = _ from b1]
      have c1 := nxtM_L O W2 b2 (fun p hp hB => by have := hE1 p hp hB; omega) (bgN D T N (dnp D) (enN D N S)).2.2.2 (lf D (bgN D T N (dnp D) (enN D N S))) N N (fun y72 μ71 => jn (fun y73 => f_X9_step_L127 n (bgN D T N (dnp D) (enN D N S)).2.2.2 (lf D (bgN D T N (dnp D) (enN D N S))) y73 N μ71) (fun j401 => (if w32 (lf D (bgN D T N (dnp D) (enN D N S))) ≤ 0 then j401 N else j401 y72))) (dnp D) FU 0 (by omega) (by unfold FU; omega)
      try dsimp only
      rw [show f_X9_step_L341 _ _ N N _ FU 2147483647 0 μ2 = _ from c1]
      try dsimp only
      have hb2 := lf_bd (D := D) (S := bgN D T N (dnp D) (enN D N S))
      simp only [jn_u]
      rw [w32_id (x := lf D (bgN D T N (dnp D) (enN D N S))) (by omega) (by omega)]
      have fin : ∀ x4', (anyr (bgN D T N (dnp D) (enN D N S)) (dnp D) = true → x4' = nxt (bgN D T N (dnp D) (enN D N S)) (dnp D) 1000000) → ∃ μ', f_X9_step_L127 n (bgN D T N (dnp D) (enN D N S)).2.2.2 (lf D (bgN D T N (dnp D) (enN D N S))) x4' N μ2 = some ((simL D T m N (bgN D T N (dnp D) (enN D N S))).1, μ') ∧ RM D (simL D T m N (bgN D T N (dnp D) (enN D N S))).2 μ' ∧ ∀ t, t ≠ 46 → t ≠ 53 → t ≠ 54 → μ' t = μ t := by
        intro x4' hx
        obtain ⟨μ3, k1, k2, k3⟩ := ih n N x4' _ μ2 j2 (by omega) (by omega) hx W2 (by rw [t2 45 (by decide) (by decide) (by decide)]; exact h45) b2
        exact ⟨μ3, k1, k2, fun t h1 h2 h3 => by rw [k3 t h1 h2 h3, t2 t h1 h2 h3]⟩
      by_cases hz : lf D (bgN D T N (dnp D) (enN D N S)) ≤ 0
      · rw [if_pos hz]
        exact fin _ (fun y => by have := lf_any y; omega)
      · rw [if_neg hz]
        exact fin _ (fun y => nxt_two (fun p hp hB => by have := hE1 p hp hB; omega) y)
    · have hall := all_over O hS hSt.1 hSt.2 (bfa ha)
      have h0 := lf_0 hall
      rw [simL_f (bfa ha), f_X9_step_L127.eq_2, if_pos (by rw [wl0]; omega)]
      exact ⟨μ, rfl, hR, fun t _ _ _ => rfl⟩
