/-! THE SUMS by day, in the model's class -/
theorem SM_ext3 {D : Dt} {k : Nat} {μ μ' : Mem} (S : SM D k μ) (h : ∀ t, t ≠ 30 → t < 45 ∨ t = 47 → μ' t = μ t) (h30 : ∀ s, s < 33 → μ' 30 0 s = μ 30 0 s) : SM D k μ' := by
  obtain ⟨W, s44, s47⟩ := S
  exact ⟨WM_ext W (fun t h1 h2 => h t (by omega) (by omega)) (fun s hs => h30 s (by omega)), by rw [h 44 (by decide) (by omega)]; exact s44, by rw [h 47 (by decide) (by omega)]; exact s47⟩
def cond (D : Dt) (cp cr : Int) (k : Nat) : Prop := cp < 0 ∨ (dig D k cp.toNat : Int) = cr
noncomputable def vday (D : Dt) (a : Int) (k : Nat) : Int := if 0 ≤ a then wFin D k (-1) a.toNat else wEnd D k (-1)
noncomputable def dst (D : Dt) (a cp cr : Int) (d : Nat) (k : Nat) : Int := by
  classical exact if cond D cp cr k ∧ vday D a k = (d : Int) then lw D k else 0
noncomputable def cwt (D : Dt) (cp cr : Int) (k : Nat) : Int := by
  classical exact if cond D cp cr k then lw D k else 0
theorem vday_bd {D : Dt} (O : OKD D) (hS : nStuck D) {a : Int} (ha : a < dnp D) {k : Nat} : 0 ≤ vday D a k ∧ vday D a k ≤ 4951 := by
  unfold vday
  by_cases h : 0 ≤ a
  · rw [if_pos h]; exact wFin_bd O hS (by omega)
  · rw [if_neg h]
    have := wEnd_bd O (k := k) (sl := -1)
    rw [if_neg (by decide)] at this
    omega
theorem zero48 (x1 x2 x3 : Int) (K : Mem → Option (Int × Mem)) : ∀ (d n j : Nat) (μ : Mem), d + j = 6000 → d < n → (∀ s, s < j → μ 48 0 s = 0) → ∃ μ', f_X9_sums_L23 x1 x2 x3 K n (j : Int) μ = K μ' ∧ (∀ t, t ≠ 48 → μ' t = μ t) ∧ ∀ s, s < 6000 → μ' 48 0 s = 0 := by
  have w6 : w32 6000 = 6000 := rfl
  intro d
  induction d with
  | zero =>
    intro n j μ hd hn h
    obtain ⟨n, rfl⟩ : ∃ q, n = q + 1 := ⟨n - 1, by omega⟩
    have hj : j = 6000 := by omega
    subst hj
    exact ⟨μ, by rw [f_X9_sums_L23.eq_2, if_pos (by decide)], fun t _ => rfl, h⟩
  | succ d ih =>
    intro n j μ hd hn h
    obtain ⟨n, rfl⟩ : ∃ q, n = q + 1 := ⟨n - 1, by omega⟩
    obtain ⟨μ', a1, a2, a3⟩ := ih n (j + 1) (st μ 48 0 j 0) (by omega) (by omega) (fun s hs => by
      by_cases e : s = j
      · rw [e, st_eq]
      · rw [st_nk _ e]; exact h s (by omega))
    refine ⟨μ', ?_, fun t ht => by rw [a2 t ht, st_tag _ ht], a3⟩
    rw [f_X9_sums_L23.eq_2, if_neg (by rw [w6, w32n (by omega)]; omega), gd_inb _ (by omega) (by omega) (by omega), ixn (by omega), show ((j : Int) + 1) = ((j + 1 : Nat) : Int) by omega]
    exact a1
/-- what a turn leaves alone -/
def keepM (μ μ' : Mem) : Prop := (∀ t, t ≠ 30 → t < 43 ∨ (49 < t ∧ t < 53) → μ' t = μ t) ∧ ∀ s, s < 33 → μ' 30 0 s = μ 30 0 s
def keepS (μ μ' : Mem) : Prop := (∀ t, t ≠ 30 → t < 43 ∨ (49 < t ∧ t < 53) → μ' t = μ t) ∧ ∀ s, s ≠ 33 → μ' 30 0 s = μ 30 0 s
theorem keepS_M {μ μ' : Mem} (h : keepS μ μ') : keepM μ μ' := ⟨h.1, fun s hs => h.2 s (by omega)⟩
theorem sumsM_L {D : Dt} (O : OKD D) (hS : nStuck D) (ht : tot D ≤ 20000) {a cp cr : Int} (ha : -1 ≤ a ∧ a < dnp D) (hcp : -1 ≤ cp ∧ cp < dnp D) (hcr : 0 ≤ cr ∧ cr ≤ 10) (K : Int → Mem → Option (Int × Mem)) : ∀ (d n j : Nat) (μ : Mem), d + j = cW D → d < n → SM D j μ → (∀ s, s < 6000 → μ 48 0 s = sm (dst D a cp cr s) j) → μ 30 0 33 = sm (cwt D cp cr) j →
    ∃ μ', f_X9_sums_L60 a cp cr K n (sm (lw D) j) (if j = cW D then 0 else 1) μ = K (LL D) μ' ∧ WM D μ' ∧ (∀ s, s < 6000 → μ' 48 0 s = sm (dst D a cp cr s) (cW D)) ∧ μ' 30 0 33 = sm (cwt D cp cr) (cW D) ∧ keepS μ μ' := by
  have h10 := ok_np O
  have hcw := cW_le O
  intro d
  induction d with
  | zero =>
    intro n j μ hd hn hM h48 h33
    obtain ⟨n, rfl⟩ : ∃ q, n = q + 1 := ⟨n - 1, by omega⟩
    have hj : j = cW D := by omega
    subst hj
    refine ⟨μ, ?_, hM.1, h48, h33, fun t _ _ => rfl, fun s _ => rfl⟩
    rw [f_X9_sums_L60.eq_2, if_pos rfl, if_pos w32_0]
    rfl
  | succ d ih =>
    intro n j μ hd hn hM h48 h33
    obtain ⟨n, rfl⟩ : ∃ q, n = q + 1 := ⟨n - 1, by omega⟩
    have hjc : j < cW D := by omega
    obtain ⟨μ1, a1, a2, a3, a4⟩ := stepM O hS (sl := -1) (by omega) hM
    have hE : ∀ p, p < dnp D → μ1 46 0 p = wFin D j (-1) p ∧ 0 ≤ wFin D j (-1) p ∧ wFin D j (-1) p ≤ 4951 := fun p hp => ⟨a3 p hp, (wFin_bd O hS hp).1, (wFin_bd O hS hp).2⟩
    have hle := isLeftM O a2.1 hE
    have hv := vday_bd O hS (a := a) (k := j) ha.2
    have e48 : μ1 48 = μ 48 := a4 48 (by decide) (by decide) (by decide) (by decide)
    have e30 : μ1 30 = μ 30 := a4 30 (by decide) (by decide) (by decide) (by decide)
    have rest : ∀ μ4 : Mem, (∀ t, t ≠ 30 → t ≠ 48 → μ4 t = μ1 t) → (∀ s, s ≠ 33 → μ4 30 0 s = μ 30 0 s) → (∀ s, s < 6000 → μ4 48 0 s = sm (dst D a cp cr s) (j + 1)) → μ4 30 0 33 = sm (cwt D cp cr) (j + 1) →
        ∃ μ', bn (f_X9_nextWay μ4) (fun r24 μ25 => f_X9_sums_L60 a cp cr K n (sm (lw D) (j + 1)) r24 μ25) = K (LL D) μ' ∧ WM D μ' ∧ (∀ s, s < 6000 → μ' 48 0 s = sm (dst D a cp cr s) (cW D)) ∧ μ' 30 0 33 = sm (cwt D cp cr) (cW D) ∧ keepS μ μ' := by
      intro μ4 q1 q2 q3 q4
      obtain ⟨μ5, b1, b2, b3⟩ := nextM O (SM_ext3 a2 (fun t h1 h2 => q1 t h1 (by omega)) (fun s hs => by rw [q2 s (by omega), e30])) hjc
      obtain ⟨μ', c1, c2, c3, c4, c5⟩ := ih n (j + 1) μ5 (by omega) (by omega) b2 (by rw [b3 48 (by decide) (by decide)]; exact q3) (by rw [b3 30 (by decide) (by decide)]; exact q4)
      refine ⟨μ', by rw [b1, bn_s]; exact c1, c2, c3, c4, fun t h1 h2 => ?_, fun s hs => ?_⟩
      · rw [c5.1 t h1 h2, b3 t (by omega) (by omega), q1 t h1 (by omega), a4 t (by omega) (by omega) (by omega) (by omega)]
      · rw [c5.2 s hs, b3 30 (by decide) (by decide), q2 s (by omega)]
    rw [f_X9_sums_L60.eq_2, if_neg (show ¬ j = cW D by omega), if_neg (show ¬ w32 1 = 0 by decide), a1, bn_s]
    have d1 : ∀ s, sm (dst D a cp cr s) (j + 1) = sm (dst D a cp cr s) j + dst D a cp cr s j := fun _ => rfl
    have d2 : sm (cwt D cp cr) (j + 1) = sm (cwt D cp cr) j + cwt D cp cr j := rfl
    have d3 : sm (lw D) (j + 1) = sm (lw D) j + lw D j := rfl
    by_cases hw : wLft D j
    · rw [hle.1 hw, bn_s]
      simp only [jn_u]
      rw [if_neg (show ¬ w32 1 = 0 by decide), weightM O a2, bn_s]
      rw [d3, lw_y hw] at rest
      have hcp32 : w32 cp = cp := w32_id (by omega) (by omega)
      have ha32 : w32 a = a := w32_id (by omega) (by omega)
      -- where it counts
      have yes : cond D cp cr j → ∃ μ', (if 0 ≤ w32 a then gd (inb a 10) (gd (inb (μ1 46 0 (ix a)) 6000) (gd (inb (μ1 46 0 (ix a)) 6000) (bn (f_X9_nextWay (st (st μ1 48 0 (ix (μ1 46 0 (ix a))) ((μ1 48 0 (ix (μ1 46 0 (ix a)))) + wWt D j)) 30 0 33 (((st μ1 48 0 (ix (μ1 46 0 (ix a))) ((μ1 48 0 (ix (μ1 46 0 (ix a)))) + wWt D j)) 30 0 33) + wWt D j))) (fun r24 μ25 => f_X9_sums_L60 a cp cr K n (sm (lw D) j + wWt D j) r24 μ25)))) else gd (inb (wEnd D j (-1)) 6000) (gd (inb (wEnd D j (-1)) 6000) (bn (f_X9_nextWay (st (st μ1 48 0 (ix (wEnd D j (-1))) ((μ1 48 0 (ix (wEnd D j (-1)))) + wWt D j)) 30 0 33 (((st μ1 48 0 (ix (wEnd D j (-1))) ((μ1 48 0 (ix (wEnd D j (-1)))) + wWt D j)) 30 0 33) + wWt D j))) (fun r24 μ25 => f_X9_sums_L60 a cp cr K n (sm (lw D) j + wWt D j) r24 μ25)))) = K (LL D) μ' ∧ WM D μ' ∧ (∀ s, s < 6000 → μ' 48 0 s = sm (dst D a cp cr s) (cW D)) ∧ μ' 30 0 33 = sm (cwt D cp cr) (cW D) ∧ keepS μ μ' := by
        intro hcd
        have body : ∃ μ', gd (inb (vday D a j) 6000) (gd (inb (vday D a j) 6000) (bn (f_X9_nextWay (st (st μ1 48 0 (ix (vday D a j)) ((μ1 48 0 (ix (vday D a j))) + wWt D j)) 30 0 33 (((st μ1 48 0 (ix (vday D a j)) ((μ1 48 0 (ix (vday D a j))) + wWt D j)) 30 0 33) + wWt D j))) (fun r24 μ25 => f_X9_sums_L60 a cp cr K n (sm (lw D) j + wWt D j) r24 μ25))) = K (LL D) μ' ∧ WM D μ' ∧ (∀ s, s < 6000 → μ' 48 0 s = sm (dst D a cp cr s) (cW D)) ∧ μ' 30 0 33 = sm (cwt D cp cr) (cW D) ∧ keepS μ μ' := by
          rw [gd_inb _ (by omega) (by omega) (by omega), gd_inb _ (by omega) (by omega) (by omega), ix_id (by omega) (by omega), st_nt _ (by decide)]
          refine rest _ (fun t h1 h2 => by rw [st_tag _ h1, st_tag _ h2]) (fun s hs => by rw [st_nk _ hs, st_nt _ (by decide), e30]) (fun s hs => ?_) ?_
          · rw [st_nt _ (by decide), d1 s]
            have hd : dst D a cp cr s j = if (vday D a j).toNat = s then wWt D j else 0 := by
              unfold dst
              by_cases e : (vday D a j).toNat = s
              · rw [if_pos ⟨hcd, by omega⟩, if_pos e, lw_y hw]
              · rw [if_neg (fun z => e (by have := z.2; omega)), if_neg e]
            rw [hd]
            by_cases e : (vday D a j).toNat = s
            · rw [if_pos e, ← e, st_eq, e48, h48 _ (by omega)]
            · rw [if_neg e, st_nk _ (fun z => e z.symm), e48, h48 s hs, Int.add_zero]
          · rw [st_eq, d2, e30, h33]
            unfold cwt
            rw [if_pos hcd, lw_y hw]
        by_cases ha0 : 0 ≤ a
        · rw [if_pos (by rw [ha32]; exact ha0), gd_inb _ ha0 (by omega) (by omega), ix_id ha0 (by omega), (hE a.toNat (by omega)).1]
          unfold vday at body
          rw [if_pos ha0] at body
          exact body
        · rw [if_neg (by rw [ha32]; exact ha0)]
          unfold vday at body
          rw [if_neg ha0] at body
          exact body
      have no : ¬ cond D cp cr j → ∃ μ', bn (f_X9_nextWay μ1) (fun r24 μ25 => f_X9_sums_L60 a cp cr K n (sm (lw D) j + wWt D j) r24 μ25) = K (LL D) μ' ∧ WM D μ' ∧ (∀ s, s < 6000 → μ' 48 0 s = sm (dst D a cp cr s) (cW D)) ∧ μ' 30 0 33 = sm (cwt D cp cr) (cW D) ∧ keepS μ μ' := by
        intro hcd
        refine rest μ1 (fun t _ _ => rfl) (fun s _ => by rw [e30]) (fun s hs => ?_) ?_
        · rw [e48, h48 s hs, d1 s]; unfold dst; rw [if_neg (fun z => hcd z.1), Int.add_zero]
        · rw [e30, h33, d2]; unfold cwt; rw [if_neg hcd, Int.add_zero]
      by_cases c0 : cp < 0
      · rw [if_pos (by rw [hcp32]; exact c0)]
        exact yes (Or.inl c0)
      · rw [if_neg (by rw [hcp32]; exact c0), gd_inb _ (by omega) (by omega) (by omega), ix_id (by omega) (by omega)]
        have hdl := dig_lt O (k := j) (p := cp.toNat) (by omega)
        have hr := ok_rw O (p := cp.toNat) (by omega)
        rw [a2.2.1 cp.toNat (by omega), w32n (by omega), w32_id (x := cr) (by omega) (by omega)]
        by_cases c1 : (dig D j cp.toNat : Int) = cr
        · rw [if_pos c1]; exact yes (Or.inr c1)
        · rw [if_neg c1]; exact no (fun z => z.elim c0 c1)
    · rw [hle.2 hw, bn_s]
      simp only [jn_u]
      rw [if_pos w32_0]
      rw [d3, lw_n hw, Int.add_zero] at rest
      refine rest μ1 (fun t _ _ => rfl) (fun s _ => by rw [e30]) (fun s hs => ?_) ?_
      · rw [e48, h48 s hs, d1 s]; unfold dst; rw [lw_n hw]; split <;> omega
      · rw [e30, h33, d2]; unfold cwt; rw [lw_n hw]; split <;> omega
theorem sumsM {D : Dt} (O : OKD D) {a cp cr : Int} (ha : -1 ≤ a ∧ a < dnp D) (hcp : -1 ≤ cp ∧ cp < dnp D) (hcr : 0 ≤ cr ∧ cr ≤ 10) {μ : Mem} (W : WM D μ) : (¬ nStuck D → f_X9_sums a cp cr μ = some (8, μ)) ∧ (nStuck D → ¬ tot D ≤ 20000 → f_X9_sums a cp cr μ = some (9, μ)) ∧ (nStuck D → tot D ≤ 20000 → ∃ μ', f_X9_sums a cp cr μ = some (if LL D ≤ 0 then 10 else 0, μ') ∧ WM D μ' ∧ (∀ s, s < 6000 → μ' 48 0 s = sm (dst D a cp cr s) (cW D)) ∧ μ' 30 0 33 = sm (cwt D cp cr) (cW D) ∧ keepS μ μ') := by
  unfold f_X9_sums
  refine ⟨fun h => ?_, fun h h2 => ?_, fun h h2 => ?_⟩
  · rw [(stuckM O W).2 h, bn_s, if_neg (show ¬ w32 1 = 0 by decide)]
  · rw [(stuckM O W).1 h, bn_s, if_pos w32_0, isGreatM O W, bn_s, if_neg h2, if_neg (show ¬ w32 1 = 0 by decide)]
  · have hcw := cW_le O
    have hL := LL_bd O
    rw [(stuckM O W).1 h, bn_s, if_pos w32_0, isGreatM O W, bn_s, if_pos h2, if_pos w32_0]
    obtain ⟨μ1, a1, a2, a3⟩ := zero48 a cp cr (fun μ11 => bn (f_X9_firstWay (st μ11 30 0 33 0)) (fun r12 μ13 => f_X9_sums_L60 a cp cr (fun y43 μ42 => (if w64 y43 = w64 0 then some (10, μ42) else some (0, μ42))) FU 0 1 μ13)) 6000 FU 0 μ (by omega) (by unfold FU; omega) (fun s hs => absurd hs (by omega))
    rw [show f_X9_sums_L23 a cp cr _ FU 0 μ = _ from a1]
    have W1 : WM D (st μ1 30 0 33 0) := WM_ext W (fun t h1 h2 => by rw [st_tag _ (by omega), a2 t (by omega)]) (fun s hs => by rw [st_nk _ (by omega), a2 30 (by decide)])
    obtain ⟨μ2, b1, b2, b3⟩ := firstM O W1
    obtain ⟨μ3, c1, c2, c3, c4, c5⟩ := sumsM_L O h h2 ha hcp hcr (fun y43 μ42 => (if w64 y43 = w64 0 then some (10, μ42) else some (0, μ42))) (cW D) FU 0 μ2 (by omega) (by unfold FU; omega) b2 (fun s hs => by rw [b3 48 (by decide) (by decide), st_nt _ (by decide), a3 s hs]; rfl) (by rw [b3 30 (by decide) (by decide), st_eq]; rfl)
    rw [if_neg (show ¬ 0 = cW D by omega)] at c1
    refine ⟨μ3, ?_, c2, c3, c4, fun t h1 h2 => ?_, fun s hs => ?_⟩
    · rw [b1, bn_s, show f_X9_sums_L60 a cp cr _ FU 0 1 μ2 = _ from c1, w64_id (x := LL D) (by omega) (by omega), show w64 0 = 0 from rfl]
      by_cases z : LL D ≤ 0
      · rw [if_pos z, if_pos (by omega)]
      · rw [if_neg z, if_neg (by omega)]
    · rw [c5.1 t h1 h2, b3 t (by omega) (by omega), st_tag _ h1, a2 t (by omega)]
    · rw [c5.2 s hs, b3 30 (by decide) (by decide), st_nk _ (by omega), a2 30 (by decide)]
