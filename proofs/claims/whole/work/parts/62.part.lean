/-! part -/
def bf (D : Nat → Int) : Nat → Int
  | 0 => -1
  | k + 1 => D k
def okr (D V : Nat → Int) (k : Nat) : Prop := bf D k < D k ∧ D k ≤ 99 ∧ 1 ≤ V k ∧ V k ≤ 1000
theorem okr_mono {D V : Nat → Int} {n : Nat} (h : ∀ k, k < n → okr D V k) : ∀ k, k < n → 0 ≤ D k ∧ ∀ j, j < k → D j < D k := by
  intro k
  induction k with
  | zero => intro hk; have := (h 0 hk).1; exact ⟨by have e : bf D 0 = -1 := rfl; omega, fun j hj => by omega⟩
  | succ k ih =>
    intro hk
    have h1 := ih (by omega)
    have h2 : D k < D (k + 1) := (h (k + 1) hk).1
    refine ⟨by omega, fun j hj => ?_⟩
    by_cases hjk : j = k
    · subst hjk; exact h2
    · have := h1.2 j (by omega); omega
theorem numAt {μ : Mem} {i k : Nat} (h : (k : Int) < μ 3 i 2) (h2 : μ 3 i 2 ≤ 40) : f_X5_numberAt i (k : Int) μ = some (μ 4 i k, μ) := by
  unfold f_X5_numberAt f_X5_has
  have e2 : w32 (μ 3 i 2) = μ 3 i 2 := w32_id (by omega) (by omega)
  rw [if_neg (by rw [w32n (by omega)]; omega), if_neg (by rw [w32n (by omega), e2]; omega), bn_s, if_neg (by decide), gd_inb _ (by omega) (by omega) (by omega), ixn (by omega)]
theorem holdsX {μ : Mem} {i r : Nat} (hr : r ≤ 8) (h1 : (2 * r : Int) ≤ μ 3 i 2) (h2 : μ 3 i 2 ≤ 40) (hI : ∀ k : Nat, (k : Int) < μ 3 i 2 → I64 (μ 4 i k)) : ∀ (e n j : Nat), e + j = r → e < n → (∀ k, k < j → okr (fun k => μ 4 i (2 * k)) (fun k => μ 4 i (2 * k + 1)) k) →
    ((∀ k, k < r → okr (fun k => μ 4 i (2 * k)) (fun k => μ 4 i (2 * k + 1)) k) → f_X5_holdsRows_L7 i r n (bf (fun k => μ 4 i (2 * k)) j) (j : Int) μ = some (1, μ)) ∧ ((¬ ∀ k, k < r → okr (fun k => μ 4 i (2 * k)) (fun k => μ 4 i (2 * k + 1)) k) → f_X5_holdsRows_L7 i r n (bf (fun k => μ 4 i (2 * k)) j) (j : Int) μ = some (0, μ)) := by
  intro e
  induction e with
  | zero =>
    intro n j he hn hj
    obtain ⟨n, rfl⟩ : ∃ q, n = q + 1 := ⟨n - 1, by omega⟩
    rw [f_X5_holdsRows_L7.eq_2, if_pos (by rw [w32n (by omega), w32n (by omega)]; omega)]
    exact ⟨fun _ => rfl, fun h => absurd (fun k hk => hj k (by omega)) h⟩
  | succ e ih =>
    intro n j he hn hj
    obtain ⟨n, rfl⟩ : ∃ q, n = q + 1 := ⟨n - 1, by omega⟩
    have i1 := hI (2 * j) (by omega)
    have i2 := hI (2 * j + 1) (by omega)
    have ib : I64 (bf (fun k => μ 4 i (2 * k)) j) := by
      cases j with
      | zero => exact (show I64 (-1) from ⟨by decide, by decide⟩)
      | succ j => exact hI (2 * j) (by omega)
    have e1 : w64 (μ 4 i (2 * j)) = μ 4 i (2 * j) := w64_id i1.1 i1.2
    have e2 : w64 (μ 4 i (2 * j + 1)) = μ 4 i (2 * j + 1) := w64_id i2.1 i2.2
    have e3 : w64 (bf (fun k => μ 4 i (2 * k)) j) = bf (fun k => μ 4 i (2 * k)) j := w64_id ib.1 ib.2
    have e4 : w64 99 = 99 := rfl
    have e5 : w64 1000 = 1000 := rfl
    have e6 : w64 1 = 1 := rfl
    rw [f_X5_holdsRows_L7.eq_2, if_neg (by rw [w32n (by omega), w32n (by omega)]; omega), show (2 * (j : Int)) = ((2 * j : Nat) : Int) by omega, numAt (by omega) h2, bn_s, show (((2 * j : Nat) : Int) + 1) = ((2 * j + 1 : Nat) : Int) by omega, numAt (by omega) h2, bn_s, show ((j : Int) + 1) = ((j + 1 : Nat) : Int) by omega]
    have bad : ¬ okr (fun k => μ 4 i (2 * k)) (fun k => μ 4 i (2 * k + 1)) j → ((∀ k, k < r → okr (fun k => μ 4 i (2 * k)) (fun k => μ 4 i (2 * k + 1)) k) → (some ((0 : Int), μ) = some (1, μ))) ∧ ((¬ ∀ k, k < r → okr (fun k => μ 4 i (2 * k)) (fun k => μ 4 i (2 * k + 1)) k) → (some ((0 : Int), μ) = some (0, μ))) := fun hb => ⟨fun h => absurd (h j (by omega)) hb, fun _ => rfl⟩
    by_cases g1 : μ 4 i (2 * j) ≤ bf (fun k => μ 4 i (2 * k)) j
    · rw [if_pos (by rw [e1, e3]; exact g1)]
      exact bad (fun h => by have := h.1; dsimp only at this; omega)
    rw [if_neg (by rw [e1, e3]; exact g1)]
    by_cases g2 : 99 < μ 4 i (2 * j)
    · rw [if_pos (by rw [e1, e4]; exact g2)]
      exact bad (fun h => by have := h.2.1; dsimp only at this; omega)
    rw [if_neg (by rw [e1, e4]; exact g2)]
    by_cases g3 : μ 4 i (2 * j + 1) < 1
    · rw [if_pos (by rw [e2, e6]; exact g3)]
      exact bad (fun h => by have := h.2.2.1; dsimp only at this; omega)
    rw [if_neg (by rw [e2, e6]; exact g3)]
    by_cases g4 : μ 4 i (2 * j + 1) ≤ 1000
    · rw [if_pos (by rw [e2, e5]; exact g4)]
      exact ih n (j + 1) (by omega) (by omega) (fun k hk => by
        by_cases hkj : k = j
        · subst hkj; exact ⟨by dsimp only; omega, by dsimp only; omega, by dsimp only; omega, g4⟩
        · exact hj k (by omega))
    · rw [if_neg (by rw [e2, e5]; exact g4)]
      exact bad (fun h => by have := h.2.2.2; dsimp only at this; omega)
theorem partX {i r : Nat} {h : Int} (hr : r ≤ 8) {dd : Nat → Nat} {V : Nat → Int} : ∀ (e n j : Nat) (μ : Mem), e + j = r → e < n → (2 * r : Int) ≤ μ 3 i 2 → μ 3 i 2 ≤ 40 → (∀ k, k < r → μ 4 i (2 * k) = (dd k : Int) ∧ dd k < 100 ∧ μ 4 i (2 * k + 1) = V k) → ∃ μ', f_X8_part_L102 r h i n (j : Int) μ = f_X8_addPart h μ' ∧ (∀ t, t ≠ 6 → μ' t = μ t) ∧ ∀ d, μ' 6 0 d + sm (ad dd V d) j = μ 6 0 d + sm (ad dd V d) r := by
  intro e
  induction e with
  | zero =>
    intro n j μ he hn h1 h2 hk
    obtain ⟨n, rfl⟩ : ∃ q, n = q + 1 := ⟨n - 1, by omega⟩
    refine ⟨μ, ?_, fun _ _ => rfl, fun d => by rw [show j = r by omega]⟩
    rw [f_X8_part_L102.eq_2, if_pos (by rw [w32n (by omega), w32n (by omega)]; omega), bn_id]
  | succ e ih =>
    intro n j μ he hn h1 h2 hk
    obtain ⟨n, rfl⟩ : ∃ q, n = q + 1 := ⟨n - 1, by omega⟩
    obtain ⟨k1, k2, k3⟩ := hk j (by omega)
    obtain ⟨μ', a1, a2, a3⟩ := ih n (j + 1) (st μ 6 0 (dd j) (μ 6 0 (dd j) + V j)) (by omega) (by omega) (by rw [st_nt _ (by decide)]; exact h1) (by rw [st_nt _ (by decide)]; exact h2) (fun k hk' => by rw [st_nt _ (by decide), st_nt _ (by decide)]; exact hk k hk')
    refine ⟨μ', ?_, fun t ht => by rw [a2 t ht, st_tag _ ht], fun d => ?_⟩
    · rw [f_X8_part_L102.eq_2, if_neg (by rw [w32n (by omega), w32n (by omega)]; omega), show (2 * (j : Int)) = ((2 * j : Nat) : Int) by omega, numAt (by omega) h2, bn_s, show (((2 * j : Nat) : Int) + 1) = ((2 * j + 1 : Nat) : Int) by omega, numAt (by omega) h2, bn_s, k1, k3, addX (by omega), bn_s, show ((j : Int) + 1) = ((j + 1 : Nat) : Int) by omega]
      exact a1
    · have := a3 d
      have e1 : sm (ad dd V d) (j + 1) = sm (ad dd V d) j + ad dd V d j := rfl
      rw [e1] at this
      by_cases hd : dd j = d
      · subst hd
        rw [st_eq] at this
        have e2 : ad dd V (dd j) j = V j := if_pos rfl
        omega
      · rw [st_nk _ (Ne.symm hd)] at this
        have e2 : ad dd V d j = 0 := if_neg hd
        omega
theorem partM {p r : Nat} {h : Int} (hp : p < 4) (hr : r ≤ 8) {D V : Nat → Int} (hI : ∀ k, k < r → I64 (D k) ∧ I64 (V k)) : ∀ (e n j : Nat) (μ : Mem), e + j = r → e < n → (∀ k, k < r → μ 33 0 (40 * p + 2 * k) = D k ∧ μ 33 0 (40 * p + 2 * k + 1) = V k) → (∀ k, k < j → okr D V k) → (∀ d, d < 300 → μ 43 0 d = sm (ad (fun k => (D k).toNat) V d) j) →
    ∃ μ', (∀ t, t ≠ 43 → μ' t = μ t) ∧ ((∀ k, k < r → okr D V k) → f_X9_part_L77 p r h n (bf D j) (j : Int) μ = f_X9_adds h μ' ∧ ∀ d, d < 300 → μ' 43 0 d = sm (ad (fun k => (D k).toNat) V d) r) ∧ ((¬ ∀ k, k < r → okr D V k) → f_X9_part_L77 p r h n (bf D j) (j : Int) μ = some (-1, st μ' 30 0 0 5)) := by
  intro e
  induction e with
  | zero =>
    intro n j μ he hn hk hj h43
    obtain ⟨n, rfl⟩ : ∃ q, n = q + 1 := ⟨n - 1, by omega⟩
    refine ⟨μ, fun _ _ => rfl, fun _ => ⟨?_, fun d hd => by rw [h43 d hd, show j = r by omega]⟩, fun h => absurd (fun k hk => hj k (by omega)) h⟩
    rw [f_X9_part_L77.eq_2, if_pos (by rw [w32n (by omega), w32n (by omega)]; omega), bn_id]
  | succ e ih =>
    intro n j μ he hn hk hj h43
    obtain ⟨n, rfl⟩ : ∃ q, n = q + 1 := ⟨n - 1, by omega⟩
    obtain ⟨k1, k2⟩ := hk j (by omega)
    have i1 := (hI j (by omega)).1
    have i2 := (hI j (by omega)).2
    have ib : I64 (bf D j) := by
      cases j with
      | zero => exact (show I64 (-1) from ⟨by decide, by decide⟩)
      | succ j => exact (hI j (by omega)).1
    have e1 : w64 (D j) = D j := w64_id i1.1 i1.2
    have e2 : w64 (V j) = V j := w64_id i2.1 i2.2
    have e3 : w64 (bf D j) = bf D j := w64_id ib.1 ib.2
    have e4 : w64 99 = 99 := rfl
    have e5 : w64 1000 = 1000 := rfl
    have e6 : w64 1 = 1 := rfl
    rw [f_X9_part_L77.eq_2, if_neg (by rw [w32n (by omega), w32n (by omega)]; omega), gd_inb _ (by omega) (by omega) (by omega), gd_inb _ (by omega) (by omega) (by omega), show (40 * (p : Int) + 2 * (j : Int)) = ((40 * p + 2 * j : Nat) : Int) by omega, show (((40 * p + 2 * j : Nat) : Int) + 1) = ((40 * p + 2 * j + 1 : Nat) : Int) by omega, ixn (by omega), ixn (by omega), k1, k2, show ((j : Int) + 1) = ((j + 1 : Nat) : Int) by omega]
    simp only [f_X9_refuse, bn_s]
    have bad : ¬ okr D V j → ∃ μ', (∀ t, t ≠ 43 → μ' t = μ t) ∧ ((∀ k, k < r → okr D V k) → (some (-1, st μ 30 0 0 5) = f_X9_adds h μ' ∧ ∀ d, d < 300 → μ' 43 0 d = sm (ad (fun k => (D k).toNat) V d) r)) ∧ ((¬ ∀ k, k < r → okr D V k) → (some ((-1 : Int), st μ 30 0 0 5) = some (-1, st μ' 30 0 0 5))) := fun hb => ⟨μ, fun _ _ => rfl, fun h => absurd (h j (by omega)) hb, fun _ => rfl⟩
    by_cases g1 : D j ≤ bf D j
    · rw [if_pos (by rw [e1, e3]; exact g1)]
      exact bad (fun h => by have := h.1; omega)
    rw [if_neg (by rw [e1, e3]; exact g1)]
    by_cases g2 : 99 < D j
    · rw [if_pos (by rw [e1, e4]; exact g2)]
      exact bad (fun h => by have := h.2.1; omega)
    rw [if_neg (by rw [e1, e4]; exact g2)]
    by_cases g3 : V j < 1
    · rw [if_pos (by rw [e2, e6]; exact g3)]
      exact bad (fun h => by have := h.2.2.1; omega)
    rw [if_neg (by rw [e2, e6]; exact g3)]
    by_cases g4 : V j ≤ 1000
    · rw [if_pos (by rw [e2, e5]; exact g4)]
      have hj' : ∀ k, k < j + 1 → okr D V k := fun k hk => by
        by_cases hkj : k = j
        · subst hkj; exact ⟨by omega, by omega, by omega, g4⟩
        · exact hj k (by omega)
      have mono := okr_mono hj'
      have m1 := mono j (by omega)
      rw [gd_inb _ m1.1 (by omega) (by omega), ix_id m1.1 (by omega)]
      obtain ⟨μ', a1, a2, a3⟩ := ih n (j + 1) (st μ 43 0 (D j).toNat (V j)) (by omega) (by omega) (fun k hk' => by rw [st_nt _ (by decide), st_nt _ (by decide)]; exact hk k hk') hj' (fun d hd => by
        show _ = sm (ad (fun k => (D k).toNat) V d) j + ad (fun k => (D k).toNat) V d j
        by_cases hdj : d = (D j).toNat
        · subst hdj
          have z : sm (ad (fun k => (D k).toNat) V (D j).toNat) j = 0 := sm_zero _ (fun k hk' => if_neg (show ¬ (D k).toNat = (D j).toNat by have := m1.2 k hk'; have := (mono k (by omega)).1; omega))
          have z2 : ad (fun k => (D k).toNat) V (D j).toNat j = V j := if_pos rfl
          rw [st_eq, z, z2]; omega
        · have z2 : ad (fun k => (D k).toNat) V d j = 0 := if_neg (Ne.symm hdj)
          rw [st_nk _ hdj, h43 d hd, z2]; omega)
      exact ⟨μ', fun t ht => by rw [a1 t ht, st_tag _ ht], a2, a3⟩
    · rw [if_neg (by rw [e2, e5]; exact g4)]
      exact bad (fun h => by have := h.2.2.2; omega)
set_option maxHeartbeats 4000000 in
theorem op_part {μx μm : Mem} (R : Rel μx μm) {a b h : Int} (ha : I32 a) (hb : I32 b) (hh : I32 h) : Step (f_X8_part a b h μx) (f_X9_part a b h μm) := by
  unfold f_X8_part f_X9_part f_X9_trayed
  have wa := wr ha
  have wb := wr hb
  have e4 : w32 4 = 4 := rfl
  have e8 : w32 8 = 8 := rfl
  have e1 : w32 1 = 1 := rfl
  by_cases hp : 0 ≤ a ∧ a < 4
  · rw [isT_t ha hp.1 hp.2, bn_s, if_neg (by decide), if_neg (show ¬ w32 a < 0 by omega), if_pos (show w32 a < w32 4 by omega)]
    obtain ⟨p, rfl⟩ := natOf hp.1
    have hp4 : p < 4 := by omega
    rw [gd_inb _ (by omega) (by omega) (by omega), gd_inb _ (by omega) (by omega) (by omega), ixn (by omega), st_nt _ (by decide)]
    rcases R.2.2.1 p hp4 with ⟨h1, h2⟩ | ⟨h1, h2, h3, h4, h5, h6, h7⟩
    · rw [miss_t h1, bn_s, if_neg (by decide), h2, if_neg (by decide), bn_s, st_eq, if_neg (by decide)]
      simp only [f_X8_refuseNumber, bn_s]
      exact Step_mk rfl (Rel_pl R 3)
    · have ep : w32 (μm 32 0 p) = μm 32 0 p := w32_id (by omega) (by omega)
      rw [miss_f h1 h2, bn_s, if_pos w32_0, if_pos (show 0 ≤ w32 (μm 32 0 p) by omega), bn_s, st_eq, if_pos (show w32 0 ≤ 0 by decide), m0_def]
      have ws : ∀ v, Step (some (-1, st μx 0 0 0 v)) (some (-1, st (m0 μm) 30 0 0 v)) := fun v => ⟨_, _, _, rfl, rfl, Rel_rf R v⟩
      simp only [f_X8_refuseNumber, f_X9_refuse, bn_s, bn_id]
      by_cases g1 : b < 1
      · rw [if_pos (by omega), if_pos (by omega)]; exact ws 5
      rw [if_neg (show ¬ w32 b < w32 1 by omega), if_neg (show ¬ w32 b < w32 1 by omega)]
      by_cases g2 : 8 < b
      · rw [if_pos (by omega), if_pos (by omega)]; exact ws 5
      rw [if_neg (show ¬ w32 8 < w32 b by omega), if_neg (show ¬ w32 8 < w32 b by omega)]
      by_cases g5 : 0 ≤ h ∧ h ≤ 9
      · rw [(handsX hh).1 g5, (handsM hh).1 g5, bn_s, bn_s]
        simp only [w1z, if_false]
        obtain ⟨r, rfl⟩ := natOf (a := b) (by omega)
        have i0 : I32 0 := ⟨by decide, by decide⟩
        have i2 : I32 (2 * (r : Int)) := ⟨by omega, by omega⟩
        have w2 : w32 (2 * (r : Int)) = 2 * r := wr i2
        rw [gd_inb _ (by omega) (by omega) (by omega), m0_tag _ (by decide)]
        by_cases g6 : 2 * (r : Int) ≤ μm 32 0 p
        · rw [hasRun_t i0 i2 (by omega) (by omega) (by omega) (by omega), bn_s, if_neg (by decide), if_pos (show w32 (2 * (r : Int)) ≤ w32 (μm 32 0 p) by omega), clrM, bn_s]
          have hI : ∀ k : Nat, (k : Int) < μx 3 p 2 → I64 (μx 4 p k) := fun k hk => (h7 k (by omega)).2
          obtain ⟨x1, x2⟩ := holdsX (μ := μx) (i := p) (r := r) (by omega) (by omega) (by omega) hI r FU 0 (by omega) (by unfold FU; omega) (fun k hk => by omega)
          have gm : ∀ t, t ≠ 30 → t ≠ 43 → fl_ (m0 μm) 43 0 300 0 t = μm t := fun t h1 h2 => by rw [fl_tag _ h2, m0_tag _ h1]
          obtain ⟨μ3, c1, c2, c3⟩ := partM (p := p) (r := r) (h := h) hp4 (by omega) (D := fun k => μx 4 p (2 * k)) (V := fun k => μx 4 p (2 * k + 1)) (fun k hk => ⟨hI _ (by omega), hI _ (by omega)⟩) r FU 0 (fl_ (m0 μm) 43 0 300 0) (by omega) (by unfold FU; omega) (fun k hk => by
            rw [gm 33 (by decide) (by decide)]
            exact ⟨(h7 (2 * k) (by omega)).1.symm, (h7 (2 * k + 1) (by omega)).1.symm⟩) (fun k hk => by omega) (fun d hd => by rw [fl_in _ hd]; rfl)
          unfold f_X5_holdsRows
          by_cases hall : ∀ k, k < r → okr (fun k => μx 4 p (2 * k)) (fun k => μx 4 p (2 * k + 1)) k
          · rw [show f_X5_holdsRows_L7 p (r : Int) FU (-1) 0 μx = _ from x1 hall, bn_s, if_neg (by decide), emptyX, bn_s]
            obtain ⟨c4, c5⟩ := c2 hall
            rw [show f_X9_part_L77 (p : Int) r h FU (-1) 0 _ = _ from c4]
            have mono := okr_mono hall
            have f3 : fl_ μx 6 0 199 0 3 = μx 3 := fl_tag _ (by decide)
            have f4 : fl_ μx 6 0 199 0 4 = μx 4 := fl_tag _ (by decide)
            obtain ⟨μ1, a1, a2, a3⟩ := partX (i := p) (r := r) (h := h) (by omega) (dd := fun k => (μx 4 p (2 * k)).toNat) (V := fun k => μx 4 p (2 * k + 1)) r FU 0 (fl_ μx 6 0 199 0) (by omega) (by unfold FU; omega) (by rw [f3]; omega) (by rw [f3]; omega) (fun k hk => by
              rw [f4]
              have m1 := (mono k hk).1
              have m2 := (hall k hk).2.1
              dsimp only at m1 m2 ⊢
              exact ⟨by omega, by omega, rfl⟩)
            rw [show f_X8_part_L102 (r : Int) h p FU 0 _ = _ from a1]
            have B1 : ∀ k, k < r → 0 ≤ μx 4 p (2 * k + 1) ∧ μx 4 p (2 * k + 1) ≤ 1000 := fun k hk => by
              have m1 := (hall k hk).2.2
              dsimp only at m1
              omega
            refine adds_step R (S := fun d => sm (ad (fun k => (μx 4 p (2 * k)).toNat) (fun k => μx 4 p (2 * k + 1)) d) r) (fun t ht => ?_) (fun t h30 h43 => ?_) (fun k k0 k1 => ?_) ?_ (fun d => ?_) (fun d hd => ?_) (fun d hd => ?_) (fun d hd => ?_) ⟨(μx 4 p (2 * 0)).toNat, ?_, ?_⟩ g5
            · rw [a2 t ht, fl_tag _ ht]
            · rw [c1 t h43, gm t h30 h43]
            · rw [c1 30 (by decide), fl_tag _ (by decide), m0_k _ ⟨k0, k1⟩]
            · rw [c1 30 (by decide), fl_tag _ (by decide), m0_0]
            · have := ad_bd (dd := fun k => (μx 4 p (2 * k)).toNat) (by omega) B1 d
              have hr8 : (r : Int) ≤ 8 := by omega
              omega
            · have := a3 d
              rw [fl_in _ hd, show sm (ad (fun k => (μx 4 p (2 * k)).toNat) (fun k => μx 4 p (2 * k + 1)) d) 0 = 0 from rfl] at this
              omega
            · exact c5 d hd
            · exact sm_zero _ (fun k hk => if_neg (by
                have m1 := (mono k hk).1
                have m2 := (hall k hk).2.1
                dsimp only at m1 m2 ⊢
                omega))
            · have m1 := (mono 0 (by omega)).1
              have m2 := (hall 0 (by omega)).2.1
              dsimp only at m1 m2
              omega
            · have h1 := sm_ge (f := ad (fun k => (μx 4 p (2 * k)).toNat) (fun k => μx 4 p (2 * k + 1)) (μx 4 p (2 * 0)).toNat) r 0 (by omega) (fun k hk => by unfold ad; have := B1 k hk; split; exact this.1; exact Int.le_refl 0)
              have h3 : ad (fun k => (μx 4 p (2 * k)).toNat) (fun k => μx 4 p (2 * k + 1)) (μx 4 p (2 * 0)).toNat 0 = μx 4 p (2 * 0 + 1) := if_pos rfl
              have m2 := (hall 0 (by omega)).2.2.1
              dsimp only at m2
              omega
          · rw [show f_X5_holdsRows_L7 p (r : Int) FU (-1) 0 μx = _ from x2 hall, bn_s, if_pos w32_0]
            rw [show f_X9_part_L77 (p : Int) r h FU (-1) 0 _ = _ from c3 hall]
            refine Step_mk rfl (Rel_ext2 R (fun t ht => ?_) (fun t ht => ?_) (fun k hk => ?_) ?_)
            · rw [st_tag _ (by omega)]
            · rw [st_tag _ (by omega), c1 t (by omega), gm t (by omega) (by omega)]
            · rw [st_nk _ (by omega), c1 30 (by decide), fl_tag _ (by decide), m0_k _ (by omega)]
            · rw [st_eq, st_eq]
        · rw [hasRun_f i0 i2 (by omega) (by omega) (by omega) (by omega), bn_s, if_pos w32_0, if_neg (show ¬ w32 (2 * (r : Int)) ≤ w32 (μm 32 0 p) by omega)]
          exact ws 4
      · rw [(handsX hh).2 g5, (handsM hh).2 g5, bn_s, bn_s, if_pos w32_0, if_pos w32_0]
        exact ws 5
  · rw [isT_f ha hp, bn_s, if_pos w32_0]
    simp only [f_X8_refuseNumber, bn_s]
    by_cases h1 : a < 0
    · rw [if_pos (by omega), bn_s, st_eq, if_neg (by decide)]
      exact Step_mk rfl (Rel_pl R 1)
    · rw [if_neg (show ¬ w32 a < 0 by omega), if_neg (show ¬ w32 a < w32 4 by omega), bn_s, st_eq, if_neg (by decide)]
      exact Step_mk rfl (Rel_pl R 1)
