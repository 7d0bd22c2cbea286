/-! part, fixed, either, again -/
theorem sm_bd {f : Nat → Int} {B : Int} : ∀ n, (∀ k, k < n → 0 ≤ f k ∧ f k ≤ B) → 0 ≤ sm f n ∧ sm f n ≤ B * n := by
  intro n
  induction n with
  | zero => intro _; exact ⟨Int.le_refl 0, by simp [sm]⟩
  | succ n ih =>
    intro h
    have h1 := ih (fun k hk => h k (by omega))
    have h2 := h n (by omega)
    have e : B * ((n + 1 : Nat) : Int) = B * n + B := by rw [show ((n + 1 : Nat) : Int) = (n : Int) + 1 by omega, Int.mul_add, Int.mul_one]
    show 0 ≤ sm f n + f n ∧ sm f n + f n ≤ _
    rw [e]
    omega
theorem sm_ge {f : Nat → Int} : ∀ n j, j < n → (∀ k, k < n → 0 ≤ f k) → f j ≤ sm f n := by
  intro n
  induction n with
  | zero => intro j h; omega
  | succ n ih =>
    intro j hj h
    show f j ≤ sm f n + f n
    have h3 : 0 ≤ sm f n := by
      have : ∀ m, m ≤ n → 0 ≤ sm f m := by
        intro m
        induction m with
        | zero => intro _; exact Int.le_refl 0
        | succ m ihm => intro hm; have := ihm (by omega); have := h m (by omega); show 0 ≤ sm f m + f m; omega
      exact this n (Nat.le_refl _)
    by_cases hjn : j = n
    · subst hjn; omega
    · have := ih j (by omega) (fun k hk => h k (by omega))
      have := h n (by omega)
      omega
theorem sm_zero {f : Nat → Int} : ∀ n, (∀ k, k < n → f k = 0) → sm f n = 0 := by
  intro n
  induction n with
  | zero => intro _; rfl
  | succ n ih => intro h; show sm f n + f n = 0; rw [ih (fun k hk => h k (by omega)), h n (by omega)]; rfl
theorem sm_add (f g : Nat → Int) : ∀ n, sm (fun k => f k + g k) n = sm f n + sm g n := by
  intro n
  induction n with
  | zero => rfl
  | succ n ih => show sm (fun k => f k + g k) n + (f n + g n) = (sm f n + f n) + (sm g n + g n); rw [ih]; omega
/-- what a row adds to a table -/
def ad (dd : Nat → Nat) (ww : Nat → Int) (d k : Nat) : Int := if dd k = d then ww k else 0
theorem addX {μ : Mem} {d : Nat} {w : Int} (hd : d < 199) : f_X3_add (d : Int) w μ = some (0, st μ 6 0 d (μ 6 0 d + w)) := by
  unfold f_X3_add
  rw [if_neg (by rw [w32n (by omega)]; omega), if_neg (by rw [w32n (by omega), w32n (by omega)]; omega), gd_inb _ (by omega) (by omega) (by omega), gd_inb _ (by omega) (by omega) (by omega), ixn (by omega)]
theorem once_L {q : Nat} {tm : Int} {dd : Nat → Nat} {ww : Nat → Int} {r : Nat} (hr : r ≤ 8) : ∀ (e n j : Nat) (μ : Mem), e + j = r → e < n → μ 17 q 3 = (r : Int) → (∀ k, k < r → μ 18 q k = (dd k : Int) ∧ dd k < 199 ∧ μ 19 q k = ww k ∧ I32 (ww k)) → ∃ μ', f_X3_addOnce_L3 q tm n (j : Int) μ = some (0, μ') ∧ (∀ t, t ≠ 6 → μ' t = μ t) ∧ ∀ d, μ' 6 0 d + sm (ad dd (fun k => tm * ww k) d) j = μ 6 0 d + sm (ad dd (fun k => tm * ww k) d) r := by
  intro e
  induction e with
  | zero =>
    intro n j μ he hn h3 hk
    obtain ⟨n, rfl⟩ : ∃ q, n = q + 1 := ⟨n - 1, by omega⟩
    refine ⟨μ, ?_, fun _ _ => rfl, fun d => by rw [show j = r by omega]⟩
    rw [f_X3_addOnce_L3.eq_2, if_pos (by rw [h3, w32n (by omega), w32n (by omega)]; omega)]
  | succ e ih =>
    intro n j μ he hn h3 hk
    obtain ⟨n, rfl⟩ : ∃ q, n = q + 1 := ⟨n - 1, by omega⟩
    obtain ⟨k1, k2, k3, k4⟩ := hk j (by omega)
    obtain ⟨μ', a1, a2, a3⟩ := ih n (j + 1) (st μ 6 0 (dd j) (μ 6 0 (dd j) + tm * ww j)) (by omega) (by omega) (by rw [st_nt _ (by decide)]; exact h3) (fun k hk' => by rw [st_nt _ (by decide), st_nt _ (by decide)]; exact hk k hk')
    refine ⟨μ', ?_, fun t ht => by rw [a2 t ht, st_tag _ ht], fun d => ?_⟩
    · rw [f_X3_addOnce_L3.eq_2, if_neg (by rw [h3, w32n (by omega), w32n (by omega)]; omega), gd_inb _ (by omega) (by omega) (by omega), gd_inb _ (by omega) (by omega) (by omega), ixn (by omega), k1, k3, wr k4, addX k2, bn_s, show ((j : Int) + 1) = ((j + 1 : Nat) : Int) by omega]
      exact a1
    · have := a3 d
      have e1 : sm (ad dd (fun k => tm * ww k) d) (j + 1) = sm (ad dd (fun k => tm * ww k) d) j + ad dd (fun k => tm * ww k) d j := rfl
      rw [e1] at this
      by_cases hd : dd j = d
      · subst hd
        rw [st_eq] at this
        have e2 : ad dd (fun k => tm * ww k) (dd j) j = tm * ww j := if_pos rfl
        omega
      · rw [st_nk _ (Ne.symm hd)] at this
        have e2 : ad dd (fun k => tm * ww k) d j = 0 := if_neg hd
        omega
theorem onceX {q : Nat} {tm : Int} {dd : Nat → Nat} {ww : Nat → Int} {r : Nat} (hr : r ≤ 8) {μ : Mem} (h3 : μ 17 q 3 = (r : Int)) (hk : ∀ k, k < r → μ 18 q k = (dd k : Int) ∧ dd k < 199 ∧ μ 19 q k = ww k ∧ I32 (ww k)) : ∃ μ', f_X3_addOnce q tm μ = some (0, μ') ∧ (∀ t, t ≠ 6 → μ' t = μ t) ∧ ∀ d, μ' 6 0 d = μ 6 0 d + sm (ad dd (fun k => tm * ww k) d) r := by
  obtain ⟨μ', a1, a2, a3⟩ := once_L (tm := tm) hr r FU 0 μ (by omega) (by unfold FU; omega) h3 hk
  exact ⟨μ', a1, a2, fun d => by have := a3 d; rw [show sm (ad dd (fun k => tm * ww k) d) 0 = 0 from rfl] at this; omega⟩
theorem twice_i {q k0 : Nat} {tm : Int} {dd : Nat → Nat} {ww : Nat → Int} {r : Nat} (k68 : Mem → Option (Int × Mem)) (hr : r ≤ 8) (hk0 : k0 < r) : ∀ (e n j : Nat) (μ : Mem), e + j = r → e < n → μ 17 q 3 = (r : Int) → (∀ k, k < r → μ 18 q k = (dd k : Int) ∧ dd k < 100 ∧ μ 19 q k = ww k ∧ I32 (ww k)) → ∃ μ', f_X3_addTwice_L15 q tm (k0 : Int) k68 n (j : Int) μ = k68 μ' ∧ (∀ t, t ≠ 6 → μ' t = μ t) ∧ ∀ d, μ' 6 0 d + sm (ad (fun m => dd k0 + dd m) (fun m => tm * ww k0 * ww m) d) j = μ 6 0 d + sm (ad (fun m => dd k0 + dd m) (fun m => tm * ww k0 * ww m) d) r := by
  intro e
  induction e with
  | zero =>
    intro n j μ he hn h3 hk
    obtain ⟨n, rfl⟩ : ∃ q, n = q + 1 := ⟨n - 1, by omega⟩
    refine ⟨μ, ?_, fun _ _ => rfl, fun d => by rw [show j = r by omega]⟩
    rw [f_X3_addTwice_L15.eq_2, if_pos (by rw [h3, w32n (by omega), w32n (by omega)]; omega)]
  | succ e ih =>
    intro n j μ he hn h3 hk
    obtain ⟨n, rfl⟩ : ∃ q, n = q + 1 := ⟨n - 1, by omega⟩
    obtain ⟨k1, k2, k3, k4⟩ := hk j (by omega)
    obtain ⟨l1, l2, l3, l4⟩ := hk k0 hk0
    obtain ⟨μ', a1, a2, a3⟩ := ih n (j + 1) (st μ 6 0 (dd k0 + dd j) (μ 6 0 (dd k0 + dd j) + tm * ww k0 * ww j)) (by omega) (by omega) (by rw [st_nt _ (by decide)]; exact h3) (fun k hk' => by rw [st_nt _ (by decide), st_nt _ (by decide)]; exact hk k hk')
    refine ⟨μ', ?_, fun t ht => by rw [a2 t ht, st_tag _ ht], fun d => ?_⟩
    · rw [f_X3_addTwice_L15.eq_2, if_neg (by rw [h3, w32n (by omega), w32n (by omega)]; omega), gd_inb _ (by omega) (by omega) (by omega), gd_inb _ (by omega) (by omega) (by omega), gd_inb _ (by omega) (by omega) (by omega), gd_inb _ (by omega) (by omega) (by omega), ixn (by omega), ixn (by omega), k1, k3, l1, l3, wr k4, wr l4, show ((dd k0 : Int) + dd j) = ((dd k0 + dd j : Nat) : Int) by omega, addX (by omega), bn_s, show ((j : Int) + 1) = ((j + 1 : Nat) : Int) by omega]
      exact a1
    · have := a3 d
      have e1 : sm (ad (fun m => dd k0 + dd m) (fun m => tm * ww k0 * ww m) d) (j + 1) = sm (ad (fun m => dd k0 + dd m) (fun m => tm * ww k0 * ww m) d) j + ad (fun m => dd k0 + dd m) (fun m => tm * ww k0 * ww m) d j := rfl
      rw [e1] at this
      by_cases hd : dd k0 + dd j = d
      · subst hd
        rw [st_eq] at this
        have e2 : ad (fun m => dd k0 + dd m) (fun m => tm * ww k0 * ww m) (dd k0 + dd j) j = tm * ww k0 * ww j := if_pos rfl
        omega
      · rw [st_nk _ (Ne.symm hd)] at this
        have e2 : ad (fun m => dd k0 + dd m) (fun m => tm * ww k0 * ww m) d j = 0 := if_neg hd
        omega
def ad2 (dd : Nat → Nat) (tm : Int) (ww : Nat → Int) (r d k : Nat) : Int := sm (ad (fun m => dd k + dd m) (fun m => tm * ww k * ww m) d) r
theorem twice_L {q : Nat} {tm : Int} {dd : Nat → Nat} {ww : Nat → Int} {r : Nat} (hr : r ≤ 8) : ∀ (e n j : Nat) (μ : Mem), e + j = r → e < n → μ 17 q 3 = (r : Int) → (∀ k, k < r → μ 18 q k = (dd k : Int) ∧ dd k < 100 ∧ μ 19 q k = ww k ∧ I32 (ww k)) → ∃ μ', f_X3_addTwice_L3 q tm n (j : Int) μ = some (0, μ') ∧ (∀ t, t ≠ 6 → μ' t = μ t) ∧ ∀ d, μ' 6 0 d + sm (ad2 dd tm ww r d) j = μ 6 0 d + sm (ad2 dd tm ww r d) r := by
  intro e
  induction e with
  | zero =>
    intro n j μ he hn h3 hk
    obtain ⟨n, rfl⟩ : ∃ q, n = q + 1 := ⟨n - 1, by omega⟩
    refine ⟨μ, ?_, fun _ _ => rfl, fun d => by rw [show j = r by omega]⟩
    rw [f_X3_addTwice_L3.eq_2, if_pos (by rw [h3, w32n (by omega), w32n (by omega)]; omega)]
  | succ e ih =>
    intro n j μ he hn h3 hk
    obtain ⟨n, rfl⟩ : ∃ q, n = q + 1 := ⟨n - 1, by omega⟩
    obtain ⟨μ1, c1, c2, c3⟩ := twice_i (tm := tm) (fun μ10 => f_X3_addTwice_L3 q tm n ((j : Int) + 1) μ10) hr (show j < r by omega) r FU 0 μ (by omega) (by unfold FU; omega) h3 hk
    obtain ⟨μ', a1, a2, a3⟩ := ih n (j + 1) μ1 (by omega) (by omega) (by rw [c2 17 (by decide)]; exact h3) (fun k hk' => by rw [c2 18 (by decide), c2 19 (by decide)]; exact hk k hk')
    refine ⟨μ', ?_, fun t ht => by rw [a2 t ht, c2 t ht], fun d => ?_⟩
    · rw [f_X3_addTwice_L3.eq_2, if_neg (by rw [h3, w32n (by omega), w32n (by omega)]; omega)]
      rw [show f_X3_addTwice_L15 q tm (j : Int) (fun μ10 => f_X3_addTwice_L3 q tm n ((j : Int) + 1) μ10) FU 0 μ = _ from c1, show ((j : Int) + 1) = ((j + 1 : Nat) : Int) by omega]
      exact a1
    · have h1 := a3 d
      have h2 := c3 d
      have e1 : sm (ad2 dd tm ww r d) (j + 1) = sm (ad2 dd tm ww r d) j + ad2 dd tm ww r d j := rfl
      have e2 : sm (ad (fun m => dd j + dd m) (fun m => tm * ww j * ww m) d) 0 = 0 := rfl
      have e3 : ad2 dd tm ww r d j = sm (ad (fun m => dd j + dd m) (fun m => tm * ww j * ww m) d) r := rfl
      omega
theorem twiceX {q : Nat} {tm : Int} {dd : Nat → Nat} {ww : Nat → Int} {r : Nat} (hr : r ≤ 8) {μ : Mem} (h3 : μ 17 q 3 = (r : Int)) (hk : ∀ k, k < r → μ 18 q k = (dd k : Int) ∧ dd k < 100 ∧ μ 19 q k = ww k ∧ I32 (ww k)) : ∃ μ', f_X3_addTwice q tm μ = some (0, μ') ∧ (∀ t, t ≠ 6 → μ' t = μ t) ∧ ∀ d, μ' 6 0 d = μ 6 0 d + sm (ad2 dd tm ww r d) r := by
  obtain ⟨μ', a1, a2, a3⟩ := twice_L (tm := tm) hr r FU 0 μ (by omega) (by unfold FU; omega) h3 hk
  exact ⟨μ', a1, a2, fun d => by have := a3 d; rw [show sm (ad2 dd tm ww r d) 0 = 0 from rfl] at this; omega⟩
theorem emptyX (μ : Mem) : f_X3_empty μ = some (0, fl_ μ 6 0 199 0) := by
  unfold f_X3_empty
  rw [fillL _ _ _ _ _ (by omega), bn_s]
theorem handsX {μ : Mem} {a : Int} (ha : I32 a) : (0 ≤ a ∧ a ≤ 9 → f_X8_arePartHands a μ = some (1, μ)) ∧ (¬ (0 ≤ a ∧ a ≤ 9) → f_X8_arePartHands a μ = some (0, μ)) := by
  unfold f_X8_arePartHands
  have e := wr ha
  have e9 : w32 9 = 9 := rfl
  constructor
  · intro h; rw [if_neg (by omega), if_neg (by omega)]
  · intro h
    by_cases h0 : a < 0
    · rw [if_pos (by omega)]
    · rw [if_neg (by omega), if_pos (by omega)]
theorem handsM {μ : Mem} {a : Int} (ha : I32 a) : (0 ≤ a ∧ a ≤ 9 → f_X9_areHands a μ = some (1, μ)) ∧ (¬ (0 ≤ a ∧ a ≤ 9) → f_X9_areHands a μ = some (0, μ)) := by
  unfold f_X9_areHands
  have e := wr ha
  have e9 : w32 9 = 9 := rfl
  constructor
  · intro h; rw [if_neg (by omega), if_neg (by omega)]
  · intro h
    by_cases h0 : a < 0
    · rw [if_pos (by omega)]
    · rw [if_neg (by omega), if_pos (by omega)]
theorem bn_id (o : Option (Int × Mem)) : bn o (fun r μ => some (r, μ)) = o := by
  cases o with
  | none => rfl
  | some q => rfl
theorem op_fixed {μx μm : Mem} (R : Rel μx μm) {a b : Int} (ha : I32 a) (hb : I32 b) : Step (f_X8_fixed a b μx) (f_X9_fixed a b μm) := by
  unfold f_X8_fixed f_X9_fixed
  rw [m0_def]
  have ws : ∀ v, Step (some (-1, st μx 0 0 0 v)) (some (-1, st (m0 μm) 30 0 0 v)) := fun v => ⟨_, _, _, rfl, rfl, Rel_rf R v⟩
  have wa := wr ha
  have e99 : w32 99 = 99 := rfl
  simp only [f_X8_refuseNumber, f_X9_refuse, bn_s, bn_id]
  by_cases h1 : a < 0
  · rw [if_pos (by omega), if_pos (by omega)]; exact ws 5
  · rw [if_neg (show ¬ w32 a < 0 by omega), if_neg (show ¬ w32 a < 0 by omega)]
    by_cases h2 : 99 < a
    · rw [if_pos (by omega), if_pos (by omega)]; exact ws 5
    · rw [if_neg (show ¬ w32 99 < w32 a by omega), if_neg (show ¬ w32 99 < w32 a by omega)]
      by_cases h3 : 0 ≤ b ∧ b ≤ 9
      · rw [(handsX hb).1 h3, (handsM hb).1 h3, bn_s, bn_s, if_neg (by decide), if_neg (by decide), emptyX, bn_s, clrM, bn_s]
        obtain ⟨d, rfl⟩ := natOf (a := a) (by omega)
        rw [addX (by omega), bn_s, gd_inb _ (by omega) (by omega) (by omega), ixn (by omega), fl_in _ (by omega)]
        refine adds_step R (S := fun q => if q = d then 1 else 0) (fun t ht => ?_) (fun t h30 h43 => ?_) (fun k k0 k1 => ?_) ?_ (fun q => ?_) (fun q hq => ?_) (fun q hq => ?_) (fun q hq => ?_) ⟨d, by omega, ?_⟩ h3
        · rw [st_tag _ ht, fl_tag _ ht]
        · rw [st_tag _ h43, fl_tag _ h43, m0_tag _ h30]
        · rw [st_nt _ (by decide), fl_tag _ (by decide), m0_k _ ⟨k0, k1⟩]
        · rw [st_nt _ (by decide), fl_tag _ (by decide), m0_0]
        · try dsimp only
          split <;> omega
        · by_cases hqd : q = d
          · subst hqd; rw [st_eq]; simp
          · rw [st_nk _ hqd, fl_in _ hq, if_neg hqd]
        · by_cases hqd : q = d
          · subst hqd; rw [st_eq]; simp
          · rw [st_nk _ hqd, fl_in _ hq, if_neg hqd]
        · try dsimp only
          rw [if_neg (by omega)]
        · try dsimp only
          rw [if_pos rfl]; omega
      · rw [(handsX hb).2 h3, (handsM hb).2 h3, bn_s, bn_s, if_pos w32_0, if_pos w32_0]
        exact ws 5
