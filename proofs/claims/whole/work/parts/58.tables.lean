/-! TABLES that are being made -/
theorem Rel_ext2 {μx μm μx' μm' : Mem} (R : Rel μx μm) (hx : ∀ t, t = 1 ∨ t = 3 ∨ t = 4 ∨ t = 7 ∨ t = 9 ∨ t = 10 ∨ (15 ≤ t ∧ t ≤ 25 ∧ t ≠ 16) ∨ t = 27 ∨ t = 28 → μx' t = μx t) (hm : ∀ t, (31 ≤ t ∧ t ≤ 42) ∨ (50 ≤ t ∧ t ≤ 52) → μm' t = μm t) (hs : ∀ k, k = 2 ∨ k = 3 ∨ k = 7 ∨ k = 8 ∨ k = 9 ∨ k = 10 ∨ k = 27 → μm' 30 0 k = μm 30 0 k) (h0 : μx' 0 0 0 = μm' 30 0 0) : Rel μx' μm' := by
  obtain ⟨-, r2, r3, r4, r5, r6⟩ := R
  have hd : dt μx' = dt μx := by unfold dt; rw [hx 15 (by omega), hx 17 (by omega), hx 18 (by omega), hx 19 (by omega), hx 20 (by omega), hx 21 (by omega), hx 22 (by omega)]
  refine ⟨h0, ?_, ?_, ?_, ?_, ?_⟩
  · rw [hx 1 (by omega), hs 2 (by omega), hs 3 (by omega)]; exact r2
  · rw [hx 3 (by omega), hx 4 (by omega), hm 31 (by omega), hm 32 (by omega), hm 33 (by omega)]; exact r3
  · rw [hd, hs 7 (by omega), hs 8 (by omega), hs 9 (by omega), hs 10 (by omega), hm 34 (by omega), hm 35 (by omega), hm 36 (by omega), hm 37 (by omega), hm 38 (by omega), hm 39 (by omega), hm 40 (by omega), hm 41 (by omega), hm 42 (by omega)]; exact r4
  · rw [hx 1 (by omega), hx 23 (by omega), hx 24 (by omega), hx 25 (by omega), hx 27 (by omega), hs 27 (by omega), hm 50 (by omega), hm 51 (by omega), hm 52 (by omega)]; exact r5
  · rw [hd, hx 7 (by omega), hx 9 (by omega), hx 10 (by omega), hx 28 (by omega)]; exact r6
/-- the common divisor of the first weights; how many of them aren't 0; the day of the k-th -/
def gg (S : Nat → Int) : Nat → Int
  | 0 => 0
  | n + 1 => egcd (gg S n) (S n)
def rk (S : Nat → Int) : Nat → Nat
  | 0 => 0
  | n + 1 => rk S n + (if S n = 0 then 0 else 1)
def sel (S : Nat → Int) : Nat → Nat → Nat
  | 0, _ => 0
  | n + 1, k => if S n ≠ 0 ∧ rk S n = k then n else sel S n k
theorem egcd_comm (a b : Int) : egcd a b = egcd b a := by unfold egcd; rw [Int.gcd_comm]
theorem gg_nn (S : Nat → Int) (n : Nat) : 0 ≤ gg S n := by
  cases n with
  | zero => exact Int.le_refl 0
  | succ n => exact egcd_nn _ _
theorem gg_le {S : Nat → Int} {B : Int} (hB : 0 ≤ B) (h : ∀ d, 0 ≤ S d ∧ S d ≤ B) : ∀ n, gg S n ≤ B := by
  intro n
  induction n with
  | zero => exact hB
  | succ n ih =>
    show egcd (gg S n) (S n) ≤ B
    by_cases h0 : S n = 0
    · rw [h0, egcd_0 (gg_nn S n)]; exact ih
    · exact Int.le_trans (egcd_le (by have := h n; omega)) (h n).2
theorem gg_dvd (S : Nat → Int) : ∀ n d, d < n → gg S n ∣ S d := by
  intro n
  induction n with
  | zero => intro d h; omega
  | succ n ih =>
    intro d h
    by_cases hd : d = n
    · subst hd; exact egcd_dr _ _
    · exact Int.dvd_trans (egcd_dl _ _) (ih d (by omega))
theorem gg_pos {S : Nat → Int} {n d : Nat} (hd : d < n) (h : 0 < S d) : 0 < gg S n := by
  have h1 := gg_nn S n
  have h2 := gg_dvd S n d hd
  by_cases h0 : gg S n = 0
  · rw [h0] at h2
    have := Int.zero_dvd.mp h2
    omega
  · omega
theorem gg_ext {S : Nat → Int} {n : Nat} (h : ∀ d, n ≤ d → S d = 0) : ∀ j, gg S (n + j) = gg S n := by
  intro j
  induction j with
  | zero => rfl
  | succ j ih =>
    show egcd (gg S (n + j)) (S (n + j)) = _
    rw [h _ (by omega), egcd_0 (gg_nn S _), ih]
theorem rk_ext {S : Nat → Int} {n : Nat} (h : ∀ d, n ≤ d → S d = 0) : ∀ j, rk S (n + j) = rk S n := by
  intro j
  induction j with
  | zero => rfl
  | succ j ih =>
    show rk S (n + j) + (if S (n + j) = 0 then 0 else 1) = _
    rw [h _ (by omega), if_pos rfl, ih]; rfl
theorem sel_ext {S : Nat → Int} {n : Nat} (k : Nat) (h : ∀ d, n ≤ d → S d = 0) : ∀ j, sel S (n + j) k = sel S n k := by
  intro j
  induction j with
  | zero => rfl
  | succ j ih =>
    show (if S (n + j) ≠ 0 ∧ _ then _ else sel S (n + j) k) = _
    rw [if_neg (fun q => q.1 (h _ (by omega))), ih]
theorem rk_mono (S : Nat → Int) : ∀ n j, rk S n ≤ rk S (n + j) := by
  intro n j
  induction j with
  | zero => exact Nat.le_refl _
  | succ j ih => exact Nat.le_trans ih (Nat.le_add_right _ _)
theorem sel_lt {S : Nat → Int} : ∀ n k, k < rk S n → sel S n k < n ∧ S (sel S n k) ≠ 0 := by
  intro n
  induction n with
  | zero => intro k h; exact absurd h (Nat.not_lt_zero _)
  | succ n ih =>
    intro k h
    by_cases h1 : S n ≠ 0 ∧ rk S n = k
    · rw [show sel S (n + 1) k = n from if_pos h1]; exact ⟨by omega, h1.1⟩
    · rw [show sel S (n + 1) k = sel S n k from if_neg h1]
      have h2 : k < rk S n := by
        have h3 : k < rk S n + (if S n = 0 then 0 else 1) := h
        by_cases h0 : S n = 0
        · rw [if_pos h0] at h3; omega
        · rw [if_neg h0] at h3
          have : ¬ rk S n = k := fun q => h1 ⟨h0, q⟩
          omega
      have := ih k h2
      exact ⟨by omega, this.2⟩
/-! the common divisor: X -/
theorem makeLess_a {μ : Mem} {S : Nat → Int} (k30 : Int → Mem → Option (Int × Mem)) (hS : ∀ d, 0 ≤ S d ∧ S d ≤ 1000000000000000) (h6 : ∀ d, d < 199 → μ 6 0 d = S d) : ∀ (d n j : Nat), d + j = 199 → d < n → f_X3_makeLess_L4 k30 n (gg S j) (j : Int) μ = k30 (gg S 199) μ := by
  intro d
  induction d with
  | zero =>
    intro n j hd hn
    obtain ⟨n, rfl⟩ : ∃ q, n = q + 1 := ⟨n - 1, by omega⟩
    rw [f_X3_makeLess_L4.eq_2, if_pos (by rw [w32n (by omega), w32n (by omega)]; omega), show j = 199 by omega]
  | succ d ih =>
    intro n j hd hn
    obtain ⟨n, rfl⟩ : ∃ q, n = q + 1 := ⟨n - 1, by omega⟩
    have h1 := gg_nn S j
    have h2 := gg_le (by omega) hS j
    have h3 := hS j
    rw [f_X3_makeLess_L4.eq_2, if_neg (by rw [w32n (by omega), w32n (by omega)]; omega), gd_inb _ (by omega) (by omega) (by omega), ixn (by omega), h6 j (by omega), common_X μ h1 h3.1 (by omega) (by omega), bn_s, show ((j : Int) + 1) = ((j + 1 : Nat) : Int) by omega]
    exact ih n (j + 1) (by omega) (by omega)
theorem makeLess_b {g : Int} (hg : 0 < g) (hg2 : g ≤ 1000000000000000) {S : Nat → Int} (hS : ∀ d, 0 ≤ S d ∧ S d ≤ 1000000000000000) : ∀ (d n j : Nat) (μ : Mem), d + j = 199 → d < n → (∀ q, q < 199 → μ 6 0 q = if q < j then Int.tdiv (S q) g else S q) → ∃ μ', f_X3_makeLess_L38 g n (j : Int) μ = some (0, μ') ∧ (∀ t, t ≠ 6 → μ' t = μ t) ∧ ∀ q, q < 199 → μ' 6 0 q = Int.tdiv (S q) g := by
  intro d
  induction d with
  | zero =>
    intro n j μ hd hn h6
    obtain ⟨n, rfl⟩ : ∃ q, n = q + 1 := ⟨n - 1, by omega⟩
    refine ⟨μ, ?_, fun _ _ => rfl, fun q hq => ?_⟩
    · rw [f_X3_makeLess_L38.eq_2, if_pos (by rw [w32n (by omega), w32n (by omega)]; omega)]
    · rw [h6 q hq, if_pos (by omega)]
  | succ d ih =>
    intro n j μ hd hn h6
    obtain ⟨n, rfl⟩ : ∃ q, n = q + 1 := ⟨n - 1, by omega⟩
    have h3 := hS j
    have e1 : w64 g = g := w64_id (by omega) (by omega)
    have e2 : w64 (S j) = S j := w64_id (by omega) (by omega)
    obtain ⟨μ', a1, a2, a3⟩ := ih n (j + 1) (st μ 6 0 j (Int.tdiv (S j) g)) (by omega) (by omega) (fun q hq => by
      by_cases hqj : q = j
      · subst hqj; rw [st_eq, if_pos (by omega)]
      · rw [st_nk _ hqj, h6 q hq]
        by_cases h : q < j
        · rw [if_pos h, if_pos (by omega)]
        · rw [if_neg h, if_neg (by omega)])
    refine ⟨μ', ?_, fun t ht => by rw [a2 t ht, st_tag _ ht], a3⟩
    rw [f_X3_makeLess_L38.eq_2, if_neg (by rw [w32n (by omega), w32n (by omega)]; omega), gd_inb _ (by omega) (by omega) (by omega), gd_t _ (by rw [e1]; omega), gd_inb _ (by omega) (by omega) (by omega), ixn (by omega), h6 j (by omega), if_neg (by omega), e1, e2, show ((j : Int) + 1) = ((j + 1 : Nat) : Int) by omega, a1]
theorem makeLess {μ : Mem} {S : Nat → Int} (hS : ∀ d, 0 ≤ S d ∧ S d ≤ 1000000000000000) (h6 : ∀ d, d < 199 → μ 6 0 d = S d) (hpos : 0 < gg S 199) : ∃ μ', f_X3_makeLess μ = some (0, μ') ∧ (∀ t, t ≠ 6 → μ' t = μ t) ∧ ∀ q, q < 199 → μ' 6 0 q = Int.tdiv (S q) (gg S 199) := by
  unfold f_X3_makeLess
  rw [show ∀ k, f_X3_makeLess_L4 k FU 0 0 μ = k (gg S 199) μ from fun k => makeLess_a k hS h6 199 FU 0 (by omega) (by unfold FU; omega)]
  try dsimp only
  have hle := gg_le (by omega) hS 199
  have e1 : w64 (gg S 199) = gg S 199 := w64_id (by omega) (by omega)
  by_cases h1 : gg S 199 ≤ 1
  · rw [if_pos (by rw [e1]; exact h1)]
    refine ⟨μ, rfl, fun _ _ => rfl, fun q hq => ?_⟩
    rw [h6 q hq, show gg S 199 = 1 by omega, Int.tdiv_one]
  · rw [if_neg (by rw [e1]; exact h1)]
    exact makeLess_b hpos hle hS 199 FU 0 μ (by omega) (by unfold FU; omega) (fun q hq => by rw [h6 q hq, if_neg (by omega)])
/-! does it fit: X -/
def fitP (S : Nat → Int) (n : Nat) : Prop := ∀ d, d < n → S d ≠ 0 → d ≤ 99 ∧ S d ≤ 1000
theorem rk_le (S : Nat → Int) (n : Nat) : rk S n ≤ n := by
  induction n with
  | zero => exact Nat.le_refl 0
  | succ n ih =>
    show rk S n + _ ≤ n + 1
    split <;> omega
theorem fits_L {μ : Mem} {S : Nat → Int} (k54 : Int → Mem → Option (Int × Mem)) (hS : ∀ d, 0 ≤ S d ∧ S d ≤ 1000000000000000) (h6 : ∀ d, d < 199 → μ 6 0 d = S d) : ∀ (d n j : Nat), d + j = 199 → d < n → fitP S j → (fitP S 199 → f_X3_fits_L4 k54 n (rk S j : Nat) (j : Int) μ = k54 (rk S 199 : Nat) μ) ∧ (¬ fitP S 199 → f_X3_fits_L4 k54 n (rk S j : Nat) (j : Int) μ = some (0, μ)) := by
  intro d
  induction d with
  | zero =>
    intro n j hd hn hj
    obtain ⟨n, rfl⟩ : ∃ q, n = q + 1 := ⟨n - 1, by omega⟩
    have hj9 : j = 199 := by omega
    subst hj9
    rw [f_X3_fits_L4.eq_2, if_pos (Int.le_refl _)]
    exact ⟨fun _ => rfl, fun h => absurd hj h⟩
  | succ d ih =>
    intro n j hd hn hj
    obtain ⟨n, rfl⟩ : ∃ q, n = q + 1 := ⟨n - 1, by omega⟩
    have h3 := hS j
    have e2 : w64 (S j) = S j := w64_id (by omega) (by omega)
    have e0 : w64 0 = 0 := rfl
    have e1k : w64 1000 = 1000 := rfl
    have e99 : w32 99 = 99 := rfl
    have hrk := rk_le S j
    rw [f_X3_fits_L4.eq_2, if_neg (by rw [w32n (by omega), w32n (by omega)]; omega), gd_inb _ (by omega) (by omega) (by omega), jn_u, ixn (by omega), h6 j (by omega), show ((j : Int) + 1) = ((j + 1 : Nat) : Int) by omega]
    by_cases h0 : S j = 0
    · rw [if_pos (by rw [e2, e0]; exact h0)]
      have hr : rk S (j + 1) = rk S j := by show rk S j + _ = _; rw [if_pos h0]; rfl
      have := ih n (j + 1) (by omega) (by omega) (fun q hq hq0 => by
        by_cases hqj : q = j
        · subst hqj; exact absurd h0 hq0
        · exact hj q (by omega) hq0)
      rw [hr] at this
      exact this
    · rw [if_neg (by rw [e2, e0]; exact h0)]
      by_cases h9 : 99 < j
      · rw [if_pos (by rw [e99, w32n (by omega)]; omega)]
        exact ⟨fun h => absurd (h j (by omega) h0).1 (by omega), fun _ => rfl⟩
      · rw [if_neg (by rw [e99, w32n (by omega)]; omega), gd_inb _ (by omega) (by omega) (by omega)]
        by_cases hk : S j ≤ 1000
        · rw [if_pos (by rw [e2, e1k]; exact hk)]
          have hr : ((rk S j : Nat) : Int) + 1 = ((rk S (j + 1) : Nat) : Int) := by
            show _ = ((rk S j + _ : Nat) : Int)
            rw [if_neg h0]; omega
          rw [hr]
          exact ih n (j + 1) (by omega) (by omega) (fun q hq hq0 => by
            by_cases hqj : q = j
            · subst hqj; exact ⟨by omega, hk⟩
            · exact hj q (by omega) hq0)
        · rw [if_neg (by rw [e2, e1k]; exact hk)]
          exact ⟨fun h => absurd (h j (by omega) h0).2 hk, fun _ => rfl⟩
theorem fitsX {μ : Mem} {S : Nat → Int} (hS : ∀ d, 0 ≤ S d ∧ S d ≤ 1000000000000000) (h6 : ∀ d, d < 199 → μ 6 0 d = S d) : (fitP S 199 ∧ rk S 199 ≤ 8 → f_X3_fits μ = some (1, μ)) ∧ (¬ (fitP S 199 ∧ rk S 199 ≤ 8) → f_X3_fits μ = some (0, μ)) := by
  have h := fun k => fits_L (μ := μ) (S := S) k hS h6 199 FU 0 (by omega) (by unfold FU; omega) (fun d h => by omega)
  have hrk := rk_le S 199
  have e8 : w32 8 = 8 := rfl
  unfold f_X3_fits
  by_cases hf : fitP S 199
  · have h1 := fun k => (h k).1 hf
    rw [show ∀ k, f_X3_fits_L4 k FU 0 0 μ = _ from h1]
    try dsimp only
    by_cases h8 : rk S 199 ≤ 8
    · rw [if_neg (by rw [e8, w32n (by omega)]; omega)]
      exact ⟨fun _ => rfl, fun q => absurd ⟨hf, h8⟩ q⟩
    · rw [if_pos (by rw [e8, w32n (by omega)]; omega)]
      exact ⟨fun q => absurd q.2 h8, fun _ => rfl⟩
  · have h1 := fun k => (h k).2 hf
    rw [show ∀ k, f_X3_fits_L4 k FU 0 0 μ = _ from h1]
    exact ⟨fun q => absurd q.1 hf, fun _ => rfl⟩
/-! a part becomes: X -/
theorem sm_congr {f g : Nat → Int} : ∀ n, (∀ k, k < n → f k = g k) → sm f n = sm g n := by
  intro n
  induction n with
  | zero => intro _; rfl
  | succ n ih => intro h; show sm f n + f n = sm g n + g n; rw [ih (fun k hk => h k (by omega)), h n (by omega)]
theorem sel_keep {S : Nat → Int} {j k : Nat} (h : k < rk S j) : sel S (j + 1) k = sel S j k := if_neg (fun q => by omega)
theorem sel_new {S : Nat → Int} {j : Nat} (h : S j ≠ 0) : sel S (j + 1) (rk S j) = j := if_pos ⟨h, rfl⟩
theorem sm_rows_le {S : Nat → Int} (hS : ∀ d, 0 ≤ S d) (n j : Nat) (h1 : ∀ k, k < n → S (sel S j k) ≤ 1000) : 0 ≤ sm (fun k => S (sel S j k)) n ∧ sm (fun k => S (sel S j k)) n ≤ 1000 * n := by
  induction n with
  | zero => exact ⟨Int.le_refl 0, by simp [sm]⟩
  | succ n ih =>
    have := ih (fun k hk => h1 k (by omega))
    have h2 := h1 n (by omega)
    have h3 := hS (sel S j n)
    show 0 ≤ sm (fun k => S (sel S j k)) n + S (sel S j n) ∧ sm (fun k => S (sel S j k)) n + S (sel S j n) ≤ _
    constructor
    · omega
    · have : (1000 : Int) * ((n + 1 : Nat) : Int) = 1000 * n + 1000 := by omega
      omega
/-- the rows of part p, as far as day j, are the table's -/
def bec (S : Nat → Int) (μ : Mem) (p j : Nat) : Prop := μ 17 p 3 = (rk S j : Nat) ∧ μ 17 p 4 = sm (fun k => S (sel S j k)) (rk S j) ∧ ∀ k, k < rk S j → μ 18 p k = (sel S j k : Nat) ∧ μ 19 p k = S (sel S j k)
theorem become_L {S : Nat → Int} {p : Nat} (hS : ∀ d, 0 ≤ S d ∧ S d ≤ 1000000000000000) (hf : fitP S 199) (h8 : rk S 199 ≤ 8) (hz : ∀ d, 100 ≤ d → d < 199 → S d = 0) : ∀ (d n j : Nat) (μ : Mem), d + j = 100 → d < n → (∀ d, d < 199 → μ 6 0 d = S d) → bec S μ p j → ∃ μ', f_X1_become_L35 p n (j : Int) μ = some (0, μ') ∧ bec S μ' p 100 ∧ (∀ t, t ≠ 17 → t ≠ 18 → t ≠ 19 → μ' t = μ t) ∧ (∀ t q, q ≠ p → μ' t q = μ t q) ∧ (∀ k, 5 ≤ k → μ' 17 p k = μ 17 p k) := by
  intro d
  induction d with
  | zero =>
    intro n j μ hd hn h6 hb
    obtain ⟨n, rfl⟩ : ∃ q, n = q + 1 := ⟨n - 1, by omega⟩
    refine ⟨μ, ?_, ?_, fun _ _ _ _ => rfl, fun _ _ _ => rfl, fun _ _ => rfl⟩
    · rw [f_X1_become_L35.eq_2, if_pos (by rw [w32n (by omega), show w32 99 = 99 from rfl]; omega)]
    · rw [show 100 = j by omega]; exact hb
  | succ d ih =>
    intro n j μ hd hn h6 hb
    obtain ⟨n, rfl⟩ : ∃ q, n = q + 1 := ⟨n - 1, by omega⟩
    obtain ⟨b1, b2, b3⟩ := hb
    have hm1 := rk_mono S j (199 - j)
    rw [show j + (199 - j) = 199 by omega] at hm1
    have hm2 := rk_mono S (j + 1) (199 - (j + 1))
    rw [show j + 1 + (199 - (j + 1)) = 199 by omega] at hm2
    have h3 := hS j
    have e2 : w64 (S j) = S j := w64_id (by omega) (by omega)
    have e0 : w64 0 = 0 := rfl
    rw [f_X1_become_L35.eq_2, if_neg (by rw [w32n (by omega), show w32 99 = 99 from rfl]; omega)]
    by_cases hr8 : 8 ≤ rk S j
    · -- the rest has no weight
      refine ⟨μ, ?_, ?_, fun _ _ _ _ => rfl, fun _ _ _ => rfl, fun _ _ => rfl⟩
      · rw [if_pos (by rw [b1, w32n (by omega), show w32 8 = 8 from rfl]; omega)]
      · have hzz : ∀ q, j ≤ q → q < 199 → S q = 0 := by
          intro q hq1 hq2
          by_cases h0 : S q = 0
          · exact h0
          · have m1 := rk_mono S j (q - j)
            have m2 := rk_mono S (q + 1) (199 - (q + 1))
            rw [show j + (q - j) = q by omega] at m1
            rw [show q + 1 + (199 - (q + 1)) = 199 by omega] at m2
            have : rk S (q + 1) = rk S q + 1 := by show rk S q + _ = _; rw [if_neg h0]
            omega
        have hrr : ∀ i, j + i ≤ 100 → rk S (j + i) = rk S j := by
          intro i
          induction i with
          | zero => intro _; rfl
          | succ i ihi =>
            intro hi
            show rk S (j + i) + (if S (j + i) = 0 then 0 else 1) = _
            rw [hzz (j + i) (by omega) (by omega), if_pos rfl, ihi (by omega)]; rfl
        have hss : ∀ i k, j + i ≤ 100 → sel S (j + i) k = sel S j k := by
          intro i k
          induction i with
          | zero => intro _; rfl
          | succ i ihi =>
            intro hi
            show (if S (j + i) ≠ 0 ∧ _ then _ else sel S (j + i) k) = _
            rw [if_neg (fun q => q.1 (hzz (j + i) (by omega) (by omega))), ihi (by omega)]
        have e1 := hrr (100 - j) (by omega)
        have e3 := fun k => hss (100 - j) k (by omega)
        rw [show j + (100 - j) = 100 by omega] at e1
        have e4 : ∀ k, sel S 100 k = sel S j k := by
          intro k
          have := e3 k
          rw [show j + (100 - j) = 100 by omega] at this
          exact this
        unfold bec
        rw [e1]
        refine ⟨b1, ?_, fun k hk => ?_⟩
        · rw [b2]; exact sm_congr _ (fun k _ => by rw [e4])
        · rw [e4]; exact b3 k hk
    · have hb8 : w32 (μ 17 p 3) = (rk S j : Nat) := by rw [b1]; exact w32n (by omega)
      rw [if_neg (by rw [hb8, show w32 8 = 8 from rfl]; omega), gd_inb _ (by omega) (by omega) (by omega), jn_u]
      dsimp only
      rw [ixn (by omega), h6 j (by omega), show ((j : Int) + 1) = ((j + 1 : Nat) : Int) by omega]
      by_cases h0 : S j = 0
      · rw [if_pos (by rw [e2, e0]; exact h0)]
        have er : rk S (j + 1) = rk S j := by show rk S j + _ = _; rw [if_pos h0]; rfl
        have es : ∀ k, sel S (j + 1) k = sel S j k := fun k => if_neg (fun q => q.1 h0)
        refine ih n (j + 1) μ (by omega) (by omega) h6 ⟨?_, ?_, fun k hk => ?_⟩
        · rw [er]; exact b1
        · rw [er, b2]; exact sm_congr _ (fun k _ => by rw [es])
        · rw [es]; exact b3 k (by omega)
      · rw [if_neg (by rw [e2, e0]; exact h0)]
        have er : rk S (j + 1) = rk S j + 1 := by show rk S j + _ = _; rw [if_neg h0]
        have hrj : rk S j ≤ 7 := by omega
        simp (disch := omega) only [b1, gd_inb, ixn, st_nt, st_nk, h6 j (by omega), st_eq]
        have hS1 : S j ≤ 1000 := (hf j (by omega) h0).2
        obtain ⟨μ', a1, a2, a3, a4, a5⟩ := ih n (j + 1) (st (st (st (st μ 18 p (rk S j) (j : Int)) 19 p (rk S j) (S j)) 17 p 4 (μ 17 p 4 + S j)) 17 p 3 ((rk S j : Nat) + 1)) (by omega) (by omega) (fun q hq => by
          rw [st_nt _ (by decide), st_nt _ (by decide), st_nt _ (by decide), st_nt _ (by decide)]; exact h6 q hq) (by
          refine ⟨?_, ?_, fun k hk => ?_⟩
          · rw [st_eq, er]; omega
          · rw [st_nk _ (by decide), st_eq, er, b2]
            show _ = sm _ (rk S j) + S (sel S (j + 1) (rk S j))
            rw [sel_new h0, sm_congr (f := fun k => S (sel S (j + 1) k)) (g := fun k => S (sel S j k)) (rk S j) (fun k hk => by rw [sel_keep hk])]
          · rw [er] at hk
            by_cases hkj : k = rk S j
            · subst hkj
              simp (disch := decide) only [st_nt, st_eq]
              rw [sel_new h0]; exact ⟨rfl, rfl⟩
            · simp (disch := omega) only [st_nt, st_nk]
              rw [sel_keep (by omega)]; exact b3 k (by omega))
        refine ⟨μ', a1, a2, fun t h7 h8 h9 => ?_, fun t q hq => ?_, fun k hk => ?_⟩
        · rw [a3 t h7 h8 h9, st_tag _ h7, st_tag _ h7, st_tag _ h9, st_tag _ h8]
        · rw [a4 t q hq, st_idx _ hq, st_idx _ hq, st_idx _ hq, st_idx _ hq]
        · rw [a5 k hk, st_nk _ (by omega), st_nk _ (by omega), st_nt _ (by decide), st_nt _ (by decide)]
theorem becomeX {S : Nat → Int} {p : Nat} {h : Int} {μ : Mem} (hS : ∀ d, 0 ≤ S d ∧ S d ≤ 1000000000000000) (hf : fitP S 199) (h8 : rk S 199 ≤ 8) (h6 : ∀ d, d < 199 → μ 6 0 d = S d) : ∃ μ', f_X1_become p h μ = some (0, μ') ∧ bec S μ' p 100 ∧ (∀ t, t ≠ 17 → t ≠ 18 → t ≠ 19 → t ≠ 20 → μ' t = μ t) ∧ (∀ t q, q ≠ p → μ' t q = μ t q) ∧ μ' 17 p 5 = h ∧ μ' 17 p 6 = 0 ∧ μ' 17 p 7 = -1 ∧ ∀ c, c < 4 → μ' 20 p c = 0 := by
  unfold f_X1_become
  rw [fillI _ _ _ _ _ (by omega), bn_s]
  obtain ⟨μ', a1, a2, a3, a4, a5⟩ := become_L (S := S) (p := p) hS hf h8 (fun d h1 h2 => by
    by_cases h0 : S d = 0
    · exact h0
    · have := (hf d h2 h0).1; omega) 100 FU 0 (fl_ (st (st (st (st (st μ 17 p 3 0) 17 p 4 0) 17 p 5 h) 17 p 6 0) 17 p 7 (-1)) 20 p 4 0) (by omega) (by unfold FU; omega) (fun q hq => by rw [fl_tag _ (by decide)]; simp (disch := decide) only [st_nt]; exact h6 q hq) ⟨by rw [fl_tag _ (by decide)]; simp (disch := decide) only [st_nk, st_eq]; rfl, by rw [fl_tag _ (by decide)]; simp (disch := decide) only [st_nk, st_eq]; rfl, fun k hk => absurd hk (Nat.not_lt_zero _)⟩
  refine ⟨μ', a1, a2, fun t h1 h2 h3 h4 => ?_, fun t q hq => ?_, ?_, ?_, ?_, fun c hc => ?_⟩
  · rw [a3 t h1 h2 h3, fl_tag _ h4]; simp (disch := omega) only [st_tag]
  · rw [a4 t q hq, fl_idx _ hq, st_idx _ hq, st_idx _ hq, st_idx _ hq, st_idx _ hq, st_idx _ hq]
  · rw [a5 5 (by omega), fl_tag _ (by decide)]; simp (disch := decide) only [st_nk, st_eq]
  · rw [a5 6 (by omega), fl_tag _ (by decide)]; simp (disch := decide) only [st_nk, st_eq]
  · rw [a5 7 (by omega), fl_tag _ (by decide), st_eq]
  · rw [a3 20 (by decide) (by decide) (by decide), fl_in _ hc]
/-! the same of the model: adds -/
theorem clrM_L : ∀ (d n j : Nat) (μ : Mem), d + j = 300 → d < n → f_X9_clearMade_L2 n (j : Int) μ = some (0, fun t i q => if t = 43 ∧ i = 0 ∧ j ≤ q ∧ q < 300 then 0 else μ t i q) := by
  intro d
  induction d with
  | zero =>
    intro n j μ hd hn
    obtain ⟨n, rfl⟩ : ∃ q, n = q + 1 := ⟨n - 1, by omega⟩
    rw [f_X9_clearMade_L2.eq_2, if_pos (by rw [w32n (by omega), show w32 300 = 300 from rfl]; omega)]
    congr 2
    funext t i q
    rw [if_neg (by omega)]
  | succ d ih =>
    intro n j μ hd hn
    obtain ⟨n, rfl⟩ : ∃ q, n = q + 1 := ⟨n - 1, by omega⟩
    rw [f_X9_clearMade_L2.eq_2, if_neg (by rw [w32n (by omega), show w32 300 = 300 from rfl]; omega), gd_inb _ (by omega) (by omega) (by omega), ixn (by omega), show ((j : Int) + 1) = ((j + 1 : Nat) : Int) by omega, ih n (j + 1) _ (by omega) (by omega)]
    congr 2
    funext t i q
    by_cases hq : t = 43 ∧ i = 0 ∧ j ≤ q ∧ q < 300
    · rw [if_pos hq]
      obtain ⟨rfl, rfl, q1, q2⟩ := hq
      by_cases hj : q = j
      · subst hj; rw [if_neg (by omega), st_eq]
      · rw [if_pos (by omega)]
    · rw [if_neg hq, if_neg (by omega)]
      by_cases ht : t = 43
      · by_cases hi : i = 0
        · rw [ht, hi, st_nk _ (by omega)]
        · rw [st_ni _ hi]
      · rw [st_nt _ ht]
theorem clrM (μ : Mem) : f_X9_clearMade μ = some (0, fl_ μ 43 0 300 0) := by
  unfold f_X9_clearMade
  rw [show f_X9_clearMade_L2 FU 0 μ = _ from clrM_L 300 FU 0 μ (by omega) (by unfold FU; omega)]
  simp only [Nat.zero_le, true_and]
  rfl
theorem adds_a {a1 : Int} {μ : Mem} {S : Nat → Int} (k72 : Int → Int → Mem → Option (Int × Mem)) (hS : ∀ d, 0 ≤ S d ∧ S d ≤ 1000000000000000) (h6 : ∀ d, d < 300 → μ 43 0 d = S d) : ∀ (d n j : Nat), d + j = 300 → d < n → f_X9_adds_L24 a1 k72 n (gg S j) (rk S j : Nat) (j : Int) μ = k72 (gg S 300) (rk S 300 : Nat) μ := by
  intro d
  induction d with
  | zero =>
    intro n j hd hn
    obtain ⟨n, rfl⟩ : ∃ q, n = q + 1 := ⟨n - 1, by omega⟩
    rw [f_X9_adds_L24.eq_2, if_pos (by rw [w32n (by omega), show w32 300 = 300 from rfl]; omega), show j = 300 by omega]
  | succ d ih =>
    intro n j hd hn
    obtain ⟨n, rfl⟩ : ∃ q, n = q + 1 := ⟨n - 1, by omega⟩
    have h1 := gg_nn S j
    have h2 := gg_le (by omega) hS j
    have h3 := hS j
    have e2 : w64 (S j) = S j := w64_id (by omega) (by omega)
    have e0 : w64 0 = 0 := rfl
    rw [f_X9_adds_L24.eq_2, if_neg (by rw [w32n (by omega), show w32 300 = 300 from rfl]; omega), gd_inb _ (by omega) (by omega) (by omega), ixn (by omega), h6 j (by omega), common_M μ h3.1 h1 (by omega) (by omega), bn_s, gd_inb _ (by omega) (by omega) (by omega), jn_u, h6 j (by omega), egcd_comm, show ((j : Int) + 1) = ((j + 1 : Nat) : Int) by omega]
    dsimp only
    have hg : egcd (gg S j) (S j) = gg S (j + 1) := rfl
    rw [hg]
    by_cases h0 : S j = 0
    · have hr : ((rk S j : Nat) : Int) + 0 = ((rk S (j + 1) : Nat) : Int) := by
        show _ = ((rk S j + _ : Nat) : Int)
        rw [if_pos h0]; omega
      rw [if_pos (by rw [e2, e0]; omega), hr]
      exact ih n (j + 1) (by omega) (by omega)
    · have hr : ((rk S j : Nat) : Int) + 1 = ((rk S (j + 1) : Nat) : Int) := by
        show _ = ((rk S j + _ : Nat) : Int)
        rw [if_neg h0]; omega
      rw [if_neg (by rw [e2, e0]; omega), hr]
      exact ih n (j + 1) (by omega) (by omega)
