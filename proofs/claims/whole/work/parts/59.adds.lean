/-! adds: the model's, and both together -/
theorem rk_same {S S' : Nat → Int} (h : ∀ d, S' d = 0 ↔ S d = 0) : ∀ n, rk S' n = rk S n := by
  intro n
  induction n with
  | zero => rfl
  | succ n ih =>
    show rk S' n + (if S' n = 0 then 0 else 1) = rk S n + (if S n = 0 then 0 else 1)
    rw [ih]
    by_cases h0 : S n = 0
    · rw [if_pos h0, if_pos ((h n).mpr h0)]
    · rw [if_neg h0, if_neg (fun q => h0 ((h n).mp q))]
theorem sel_same {S S' : Nat → Int} (h : ∀ d, S' d = 0 ↔ S d = 0) (k : Nat) : ∀ n, sel S' n k = sel S n k := by
  intro n
  induction n with
  | zero => rfl
  | succ n ih =>
    show (if S' n ≠ 0 ∧ rk S' n = k then n else sel S' n k) = (if S n ≠ 0 ∧ rk S n = k then n else sel S n k)
    rw [ih, rk_same h]
    by_cases h0 : S n ≠ 0 ∧ rk S n = k
    · rw [if_pos h0, if_pos ⟨fun q => h0.1 ((h n).mp q), h0.2⟩]
    · rw [if_neg h0, if_neg (fun q => h0 ⟨fun z => q.1 ((h n).mpr z), q.2⟩)]
theorem adds_b {a1 x4 g : Int} {μ : Mem} {S : Nat → Int} (k145 : Mem → Option (Int × Mem)) (hS : ∀ d, 0 ≤ S d ∧ S d ≤ 1000000000000000) (hg : 0 < g) (hg2 : g ≤ 1000000000000000) (h6 : ∀ d, d < 300 → μ 43 0 d = S d) : ∀ (d n j : Nat), d + j = 300 → d < n → (∀ q, q < j → S q ≠ 0 → q ≤ 99 ∧ Int.tdiv (S q) g ≤ 1000) →
    ((∀ q, q < 300 → S q ≠ 0 → q ≤ 99 ∧ Int.tdiv (S q) g ≤ 1000) → f_X9_adds_L89 a1 g x4 k145 n (j : Int) μ = k145 μ) ∧ ((¬ ∀ q, q < 300 → S q ≠ 0 → q ≤ 99 ∧ Int.tdiv (S q) g ≤ 1000) → f_X9_adds_L89 a1 g x4 k145 n (j : Int) μ = some (-1, st μ 30 0 0 7)) := by
  intro d
  induction d with
  | zero =>
    intro n j hd hn hj
    obtain ⟨n, rfl⟩ : ∃ q, n = q + 1 := ⟨n - 1, by omega⟩
    rw [f_X9_adds_L89.eq_2, if_pos (by rw [w32n (by omega), show w32 300 = 300 from rfl]; omega)]
    exact ⟨fun _ => rfl, fun h => absurd (fun q hq => hj q (by omega)) h⟩
  | succ d ih =>
    intro n j hd hn hj
    obtain ⟨n, rfl⟩ : ∃ q, n = q + 1 := ⟨n - 1, by omega⟩
    have h3 := hS j
    have e2 : w64 (S j) = S j := w64_id (by omega) (by omega)
    have eg : w64 g = g := w64_id (by omega) (by omega)
    have e0 : w64 0 = 0 := rfl
    have e1k : w64 1000 = 1000 := rfl
    have hqa : 0 ≤ Int.tdiv (S j) g := Int.tdiv_nonneg h3.1 (by omega)
    have hq1 : Int.tdiv (S j) g ≤ S j := by rw [Int.tdiv_eq_ediv_of_nonneg h3.1]; exact Int.ediv_le_self _ h3.1
    have e3 : w64 (Int.tdiv (S j) g) = Int.tdiv (S j) g := w64_id (by omega) (by omega)
    rw [f_X9_adds_L89.eq_2, if_neg (by rw [w32n (by omega), show w32 300 = 300 from rfl]; omega), gd_inb _ (by omega) (by omega) (by omega), jn_u, ixn (by omega), h6 j (by omega), show ((j : Int) + 1) = ((j + 1 : Nat) : Int) by omega]
    by_cases h0 : S j = 0
    · rw [if_pos (by rw [e2, e0]; omega)]
      exact ih n (j + 1) (by omega) (by omega) (fun q hq hq0 => by
        by_cases hqj : q = j
        · subst hqj; exact absurd h0 hq0
        · exact hj q (by omega) hq0)
    · rw [if_neg (by rw [e2, e0]; omega)]
      simp only [f_X9_refuse, bn_s]
      by_cases h9 : 99 < j
      · rw [if_pos (by rw [show w32 99 = 99 from rfl, w32n (by omega)]; omega)]
        exact ⟨fun h => absurd (h j (by omega) h0).1 (by omega), fun _ => rfl⟩
      · rw [if_neg (by rw [show w32 99 = 99 from rfl, w32n (by omega)]; omega), gd_inb _ (by omega) (by omega) (by omega), gd_t _ (by rw [eg]; omega), e2, eg]
        by_cases hk : Int.tdiv (S j) g ≤ 1000
        · rw [if_pos (by rw [e3, e1k]; exact hk)]
          exact ih n (j + 1) (by omega) (by omega) (fun q hq hq0 => by
            by_cases hqj : q = j
            · subst hqj; exact ⟨by omega, hk⟩
            · exact hj q (by omega) hq0)
        · rw [if_neg (by rw [e3, e1k]; exact hk)]
          exact ⟨fun h => absurd (h j (by omega) h0).2 hk, fun _ => rfl⟩
def becM (S S' : Nat → Int) (μ : Mem) (p j : Nat) : Prop := ∀ k, k < rk S j → μ 38 0 (8 * p + k) = (sel S j k : Nat) ∧ μ 39 0 (8 * p + k) = S' (sel S j k)
theorem adds_c {a1 x4 g : Int} {S : Nat → Int} {p : Nat} (k215 : Mem → Option (Int × Mem)) (hp : p < 10) (hS : ∀ d, 0 ≤ S d ∧ S d ≤ 1000000000000000) (hg : 0 < g) (hg2 : g ≤ 1000000000000000) (h8 : rk S 300 ≤ 8) : ∀ (d n j : Nat) (μ : Mem), d + j = 300 → d < n → (∀ d, d < 300 → μ 43 0 d = S d) → becM S (fun d => Int.tdiv (S d) g) μ p j →
    ∃ μ', f_X9_adds_L157 a1 g x4 k215 n ((8 * p + rk S j : Nat) : Int) (j : Int) μ = k215 μ' ∧ becM S (fun d => Int.tdiv (S d) g) μ' p 300 ∧ (∀ t, t ≠ 38 → t ≠ 39 → μ' t = μ t) ∧ (∀ t i q, q < 8 * p ∨ 8 * p + 8 ≤ q → μ' t i q = μ t i q) := by
  intro d
  induction d with
  | zero =>
    intro n j μ hd hn h6 hb
    obtain ⟨n, rfl⟩ : ∃ q, n = q + 1 := ⟨n - 1, by omega⟩
    refine ⟨μ, ?_, ?_, fun _ _ _ => rfl, fun _ _ _ _ => rfl⟩
    · rw [f_X9_adds_L157.eq_2, if_pos (by rw [w32n (by omega), show w32 300 = 300 from rfl]; omega)]
    · rw [show 300 = j by omega]; exact hb
  | succ d ih =>
    intro n j μ hd hn h6 hb
    obtain ⟨n, rfl⟩ : ∃ q, n = q + 1 := ⟨n - 1, by omega⟩
    have h3 := hS j
    have e2 : w64 (S j) = S j := w64_id (by omega) (by omega)
    have eg : w64 g = g := w64_id (by omega) (by omega)
    have e0 : w64 0 = 0 := rfl
    have hm2 := rk_mono S (j + 1) (300 - (j + 1))
    rw [show j + 1 + (300 - (j + 1)) = 300 by omega] at hm2
    rw [f_X9_adds_L157.eq_2, if_neg (by rw [w32n (by omega), show w32 300 = 300 from rfl]; omega), gd_inb _ (by omega) (by omega) (by omega), jn_u]
    dsimp only
    rw [ixn (by omega), h6 j (by omega)]
    by_cases h0 : S j = 0
    · rw [if_pos (by rw [e2, e0]; exact h0), show ((j : Int) + 1) = ((j + 1 : Nat) : Int) by omega]
      have er : rk S (j + 1) = rk S j := by show rk S j + _ = _; rw [if_pos h0]; rfl
      have es : ∀ k, sel S (j + 1) k = sel S j k := fun k => if_neg (fun q => q.1 h0)
      have := ih n (j + 1) μ (by omega) (by omega) h6 (fun k hk => by rw [es]; exact hb k (by omega))
      rw [er] at this
      exact this
    · have er : rk S (j + 1) = rk S j + 1 := by show rk S j + _ = _; rw [if_neg h0]
      rw [if_neg (by rw [e2, e0]; exact h0), gd_inb _ (by omega) (by omega) (by omega), gd_inb _ (by omega) (by omega) (by omega), gd_t _ (by rw [eg]; omega), gd_inb _ (by omega) (by omega) (by omega), ixn (by omega), st_nt _ (by decide), h6 j (by omega), e2, eg]
      obtain ⟨μ', a1, a2, a3, a4⟩ := ih n (j + 1) (st (st μ 38 0 (8 * p + rk S j) (j : Int)) 39 0 (8 * p + rk S j) (Int.tdiv (S j) g)) (by omega) (by omega) (fun q hq => by rw [st_nt _ (by decide), st_nt _ (by decide)]; exact h6 q hq) (fun k hk => by
        rw [er] at hk
        by_cases hkj : k = rk S j
        · subst hkj
          rw [st_nt _ (by decide), st_eq, st_eq, sel_new h0]; exact ⟨rfl, rfl⟩
        · rw [st_nt _ (by decide), st_nk _ (by omega), st_nk _ (by omega), st_nt _ (by decide), sel_keep (by omega)]; exact hb k (by omega))
      refine ⟨μ', ?_, a2, fun t h1 h2 => ?_, fun t i q hq => ?_⟩
      · rw [show (((8 * p + rk S j : Nat) : Int) + 1) = ((8 * p + rk S (j + 1) : Nat) : Int) by omega, show ((j : Int) + 1) = ((j + 1 : Nat) : Int) by omega]
        exact a1
      · rw [a3 t h1 h2, st_tag _ h2, st_tag _ h1]
      · rw [a4 t i q hq, st_nk _ (by omega), st_nk _ (by omega)]
theorem adds_d {p : Nat} (hp : p < 10) : ∀ (d n j : Nat) (μ : Mem), d + j = 4 → d < n → μ 30 0 7 = (p : Int) → ∃ μ', f_X9_adds_L259 n (j : Int) μ = some ((p : Int), μ') ∧ μ' 30 0 7 = p + 1 ∧ (∀ k, k ≠ 7 → μ' 30 0 k = μ 30 0 k) ∧ (∀ t, t ≠ 30 → t ≠ 40 → μ' t = μ t) ∧ (∀ c, j ≤ c → c < 4 → μ' 40 0 (4 * p + c) = 0) ∧ ∀ q, q < 4 * p + j ∨ 4 * p + 4 ≤ q → μ' 40 0 q = μ 40 0 q := by
  intro d
  induction d with
  | zero =>
    intro n j μ hd hn h7
    obtain ⟨n, rfl⟩ : ∃ q, n = q + 1 := ⟨n - 1, by omega⟩
    refine ⟨st μ 30 0 7 (p + 1), ?_, st_eq _ _ _ _ _, fun k hk => st_nk _ hk, fun t h1 _ => st_tag _ h1, fun c h1 h2 => by omega, fun q _ => st_nt _ (by decide)⟩
    rw [f_X9_adds_L259.eq_2, if_pos (by rw [w32n (by omega), show w32 4 = 4 from rfl]; omega), st_eq, h7]
    congr 2
    omega
  | succ d ih =>
    intro n j μ hd hn h7
    obtain ⟨n, rfl⟩ : ∃ q, n = q + 1 := ⟨n - 1, by omega⟩
    obtain ⟨μ', a1, a2, a3, a4, a5, a6⟩ := ih n (j + 1) (st μ 40 0 (4 * p + j) 0) (by omega) (by omega) (by rw [st_nt _ (by decide)]; exact h7)
    refine ⟨μ', ?_, a2, fun k hk => ?_, fun t h1 h2 => ?_, fun c h1 h2 => ?_, fun q hq => ?_⟩
    · rw [f_X9_adds_L259.eq_2, if_neg (by rw [w32n (by omega), show w32 4 = 4 from rfl]; omega), h7, gd_inb _ (by omega) (by omega) (by omega), show (4 * (p : Int) + j) = ((4 * p + j : Nat) : Int) by omega, ixn (by omega), show ((j : Int) + 1) = ((j + 1 : Nat) : Int) by omega]
      exact a1
    · rw [a3 k hk, st_nt _ (by decide)]
    · rw [a4 t h1 h2, st_tag _ h2]
    · by_cases hc : c = j
      · subst hc; rw [a6 _ (by omega), st_eq]
      · exact a5 c (by omega) h2
    · rw [a6 q (by omega), st_nk _ (by omega)]
theorem tdz {a g : Int} (ha : 0 ≤ a) (hg : 0 < g) (hd : g ∣ a) : Int.tdiv a g = 0 ↔ a = 0 := by
  obtain ⟨c, rfl⟩ := hd
  rw [Int.mul_comm, Int.mul_tdiv_cancel c (by omega)]
  constructor
  · rintro rfl; simp
  · intro h
    rcases Int.mul_eq_zero.mp h with h | h
    · exact h
    · omega
theorem bec_le {S : Nat → Int} (hf : fitP S 199) {k n : Nat} (hn : n ≤ 199) (hk : k < rk S n) (hS : ∀ d, 0 ≤ S d) : (sel S n k : Int) ≤ 99 ∧ 1 ≤ S (sel S n k) ∧ S (sel S n k) ≤ 1000 := by
  obtain ⟨h1, h2⟩ := sel_lt n k hk
  have h3 := hf (sel S n k) (by omega) h2
  have h4 := hS (sel S n k)
  exact ⟨by omega, by omega, h3.2⟩
set_option maxHeartbeats 4000000 in
theorem adds_step {μx0 μm0 μx μm : Mem} (R : Rel μx0 μm0) (hx : ∀ t, t ≠ 6 → μx t = μx0 t) (hm : ∀ t, t ≠ 30 → t ≠ 43 → μm t = μm0 t) (hs : ∀ k, k ≠ 0 → k ≠ 1 → μm 30 0 k = μm0 30 0 k) (h0 : μm 30 0 0 = 0) {S : Nat → Int} (hS : ∀ d, 0 ≤ S d ∧ S d ≤ 1000000000000000) (h6 : ∀ d, d < 199 → μx 6 0 d = S d) (h43 : ∀ d, d < 300 → μm 43 0 d = S d) (hz : ∀ d, 199 ≤ d → S d = 0) (hpos : ∃ d, d < 199 ∧ 0 < S d) {h : Int} (hh : 0 ≤ h ∧ h ≤ 9) : Step (f_X8_addPart h μx) (f_X9_adds h μm) := by
  obtain ⟨hn1, hn2, hn3⟩ := np_of R
  obtain ⟨d0, hd0, hd1⟩ := hpos
  have hgp : 0 < gg S 199 := gg_pos hd0 hd1
  have hgl := gg_le (by omega) hS 199
  have hg3 : gg S 300 = gg S 199 := gg_ext hz 101
  have hr3 : rk S 300 = rk S 199 := rk_ext hz 101
  obtain ⟨μ2, a1, a2, a3⟩ := makeLess hS h6 hgp
  obtain ⟨S', hS'⟩ : ∃ S' : Nat → Int, S' = fun d => Int.tdiv (S d) (gg S 199) := ⟨_, rfl⟩
  have hdv : ∀ d, gg S 199 ∣ S d := by
    intro d
    by_cases hd : d < 199
    · exact gg_dvd S 199 d hd
    · rw [hz d (by omega)]; exact Int.dvd_zero _
  have hnz : ∀ d, S' d = 0 ↔ S d = 0 := by
    intro d
    rw [hS']
    exact tdz (hS d).1 hgp (hdv d)
  have hSb : ∀ d, 0 ≤ S' d ∧ S' d ≤ 1000000000000000 := by
    intro d
    rw [hS']
    have h3 := hS d
    have h4 : Int.tdiv (S d) (gg S 199) ≤ S d := by rw [Int.tdiv_eq_ediv_of_nonneg h3.1]; exact Int.ediv_le_self _ h3.1
    exact ⟨Int.tdiv_nonneg h3.1 (by omega), by show Int.tdiv (S d) (gg S 199) ≤ _; omega⟩
  have h6' : ∀ d, d < 199 → μ2 6 0 d = S' d := fun d hd => by rw [a3 d hd, hS']
  have e15 : μ2 15 = μx0 15 := by rw [a2 15 (by decide), hx 15 (by decide)]
  have e7m : μm 30 0 7 = μm0 30 0 7 := hs 7 (by decide) (by decide)
  have wsx : ∀ v, Step (some (-1, st μ2 0 0 0 v)) (some (-1, st μm 30 0 0 v)) := by
    intro v
    refine Step_mk rfl (Rel_ext2 R (fun t ht => ?_) (fun t ht => ?_) (fun k hk => ?_) ?_)
    · rw [st_tag _ (by omega), a2 t (by omega), hx t (by omega)]
    · rw [st_tag _ (by omega), hm t (by omega) (by omega)]
    · rw [st_nk _ (by omega), hs k (by omega) (by omega)]
    · rw [st_eq, st_eq]
  have wp : w32 (μm0 30 0 7) = μm0 30 0 7 := w32_id (by omega) (by omega)
  unfold f_X8_addPart f_X9_adds
  rw [a1, bn_s, e15, hn1, e7m, wp, show w32 10 = 10 from rfl]
  by_cases hfull : μm0 30 0 7 = 10
  · rw [if_pos hfull, if_pos (show (10 : Int) ≤ μm0 30 0 7 by omega)]
    simp only [f_X8_refuseNumber, f_X9_refuse, bn_s]
    exact wsx 7
  · rw [if_neg hfull, if_neg (show ¬ (10 : Int) ≤ μm0 30 0 7 by omega)]
    obtain ⟨p, hp⟩ := natOf hn2
    have hp10 : p < 10 := by omega
    rw [show ∀ k, f_X9_adds_L24 h k FU 0 0 0 μm = _ from fun k => adds_a k hS h43 300 FU 0 (by omega) (by unfold FU; omega)]
    try dsimp only
    rw [hg3, hr3]
    have hrk := rk_le S 199
    have hfeq : (fitP S' 199) ↔ ∀ q, q < 300 → S q ≠ 0 → q ≤ 99 ∧ Int.tdiv (S q) (gg S 199) ≤ 1000 := by
      constructor
      · intro hf q hq hq0
        have hq9 : q < 199 := by
          by_cases h9 : q < 199
          · exact h9
          · exact absurd (hz q (by omega)) hq0
        have := hf q hq9 (fun z => hq0 ((hnz q).mp z))
        rw [hS'] at this
        exact this
      · intro hf q hq hq0
        have := hf q (by omega) (fun z => hq0 ((hnz q).mpr z))
        rw [hS']
        exact this
    have hrs : ∀ n, rk S' n = rk S n := rk_same hnz
    have hss : ∀ n k, sel S' n k = sel S n k := fun n k => sel_same hnz k n
    obtain ⟨fx1, fx2⟩ := fitsX hSb h6'
    rw [hrs] at fx1 fx2
    rw [w32n (by omega), show w32 8 = 8 from rfl]
    by_cases h8 : rk S 199 ≤ 8
    · rw [if_pos (show ((rk S 199 : Nat) : Int) ≤ 8 by omega)]
      have hb := fun k => adds_b (a1 := h) (x4 := ((rk S 199 : Nat) : Int)) (μ := μm) (S := S) (g := gg S 199) k hS hgp hgl h43 300 FU 0 (by omega) (by unfold FU; omega) (fun q hq => by omega)
      by_cases hf : fitP S' 199
      · rw [fx1 ⟨hf, h8⟩, bn_s, if_neg (by decide)]
        rw [show ∀ k, f_X9_adds_L89 h (gg S 199) ((rk S 199 : Nat) : Int) k FU 0 μm = k μm from fun k => (hb k).1 (hfeq.mp hf)]
        -- the model goes on
        rw [e7m, hp]
        have hc := fun k => adds_c (a1 := h) (x4 := ((rk S 199 : Nat) : Int)) (S := S) (p := p) (g := gg S 199) k hp10 hS hgp hgl (by rw [hr3]; exact h8) 300 FU 0 μm (by omega) (by unfold FU; omega) h43 (fun k hk => absurd hk (Nat.not_lt_zero _))
        -- X
        unfold f_X7_addPart
        have w15 : μ2 15 0 3 = (p : Int) := by rw [e15, hn1, hp]
        rw [if_neg (show ¬ w32 10 ≤ w32 (μ2 15 0 3) by rw [w15, w32n (by omega), show w32 10 = 10 from rfl]; omega), w15, gd_inb _ (by omega) (by omega) (by omega), ixn (by omega)]
        obtain ⟨μ4, b1, b2, b3, b4, b5, b6, b7, b8⟩ := becomeX (S := S') (p := p) (h := h) (μ := μ2) hSb hf (by rw [hrs]; exact h8) h6'
        rw [b1, bn_s, bn_s]
        have w15' : μ4 15 0 3 = (p : Int) := by rw [b3 15 (by decide) (by decide) (by decide) (by decide)]; exact w15
        simp only [f_X8_changed, f_X8_well, bn_s, gd_b1, w15']
        rw [show (8 * (p : Int)) = ((8 * p + rk S 0 : Nat) : Int) by show _ = ((8 * p + 0 : Nat) : Int); omega]
        have hsplit : ∀ k : Mem → Option (Int × Mem), ∃ μ5, f_X9_adds_L157 h (gg S 199) ((rk S 199 : Nat) : Int) k FU ((8 * p + rk S 0 : Nat) : Int) 0 μm = k μ5 ∧ becM S (fun d => Int.tdiv (S d) (gg S 199)) μ5 p 300 ∧ (∀ t, t ≠ 38 → t ≠ 39 → μ5 t = μm t) ∧ (∀ t i q, q < 8 * p ∨ 8 * p + 8 ≤ q → μ5 t i q = μm t i q) := hc
        obtain ⟨μ5, c1, c2, c3, c4⟩ := hsplit (fun μ43 => gd (inb (μ43 30 0 7) 10) (gd (inb ((st μ43 34 0 (ix (μ43 30 0 7)) ((rk S 199 : Nat) : Int)) 30 0 7) 10) (gd (inb ((st (st μ43 34 0 (ix (μ43 30 0 7)) ((rk S 199 : Nat) : Int)) 35 0 (ix ((st μ43 34 0 (ix (μ43 30 0 7)) ((rk S 199 : Nat) : Int)) 30 0 7)) h) 30 0 7) 10) (gd (inb ((st (st (st μ43 34 0 (ix (μ43 30 0 7)) ((rk S 199 : Nat) : Int)) 35 0 (ix ((st μ43 34 0 (ix (μ43 30 0 7)) ((rk S 199 : Nat) : Int)) 30 0 7)) h) 36 0 (ix ((st (st μ43 34 0 (ix (μ43 30 0 7)) ((rk S 199 : Nat) : Int)) 35 0 (ix ((st μ43 34 0 (ix (μ43 30 0 7)) ((rk S 199 : Nat) : Int)) 30 0 7)) h) 30 0 7)) 0) 30 0 7) 10) (f_X9_adds_L259 FU 0 (st (st (st (st μ43 34 0 (ix (μ43 30 0 7)) ((rk S 199 : Nat) : Int)) 35 0 (ix ((st μ43 34 0 (ix (μ43 30 0 7)) ((rk S 199 : Nat) : Int)) 30 0 7)) h) 36 0 (ix ((st (st μ43 34 0 (ix (μ43 30 0 7)) ((rk S 199 : Nat) : Int)) 35 0 (ix ((st μ43 34 0 (ix (μ43 30 0 7)) ((rk S 199 : Nat) : Int)) 30 0 7)) h) 30 0 7)) 0) 37 0 (ix ((st (st (st μ43 34 0 (ix (μ43 30 0 7)) ((rk S 199 : Nat) : Int)) 35 0 (ix ((st μ43 34 0 (ix (μ43 30 0 7)) ((rk S 199 : Nat) : Int)) 30 0 7)) h) 36 0 (ix ((st (st μ43 34 0 (ix (μ43 30 0 7)) ((rk S 199 : Nat) : Int)) 35 0 (ix ((st μ43 34 0 (ix (μ43 30 0 7)) ((rk S 199 : Nat) : Int)) 30 0 7)) h) 30 0 7)) 0) 30 0 7)) (-1)))))))
        rw [c1]
        have e5 : μ5 30 0 7 = (p : Int) := by rw [c3 30 (by decide) (by decide), e7m, hp]
        simp (disch := omega) only [st_nt, e5, ixn, gd_inb]
        obtain ⟨μ6, d1, d2, d3, d4, d5, d6⟩ := adds_d hp10 4 FU 0 (st (st (st (st μ5 34 0 p ((rk S 199 : Nat) : Int)) 35 0 p h) 36 0 p 0) 37 0 p (-1)) (by omega) (by unfold FU; omega) (by simp (disch := decide) only [st_nt]; exact e5)
        rw [show f_X9_adds_L259 FU 0 _ = _ from d1]
        refine Step_mk (by simp (disch := decide) only [st_nt, st_eq]; omega) ?_
        have em : ∀ t, t ≠ 30 → t ≠ 34 → t ≠ 35 → t ≠ 36 → t ≠ 37 → t ≠ 38 → t ≠ 39 → t ≠ 40 → t ≠ 43 → μ6 t = μm0 t := by
          intro t n0 n1 n2 n3 n4 n5 n6 n7 n8
          rw [d4 t n0 n7, st_tag _ n4, st_tag _ n3, st_tag _ n2, st_tag _ n1, c3 t n5 n6, hm t n0 n8]
        refine Rel_work R (fun t ht => ?_) (fun t ht => ?_) (fun k hk => ?_) ?_ ?_ ?_
        · rw [st_tag _ (by omega), st_tag _ (by omega), st_tag _ (by omega), b3 t (by omega) (by omega) (by omega) (by omega), a2 t (by omega), hx t (by omega)]
        · exact em t (by omega) (by omega) (by omega) (by omega) (by omega) (by omega) (by omega) (by omega) (by omega)
        · rw [d3 k (by omega)]
          simp (disch := decide) only [st_nt]
          rw [c3 30 (by decide) (by decide), hs k (by omega) (by omega)]
        · rw [st_eq, d3 0 (by decide)]
          simp (disch := decide) only [st_nt]
          rw [c3 30 (by decide) (by decide), h0]
        · rw [st_nt _ (by decide), st_eq]
        · obtain ⟨w1, w2, w3, w4, w5, w6⟩ := R.2.2.2.1
          rw [dt_st _ (by decide), dt_st _ (by decide)]
          have m34 : ∀ q, q ≠ p → μ6 34 0 q = μm0 34 0 q := by
            intro q hq
            rw [d4 34 (by decide) (by decide)]
            simp (disch := decide) only [st_nt]
            rw [st_nk _ hq, c3 34 (by decide) (by decide), hm 34 (by decide) (by decide)]
          have m35 : ∀ q, q ≠ p → μ6 35 0 q = μm0 35 0 q := by
            intro q hq
            rw [d4 35 (by decide) (by decide)]
            simp (disch := decide) only [st_nt]
            rw [st_nk _ hq, st_nt _ (by decide), c3 35 (by decide) (by decide), hm 35 (by decide) (by decide)]
          have m36 : ∀ q, q ≠ p → μ6 36 0 q = μm0 36 0 q := by
            intro q hq
            rw [d4 36 (by decide) (by decide), st_nt _ (by decide), st_nk _ hq, st_nt _ (by decide), st_nt _ (by decide), c3 36 (by decide) (by decide), hm 36 (by decide) (by decide)]
          have m37 : ∀ q, q ≠ p → μ6 37 0 q = μm0 37 0 q := by
            intro q hq
            rw [d4 37 (by decide) (by decide), st_nk _ hq, st_nt _ (by decide), st_nt _ (by decide), st_nt _ (by decide), c3 37 (by decide) (by decide), hm 37 (by decide) (by decide)]
          have m38 : μ6 38 = μ5 38 := by rw [d4 38 (by decide) (by decide)]; simp (disch := decide) only [st_tag]
          have m39 : μ6 39 = μ5 39 := by rw [d4 39 (by decide) (by decide)]; simp (disch := decide) only [st_tag]
          have k34 : μ6 34 0 p = ((rk S 199 : Nat) : Int) := by
            rw [d4 34 (by decide) (by decide)]
            simp (disch := decide) only [st_nt, st_eq]
          have k35 : μ6 35 0 p = h := by
            rw [d4 35 (by decide) (by decide)]
            simp (disch := decide) only [st_nt, st_eq]
          have k36 : μ6 36 0 p = 0 := by
            rw [d4 36 (by decide) (by decide), st_nt _ (by decide), st_eq]
          have k37 : μ6 37 0 p = -1 := by
            rw [d4 37 (by decide) (by decide), st_eq]
          have hxd : ∀ t q, t ≠ 6 → q ≠ p → μ4 t q = μx0 t q := by
            intro t q ht hq
            rw [b4 t q hq, a2 t ht, hx t ht]
          have hz1 : ∀ d, 100 ≤ d → S d = 0 := by
            intro d hd
            by_cases h9 : d < 199
            · by_cases h00 : S d = 0
              · exact h00
              · have := (hf d h9 (fun z => h00 ((hnz d).mp z))).1
                omega
            · exact hz d (by omega)
          have r1 : rk S 100 = rk S 199 := (rk_ext hz1 99).symm
          have s3 : ∀ k, sel S 300 k = sel S 100 k := fun k => sel_ext k hz1 200
          obtain ⟨q1, q2, q3⟩ := b2
          rw [hrs, r1] at q1
          rw [hrs, r1] at q2
          rw [hrs, r1] at q3
          have hr1 : 1 ≤ rk S 199 := by
            have m1 := rk_mono S (d0 + 1) (199 - (d0 + 1))
            rw [show d0 + 1 + (199 - (d0 + 1)) = 199 by omega] at m1
            have : rk S (d0 + 1) = rk S d0 + 1 := by show rk S d0 + _ = _; rw [if_neg (by omega)]
            omega
          unfold dt
          refine ⟨⟨?_, ?_, ?_⟩, ⟨?_, ?_, ?_⟩, ⟨?_, ?_, ?_⟩, ⟨?_, ?_, ?_⟩, fun q hq => ?_, fun c hc => ?_⟩
          · rw [d2]
            exact st_eq μ4 15 0 3 _
          · rw [d2]; omega
          · rw [d2]; omega
          · show st μ4 15 0 3 ((p : Int) + 1) 15 0 4 = _
            rw [st_nk _ (by decide), b3 15 (by decide) (by decide) (by decide) (by decide), e15, d3 8 (by decide)]
            simp (disch := decide) only [st_nt]
            rw [c3 30 (by decide) (by decide), hs 8 (by decide) (by decide)]; exact w2.1
          · rw [d3 8 (by decide)]; simp (disch := decide) only [st_nt]; rw [c3 30 (by decide) (by decide), hs 8 (by decide) (by decide)]; exact w2.2.1
          · rw [d3 8 (by decide)]; simp (disch := decide) only [st_nt]; rw [c3 30 (by decide) (by decide), hs 8 (by decide) (by decide)]; exact w2.2.2
          · show st μ4 15 0 3 ((p : Int) + 1) 15 0 5 = _
            rw [st_nk _ (by decide), b3 15 (by decide) (by decide) (by decide) (by decide), e15, d3 9 (by decide)]
            simp (disch := decide) only [st_nt]
            rw [c3 30 (by decide) (by decide), hs 9 (by decide) (by decide)]; exact w3.1
          · rw [d3 9 (by decide)]; simp (disch := decide) only [st_nt]; rw [c3 30 (by decide) (by decide), hs 9 (by decide) (by decide)]; exact w3.2.1
          · rw [d3 9 (by decide)]; simp (disch := decide) only [st_nt]; rw [c3 30 (by decide) (by decide), hs 9 (by decide) (by decide)]; exact w3.2.2
          · show st μ4 15 0 3 ((p : Int) + 1) 15 0 6 = _
            rw [st_nk _ (by decide), b3 15 (by decide) (by decide) (by decide) (by decide), e15, d3 10 (by decide)]
            simp (disch := decide) only [st_nt]
            rw [c3 30 (by decide) (by decide), hs 10 (by decide) (by decide)]; exact w4.1
          · rw [d3 10 (by decide)]; simp (disch := decide) only [st_nt]; rw [c3 30 (by decide) (by decide), hs 10 (by decide) (by decide)]; exact w4.2.1
          · rw [d3 10 (by decide)]; simp (disch := decide) only [st_nt]; rw [c3 30 (by decide) (by decide), hs 10 (by decide) (by decide)]; exact w4.2.2
          · rw [d2] at hq
            unfold RP
            simp (disch := decide) only [st_tag]
            by_cases hqp : q = p
            · subst hqp
              rw [k34, k35, k36, k37]
              refine ⟨⟨q1, by omega, by omega⟩, ⟨b5, hh.1, hh.2⟩, ⟨b6, by omega, ?_⟩, ⟨b7, by omega, by omega⟩, ?_, fun k hk => ?_, fun c hc => ?_⟩
              · have := Nat.pow_pos (n := q) (show 0 < 2 by decide)
                exact_mod_cast this
              · rw [q2, Int.toNat_natCast]
                apply sm_congr
                intro k hk
                rw [m39, (c2 k (by rw [hr3]; exact hk)).2, s3, hss, hS']
              · have hk' : k < rk S 199 := by omega
                have c2k := c2 k (by rw [hr3]; exact hk')
                have hle := bec_le (S := S') hf (k := k) (n := 100) (by omega) (by rw [hrs, r1]; exact hk') (fun d => (hSb d).1)
                rw [hss] at hle
                rw [m38, m39, c2k.1, c2k.2, s3, (q3 k hk').1, (q3 k hk').2, hss]
                have hSe : Int.tdiv (S (sel S 100 k)) (gg S 199) = S' (sel S 100 k) := by rw [hS']
                dsimp only
                rw [hSe]
                exact ⟨rfl, by omega, hle.1, rfl, hle.2.1, hle.2.2⟩
              · rw [d5 c (by omega) hc, b8 c hc]
                exact ⟨rfl, by omega, by omega⟩
            · have hlt : (q : Int) < μm0 30 0 7 := by omega
              obtain ⟨v1, v2, v3, v4, v5, v6, v7⟩ := w5 q hlt
              unfold dt at v1 v2 v3 v4 v5 v6 v7
              dsimp only at v1 v2 v3 v4 v5 v6 v7
              rw [m34 q hqp, m35 q hqp, m36 q hqp, m37 q hqp, m38, m39, hxd 17 q (by decide) hqp, hxd 18 q (by decide) hqp, hxd 19 q (by decide) hqp, hxd 20 q (by decide) hqp]
              have c4' : ∀ t k, (t = 38 ∨ t = 39) → k < 8 → μ5 t 0 (8 * q + k) = μm0 t 0 (8 * q + k) := by
                intro t k ht hk
                rw [c4 t 0 _ (by omega), hm t (by omega) (by omega)]
              refine ⟨v1, v2, v3, v4, ?_, fun k hk => ?_, fun c hc => ?_⟩
              · rw [v5]
                apply sm_congr
                intro k hk
                exact (c4' 39 k (Or.inr rfl) (by omega)).symm
              · rw [c4' 38 k (Or.inl rfl) (by omega), c4' 39 k (Or.inr rfl) (by omega)]; exact v6 k hk
              · rw [d6 _ (by omega)]
                simp (disch := decide) only [st_nt]
                rw [c3 40 (by decide) (by decide), hm 40 (by decide) (by decide)]; exact v7 c hc
          · rw [d3 8 (by decide)] at hc
            simp (disch := decide) only [st_nt] at hc
            rw [c3 30 (by decide) (by decide), hs 8 (by decide) (by decide)] at hc
            simp (disch := decide) only [st_tag]
            rw [em 41 (by decide) (by decide) (by decide) (by decide) (by decide) (by decide) (by decide) (by decide) (by decide), em 42 (by decide) (by decide) (by decide) (by decide) (by decide) (by decide) (by decide) (by decide) (by decide)]
            have e21 : μ4 21 = μx0 21 := by rw [b3 21 (by decide) (by decide) (by decide) (by decide), a2 21 (by decide), hx 21 (by decide)]
            have e22 : μ4 22 = μx0 22 := by rw [b3 22 (by decide) (by decide) (by decide) (by decide), a2 22 (by decide), hx 22 (by decide)]
            rw [e21, e22]
            exact w6 c hc
      · rw [fx2 (fun q => hf q.1), bn_s, if_pos w32_0]
        rw [show ∀ k, f_X9_adds_L89 h (gg S 199) ((rk S 199 : Nat) : Int) k FU 0 μm = _ from fun k => (hb k).2 (fun q => hf (hfeq.mpr q))]
        simp only [f_X8_refuseNumber, bn_s]
        exact wsx 7
    · rw [if_neg (show ¬ ((rk S 199 : Nat) : Int) ≤ 8 by omega), fx2 (fun q => h8 q.2), bn_s, if_pos w32_0]
      simp only [f_X8_refuseNumber, f_X9_refuse, bn_s]
      exact wsx 7
