/-! BASE of the pure proofs -/
theorem bn_s {β : Type} (r : Int) (μ : Mem) (k : Int → Mem → Option β) : bn (some (r, μ)) k = k r μ := rfl
theorem bn_if {β : Type} {c : Prop} [Decidable c] (a b : Option (Int × Mem)) (k : Int → Mem → Option β) : bn (if c then a else b) k = if c then bn a k else bn b k := by split <;> rfl
theorem jn_u {β γ : Type} (j : β) (b : β → γ) : jn j b = b j := rfl
theorem st_tag (μ : Mem) {t i k : Nat} {v : Int} {t' : Nat} (h : t' ≠ t) : st μ t i k v t' = μ t' := by
  funext i'
  exact st_ne μ (fun q => h q.1)
theorem st_idx (μ : Mem) {t i k : Nat} {v : Int} {t' i' : Nat} (h : i' ≠ i) : st μ t i k v t' i' = μ t' i' := st_ne μ (fun q => h q.2)
theorem up_eq (f : Nat → Int) (k : Nat) (v : Int) : up f k v k = v := if_pos rfl
theorem up_ne (f : Nat → Int) {k j : Nat} (v : Int) (h : j ≠ k) : up f k v j = f j := if_neg h
theorem w32n {k : Nat} (h : k ≤ 2147483647) : w32 (k : Int) = k := w32_id (by omega) (by omega)
theorem ix_id {x : Int} (h0 : 0 ≤ x) (h1 : x ≤ 2147483647) : ix x = x.toNat := by unfold ix; rw [w32_id (by omega) h1]
theorem ixn {k : Nat} (h : k ≤ 2147483647) : ix (k : Int) = k := by rw [ix_id (by omega) (by omega)]; exact Int.toNat_natCast k
theorem inb_id {x : Int} {n : Nat} (h0 : 0 ≤ x) (h1 : x < n) (h2 : n ≤ 2147483647) : inb x n := by
  have : w32 x = x := w32_id (by omega) (by omega)
  exact ⟨by omega, by omega⟩
theorem gd_inb {β : Type} {x : Int} {n : Nat} (k : Option β) (h0 : 0 ≤ x) (h1 : x < n) (h2 : n ≤ 2147483647) : gd (inb x n) k = k := gd_t k (inb_id h0 h1 h2)
theorem gd_b0 {β : Type} (k : Option β) : gd (bb 0) k = k := gd_t k (Or.inl rfl)
theorem gd_b1 {β : Type} (k : Option β) : gd (bb 1) k = k := gd_t k (Or.inr rfl)
/-- an int, a long of Java -/
def I32 (x : Int) : Prop := -2147483648 ≤ x ∧ x ≤ 2147483647
def I64 (x : Int) : Prop := -9223372036854775808 ≤ x ∧ x ≤ 9223372036854775807
theorem w32_0 : w32 0 = 0 := rfl
theorem w32_1 : w32 1 = 1 := rfl
theorem w32_m1 : w32 (-1) = -1 := rfl
/-! what the JDK's fill does -/
def fl_ (μ : Mem) (t i n : Nat) (v : Int) : Mem := fun t' i' k => if t' = t ∧ i' = i ∧ k < n then v else μ t' i' k
theorem fill_L (t i n : Nat) (v : Int) (hn : n ≤ 1000000) (L : Nat → Int → Mem → Option (Int × Mem)) (h0 : ∀ k x μ, L (k + 1) x μ = if w32 (n : Int) ≤ w32 x then some (0, μ) else gd (inb x n) (L k (x + 1) (st μ t i (ix x) v))) : ∀ (d k j : Nat) (μ : Mem), d + j = n → d < k → L k (j : Int) μ = some (0, fun t' i' q => if t' = t ∧ i' = i ∧ j ≤ q ∧ q < n then v else μ t' i' q) := by
  intro d
  induction d with
  | zero =>
    intro k j μ hd hk
    obtain ⟨k, rfl⟩ : ∃ q, k = q + 1 := ⟨k - 1, by omega⟩
    rw [h0, if_pos (by rw [w32n (by omega), w32n (by omega)]; omega)]
    congr 2
    funext t' i' q
    rw [if_neg (by omega)]
  | succ d ih =>
    intro k j μ hd hk
    obtain ⟨k, rfl⟩ : ∃ q, k = q + 1 := ⟨k - 1, by omega⟩
    rw [h0, if_neg (by rw [w32n (by omega), w32n (by omega)]; omega), gd_inb _ (by omega) (by omega) (by omega), ixn (by omega)]
    have := ih k (j + 1) (st μ t i j v) (by omega) (by omega)
    rw [show ((j : Int) + 1) = ((j + 1 : Nat) : Int) by omega, this]
    congr 2
    funext t' i' q
    by_cases hq : t' = t ∧ i' = i ∧ j ≤ q ∧ q < n
    · rw [if_pos hq]
      obtain ⟨rfl, rfl, h1, h2⟩ := hq
      by_cases hj : j = q
      · subst hj
        rw [if_neg (by omega), st_eq]
      · rw [if_pos (by omega)]
    · rw [if_neg hq, if_neg (by omega)]
      unfold st
      split
      · next hh => obtain ⟨rfl, rfl⟩ := hh; exact up_ne _ _ (by intro h; subst h; exact hq ⟨rfl, rfl, Nat.le_refl _, by omega⟩)
      · rfl
theorem fillI (t i n : Nat) (v : Int) (μ : Mem) (hn : n ≤ 100000) : f_J7_fill_53178 t i n v μ = some (0, fl_ μ t i n v) := by
  unfold f_J7_fill_53178
  rw [show (0 : Int) = ((0 : Nat) : Int) from rfl, fill_L t i n v (by omega) (f_J7_fill_53178_L t i n v) (fun k x μ => rfl) n FU 0 μ (by omega) (by unfold FU; omega)]
  simp only [fl_, Nat.zero_le, true_and]
  rfl
theorem fillL (t i n : Nat) (v : Int) (μ : Mem) (hn : n ≤ 100000) : f_J7_fill_d0a16 t i n v μ = some (0, fl_ μ t i n v) := by
  unfold f_J7_fill_d0a16
  rw [show (0 : Int) = ((0 : Nat) : Int) from rfl, fill_L t i n v (by omega) (f_J7_fill_d0a16_L t i n v) (fun k x μ => rfl) n FU 0 μ (by omega) (by unfold FU; omega)]
  simp only [fl_, Nat.zero_le, true_and]
  rfl
theorem fl_tag (μ : Mem) {t i n : Nat} {v : Int} {t' : Nat} (h : t' ≠ t) : fl_ μ t i n v t' = μ t' := by
  funext i' k
  unfold fl_
  rw [if_neg (fun q => h q.1)]
theorem fl_idx (μ : Mem) {t i n : Nat} {v : Int} {t' i' : Nat} (h : i' ≠ i) : fl_ μ t i n v t' i' = μ t' i' := by
  funext k
  unfold fl_
  rw [if_neg (fun q => h q.2.1)]
theorem fl_in (μ : Mem) {t i n k : Nat} {v : Int} (h : k < n) : fl_ μ t i n v t i k = v := if_pos ⟨rfl, rfl, h⟩
/-! Euclid -/
def egcd (a b : Int) : Int := ((Int.gcd a b : Nat) : Int)
theorem tmod_nn {a b : Int} (ha : 0 ≤ a) (hb : 0 < b) : 0 ≤ Int.tmod a b ∧ Int.tmod a b < b := by
  rw [Int.tmod_eq_emod_of_nonneg ha]
  exact ⟨Int.emod_nonneg a (by omega), Int.emod_lt_of_pos a hb⟩
theorem egcd_step {a b : Int} (ha : 0 ≤ a) (hb : 0 < b) : egcd a b = egcd b (Int.tmod a b) := by
  unfold egcd
  rw [Int.tmod_eq_emod_of_nonneg ha]
  congr 1
  have h1 : Int.gcd a b = Nat.gcd a.natAbs b.natAbs := rfl
  have h2 : Int.gcd b (a % b) = Nat.gcd b.natAbs (a % b).natAbs := rfl
  have h3 : (a % b).natAbs = a.natAbs % b.natAbs := Int.natAbs_emod_of_nonneg ha b
  rw [h1, h2, h3, Nat.gcd_comm a.natAbs, Nat.gcd_rec (b.natAbs) (a.natAbs), Nat.gcd_comm]
theorem egcd_0 {a : Int} (ha : 0 ≤ a) : egcd a 0 = a := by
  unfold egcd
  rw [Int.gcd_zero_right]
  omega
/-- Euclid's rule: of two steps the second rest is less than half -/
theorem half {a b : Int} (ha : 0 ≤ a) (hb : 0 < b) (h : Int.tmod a b ≠ 0) (k : Nat) (hk : b < 2 ^ (k + 1)) : Int.tmod b (Int.tmod a b) < 2 ^ k := by
  have hm := tmod_nn (b := b) ha hb
  have e : Int.tmod b (Int.tmod a b) = b % (Int.tmod a b) := Int.tmod_eq_emod_of_nonneg (by omega)
  have h3 := Int.emod_add_mul_ediv b (Int.tmod a b)
  have h4 : 1 ≤ b / Int.tmod a b := Int.le_ediv_of_mul_le (by omega) (by omega)
  have h5 : Int.tmod a b * 1 ≤ Int.tmod a b * (b / Int.tmod a b) := Int.mul_le_mul_of_nonneg_left h4 (by omega)
  have h7 : b % (Int.tmod a b) < Int.tmod a b := Int.emod_lt_of_pos b (by omega)
  have h6 : (2 : Int) ^ (k + 1) = 2 * 2 ^ k := by rw [Int.pow_succ]; omega
  rw [e]
  omega
/-- the rounds that the rule needs: any L that does its steps and stops at 0 -/
theorem euclid (L : Nat → Int → Int → Int → Mem → Option (Int × Mem)) (lim : Int) (hlim : lim ≤ 1000000)
    (h0 : ∀ n a x μ, 0 ≤ a → a ≤ 9223372036854775807 → L (n + 1) a 0 x μ = some (a, μ))
    (h1 : ∀ n a b x μ, 0 ≤ a → a ≤ 9223372036854775807 → 0 < b → b ≤ 9223372036854775807 → 0 ≤ x → x < lim → L (n + 1) a b x μ = L n b (Int.tmod a b) (x + 1) μ) :
    ∀ (k n : Nat) (a b x : Int) (μ : Mem), 0 ≤ a → 0 ≤ b → a ≤ 9223372036854775807 → b ≤ 9223372036854775807 → b < 2 ^ k → 0 ≤ x → x + 2 * k < lim → 2 * k < n → L n a b x μ = some (egcd a b, μ) := by
  intro k
  induction k with
  | zero =>
    intro n a b x μ ha hb ha2 hb2 hk hx hxl hn
    obtain ⟨n, rfl⟩ : ∃ q, n = q + 1 := ⟨n - 1, by omega⟩
    have : b = 0 := by simp at hk; omega
    rw [this, h0 n a x μ ha ha2, egcd_0 ha]
  | succ k ih =>
    intro n a b x μ ha hb ha2 hb2 hk hx hxl hn
    obtain ⟨n, rfl⟩ : ∃ q, n = q + 2 := ⟨n - 2, by omega⟩
    by_cases hb0 : b = 0
    · rw [hb0, h0 (n + 1) a x μ ha ha2, egcd_0 ha]
    · have hm := tmod_nn (b := b) ha (by omega)
      rw [h1 (n + 1) a b x μ ha ha2 (by omega) hb2 hx (by omega), egcd_step ha (by omega)]
      by_cases hc : Int.tmod a b = 0
      · rw [hc, h0 n b (x + 1) μ hb hb2, egcd_0 hb]
      · have hm2 := tmod_nn (a := b) (b := Int.tmod a b) hb (by omega)
        rw [h1 n b (Int.tmod a b) (x + 1) μ hb hb2 (by omega) (by omega) (by omega) (by omega), egcd_step hb (by omega)]
        exact ih n _ _ _ μ (by omega) (by omega) (by omega) (by omega) (half ha (by omega) hc k hk) (by omega) (by omega) (by omega)
theorem common_M {a b : Int} (μ : Mem) (ha : 0 ≤ a) (hb : 0 ≤ b) (ha2 : a ≤ 9223372036854775807) (hb2 : b ≤ 9223372036854775807) : f_X9_common a b μ = some (egcd a b, μ) := by
  unfold f_X9_common
  refine euclid (fun n a b _ μ => f_X9_common_L6 n a b μ) 1000000 (by omega) (fun n a x μ _ _ => ?_) (fun n a b x μ h1 h2 h3 h4 _ _ => ?_) 63 FU a b 0 μ ha hb ha2 hb2 (by omega) (by omega) (by omega) (by unfold FU; omega)
  · show f_X9_common_L6 (n + 1) a 0 μ = _
    rw [f_X9_common_L6.eq_2, if_pos rfl]
  · show f_X9_common_L6 (n + 1) a b μ = f_X9_common_L6 n b (Int.tmod a b) μ
    have e1 : w64 b = b := w64_id (by omega) (by omega)
    have e2 : w64 a = a := w64_id (by omega) (by omega)
    rw [f_X9_common_L6.eq_2, if_neg (by rw [e1]; exact fun q => (by have : b = 0 := q; omega)), gd_t _ (by rw [e1]; omega), e1, e2]
theorem common_X {a b : Int} (μ : Mem) (ha : 0 ≤ a) (hb : 0 ≤ b) (ha2 : a ≤ 9223372036854775807) (hb2 : b ≤ 9223372036854775807) : f_X8_commonDivisor a b μ = some (egcd a b, μ) := by
  unfold f_X8_commonDivisor
  refine euclid f_X8_commonDivisor_L9 200 (by omega) (fun n a x μ _ _ => ?_) (fun n a b x μ h1 h2 h3 h4 h5 h6 => ?_) 63 FU a b 0 μ ha hb ha2 hb2 (by omega) (by omega) (by omega) (by unfold FU; omega)
  · rw [f_X8_commonDivisor_L9.eq_2]
    split
    · rfl
    · rw [if_pos rfl]
  · have e1 : w64 b = b := w64_id (by omega) (by omega)
    have e2 : w64 a = a := w64_id (by omega) (by omega)
    have e3 : w32 x = x := w32_id (by omega) (by omega)
    have e4 : w32 200 = 200 := rfl
    rw [f_X8_commonDivisor_L9.eq_2, if_neg (by rw [e3, e4]; omega), if_neg (by rw [e1]; exact fun q => (by have : b = 0 := q; omega)), gd_t _ (by rw [e1]; omega), e1, e2]
theorem egcd_pos {a b : Int} (hb : 0 < b) : 0 < egcd a b := by
  unfold egcd
  have := Int.gcd_pos_of_ne_zero_right a (b := b) (by omega)
  omega
theorem egcd_le {a b : Int} (hb : 0 < b) : egcd a b ≤ b := by
  unfold egcd
  have h := Int.gcd_dvd_right a b
  exact Int.le_of_dvd hb h
theorem egcd_dl (a b : Int) : egcd a b ∣ a := Int.gcd_dvd_left a b
theorem egcd_dr (a b : Int) : egcd a b ∣ b := Int.gcd_dvd_right a b
theorem egcd_nn (a b : Int) : 0 ≤ egcd a b := by unfold egcd; omega
