/-! THE WEIGHT of all ways -/
theorem sm_split {f : Nat → Int} {a : Nat} : ∀ b, sm f (a + b) = sm f a + sm (fun i => f (a + i)) b := by
  intro b
  induction b with
  | zero => show sm f a = sm f a + 0; omega
  | succ b ih =>
    show sm f (a + b) + f (a + b) = sm f a + (sm (fun i => f (a + i)) b + f (a + b))
    omega
theorem sm_mulN {f : Nat → Int} {a : Nat} : ∀ b, sm f (a * b) = sm (fun q => sm (fun i => f (a * q + i)) a) b := by
  intro b
  induction b with
  | zero => rfl
  | succ b ih =>
    rw [Nat.mul_succ, sm_split, ih]; rfl
theorem sm_cmul {f : Nat → Int} {c : Int} : ∀ n, sm (fun k => f k * c) n = sm f n * c := by
  intro n
  induction n with
  | zero => show (0 : Int) = 0 * c; rw [Int.zero_mul]
  | succ n ih =>
    show sm (fun k => f k * c) n + f n * c = (sm f n + f n) * c
    rw [ih, Int.add_mul]
theorem sm_cmull {f : Nat → Int} {c : Int} (n : Nat) : sm (fun k => c * f k) n = c * sm f n := by
  rw [Int.mul_comm c, ← sm_cmul]
  exact sm_congr _ (fun k _ => Int.mul_comm _ _)
theorem pr_congr {f g : Nat → Int} : ∀ n, (∀ k, k < n → f k = g k) → pr f n = pr g n := by
  intro n
  induction n with
  | zero => intro _; rfl
  | succ n ih =>
    intro h
    show pr f n * f n = pr g n * g n
    rw [ih (fun k hk => h k (by omega)), h n (by omega)]
theorem dig_low {D : Dt} (O : OKD D) {n p q i : Nat} (hp : p < n) (hn : n ≤ dnp D) : dig D (wR D n * q + i) p = dig D i p := by
  obtain ⟨m, hm⟩ := wR_dvd (D := D) (n := p + 1) (n - (p + 1))
  rw [show p + 1 + (n - (p + 1)) = n by omega] at hm
  have hm' : wR D n = wR D p * drw D p * m := hm
  have hw := ((cW_le O).2.2.2 p (by omega)).1
  unfold dig
  rw [hm', Nat.mul_assoc (wR D p), Nat.mul_assoc (wR D p), Nat.mul_add_div hw, Nat.mul_assoc (drw D p), Nat.mul_add_mod]
theorem dig_at {D : Dt} (O : OKD D) {n q i : Nat} (hn : n < dnp D) (hi : i < wR D n) (hq : q < drw D n) : dig D (wR D n * q + i) n = q := by
  have hw := ((cW_le O).2.2.2 n (by omega)).1
  unfold dig
  rw [Nat.mul_add_div hw, Nat.div_eq_of_lt hi, Nat.add_zero, Nat.mod_eq_of_lt hq]
theorem rows_sum {D : Dt} (O : OKD D) : ∀ n, n ≤ dnp D → sm (fun k => pr (fun p => dwt D p (dig D k p)) n) (wR D n) = pr (daw D) n := by
  intro n
  induction n with
  | zero => intro _; rfl
  | succ n ih =>
    intro hn
    have i1 := ih (by omega)
    have e1 : wR D (n + 1) = wR D n * drw D n := rfl
    rw [e1, sm_mulN]
    have : sm (fun q => sm (fun i => pr (fun p => dwt D p (dig D (wR D n * q + i) p)) (n + 1)) (wR D n)) (drw D n) = sm (fun q => pr (daw D) n * dwt D n q) (drw D n) := by
      refine sm_congr _ (fun q hq => ?_)
      rw [← i1, ← sm_cmul]
      refine sm_congr _ (fun i hi => ?_)
      show pr (fun p => dwt D p (dig D (wR D n * q + i) p)) n * dwt D n (dig D (wR D n * q + i) n) = _
      rw [dig_at O (by omega) hi hq, pr_congr (g := fun p => dwt D p (dig D i p)) n (fun p hp => by rw [dig_low O hp (by omega)])]
    rw [this, sm_cmull, ← ok_aw O (by omega)]
    rfl
theorem bit_low {C q n c : Nat} (hc : c < n) : (2 ^ n * q + C).testBit c = C.testBit c := by
  rw [bit_div, bit_div, show 2 ^ n = 2 ^ c * (2 * 2 ^ (n - (c + 1))) by rw [← Nat.pow_succ', ← Nat.pow_add]; congr 1; omega, Nat.mul_assoc, Nat.mul_add_div (Nat.two_pow_pos c), Nat.mul_assoc 2, Nat.mul_add_mod]
theorem bit_at {q i n : Nat} (hi : i < 2 ^ n) (hq : q < 2) : (2 ^ n * q + i).testBit n = decide (q = 1) := by
  rw [bit_div, Nat.mul_add_div (Nat.two_pow_pos n), Nat.div_eq_of_lt hi, Nat.add_zero, Nat.mod_eq_of_lt hq]
theorem causes_sum {D : Dt} : ∀ n, sm (fun C => pr (fun c => if C.testBit c then dct D c else dcl D c - dct D c) n) (2 ^ n) = pr (dcl D) n := by
  intro n
  induction n with
  | zero => rfl
  | succ n ih =>
    rw [Nat.pow_succ, sm_mulN]
    have : sm (fun q => sm (fun i => pr (fun c => if (2 ^ n * q + i).testBit c then dct D c else dcl D c - dct D c) (n + 1)) (2 ^ n)) 2 = sm (fun q => pr (dcl D) n * (if q = 1 then dct D n else dcl D n - dct D n)) 2 := by
      refine sm_congr _ (fun q hq => ?_)
      rw [← ih, ← sm_cmul]
      refine sm_congr _ (fun i hi => ?_)
      show pr (fun c => if (2 ^ n * q + i).testBit c then dct D c else dcl D c - dct D c) n * (if (2 ^ n * q + i).testBit n = true then dct D n else dcl D n - dct D n) = _
      rw [pr_congr (g := fun c => if i.testBit c then dct D c else dcl D c - dct D c) n (fun c hc => by rw [bit_low hc])]
      congr 1
      rw [bit_at hi hq]
      by_cases e : q = 1
      · rw [if_pos e, if_pos (decide_eq_true e)]
      · rw [if_neg e, if_neg (by rw [decide_eq_false e]; decide)]
    rw [this]
    show (0 + pr (dcl D) n * (dcl D n - dct D n)) + pr (dcl D) n * dct D n = pr (dcl D) n * dcl D n
    rw [Int.zero_add, ← Int.mul_add]
    congr 1; omega
theorem all_sum {D : Dt} (O : OKD D) : sm (wWt D) (cW D) = tot D := by
  have hw := ((cW_le O).2.2.2 (dnp D) (Nat.le_refl _)).1
  have e1 : cW D = wR D (dnp D) * 2 ^ dnc D := rfl
  rw [e1, sm_mulN]
  have : sm (fun q => sm (fun i => wWt D (wR D (dnp D) * q + i)) (wR D (dnp D))) (2 ^ dnc D) = sm (fun q => pr (daw D) (dnp D) * pr (fun c => if q.testBit c then dct D c else dcl D c - dct D c) (dnc D)) (2 ^ dnc D) := by
    refine sm_congr _ (fun q _ => ?_)
    rw [← rows_sum O (dnp D) (Nat.le_refl _), ← sm_cmul]
    refine sm_congr _ (fun i hi => ?_)
    unfold wWt wtg
    rw [pr_congr (g := fun p => dwt D p (dig D i p)) (dnp D) (fun p hp => by rw [dig_low O hp (Nat.le_refl _)])]
    congr 1
    refine pr_congr _ (fun c _ => ?_)
    unfold cbt
    rw [Nat.mul_add_div hw, Nat.div_eq_of_lt hi, Nat.add_zero]
  rw [this, sm_cmull, causes_sum]
  rfl
theorem wWt_pos {D : Dt} (O : OKD D) {k : Nat} : 1 ≤ wWt D k := by
  have h1 := pr_pos (f := fun p => dwt D p (dig D k p)) (dnp D) (fun p hp => (ok_wt O hp (dig_lt O hp)).1)
  have h2 := pr_pos (f := fun c => if cbt D k c then dct D c else dcl D c - dct D c) (dnc D) (fun c hc => by have := ok_ct O hc; split <;> omega)
  have := le_mul1 (show 0 ≤ pr (fun p => dwt D p (dig D k p)) (dnp D) by omega) h2
  unfold wWt wtg
  omega
theorem wWt_le {D : Dt} (O : OKD D) {k : Nat} (hk : k < cW D) : wWt D k ≤ tot D := by
  rw [← all_sum O]
  exact sm_ge (cW D) k hk (fun q _ => by have := wWt_pos O (k := q); omega)
theorem lw_y {D : Dt} {k : Nat} (h : wLft D k) : lw D k = wWt D k := by unfold lw; rw [if_pos h]
theorem lw_n {D : Dt} {k : Nat} (h : ¬ wLft D k) : lw D k = 0 := by unfold lw; rw [if_neg h]
theorem lw_bd {D : Dt} (O : OKD D) {k : Nat} : 0 ≤ lw D k ∧ lw D k ≤ wWt D k := by
  have := wWt_pos O (k := k)
  by_cases h : wLft D k
  · rw [lw_y h]; omega
  · rw [lw_n h]; omega
noncomputable def LL (D : Dt) : Int := sm (lw D) (cW D)
theorem sm_nn {f : Nat → Int} {n : Nat} (h : ∀ k, k < n → 0 ≤ f k) : 0 ≤ sm f n := by
  have := sm_le (f := fun _ => 0) (g := f) n h
  rw [sm_zero n (fun _ _ => rfl)] at this
  exact this
/-- a sum over ways, each with at most its left weight, is at most all -/
theorem sm_tot {D : Dt} (O : OKD D) {f : Nat → Int} {n : Nat} (hn : n ≤ cW D) (h : ∀ k, k < n → 0 ≤ f k ∧ f k ≤ lw D k) : 0 ≤ sm f n ∧ sm f n ≤ LL D ∧ LL D ≤ tot D := by
  have h1 := sm_le (f := f) (g := lw D) n (fun k hk => (h k hk).2)
  have h2 := sm_split (f := lw D) (a := n) (cW D - n)
  rw [show n + (cW D - n) = cW D by omega] at h2
  have h3 := sm_nn (f := fun i => lw D (n + i)) (n := cW D - n) (fun k _ => (lw_bd O).1)
  have h4 := sm_le (f := lw D) (g := wWt D) (cW D) (fun k _ => (lw_bd O).2)
  rw [all_sum O] at h4
  have : LL D = sm (lw D) (cW D) := rfl
  exact ⟨sm_nn (fun k hk => (h k hk).1), by omega, h4⟩
theorem LL_bd {D : Dt} (O : OKD D) : 0 ≤ LL D ∧ LL D ≤ tot D := by
  have := sm_tot O (f := lw D) (Nat.le_refl (cW D)) (fun k _ => ⟨(lw_bd O).1, Int.le_refl _⟩)
  exact ⟨this.1, this.2.2⟩
/-- sums by day are sums over ways -/
theorem sm_day {P : Nat → Prop} [DecidablePred P] {V : Nat → Int} {w : Nat → Int} {n : Nat} (hV : ∀ k, k < n → 0 ≤ V k) (g : Nat → Int) : ∀ m, sm (fun d => g d * sm (fun k => if P k ∧ V k = (d : Int) then w k else 0) n) m = sm (fun k => if P k ∧ V k < (m : Int) then g (V k).toNat * w k else 0) n := by
  intro m
  induction m with
  | zero =>
    rw [sm_zero n (fun k hk => if_neg (fun z => by have := hV k hk; omega))]; rfl
  | succ m ih =>
    show sm (fun d => g d * sm (fun k => if P k ∧ V k = (d : Int) then w k else 0) n) m + g m * sm (fun k => if P k ∧ V k = (m : Int) then w k else 0) n = _
    rw [ih, ← sm_cmull, ← sm_add]
    refine sm_congr _ (fun k hk => ?_)
    have := hV k hk
    by_cases h1 : P k
    · by_cases h2 : V k < (m : Int)
      · rw [if_pos ⟨h1, h2⟩, if_neg (fun z => by omega), if_pos ⟨h1, by omega⟩, Int.mul_zero, Int.add_zero]
      · by_cases h3 : V k = (m : Int)
        · rw [if_neg (fun z => h2 z.2), if_pos ⟨h1, h3⟩, if_pos ⟨h1, by omega⟩, Int.zero_add, h3, Int.toNat_natCast]
        · rw [if_neg (fun z => h2 z.2), if_neg (fun z => h3 z.2), if_neg (fun z => by omega), Int.mul_zero, Int.add_zero]
    · rw [if_neg (fun z => h1 z.1), if_neg (fun z => h1 z.1), if_neg (fun z => h1 z.1), Int.mul_zero, Int.add_zero]
