/-! THE LENGTH of the kept rows stays (by program k28.py) -/
def KZ (Z : Nat → Nat → Int) (o : Option (Int × Mem)) : Prop := ∀ r μ', o = some (r, μ') → μ' 28 = Z
theorem kz_ret {Z : Nat → Nat → Int} {r : Int} {μ : Mem} (hz : μ 28 = Z) : KZ Z (some (r, μ)) := by
  intro r' μ' h; rw [← (inj2 h).2]; exact hz
theorem kz_none {Z : Nat → Nat → Int} : KZ Z none := by intro r' μ' h; cases h
theorem kz_gd {Z : Nat → Nat → Int} {c : Prop} [Decidable c] {k : Option (Int × Mem)} (h : KZ Z k) : KZ Z (gd c k) := by
  intro r' μ' q; exact h _ _ (gd_some q).2
theorem kz_ite {Z : Nat → Nat → Int} {c : Prop} [Decidable c] {a b : Option (Int × Mem)} (ha : KZ Z a) (hb : KZ Z b) : KZ Z (if c then a else b) := by
  by_cases h : c
  · rw [if_pos h]; exact ha
  · rw [if_neg h]; exact hb
theorem kz_bn {Z : Nat → Nat → Int} {o : Option (Int × Mem)} {k : Int → Mem → Option (Int × Mem)} (ho : KZ Z o) (hk : ∀ r μ, μ 28 = Z → KZ Z (k r μ)) : KZ Z (bn o k) := by
  intro r' μ' q
  obtain ⟨r, μ, h1, h2⟩ := bn_some q
  exact hk r μ (ho _ _ h1) _ _ h2
theorem kz_j0 {Z : Nat → Nat → Int} {j : Option (Int × Mem)} {b : Option (Int × Mem) → Option (Int × Mem)} (hj : KZ Z j) (hb : ∀ j, KZ Z j → KZ Z (b j)) : KZ Z (jn j b) := hb j hj
theorem kz_j1 {Z : Nat → Nat → Int} {j : Mem → Option (Int × Mem)} {b : (Mem → Option (Int × Mem)) → Option (Int × Mem)} (hj : ∀ μ, μ 28 = Z → KZ Z (j μ)) (hb : ∀ j, (∀ μ, μ 28 = Z → KZ Z (j μ)) → KZ Z (b j)) : KZ Z (jn j b) := hb j hj
theorem kz_i1 {Z : Nat → Nat → Int} {j : Int → Option (Int × Mem)} {b : (Int → Option (Int × Mem)) → Option (Int × Mem)} (hj : ∀ x, KZ Z (j x)) (hb : ∀ j, (∀ x, KZ Z (j x)) → KZ Z (b j)) : KZ Z (jn j b) := hb j hj
theorem kz_j2 {Z : Nat → Nat → Int} {j : Int → Mem → Option (Int × Mem)} {b : (Int → Mem → Option (Int × Mem)) → Option (Int × Mem)} (hj : ∀ x μ, μ 28 = Z → KZ Z (j x μ)) (hb : ∀ j, (∀ x μ, μ 28 = Z → KZ Z (j x μ)) → KZ Z (b j)) : KZ Z (jn j b) := hb j hj
theorem kz_j3 {Z : Nat → Nat → Int} {j : Int → Int → Mem → Option (Int × Mem)} {b : (Int → Int → Mem → Option (Int × Mem)) → Option (Int × Mem)} (hj : ∀ x y μ, μ 28 = Z → KZ Z (j x y μ)) (hb : ∀ j, (∀ x y μ, μ 28 = Z → KZ Z (j x y μ)) → KZ Z (b j)) : KZ Z (jn j b) := hb j hj
theorem kz_h1 {Z : Nat → Nat → Int} {j : Mem → Option (Int × Mem)} {μ : Mem} (h : ∀ μ, μ 28 = Z → KZ Z (j μ)) (hz : μ 28 = Z) : KZ Z (j μ) := h μ hz
theorem kz_g1 {Z : Nat → Nat → Int} {j : Int → Option (Int × Mem)} {x : Int} (h : ∀ x, KZ Z (j x)) : KZ Z (j x) := h x
theorem kz_h2 {Z : Nat → Nat → Int} {j : Int → Mem → Option (Int × Mem)} {x : Int} {μ : Mem} (h : ∀ x μ, μ 28 = Z → KZ Z (j x μ)) (hz : μ 28 = Z) : KZ Z (j x μ) := h x μ hz
theorem kz_h3 {Z : Nat → Nat → Int} {j : Int → Int → Mem → Option (Int × Mem)} {x y : Int} {μ : Mem} (h : ∀ x y μ, μ 28 = Z → KZ Z (j x y μ)) (hz : μ 28 = Z) : KZ Z (j x y μ) := h x y μ hz
theorem z28 {Z : Nat → Nat → Int} {μ : Mem} {t i k : Nat} {v : Int} (h : 28 ≠ t) (hz : μ 28 = Z) : st μ t i k v 28 = Z := by rw [st_tag _ h]; exact hz
theorem k_J7_fill_53178 {Z : Nat → Nat → Int} {t i n : Nat} {v : Int} {μ : Mem} (ht : 28 ≠ t) (hn : n ≤ 100000) (hz : μ 28 = Z) : KZ Z (f_J7_fill_53178 t i n v μ) := by
  rw [fillI t i n v μ hn]
  exact kz_ret (by rw [fl_tag _ ht]; exact hz)
theorem k_J7_fill_d0a16 {Z : Nat → Nat → Int} {t i n : Nat} {v : Int} {μ : Mem} (ht : 28 ≠ t) (hn : n ≤ 100000) (hz : μ 28 = Z) : KZ Z (f_J7_fill_d0a16 t i n v μ) := by
  rw [fillL t i n v μ hn]
  exact kz_ret (by rw [fl_tag _ ht]; exact hz)
theorem k_X8_status {Z : Nat → Nat → Int}  {μ : Mem} (hz : μ 28 = Z) : KZ Z (f_X8_status μ) := by
  unfold f_X8_status
  repeat' (first | assumption | with_reducible refine kz_ret ?_ | with_reducible refine z28 (by decide) ?_ | with_reducible refine kz_gd ?_ | with_reducible refine kz_ite ?_ ?_ | with_reducible refine kz_bn ?_ ?_ | with_reducible refine kz_h3 (by assumption) ?_ | with_reducible refine kz_h2 (by assumption) ?_ | with_reducible refine kz_h1 (by assumption) ?_ | with_reducible refine kz_g1 (by assumption) | (intros; dsimp only) | intros | dsimp only)
theorem k_X8_upper {Z : Nat → Nat → Int}  {μ : Mem} (hz : μ 28 = Z) : KZ Z (f_X8_upper μ) := by
  unfold f_X8_upper
  repeat' (first | assumption | with_reducible refine kz_ret ?_ | with_reducible refine z28 (by decide) ?_ | with_reducible refine kz_gd ?_ | with_reducible refine kz_ite ?_ ?_ | with_reducible refine kz_bn ?_ ?_ | with_reducible refine kz_h3 (by assumption) ?_ | with_reducible refine kz_h2 (by assumption) ?_ | with_reducible refine kz_h1 (by assumption) ?_ | with_reducible refine kz_g1 (by assumption) | (intros; dsimp only) | intros | dsimp only)
theorem k_X8_lower {Z : Nat → Nat → Int}  {μ : Mem} (hz : μ 28 = Z) : KZ Z (f_X8_lower μ) := by
  unfold f_X8_lower
  repeat' (first | assumption | with_reducible refine kz_ret ?_ | with_reducible refine z28 (by decide) ?_ | with_reducible refine kz_gd ?_ | with_reducible refine kz_ite ?_ ?_ | with_reducible refine kz_bn ?_ ?_ | with_reducible refine kz_h3 (by assumption) ?_ | with_reducible refine kz_h2 (by assumption) ?_ | with_reducible refine kz_h1 (by assumption) ?_ | with_reducible refine kz_g1 (by assumption) | (intros; dsimp only) | intros | dsimp only)
theorem k_X8_isTray {Z : Nat → Nat → Int} {a0 : Int} {μ : Mem} (hz : μ 28 = Z) : KZ Z (f_X8_isTray a0 μ) := by
  unfold f_X8_isTray
  repeat' (first | assumption | with_reducible refine kz_ret ?_ | with_reducible refine z28 (by decide) ?_ | with_reducible refine kz_gd ?_ | with_reducible refine kz_ite ?_ ?_ | with_reducible refine kz_bn ?_ ?_ | with_reducible refine kz_h3 (by assumption) ?_ | with_reducible refine kz_h2 (by assumption) ?_ | with_reducible refine kz_h1 (by assumption) ?_ | with_reducible refine kz_g1 (by assumption) | (intros; dsimp only) | intros | dsimp only)
theorem k_X8_refuse {Z : Nat → Nat → Int} {a1 : Int} {μ : Mem} (hz : μ 28 = Z) : KZ Z (f_X8_refuse a1 μ) := by
  unfold f_X8_refuse
  repeat' (first | assumption | with_reducible refine kz_ret ?_ | with_reducible refine z28 (by decide) ?_ | with_reducible refine kz_gd ?_ | with_reducible refine kz_ite ?_ ?_ | with_reducible refine kz_bn ?_ ?_ | with_reducible refine kz_h3 (by assumption) ?_ | with_reducible refine kz_h2 (by assumption) ?_ | with_reducible refine kz_h1 (by assumption) ?_ | with_reducible refine kz_g1 (by assumption) | (intros; dsimp only) | intros | dsimp only)
theorem k_X5_layOut {Z : Nat → Nat → Int} {i0 : Nat} {a1 : Int} {a2 : Int} {μ : Mem} (hz : μ 28 = Z) : KZ Z (f_X5_layOut i0 a1 a2 μ) := by
  unfold f_X5_layOut
  repeat' (first | assumption | with_reducible refine kz_ret ?_ | with_reducible refine z28 (by decide) ?_ | with_reducible refine kz_gd ?_ | with_reducible refine kz_ite ?_ ?_ | with_reducible refine kz_bn ?_ ?_ | with_reducible refine k_J7_fill_d0a16 (by decide) (by decide) ?_ | with_reducible refine kz_h3 (by assumption) ?_ | with_reducible refine kz_h2 (by assumption) ?_ | with_reducible refine kz_h1 (by assumption) ?_ | with_reducible refine kz_g1 (by assumption) | (intros; dsimp only) | intros | dsimp only)
theorem k_X8_well {Z : Nat → Nat → Int}  {μ : Mem} (hz : μ 28 = Z) : KZ Z (f_X8_well μ) := by
  unfold f_X8_well
  repeat' (first | assumption | with_reducible refine kz_ret ?_ | with_reducible refine z28 (by decide) ?_ | with_reducible refine kz_gd ?_ | with_reducible refine kz_ite ?_ ?_ | with_reducible refine kz_bn ?_ ?_ | with_reducible refine kz_h3 (by assumption) ?_ | with_reducible refine kz_h2 (by assumption) ?_ | with_reducible refine kz_h1 (by assumption) ?_ | with_reducible refine kz_g1 (by assumption) | (intros; dsimp only) | intros | dsimp only)
theorem k_X8_tray {Z : Nat → Nat → Int} {a1 : Int} {a2 : Int} {a3 : Int} {μ : Mem} (hz : μ 28 = Z) : KZ Z (f_X8_tray a1 a2 a3 μ) := by
  unfold f_X8_tray
  repeat' (first | assumption | with_reducible refine kz_ret ?_ | with_reducible refine z28 (by decide) ?_ | with_reducible refine kz_gd ?_ | with_reducible refine kz_ite ?_ ?_ | with_reducible refine kz_bn ?_ ?_ | with_reducible refine k_X8_isTray ?_ | with_reducible refine k_X8_refuse ?_ | with_reducible refine k_X5_layOut ?_ | with_reducible refine k_X8_well ?_ | with_reducible refine kz_h3 (by assumption) ?_ | with_reducible refine kz_h2 (by assumption) ?_ | with_reducible refine kz_h1 (by assumption) ?_ | with_reducible refine kz_g1 (by assumption) | (intros; dsimp only) | intros | dsimp only)
theorem k_X5_isMissing {Z : Nat → Nat → Int} {i0 : Nat} {μ : Mem} (hz : μ 28 = Z) : KZ Z (f_X5_isMissing i0 μ) := by
  unfold f_X5_isMissing
  repeat' (first | assumption | with_reducible refine kz_ret ?_ | with_reducible refine z28 (by decide) ?_ | with_reducible refine kz_gd ?_ | with_reducible refine kz_ite ?_ ?_ | with_reducible refine kz_bn ?_ ?_ | with_reducible refine kz_h3 (by assumption) ?_ | with_reducible refine kz_h2 (by assumption) ?_ | with_reducible refine kz_h1 (by assumption) ?_ | with_reducible refine kz_g1 (by assumption) | (intros; dsimp only) | intros | dsimp only)
theorem k_X5_has {Z : Nat → Nat → Int} {i0 : Nat} {a1 : Int} {μ : Mem} (hz : μ 28 = Z) : KZ Z (f_X5_has i0 a1 μ) := by
  unfold f_X5_has
  repeat' (first | assumption | with_reducible refine kz_ret ?_ | with_reducible refine z28 (by decide) ?_ | with_reducible refine kz_gd ?_ | with_reducible refine kz_ite ?_ ?_ | with_reducible refine kz_bn ?_ ?_ | with_reducible refine kz_h3 (by assumption) ?_ | with_reducible refine kz_h2 (by assumption) ?_ | with_reducible refine kz_h1 (by assumption) ?_ | with_reducible refine kz_g1 (by assumption) | (intros; dsimp only) | intros | dsimp only)
theorem k_X8_placeTrouble {Z : Nat → Nat → Int} {a1 : Int} {a2 : Int} {μ : Mem} (hz : μ 28 = Z) : KZ Z (f_X8_placeTrouble a1 a2 μ) := by
  unfold f_X8_placeTrouble
  repeat' (first | assumption | with_reducible refine kz_ret ?_ | with_reducible refine z28 (by decide) ?_ | with_reducible refine kz_gd ?_ | with_reducible refine kz_ite ?_ ?_ | with_reducible refine kz_bn ?_ ?_ | with_reducible refine k_X8_isTray ?_ | with_reducible refine k_X5_isMissing ?_ | with_reducible refine k_X5_has ?_ | with_reducible refine kz_h3 (by assumption) ?_ | with_reducible refine kz_h2 (by assumption) ?_ | with_reducible refine kz_h1 (by assumption) ?_ | with_reducible refine kz_g1 (by assumption) | (intros; dsimp only) | intros | dsimp only)
theorem k_X5_cut {Z : Nat → Nat → Int} {i0 : Nat} {a1 : Int} {μ : Mem} (hz : μ 28 = Z) : KZ Z (f_X5_cut i0 a1 μ) := by
  unfold f_X5_cut
  repeat' (first | assumption | with_reducible refine kz_ret ?_ | with_reducible refine z28 (by decide) ?_ | with_reducible refine kz_gd ?_ | with_reducible refine kz_ite ?_ ?_ | with_reducible refine kz_bn ?_ ?_ | with_reducible refine kz_h3 (by assumption) ?_ | with_reducible refine kz_h2 (by assumption) ?_ | with_reducible refine kz_h1 (by assumption) ?_ | with_reducible refine kz_g1 (by assumption) | (intros; dsimp only) | intros | dsimp only)
theorem k_X5_put {Z : Nat → Nat → Int} {i0 : Nat} {a1 : Int} {a2 : Int} {μ : Mem} (hz : μ 28 = Z) : KZ Z (f_X5_put i0 a1 a2 μ) := by
  unfold f_X5_put
  repeat' (first | assumption | with_reducible refine kz_ret ?_ | with_reducible refine z28 (by decide) ?_ | with_reducible refine kz_gd ?_ | with_reducible refine kz_ite ?_ ?_ | with_reducible refine kz_bn ?_ ?_ | with_reducible refine k_X5_has ?_ | with_reducible refine k_X5_cut ?_ | with_reducible refine kz_h3 (by assumption) ?_ | with_reducible refine kz_h2 (by assumption) ?_ | with_reducible refine kz_h1 (by assumption) ?_ | with_reducible refine kz_g1 (by assumption) | (intros; dsimp only) | intros | dsimp only)
theorem k_X8_write {Z : Nat → Nat → Int} {a1 : Int} {a2 : Int} {a3 : Int} {μ : Mem} (hz : μ 28 = Z) : KZ Z (f_X8_write a1 a2 a3 μ) := by
  unfold f_X8_write
  repeat' (first | assumption | with_reducible refine kz_ret ?_ | with_reducible refine z28 (by decide) ?_ | with_reducible refine kz_gd ?_ | with_reducible refine kz_ite ?_ ?_ | with_reducible refine kz_bn ?_ ?_ | with_reducible refine k_X8_placeTrouble ?_ | with_reducible refine k_X5_put ?_ | with_reducible refine k_X8_well ?_ | with_reducible refine k_X8_refuse ?_ | with_reducible refine kz_h3 (by assumption) ?_ | with_reducible refine kz_h2 (by assumption) ?_ | with_reducible refine kz_h1 (by assumption) ?_ | with_reducible refine kz_g1 (by assumption) | (intros; dsimp only) | intros | dsimp only)
theorem k_X5_numberAt {Z : Nat → Nat → Int} {i0 : Nat} {a1 : Int} {μ : Mem} (hz : μ 28 = Z) : KZ Z (f_X5_numberAt i0 a1 μ) := by
  unfold f_X5_numberAt
  repeat' (first | assumption | with_reducible refine kz_ret ?_ | with_reducible refine z28 (by decide) ?_ | with_reducible refine kz_gd ?_ | with_reducible refine kz_ite ?_ ?_ | with_reducible refine kz_bn ?_ ?_ | with_reducible refine k_X5_has ?_ | with_reducible refine kz_h3 (by assumption) ?_ | with_reducible refine kz_h2 (by assumption) ?_ | with_reducible refine kz_h1 (by assumption) ?_ | with_reducible refine kz_g1 (by assumption) | (intros; dsimp only) | intros | dsimp only)
theorem k_X8_refuseNumber {Z : Nat → Nat → Int} {a1 : Int} {μ : Mem} (hz : μ 28 = Z) : KZ Z (f_X8_refuseNumber a1 μ) := by
  unfold f_X8_refuseNumber
  repeat' (first | assumption | with_reducible refine kz_ret ?_ | with_reducible refine z28 (by decide) ?_ | with_reducible refine kz_gd ?_ | with_reducible refine kz_ite ?_ ?_ | with_reducible refine kz_bn ?_ ?_ | with_reducible refine kz_h3 (by assumption) ?_ | with_reducible refine kz_h2 (by assumption) ?_ | with_reducible refine kz_h1 (by assumption) ?_ | with_reducible refine kz_g1 (by assumption) | (intros; dsimp only) | intros | dsimp only)
theorem k_X8_read {Z : Nat → Nat → Int} {a1 : Int} {a2 : Int} {μ : Mem} (hz : μ 28 = Z) : KZ Z (f_X8_read a1 a2 μ) := by
  unfold f_X8_read
  repeat' (first | assumption | with_reducible refine kz_ret ?_ | with_reducible refine z28 (by decide) ?_ | with_reducible refine kz_gd ?_ | with_reducible refine kz_ite ?_ ?_ | with_reducible refine kz_bn ?_ ?_ | with_reducible refine k_X8_placeTrouble ?_ | with_reducible refine k_X5_numberAt ?_ | with_reducible refine k_X8_refuseNumber ?_ | with_reducible refine kz_h3 (by assumption) ?_ | with_reducible refine kz_h2 (by assumption) ?_ | with_reducible refine kz_h1 (by assumption) ?_ | with_reducible refine kz_g1 (by assumption) | (intros; dsimp only) | intros | dsimp only)
theorem k_X5_hasRun {Z : Nat → Nat → Int} {i0 : Nat} {a1 : Int} {a2 : Int} {μ : Mem} (hz : μ 28 = Z) : KZ Z (f_X5_hasRun i0 a1 a2 μ) := by
  unfold f_X5_hasRun
  repeat' (first | assumption | with_reducible refine kz_ret ?_ | with_reducible refine z28 (by decide) ?_ | with_reducible refine kz_gd ?_ | with_reducible refine kz_ite ?_ ?_ | with_reducible refine kz_bn ?_ ?_ | with_reducible refine kz_h3 (by assumption) ?_ | with_reducible refine kz_h2 (by assumption) ?_ | with_reducible refine kz_h1 (by assumption) ?_ | with_reducible refine kz_g1 (by assumption) | (intros; dsimp only) | intros | dsimp only)
theorem k_X8_pour {Z : Nat → Nat → Int} {a1 : Int} {a2 : Int} {a3 : Int} {a4 : Int} {a5 : Int} {μ : Mem} (hz : μ 28 = Z) : KZ Z (f_X8_pour a1 a2 a3 a4 a5 μ) := by
  unfold f_X8_pour
  repeat' (first | assumption | with_reducible refine kz_ret ?_ | with_reducible refine z28 (by decide) ?_ | with_reducible refine kz_gd ?_ | with_reducible refine kz_ite ?_ ?_ | with_reducible refine kz_bn ?_ ?_ | with_reducible refine k_X8_isTray ?_ | with_reducible refine k_X8_refuse ?_ | with_reducible refine k_X5_isMissing ?_ | with_reducible refine k_X5_hasRun ?_ | with_reducible refine k_X8_well ?_ | with_reducible refine kz_h3 (by assumption) ?_ | with_reducible refine kz_h2 (by assumption) ?_ | with_reducible refine kz_h1 (by assumption) ?_ | with_reducible refine kz_g1 (by assumption) | (intros; dsimp only) | intros | dsimp only)
theorem k_X8_arePartHands {Z : Nat → Nat → Int} {a0 : Int} {μ : Mem} (hz : μ 28 = Z) : KZ Z (f_X8_arePartHands a0 μ) := by
  unfold f_X8_arePartHands
  repeat' (first | assumption | with_reducible refine kz_ret ?_ | with_reducible refine z28 (by decide) ?_ | with_reducible refine kz_gd ?_ | with_reducible refine kz_ite ?_ ?_ | with_reducible refine kz_bn ?_ ?_ | with_reducible refine kz_h3 (by assumption) ?_ | with_reducible refine kz_h2 (by assumption) ?_ | with_reducible refine kz_h1 (by assumption) ?_ | with_reducible refine kz_g1 (by assumption) | (intros; dsimp only) | intros | dsimp only)
theorem k_X5_holdsRows_L7 {Z : Nat → Nat → Int} {q0 : Nat} {x1 : Int}  : ∀ (n : Nat) (x100 x101 : Int) (ν : Mem), ν 28 = Z → KZ Z (f_X5_holdsRows_L7 q0 x1 n x100 x101 ν) := by
  intro n
  induction n with
  | zero => intro x100 x101 ν hz; exact kz_none
  | succ n ih =>
    intro x100 x101 ν hz
    rw [f_X5_holdsRows_L7.eq_2]
    repeat' (first | assumption | with_reducible refine kz_ret ?_ | with_reducible refine z28 (by decide) ?_ | with_reducible refine kz_gd ?_ | with_reducible refine kz_ite ?_ ?_ | with_reducible refine kz_bn ?_ ?_ | with_reducible refine ih _ _ _ ?_ | with_reducible refine k_X5_numberAt ?_ | with_reducible refine kz_h3 (by assumption) ?_ | with_reducible refine kz_h2 (by assumption) ?_ | with_reducible refine kz_h1 (by assumption) ?_ | with_reducible refine kz_g1 (by assumption) | (intros; dsimp only) | intros | dsimp only)
theorem k_X5_holdsRows {Z : Nat → Nat → Int} {i0 : Nat} {a1 : Int} {μ : Mem} (hz : μ 28 = Z) : KZ Z (f_X5_holdsRows i0 a1 μ) := by
  unfold f_X5_holdsRows
  repeat' (first | assumption | with_reducible refine kz_ret ?_ | with_reducible refine z28 (by decide) ?_ | with_reducible refine kz_gd ?_ | with_reducible refine kz_ite ?_ ?_ | with_reducible refine kz_bn ?_ ?_ | with_reducible refine k_X5_holdsRows_L7  _ _ _ _ ?_ | with_reducible refine kz_h3 (by assumption) ?_ | with_reducible refine kz_h2 (by assumption) ?_ | with_reducible refine kz_h1 (by assumption) ?_ | with_reducible refine kz_g1 (by assumption) | (intros; dsimp only) | intros | dsimp only)
theorem k_X3_empty {Z : Nat → Nat → Int}  {μ : Mem} (hz : μ 28 = Z) : KZ Z (f_X3_empty μ) := by
  unfold f_X3_empty
  repeat' (first | assumption | with_reducible refine kz_ret ?_ | with_reducible refine z28 (by decide) ?_ | with_reducible refine kz_gd ?_ | with_reducible refine kz_ite ?_ ?_ | with_reducible refine kz_bn ?_ ?_ | with_reducible refine k_J7_fill_d0a16 (by decide) (by decide) ?_ | with_reducible refine kz_h3 (by assumption) ?_ | with_reducible refine kz_h2 (by assumption) ?_ | with_reducible refine kz_h1 (by assumption) ?_ | with_reducible refine kz_g1 (by assumption) | (intros; dsimp only) | intros | dsimp only)
theorem k_X8_commonDivisor_L9 {Z : Nat → Nat → Int}   : ∀ (n : Nat) (x100 x101 x102 : Int) (ν : Mem), ν 28 = Z → KZ Z (f_X8_commonDivisor_L9 n x100 x101 x102 ν) := by
  intro n
  induction n with
  | zero => intro x100 x101 x102 ν hz; exact kz_none
  | succ n ih =>
    intro x100 x101 x102 ν hz
    rw [f_X8_commonDivisor_L9.eq_2]
    repeat' (first | assumption | with_reducible refine kz_ret ?_ | with_reducible refine z28 (by decide) ?_ | with_reducible refine kz_gd ?_ | with_reducible refine kz_ite ?_ ?_ | with_reducible refine kz_bn ?_ ?_ | with_reducible refine ih _ _ _ _ ?_ | with_reducible refine kz_h3 (by assumption) ?_ | with_reducible refine kz_h2 (by assumption) ?_ | with_reducible refine kz_h1 (by assumption) ?_ | with_reducible refine kz_g1 (by assumption) | (intros; dsimp only) | intros | dsimp only)
theorem k_X8_commonDivisor {Z : Nat → Nat → Int} {a0 : Int} {a2 : Int} {μ : Mem} (hz : μ 28 = Z) : KZ Z (f_X8_commonDivisor a0 a2 μ) := by
  unfold f_X8_commonDivisor
  repeat' (first | assumption | with_reducible refine kz_ret ?_ | with_reducible refine z28 (by decide) ?_ | with_reducible refine kz_gd ?_ | with_reducible refine kz_ite ?_ ?_ | with_reducible refine kz_bn ?_ ?_ | with_reducible refine k_X8_commonDivisor_L9  _ _ _ _ _ ?_ | with_reducible refine kz_h3 (by assumption) ?_ | with_reducible refine kz_h2 (by assumption) ?_ | with_reducible refine kz_h1 (by assumption) ?_ | with_reducible refine kz_g1 (by assumption) | (intros; dsimp only) | intros | dsimp only)
theorem k_X3_makeLess_L4 {Z : Nat → Nat → Int} {k30 : Int → Mem → Option (Int × Mem)} (hk30 : ∀ (y0 : Int) (ν : Mem), ν 28 = Z → KZ Z (k30 y0 ν)) : ∀ (n : Nat) (x100 x101 : Int) (ν : Mem), ν 28 = Z → KZ Z (f_X3_makeLess_L4 k30 n x100 x101 ν) := by
  intro n
  induction n with
  | zero => intro x100 x101 ν hz; exact kz_none
  | succ n ih =>
    intro x100 x101 ν hz
    rw [f_X3_makeLess_L4.eq_2]
    repeat' (first | assumption | with_reducible refine kz_ret ?_ | with_reducible refine z28 (by decide) ?_ | with_reducible refine kz_gd ?_ | with_reducible refine kz_ite ?_ ?_ | with_reducible refine kz_bn ?_ ?_ | with_reducible refine ih _ _ _ ?_ | with_reducible refine k_X8_commonDivisor ?_ | with_reducible refine kz_h3 (by assumption) ?_ | with_reducible refine kz_h2 (by assumption) ?_ | with_reducible refine kz_h1 (by assumption) ?_ | with_reducible refine kz_g1 (by assumption) | (intros; dsimp only) | intros | dsimp only)
theorem k_X3_makeLess_L38 {Z : Nat → Nat → Int} {x1 : Int}  : ∀ (n : Nat) (x100 : Int) (ν : Mem), ν 28 = Z → KZ Z (f_X3_makeLess_L38 x1 n x100 ν) := by
  intro n
  induction n with
  | zero => intro x100 ν hz; exact kz_none
  | succ n ih =>
    intro x100 ν hz
    rw [f_X3_makeLess_L38.eq_2]
    repeat' (first | assumption | with_reducible refine kz_ret ?_ | with_reducible refine z28 (by decide) ?_ | with_reducible refine kz_gd ?_ | with_reducible refine kz_ite ?_ ?_ | with_reducible refine kz_bn ?_ ?_ | with_reducible refine ih _ _ ?_ | with_reducible refine kz_h3 (by assumption) ?_ | with_reducible refine kz_h2 (by assumption) ?_ | with_reducible refine kz_h1 (by assumption) ?_ | with_reducible refine kz_g1 (by assumption) | (intros; dsimp only) | intros | dsimp only)
theorem k_X3_makeLess {Z : Nat → Nat → Int}  {μ : Mem} (hz : μ 28 = Z) : KZ Z (f_X3_makeLess μ) := by
  unfold f_X3_makeLess
  repeat' (first | assumption | with_reducible refine kz_ret ?_ | with_reducible refine z28 (by decide) ?_ | with_reducible refine kz_gd ?_ | with_reducible refine kz_ite ?_ ?_ | with_reducible refine kz_bn ?_ ?_ | with_reducible refine k_X3_makeLess_L4 ?_ _ _ _ _ ?_ | with_reducible refine k_X3_makeLess_L38  _ _ _ ?_ | with_reducible refine kz_h3 (by assumption) ?_ | with_reducible refine kz_h2 (by assumption) ?_ | with_reducible refine kz_h1 (by assumption) ?_ | with_reducible refine kz_g1 (by assumption) | (intros; dsimp only) | intros | dsimp only)
theorem k_X3_fits_L4 {Z : Nat → Nat → Int} {k54 : Int → Mem → Option (Int × Mem)} (hk54 : ∀ (y0 : Int) (ν : Mem), ν 28 = Z → KZ Z (k54 y0 ν)) : ∀ (n : Nat) (x100 x101 : Int) (ν : Mem), ν 28 = Z → KZ Z (f_X3_fits_L4 k54 n x100 x101 ν) := by
  intro n
  induction n with
  | zero => intro x100 x101 ν hz; exact kz_none
  | succ n ih =>
    intro x100 x101 ν hz
    rw [f_X3_fits_L4.eq_2]
    repeat' (first | assumption | with_reducible refine kz_ret ?_ | with_reducible refine z28 (by decide) ?_ | with_reducible refine kz_gd ?_ | with_reducible refine kz_ite ?_ ?_ | with_reducible refine kz_bn ?_ ?_ | with_reducible refine ih _ _ _ ?_ | with_reducible refine kz_j1 ?_ ?_ | with_reducible refine kz_j2 ?_ ?_ | with_reducible refine kz_j3 ?_ ?_ | with_reducible refine kz_j0 ?_ ?_ | with_reducible refine kz_i1 ?_ ?_ | with_reducible refine kz_h3 (by assumption) ?_ | with_reducible refine kz_h2 (by assumption) ?_ | with_reducible refine kz_h1 (by assumption) ?_ | with_reducible refine kz_g1 (by assumption) | (intros; dsimp only) | intros | dsimp only)
theorem k_X3_fits {Z : Nat → Nat → Int}  {μ : Mem} (hz : μ 28 = Z) : KZ Z (f_X3_fits μ) := by
  unfold f_X3_fits
  repeat' (first | assumption | with_reducible refine kz_ret ?_ | with_reducible refine z28 (by decide) ?_ | with_reducible refine kz_gd ?_ | with_reducible refine kz_ite ?_ ?_ | with_reducible refine kz_bn ?_ ?_ | with_reducible refine k_X3_fits_L4 ?_ _ _ _ _ ?_ | with_reducible refine kz_h3 (by assumption) ?_ | with_reducible refine kz_h2 (by assumption) ?_ | with_reducible refine kz_h1 (by assumption) ?_ | with_reducible refine kz_g1 (by assumption) | (intros; dsimp only) | intros | dsimp only)
theorem k_X1_become_L35 {Z : Nat → Nat → Int} {q0 : Nat}  : ∀ (n : Nat) (x100 : Int) (ν : Mem), ν 28 = Z → KZ Z (f_X1_become_L35 q0 n x100 ν) := by
  intro n
  induction n with
  | zero => intro x100 ν hz; exact kz_none
  | succ n ih =>
    intro x100 ν hz
    rw [f_X1_become_L35.eq_2]
    repeat' (first | assumption | with_reducible refine kz_ret ?_ | with_reducible refine z28 (by decide) ?_ | with_reducible refine kz_gd ?_ | with_reducible refine kz_ite ?_ ?_ | with_reducible refine kz_bn ?_ ?_ | with_reducible refine ih _ _ ?_ | with_reducible refine kz_j1 ?_ ?_ | with_reducible refine kz_j2 ?_ ?_ | with_reducible refine kz_j3 ?_ ?_ | with_reducible refine kz_j0 ?_ ?_ | with_reducible refine kz_i1 ?_ ?_ | with_reducible refine kz_h3 (by assumption) ?_ | with_reducible refine kz_h2 (by assumption) ?_ | with_reducible refine kz_h1 (by assumption) ?_ | with_reducible refine kz_g1 (by assumption) | (intros; dsimp only) | intros | dsimp only)
theorem k_X1_become {Z : Nat → Nat → Int} {i0 : Nat} {a2 : Int} {μ : Mem} (hz : μ 28 = Z) : KZ Z (f_X1_become i0 a2 μ) := by
  unfold f_X1_become
  repeat' (first | assumption | with_reducible refine kz_ret ?_ | with_reducible refine z28 (by decide) ?_ | with_reducible refine kz_gd ?_ | with_reducible refine kz_ite ?_ ?_ | with_reducible refine kz_bn ?_ ?_ | with_reducible refine k_J7_fill_53178 (by decide) (by decide) ?_ | with_reducible refine k_X1_become_L35  _ _ _ ?_ | with_reducible refine kz_h3 (by assumption) ?_ | with_reducible refine kz_h2 (by assumption) ?_ | with_reducible refine kz_h1 (by assumption) ?_ | with_reducible refine kz_g1 (by assumption) | (intros; dsimp only) | intros | dsimp only)
theorem k_X7_addPart {Z : Nat → Nat → Int} {a2 : Int} {μ : Mem} (hz : μ 28 = Z) : KZ Z (f_X7_addPart a2 μ) := by
  unfold f_X7_addPart
  repeat' (first | assumption | with_reducible refine kz_ret ?_ | with_reducible refine z28 (by decide) ?_ | with_reducible refine kz_gd ?_ | with_reducible refine kz_ite ?_ ?_ | with_reducible refine kz_bn ?_ ?_ | with_reducible refine k_X1_become ?_ | with_reducible refine kz_h3 (by assumption) ?_ | with_reducible refine kz_h2 (by assumption) ?_ | with_reducible refine kz_h1 (by assumption) ?_ | with_reducible refine kz_g1 (by assumption) | (intros; dsimp only) | intros | dsimp only)
theorem k_X8_changed {Z : Nat → Nat → Int}  {μ : Mem} (hz : μ 28 = Z) : KZ Z (f_X8_changed μ) := by
  unfold f_X8_changed
  repeat' (first | assumption | with_reducible refine kz_ret ?_ | with_reducible refine z28 (by decide) ?_ | with_reducible refine kz_gd ?_ | with_reducible refine kz_ite ?_ ?_ | with_reducible refine kz_bn ?_ ?_ | with_reducible refine k_X8_well ?_ | with_reducible refine kz_h3 (by assumption) ?_ | with_reducible refine kz_h2 (by assumption) ?_ | with_reducible refine kz_h1 (by assumption) ?_ | with_reducible refine kz_g1 (by assumption) | (intros; dsimp only) | intros | dsimp only)
theorem k_X8_addPart {Z : Nat → Nat → Int} {a1 : Int} {μ : Mem} (hz : μ 28 = Z) : KZ Z (f_X8_addPart a1 μ) := by
  unfold f_X8_addPart
  repeat' (first | assumption | with_reducible refine kz_ret ?_ | with_reducible refine z28 (by decide) ?_ | with_reducible refine kz_gd ?_ | with_reducible refine kz_ite ?_ ?_ | with_reducible refine kz_bn ?_ ?_ | with_reducible refine k_X3_makeLess ?_ | with_reducible refine k_X8_refuseNumber ?_ | with_reducible refine k_X3_fits ?_ | with_reducible refine k_X7_addPart ?_ | with_reducible refine k_X8_changed ?_ | with_reducible refine kz_h3 (by assumption) ?_ | with_reducible refine kz_h2 (by assumption) ?_ | with_reducible refine kz_h1 (by assumption) ?_ | with_reducible refine kz_g1 (by assumption) | (intros; dsimp only) | intros | dsimp only)
theorem k_X3_add {Z : Nat → Nat → Int} {a1 : Int} {a2 : Int} {μ : Mem} (hz : μ 28 = Z) : KZ Z (f_X3_add a1 a2 μ) := by
  unfold f_X3_add
  repeat' (first | assumption | with_reducible refine kz_ret ?_ | with_reducible refine z28 (by decide) ?_ | with_reducible refine kz_gd ?_ | with_reducible refine kz_ite ?_ ?_ | with_reducible refine kz_bn ?_ ?_ | with_reducible refine kz_h3 (by assumption) ?_ | with_reducible refine kz_h2 (by assumption) ?_ | with_reducible refine kz_h1 (by assumption) ?_ | with_reducible refine kz_g1 (by assumption) | (intros; dsimp only) | intros | dsimp only)
theorem k_X8_part_L102 {Z : Nat → Nat → Int} {x2 : Int} {x3 : Int} {q4 : Nat}  : ∀ (n : Nat) (x100 : Int) (ν : Mem), ν 28 = Z → KZ Z (f_X8_part_L102 x2 x3 q4 n x100 ν) := by
  intro n
  induction n with
  | zero => intro x100 ν hz; exact kz_none
  | succ n ih =>
    intro x100 ν hz
    rw [f_X8_part_L102.eq_2]
    repeat' (first | assumption | with_reducible refine kz_ret ?_ | with_reducible refine z28 (by decide) ?_ | with_reducible refine kz_gd ?_ | with_reducible refine kz_ite ?_ ?_ | with_reducible refine kz_bn ?_ ?_ | with_reducible refine ih _ _ ?_ | with_reducible refine k_X8_addPart ?_ | with_reducible refine k_X5_numberAt ?_ | with_reducible refine k_X3_add ?_ | with_reducible refine kz_h3 (by assumption) ?_ | with_reducible refine kz_h2 (by assumption) ?_ | with_reducible refine kz_h1 (by assumption) ?_ | with_reducible refine kz_g1 (by assumption) | (intros; dsimp only) | intros | dsimp only)
theorem k_X8_part {Z : Nat → Nat → Int} {a1 : Int} {a2 : Int} {a3 : Int} {μ : Mem} (hz : μ 28 = Z) : KZ Z (f_X8_part a1 a2 a3 μ) := by
  unfold f_X8_part
  repeat' (first | assumption | with_reducible refine kz_ret ?_ | with_reducible refine z28 (by decide) ?_ | with_reducible refine kz_gd ?_ | with_reducible refine kz_ite ?_ ?_ | with_reducible refine kz_bn ?_ ?_ | with_reducible refine k_X8_isTray ?_ | with_reducible refine k_X8_refuseNumber ?_ | with_reducible refine k_X5_isMissing ?_ | with_reducible refine k_X8_arePartHands ?_ | with_reducible refine k_X5_hasRun ?_ | with_reducible refine k_X5_holdsRows ?_ | with_reducible refine k_X3_empty ?_ | with_reducible refine k_X8_part_L102  _ _ _ ?_ | with_reducible refine kz_h3 (by assumption) ?_ | with_reducible refine kz_h2 (by assumption) ?_ | with_reducible refine kz_h1 (by assumption) ?_ | with_reducible refine kz_g1 (by assumption) | (intros; dsimp only) | intros | dsimp only)
theorem k_X8_fixed {Z : Nat → Nat → Int} {a1 : Int} {a2 : Int} {μ : Mem} (hz : μ 28 = Z) : KZ Z (f_X8_fixed a1 a2 μ) := by
  unfold f_X8_fixed
  repeat' (first | assumption | with_reducible refine kz_ret ?_ | with_reducible refine z28 (by decide) ?_ | with_reducible refine kz_gd ?_ | with_reducible refine kz_ite ?_ ?_ | with_reducible refine kz_bn ?_ ?_ | with_reducible refine k_X8_refuseNumber ?_ | with_reducible refine k_X8_arePartHands ?_ | with_reducible refine k_X3_empty ?_ | with_reducible refine k_X3_add ?_ | with_reducible refine k_X8_addPart ?_ | with_reducible refine kz_h3 (by assumption) ?_ | with_reducible refine kz_h2 (by assumption) ?_ | with_reducible refine kz_h1 (by assumption) ?_ | with_reducible refine kz_g1 (by assumption) | (intros; dsimp only) | intros | dsimp only)
theorem k_X7_hasPart {Z : Nat → Nat → Int} {a1 : Int} {μ : Mem} (hz : μ 28 = Z) : KZ Z (f_X7_hasPart a1 μ) := by
  unfold f_X7_hasPart
  repeat' (first | assumption | with_reducible refine kz_ret ?_ | with_reducible refine z28 (by decide) ?_ | with_reducible refine kz_gd ?_ | with_reducible refine kz_ite ?_ ?_ | with_reducible refine kz_bn ?_ ?_ | with_reducible refine kz_h3 (by assumption) ?_ | with_reducible refine kz_h2 (by assumption) ?_ | with_reducible refine kz_h1 (by assumption) ?_ | with_reducible refine kz_g1 (by assumption) | (intros; dsimp only) | intros | dsimp only)
theorem k_X3_addOnce_L3 {Z : Nat → Nat → Int} {q1 : Nat} {x2 : Int}  : ∀ (n : Nat) (x100 : Int) (ν : Mem), ν 28 = Z → KZ Z (f_X3_addOnce_L3 q1 x2 n x100 ν) := by
  intro n
  induction n with
  | zero => intro x100 ν hz; exact kz_none
  | succ n ih =>
    intro x100 ν hz
    rw [f_X3_addOnce_L3.eq_2]
    repeat' (first | assumption | with_reducible refine kz_ret ?_ | with_reducible refine z28 (by decide) ?_ | with_reducible refine kz_gd ?_ | with_reducible refine kz_ite ?_ ?_ | with_reducible refine kz_bn ?_ ?_ | with_reducible refine ih _ _ ?_ | with_reducible refine k_X3_add ?_ | with_reducible refine kz_h3 (by assumption) ?_ | with_reducible refine kz_h2 (by assumption) ?_ | with_reducible refine kz_h1 (by assumption) ?_ | with_reducible refine kz_g1 (by assumption) | (intros; dsimp only) | intros | dsimp only)
theorem k_X3_addOnce {Z : Nat → Nat → Int} {i1 : Nat} {a2 : Int} {μ : Mem} (hz : μ 28 = Z) : KZ Z (f_X3_addOnce i1 a2 μ) := by
  unfold f_X3_addOnce
  repeat' (first | assumption | with_reducible refine kz_ret ?_ | with_reducible refine z28 (by decide) ?_ | with_reducible refine kz_gd ?_ | with_reducible refine kz_ite ?_ ?_ | with_reducible refine kz_bn ?_ ?_ | with_reducible refine k_X3_addOnce_L3  _ _ _ ?_ | with_reducible refine kz_h3 (by assumption) ?_ | with_reducible refine kz_h2 (by assumption) ?_ | with_reducible refine kz_h1 (by assumption) ?_ | with_reducible refine kz_g1 (by assumption) | (intros; dsimp only) | intros | dsimp only)
theorem k_X8_either {Z : Nat → Nat → Int} {a1 : Int} {a2 : Int} {a3 : Int} {a4 : Int} {a5 : Int} {μ : Mem} (hz : μ 28 = Z) : KZ Z (f_X8_either a1 a2 a3 a4 a5 μ) := by
  unfold f_X8_either
  repeat' (first | assumption | with_reducible refine kz_ret ?_ | with_reducible refine z28 (by decide) ?_ | with_reducible refine kz_gd ?_ | with_reducible refine kz_ite ?_ ?_ | with_reducible refine kz_bn ?_ ?_ | with_reducible refine k_X7_hasPart ?_ | with_reducible refine k_X8_refuseNumber ?_ | with_reducible refine k_X8_arePartHands ?_ | with_reducible refine k_X3_empty ?_ | with_reducible refine k_X3_addOnce ?_ | with_reducible refine k_X8_addPart ?_ | with_reducible refine kz_h3 (by assumption) ?_ | with_reducible refine kz_h2 (by assumption) ?_ | with_reducible refine kz_h1 (by assumption) ?_ | with_reducible refine kz_g1 (by assumption) | (intros; dsimp only) | intros | dsimp only)
theorem k_X3_addTwice_L15 {Z : Nat → Nat → Int} {q1 : Nat} {x2 : Int} {x4 : Int} {k68 : Mem → Option (Int × Mem)} (hk68 : ∀ (ν : Mem), ν 28 = Z → KZ Z (k68 ν)) : ∀ (n : Nat) (x100 : Int) (ν : Mem), ν 28 = Z → KZ Z (f_X3_addTwice_L15 q1 x2 x4 k68 n x100 ν) := by
  intro n
  induction n with
  | zero => intro x100 ν hz; exact kz_none
  | succ n ih =>
    intro x100 ν hz
    rw [f_X3_addTwice_L15.eq_2]
    repeat' (first | assumption | with_reducible refine kz_ret ?_ | with_reducible refine z28 (by decide) ?_ | with_reducible refine kz_gd ?_ | with_reducible refine kz_ite ?_ ?_ | with_reducible refine kz_bn ?_ ?_ | with_reducible refine ih _ _ ?_ | with_reducible refine k_X3_add ?_ | with_reducible refine kz_h3 (by assumption) ?_ | with_reducible refine kz_h2 (by assumption) ?_ | with_reducible refine kz_h1 (by assumption) ?_ | with_reducible refine kz_g1 (by assumption) | (intros; dsimp only) | intros | dsimp only)
theorem k_X3_addTwice_L3 {Z : Nat → Nat → Int} {q1 : Nat} {x2 : Int}  : ∀ (n : Nat) (x100 : Int) (ν : Mem), ν 28 = Z → KZ Z (f_X3_addTwice_L3 q1 x2 n x100 ν) := by
  intro n
  induction n with
  | zero => intro x100 ν hz; exact kz_none
  | succ n ih =>
    intro x100 ν hz
    rw [f_X3_addTwice_L3.eq_2]
    repeat' (first | assumption | with_reducible refine kz_ret ?_ | with_reducible refine z28 (by decide) ?_ | with_reducible refine kz_gd ?_ | with_reducible refine kz_ite ?_ ?_ | with_reducible refine kz_bn ?_ ?_ | with_reducible refine ih _ _ ?_ | with_reducible refine k_X3_addTwice_L15 ?_ _ _ _ ?_ | with_reducible refine kz_h3 (by assumption) ?_ | with_reducible refine kz_h2 (by assumption) ?_ | with_reducible refine kz_h1 (by assumption) ?_ | with_reducible refine kz_g1 (by assumption) | (intros; dsimp only) | intros | dsimp only)
theorem k_X3_addTwice {Z : Nat → Nat → Int} {i1 : Nat} {a2 : Int} {μ : Mem} (hz : μ 28 = Z) : KZ Z (f_X3_addTwice i1 a2 μ) := by
  unfold f_X3_addTwice
  repeat' (first | assumption | with_reducible refine kz_ret ?_ | with_reducible refine z28 (by decide) ?_ | with_reducible refine kz_gd ?_ | with_reducible refine kz_ite ?_ ?_ | with_reducible refine kz_bn ?_ ?_ | with_reducible refine k_X3_addTwice_L3  _ _ _ ?_ | with_reducible refine kz_h3 (by assumption) ?_ | with_reducible refine kz_h2 (by assumption) ?_ | with_reducible refine kz_h1 (by assumption) ?_ | with_reducible refine kz_g1 (by assumption) | (intros; dsimp only) | intros | dsimp only)
theorem k_X8_again {Z : Nat → Nat → Int} {a1 : Int} {a2 : Int} {a3 : Int} {a4 : Int} {μ : Mem} (hz : μ 28 = Z) : KZ Z (f_X8_again a1 a2 a3 a4 μ) := by
  unfold f_X8_again
  repeat' (first | assumption | with_reducible refine kz_ret ?_ | with_reducible refine z28 (by decide) ?_ | with_reducible refine kz_gd ?_ | with_reducible refine kz_ite ?_ ?_ | with_reducible refine kz_bn ?_ ?_ | with_reducible refine k_X7_hasPart ?_ | with_reducible refine k_X8_refuseNumber ?_ | with_reducible refine k_X8_arePartHands ?_ | with_reducible refine k_X3_empty ?_ | with_reducible refine k_X3_addOnce ?_ | with_reducible refine k_X3_addTwice ?_ | with_reducible refine k_X8_addPart ?_ | with_reducible refine kz_h3 (by assumption) ?_ | with_reducible refine kz_h2 (by assumption) ?_ | with_reducible refine kz_h1 (by assumption) ?_ | with_reducible refine kz_g1 (by assumption) | (intros; dsimp only) | intros | dsimp only)
theorem k_X1_setNeed {Z : Nat → Nat → Int} {i0 : Nat} {a1 : Int} {a2 : Int} {μ : Mem} (hz : μ 28 = Z) : KZ Z (f_X1_setNeed i0 a1 a2 μ) := by
  unfold f_X1_setNeed
  repeat' (first | assumption | with_reducible refine kz_ret ?_ | with_reducible refine z28 (by decide) ?_ | with_reducible refine kz_gd ?_ | with_reducible refine kz_ite ?_ ?_ | with_reducible refine kz_bn ?_ ?_ | with_reducible refine kz_h3 (by assumption) ?_ | with_reducible refine kz_h2 (by assumption) ?_ | with_reducible refine kz_h1 (by assumption) ?_ | with_reducible refine kz_g1 (by assumption) | (intros; dsimp only) | intros | dsimp only)
theorem k_X8_need {Z : Nat → Nat → Int} {a1 : Int} {a2 : Int} {a3 : Int} {μ : Mem} (hz : μ 28 = Z) : KZ Z (f_X8_need a1 a2 a3 μ) := by
  unfold f_X8_need
  repeat' (first | assumption | with_reducible refine kz_ret ?_ | with_reducible refine z28 (by decide) ?_ | with_reducible refine kz_gd ?_ | with_reducible refine kz_ite ?_ ?_ | with_reducible refine kz_bn ?_ ?_ | with_reducible refine k_X7_hasPart ?_ | with_reducible refine k_X8_refuse ?_ | with_reducible refine k_X1_setNeed ?_ | with_reducible refine k_X8_changed ?_ | with_reducible refine kz_h3 (by assumption) ?_ | with_reducible refine kz_h2 (by assumption) ?_ | with_reducible refine kz_h1 (by assumption) ?_ | with_reducible refine kz_g1 (by assumption) | (intros; dsimp only) | intros | dsimp only)
theorem k_X7_addCause {Z : Nat → Nat → Int} {a1 : Int} {a2 : Int} {μ : Mem} (hz : μ 28 = Z) : KZ Z (f_X7_addCause a1 a2 μ) := by
  unfold f_X7_addCause
  repeat' (first | assumption | with_reducible refine kz_ret ?_ | with_reducible refine z28 (by decide) ?_ | with_reducible refine kz_gd ?_ | with_reducible refine kz_ite ?_ ?_ | with_reducible refine kz_bn ?_ ?_ | with_reducible refine kz_h3 (by assumption) ?_ | with_reducible refine kz_h2 (by assumption) ?_ | with_reducible refine kz_h1 (by assumption) ?_ | with_reducible refine kz_g1 (by assumption) | (intros; dsimp only) | intros | dsimp only)
theorem k_X8_cause {Z : Nat → Nat → Int} {a1 : Int} {a2 : Int} {μ : Mem} (hz : μ 28 = Z) : KZ Z (f_X8_cause a1 a2 μ) := by
  unfold f_X8_cause
  repeat' (first | assumption | with_reducible refine kz_ret ?_ | with_reducible refine z28 (by decide) ?_ | with_reducible refine kz_gd ?_ | with_reducible refine kz_ite ?_ ?_ | with_reducible refine kz_bn ?_ ?_ | with_reducible refine k_X8_refuseNumber ?_ | with_reducible refine k_X7_addCause ?_ | with_reducible refine k_X8_changed ?_ | with_reducible refine kz_h3 (by assumption) ?_ | with_reducible refine kz_h2 (by assumption) ?_ | with_reducible refine kz_h1 (by assumption) ?_ | with_reducible refine kz_g1 (by assumption) | (intros; dsimp only) | intros | dsimp only)
theorem k_X8_late {Z : Nat → Nat → Int} {a1 : Int} {a2 : Int} {a3 : Int} {μ : Mem} (hz : μ 28 = Z) : KZ Z (f_X8_late a1 a2 a3 μ) := by
  unfold f_X8_late
  repeat' (first | assumption | with_reducible refine kz_ret ?_ | with_reducible refine z28 (by decide) ?_ | with_reducible refine kz_gd ?_ | with_reducible refine kz_ite ?_ ?_ | with_reducible refine kz_bn ?_ ?_ | with_reducible refine k_X7_hasPart ?_ | with_reducible refine k_X8_refuse ?_ | with_reducible refine k_X8_changed ?_ | with_reducible refine kz_h3 (by assumption) ?_ | with_reducible refine kz_h2 (by assumption) ?_ | with_reducible refine kz_h1 (by assumption) ?_ | with_reducible refine kz_g1 (by assumption) | (intros; dsimp only) | intros | dsimp only)
theorem k_X8_hands {Z : Nat → Nat → Int} {a1 : Int} {μ : Mem} (hz : μ 28 = Z) : KZ Z (f_X8_hands a1 μ) := by
  unfold f_X8_hands
  repeat' (first | assumption | with_reducible refine kz_ret ?_ | with_reducible refine z28 (by decide) ?_ | with_reducible refine kz_gd ?_ | with_reducible refine kz_ite ?_ ?_ | with_reducible refine kz_bn ?_ ?_ | with_reducible refine k_X8_refuse ?_ | with_reducible refine k_X8_changed ?_ | with_reducible refine kz_h3 (by assumption) ?_ | with_reducible refine kz_h2 (by assumption) ?_ | with_reducible refine kz_h1 (by assumption) ?_ | with_reducible refine kz_g1 (by assumption) | (intros; dsimp only) | intros | dsimp only)
theorem k_X7_forget {Z : Nat → Nat → Int}  {μ : Mem} (hz : μ 28 = Z) : KZ Z (f_X7_forget μ) := by
  unfold f_X7_forget
  repeat' (first | assumption | with_reducible refine kz_ret ?_ | with_reducible refine z28 (by decide) ?_ | with_reducible refine kz_gd ?_ | with_reducible refine kz_ite ?_ ?_ | with_reducible refine kz_bn ?_ ?_ | with_reducible refine kz_h3 (by assumption) ?_ | with_reducible refine kz_h2 (by assumption) ?_ | with_reducible refine kz_h1 (by assumption) ?_ | with_reducible refine kz_g1 (by assumption) | (intros; dsimp only) | intros | dsimp only)
theorem k_X8_clear {Z : Nat → Nat → Int}  {μ : Mem} (hz : μ 28 = Z) : KZ Z (f_X8_clear μ) := by
  unfold f_X8_clear
  repeat' (first | assumption | with_reducible refine kz_ret ?_ | with_reducible refine z28 (by decide) ?_ | with_reducible refine kz_gd ?_ | with_reducible refine kz_ite ?_ ?_ | with_reducible refine kz_bn ?_ ?_ | with_reducible refine k_X7_forget ?_ | with_reducible refine k_X8_changed ?_ | with_reducible refine kz_h3 (by assumption) ?_ | with_reducible refine kz_h2 (by assumption) ?_ | with_reducible refine kz_h1 (by assumption) ?_ | with_reducible refine kz_g1 (by assumption) | (intros; dsimp only) | intros | dsimp only)
theorem k_J6_bitCount_0f7a4 {Z : Nat → Nat → Int} {a0 : Int} {μ : Mem} (hz : μ 28 = Z) : KZ Z (f_J6_bitCount_0f7a4 a0 μ) := by
  unfold f_J6_bitCount_0f7a4
  repeat' (first | assumption | with_reducible refine kz_ret ?_ | with_reducible refine z28 (by decide) ?_ | with_reducible refine kz_gd ?_ | with_reducible refine kz_ite ?_ ?_ | with_reducible refine kz_bn ?_ ?_ | with_reducible refine kz_h3 (by assumption) ?_ | with_reducible refine kz_h2 (by assumption) ?_ | with_reducible refine kz_h1 (by assumption) ?_ | with_reducible refine kz_g1 (by assumption) | (intros; dsimp only) | intros | dsimp only)
theorem k_X8_told {Z : Nat → Nat → Int} {a1 : Int} {a2 : Int} {μ : Mem} (hz : μ 28 = Z) : KZ Z (f_X8_told a1 a2 μ) := by
  unfold f_X8_told
  repeat' (first | assumption | with_reducible refine kz_ret ?_ | with_reducible refine z28 (by decide) ?_ | with_reducible refine kz_gd ?_ | with_reducible refine kz_ite ?_ ?_ | with_reducible refine kz_bn ?_ ?_ | with_reducible refine k_X7_hasPart ?_ | with_reducible refine k_X8_refuseNumber ?_ | with_reducible refine k_J6_bitCount_0f7a4 ?_ | with_reducible refine kz_h3 (by assumption) ?_ | with_reducible refine kz_h2 (by assumption) ?_ | with_reducible refine kz_h1 (by assumption) ?_ | with_reducible refine kz_g1 (by assumption) | (intros; dsimp only) | intros | dsimp only)
theorem k_X8_row {Z : Nat → Nat → Int} {a1 : Int} {a2 : Int} {a3 : Int} {μ : Mem} (hz : μ 28 = Z) : KZ Z (f_X8_row a1 a2 a3 μ) := by
  unfold f_X8_row
  repeat' (first | assumption | with_reducible refine kz_ret ?_ | with_reducible refine z28 (by decide) ?_ | with_reducible refine kz_gd ?_ | with_reducible refine kz_ite ?_ ?_ | with_reducible refine kz_bn ?_ ?_ | with_reducible refine k_X7_hasPart ?_ | with_reducible refine k_X8_refuseNumber ?_ | with_reducible refine kz_h3 (by assumption) ?_ | with_reducible refine kz_h2 (by assumption) ?_ | with_reducible refine kz_h1 (by assumption) ?_ | with_reducible refine kz_g1 (by assumption) | (intros; dsimp only) | intros | dsimp only)
theorem k_X7_isGreat_L4 {Z : Nat → Nat → Int} {k41 : Int → Mem → Option (Int × Mem)} (hk41 : ∀ (y0 : Int) (ν : Mem), ν 28 = Z → KZ Z (k41 y0 ν)) : ∀ (n : Nat) (x100 x101 : Int) (ν : Mem), ν 28 = Z → KZ Z (f_X7_isGreat_L4 k41 n x100 x101 ν) := by
  intro n
  induction n with
  | zero => intro x100 x101 ν hz; exact kz_none
  | succ n ih =>
    intro x100 x101 ν hz
    rw [f_X7_isGreat_L4.eq_2]
    repeat' (first | assumption | with_reducible refine kz_ret ?_ | with_reducible refine z28 (by decide) ?_ | with_reducible refine kz_gd ?_ | with_reducible refine kz_ite ?_ ?_ | with_reducible refine kz_bn ?_ ?_ | with_reducible refine ih _ _ _ ?_ | with_reducible refine kz_h3 (by assumption) ?_ | with_reducible refine kz_h2 (by assumption) ?_ | with_reducible refine kz_h1 (by assumption) ?_ | with_reducible refine kz_g1 (by assumption) | (intros; dsimp only) | intros | dsimp only)
theorem k_X7_isGreat_L43 {Z : Nat → Nat → Int} {k67 : Int → Mem → Option (Int × Mem)} (hk67 : ∀ (y0 : Int) (ν : Mem), ν 28 = Z → KZ Z (k67 y0 ν)) : ∀ (n : Nat) (x100 x101 : Int) (ν : Mem), ν 28 = Z → KZ Z (f_X7_isGreat_L43 k67 n x100 x101 ν) := by
  intro n
  induction n with
  | zero => intro x100 x101 ν hz; exact kz_none
  | succ n ih =>
    intro x100 x101 ν hz
    rw [f_X7_isGreat_L43.eq_2]
    repeat' (first | assumption | with_reducible refine kz_ret ?_ | with_reducible refine z28 (by decide) ?_ | with_reducible refine kz_gd ?_ | with_reducible refine kz_ite ?_ ?_ | with_reducible refine kz_bn ?_ ?_ | with_reducible refine ih _ _ _ ?_ | with_reducible refine kz_h3 (by assumption) ?_ | with_reducible refine kz_h2 (by assumption) ?_ | with_reducible refine kz_h1 (by assumption) ?_ | with_reducible refine kz_g1 (by assumption) | (intros; dsimp only) | intros | dsimp only)
theorem k_X7_isGreat {Z : Nat → Nat → Int}  {μ : Mem} (hz : μ 28 = Z) : KZ Z (f_X7_isGreat μ) := by
  unfold f_X7_isGreat
  repeat' (first | assumption | with_reducible refine kz_ret ?_ | with_reducible refine z28 (by decide) ?_ | with_reducible refine kz_gd ?_ | with_reducible refine kz_ite ?_ ?_ | with_reducible refine kz_bn ?_ ?_ | with_reducible refine k_X7_isGreat_L4 ?_ _ _ _ _ ?_ | with_reducible refine k_X7_isGreat_L43 ?_ _ _ _ _ ?_ | with_reducible refine kz_h3 (by assumption) ?_ | with_reducible refine kz_h2 (by assumption) ?_ | with_reducible refine kz_h1 (by assumption) ?_ | with_reducible refine kz_g1 (by assumption) | (intros; dsimp only) | intros | dsimp only)
theorem k_X7_rowsAhead_L4 {Z : Nat → Nat → Int} {x1 : Int}  : ∀ (n : Nat) (x100 x101 : Int) (ν : Mem), ν 28 = Z → KZ Z (f_X7_rowsAhead_L4 x1 n x100 x101 ν) := by
  intro n
  induction n with
  | zero => intro x100 x101 ν hz; exact kz_none
  | succ n ih =>
    intro x100 x101 ν hz
    rw [f_X7_rowsAhead_L4.eq_2]
    repeat' (first | assumption | with_reducible refine kz_ret ?_ | with_reducible refine z28 (by decide) ?_ | with_reducible refine kz_gd ?_ | with_reducible refine kz_ite ?_ ?_ | with_reducible refine kz_bn ?_ ?_ | with_reducible refine ih _ _ _ ?_ | with_reducible refine kz_h3 (by assumption) ?_ | with_reducible refine kz_h2 (by assumption) ?_ | with_reducible refine kz_h1 (by assumption) ?_ | with_reducible refine kz_g1 (by assumption) | (intros; dsimp only) | intros | dsimp only)
theorem k_X7_rowsAhead {Z : Nat → Nat → Int} {a1 : Int} {μ : Mem} (hz : μ 28 = Z) : KZ Z (f_X7_rowsAhead a1 μ) := by
  unfold f_X7_rowsAhead
  repeat' (first | assumption | with_reducible refine kz_ret ?_ | with_reducible refine z28 (by decide) ?_ | with_reducible refine kz_gd ?_ | with_reducible refine kz_ite ?_ ?_ | with_reducible refine kz_bn ?_ ?_ | with_reducible refine k_X7_rowsAhead_L4  _ _ _ _ ?_ | with_reducible refine kz_h3 (by assumption) ?_ | with_reducible refine kz_h2 (by assumption) ?_ | with_reducible refine kz_h1 (by assumption) ?_ | with_reducible refine kz_g1 (by assumption) | (intros; dsimp only) | intros | dsimp only)
theorem k_X7_countWays {Z : Nat → Nat → Int}  {μ : Mem} (hz : μ 28 = Z) : KZ Z (f_X7_countWays μ) := by
  unfold f_X7_countWays
  repeat' (first | assumption | with_reducible refine kz_ret ?_ | with_reducible refine z28 (by decide) ?_ | with_reducible refine kz_gd ?_ | with_reducible refine kz_ite ?_ ?_ | with_reducible refine kz_bn ?_ ?_ | with_reducible refine k_X7_rowsAhead ?_ | with_reducible refine kz_h3 (by assumption) ?_ | with_reducible refine kz_h2 (by assumption) ?_ | with_reducible refine kz_h1 (by assumption) ?_ | with_reducible refine kz_g1 (by assumption) | (intros; dsimp only) | intros | dsimp only)
theorem k_X8_ways {Z : Nat → Nat → Int}  {μ : Mem} (hz : μ 28 = Z) : KZ Z (f_X8_ways μ) := by
  unfold f_X8_ways
  repeat' (first | assumption | with_reducible refine kz_ret ?_ | with_reducible refine z28 (by decide) ?_ | with_reducible refine kz_gd ?_ | with_reducible refine kz_ite ?_ ?_ | with_reducible refine kz_bn ?_ ?_ | with_reducible refine k_X7_isGreat ?_ | with_reducible refine k_X7_countWays ?_ | with_reducible refine k_X8_refuseNumber ?_ | with_reducible refine kz_h3 (by assumption) ?_ | with_reducible refine kz_h2 (by assumption) ?_ | with_reducible refine kz_h1 (by assumption) ?_ | with_reducible refine kz_g1 (by assumption) | (intros; dsimp only) | intros | dsimp only)
theorem k_X8_isCameDay {Z : Nat → Nat → Int} {a0 : Int} {μ : Mem} (hz : μ 28 = Z) : KZ Z (f_X8_isCameDay a0 μ) := by
  unfold f_X8_isCameDay
  repeat' (first | assumption | with_reducible refine kz_ret ?_ | with_reducible refine z28 (by decide) ?_ | with_reducible refine kz_gd ?_ | with_reducible refine kz_ite ?_ ?_ | with_reducible refine kz_bn ?_ ?_ | with_reducible refine kz_h3 (by assumption) ?_ | with_reducible refine kz_h2 (by assumption) ?_ | with_reducible refine kz_h1 (by assumption) ?_ | with_reducible refine kz_g1 (by assumption) | (intros; dsimp only) | intros | dsimp only)
theorem k_X8_end {Z : Nat → Nat → Int} {a1 : Int} {a2 : Int} {μ : Mem} (hz : μ 28 = Z) : KZ Z (f_X8_end a1 a2 μ) := by
  unfold f_X8_end
  repeat' (first | assumption | with_reducible refine kz_ret ?_ | with_reducible refine z28 (by decide) ?_ | with_reducible refine kz_gd ?_ | with_reducible refine kz_ite ?_ ?_ | with_reducible refine kz_bn ?_ ?_ | with_reducible refine k_X7_hasPart ?_ | with_reducible refine k_X8_refuse ?_ | with_reducible refine k_X8_isCameDay ?_ | with_reducible refine k_X8_changed ?_ | with_reducible refine kz_h3 (by assumption) ?_ | with_reducible refine kz_h2 (by assumption) ?_ | with_reducible refine kz_h1 (by assumption) ?_ | with_reducible refine kz_g1 (by assumption) | (intros; dsimp only) | intros | dsimp only)
theorem k_X8_today {Z : Nat → Nat → Int} {a1 : Int} {μ : Mem} (hz : μ 28 = Z) : KZ Z (f_X8_today a1 μ) := by
  unfold f_X8_today
  repeat' (first | assumption | with_reducible refine kz_ret ?_ | with_reducible refine z28 (by decide) ?_ | with_reducible refine kz_gd ?_ | with_reducible refine kz_ite ?_ ?_ | with_reducible refine kz_bn ?_ ?_ | with_reducible refine k_X8_isCameDay ?_ | with_reducible refine k_X8_refuse ?_ | with_reducible refine k_X8_changed ?_ | with_reducible refine kz_h3 (by assumption) ?_ | with_reducible refine kz_h2 (by assumption) ?_ | with_reducible refine kz_h1 (by assumption) ?_ | with_reducible refine kz_g1 (by assumption) | (intros; dsimp only) | intros | dsimp only)
theorem k_X0_become {Z : Nat → Nat → Int} {i0 : Nat} {a1 : Int} {a3 : Int} {μ : Mem} (hz : μ 28 = Z) : KZ Z (f_X0_become i0 a1 a3 μ) := by
  unfold f_X0_become
  repeat' (first | assumption | with_reducible refine kz_ret ?_ | with_reducible refine z28 (by decide) ?_ | with_reducible refine kz_gd ?_ | with_reducible refine kz_ite ?_ ?_ | with_reducible refine kz_bn ?_ ?_ | with_reducible refine k_X8_commonDivisor ?_ | with_reducible refine kz_h3 (by assumption) ?_ | with_reducible refine kz_h2 (by assumption) ?_ | with_reducible refine kz_h1 (by assumption) ?_ | with_reducible refine kz_g1 (by assumption) | (intros; dsimp only) | intros | dsimp only)
theorem k_X0_add {Z : Nat → Nat → Int} {i0 : Nat} {a1 : Int} {a3 : Int} {μ : Mem} (hz : μ 28 = Z) : KZ Z (f_X0_add i0 a1 a3 μ) := by
  unfold f_X0_add
  repeat' (first | assumption | with_reducible refine kz_ret ?_ | with_reducible refine z28 (by decide) ?_ | with_reducible refine kz_gd ?_ | with_reducible refine kz_ite ?_ ?_ | with_reducible refine kz_bn ?_ ?_ | with_reducible refine k_X0_become ?_ | with_reducible refine kz_h3 (by assumption) ?_ | with_reducible refine kz_h2 (by assumption) ?_ | with_reducible refine kz_h1 (by assumption) ?_ | with_reducible refine kz_g1 (by assumption) | (intros; dsimp only) | intros | dsimp only)
theorem k_X4_add {Z : Nat → Nat → Int} {a1 : Int} {a2 : Int} {a3 : Int} {μ : Mem} (hz : μ 28 = Z) : KZ Z (f_X4_add a1 a2 a3 μ) := by
  unfold f_X4_add
  repeat' (first | assumption | with_reducible refine kz_ret ?_ | with_reducible refine z28 (by decide) ?_ | with_reducible refine kz_gd ?_ | with_reducible refine kz_ite ?_ ?_ | with_reducible refine kz_bn ?_ ?_ | with_reducible refine k_X0_add ?_ | with_reducible refine kz_j1 ?_ ?_ | with_reducible refine kz_j2 ?_ ?_ | with_reducible refine kz_j3 ?_ ?_ | with_reducible refine kz_j0 ?_ ?_ | with_reducible refine kz_i1 ?_ ?_ | with_reducible refine kz_h3 (by assumption) ?_ | with_reducible refine kz_h2 (by assumption) ?_ | with_reducible refine kz_h1 (by assumption) ?_ | with_reducible refine kz_g1 (by assumption) | (intros; dsimp only) | intros | dsimp only)
theorem k_X8_telling {Z : Nat → Nat → Int} {a1 : Int} {a2 : Int} {a3 : Int} {μ : Mem} (hz : μ 28 = Z) : KZ Z (f_X8_telling a1 a2 a3 μ) := by
  unfold f_X8_telling
  repeat' (first | assumption | with_reducible refine kz_ret ?_ | with_reducible refine z28 (by decide) ?_ | with_reducible refine kz_gd ?_ | with_reducible refine kz_ite ?_ ?_ | with_reducible refine kz_bn ?_ ?_ | with_reducible refine k_X8_refuse ?_ | with_reducible refine k_X4_add ?_ | with_reducible refine k_X8_well ?_ | with_reducible refine kz_h3 (by assumption) ?_ | with_reducible refine kz_h2 (by assumption) ?_ | with_reducible refine kz_h1 (by assumption) ?_ | with_reducible refine kz_g1 (by assumption) | (intros; dsimp only) | intros | dsimp only)
theorem k_X8_isStep {Z : Nat → Nat → Int} {a0 : Int} {μ : Mem} (hz : μ 28 = Z) : KZ Z (f_X8_isStep a0 μ) := by
  unfold f_X8_isStep
  repeat' (first | assumption | with_reducible refine kz_ret ?_ | with_reducible refine z28 (by decide) ?_ | with_reducible refine kz_gd ?_ | with_reducible refine kz_ite ?_ ?_ | with_reducible refine kz_bn ?_ ?_ | with_reducible refine kz_h3 (by assumption) ?_ | with_reducible refine kz_h2 (by assumption) ?_ | with_reducible refine kz_h1 (by assumption) ?_ | with_reducible refine kz_g1 (by assumption) | (intros; dsimp only) | intros | dsimp only)
theorem k_X8_judged {Z : Nat → Nat → Int} {a1 : Int} {a2 : Int} {μ : Mem} (hz : μ 28 = Z) : KZ Z (f_X8_judged a1 a2 μ) := by
  unfold f_X8_judged
  repeat' (first | assumption | with_reducible refine kz_ret ?_ | with_reducible refine z28 (by decide) ?_ | with_reducible refine kz_gd ?_ | with_reducible refine kz_ite ?_ ?_ | with_reducible refine kz_bn ?_ ?_ | with_reducible refine k_X8_isStep ?_ | with_reducible refine k_X8_refuseNumber ?_ | with_reducible refine kz_h3 (by assumption) ?_ | with_reducible refine kz_h2 (by assumption) ?_ | with_reducible refine kz_h1 (by assumption) ?_ | with_reducible refine kz_g1 (by assumption) | (intros; dsimp only) | intros | dsimp only)
theorem k_X8_tell {Z : Nat → Nat → Int} {a1 : Int} {a3 : Int} {μ : Mem} (hz : μ 28 = Z) : KZ Z (f_X8_tell a1 a3 μ) := by
  unfold f_X8_tell
  repeat' (first | assumption | with_reducible refine kz_ret ?_ | with_reducible refine z28 (by decide) ?_ | with_reducible refine kz_gd ?_ | with_reducible refine kz_ite ?_ ?_ | with_reducible refine kz_bn ?_ ?_ | with_reducible refine k_X0_become ?_ | with_reducible refine k_X8_well ?_ | with_reducible refine kz_h3 (by assumption) ?_ | with_reducible refine kz_h2 (by assumption) ?_ | with_reducible refine kz_h1 (by assumption) ?_ | with_reducible refine kz_g1 (by assumption) | (intros; dsimp only) | intros | dsimp only)
theorem k_X8_said {Z : Nat → Nat → Int} {a1 : Int} {μ : Mem} (hz : μ 28 = Z) : KZ Z (f_X8_said a1 μ) := by
  unfold f_X8_said
  repeat' (first | assumption | with_reducible refine kz_ret ?_ | with_reducible refine z28 (by decide) ?_ | with_reducible refine kz_gd ?_ | with_reducible refine kz_ite ?_ ?_ | with_reducible refine kz_bn ?_ ?_ | with_reducible refine k_X8_isStep ?_ | with_reducible refine k_X8_refuse ?_ | with_reducible refine k_X8_tell ?_ | with_reducible refine kz_h3 (by assumption) ?_ | with_reducible refine kz_h2 (by assumption) ?_ | with_reducible refine kz_h1 (by assumption) ?_ | with_reducible refine kz_g1 (by assumption) | (intros; dsimp only) | intros | dsimp only)
