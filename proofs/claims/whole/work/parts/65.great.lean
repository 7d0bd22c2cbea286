/-! WORKS as both hold them; how great they are -/
def OKD (D : Dt) : Prop := (D.1 3 = (dnp D : Int) ∧ dnp D ≤ 10) ∧ (D.1 4 = (dnc D : Int) ∧ dnc D ≤ 4) ∧ (1 ≤ dhs D ∧ dhs D ≤ 30) ∧ (-1 ≤ dtd D ∧ dtd D ≤ 9999) ∧
  (∀ p, p < dnp D → (D.2.1 p 3 = (drw D p : Int) ∧ 1 ≤ drw D p ∧ drw D p ≤ 8) ∧ (0 ≤ dhd D p ∧ dhd D p ≤ 9) ∧ (D.2.1 p 6 = (dnd D p : Int) ∧ dnd D p < 2 ^ p) ∧ (-1 ≤ dcm D p ∧ dcm D p ≤ 9999) ∧ daw D p = sm (dwt D p) (drw D p) ∧
    (∀ k, k < drw D p → (0 ≤ ddy D p k ∧ ddy D p k ≤ 99) ∧ (1 ≤ dwt D p k ∧ dwt D p k ≤ 1000)) ∧ ∀ c, c < 4 → 0 ≤ dlt D p c ∧ dlt D p c ≤ 99) ∧
  ∀ c, c < dnc D → 1 ≤ dct D c ∧ dct D c < dcl D c ∧ dcl D c ≤ 12
def WM (D : Dt) (μ : Mem) : Prop := (μ 30 0 7 = (dnp D : Int) ∧ μ 30 0 8 = (dnc D : Int) ∧ μ 30 0 9 = dhs D ∧ μ 30 0 10 = dtd D) ∧
  (∀ p, p < dnp D → (μ 34 0 p = (drw D p : Int) ∧ μ 35 0 p = dhd D p ∧ μ 36 0 p = (dnd D p : Int) ∧ μ 37 0 p = dcm D p) ∧ (∀ k, k < drw D p → μ 38 0 (8 * p + k) = ddy D p k ∧ μ 39 0 (8 * p + k) = dwt D p k) ∧ ∀ c, c < 4 → μ 40 0 (4 * p + c) = dlt D p c) ∧
  ∀ c, c < dnc D → μ 41 0 c = dct D c ∧ μ 42 0 c = dcl D c
theorem RW_OK {μx μm : Mem} (R : Rel μx μm) : OKD (dt μx) ∧ WM (dt μx) μm := by
  obtain ⟨⟨a1, a2, a3⟩, ⟨b1, b2, b3⟩, ⟨c1, c2, c3⟩, ⟨d1, d2, d3⟩, hp, hc⟩ := R.2.2.2.1
  have en : (dnp (dt μx) : Int) = μm 30 0 7 := by unfold dnp; rw [a1]; omega
  have ec : (dnc (dt μx) : Int) = μm 30 0 8 := by unfold dnc; rw [b1]; omega
  refine ⟨⟨⟨by rw [en]; exact a1, by omega⟩, ⟨by rw [ec]; exact b1, by omega⟩, by unfold dhs; rw [c1]; omega, by unfold dtd; rw [d1]; omega, fun p h => ?_, fun c h => ?_⟩, ⟨en.symm, ec.symm, c1.symm, d1.symm⟩, fun p h => ?_, fun c h => ?_⟩
  · obtain ⟨⟨r1, r1', r1''⟩, ⟨r2, r2', r2''⟩, ⟨r3, r3', r3''⟩, ⟨r4, r4', r4''⟩, r5, r6, r7⟩ := hp p (by omega)
    have er : (drw (dt μx) p : Int) = μm 34 0 p := by unfold drw; rw [r1]; omega
    have ed : (dnd (dt μx) p : Int) = μm 36 0 p := by unfold dnd; rw [r3]; omega
    refine ⟨⟨by rw [er]; exact r1, by omega, by omega⟩, by unfold dhd; rw [r2]; omega, ⟨by rw [ed]; exact r3, by have : ((2 ^ p : Nat) : Int) = 2 ^ p := Int.natCast_pow 2 p; omega⟩, by unfold dcm; rw [r4]; omega, ?_, fun k hk => ?_, fun c hc => ?_⟩
    · unfold daw drw; rw [r5, r1]
      exact sm_congr _ (fun k hk => ((r6 k (by omega)).2.2.2.1).symm)
    · have := r6 k (by omega)
      unfold ddy dwt; omega
    · have := r7 c hc
      unfold dlt; omega
  · have := hc c (by omega)
    unfold dct dcl; omega
  · obtain ⟨⟨r1, r1', r1''⟩, ⟨r2, r2', r2''⟩, ⟨r3, r3', r3''⟩, ⟨r4, r4', r4''⟩, r5, r6, r7⟩ := hp p (by omega)
    have er : (drw (dt μx) p : Int) = μm 34 0 p := by unfold drw; rw [r1]; omega
    have ed : (dnd (dt μx) p : Int) = μm 36 0 p := by unfold dnd; rw [r3]; omega
    exact ⟨⟨er.symm, r2.symm, ed.symm, r4.symm⟩, fun k hk => ⟨((r6 k (by omega)).1).symm, ((r6 k (by omega)).2.2.2.1).symm⟩, fun c hc => ((r7 c hc).1).symm⟩
  · exact ⟨((hc c (by omega)).1).symm, ((hc c (by omega)).2.1).symm⟩
theorem WM_ext {D : Dt} {μ μ' : Mem} (W : WM D μ) (h : ∀ t, 34 ≤ t → t ≤ 42 → μ' t = μ t) (hs : ∀ k, k = 7 ∨ k = 8 ∨ k = 9 ∨ k = 10 → μ' 30 0 k = μ 30 0 k) : WM D μ' := by
  unfold WM
  rw [hs 7 (by omega), hs 8 (by omega), hs 9 (by omega), hs 10 (by omega), h 34 (by omega) (by omega), h 35 (by omega) (by omega), h 36 (by omega) (by omega), h 37 (by omega) (by omega), h 38 (by omega) (by omega), h 39 (by omega) (by omega), h 40 (by omega) (by omega), h 41 (by omega) (by omega), h 42 (by omega) (by omega)]
  exact W
theorem WM_m0 {D : Dt} {μ : Mem} (W : WM D μ) : WM D (m0 μ) := WM_ext W (fun t _ _ => m0_tag _ (by omega)) (fun k h => m0_k _ (by omega))
section
variable {D : Dt} {μ : Mem} {p k c : Nat}
theorem ok_np (O : OKD D) : dnp D ≤ 10 := O.1.2
theorem ok_nc (O : OKD D) : dnc D ≤ 4 := O.2.1.2
theorem ok_hs (O : OKD D) : 1 ≤ dhs D ∧ dhs D ≤ 30 := O.2.2.1
theorem ok_td (O : OKD D) : -1 ≤ dtd D ∧ dtd D ≤ 9999 := O.2.2.2.1
theorem ok_rw (O : OKD D) (h : p < dnp D) : 1 ≤ drw D p ∧ drw D p ≤ 8 := (O.2.2.2.2.1 p h).1.2
theorem ok_hd (O : OKD D) (h : p < dnp D) : 0 ≤ dhd D p ∧ dhd D p ≤ 9 := (O.2.2.2.2.1 p h).2.1
theorem ok_nd (O : OKD D) (h : p < dnp D) : dnd D p < 2 ^ p := (O.2.2.2.2.1 p h).2.2.1.2
theorem ok_cm (O : OKD D) (h : p < dnp D) : -1 ≤ dcm D p ∧ dcm D p ≤ 9999 := (O.2.2.2.2.1 p h).2.2.2.1
theorem ok_aw (O : OKD D) (h : p < dnp D) : daw D p = sm (dwt D p) (drw D p) := (O.2.2.2.2.1 p h).2.2.2.2.1
theorem ok_dy (O : OKD D) (h : p < dnp D) (h2 : k < drw D p) : 0 ≤ ddy D p k ∧ ddy D p k ≤ 99 := ((O.2.2.2.2.1 p h).2.2.2.2.2.1 k h2).1
theorem ok_wt (O : OKD D) (h : p < dnp D) (h2 : k < drw D p) : 1 ≤ dwt D p k ∧ dwt D p k ≤ 1000 := ((O.2.2.2.2.1 p h).2.2.2.2.2.1 k h2).2
theorem ok_lt (O : OKD D) (h : p < dnp D) (h2 : c < 4) : 0 ≤ dlt D p c ∧ dlt D p c ≤ 99 := (O.2.2.2.2.1 p h).2.2.2.2.2.2 c h2
theorem ok_ct (O : OKD D) (h : c < dnc D) : 1 ≤ dct D c ∧ dct D c < dcl D c ∧ dcl D c ≤ 12 := O.2.2.2.2.2 c h
theorem wx_np (O : OKD D) (X : dt μ = D) : μ 15 0 3 = (dnp D : Int) := by subst X; exact O.1.1
theorem wx_nc (O : OKD D) (X : dt μ = D) : μ 15 0 4 = (dnc D : Int) := by subst X; exact O.2.1.1
theorem wx_hs (X : dt μ = D) : μ 15 0 5 = dhs D := by subst X; rfl
theorem wx_td (X : dt μ = D) : μ 15 0 6 = dtd D := by subst X; rfl
theorem wx_rw (O : OKD D) (X : dt μ = D) (h : p < dnp D) : μ 17 p 3 = (drw D p : Int) := by subst X; exact (O.2.2.2.2.1 p h).1.1
theorem wx_aw (X : dt μ = D) : μ 17 p 4 = daw D p := by subst X; rfl
theorem wx_hd (X : dt μ = D) : μ 17 p 5 = dhd D p := by subst X; rfl
theorem wx_nd (O : OKD D) (X : dt μ = D) (h : p < dnp D) : μ 17 p 6 = (dnd D p : Int) := by subst X; exact (O.2.2.2.2.1 p h).2.2.1.1
theorem wx_cm (X : dt μ = D) : μ 17 p 7 = dcm D p := by subst X; rfl
theorem wx_dy (X : dt μ = D) : μ 18 p k = ddy D p k := by subst X; rfl
theorem wx_wt (X : dt μ = D) : μ 19 p k = dwt D p k := by subst X; rfl
theorem wx_lt (X : dt μ = D) : μ 20 p c = dlt D p c := by subst X; rfl
theorem wx_ct (X : dt μ = D) : μ 21 0 c = dct D c := by subst X; rfl
theorem wx_cl (X : dt μ = D) : μ 22 0 c = dcl D c := by subst X; rfl
theorem wm_np (W : WM D μ) : μ 30 0 7 = (dnp D : Int) := W.1.1
theorem wm_nc (W : WM D μ) : μ 30 0 8 = (dnc D : Int) := W.1.2.1
theorem wm_hs (W : WM D μ) : μ 30 0 9 = dhs D := W.1.2.2.1
theorem wm_td (W : WM D μ) : μ 30 0 10 = dtd D := W.1.2.2.2
theorem wm_rw (W : WM D μ) (h : p < dnp D) : μ 34 0 p = (drw D p : Int) := (W.2.1 p h).1.1
theorem wm_hd (W : WM D μ) (h : p < dnp D) : μ 35 0 p = dhd D p := (W.2.1 p h).1.2.1
theorem wm_nd (W : WM D μ) (h : p < dnp D) : μ 36 0 p = (dnd D p : Int) := (W.2.1 p h).1.2.2.1
theorem wm_cm (W : WM D μ) (h : p < dnp D) : μ 37 0 p = dcm D p := (W.2.1 p h).1.2.2.2
theorem wm_dy (W : WM D μ) (h : p < dnp D) (h2 : k < drw D p) : μ 38 0 (8 * p + k) = ddy D p k := ((W.2.1 p h).2.1 k h2).1
theorem wm_wt (W : WM D μ) (h : p < dnp D) (h2 : k < drw D p) : μ 39 0 (8 * p + k) = dwt D p k := ((W.2.1 p h).2.1 k h2).2
theorem wm_lt (W : WM D μ) (h : p < dnp D) (h2 : c < 4) : μ 40 0 (4 * p + c) = dlt D p c := (W.2.1 p h).2.2 c h2
theorem wm_ct (W : WM D μ) (h : c < dnc D) : μ 41 0 c = dct D c := (W.2.2 c h).1
theorem wm_cl (W : WM D μ) (h : c < dnc D) : μ 42 0 c = dcl D c := (W.2.2 c h).2
theorem aw_bd (O : OKD D) (h : p < dnp D) : (drw D p : Int) ≤ daw D p ∧ daw D p ≤ 8000 := by
  rw [ok_aw O h]
  have hr := ok_rw O h
  have h1 := sm_bd (f := dwt D p) (B := 1000) (drw D p) (fun k hk => by have := ok_wt O h hk; omega)
  have h2 : ∀ n, n ≤ drw D p → (n : Int) ≤ sm (dwt D p) n := by
    intro n
    induction n with
    | zero => intro _; exact Int.le_refl _
    | succ n ih =>
      intro hn
      have := ih (by omega)
      have := ok_wt O h (show n < drw D p by omega)
      show ((n + 1 : Nat) : Int) ≤ sm (dwt D p) n + dwt D p n
      omega
  have := h2 (drw D p) (Nat.le_refl _)
  refine ⟨this, ?_⟩
  have : (1000 : Int) * (drw D p : Int) ≤ 8000 := by omega
  omega
end
theorem pr_pos {f : Nat → Int} : ∀ n, (∀ k, k < n → 1 ≤ f k) → 1 ≤ pr f n := by
  intro n
  induction n with
  | zero => intro _; exact Int.le_refl _
  | succ n ih =>
    intro h
    show 1 ≤ pr f n * f n
    have h1 := ih (fun k hk => h k (by omega))
    have h2 := h n (by omega)
    have := Int.mul_le_mul h1 h2 (by omega) (by omega)
    omega
theorem le_mul1 {a b : Int} (ha : 0 ≤ a) (hb : 1 ≤ b) : a ≤ a * b := by
  have := Int.mul_le_mul_of_nonneg_left hb ha
  omega
theorem pr_mono {f : Nat → Int} {n : Nat} : ∀ d, (∀ k, k < n + d → 1 ≤ f k) → pr f n ≤ pr f (n + d) := by
  intro d
  induction d with
  | zero => intro _; exact Int.le_refl _
  | succ d ih =>
    intro h
    have h1 := ih (fun k hk => h k (by omega))
    have h2 := pr_pos (n + d) (fun k hk => h k (by omega))
    have h3 := le_mul1 (show 0 ≤ pr f (n + d) by omega) (h (n + d) (by omega))
    show pr f n ≤ pr f (n + d) * f (n + d)
    omega
theorem mul_two_le {a b c d : Int} (h1 : a ≤ c) (h2 : b ≤ d) (ha : 0 ≤ a) (hb : 0 ≤ b) : a * b ≤ c * d := Int.mul_le_mul h1 h2 hb (by omega)
theorem tot_ge {D : Dt} (O : OKD D) {n : Nat} (h : n ≤ dnp D) : 1 ≤ pr (daw D) n ∧ pr (daw D) n ≤ tot D := by
  have h1 := pr_pos (f := daw D) n (fun k hk => by have := aw_bd O (show k < dnp D by omega); have := ok_rw O (show k < dnp D by omega); omega)
  have h2 := pr_mono (f := daw D) (n := n) (dnp D - n) (fun k hk => by have := aw_bd O (show k < dnp D by omega); have := ok_rw O (show k < dnp D by omega); omega)
  rw [show n + (dnp D - n) = dnp D by omega] at h2
  have h3 := pr_pos (f := dcl D) (dnc D) (fun c hc => by have := ok_ct O hc; omega)
  have := le_mul1 (show 0 ≤ pr (daw D) (dnp D) by omega) h3
  unfold tot
  omega
theorem tot_ge2 {D : Dt} (O : OKD D) {n : Nat} (h : n ≤ dnc D) : pr (daw D) (dnp D) * pr (dcl D) n ≤ tot D := by
  have h1 := (tot_ge O (Nat.le_refl (dnp D))).1
  have h2 := pr_mono (f := dcl D) (n := n) (dnc D - n) (fun k hk => by have := ok_ct O (show k < dnc D by omega); omega)
  rw [show n + (dnc D - n) = dnc D by omega] at h2
  exact Int.mul_le_mul_of_nonneg_left h2 (by omega)
theorem isGreatX_1 {D : Dt} {μ : Mem} (O : OKD D) (X : dt μ = D) (K : Int → Mem → Option (Int × Mem)) : ∀ (d n j : Nat), d + j = dnp D → d < n → pr (daw D) j ≤ 20000 → f_X7_isGreat_L4 K n (pr (daw D) j) (j : Int) μ = if pr (daw D) (dnp D) ≤ 20000 then K (pr (daw D) (dnp D)) μ else some (1, μ) := by
  intro d
  have h10 := ok_np O
  induction d with
  | zero =>
    intro n j hd hn hb
    obtain ⟨n, rfl⟩ : ∃ q, n = q + 1 := ⟨n - 1, by omega⟩
    have hj : j = dnp D := by omega
    rw [f_X7_isGreat_L4.eq_2, wx_np O X, if_pos (show w32 (dnp D : Int) ≤ w32 (j : Int) by rw [hj]; omega), ← hj, if_pos hb]
  | succ d ih =>
    intro n j hd hn hb
    obtain ⟨n, rfl⟩ : ∃ q, n = q + 1 := ⟨n - 1, by omega⟩
    have hw := aw_bd O (show j < dnp D by omega)
    have h1 := (tot_ge O (show j ≤ dnp D by omega)).1
    have h2 := (tot_ge O (show j + 1 ≤ dnp D by omega)).1
    have e : pr (daw D) j * daw D j = pr (daw D) (j + 1) := rfl
    have hm : pr (daw D) j * daw D j ≤ 20000 * 8000 := mul_two_le hb hw.2 (by omega) (by omega)
    rw [f_X7_isGreat_L4.eq_2, wx_np O X, if_neg (show ¬ w32 (dnp D : Int) ≤ w32 (j : Int) by rw [w32n (by omega), w32n (by omega)]; omega), gd_inb _ (by omega) (by omega) (by omega), ixn (by omega), wx_aw X, w32_id (x := daw D j) (by omega) (by omega), e, w64_id (x := pr (daw D) (j + 1)) (by omega) (by omega), show w64 20000 = 20000 from rfl, show ((j : Int) + 1) = ((j + 1 : Nat) : Int) by omega]
    by_cases z : pr (daw D) (j + 1) ≤ 20000
    · rw [if_pos z]; exact ih n (j + 1) (by omega) (by omega) z
    · rw [if_neg z, if_neg]
      have := pr_mono (f := daw D) (n := j + 1) d (fun k hk => by have := aw_bd O (show k < dnp D by omega); have := ok_rw O (show k < dnp D by omega); omega)
      rw [show j + 1 + d = dnp D by omega] at this
      omega
theorem isGreatX_2 {D : Dt} {μ : Mem} (O : OKD D) (X : dt μ = D) (K : Int → Mem → Option (Int × Mem)) (P : Int) : ∀ (d n j : Nat), d + j = dnc D → d < n → f_X7_isGreat_L43 K n (P * pr (dcl D) j) (j : Int) μ = K (P * pr (dcl D) (dnc D)) μ := by
  intro d
  have h10 := ok_nc O
  induction d with
  | zero =>
    intro n j hd hn
    obtain ⟨n, rfl⟩ : ∃ q, n = q + 1 := ⟨n - 1, by omega⟩
    have hj : j = dnc D := by omega
    rw [f_X7_isGreat_L43.eq_2, wx_nc O X, if_pos (show w32 (dnc D : Int) ≤ w32 (j : Int) by rw [hj]; omega), ← hj]
  | succ d ih =>
    intro n j hd hn
    obtain ⟨n, rfl⟩ : ∃ q, n = q + 1 := ⟨n - 1, by omega⟩
    have hw := ok_ct O (show j < dnc D by omega)
    rw [f_X7_isGreat_L43.eq_2, wx_nc O X, if_neg (show ¬ w32 (dnc D : Int) ≤ w32 (j : Int) by rw [w32n (by omega), w32n (by omega)]; omega), gd_inb _ (by omega) (by omega) (by omega), ixn (by omega), wx_cl X, w32_id (x := dcl D j) (by omega) (by omega), Int.mul_assoc, show ((j : Int) + 1) = ((j + 1 : Nat) : Int) by omega]
    exact ih n (j + 1) (by omega) (by omega)
theorem isGreatX {D : Dt} {μ : Mem} (O : OKD D) (X : dt μ = D) : f_X7_isGreat μ = some (if tot D ≤ 20000 then 0 else 1, μ) := by
  unfold f_X7_isGreat
  rw [show ∀ K, f_X7_isGreat_L4 K FU 1 0 μ = _ from fun K => isGreatX_1 O X K (dnp D) FU 0 (by omega) (by have := ok_np O; unfold FU; omega) (show (1 : Int) ≤ 20000 by decide)]
  have ht := tot_ge O (Nat.le_refl (dnp D))
  by_cases z : pr (daw D) (dnp D) ≤ 20000
  · rw [if_pos z]
    have h2 := isGreatX_2 O X (fun y9 μ8 => (if w64 y9 ≤ w64 20000 then some (0, μ8) else some (1, μ8))) (pr (daw D) (dnp D)) (dnc D) FU 0 (by omega) (by have := ok_nc O; unfold FU; omega)
    rw [show pr (dcl D) 0 = 1 from rfl, Int.mul_one] at h2
    rw [show f_X7_isGreat_L43 _ FU (pr (daw D) (dnp D)) 0 μ = _ from h2]
    have hc : ∀ n, n ≤ dnc D → 1 ≤ pr (dcl D) n ∧ pr (dcl D) n ≤ 12 ^ n := by
      intro n
      induction n with
      | zero => intro _; exact ⟨show (1 : Int) ≤ 1 by decide, show (1 : Int) ≤ 1 by decide⟩
      | succ n ih =>
        intro hn
        have i1 := ih (by omega)
        have i2 := ok_ct O (show n < dnc D by omega)
        refine ⟨?_, ?_⟩
        · exact pr_pos (n + 1) (fun k hk => by have := ok_ct O (show k < dnc D by omega); omega)
        · rw [Int.pow_succ]; exact mul_two_le i1.2 i2.2.2 (by omega) (by omega)
    have hc1 := hc (dnc D) (Nat.le_refl _)
    have h12 : (12 : Int) ^ dnc D ≤ 20736 := by
      have := ok_nc O
      have h5 : dnc D = 0 ∨ dnc D = 1 ∨ dnc D = 2 ∨ dnc D = 3 ∨ dnc D = 4 := by omega
      rcases h5 with h | h | h | h | h <;> rw [h] <;> decide
    have hb : pr (daw D) (dnp D) * pr (dcl D) (dnc D) ≤ 20000 * 20736 := mul_two_le z (by omega) (by omega) (by omega)
    have ht2 : tot D = pr (daw D) (dnp D) * pr (dcl D) (dnc D) := rfl
    rw [← ht2, w64_id (x := tot D) (by omega) (by omega), show w64 20000 = 20000 from rfl]
    by_cases z2 : tot D ≤ 20000
    · rw [if_pos z2, if_pos z2]
    · rw [if_neg z2, if_neg z2]
  · rw [if_neg z, if_neg (by omega)]
theorem sumM_D {D : Dt} {μ : Mem} (O : OKD D) (W : WM D μ) {p : Nat} (h : p < dnp D) : f_X9_sumOf (p : Int) μ = some (daw D p, μ) := by
  have hr := ok_rw O h
  have h10 := ok_np O
  have e := wm_rw W h
  rw [sumM (by omega) (by rw [e]; omega) (by rw [e]; omega), e, Int.toNat_natCast, ok_aw O h]
  rw [sm_congr _ (fun k hk => wm_wt W h hk)]
theorem isGreatM_1 {D : Dt} {μ : Mem} (O : OKD D) (W : WM D μ) (K : Int → Mem → Option (Int × Mem)) : ∀ (d n j : Nat), d + j = dnp D → d < n → pr (daw D) j ≤ 20000 → f_X9_isGreat_L4 K n (pr (daw D) j) (j : Int) μ = if pr (daw D) (dnp D) ≤ 20000 then K (pr (daw D) (dnp D)) μ else some (1, μ) := by
  intro d
  have h10 := ok_np O
  induction d with
  | zero =>
    intro n j hd hn hb
    obtain ⟨n, rfl⟩ : ∃ q, n = q + 1 := ⟨n - 1, by omega⟩
    have hj : j = dnp D := by omega
    rw [f_X9_isGreat_L4.eq_2, wm_np W, if_pos (show w32 (dnp D : Int) ≤ w32 (j : Int) by rw [hj]; omega), ← hj, if_pos hb]
  | succ d ih =>
    intro n j hd hn hb
    obtain ⟨n, rfl⟩ : ∃ q, n = q + 1 := ⟨n - 1, by omega⟩
    have hw := aw_bd O (show j < dnp D by omega)
    have h1 := (tot_ge O (show j ≤ dnp D by omega)).1
    have h2 := (tot_ge O (show j + 1 ≤ dnp D by omega)).1
    have e : pr (daw D) j * daw D j = pr (daw D) (j + 1) := rfl
    have hm : pr (daw D) j * daw D j ≤ 20000 * 8000 := mul_two_le hb hw.2 (by omega) (by omega)
    rw [f_X9_isGreat_L4.eq_2, wm_np W, if_neg (show ¬ w32 (dnp D : Int) ≤ w32 (j : Int) by rw [w32n (by omega), w32n (by omega)]; omega), sumM_D O W (by omega), bn_s, w32_id (x := daw D j) (by omega) (by omega), e, w64_id (x := pr (daw D) (j + 1)) (by omega) (by omega), show w64 20000 = 20000 from rfl, show ((j : Int) + 1) = ((j + 1 : Nat) : Int) by omega]
    by_cases z : pr (daw D) (j + 1) ≤ 20000
    · rw [if_pos z]; exact ih n (j + 1) (by omega) (by omega) z
    · rw [if_neg z, if_neg]
      have := pr_mono (f := daw D) (n := j + 1) d (fun k hk => by have := aw_bd O (show k < dnp D by omega); have := ok_rw O (show k < dnp D by omega); omega)
      rw [show j + 1 + d = dnp D by omega] at this
      omega
theorem isGreatM_2 {D : Dt} {μ : Mem} (O : OKD D) (W : WM D μ) : ∀ (d n j : Nat), d + j = dnc D → d < n → pr (daw D) (dnp D) * pr (dcl D) j ≤ 20000 → f_X9_isGreat_L39 n (pr (daw D) (dnp D) * pr (dcl D) j) (j : Int) μ = some (if tot D ≤ 20000 then 0 else 1, μ) := by
  intro d
  have h10 := ok_nc O
  have hP := (tot_ge O (Nat.le_refl (dnp D))).1
  induction d with
  | zero =>
    intro n j hd hn hb
    obtain ⟨n, rfl⟩ : ∃ q, n = q + 1 := ⟨n - 1, by omega⟩
    have hj : j = dnc D := by omega
    rw [hj] at hb
    rw [f_X9_isGreat_L39.eq_2, wm_nc W, if_pos (show w32 (dnc D : Int) ≤ w32 (j : Int) by rw [hj]; omega), if_pos (show tot D ≤ 20000 from hb)]
  | succ d ih =>
    intro n j hd hn hb
    obtain ⟨n, rfl⟩ : ∃ q, n = q + 1 := ⟨n - 1, by omega⟩
    have hw := ok_ct O (show j < dnc D by omega)
    have e : pr (daw D) (dnp D) * pr (dcl D) j * dcl D j = pr (daw D) (dnp D) * pr (dcl D) (j + 1) := Int.mul_assoc _ _ _
    have h1 := pr_pos (f := dcl D) j (fun k hk => by have := ok_ct O (show k < dnc D by omega); omega)
    have h2 : 1 ≤ pr (daw D) (dnp D) * pr (dcl D) j := by have := le_mul1 (show 0 ≤ pr (daw D) (dnp D) by omega) h1; omega
    have hm : pr (daw D) (dnp D) * pr (dcl D) j * dcl D j ≤ 20000 * 12 := mul_two_le hb hw.2.2 (by omega) (by omega)
    have h3 := le_mul1 (show 0 ≤ pr (daw D) (dnp D) * pr (dcl D) j by omega) (show 1 ≤ dcl D j by omega)
    rw [e] at hm h3
    rw [f_X9_isGreat_L39.eq_2, wm_nc W, if_neg (show ¬ w32 (dnc D : Int) ≤ w32 (j : Int) by rw [w32n (by omega), w32n (by omega)]; omega), gd_inb _ (by omega) (by omega) (by omega), ixn (by omega), wm_cl W (by omega), w32_id (x := dcl D j) (by omega) (by omega), e, w64_id (x := pr (daw D) (dnp D) * pr (dcl D) (j + 1)) (by omega) (by omega), show w64 20000 = 20000 from rfl, show ((j : Int) + 1) = ((j + 1 : Nat) : Int) by omega]
    by_cases z : pr (daw D) (dnp D) * pr (dcl D) (j + 1) ≤ 20000
    · rw [if_pos z]; exact ih n (j + 1) (by omega) (by omega) z
    · have := tot_ge2 O (show j + 1 ≤ dnc D by omega)
      rw [if_neg z, if_neg (show ¬ tot D ≤ 20000 by omega)]
theorem isGreatM {D : Dt} {μ : Mem} (O : OKD D) (W : WM D μ) : f_X9_isGreat μ = some (if tot D ≤ 20000 then 0 else 1, μ) := by
  unfold f_X9_isGreat
  rw [show ∀ K, f_X9_isGreat_L4 K FU 1 0 μ = _ from fun K => isGreatM_1 O W K (dnp D) FU 0 (by omega) (by have := ok_np O; unfold FU; omega) (show (1 : Int) ≤ 20000 by decide)]
  have ht := tot_ge O (Nat.le_refl (dnp D))
  by_cases z : pr (daw D) (dnp D) ≤ 20000
  · rw [if_pos z]
    have h2 := isGreatM_2 O W (dnc D) FU 0 (by omega) (by have := ok_nc O; unfold FU; omega)
    rw [show pr (dcl D) 0 = 1 from rfl, Int.mul_one] at h2
    exact h2 z
  · rw [if_neg z, if_neg (by omega)]
theorem stuckX {D : Dt} {μ : Mem} (O : OKD D) (X : dt μ = D) : (nStuck D → f_X7_isStuck μ = some (0, μ)) ∧ (¬ nStuck D → f_X7_isStuck μ = some (1, μ)) := by
  have h10 := ok_np O
  have hh := ok_hs O
  have L : ∀ (d n j : Nat), d + j = dnp D → d < n → (∀ p, p < j → dhd D p ≤ dhs D) → (nStuck D → f_X7_isStuck_L2 n (j : Int) μ = some (0, μ)) ∧ (¬ nStuck D → f_X7_isStuck_L2 n (j : Int) μ = some (1, μ)) := by
    intro d
    induction d with
    | zero =>
      intro n j hd hn hb
      obtain ⟨n, rfl⟩ : ∃ q, n = q + 1 := ⟨n - 1, by omega⟩
      have hj : j = dnp D := by omega
      rw [hj] at hb
      rw [f_X7_isStuck_L2.eq_2, wx_np O X, if_pos (show w32 (dnp D : Int) ≤ w32 (j : Int) by rw [hj]; omega)]
      exact ⟨fun _ => rfl, fun h => absurd hb h⟩
    | succ d ih =>
      intro n j hd hn hb
      obtain ⟨n, rfl⟩ : ∃ q, n = q + 1 := ⟨n - 1, by omega⟩
      have hd0 := ok_hd O (show j < dnp D by omega)
      rw [f_X7_isStuck_L2.eq_2, wx_np O X, if_neg (show ¬ w32 (dnp D : Int) ≤ w32 (j : Int) by rw [w32n (by omega), w32n (by omega)]; omega), gd_inb _ (by omega) (by omega) (by omega), ixn (by omega), wx_hd X, wx_hs X, w32_id (x := dhd D j) (by omega) (by omega), w32_id (x := dhs D) (by omega) (by omega), show ((j : Int) + 1) = ((j + 1 : Nat) : Int) by omega]
      by_cases z : dhd D j ≤ dhs D
      · rw [if_pos z]
        exact ih n (j + 1) (by omega) (by omega) (fun p hp => by by_cases e : p = j; · rw [e]; exact z
                                                                 · exact hb p (by omega))
      · rw [if_neg z]
        exact ⟨fun h => absurd (h j (by omega)) z, fun _ => rfl⟩
  exact L (dnp D) FU 0 (by omega) (by unfold FU; omega) (fun p hp => absurd hp (by omega))
theorem stuckM {D : Dt} {μ : Mem} (O : OKD D) (W : WM D μ) : (nStuck D → f_X9_isStuck μ = some (0, μ)) ∧ (¬ nStuck D → f_X9_isStuck μ = some (1, μ)) := by
  have h10 := ok_np O
  have hh := ok_hs O
  have L : ∀ (d n j : Nat), d + j = dnp D → d < n → (∀ p, p < j → dhd D p ≤ dhs D) → (nStuck D → f_X9_isStuck_L2 n (j : Int) μ = some (0, μ)) ∧ (¬ nStuck D → f_X9_isStuck_L2 n (j : Int) μ = some (1, μ)) := by
    intro d
    induction d with
    | zero =>
      intro n j hd hn hb
      obtain ⟨n, rfl⟩ : ∃ q, n = q + 1 := ⟨n - 1, by omega⟩
      have hj : j = dnp D := by omega
      rw [hj] at hb
      rw [f_X9_isStuck_L2.eq_2, wm_np W, if_pos (show w32 (dnp D : Int) ≤ w32 (j : Int) by rw [hj]; omega)]
      exact ⟨fun _ => rfl, fun h => absurd hb h⟩
    | succ d ih =>
      intro n j hd hn hb
      obtain ⟨n, rfl⟩ : ∃ q, n = q + 1 := ⟨n - 1, by omega⟩
      have hd0 := ok_hd O (show j < dnp D by omega)
      rw [f_X9_isStuck_L2.eq_2, wm_np W, if_neg (show ¬ w32 (dnp D : Int) ≤ w32 (j : Int) by rw [w32n (by omega), w32n (by omega)]; omega), gd_inb _ (by omega) (by omega) (by omega), ixn (by omega), wm_hd W (by omega), wm_hs W, w32_id (x := dhd D j) (by omega) (by omega), w32_id (x := dhs D) (by omega) (by omega), show ((j : Int) + 1) = ((j + 1 : Nat) : Int) by omega]
      by_cases z : dhd D j ≤ dhs D
      · rw [if_pos z]
        exact ih n (j + 1) (by omega) (by omega) (fun p hp => by by_cases e : p = j; · rw [e]; exact z
                                                                 · exact hb p (by omega))
      · rw [if_neg z]
        exact ⟨fun h => absurd (h j (by omega)) z, fun _ => rfl⟩
  exact L (dnp D) FU 0 (by omega) (by unfold FU; omega) (fun p hp => absurd hp (by omega))
theorem cW_le {D : Dt} (O : OKD D) : 1 ≤ cW D ∧ (cW D : Int) ≤ tot D ∧ (wR D (dnp D) : Int) ≤ tot D ∧ (∀ n, n ≤ dnp D → 1 ≤ wR D n ∧ (wR D n : Int) ≤ pr (daw D) n) := by
  have h1 : ∀ n, n ≤ dnp D → 1 ≤ wR D n ∧ (wR D n : Int) ≤ pr (daw D) n := by
    intro n
    induction n with
    | zero => intro _; exact ⟨Nat.le_refl _, Int.le_refl _⟩
    | succ n ih =>
      intro hn
      obtain ⟨i1, i2⟩ := ih (by omega)
      have hr := ok_rw O (show n < dnp D by omega)
      have ha := aw_bd O (show n < dnp D by omega)
      refine ⟨Nat.mul_le_mul i1 hr.1, ?_⟩
      show ((wR D n * drw D n : Nat) : Int) ≤ pr (daw D) n * daw D n
      rw [Int.natCast_mul]
      exact mul_two_le i2 ha.1 (by omega) (by omega)
  have h2 : ∀ n, n ≤ dnc D → ((2 ^ n : Nat) : Int) ≤ pr (dcl D) n := by
    intro n
    induction n with
    | zero => intro _; exact Int.le_refl _
    | succ n ih =>
      intro hn
      have i1 := ih (by omega)
      have hr := ok_ct O (show n < dnc D by omega)
      rw [Nat.pow_succ, Int.natCast_mul]
      exact mul_two_le i1 (show ((2 : Nat) : Int) ≤ dcl D n by omega) (Int.natCast_nonneg _) (by omega)
  have a1 := h1 (dnp D) (Nat.le_refl _)
  have a2 := h2 (dnc D) (Nat.le_refl _)
  have p2 : 1 ≤ 2 ^ dnc D := Nat.one_le_two_pow
  refine ⟨Nat.mul_le_mul a1.1 p2, ?_, ?_, h1⟩
  · unfold cW tot; rw [Int.natCast_mul]; exact mul_two_le a1.2 a2 (by omega) (by omega)
  · have := (tot_ge O (Nat.le_refl (dnp D))).2; omega
theorem wR_mono {D : Dt} (O : OKD D) : ∀ d n, n + d ≤ dnp D → wR D n ≤ wR D (n + d) := by
  intro d
  induction d with
  | zero => intro n _; exact Nat.le_refl _
  | succ d ih =>
    intro n h
    have h1 := ih n (by omega)
    have h2 := ok_rw O (show n + d < dnp D by omega)
    show wR D n ≤ wR D (n + d) * drw D (n + d)
    exact Nat.le_trans h1 (Nat.le_mul_of_pos_right _ h2.1)
theorem rowsX {D : Dt} {μ : Mem} (O : OKD D) (X : dt μ = D) : ∀ (d n j : Nat), d + j = dnp D → d < n → f_X7_rowsAhead_L4 (dnp D : Int) n (wR D j : Int) (j : Int) μ = some ((wR D (dnp D) : Int), μ) := by
  intro d
  have h10 := ok_np O
  induction d with
  | zero =>
    intro n j hd hn
    obtain ⟨n, rfl⟩ : ∃ q, n = q + 1 := ⟨n - 1, by omega⟩
    have hj : j = dnp D := by omega
    rw [f_X7_rowsAhead_L4.eq_2, if_pos (show w32 (dnp D : Int) ≤ w32 (j : Int) by rw [hj]; omega), hj]
  | succ d ih =>
    intro n j hd hn
    obtain ⟨n, rfl⟩ : ∃ q, n = q + 1 := ⟨n - 1, by omega⟩
    have hlt : ¬ w32 (dnp D : Int) ≤ w32 (j : Int) := by rw [w32n (by omega), w32n (by omega)]; omega
    rw [f_X7_rowsAhead_L4.eq_2, wx_np O X, if_neg hlt, if_neg hlt, gd_inb _ (by omega) (by omega) (by omega), ixn (by omega), wx_rw O X (by omega), show ((j : Int) + 1) = ((j + 1 : Nat) : Int) by omega, ← Int.natCast_mul]
    exact ih n (j + 1) (by omega) (by omega)
theorem countX {D : Dt} {μ : Mem} (O : OKD D) (X : dt μ = D) (ht : tot D ≤ 20000) : f_X7_countWays μ = some ((cW D : Int), μ) := by
  unfold f_X7_countWays f_X7_rowsAhead
  have hc := cW_le O
  rw [wx_np O X, show f_X7_rowsAhead_L4 (dnp D : Int) FU 1 0 μ = _ from rowsX O X (dnp D) FU 0 (by omega) (by have := ok_np O; unfold FU; omega), bn_s, wx_nc O X]
  have := ok_nc O
  rw [b_shl (by omega) (show wR D (dnp D) * 2 ^ dnc D < 2 ^ 31 by have : wR D (dnp D) * 2 ^ dnc D = cW D := rfl; omega)]
  rfl
theorem waysM {D : Dt} {μ : Mem} (O : OKD D) (W : WM D μ) (ht : tot D ≤ 20000) : f_X9_ways_L28 FU 1 0 μ = some ((cW D : Int), μ) := by
  have h10 := ok_np O
  have hc := cW_le O
  have L : ∀ (d n j : Nat), d + j = dnp D → d < n → f_X9_ways_L28 n (wR D j : Int) (j : Int) μ = some ((cW D : Int), μ) := by
    intro d
    induction d with
    | zero =>
      intro n j hd hn
      obtain ⟨n, rfl⟩ : ∃ q, n = q + 1 := ⟨n - 1, by omega⟩
      have hj : j = dnp D := by omega
      have := ok_nc O
      rw [f_X9_ways_L28.eq_2, wm_np W, if_pos (show w32 (dnp D : Int) ≤ w32 (j : Int) by rw [hj]; omega), hj, wm_nc W, b_shl (by omega) (show wR D (dnp D) * 2 ^ dnc D < 2 ^ 31 by have : wR D (dnp D) * 2 ^ dnc D = cW D := rfl; omega)]
      rfl
    | succ d ih =>
      intro n j hd hn
      obtain ⟨n, rfl⟩ : ∃ q, n = q + 1 := ⟨n - 1, by omega⟩
      rw [f_X9_ways_L28.eq_2, wm_np W, if_neg (show ¬ w32 (dnp D : Int) ≤ w32 (j : Int) by rw [w32n (by omega), w32n (by omega)]; omega), gd_inb _ (by omega) (by omega) (by omega), ixn (by omega), wm_rw W (by omega), show ((j : Int) + 1) = ((j + 1 : Nat) : Int) by omega, ← Int.natCast_mul]
      exact ih n (j + 1) (by omega) (by omega)
  exact L (dnp D) FU 0 (by omega) (by unfold FU; omega)
theorem op_ways {μx μm : Mem} (R : Rel μx μm) : Step (f_X8_ways μx) (f_X9_ways μm) := by
  obtain ⟨O, W⟩ := RW_OK R
  unfold f_X8_ways f_X9_ways
  rw [m0_def, isGreatX O rfl, isGreatM O (WM_m0 W), bn_s, bn_s]
  by_cases z : tot (dt μx) ≤ 20000
  · rw [if_pos z, if_pos w32_0, if_pos w32_0, waysM O (WM_m0 W) z, countX O (dt_st _ (by decide)) z, bn_s]
    exact Step_mk rfl (Rel_o R)
  · rw [if_neg z, if_neg (show ¬ w32 1 = 0 by decide), if_neg (show ¬ w32 1 = 0 by decide)]
    simp only [f_X8_refuseNumber, f_X9_refuse, bn_s]
    exact Step_mk rfl (Rel_rf R 9)
