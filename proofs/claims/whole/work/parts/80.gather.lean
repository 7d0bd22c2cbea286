/-! GATHERING by day -/
theorem Frs_g {D : Dt} {μ μ' : Mem} (F : Frs D μ) (h : ∀ t, t ≠ 7 → t ≠ 8 → μ' t = μ t) (h7 : ∀ s, s ≠ 9 → μ' 7 0 s = μ 7 0 s) : Frs D μ' := by
  obtain ⟨f1, f2, f3⟩ := F
  refine ⟨(dt_of (fun t h1 _ => h t (by omega) (by omega))).trans f1, ?_, ?_⟩
  · rw [h7 5 (by decide)]; exact f2
  · rw [h 9 (by decide) (by decide), h 10 (by decide) (by decide), h 28 (by decide) (by decide)]
    exact Cach_ext f3 (h7 5 (by decide)) (h7 6 (by decide)) (h7 7 (by decide)) (h7 8 (by decide))
theorem emptyDX {D : Dt} {μ : Mem} (F : Frs D μ) : ∃ μ', f_X6_emptyDays μ = some (0, μ') ∧ Frs D μ' ∧ (∀ t, t ≠ 7 → t ≠ 8 → μ' t = μ t) ∧ (∀ s, s ≠ 9 → μ' 7 0 s = μ 7 0 s) ∧ μ' 7 0 9 = 0 ∧ ∀ d : Nat, (d : Int) ≤ μ 7 0 7 → μ' 8 0 d = 0 := by
  have h7 := (fr_7 F).1
  have w4 : w32 4950 = 4950 := rfl
  obtain ⟨e, he⟩ := natOf h7.1
  have L : ∀ (d n j : Nat) (μ1 : Mem), d + j = e + 1 → d < n → μ1 7 0 7 = (e : Int) → (∀ s, s < j → μ1 8 0 s = 0) → ∃ μ', f_X6_emptyDays_L7 n (j : Int) μ1 = some (0, μ') ∧ (∀ t, t ≠ 8 → μ' t = μ1 t) ∧ ∀ s, s < e + 1 → μ' 8 0 s = 0 := by
    intro d
    induction d with
    | zero =>
      intro n j μ1 hd hn h1 h2
      obtain ⟨n, rfl⟩ : ∃ q, n = q + 1 := ⟨n - 1, by omega⟩
      refine ⟨μ1, ?_, fun t _ => rfl, fun s hs => h2 s (by omega)⟩
      rw [f_X6_emptyDays_L7.eq_2, if_pos (show w32 (μ1 7 0 7) < w32 (j : Int) by rw [h1, w32n (by omega), w32n (by omega)]; omega)]
    | succ d ih =>
      intro n j μ1 hd hn h1 h2
      obtain ⟨n, rfl⟩ : ∃ q, n = q + 1 := ⟨n - 1, by omega⟩
      obtain ⟨μ', a1, a2, a3⟩ := ih n (j + 1) (st μ1 8 0 j 0) (by omega) (by omega) (by rw [st_nt _ (by decide)]; exact h1) (fun s hs => by
        by_cases z : s = j
        · rw [z, st_eq]
        · rw [st_nk _ z]; exact h2 s (by omega))
      refine ⟨μ', ?_, fun t ht => by rw [a2 t ht, st_tag _ ht], a3⟩
      rw [f_X6_emptyDays_L7.eq_2, if_neg (show ¬ w32 (μ1 7 0 7) < w32 (j : Int) by rw [h1, w32n (by omega), w32n (by omega)]; omega), if_neg (show ¬ w32 4950 < w32 (j : Int) by rw [w4, w32n (by omega)]; omega), gd_inb _ (by omega) (by omega) (by omega), ixn (by omega), show ((j : Int) + 1) = ((j + 1 : Nat) : Int) by omega]
      exact a1
  obtain ⟨μ', a1, a2, a3⟩ := L (e + 1) FU 0 (st μ 7 0 9 0) (by omega) (by unfold FU; omega) (by rw [st_nk _ (by decide)]; exact he) (fun s hs => absurd hs (by omega))
  have g1 : ∀ t, t ≠ 7 → t ≠ 8 → μ' t = μ t := fun t q1 q2 => by rw [a2 t q2, st_tag _ q1]
  have g2 : ∀ s, s ≠ 9 → μ' 7 0 s = μ 7 0 s := fun s hs => by rw [a2 7 (by decide), st_nk _ hs]
  exact ⟨μ', a1, Frs_g F g1 g2, g1, g2, by rw [a2 7 (by decide), st_eq], fun d hd => a3 d (by omega)⟩
/-- gathered so far -/
def GS (D : Dt) (cp cr : Int) (x : Nat) (μ : Mem) : Prop := Frs D μ ∧ (∀ d : Nat, (d : Int) ≤ μ 7 0 7 → μ 8 0 d = sm (dst D (-1) cp cr d) x) ∧ μ 7 0 9 = sm (cwt D cp cr) x
theorem vd1 {D : Dt} {k : Nat} : vday D (-1) k = wEnd D k (-1) := by unfold vday; rw [if_neg (by decide)]
theorem gather1 {D : Dt} (O : OKD D) {cp cr : Int} {x : Nat} (hx : x < cW D) (hc : cond D cp cr x) {μ : Mem} (G : GS D cp cr x μ) : ∃ μ', f_X6_gather (x : Int) μ = some (0, μ') ∧ GS D cp cr (x + 1) μ' ∧ (∀ t, t ≠ 7 → t ≠ 8 → μ' t = μ t) ∧ ∀ s, s ≠ 9 → μ' 7 0 s = μ 7 0 s := by
  obtain ⟨F, g8, g9⟩ := G
  have hcw := cW_le O
  have ht := fr_t F
  have h28 := fr_28 F
  obtain ⟨k1, k2, k3⟩ := fr_k F hx
  have hb := wEnd_bd O (k := x) (sl := -1)
  rw [if_neg (by decide)] at hb
  have hwp := wWt_pos O (k := x)
  have hwl := wWt_le O hx
  have w4 : w32 4950 = 4950 := rfl
  have d1 : ∀ d, sm (dst D (-1) cp cr d) (x + 1) = sm (dst D (-1) cp cr d) x + dst D (-1) cp cr d x := fun _ => rfl
  have d2 : sm (cwt D cp cr) (x + 1) = sm (cwt D cp cr) x + cwt D cp cr x := rfl
  unfold f_X6_gather
  by_cases hw : wLft D x
  · have he := (fr_7 F).2 x hx hw
    obtain ⟨v, hv⟩ := natOf hb.1
    rw [gd_inb _ (by omega) (by omega) (by omega), ixn (by omega), k2 hw, hv, if_neg (by rw [w32n (by omega)]; omega), if_neg (by rw [w32n (by omega), w4]; omega), gd_inb _ (by omega) (by omega) (by omega), gd_inb _ (by omega) (by omega) (by omega), gd_inb _ (by omega) (by omega) (by omega), ixn (by omega), st_nt _ (by decide), st_nt _ (by decide), st_nt _ (by decide), gd_inb _ (by omega) (by omega) (by omega), k1, w32_id (x := wWt D x) (by omega) (by omega)]
    have g1 : ∀ t, t ≠ 7 → t ≠ 8 → st (st μ 8 0 v (μ 8 0 v + wWt D x)) 7 0 9 (μ 7 0 9 + wWt D x) t = μ t := fun t q1 q2 => by rw [st_tag _ q1, st_tag _ q2]
    have g2 : ∀ s, s ≠ 9 → st (st μ 8 0 v (μ 8 0 v + wWt D x)) 7 0 9 (μ 7 0 9 + wWt D x) 7 0 s = μ 7 0 s := fun s hs => by rw [st_nk _ hs, st_nt _ (by decide)]
    refine ⟨_, rfl, ⟨Frs_g F g1 g2, fun d hd => ?_, ?_⟩, g1, g2⟩
    · rw [g2 7 (by decide)] at hd
      rw [st_nt _ (by decide), d1 d, dst_eq, vd1, hv]
      have ec : cwt D cp cr x = wWt D x := by unfold cwt; rw [if_pos hc, lw_y hw]
      by_cases e : d = v
      · rw [e, st_eq, if_pos ⟨trivial, rfl⟩, ec, g8 v (by omega)]
      · rw [st_nk _ e, if_neg (fun z => e (by omega)), Int.add_zero]; exact g8 d hd
    · rw [st_eq, d2, g9]; unfold cwt; rw [if_pos hc, lw_y hw]
  · rw [gd_inb _ (by omega) (by omega) (by omega), ixn (by omega), k3 hw, if_pos (by decide)]
    have ec : cwt D cp cr x = 0 := by unfold cwt; rw [lw_n hw]; split <;> rfl
    refine ⟨μ, rfl, ⟨F, fun d hd => ?_, ?_⟩, fun t _ _ => rfl, fun s _ => rfl⟩
    · rw [d1 d, dst_eq, ec, g8 d hd]; split <;> omega
    · rw [d2, ec, Int.add_zero]; exact g9
theorem sm_skip {f : Nat → Int} {a : Nat} (b : Nat) (h : ∀ k, a ≤ k → k < a + b → f k = 0) : sm f (a + b) = sm f a := by
  rw [sm_split, sm_zero b (fun k hk => h (a + k) (by omega) (by omega)), Int.add_zero]
theorem GS_skip {D : Dt} {cp cr : Int} {a b : Nat} {μ : Mem} (G : GS D cp cr a μ) (hab : a ≤ b) (h : ∀ k, a ≤ k → k < b → ¬ cond D cp cr k) : GS D cp cr b μ := by
  obtain ⟨F, g8, g9⟩ := G
  have hz : ∀ k, a ≤ k → k < a + (b - a) → cwt D cp cr k = 0 := fun k h1 h2 => by unfold cwt; rw [if_neg (h k h1 (by omega))]
  have e : a + (b - a) = b := by omega
  refine ⟨F, fun d hd => ?_, ?_⟩
  · have := sm_skip (f := dst D (-1) cp cr d) (a := a) (b - a) (fun k h1 h2 => by rw [dst_eq, hz k h1 h2]; split <;> rfl)
    rw [e] at this
    rw [this]; exact g8 d hd
  · have := sm_skip (f := cwt D cp cr) (a := a) (b - a) hz
    rw [e] at this
    rw [this]; exact g9
theorem gatherAllX {D : Dt} (O : OKD D) {μ : Mem} (F : Frs D μ) : ∃ μ', f_X6_gatherAll μ = some (0, μ') ∧ GS D (-1) 0 (cW D) μ' ∧ (∀ t, t ≠ 7 → t ≠ 8 → μ' t = μ t) ∧ ∀ s, s ≠ 9 → μ' 7 0 s = μ 7 0 s := by
  have hcw := cW_le O
  have ht := fr_t F
  unfold f_X6_gatherAll
  obtain ⟨μ1, a1, a2, a3, a4, a5, a6⟩ := emptyDX F
  have L : ∀ (d n j : Nat) (μ2 : Mem), d + j = cW D → d < n → GS D (-1) 0 j μ2 → ∃ μ', f_X6_gatherAll_L6 n (j : Int) μ2 = some (0, μ') ∧ GS D (-1) 0 (cW D) μ' ∧ (∀ t, t ≠ 7 → t ≠ 8 → μ' t = μ2 t) ∧ ∀ s, s ≠ 9 → μ' 7 0 s = μ2 7 0 s := by
    intro d
    induction d with
    | zero =>
      intro n j μ2 hd hn G
      obtain ⟨n, rfl⟩ : ∃ q, n = q + 1 := ⟨n - 1, by omega⟩
      have hj : j = cW D := by omega
      subst hj
      exact ⟨μ2, by rw [f_X6_gatherAll_L6.eq_2, fr_6 G.1, if_pos (Int.le_refl _)], G, fun t _ _ => rfl, fun s _ => rfl⟩
    | succ d ih =>
      intro n j μ2 hd hn G
      obtain ⟨n, rfl⟩ : ∃ q, n = q + 1 := ⟨n - 1, by omega⟩
      obtain ⟨μ3, b1, b2, b3, b4⟩ := gather1 O (show j < cW D by omega) (Or.inl (by decide)) G
      obtain ⟨μ4, c1, c2, c3, c4⟩ := ih n (j + 1) μ3 (by omega) (by omega) b2
      refine ⟨μ4, ?_, c2, fun t q1 q2 => by rw [c3 t q1 q2, b3 t q1 q2], fun s hs => by rw [c4 s hs, b4 s hs]⟩
      rw [f_X6_gatherAll_L6.eq_2, fr_6 G.1, if_neg (show ¬ w32 (cW D : Int) ≤ w32 (j : Int) by rw [w32n (by omega), w32n (by omega)]; omega), b1, bn_s, show ((j : Int) + 1) = ((j + 1 : Nat) : Int) by omega]
      exact c1
  obtain ⟨μ', b1, b2, b3, b4⟩ := L (cW D) FU 0 μ1 (by omega) (by unfold FU; omega) ⟨a2, fun d hd => by rw [a6 d (by rw [a4 7 (by decide)] at hd; exact hd)]; rfl, by rw [a5]; rfl⟩
  exact ⟨μ', by rw [a1, bn_s]; exact b1, b2, fun t q1 q2 => by rw [b3 t q1 q2, a3 t q1 q2], fun s hs => by rw [b4 s hs, a4 s hs]⟩
/-- what lies below, and apart -/
noncomputable def bel (D : Dt) (cp cr : Int) (i : Nat) : Int := sm (fun d => sm (dst D (-1) cp cr d) (cW D)) i
noncomputable def gat (D : Dt) (cp cr : Int) : Int := sm (cwt D cp cr) (cW D)
noncomputable def apt (D : Dt) (cp cr : Int) : Int := sm (fun i => (2 * bel D cp cr (i + 1)) * (gat D cp cr - bel D cp cr (i + 1))) 6000
theorem bel_eq {D : Dt} (O : OKD D) (hS : nStuck D) {cp cr : Int} {i : Nat} : bel D cp cr i = sm (fun k => if wEnd D k (-1) < (i : Int) then cwt D cp cr k else 0) (cW D) := by
  unfold bel
  have h := dst_sum O hS (a := -1) (cp := cp) (cr := cr) (by omega) (fun _ => 1) (cW D) i
  have e1 : sm (fun d => sm (dst D (-1) cp cr d) (cW D)) i = sm (fun d => (fun _ : Nat => (1 : Int)) d * sm (dst D (-1) cp cr d) (cW D)) i := sm_congr _ (fun d _ => by show _ = 1 * _; rw [Int.one_mul])
  rw [e1, h]
  exact sm_congr _ (fun k _ => by rw [vd1]; show (if _ then 1 * cwt D cp cr k else 0) = _; rw [Int.one_mul])
theorem bel_bd {D : Dt} (O : OKD D) (hS : nStuck D) {cp cr : Int} {i : Nat} : 0 ≤ bel D cp cr i ∧ bel D cp cr i ≤ gat D cp cr ∧ gat D cp cr ≤ LL D := by
  rw [bel_eq O hS]
  refine ⟨sm_nn (fun k _ => ?_), sm_le _ (fun k _ => ?_), sm_le _ (fun k _ => (cwt_bd O).2)⟩
  · have := (cwt_bd O (cp := cp) (cr := cr) (k := k)).1; split <;> omega
  · have := (cwt_bd O (cp := cp) (cr := cr) (k := k)).1; split <;> omega
theorem bel_all {D : Dt} (O : OKD D) (hS : nStuck D) {cp cr : Int} {i : Nat} (h : ∀ k, k < cW D → wLft D k → wEnd D k (-1) < (i : Int)) : bel D cp cr i = gat D cp cr := by
  rw [bel_eq O hS]
  refine sm_congr _ (fun k hk => ?_)
  by_cases hw : wLft D k
  · rw [if_pos (h k hk hw)]
  · have : cwt D cp cr k = 0 := by unfold cwt; rw [lw_n hw]; split <;> rfl
    rw [this]; split <;> rfl
theorem apartX {D : Dt} (O : OKD D) {cp cr : Int} {μ : Mem} (G : GS D cp cr (cW D) μ) : f_X6_sumApart μ = some (apt D cp cr, μ) := by
  obtain ⟨F, g8, g9⟩ := G
  have hS := fr_s F
  have ht := fr_t F
  have hLL := LL_bd O
  obtain ⟨h7, h7'⟩ := fr_7 F
  obtain ⟨e, he⟩ := natOf h7.1
  have hsm : ∀ j : Nat, j ≤ e → bel D cp cr (j + 1) = bel D cp cr j + μ 8 0 j := fun j hj => by
    show bel D cp cr j + sm (dst D (-1) cp cr j) (cW D) = _
    rw [g8 j (by omega)]
  have hg : μ 7 0 9 = gat D cp cr := g9
  have L : ∀ (d n j : Nat), d + j = e → d < n → f_X6_sumApart_L7 n (bel D cp cr j) (sm (fun i => bel D cp cr (i + 1) * (gat D cp cr - bel D cp cr (i + 1))) j) (j : Int) μ = some (2 * sm (fun i => bel D cp cr (i + 1) * (gat D cp cr - bel D cp cr (i + 1))) e, μ) := by
    intro d
    induction d with
    | zero =>
      intro n j hd hn
      obtain ⟨n, rfl⟩ : ∃ q, n = q + 1 := ⟨n - 1, by omega⟩
      have hj : j = e := by omega
      subst hj
      rw [f_X6_sumApart_L7.eq_2, he, if_pos (Int.le_refl _)]
    | succ d ih =>
      intro n j hd hn
      obtain ⟨n, rfl⟩ : ∃ q, n = q + 1 := ⟨n - 1, by omega⟩
      have b0 := bel_bd O hS (cp := cp) (cr := cr) (i := j)
      have b1 := bel_bd O hS (cp := cp) (cr := cr) (i := j + 1)
      have hs := hsm j (by omega)
      have hd0 : 0 ≤ μ 8 0 j := by
        rw [g8 j (by omega)]
        exact sm_nn (fun k _ => by rw [dst_eq]; have := (cwt_bd O (cp := cp) (cr := cr) (k := k)).1; split <;> omega)
      rw [f_X6_sumApart_L7.eq_2, he, if_neg (show ¬ w32 (e : Int) ≤ w32 (j : Int) by rw [w32n (by omega), w32n (by omega)]; omega), if_neg (show ¬ w32 4950 < w32 (j : Int) by rw [show w32 4950 = 4950 from rfl, w32n (by omega)]; omega), gd_inb _ (by omega) (by omega) (by omega), ixn (by omega), w32_id (x := μ 8 0 j) (by omega) (by omega), ← hs, hg, show ((j : Int) + 1) = ((j + 1 : Nat) : Int) by omega]
      exact ih n (j + 1) (by omega) (by omega)
  unfold f_X6_sumApart
  rw [show f_X6_sumApart_L7 FU 0 0 0 μ = _ from L e FU 0 (by omega) (by unfold FU; omega)]
  have e1 : apt D cp cr = sm (fun i => (2 * bel D cp cr (i + 1)) * (gat D cp cr - bel D cp cr (i + 1))) e := by
    have := sm_skip (f := fun i => (2 * bel D cp cr (i + 1)) * (gat D cp cr - bel D cp cr (i + 1))) (a := e) (6000 - e) (fun k h1 h2 => by
      rw [bel_all O hS (fun q hq hw => by have := h7' q hq hw; omega), Int.sub_self, Int.mul_zero])
    rw [show e + (6000 - e) = 6000 by omega] at this
    exact this
  rw [e1, ← sm_cmull]
  rw [sm_congr (f := fun i => 2 * (bel D cp cr (i + 1) * (gat D cp cr - bel D cp cr (i + 1)))) (g := fun i => (2 * bel D cp cr (i + 1)) * (gat D cp cr - bel D cp cr (i + 1))) e (fun i _ => (Int.mul_assoc _ _ _).symm)]
theorem apartM {D : Dt} {cp cr : Int} {μ : Mem} (h48 : ∀ s, s < 6000 → μ 48 0 s = sm (dst D (-1) cp cr s) (cW D)) (h33 : μ 30 0 33 = sm (cwt D cp cr) (cW D)) : f_X9_apart μ = some (apt D cp cr, μ) := by
  have w6 : w32 6000 = 6000 := rfl
  have hg : μ 30 0 33 = gat D cp cr := h33
  have L : ∀ (d n j : Nat), d + j = 6000 → d < n → f_X9_apart_L7 n (sm (fun i => (2 * bel D cp cr (i + 1)) * (gat D cp cr - bel D cp cr (i + 1))) j) (bel D cp cr j) (j : Int) μ = some (apt D cp cr, μ) := by
    intro d
    induction d with
    | zero =>
      intro n j hd hn
      obtain ⟨n, rfl⟩ : ∃ q, n = q + 1 := ⟨n - 1, by omega⟩
      have hj : j = 6000 := by omega
      subst hj
      rw [f_X9_apart_L7.eq_2, if_pos (by decide)]
      rfl
    | succ d ih =>
      intro n j hd hn
      obtain ⟨n, rfl⟩ : ∃ q, n = q + 1 := ⟨n - 1, by omega⟩
      have hs : bel D cp cr j + μ 48 0 j = bel D cp cr (j + 1) := by rw [h48 j (by omega)]; rfl
      rw [f_X9_apart_L7.eq_2, if_neg (show ¬ w32 6000 ≤ w32 (j : Int) by rw [w32n (by omega), w6]; omega), gd_inb _ (by omega) (by omega) (by omega), ixn (by omega), hs, hg, show ((j : Int) + 1) = ((j + 1 : Nat) : Int) by omega]
      exact ih n (j + 1) (by omega) (by omega)
  exact L 6000 FU 0 (by omega) (by unfold FU; omega)
theorem sq4 (x y : Int) : 4 * (x * y) ≤ (x + y) * (x + y) := by
  have h : 0 ≤ (x - y) * (x - y) := by
    rcases Int.le_total 0 (x - y) with h | h
    · exact Int.mul_nonneg h h
    · exact Int.mul_nonneg_of_nonpos_of_nonpos h h
  rw [Int.sub_mul, Int.mul_sub, Int.mul_sub] at h
  rw [Int.add_mul, Int.mul_add, Int.mul_add]
  have e : y * x = x * y := Int.mul_comm _ _
  omega
theorem apt_bd {D : Dt} (O : OKD D) (hS : nStuck D) {cp cr : Int} : 0 ≤ apt D cp cr ∧ apt D cp cr ≤ 3000 * (gat D cp cr * gat D cp cr) := by
  have h : ∀ i, 0 ≤ (2 * bel D cp cr (i + 1)) * (gat D cp cr - bel D cp cr (i + 1)) ∧ 2 * ((2 * bel D cp cr (i + 1)) * (gat D cp cr - bel D cp cr (i + 1))) ≤ gat D cp cr * gat D cp cr := by
    intro i
    have b := bel_bd O hS (cp := cp) (cr := cr) (i := i + 1)
    refine ⟨Int.mul_nonneg (by omega) (by omega), ?_⟩
    have := sq4 (bel D cp cr (i + 1)) (gat D cp cr - bel D cp cr (i + 1))
    rw [show bel D cp cr (i + 1) + (gat D cp cr - bel D cp cr (i + 1)) = gat D cp cr by omega] at this
    rw [Int.mul_assoc 2]
    omega
  refine ⟨sm_nn (fun k _ => (h k).1), ?_⟩
  have h2 := sm_bd (f := fun i => 2 * ((2 * bel D cp cr (i + 1)) * (gat D cp cr - bel D cp cr (i + 1)))) (B := gat D cp cr * gat D cp cr) 6000 (fun k _ => ⟨by have := (h k).1; omega, (h k).2⟩)
  rw [sm_cmull] at h2
  have e : apt D cp cr = sm (fun i => (2 * bel D cp cr (i + 1)) * (gat D cp cr - bel D cp cr (i + 1))) 6000 := rfl
  rw [← e] at h2
  have h3 := h2.2
  rw [Int.mul_comm] at h3
  have e2 : ((6000 : Nat) : Int) * (gat D cp cr * gat D cp cr) = 6000 * (gat D cp cr * gat D cp cr) := rfl
  omega
