/-! ENDS, DONE, MEAN, MOVES -/
theorem tellK {μx μm μm' : Mem} (R : Rel μx μm) (hk : keepM (m0 μm) μm') {a b : Int} (ha : 0 ≤ a) (hb : 0 < b) (ha2 : a ≤ 9223372036854775807) (hb2 : b ≤ 9223372036854775807) :
    Step (bn (f_X8_tell a b μx) (fun r μ => gd (bb r) (some (r, μ)))) (bn (f_X9_tells a b μm') (fun _ μ => some (1, μ))) :=
  tell_step R ha hb ha2 hb2 (fun _ _ => rfl) (fun _ _ => rfl) (fun t ht => by rw [hk.1 t (by omega) (by omega), m0_tag _ (by omega)]) (fun k h => by rw [hk.2 k (by omega), m0_k _ (by omega)]) (by rw [hk.2 0 (by omega), m0_0])
theorem tellK2 {μx μm μm' : Mem} (R : Rel μx μm) (hk : keepM (m0 μm) μm') {a b : Int} (ha : 0 ≤ a) (hb : 0 < b) (ha2 : a ≤ 9223372036854775807) (hb2 : b ≤ 9223372036854775807) :
    Step (bn (f_X8_tell a b μx) (fun r μ => gd (bb r) (some (r, μ)))) (bn (bn (f_X9_tells a b μm') (fun _ μ => some (1, μ))) (fun r μ => gd (bb r) (some (r, μ)))) := by
  have := tellK R hk ha hb ha2 hb2
  rw [tellsM ha hb ha2 hb2, bn_s] at this ⊢
  rw [bn_s, gd_b1]
  exact this
theorem dst_eq {D : Dt} {a cp cr : Int} {d k : Nat} : dst D a cp cr d k = if True ∧ vday D a k = (d : Int) then cwt D cp cr k else 0 := by
  unfold dst cwt
  by_cases h1 : cond D cp cr k
  · by_cases h2 : vday D a k = (d : Int)
    · rw [if_pos ⟨h1, h2⟩, if_pos ⟨trivial, h2⟩, if_pos h1]
    · rw [if_neg (fun z => h2 z.2), if_neg (fun z => h2 z.2)]
  · rw [if_neg (fun z => h1 z.1), if_neg h1]; split <;> rfl
theorem cwt_all {D : Dt} {cp cr : Int} (h : cp < 0) {k : Nat} : cwt D cp cr k = lw D k := by unfold cwt; rw [if_pos (show cond D cp cr k from Or.inl h)]
theorem cwt_bd {D : Dt} (O : OKD D) {cp cr : Int} {k : Nat} : 0 ≤ cwt D cp cr k ∧ cwt D cp cr k ≤ lw D k := by
  have := lw_bd O (k := k)
  unfold cwt; split <;> omega
theorem dst_sum {D : Dt} (O : OKD D) (hS : nStuck D) {a cp cr : Int} (ha : a < dnp D) (g : Nat → Int) (n m : Nat) : sm (fun d => g d * sm (dst D a cp cr d) n) m = sm (fun k => if vday D a k < (m : Int) then g (vday D a k).toNat * cwt D cp cr k else 0) n := by
  have h := sm_day (P := fun _ => True) (V := vday D a) (w := cwt D cp cr) (n := n) (fun k _ => (vday_bd O hS ha).1) g m
  have e1 : sm (fun d => g d * sm (dst D a cp cr d) n) m = sm (fun d => g d * sm (fun k => if True ∧ vday D a k = (d : Int) then cwt D cp cr k else 0) n) m := sm_congr _ (fun d _ => by rw [sm_congr (f := dst D a cp cr d) n (fun k _ => dst_eq)])
  rw [e1, h]
  refine sm_congr _ (fun k _ => ?_)
  by_cases z : vday D a k < (m : Int)
  · rw [if_pos z, if_pos ⟨trivial, z⟩]
  · rw [if_neg z, if_neg (fun y => z y.2)]
theorem upM {μ : Mem} {a : Int} (ha : I32 a) (h0 : 0 ≤ a) : ∃ m : Nat, m ≤ 6000 ∧ (m : Int) ≤ a + 1 ∧ (m = 6000 ∨ (m : Int) = a + 1) ∧ f_X9_tellsUpTo_L24 a FU 0 0 μ = bn (f_X9_tells (sm (μ 48 0) m) (μ 30 0 33) μ) (fun _ μ => some (1, μ)) := by
  have w6 : w32 6000 = 6000 := rfl
  obtain ⟨m, hm⟩ : ∃ m : Nat, m = if a + 1 ≤ 6000 then (a + 1).toNat else 6000 := ⟨_, rfl⟩
  have hm1 : m ≤ 6000 ∧ (m : Int) ≤ a + 1 ∧ (m = 6000 ∨ (m : Int) = a + 1) := by rw [hm]; split <;> omega
  refine ⟨m, hm1.1, hm1.2.1, hm1.2.2, ?_⟩
  have L : ∀ (d n j : Nat), d + j = m → d < n → f_X9_tellsUpTo_L24 a n (sm (μ 48 0) j) (j : Int) μ = bn (f_X9_tells (sm (μ 48 0) m) (μ 30 0 33) μ) (fun _ μ => some (1, μ)) := by
    intro d
    induction d with
    | zero =>
      intro n j hd hn
      obtain ⟨n, rfl⟩ : ∃ q, n = q + 1 := ⟨n - 1, by omega⟩
      have hj : j = m := by omega
      subst hj
      rw [f_X9_tellsUpTo_L24.eq_2]
      by_cases z : (6000 : Int) ≤ j
      · rw [if_pos (show w32 6000 ≤ w32 (j : Int) by rw [w32n (by omega), w6]; exact z)]
      · rw [if_neg (show ¬ w32 6000 ≤ w32 (j : Int) by rw [w32n (by omega), w6]; exact z), if_pos (show w32 a < w32 (j : Int) by rw [w32n (by omega), wr ha]; omega)]
    | succ d ih =>
      intro n j hd hn
      obtain ⟨n, rfl⟩ : ∃ q, n = q + 1 := ⟨n - 1, by omega⟩
      rw [f_X9_tellsUpTo_L24.eq_2, if_neg (show ¬ w32 6000 ≤ w32 (j : Int) by rw [w32n (by omega), w6]; omega), if_neg (show ¬ w32 a < w32 (j : Int) by rw [w32n (by omega), wr ha]; omega), gd_inb _ (by omega) (by omega) (by omega), ixn (by omega), show ((j : Int) + 1) = ((j + 1 : Nat) : Int) by omega]
      exact ih n (j + 1) (by omega) (by omega)
  exact L m FU 0 (by omega) (by unfold FU; omega)
/-- up to a day, in the model's class: bars and sums -/
theorem upTo {μx μm : Mem} (R : Rel μx μm) {v a : Int} (hv : -1 ≤ v ∧ v < dnp (dt μx)) (ha : I32 a) (h0 : 0 ≤ a) : ∃ (c : Int) (μx' : Mem), f_X8_chanceTrouble μx = some (c, μx') ∧ Rel μx' μm ∧ dt μx' = dt μx ∧
    (((c = 8 ∨ c = 9 ∨ c = 10) ∧ ∃ μm', f_X9_tellsUpTo v a (m0 μm) = some (0, st μm' 30 0 0 c) ∧ keepM (m0 μm) μm') ∨
     (c = 0 ∧ Frs (dt μx) μx' ∧ 0 < LL (dt μx) ∧ ∃ μm', keepM (m0 μm) μm' ∧ f_X9_tellsUpTo v a (m0 μm) = bn (f_X9_tells (sm (fun k => if vday (dt μx) v k ≤ a then lw (dt μx) k else 0) (cW (dt μx))) (LL (dt μx)) μm') (fun _ μ => some (1, μ)))) := by
  obtain ⟨O, W⟩ := RW_OK R
  obtain ⟨c, μx', μm', a1, a2, a3, a4, a5, a6⟩ := chance_step R hv (cp := -1) (cr := 0) (by omega) (by omega)
  refine ⟨c, μx', a1, a3, a5, ?_⟩
  unfold f_X9_tellsUpTo
  rcases a6 with hc | ⟨hc, h1, h2, h3, F, W', h48, h33⟩
  · refine Or.inl ⟨hc, μm', ?_, a4⟩
    rw [a2, bn_s, if_neg (by rw [w32_id (by omega) (by omega)]; omega)]
    simp only [f_X9_no, bn_s, gd_b0]
  · refine Or.inr ⟨hc, F, h3, μm', a4, ?_⟩
    subst hc
    rw [a2, bn_s, if_pos (by decide)]
    obtain ⟨m, m1, m2, m3, m4⟩ := upM (μ := μm') ha h0
    rw [m4]
    have e33 : μm' 30 0 33 = LL (dt μx) := by rw [h33]; exact sm_congr _ (fun k _ => cwt_all (by decide))
    rw [e33]
    congr 1
    have es : sm (μm' 48 0) m = sm (fun k => if vday (dt μx) v k ≤ a then lw (dt μx) k else 0) (cW (dt μx)) := by
      have e1 : sm (μm' 48 0) m = sm (fun d => 1 * sm (dst (dt μx) v (-1) 0 d) (cW (dt μx))) m := sm_congr _ (fun d hd => by rw [h48 d (by omega), Int.one_mul])
      rw [e1, dst_sum O h1 hv.2 (fun _ => 1)]
      refine sm_congr _ (fun k _ => ?_)
      have hb := vday_bd O h1 (a := v) (k := k) hv.2
      rw [cwt_all (by decide), Int.one_mul]
      by_cases z : vday (dt μx) v k ≤ a
      · rw [if_pos z, if_pos (by omega)]
      · rw [if_neg z, if_neg (by omega)]
    rw [es]
theorem op_ends {μx μm : Mem} (R : Rel μx μm) {a : Int} (ha : I32 a) : Step (f_X8_ends a μx) (f_X9_ends a μm) := by
  unfold f_X8_ends f_X9_ends
  rw [m0_def]
  simp only [jn_u, f_X8_refuse, f_X9_no, bn_s, gd_b0]
  by_cases h0 : 0 ≤ a
  · obtain ⟨O, W⟩ := RW_OK R
    rw [if_pos (show 0 ≤ w32 a by rw [wr ha]; exact h0), if_pos (show 0 ≤ w32 a by rw [wr ha]; exact h0)]
    obtain ⟨c, μx', a1, a3, a5, a6⟩ := upTo R (v := -1) (by omega) ha h0
    rw [a1, bn_s]
    rcases a6 with ⟨hc, μm', b1, b2⟩ | ⟨hc, F, hL, μm', b1, b2⟩
    · rw [if_neg (by rw [w32_id (by omega) (by omega)]; omega), b1, bn_s, gd_b0]
      exact Step_mk rfl (Rel_rfk a3 b2 c)
    · subst hc
      have hs := sm_tot O (f := fun k => if wEnd (dt μx) k (-1) ≤ a then lw (dt μx) k else 0) (Nat.le_refl _) (fun k _ => by have := lw_bd O (k := k); split <;> omega)
      have ht := fr_t F
      rw [if_pos w32_0, byX O F ha, bn_s, b2, Frs_8 F]
      exact tellK2 a3 b1 hs.1 hL (by omega) (by omega)
  · rw [if_neg (show ¬ 0 ≤ w32 a by rw [wr ha]; exact h0), if_neg (show ¬ 0 ≤ w32 a by rw [wr ha]; exact h0), if_neg (show ¬ w32 5 = 0 by decide)]
    exact Step_mk rfl (Rel_rf R 5)
theorem Rel_stp {μx μm μx' : Mem} (R : Rel μx μm) (h : ∀ t, t ≠ 11 → t ≠ 12 → t ≠ 13 → t ≠ 14 → μx' t = μx t) : Rel μx' μm :=
  Rel_x R (dt_of (fun t h1 _ => h t (by omega) (by omega) (by omega) (by omega))) (fun t ht => h t (by omega) (by omega) (by omega) (by omega)) (by rw [h 1 (by decide) (by decide) (by decide) (by decide)]) (fun s _ => by rw [h 1 (by decide) (by decide) (by decide) (by decide)]) (by rw [h 7 (by decide) (by decide) (by decide) (by decide), h 9 (by decide) (by decide) (by decide) (by decide), h 10 (by decide) (by decide) (by decide) (by decide), h 28 (by decide) (by decide) (by decide) (by decide)]; exact R.2.2.2.2.2)
theorem np_D {μx μm : Mem} (R : Rel μx μm) : (dnp (dt μx) : Int) = μm 30 0 7 ∧ (dnp (dt μx) : Int) = μx 15 0 3 := by
  obtain ⟨O, W⟩ := RW_OK R
  exact ⟨(wm_np W).symm, (wx_np O rfl).symm⟩
theorem op_done {μx μm : Mem} (R : Rel μx μm) {p a : Int} (hp : I32 p) (ha : I32 a) : Step (f_X8_done p a μx) (f_X9_done p a μm) := by
  unfold f_X8_done f_X9_done
  rw [m0_def]
  obtain ⟨hn1, hn2, hn3⟩ := np_of R
  have e7 : m0 μm 30 0 7 = μm 30 0 7 := m0_k _ (by decide)
  obtain ⟨O, W⟩ := RW_OK R
  obtain ⟨nd1, nd2⟩ := np_D R
  by_cases hpp : 0 ≤ p ∧ p < μm 30 0 7
  · rw [hasX_t hp hpp.1 (by omega) (by omega), isM_t hp hpp.1 (by omega) (by omega), bn_s, bn_s, if_neg (show ¬ w32 1 = 0 by decide), if_neg (show ¬ w32 1 = 0 by decide)]
    simp only [jn_u, f_X8_refuse, f_X9_no, bn_s, gd_b0]
    by_cases h0 : 0 ≤ a
    · rw [if_pos (show 0 ≤ w32 a by rw [wr ha]; exact h0), if_pos (show 0 ≤ w32 a by rw [wr ha]; exact h0)]
      obtain ⟨c, μx', a1, a3, a5, a6⟩ := upTo R (v := p) (by omega) ha h0
      obtain ⟨q, rfl⟩ := natOf hpp.1
      rw [a1, bn_s]
      rcases a6 with ⟨hc, μm', b1, b2⟩ | ⟨hc, F, hL, μm', b1, b2⟩
      · rw [if_neg (by rw [w32_id (by omega) (by omega)]; omega), b1, bn_s, gd_b0]
        exact Step_mk rfl (Rel_rfk a3 b2 c)
      · subst hc
        have hs := sm_tot O (f := fun k => if wFin (dt μx) k (-1) q ≤ a then lw (dt μx) k else 0) (Nat.le_refl _) (fun k _ => by have := lw_bd O (k := k); split <;> omega)
        have ht := fr_t F
        obtain ⟨μx2, c1, c2⟩ := withX O (show q < dnp (dt μx) by omega) ha F
        have e8 : μx2 7 0 8 = LL (dt μx) := by rw [c2 7 (by decide) (by decide) (by decide) (by decide)]; exact Frs_8 F
        have ev : sm (fun k => if vday (dt μx) (q : Int) k ≤ a then lw (dt μx) k else 0) (cW (dt μx)) = sm (fun k => if wFin (dt μx) k (-1) q ≤ a then lw (dt μx) k else 0) (cW (dt μx)) := sm_congr _ (fun k _ => by
          have : vday (dt μx) (q : Int) k = wFin (dt μx) k (-1) q := by unfold vday; rw [if_pos (by omega), Int.toNat_natCast]
          rw [this])
        rw [if_pos w32_0, c1, bn_s, b2, e8, ev]
        exact tellK2 (Rel_stp a3 c2) b1 hs.1 hL (by omega) (by omega)
    · rw [if_neg (show ¬ 0 ≤ w32 a by rw [wr ha]; exact h0), if_neg (show ¬ 0 ≤ w32 a by rw [wr ha]; exact h0), if_neg (show ¬ w32 5 = 0 by decide)]
      exact Step_mk rfl (Rel_rf R 5)
  · rw [hasX_f hp (by omega) (by omega) (by omega), isM_f hp (by omega) (by omega) (by omega), bn_s, bn_s, if_pos w32_0, if_pos w32_0]
    simp only [f_X8_refuse, f_X9_no, bn_s, gd_b0]
    exact Step_mk rfl (Rel_rf R 2)
theorem meanM {μ : Mem} : f_X9_mean_L33 FU 0 0 μ = bn (f_X9_tells (sm (fun d => (d : Int) * μ 48 0 d) 6000) (μ 30 0 33) μ) (fun _ μ => some (1, μ)) := by
  have w6 : w32 6000 = 6000 := rfl
  have L : ∀ (d n j : Nat), d + j = 6000 → d < n → f_X9_mean_L33 n (sm (fun d => (d : Int) * μ 48 0 d) j) (j : Int) μ = bn (f_X9_tells (sm (fun d => (d : Int) * μ 48 0 d) 6000) (μ 30 0 33) μ) (fun _ μ => some (1, μ)) := by
    intro d
    induction d with
    | zero =>
      intro n j hd hn
      obtain ⟨n, rfl⟩ : ∃ q, n = q + 1 := ⟨n - 1, by omega⟩
      have hj : j = 6000 := by omega
      subst hj
      rw [f_X9_mean_L33.eq_2, if_pos (by decide)]
    | succ d ih =>
      intro n j hd hn
      obtain ⟨n, rfl⟩ : ∃ q, n = q + 1 := ⟨n - 1, by omega⟩
      rw [f_X9_mean_L33.eq_2, if_neg (show ¬ w32 6000 ≤ w32 (j : Int) by rw [w32n (by omega), w6]; omega), gd_inb _ (by omega) (by omega) (by omega), w32n (by omega), ixn (by omega), show ((j : Int) + 1) = ((j + 1 : Nat) : Int) by omega]
      exact ih n (j + 1) (by omega) (by omega)
  exact L 6000 FU 0 (by omega) (by unfold FU; omega)
theorem op_mean {μx μm : Mem} (R : Rel μx μm) : Step (f_X8_mean μx) (f_X9_mean μm) := by
  obtain ⟨O, W⟩ := RW_OK R
  unfold f_X8_mean f_X9_mean
  rw [m0_def]
  obtain ⟨c, μx', μm', a1, a2, a3, a4, a5, a6⟩ := chance_step R (a := -1) (cp := -1) (cr := 0) (by omega) (by omega) (by omega)
  rw [a1, a2, bn_s, bn_s]
  rcases a6 with hc | ⟨hc, h1, h2, h3, F, W', h48, h33⟩
  · rw [if_neg (by rw [w32_id (by omega) (by omega)]; omega), if_neg (by rw [w32_id (by omega) (by omega)]; omega)]
    simp only [f_X8_refuse, f_X9_no, bn_s, gd_b0]
    exact Step_mk rfl (Rel_rfk a3 a4 c)
  · subst hc
    rw [if_pos w32_0, if_pos (by decide), meanX O F, bn_s, meanM, Frs_8 F]
    have e33 : μm' 30 0 33 = LL (dt μx) := by rw [h33]; exact sm_congr _ (fun k _ => cwt_all (by decide))
    have es : sm (fun d => (d : Int) * μm' 48 0 d) 6000 = sm (fun k => wEnd (dt μx) k (-1) * lw (dt μx) k) (cW (dt μx)) := by
      have e1 : sm (fun d => (d : Int) * μm' 48 0 d) 6000 = sm (fun d => (fun d : Nat => (d : Int)) d * sm (dst (dt μx) (-1) (-1) 0 d) (cW (dt μx))) 6000 := sm_congr _ (fun d hd => by rw [h48 d hd])
      rw [e1, dst_sum O h1 (by omega) (fun d : Nat => (d : Int))]
      refine sm_congr _ (fun k _ => ?_)
      have hb := vday_bd O h1 (a := -1) (k := k) (by omega)
      have hv : vday (dt μx) (-1) k = wEnd (dt μx) k (-1) := by unfold vday; rw [if_neg (by decide)]
      rw [cwt_all (by decide), if_pos (by omega), hv]
      rw [hv] at hb
      show ((wEnd (dt μx) k (-1)).toNat : Int) * _ = _
      rw [show ((wEnd (dt μx) k (-1)).toNat : Int) = wEnd (dt μx) k (-1) by omega]
    rw [e33, es]
    have hL := LL_bd O
    have hs1 : 0 ≤ sm (fun k => wEnd (dt μx) k (-1) * lw (dt μx) k) (cW (dt μx)) := sm_nn (fun k _ => Int.mul_nonneg (wEnd_bd O).1 (lw_bd O).1)
    have hs2 : sm (fun k => wEnd (dt μx) k (-1) * lw (dt μx) k) (cW (dt μx)) ≤ 4950 * LL (dt μx) := by
      have := sm_le (f := fun k => wEnd (dt μx) k (-1) * lw (dt μx) k) (g := fun k => 4950 * lw (dt μx) k) (cW (dt μx)) (fun k _ => by
        have hb := wEnd_bd O (k := k) (sl := -1)
        rw [if_neg (by decide)] at hb
        exact Int.mul_le_mul_of_nonneg_right (by omega) (lw_bd O).1)
      rw [sm_cmull] at this
      exact this
    exact tellK a3 a4 hs1 h3 (by omega) (by omega)
