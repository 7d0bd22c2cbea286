/-! FRACTIONS and tellings -/
theorem red_bd {a b : Int} (ha : 0 ≤ a) (hb : 0 < b) : 0 ≤ redN a b ∧ redN a b ≤ a ∧ 1 ≤ redD a b ∧ redD a b ≤ b := by
  have hg := egcd_pos (a := a) hb
  unfold redN redD
  rw [Int.tdiv_eq_ediv_of_nonneg ha, Int.tdiv_eq_ediv_of_nonneg (by omega)]
  refine ⟨Int.ediv_nonneg ha (by omega), Int.ediv_le_self _ ha, ?_, Int.ediv_le_self _ (by omega)⟩
  exact Int.le_ediv_of_mul_le hg (by have := egcd_le (a := a) hb; omega)
theorem becX {μ : Mem} {i : Nat} {a b : Int} (ha : 0 ≤ a) (hb : 0 < b) (ha2 : a ≤ 9223372036854775807) (hb2 : b ≤ 9223372036854775807) : f_X0_become i a b μ = some (0, st (st μ 1 i 0 (redN a b)) 1 i 1 (redD a b)) := by
  unfold f_X0_become redN redD
  have hg := egcd_pos (a := a) hb
  have hg2 := egcd_le (a := a) hb
  have e1 : w64 (egcd a b) = egcd a b := w64_id (by omega) (by omega)
  have e2 : w64 a = a := w64_id (by omega) (by omega)
  have e3 : w64 b = b := w64_id (by omega) (by omega)
  rw [common_X μ ha (by omega) ha2 hb2, bn_s, if_neg (by rw [e1]; exact (show ¬ egcd a b ≤ 0 by omega)), gd_t _ (by rw [e1]; omega), gd_t _ (by rw [e1]; omega), e1, e2, e3]
theorem tellsM {μ : Mem} {a b : Int} (ha : 0 ≤ a) (hb : 0 < b) (ha2 : a ≤ 9223372036854775807) (hb2 : b ≤ 9223372036854775807) : f_X9_tells a b μ = some (0, st (st μ 30 0 2 (redN a b)) 30 0 3 (redD a b)) := by
  unfold f_X9_tells redN redD
  have hg := egcd_pos (a := a) hb
  have hg2 := egcd_le (a := a) hb
  have e1 : w64 (egcd a b) = egcd a b := w64_id (by omega) (by omega)
  have e2 : w64 a = a := w64_id (by omega) (by omega)
  have e3 : w64 b = b := w64_id (by omega) (by omega)
  rw [common_M μ ha (by omega) ha2 hb2, bn_s, gd_t _ (by rw [e1]; omega), gd_t _ (by rw [e1]; omega), e1, e2, e3]
/-- both tell the same fraction -/
theorem tell_step {μx μm μx' μm' : Mem} (R : Rel μx μm) {a b : Int} (ha : 0 ≤ a) (hb : 0 < b) (ha2 : a ≤ 9223372036854775807) (hb2 : b ≤ 9223372036854775807)
    (hx : ∀ t, t = 3 ∨ t = 4 ∨ t = 7 ∨ t = 9 ∨ t = 10 ∨ (15 ≤ t ∧ t ≤ 25 ∧ t ≠ 16) ∨ t = 27 ∨ t = 28 → μx' t = μx t) (hx1 : ∀ s, 3 ≤ s → μx' 1 s = μx 1 s) (hm : ∀ t, (31 ≤ t ∧ t ≤ 42) ∨ (50 ≤ t ∧ t ≤ 52) → μm' t = μm t) (hs : ∀ k, k = 7 ∨ k = 8 ∨ k = 9 ∨ k = 10 ∨ k = 27 → μm' 30 0 k = μm 30 0 k) (h0 : μm' 30 0 0 = 0) :
    Step (bn (f_X8_tell a b μx') (fun r μ => gd (bb r) (some (r, μ)))) (bn (f_X9_tells a b μm') (fun _ μ => some (1, μ))) := by
  unfold f_X8_tell
  rw [becX ha hb ha2 hb2, tellsM ha hb ha2 hb2]
  simp only [bn_s, f_X8_well, gd_b1]
  refine Step_mk rfl ?_
  obtain ⟨-, r2, r3, r4, r5, r6⟩ := R
  have hd : dt (st (st (st μx' 1 0 0 (redN a b)) 1 0 1 (redD a b)) 0 0 0 0) = dt μx := by
    rw [dt_st _ (by decide), dt_st _ (by decide), dt_st _ (by decide)]
    unfold dt; rw [hx 15 (by omega), hx 17 (by omega), hx 18 (by omega), hx 19 (by omega), hx 20 (by omega), hx 21 (by omega), hx 22 (by omega)]
  refine ⟨?_, ⟨?_, ?_⟩, ?_, ?_, ?_, ?_⟩
  · simp (disch := decide) only [st_eq, st_nk]; exact h0.symm
  · simp (disch := decide) only [st_nt, st_nk, st_eq]
  · simp (disch := decide) only [st_nt, st_nk, st_eq]
  · simp (disch := decide) only [st_tag]
    rw [hx 3 (by omega), hx 4 (by omega), hm 31 (by omega), hm 32 (by omega), hm 33 (by omega)]; exact r3
  · rw [hd]
    simp (disch := decide) only [st_tag, st_nk]
    rw [hs 7 (by omega), hs 8 (by omega), hs 9 (by omega), hs 10 (by omega), hm 34 (by omega), hm 35 (by omega), hm 36 (by omega), hm 37 (by omega), hm 38 (by omega), hm 39 (by omega), hm 40 (by omega), hm 41 (by omega), hm 42 (by omega)]; exact r4
  · simp (disch := decide) only [st_tag, st_nk]
    rw [hx 23 (by omega), hx 24 (by omega), hx 25 (by omega), hx 27 (by omega), hs 27 (by omega), hm 50 (by omega), hm 51 (by omega), hm 52 (by omega)]
    obtain ⟨t1, t2, t3, t4, t5⟩ := r5
    refine ⟨t1, t2, t3, t4, fun s hs' => ?_⟩
    have := t5 s hs'
    rw [st_ni _ (by omega), st_ni _ (by omega), st_ni _ (by omega), st_ni _ (by omega), hx1 _ (by omega)]
    exact this
  · rw [hd]
    simp (disch := decide) only [st_tag]
    rw [hx 7 (by omega), hx 9 (by omega), hx 10 (by omega), hx 28 (by omega)]; exact r6
theorem stp_bd {n d : Int} (h0 : 0 ≤ n) (h1 : n ≤ d) (h2 : 1 ≤ d) : 0 ≤ stp n d ∧ stp n d ≤ 9 := by
  unfold stp
  by_cases h : n = d
  · rw [if_pos h]; omega
  · rw [if_neg h, Int.tdiv_eq_ediv_of_nonneg (by omega)]
    refine ⟨Int.ediv_nonneg (by omega) (by omega), ?_⟩
    have : 10 * n / d < 10 := Int.ediv_lt_of_lt_mul (by omega) (by omega)
    omega
theorem fsm_bd {m50 m51 : Nat → Int} {s : Int} : ∀ T : Nat, (∀ k, k < T → 0 ≤ m50 k ∧ m50 k ≤ m51 k ∧ 1 ≤ m51 k ∧ m51 k ≤ 1000) → (fsm m50 m51 s T).2.2 = false → (0 ≤ (fsm m50 m51 s T).1 ∧ (fsm m50 m51 s T).1 ≤ 1099511627776) ∧ 1 ≤ (fsm m50 m51 s T).2.1 ∧ (fsm m50 m51 s T).2.1 ≤ 1099511627776 := by
  intro T
  induction T with
  | zero =>
    intro _ _
    show ((0 : Int) ≤ 0 ∧ (0 : Int) ≤ 1099511627776) ∧ (1 : Int) ≤ 1 ∧ (1 : Int) ≤ 1099511627776
    decide
  | succ T ih =>
    intro h hp
    have hh := h T (by omega)
    by_cases hc : stp (m50 T) (m51 T) = s ∧ (fsm m50 m51 s T).2.2 = false
    · have hi := ih (fun k hk => h k (by omega)) hc.2
      have e : fsm m50 m51 s (T + 1) = (redN ((fsm m50 m51 s T).1 * m51 T + m50 T * (fsm m50 m51 s T).2.1) ((fsm m50 m51 s T).2.1 * m51 T), redD ((fsm m50 m51 s T).1 * m51 T + m50 T * (fsm m50 m51 s T).2.1) ((fsm m50 m51 s T).2.1 * m51 T), decide (1099511627776 < redN ((fsm m50 m51 s T).1 * m51 T + m50 T * (fsm m50 m51 s T).2.1) ((fsm m50 m51 s T).2.1 * m51 T) ∨ 1099511627776 < redD ((fsm m50 m51 s T).1 * m51 T + m50 T * (fsm m50 m51 s T).2.1) ((fsm m50 m51 s T).2.1 * m51 T))) := if_pos hc
      rw [e] at hp ⊢
      dsimp only at hp ⊢
      have hp := of_decide_eq_false hp
      have q1 : 0 ≤ (fsm m50 m51 s T).1 * m51 T := Int.mul_nonneg hi.1.1 (by omega)
      have q2 : 0 ≤ m50 T * (fsm m50 m51 s T).2.1 := Int.mul_nonneg hh.1 (by omega)
      have q3 : 0 < (fsm m50 m51 s T).2.1 * m51 T := Int.mul_pos (by omega) (by omega)
      have := red_bd (show 0 ≤ (fsm m50 m51 s T).1 * m51 T + m50 T * (fsm m50 m51 s T).2.1 by omega) q3
      omega
    · rw [show fsm m50 m51 s (T + 1) = fsm m50 m51 s T from if_neg hc] at hp ⊢
      exact ih (fun k hk => h k (by omega)) hp
theorem fsm_congr {m50 m51 n50 n51 : Nat → Int} {s : Int} : ∀ T : Nat, (∀ k, k < T → m50 k = n50 k ∧ m51 k = n51 k) → fsm m50 m51 s T = fsm n50 n51 s T := by
  intro T
  induction T with
  | zero => intro _; rfl
  | succ T ih =>
    intro h
    have h1 := ih (fun k hk => h k (by omega))
    have h2 := h T (by omega)
    show (if _ then _ else _) = (if _ then _ else _)
    rw [h1, h2.1, h2.2]
theorem fsm_upd {m50 m51 : Nat → Int} {s : Int} {k : Nat} (h1 : stp (m50 k) (m51 k) = s) (h2 : (fsm m50 m51 s k).2.2 = false) : fsm m50 m51 s (k + 1) = (redN ((fsm m50 m51 s k).1 * m51 k + m50 k * (fsm m50 m51 s k).2.1) ((fsm m50 m51 s k).2.1 * m51 k), redD ((fsm m50 m51 s k).1 * m51 k + m50 k * (fsm m50 m51 s k).2.1) ((fsm m50 m51 s k).2.1 * m51 k), decide (1099511627776 < redN ((fsm m50 m51 s k).1 * m51 k + m50 k * (fsm m50 m51 s k).2.1) ((fsm m50 m51 s k).2.1 * m51 k) ∨ 1099511627776 < redD ((fsm m50 m51 s k).1 * m51 k + m50 k * (fsm m50 m51 s k).2.1) ((fsm m50 m51 s k).2.1 * m51 k))) := if_pos ⟨h1, h2⟩
theorem op_telling {μx μm : Mem} (R : Rel μx μm) {n d c : Int} (hn : I32 n) (hd : I32 d) (hc : bb c) : Step (f_X8_telling n d c μx) (f_X9_telling n d c μm) := by
  unfold f_X8_telling f_X9_telling
  rw [m0_def]
  have ws : ∀ v, Step (some (0, st μx 0 0 0 v)) (some (0, st (m0 μm) 30 0 0 v)) := fun v => ⟨_, _, _, rfl, rfl, Rel_rf R v⟩
  have wn := wr hn
  have wd := wr hd
  have e1 : w32 1 = 1 := rfl
  have ek : w32 1000 = 1000 := rfl
  obtain ⟨t1, t2, t3, t4, t5⟩ := R.2.2.2.2.1
  have e27 : m0 μm 30 0 27 = μm 30 0 27 := m0_k _ (by decide)
  have w27 : w32 (μm 30 0 27) = μm 30 0 27 := w32_id (by omega) (by omega)
  simp only [f_X8_refuse, f_X9_no, bn_s, gd_b0, e27, t1]
  by_cases g : 0 ≤ n ∧ n ≤ d ∧ 1 ≤ d ∧ d ≤ 1000
  · obtain ⟨g1, g2, g3, g4⟩ := g
    rw [if_neg (show ¬ w32 n < 0 by omega), if_neg (show ¬ w32 d < w32 n by omega), if_neg (show ¬ w32 d < w32 1 by omega), if_pos (show w32 d ≤ w32 1000 by omega), if_neg (show ¬ w32 d < w32 1 by omega), if_neg (show ¬ w32 1000 < w32 d by omega), if_neg (show ¬ w32 n < 0 by omega), if_pos (show w32 n ≤ w32 d by omega)]
    by_cases gT : μm 30 0 27 = 1000
    · rw [if_neg (show ¬ w32 (μm 30 0 27) < w32 1000 by omega), if_pos (show w32 (μm 30 0 27) = w32 1000 by omega)]
      exact ws 7
    · rw [if_pos (show w32 (μm 30 0 27) < w32 1000 by omega), if_neg (show ¬ w32 (μm 30 0 27) = w32 1000 by omega)]
      obtain ⟨T, hT⟩ := natOf t2
      have hT9 : T < 1000 := by omega
      have hxT : μx 23 0 4 = (T : Int) := t1.trans hT
      rw [hT, Int.toNat_natCast] at t5
      rw [hT] at t4
      simp (disch := omega) only [hT, e27, st_nt, gd_inb, ixn]
      rw [gd_t _ hc]
      -- the step
      obtain ⟨s, hs⟩ : ∃ s : Nat, stp n d = (s : Int) := ⟨(stp n d).toNat, by have := stp_bd g1 g2 g3; omega⟩
      have hs9 : s < 10 := by have := stp_bd g1 g2 g3; omega
      have hSS : (if w32 9 < w32 (Int.tdiv (w32 (10 * n)) (w32 d)) then 9 else (Int.tdiv (w32 (10 * n)) (w32 d))) = (s : Int) := by
        have w10 : w32 (10 * n) = 10 * n := w32_id (by omega) (by omega)
        rw [w10, wd]
        unfold stp at hs
        by_cases hnd : n = d
        · rw [if_pos hnd] at hs
          subst hnd
          have : Int.tdiv (10 * n) n = 10 := Int.mul_tdiv_cancel 10 (by omega)
          rw [this, if_pos (by decide)]; exact hs
        · rw [if_neg hnd] at hs
          rw [hs, if_neg (by rw [w32n (by omega), show w32 9 = 9 from rfl]; omega)]
      unfold f_X4_add
      rw [if_neg (show ¬ w32 d < w32 1 by omega), if_neg (show ¬ w32 n < 0 by omega), if_pos (show w32 n ≤ w32 d by omega), gd_t _ (show ¬ w32 d = 0 by omega)]
      simp only [hSS]
      simp (disch := omega) only [gd_inb, ixn, jn_u, st_nt, hxT, wn, wd]
      obtain ⟨u1, u2, u3, u4, u5⟩ := t5 s hs9
      -- the fraction of the step
      obtain ⟨A, hA⟩ : ∃ A, A = (fsm (μm 50 0) (μm 51 0) s T).1 := ⟨_, rfl⟩
      obtain ⟨B, hB⟩ : ∃ B, B = (fsm (μm 50 0) (μm 51 0) s T).2.1 := ⟨_, rfl⟩
      have hbd := fsm_bd (m50 := μm 50 0) (m51 := μm 51 0) (s := s) T (fun k hk => by have := t4 k (by omega); exact ⟨this.1, this.2.1, this.2.2.1, this.2.2.2.1⟩)
      have hfc : fsm (up (μm 50 0) T n) (up (μm 51 0) T d) s T = fsm (μm 50 0) (μm 51 0) s T := fsm_congr T (fun k hk => ⟨up_ne _ _ (by omega), up_ne _ _ (by omega)⟩)
      have hfc' : ∀ s' : Int, fsm (up (μm 50 0) T n) (up (μm 51 0) T d) s' T = fsm (μm 50 0) (μm 51 0) s' T := fun s' => fsm_congr T (fun k hk => ⟨up_ne _ _ (by omega), up_ne _ _ (by omega)⟩)
      -- what must be shown of the end
      have fin : ∀ (μ' : Mem), (∀ t, t ≠ 1 → t ≠ 23 → t ≠ 24 → t ≠ 25 → t ≠ 27 → μ' t = μx t) → μ' 23 0 4 = T + 1 → (∀ q, μ' 24 0 q = μx 24 0 q + (if q = s then 1 else 0)) → (∀ q, μ' 25 0 q = μx 25 0 q + (if q = s ∧ ¬ c = 0 then 1 else 0)) → (∀ i k, i ≠ s + 3 → μ' 1 i k = μx 1 i k) → (∀ q, q ≠ s → μ' 27 0 q = μx 27 0 q) → μ' 1 (s + 3) 0 = (fsm (up (μm 50 0) T n) (up (μm 51 0) T d) s (T + 1)).1 → μ' 1 (s + 3) 1 = (fsm (up (μm 50 0) T n) (up (μm 51 0) T d) s (T + 1)).2.1 → μ' 27 0 s = (if (fsm (up (μm 50 0) T n) (up (μm 51 0) T d) s (T + 1)).2.2 then 1 else 0) →
          Step (bn (some (0, μ')) fun r18 μ19 => bn (f_X8_well μ19) fun r21 μ22 => gd (bb r21) (some (r21, μ22))) (some (1, st (st (st (st (m0 μm) 50 0 T n) 51 0 T d) 52 0 T c) 30 0 27 ((T : Int) + 1))) := by
        intro μ' k1 k2 k3 k4 k5 k6 k7 k8 k9
        simp only [bn_s, f_X8_well, gd_b1]
        refine Step_mk rfl ?_
        obtain ⟨-, r2, r3, r4, -, r6⟩ := R
        have hdt : dt (st μ' 0 0 0 0) = dt μx := by
          rw [dt_st _ (by decide)]
          unfold dt; rw [k1 15 (by decide) (by decide) (by decide) (by decide) (by decide), k1 17 (by decide) (by decide) (by decide) (by decide) (by decide), k1 18 (by decide) (by decide) (by decide) (by decide) (by decide), k1 19 (by decide) (by decide) (by decide) (by decide) (by decide), k1 20 (by decide) (by decide) (by decide) (by decide) (by decide), k1 21 (by decide) (by decide) (by decide) (by decide) (by decide), k1 22 (by decide) (by decide) (by decide) (by decide) (by decide)]
        refine ⟨?_, ⟨?_, ?_⟩, ?_, ?_, ?_, ?_⟩
        · simp (disch := decide) only [st_eq, st_nt, st_nk, m0_0]
        · rw [st_nt _ (by decide), k5 0 0 (by omega)]
          simp (disch := decide) only [st_nt, st_nk, m0_k]; exact r2.1
        · rw [st_nt _ (by decide), k5 0 1 (by omega)]
          simp (disch := decide) only [st_nt, st_nk, m0_k]; exact r2.2
        · simp (disch := decide) only [st_tag, m0_tag]
          rw [k1 3 (by decide) (by decide) (by decide) (by decide) (by decide), k1 4 (by decide) (by decide) (by decide) (by decide) (by decide)]; exact r3
        · rw [hdt]
          simp (disch := decide) only [st_tag, m0_tag, st_nt, st_nk, m0_k]; exact r4
        · simp (disch := decide) only [st_tag, m0_tag, st_nt, st_nk, st_eq, st_at]
          refine ⟨k2, by omega, by omega, fun k hk => ?_, fun q hq => ?_⟩
          · by_cases hkT : k = T
            · subst hkT; simp only [up_eq]; exact ⟨g1, g2, g3, g4, hc⟩
            · simp only [up_ne _ _ hkT]; exact t4 k (by omega)
          · have e5 : ((T : Int) + 1).toNat = T + 1 := by omega
            rw [e5]
            obtain ⟨v1, v2, v3, v4, v5⟩ := t5 q hq
            have hcnt : sm (fun k => if stp (up (μm 50 0) T n k) (up (μm 51 0) T d k) = (q : Int) then 1 else 0) T = sm (fun k => if stp (μm 50 0 k) (μm 51 0 k) = (q : Int) then 1 else 0) T := sm_congr T (fun k hk => by rw [up_ne _ _ (by omega), up_ne _ _ (by omega)])
            have hcnt2 : sm (fun k => if stp (up (μm 50 0) T n k) (up (μm 51 0) T d k) = (q : Int) ∧ ¬ up (μm 52 0) T c k = 0 then 1 else 0) T = sm (fun k => if stp (μm 50 0 k) (μm 51 0 k) = (q : Int) ∧ ¬ μm 52 0 k = 0 then 1 else 0) T := sm_congr T (fun k hk => by rw [up_ne _ _ (by omega), up_ne _ _ (by omega), up_ne _ _ (by omega)])
            refine ⟨?_, ?_, ?_, ?_, ?_⟩
            · show _ = sm (fun k => if stp (up (μm 50 0) T n k) (up (μm 51 0) T d k) = (q : Int) then 1 else 0) T + (if stp (up (μm 50 0) T n T) (up (μm 51 0) T d T) = (q : Int) then 1 else 0)
              rw [hcnt, ← v1, k3, up_eq, up_eq, hs]
              by_cases hqs : q = s
              · subst hqs; rw [if_pos rfl, if_pos rfl]
              · rw [if_neg hqs, if_neg (by omega)]
            · show _ = sm (fun k => if stp (up (μm 50 0) T n k) (up (μm 51 0) T d k) = (q : Int) ∧ ¬ up (μm 52 0) T c k = 0 then 1 else 0) T + (if stp (up (μm 50 0) T n T) (up (μm 51 0) T d T) = (q : Int) ∧ ¬ up (μm 52 0) T c T = 0 then 1 else 0)
              rw [hcnt2, ← v2, k4, up_eq, up_eq, up_eq, hs]
              by_cases hqs : q = s
              · subst hqs
                by_cases hc0 : c = 0
                · rw [if_neg (fun z => z.2 hc0), if_neg (fun z => z.2 hc0)]
                · rw [if_pos ⟨rfl, hc0⟩, if_pos ⟨rfl, hc0⟩]
              · rw [if_neg (fun z => hqs z.1), if_neg (by omega)]
            all_goals (
              by_cases hqs : q = s
              · subst hqs
                first | exact k7 | exact k8 | exact k9
              · have hne : fsm (up (μm 50 0) T n) (up (μm 51 0) T d) (q : Int) (T + 1) = fsm (up (μm 50 0) T n) (up (μm 51 0) T d) (q : Int) T := if_neg (fun z => by have := z.1; rw [up_eq, up_eq, hs] at this; omega)
                rw [hne, hfc']
                first | (rw [st_nt _ (by decide), k5 _ _ (by omega)]; first | exact v3 | exact v4) | (rw [k6 q hqs]; exact v5) | (rw [k5 _ _ (by omega)]; first | exact v3 | exact v4))
        · rw [hdt]
          simp (disch := decide) only [st_tag]
          rw [k1 7 (by decide) (by decide) (by decide) (by decide) (by decide), k1 9 (by decide) (by decide) (by decide) (by decide) (by decide), k1 10 (by decide) (by decide) (by decide) (by decide) (by decide), k1 28 (by decide) (by decide) (by decide) (by decide) (by decide)]; exact r6
      have hstp : stp (up (μm 50 0) T n T) (up (μm 51 0) T d T) = (s : Int) := by rw [up_eq, up_eq]; exact hs
      have body : ∀ μ7 : Mem, (∀ t, t ≠ 23 → t ≠ 24 → t ≠ 25 → μ7 t = μx t) → μ7 23 0 4 = T + 1 → (∀ q, μ7 24 0 q = μx 24 0 q + (if q = s then 1 else 0)) → (∀ q, μ7 25 0 q = μx 25 0 q + (if q = s ∧ ¬ c = 0 then 1 else 0)) →
          Step (bn (if w32 (μx 27 0 s) = 0 then bn (f_X0_add (s + 3) n d μ7) (fun r11 μ12 => if w64 1099511627776 < w64 (μ12 1 (s + 3) 0) then some (0, st μ12 27 0 s 1) else if w64 (μ12 1 (s + 3) 1) ≤ w64 1099511627776 then some (0, st μ12 27 0 s 0) else some (0, st μ12 27 0 s 1)) else some (0, μ7)) fun r18 μ19 => bn (f_X8_well μ19) fun r2 μ3 => gd (bb r2) (some (r2, μ3))) (some (1, st (st (st (st (m0 μm) 50 0 T n) 51 0 T d) 52 0 T c) 30 0 27 ((T : Int) + 1))) := by
        intro μ7 k1 k2 k3 k4
        have a1 : μ7 1 = μx 1 := k1 1 (by decide) (by decide) (by decide)
        have a27 : μ7 27 = μx 27 := k1 27 (by decide) (by decide) (by decide)
        by_cases hps : (fsm (μm 50 0) (μm 51 0) s T).2.2 = true
        · rw [hps, if_pos rfl] at u5
          rw [u5, if_neg (by decide)]
          have hsame : fsm (up (μm 50 0) T n) (up (μm 51 0) T d) s (T + 1) = fsm (μm 50 0) (μm 51 0) s T := by
            rw [← hfc]
            exact if_neg (fun z => by rw [hfc, hps] at z; exact absurd z.2 (by decide))
          refine fin μ7 (fun t h1 h2 h3 h4 h5 => k1 t h2 h3 h4) k2 k3 k4 (fun i k _ => by rw [a1]) (fun q _ => by rw [a27]) ?_ ?_ ?_
          · rw [a1, hsame]; exact u3
          · rw [a1, hsame]; exact u4
          · rw [a27, hsame, hps, if_pos rfl]; exact u5
        · have hpf : (fsm (μm 50 0) (μm 51 0) s T).2.2 = false := by
            cases hq : (fsm (μm 50 0) (μm 51 0) s T).2.2 with
            | true => exact absurd hq hps
            | false => rfl
          rw [hpf] at u5
          have u5' : μx 27 0 s = 0 := u5
          rw [u5', if_pos w32_0]
          have hb2 := hbd hpf
          rw [← hA, ← hB] at hb2
          have hnew : fsm (up (μm 50 0) T n) (up (μm 51 0) T d) s (T + 1) = (redN (A * d + n * B) (B * d), redD (A * d + n * B) (B * d), decide (1099511627776 < redN (A * d + n * B) (B * d) ∨ 1099511627776 < redD (A * d + n * B) (B * d))) := by
            rw [fsm_upd hstp (by rw [hfc]; exact hpf), hfc, up_eq, up_eq, ← hA, ← hB]
          have q1 : 0 ≤ A * d ∧ A * d ≤ 1099511627776 * 1000 := ⟨Int.mul_nonneg hb2.1.1 (by omega), Int.mul_le_mul hb2.1.2 g4 (by omega) (by omega)⟩
          have q2 : 0 ≤ n * B ∧ n * B ≤ 1000 * 1099511627776 := ⟨Int.mul_nonneg g1 (by omega), Int.mul_le_mul (by omega) hb2.2.2 (by omega) (by omega)⟩
          have q3 : 0 < B * d ∧ B * d ≤ 1099511627776 * 1000 := ⟨Int.mul_pos (by omega) (by omega), Int.mul_le_mul hb2.2.2 g4 (by omega) (by omega)⟩
          have hrd := red_bd (show 0 ≤ A * d + n * B by omega) q3.1
          unfold f_X0_add
          rw [a1, u3, u4, ← hA, ← hB, becX (by omega) q3.1 (by omega) (by omega), bn_s, bn_s]
          have v1 : st (st μ7 1 (s + 3) 0 (redN (A * d + n * B) (B * d))) 1 (s + 3) 1 (redD (A * d + n * B) (B * d)) 1 (s + 3) 0 = redN (A * d + n * B) (B * d) := by rw [st_nk _ (by decide), st_eq]
          have v2 : st (st μ7 1 (s + 3) 0 (redN (A * d + n * B) (B * d))) 1 (s + 3) 1 (redD (A * d + n * B) (B * d)) 1 (s + 3) 1 = redD (A * d + n * B) (B * d) := st_eq _ _ _ _ _
          have w1 : w64 (redN (A * d + n * B) (B * d)) = redN (A * d + n * B) (B * d) := w64_id (by omega) (by omega)
          have w2 : w64 (redD (A * d + n * B) (B * d)) = redD (A * d + n * B) (B * d) := w64_id (by omega) (by omega)
          have w40 : w64 1099511627776 = 1099511627776 := rfl
          have fin2 : ∀ v : Int, v = (if (decide (1099511627776 < redN (A * d + n * B) (B * d) ∨ 1099511627776 < redD (A * d + n * B) (B * d))) then 1 else 0) → Step (bn (some (0, st (st (st μ7 1 (s + 3) 0 (redN (A * d + n * B) (B * d))) 1 (s + 3) 1 (redD (A * d + n * B) (B * d))) 27 0 s v)) fun r18 μ19 => bn (f_X8_well μ19) fun r2 μ3 => gd (bb r2) (some (r2, μ3))) (some (1, st (st (st (st (m0 μm) 50 0 T n) 51 0 T d) 52 0 T c) 30 0 27 ((T : Int) + 1))) := by
            intro v hv
            refine fin _ (fun t h1 h2 h3 h4 h5 => by rw [st_tag _ h5, st_tag _ h1, st_tag _ h1]; exact k1 t h2 h3 h4) (by simp (disch := decide) only [st_nt]; exact k2) (fun q => by simp (disch := decide) only [st_nt]; exact k3 q) (fun q => by simp (disch := decide) only [st_nt]; exact k4 q) (fun i k hi => by rw [st_nt _ (by decide), st_ni _ hi, st_ni _ hi, a1]) (fun q hq => by rw [st_nk _ hq]; simp (disch := decide) only [st_nt]; rw [a27]) ?_ ?_ ?_
            · rw [hnew, st_nt _ (by decide), v1]
            · rw [hnew, st_nt _ (by decide), v2]
            · rw [hnew, st_eq]; exact hv
          rw [v1, v2, w1, w2, w40]
          by_cases z1 : 1099511627776 < redN (A * d + n * B) (B * d)
          · rw [if_pos z1]
            exact fin2 1 (by rw [decide_eq_true (Or.inl z1)]; rfl)
          · rw [if_neg z1]
            by_cases z2 : redD (A * d + n * B) (B * d) ≤ 1099511627776
            · rw [if_pos z2]
              exact fin2 0 (by rw [decide_eq_false (by omega)]; rfl)
            · rw [if_neg z2]
              exact fin2 1 (by rw [decide_eq_true (Or.inr (by omega))]; rfl)
      rcases hc with hc0 | hc1
      · rw [if_pos (show w32 c = 0 by rw [hc0]; rfl)]
        refine body _ (fun t h1 h2 h3 => by rw [st_tag _ h2, st_tag _ h1]) (by rw [st_nt _ (by decide), st_eq]) (fun q => ?_) (fun q => ?_)
        · by_cases hq : q = s
          · subst hq; rw [st_eq, if_pos rfl]
          · rw [st_nk _ hq, st_nt _ (by decide), if_neg hq]; omega
        · rw [st_nt _ (by decide), st_nt _ (by decide), if_neg (fun z => z.2 hc0)]; omega
      · rw [if_neg (show ¬ w32 c = 0 by rw [hc1]; decide)]
        refine body _ (fun t h1 h2 h3 => by rw [st_tag _ h3, st_tag _ h2, st_tag _ h1]) (by rw [st_nt _ (by decide), st_nt _ (by decide), st_eq]) (fun q => ?_) (fun q => ?_)
        · by_cases hq : q = s
          · subst hq; rw [st_nt _ (by decide), st_eq, if_pos rfl]
          · rw [st_nt _ (by decide), st_nk _ hq, st_nt _ (by decide), if_neg hq]; omega
        · by_cases hq : q = s
          · subst hq; rw [st_eq, if_pos ⟨rfl, by omega⟩]
          · rw [st_nk _ hq, st_nt _ (by decide), st_nt _ (by decide), if_neg (fun z => hq z.1)]; omega
  · have hX : ∀ z : Option (Int × Mem), (if w32 n < 0 then some ((0 : Int), st μx 0 0 0 5) else if w32 d < w32 n then some ((0 : Int), st μx 0 0 0 5) else if w32 d < w32 1 then some ((0 : Int), st μx 0 0 0 5) else if w32 d ≤ w32 1000 then z else some ((0 : Int), st μx 0 0 0 5)) = some ((0 : Int), st μx 0 0 0 5) := by
      intro z
      by_cases k1 : n < 0
      · rw [if_pos (by omega)]
      rw [if_neg (show ¬ w32 n < 0 by omega)]
      by_cases k2 : d < n
      · rw [if_pos (by omega)]
      rw [if_neg (show ¬ w32 d < w32 n by omega)]
      by_cases k3 : d < 1
      · rw [if_pos (by omega)]
      rw [if_neg (show ¬ w32 d < w32 1 by omega), if_neg (by omega)]
    have hM : ∀ z : Option (Int × Mem), (if w32 d < w32 1 then some ((0 : Int), st (m0 μm) 30 0 0 5) else if w32 1000 < w32 d then some ((0 : Int), st (m0 μm) 30 0 0 5) else if w32 n < 0 then some ((0 : Int), st (m0 μm) 30 0 0 5) else if w32 n ≤ w32 d then z else some ((0 : Int), st (m0 μm) 30 0 0 5)) = some ((0 : Int), st (m0 μm) 30 0 0 5) := by
      intro z
      by_cases k1 : d < 1
      · rw [if_pos (by omega)]
      rw [if_neg (show ¬ w32 d < w32 1 by omega)]
      by_cases k2 : 1000 < d
      · rw [if_pos (by omega)]
      rw [if_neg (show ¬ w32 1000 < w32 d by omega)]
      by_cases k3 : n < 0
      · rw [if_pos (by omega)]
      rw [if_neg (show ¬ w32 n < 0 by omega), if_neg (by omega)]
    rw [hX, hM]
    exact ws 5
