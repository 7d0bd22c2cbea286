/-! JUDGED and SAID -/
theorem stepOfM {μ : Mem} {n d : Int} (h0 : 0 ≤ n) (h1 : n ≤ d) (h2 : 1 ≤ d) (h3 : d ≤ 1000) : f_X9_stepOf n d μ = some (stp n d, μ) := by
  unfold f_X9_stepOf stp
  have wn : w32 n = n := w32_id (by omega) (by omega)
  have wd : w32 d = d := w32_id (by omega) (by omega)
  have w10 : w32 (10 * n) = 10 * n := w32_id (by omega) (by omega)
  rw [wn, wd, w10]
  by_cases h : n = d
  · rw [if_pos h, if_pos h]
  · rw [if_neg h, if_neg h, gd_t _ (by omega)]
theorem judgedM_L {μ : Mem} {T s : Nat} {x2 : Int} (hx2 : x2 = 0 ∨ x2 = 1) (hT : T ≤ 1000) (hs : s < 10) (h27 : μ 30 0 27 = T) (h : ∀ k : Nat, (k : Int) < T → 0 ≤ μ 50 0 k ∧ μ 50 0 k ≤ μ 51 0 k ∧ 1 ≤ μ 51 0 k ∧ μ 51 0 k ≤ 1000 ∧ (μ 52 0 k = 0 ∨ μ 52 0 k = 1))
    (F : Nat → Int) (hF1 : ∀ k, stp (μ 50 0 k) (μ 51 0 k) = s → (x2 = 0 ∨ ¬ μ 52 0 k = 0) → F k = 1) (hF0 : ∀ k, ¬ (stp (μ 50 0 k) (μ 51 0 k) = s ∧ (x2 = 0 ∨ ¬ μ 52 0 k = 0)) → F k = 0) :
    ∀ (d n j : Nat), d + j = T → d < n → f_X9_judged_L46 (s : Int) x2 n (sm F j) (j : Int) μ = some (sm F T, μ) := by
  intro d
  induction d with
  | zero =>
    intro n j hd hn
    obtain ⟨n, rfl⟩ : ∃ q, n = q + 1 := ⟨n - 1, by omega⟩
    rw [f_X9_judged_L46.eq_2, h27, if_pos (show w32 (T : Int) ≤ w32 (j : Int) by rw [w32n (by omega), w32n (by omega)]; omega), show j = T by omega]
  | succ d ih =>
    intro n j hd hn
    obtain ⟨n, rfl⟩ : ∃ q, n = q + 1 := ⟨n - 1, by omega⟩
    obtain ⟨b1, b2, b3, b4, b5⟩ := h j (by omega)
    rw [f_X9_judged_L46.eq_2, h27, if_neg (show ¬ w32 (T : Int) ≤ w32 (j : Int) by rw [w32n (by omega), w32n (by omega)]; omega), gd_inb _ (by omega) (by omega) (by omega), gd_inb _ (by omega) (by omega) (by omega), ixn (by omega), stepOfM b1 b2 b3 b4, bn_s]
    simp only [jn_u]
    have hsb := stp_bd b1 b2 b3
    have wst : w32 (stp (μ 50 0 j) (μ 51 0 j)) = stp (μ 50 0 j) (μ 51 0 j) := w32_id (by omega) (by omega)
    have wss : w32 (s : Int) = s := w32n (by omega)
    have w52 : w32 (μ 52 0 j) = μ 52 0 j := w32_id (by omega) (by omega)
    have wx : w32 x2 = x2 := w32_id (by omega) (by omega)
    have goal : ∀ v : Int, v = F j → f_X9_judged_L46 (s : Int) x2 n (sm F j + v) ((j : Int) + 1) μ = some (sm F T, μ) := by
      intro v hv
      rw [hv, show ((j : Int) + 1) = ((j + 1 : Nat) : Int) by omega]
      exact ih n (j + 1) (by omega) (by omega)
    rw [wst, wss]
    by_cases e : stp (μ 50 0 j) (μ 51 0 j) = s
    · rw [if_pos e, wx]
      by_cases e0 : x2 = 0
      · rw [if_pos e0]; exact goal 1 (hF1 j e (Or.inl e0)).symm
      · rw [if_neg e0, gd_inb _ (by omega) (by omega) (by omega), w52]
        by_cases e2 : μ 52 0 j = 0
        · rw [if_pos e2]; exact goal 0 (hF0 j (fun z => z.2.elim e0 (fun q => q e2))).symm
        · rw [if_neg e2]; exact goal 1 (hF1 j e (Or.inr e2)).symm
    · rw [if_neg e]; exact goal 0 (hF0 j (fun z => e z.1)).symm
theorem op_judged {μx μm : Mem} (R : Rel μx μm) {a b : Int} (ha : I32 a) (hb : I32 b) : Step (f_X8_judged a b μx) (f_X9_judged a b μm) := by
  unfold f_X8_judged f_X9_judged f_X8_isStep
  rw [m0_def]
  have ws : ∀ v, Step (some (-1, st μx 0 0 0 v)) (some (-1, st (m0 μm) 30 0 0 v)) := fun v => ⟨_, _, _, rfl, rfl, Rel_rf R v⟩
  have wa := wr ha
  have wb := wr hb
  have e10 : w32 10 = 10 := rfl
  have e1 : w32 1 = 1 := rfl
  simp only [f_X8_refuseNumber, f_X9_refuse, bn_s, bn_if, w0z, w1z, if_true, if_false]
  by_cases g : 0 ≤ a ∧ a < 10
  · rw [if_neg (show ¬ w32 a < 0 by omega), if_neg (show ¬ w32 10 ≤ w32 a by omega), if_neg (show ¬ w32 a < 0 by omega), if_pos (show w32 a < w32 10 by omega)]
    by_cases g2 : 0 ≤ b ∧ b ≤ 1
    · rw [if_neg (show ¬ w32 b < 0 by omega), if_pos (show w32 b ≤ w32 1 by omega), if_neg (show ¬ w32 b < 0 by omega), if_pos (show w32 b ≤ w32 1 by omega)]
      obtain ⟨s, rfl⟩ := natOf g.1
      obtain ⟨t1, t2, t3, t4, t5⟩ := R.2.2.2.2.1
      obtain ⟨T, hT⟩ := natOf t2
      rw [hT, Int.toNat_natCast] at t5
      rw [hT] at t4
      obtain ⟨u1, u2, -, -, -⟩ := t5 s (by omega)
      have e50 : m0 μm 50 = μm 50 := m0_tag _ (by decide)
      have e51 : m0 μm 51 = μm 51 := m0_tag _ (by decide)
      have e52 : m0 μm 52 = μm 52 := m0_tag _ (by decide)
      have hL := judgedM_L (μ := m0 μm) (T := T) (s := s) (x2 := b) (by omega) (by omega) (by omega) (by rw [m0_k _ (by decide)]; exact hT) (by rw [e50, e51, e52]; exact t4)
      rw [e50, e51, e52] at hL
      by_cases hb0 : b = 0
      · rw [if_pos (show w32 b = 0 by omega), gd_inb _ (by omega) (by omega) (by omega), ixn (by omega)]
        have := hL (fun k => if stp (μm 50 0 k) (μm 51 0 k) = s then 1 else 0) (fun k h _ => if_pos h) (fun k h => if_neg (fun z => h ⟨z, Or.inl hb0⟩)) T FU 0 (by omega) (by unfold FU; omega)
        rw [show f_X9_judged_L46 (s : Int) b FU 0 0 (m0 μm) = _ from this]
        refine Step_mk ?_ (Rel_o R)
        rw [st_nt _ (by decide)]; exact u1
      · rw [if_neg (show ¬ w32 b = 0 by omega), gd_inb _ (by omega) (by omega) (by omega), ixn (by omega)]
        have := hL (fun k => if stp (μm 50 0 k) (μm 51 0 k) = s ∧ ¬ μm 52 0 k = 0 then 1 else 0) (fun k h h2 => if_pos ⟨h, h2.elim (fun z => absurd z hb0) (fun z => z)⟩) (fun k h => if_neg (fun z => h ⟨z.1, Or.inr z.2⟩)) T FU 0 (by omega) (by unfold FU; omega)
        rw [show f_X9_judged_L46 (s : Int) b FU 0 0 (m0 μm) = _ from this]
        refine Step_mk ?_ (Rel_o R)
        rw [st_nt _ (by decide)]; exact u2
    · by_cases h1 : b < 0
      · rw [if_pos (show w32 b < 0 by omega), if_pos (show w32 b < 0 by omega)]; exact ws 5
      · rw [if_neg (show ¬ w32 b < 0 by omega), if_neg (show ¬ w32 b ≤ w32 1 by omega), if_neg (show ¬ w32 b < 0 by omega), if_neg (show ¬ w32 b ≤ w32 1 by omega)]; exact ws 5
  · by_cases h1 : a < 0
    · rw [if_pos (show w32 a < 0 by omega), if_pos (show w32 a < 0 by omega)]; exact ws 2
    · rw [if_neg (show ¬ w32 a < 0 by omega), if_pos (show w32 10 ≤ w32 a by omega), if_neg (show ¬ w32 a < 0 by omega), if_neg (show ¬ w32 a < w32 10 by omega)]; exact ws 2
theorem fsm_skip {m50 m51 : Nat → Int} {s : Int} {k : Nat} (h : ¬ (stp (m50 k) (m51 k) = s ∧ (fsm m50 m51 s k).2.2 = false)) : fsm m50 m51 s (k + 1) = fsm m50 m51 s k := if_neg h
theorem fsm_stay {m50 m51 : Nat → Int} {s : Int} {j : Nat} (h : (fsm m50 m51 s j).2.2 = true) : ∀ d, (fsm m50 m51 s (j + d)).2.2 = true := by
  intro d
  induction d with
  | zero => exact h
  | succ d ih => rw [show j + (d + 1) = (j + d) + 1 by omega, fsm_skip (fun z => by rw [ih] at z; exact absurd z.2 (by decide))]; exact ih
theorem fsm_cnt {m50 m51 : Nat → Int} {s : Int} : ∀ k, (fsm m50 m51 s k).2.2 = true → 1 ≤ sm (fun k => if stp (m50 k) (m51 k) = s then 1 else 0) k := by
  intro k
  induction k with
  | zero => intro h; exact absurd (show false = true from h) (by decide)
  | succ k ih =>
    intro h
    show 1 ≤ sm (fun k => if stp (m50 k) (m51 k) = s then 1 else 0) k + (if stp (m50 k) (m51 k) = s then 1 else 0)
    have h0 := (sm_bd (f := fun k => if stp (m50 k) (m51 k) = s then (1 : Int) else 0) (B := 1) k (fun q _ => by split <;> omega)).1
    by_cases e : stp (m50 k) (m51 k) = s
    · rw [if_pos e]; omega
    · rw [if_neg e]
      rw [fsm_skip (fun z => e z.1)] at h
      have := ih h
      omega
theorem saidM_L {μ : Mem} {T s : Nat} (hT : T ≤ 1000) (hs : s < 10) (h27 : μ 30 0 27 = T) (h : ∀ k : Nat, (k : Int) < T → 0 ≤ μ 50 0 k ∧ μ 50 0 k ≤ μ 51 0 k ∧ 1 ≤ μ 51 0 k ∧ μ 51 0 k ≤ 1000 ∧ (μ 52 0 k = 0 ∨ μ 52 0 k = 1)) (K : Int → Int → Int → Mem → Option (Int × Mem)) :
    ∀ (d n j : Nat), d + j = T → d < n → (fsm (μ 50 0) (μ 51 0) s j).2.2 = false → f_X9_said_L37 (s : Int) K n (fsm (μ 50 0) (μ 51 0) s j).1 (fsm (μ 50 0) (μ 51 0) s j).2.1 (sm (fun k => if stp (μ 50 0 k) (μ 51 0 k) = s then 1 else 0) j) (j : Int) μ = if (fsm (μ 50 0) (μ 51 0) s T).2.2 = true then some (0, st μ 30 0 0 9) else K (fsm (μ 50 0) (μ 51 0) s T).1 (fsm (μ 50 0) (μ 51 0) s T).2.1 (sm (fun k => if stp (μ 50 0 k) (μ 51 0 k) = s then 1 else 0) T) μ := by
  intro d
  induction d with
  | zero =>
    intro n j hd hn hf
    obtain ⟨n, rfl⟩ : ∃ q, n = q + 1 := ⟨n - 1, by omega⟩
    have hj : j = T := by omega
    subst hj
    rw [f_X9_said_L37.eq_2, h27, if_pos (show w32 (j : Int) ≤ w32 (j : Int) by omega), if_neg (by rw [hf]; decide)]
  | succ d ih =>
    intro n j hd hn hf
    obtain ⟨n, rfl⟩ : ∃ q, n = q + 1 := ⟨n - 1, by omega⟩
    obtain ⟨b1, b2, b3, b4, b5⟩ := h j (by omega)
    rw [f_X9_said_L37.eq_2, h27, if_neg (show ¬ w32 (T : Int) ≤ w32 (j : Int) by rw [w32n (by omega), w32n (by omega)]; omega), gd_inb _ (by omega) (by omega) (by omega), gd_inb _ (by omega) (by omega) (by omega), ixn (by omega), stepOfM b1 b2 b3 b4, bn_s]
    simp only [jn_u]
    have hsb := stp_bd b1 b2 b3
    have wst : w32 (stp (μ 50 0 j) (μ 51 0 j)) = stp (μ 50 0 j) (μ 51 0 j) := w32_id (by omega) (by omega)
    have wss : w32 (s : Int) = s := w32n (by omega)
    have w50 : w32 (μ 50 0 j) = μ 50 0 j := w32_id (by omega) (by omega)
    have w51 : w32 (μ 51 0 j) = μ 51 0 j := w32_id (by omega) (by omega)
    have c1 : ((j : Int) + 1) = ((j + 1 : Nat) : Int) := by omega
    have hbd := fsm_bd (m50 := μ 50 0) (m51 := μ 51 0) (s := s) j (fun k hk => by have := h k (by omega); exact ⟨this.1, this.2.1, this.2.2.1, this.2.2.2.1⟩) hf
    rw [wst, wss]
    by_cases e : stp (μ 50 0 j) (μ 51 0 j) = s
    · rw [if_pos e]
      have hup := fsm_upd (m50 := μ 50 0) (m51 := μ 51 0) (k := j) e hf
      have hcn : sm (fun k => if stp (μ 50 0 k) (μ 51 0 k) = s then 1 else 0) j + 1 = sm (fun k => if stp (μ 50 0 k) (μ 51 0 k) = (s : Int) then 1 else 0) (j + 1) := by
        show _ = sm (fun k => if stp (μ 50 0 k) (μ 51 0 k) = (s : Int) then 1 else 0) j + (if stp (μ 50 0 j) (μ 51 0 j) = s then 1 else 0)
        rw [if_pos e]
      have ih' := ih n (j + 1) (by omega) (by omega)
      have hst := fsm_stay (m50 := μ 50 0) (m51 := μ 51 0) (s := (s : Int)) (j := j + 1)
      rw [hup] at ih' hst
      obtain ⟨A, hA⟩ : ∃ A, A = (fsm (μ 50 0) (μ 51 0) s j).1 := ⟨_, rfl⟩
      obtain ⟨B, hB⟩ : ∃ B, B = (fsm (μ 50 0) (μ 51 0) s j).2.1 := ⟨_, rfl⟩
      rw [← hA, ← hB] at hbd ih' hst
      rw [← hA, ← hB, w50, w51]
      obtain ⟨nn, hn1⟩ : ∃ v, v = μ 50 0 j := ⟨_, rfl⟩
      obtain ⟨dd, hd1⟩ : ∃ v, v = μ 51 0 j := ⟨_, rfl⟩
      rw [← hn1, ← hd1] at ih' hst
      rw [← hn1] at b1 b2
      rw [← hd1] at b2 b3 b4
      rw [← hn1, ← hd1]
      have q1 : 0 ≤ A * dd ∧ A * dd ≤ 1099511627776 * 1000 := ⟨Int.mul_nonneg hbd.1.1 (by omega), Int.mul_le_mul hbd.1.2 b4 (by omega) (by omega)⟩
      have q2 : 0 ≤ nn * B ∧ nn * B ≤ 1000 * 1099511627776 := ⟨Int.mul_nonneg b1 (by omega), Int.mul_le_mul (by omega) hbd.2.2 (by omega) (by omega)⟩
      have q3 : 0 < B * dd ∧ B * dd ≤ 1099511627776 * 1000 := ⟨Int.mul_pos (by omega) (by omega), Int.mul_le_mul hbd.2.2 b4 (by omega) (by omega)⟩
      obtain ⟨N, hN⟩ : ∃ v, v = A * dd + nn * B := ⟨_, rfl⟩
      obtain ⟨M, hM⟩ : ∃ v, v = B * dd := ⟨_, rfl⟩
      rw [← hN, ← hM] at ih' hst ⊢
      rw [← hM] at q3
      have hN0 : 0 ≤ N ∧ N ≤ 9223372036854775807 := by omega
      have hg := egcd_pos (a := N) q3.1
      have hg2 := egcd_le (a := N) q3.1
      have e1 : w64 (egcd N M) = egcd N M := w64_id (by omega) (by omega)
      have e2 : w64 N = N := w64_id (by omega) (by omega)
      have e3 : w64 M = M := w64_id (by omega) (by omega)
      have hrd := red_bd hN0.1 q3.1
      have e4 : w64 (redN N M) = redN N M := w64_id (by omega) (by omega)
      have e5 : w64 (redD N M) = redD N M := w64_id (by omega) (by omega)
      have w40 : w64 1099511627776 = 1099511627776 := rfl
      rw [gd_inb _ (by omega) (by omega) (by omega), gd_inb _ (by omega) (by omega) (by omega), gd_inb _ (by omega) (by omega) (by omega), common_M μ hN0.1 (by omega) hN0.2 (by omega), bn_s, gd_t _ (by rw [e1]; omega), gd_t _ (by rw [e1]; omega), e1, e2, e3]
      rw [show Int.tdiv N (egcd N M) = redN N M from rfl, show Int.tdiv M (egcd N M) = redD N M from rfl, e4, e5, w40, c1, hcn]
      simp only [f_X9_no, bn_s, gd_b0]
      by_cases z1 : 1099511627776 < redN N M
      · rw [if_pos z1, if_pos (by have := hst (decide_eq_true (Or.inl z1)) d; rwa [show j + 1 + d = T by omega] at this)]
      · rw [if_neg z1]
        by_cases z2 : redD N M ≤ 1099511627776
        · rw [if_pos z2]
          exact ih' (decide_eq_false (by omega))
        · rw [if_neg z2, if_pos (by have := hst (decide_eq_true (Or.inr (by omega))) d; rwa [show j + 1 + d = T by omega] at this)]
    · rw [if_neg e, c1]
      have hup := fsm_skip (m50 := μ 50 0) (m51 := μ 51 0) (s := (s : Int)) (k := j) (fun z => e z.1)
      have ih' := ih n (j + 1) (by omega) (by omega) (by rw [hup]; exact hf)
      have hcn : sm (fun k => if stp (μ 50 0 k) (μ 51 0 k) = s then 1 else 0) j = sm (fun k => if stp (μ 50 0 k) (μ 51 0 k) = (s : Int) then 1 else 0) (j + 1) := by
        show _ = sm (fun k => if stp (μ 50 0 k) (μ 51 0 k) = (s : Int) then 1 else 0) j + (if stp (μ 50 0 j) (μ 51 0 j) = s then 1 else 0)
        rw [if_neg e]; omega
      rw [hup] at ih'
      rw [hcn]; exact ih'
theorem op_said {μx μm : Mem} (R : Rel μx μm) {a : Int} (ha : I32 a) : Step (f_X8_said a μx) (f_X9_said a μm) := by
  unfold f_X8_said f_X9_said f_X8_isStep
  rw [m0_def]
  have ws : ∀ v, Step (some (0, st μx 0 0 0 v)) (some (0, st (m0 μm) 30 0 0 v)) := fun v => ⟨_, _, _, rfl, rfl, Rel_rf R v⟩
  have wa := wr ha
  have e10 : w32 10 = 10 := rfl
  simp only [f_X8_refuse, f_X9_no, bn_s, bn_if, w0z, w1z, if_true, if_false, gd_b0]
  by_cases g : 0 ≤ a ∧ a < 10
  · rw [if_neg (show ¬ w32 a < 0 by omega), if_neg (show ¬ w32 10 ≤ w32 a by omega), if_neg (show ¬ w32 a < 0 by omega), if_pos (show w32 a < w32 10 by omega)]
    obtain ⟨s, rfl⟩ := natOf g.1
    obtain ⟨t1, t2, t3, t4, t5⟩ := R.2.2.2.2.1
    obtain ⟨T, hT⟩ := natOf t2
    rw [hT, Int.toNat_natCast] at t5
    rw [hT] at t4
    obtain ⟨u1, -, u3, u4, u5⟩ := t5 s (by omega)
    have e50 : m0 μm 50 = μm 50 := m0_tag _ (by decide)
    have e51 : m0 μm 51 = μm 51 := m0_tag _ (by decide)
    have e52 : m0 μm 52 = μm 52 := m0_tag _ (by decide)
    rw [gd_inb _ (by omega) (by omega) (by omega), gd_inb _ (by omega) (by omega) (by omega), gd_inb _ (by omega) (by omega) (by omega), ixn (by omega)]
    have hL := fun K => saidM_L (μ := m0 μm) (T := T) (s := s) (by omega) (by omega) (by rw [m0_k _ (by decide)]; exact hT) (by rw [e50, e51, e52]; exact t4) K T FU 0 (by omega) (by unfold FU; omega) rfl
    rw [e50, e51] at hL
    rw [show ∀ K, f_X9_said_L37 (s : Int) K FU 0 1 0 0 (m0 μm) = _ from hL]
    have hbd := fsm_bd (m50 := μm 50 0) (m51 := μm 51 0) (s := s) T (fun k hk => by have := t4 k (by omega); exact ⟨this.1, this.2.1, this.2.2.1, this.2.2.2.1⟩)
    have hpc := fsm_cnt (m50 := μm 50 0) (m51 := μm 51 0) (s := s) T
    have hcb := sm_bd (f := fun k => if stp (μm 50 0 k) (μm 51 0 k) = s then (1 : Int) else 0) (B := 1) T (fun q _ => by split <;> omega)
    obtain ⟨c, hc⟩ : ∃ c, c = sm (fun k => if stp (μm 50 0 k) (μm 51 0 k) = (s : Int) then 1 else 0) T := ⟨_, rfl⟩
    rw [← hc] at hpc hcb u1 ⊢
    have wc : w32 c = c := w32_id (by omega) (by omega)
    rw [u1, u3, u4, u5]
    cases hp : (fsm (μm 50 0) (μm 51 0) s T).2.2 with
    | true =>
      have := hpc hp
      rw [if_neg (show ¬ w32 c = 0 by omega), if_pos rfl, if_pos rfl, if_neg (by decide)]
      exact ws 9
    | false =>
      rw [if_neg (c := (false = true)) (by decide), if_neg (c := (false = true)) (by decide), if_pos (c := w32 0 = 0) rfl, wc]
      by_cases hc0 : c = 0
      · rw [if_pos hc0, if_pos hc0]; exact ws 5
      · rw [if_neg hc0, if_neg hc0]
        have hb := hbd hp
        have q3 : 0 < (fsm (μm 50 0) (μm 51 0) s T).2.1 * c ∧ (fsm (μm 50 0) (μm 51 0) s T).2.1 * c ≤ 1099511627776 * 1000 := ⟨Int.mul_pos (by omega) (by omega), Int.mul_le_mul hb.2.2 (by omega) (by omega) (by omega)⟩
        exact tell_step R hb.1.1 q3.1 (by omega) (by omega) (fun t _ => rfl) (fun t _ => rfl) (fun t ht => m0_tag _ (by omega)) (fun k hk => m0_k _ (by omega)) (m0_0 _)
  · by_cases h1 : a < 0
    · rw [if_pos (show w32 a < 0 by omega), if_pos (show w32 a < 0 by omega)]; exact ws 2
    · rw [if_neg (show ¬ w32 a < 0 by omega), if_pos (show w32 10 ≤ w32 a by omega), if_neg (show ¬ w32 a < 0 by omega), if_neg (show ¬ w32 a < w32 10 by omega)]; exact ws 2
