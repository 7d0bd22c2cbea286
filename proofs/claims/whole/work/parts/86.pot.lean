/-! ROOM: what the rows of ways may still need -/
def pc (l : Int) : Int := 2 * (20000 - l)
def ps (l : Int) : Int := if l < 20000 then 2 * (60000 - 2 * l) else 0
def Pot (l l' : Int) (mc ms : Nat) : Prop := (mc : Int) + pc l' ≤ pc l ∧ (ms : Int) + ps l' ≤ ps l
theorem Pot_refl (l : Int) : Pot l l 0 0 := ⟨by show (0 : Int) + _ ≤ _; omega, by show (0 : Int) + _ ≤ _; omega⟩
theorem pot_room {μ : Mem} {c : Nat} (hc : c ≤ 20000) (h6 : μ 7 0 6 = (c : Int)) (hn : 0 ≤ μ 28 0 0 ∧ μ 28 0 0 ≤ 20000) : ∃ mc ms : Nat, Gm mc ms μ ∧ ∀ r μ', f_X6_makeRoom μ = some (r, μ') → Pot (μ 28 0 0) (μ' 28 0 0) mc ms := by
  have e1 : (((μ 28 0 0).toNat : Nat) : Int) = μ 28 0 0 := by omega
  by_cases h : (c : Int) ≤ μ 28 0 0
  · refine ⟨0, 0, fun z => absurd ?_ z, fun r μ' hf => ?_⟩
    · rw [h6, w32n (by omega), e1, w32_id (x := μ 28 0 0) (by omega) (by omega)]; exact h
    · unfold f_X6_makeRoom at hf
      rw [h6, w32n (by omega), e1, w32_id (x := μ 28 0 0) (by omega) (by omega), if_pos h] at hf
      obtain ⟨-, rfl⟩ := Prod.mk.inj (Option.some.inj hf)
      exact Pot_refl _
  · have hm : minR μ = if 20000 < 2 * μ 28 0 0 then 20000 else 2 * μ 28 0 0 := by
      unfold minR
      rw [e1, show w32 20000 = 20000 from rfl, w32_id (x := 2 * μ 28 0 0) (by omega) (by omega)]
    have hmb : 0 ≤ minR μ ∧ minR μ ≤ 20000 ∧ (minR μ = 20000 ∨ minR μ = 2 * μ 28 0 0) := by rw [hm]; split <;> omega
    have hr : newR μ = if (c : Int) < minR μ then minR μ else (c : Int) := by
      unfold newR
      rw [h6, w32n (by omega), w32_id (x := minR μ) (by omega) (by omega)]
    have hrb : μ 28 0 0 < newR μ ∧ newR μ ≤ 20000 ∧ (newR μ = 20000 ∨ 2 * μ 28 0 0 ≤ newR μ) := by rw [hr]; split <;> omega
    refine ⟨2, (newR μ).toNat + (newR μ).toNat, fun _ => ⟨by omega, by omega⟩, fun r μ' hf => ?_⟩
    unfold f_X6_makeRoom at hf
    rw [h6, w32n (by omega), e1, w32_id (x := μ 28 0 0) (by omega) (by omega), if_neg h, gd_t _ (by omega)] at hf
    obtain ⟨-, rfl⟩ := Prod.mk.inj (Option.some.inj hf)
    have e28 : nwM μ (newR μ) 28 0 0 = newR μ := by unfold nwM; rw [if_pos rfl]
    rw [e28]
    unfold Pot pc ps
    rw [if_pos (show μ 28 0 0 < 20000 by omega)]
    refine ⟨by omega, ?_⟩
    by_cases z : newR μ < 20000
    · rw [if_pos z]; omega
    · rw [if_neg z]; omega
theorem pot_fresh {D : Dt} (O : OKD D) (hS : nStuck D) (ht : tot D ≤ 20000) {μ : Mem} (X : dt μ = D) (hc : Cach D (μ 7 0) (μ 9 0) (μ 10 0) (μ 28 0 0)) : ∃ mc ms : Nat, HG_X6_refresh mc ms μ ∧ ∀ r μ', f_X6_refresh μ = some (r, μ') → Pot (μ 28 0 0) (μ' 28 0 0) mc ms := by
  have hcw := cW_le O
  obtain ⟨hc1, hc2, hc3⟩ := hc
  rcases hc2 with h5 | h5
  · refine ⟨0, 0, fun z => absurd (show w32 (μ 7 0 5) = 0 by rw [h5]; rfl) z, fun r μ' hf => ?_⟩
    unfold f_X6_refresh at hf
    rw [if_pos (by rw [h5]; rfl)] at hf
    obtain ⟨-, rfl⟩ := Prod.mk.inj (Option.some.inj hf)
    exact Pot_refl _
  · have e28 : st μ 7 0 6 (cW D : Int) 28 0 0 = μ 28 0 0 := st_nt _ (by decide)
    obtain ⟨mc, ms, g1, g2⟩ := pot_room (μ := st μ 7 0 6 (cW D : Int)) (c := cW D) (by omega) (st_eq _ _ _ _ _) (by rw [e28]; exact hc1)
    refine ⟨mc, ms, fun _ r μ1 hf => ?_, fun r μ' hf => ?_⟩
    · rw [countX O X ht] at hf
      obtain ⟨rfl, rfl⟩ := Prod.mk.inj (Option.some.inj hf)
      exact g1
    · unfold f_X6_refresh at hf
      obtain ⟨μ1, a1, a2, a3, a4⟩ := roomX (μ := st μ 7 0 6 (cW D : Int)) (c := cW D) (by omega) (st_eq _ _ _ _ _) (by rw [e28]; exact hc1)
      have hp := g2 _ _ a1
      rw [e28] at hp
      have X2 : dt (st (st μ1 7 0 8 0) 7 0 7 0) = D := by
        rw [← X, dt_st _ (by decide), dt_st _ (by decide)]
        exact dt_of (fun t h1 h2 => by rw [a2 t (by omega) (by omega) (by omega), st_tag _ (by omega)])
      obtain ⟨μ2, b1, b2, b3⟩ := firstX O X2
      have f7 : μ2 7 = st (st μ1 7 0 8 0) 7 0 7 0 7 := b3 7 (by decide) (by decide) (by decide)
      have f28 : μ2 28 0 0 = μ1 28 0 0 := by rw [b3 28 (by decide) (by decide) (by decide), st_nt _ (by decide), st_nt _ (by decide)]
      obtain ⟨μ3, c1, c2, c3, c4, c5⟩ := freshX_L O hS ht (cW D) FU 0 μ2 (by omega) (by unfold FU; omega) b2 (by rw [f7, st_nk _ (by decide), st_nk _ (by decide), a2 7 (by decide) (by decide) (by decide), st_eq]) (by rw [f28]; exact ⟨a3, a4⟩) (fun k hk => absurd hk (by omega)) (by rw [f7, st_nk _ (by decide), st_eq]; rfl) (by rw [f7, st_eq]; omega) (fun k hk => absurd hk (by omega))
      rw [if_neg (by rw [h5]; decide), countX O X ht, bn_s, a1, bn_s, b1, bn_s, show f_X6_refresh_L42 FU 0 μ2 = _ from c1] at hf
      obtain ⟨-, rfl⟩ := Prod.mk.inj (Option.some.inj hf)
      rw [c5 28 (by decide) (by decide) (by decide) (by decide) (by decide) (by decide) (by decide), f28]
      exact hp
theorem pot_chance {D : Dt} (O : OKD D) {μ : Mem} (X : dt μ = D) (hc : Cach D (μ 7 0) (μ 9 0) (μ 10 0) (μ 28 0 0)) : ∃ mc ms : Nat, HG_X8_chanceTrouble mc ms μ ∧ ∀ r μ', f_X8_chanceTrouble μ = some (r, μ') → Pot (μ 28 0 0) (μ' 28 0 0) mc ms := by
  by_cases h1 : nStuck D
  · by_cases h2 : tot D ≤ 20000
    · obtain ⟨mc, ms, g1, g2⟩ := pot_fresh O h1 h2 X hc
      refine ⟨mc, ms, fun r μ1 hf hr r2 μ2 hf2 hr2 => ?_, fun r μ' hf => ?_⟩
      · rw [(stuckX O X).1 h1] at hf
        obtain ⟨rfl, rfl⟩ := Prod.mk.inj (Option.some.inj hf)
        rw [isGreatX O X] at hf2
        obtain ⟨-, rfl⟩ := Prod.mk.inj (Option.some.inj hf2)
        exact g1
      · unfold f_X8_chanceTrouble at hf
        obtain ⟨μ', a1, a2, a3⟩ := freshX O h1 h2 X hc
        have hp := g2 _ _ a1
        rw [(stuckX O X).1 h1, bn_s, if_pos w32_0, isGreatX O X, bn_s, if_pos h2, if_pos w32_0, a1, bn_s] at hf
        split at hf
        · obtain ⟨-, rfl⟩ := Prod.mk.inj (Option.some.inj hf); exact hp
        · obtain ⟨-, rfl⟩ := Prod.mk.inj (Option.some.inj hf); exact hp
    · refine ⟨0, 0, fun r μ1 hf hr r2 μ2 hf2 hr2 => ?_, fun r μ' hf => ?_⟩
      · rw [(stuckX O X).1 h1] at hf
        obtain ⟨rfl, rfl⟩ := Prod.mk.inj (Option.some.inj hf)
        rw [isGreatX O X, if_neg h2] at hf2
        obtain ⟨rfl, rfl⟩ := Prod.mk.inj (Option.some.inj hf2)
        exact absurd hr2 (by decide)
      · rw [(troubleX O X hc).2.1 h1 h2] at hf
        obtain ⟨-, rfl⟩ := Prod.mk.inj (Option.some.inj hf)
        exact Pot_refl _
  · refine ⟨0, 0, fun r μ1 hf hr => ?_, fun r μ' hf => ?_⟩
    · rw [(stuckX O X).2 h1] at hf
      obtain ⟨rfl, rfl⟩ := Prod.mk.inj (Option.some.inj hf)
      exact absurd hr (by decide)
    · rw [(troubleX O X hc).1 h1] at hf
      obtain ⟨-, rfl⟩ := Prod.mk.inj (Option.some.inj hf)
      exact Pot_refl _
