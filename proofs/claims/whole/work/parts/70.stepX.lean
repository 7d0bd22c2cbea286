/-! THE STEPPING, in the class -/
theorem bii {a b : Bool} (h : a = true ↔ b = true) : a = b := by revert h; cases a <;> cases b <;> decide
theorem jn_ite {γ : Type} {c : Prop} [Decidable c] (G : Int → γ) : jn G (fun j => if c then j 1 else j 0) = G (if c then 1 else 0) := by
  show (if c then G 1 else G 0) = _
  split <;> rfl
def RX (D : Dt) (S : Sm) (μ : Mem) : Prop := ∃ b o : Nat, (μ 11 0 6 = (b : Int) ∧ μ 11 0 7 = (o : Int)) ∧ (b < 2 ^ 10 ∧ o < 2 ^ 10) ∧ (∀ i, b.testBit i = S.1 i) ∧ (∀ i, o.testBit i = S.2.1 i) ∧ μ 11 0 8 = S.2.2.2 ∧ ∀ p, p < dnp D → S.1 p = true → μ 14 0 p = S.2.2.1 p
theorem SX_ext {D : Dt} {k : Nat} {μ μ' : Mem} (S : SX D k μ) (h : ∀ t, t ≠ 11 → t ≠ 14 → μ' t = μ t) (h4 : μ' 11 0 4 = μ 11 0 4) (h5 : μ' 11 0 5 = μ 11 0 5) : SX D k μ' := by
  obtain ⟨X, s12, s4, s5, s13⟩ := S
  exact ⟨(dt_of (fun t h1 _ => h t (by omega) (by omega))).trans X, by rw [h 12 (by decide) (by decide)]; exact s12, h4.trans s4, h5.trans s5, by rw [h 13 (by decide) (by decide)]; exact s13⟩
theorem or_setB {x j : Nat} {f : Nat → Bool} (h : ∀ i, x.testBit i = f i) (i : Nat) : (x ||| 2 ^ j).testBit i = setB f j true i := by
  rw [bit_or, h i]
  by_cases e : i = j
  · rw [e, setB_eq, decide_eq_true rfl, Bool.or_true]
  · rw [setB_ne e, decide_eq_false (fun z => e z.symm), Bool.or_false]
theorem p10 {j : Nat} (h : j < 10) : 2 ^ j < 2 ^ 10 := Nat.pow_lt_pow_right (by decide) h
theorem beginX_L {D : Dt} (O : OKD D) {k : Nat} {sl day : Int} (hsl : -1 ≤ sl ∧ sl ≤ 9) {S : Sm} (I : Inv D (tkg D (dig D k) (cbt D k) sl) day S) : ∀ (d n j : Nat) (μ : Mem), SX D k μ → RX D (bgN D (tkg D (dig D k) (cbt D k) sl) day j S) μ → d + j = dnp D → d < n →
    ∃ μ', f_X2_beginOn_L2 day sl n (j : Int) μ = some (0, μ') ∧ SX D k μ' ∧ RX D (bgN D (tkg D (dig D k) (cbt D k) sl) day (dnp D) S) μ' ∧ ∀ t, t ≠ 11 → t ≠ 14 → μ' t = μ t := by
  obtain ⟨T, hTe⟩ : ∃ T, T = tkg D (dig D k) (cbt D k) sl := ⟨_, rfl⟩
  have hT0 : ∀ p, p < dnp D → 0 ≤ T p ∧ T p ≤ 496 := fun p hp => by rw [hTe]; have := tkg_bd O (k := k) (sl := sl) hp; split at this <;> omega
  have hTT : sm T (dnp D) ≤ 4951 := by rw [hTe]; have := tkg_sum O (k := k) (sl := sl); split at this <;> omega
  rw [← hTe] at I ⊢
  intro d
  have h10 := ok_np O
  induction d with
  | zero =>
    intro n j μ hX hR hd hn
    obtain ⟨n, rfl⟩ : ∃ q, n = q + 1 := ⟨n - 1, by omega⟩
    have hj : j = dnp D := by omega
    subst hj
    refine ⟨μ, ?_, hX, hR, fun t _ _ => rfl⟩
    rw [f_X2_beginOn_L2.eq_2, wx_np O hX.1, if_pos (Int.le_refl _)]
  | succ d ih =>
    intro n j μ hX hR hd hn
    obtain ⟨n, rfl⟩ : ∃ q, n = q + 1 := ⟨n - 1, by omega⟩
    have hjp : j < dnp D := by omega
    have hj10 : j < 10 := by omega
    obtain ⟨S', hS'⟩ : ∃ S', S' = bgN D T day j S := ⟨_, rfl⟩
    have I' : Inv D T day S' := by rw [hS']; exact bgN_Inv (fun p hp => (hT0 p hp).1) I j (by omega)
    have hnx : bgN D T day (j + 1) S = bg1 D T day j S' := by rw [hS']; rfl
    have ih' := ih n (j + 1)
    rw [hnx, show ((j + 1 : Nat) : Int) = (j : Int) + 1 by omega] at ih'
    rw [← hS'] at hR
    obtain ⟨b, o, ⟨h6, h7⟩, ⟨hb10, ho10⟩, hb, ho, h8, h14⟩ := hR
    obtain ⟨X, s12, s4, s5, s13⟩ := hX
    have hhd := ok_hd O hjp
    have hnd := ok_nd O hjp
    have hnd10 : dnd D j < 2 ^ 10 := Nat.lt_trans hnd (p10 hj10)
    have hhs := ok_hs O
    have hp10 := p10 hj10
    have hdl := dig_lt O (k := k) hjp
    have hr := ok_rw O hjp
    have hTj := hT0 j hjp
    have hF : 0 ≤ S'.2.2.2 ∧ S'.2.2.2 ≤ 30 := by
      have h1 := I'.2.2.1
      have h2 := (sm_bd (f := fun q => if runs S' q then dhd D q else 0) (B := 9) (dnp D) (fun q hq => by have := ok_hd O hq; split <;> omega)).1
      have : sR D S' = sm (fun q => if runs S' q then dhd D q else 0) (dnp D) := rfl
      omega
    have c1 : w32 ((b &&& 2 ^ j : Nat) : Int) = 0 ↔ S'.1 j = false := by
      have hlt : b &&& 2 ^ j < 2 ^ 10 := Nat.and_lt_two_pow b hp10
      rw [w32n (by omega), ← hb j, ← bit_and_iff]; omega
    have c2 : w32 ((dnd D j ^^^ (dnd D j &&& o) : Nat) : Int) = 0 ↔ ∀ q, q < dnp D → (dnd D j).testBit q = true → S'.2.1 q = true := by
      have hlt : dnd D j ^^^ (dnd D j &&& o) < 2 ^ 10 := Nat.xor_lt_two_pow hnd10 (Nat.and_lt_two_pow _ ho10)
      rw [w32n (by omega)]
      constructor
      · intro z q hq hq2
        have z' : dnd D j ^^^ (dnd D j &&& o) = 0 := by omega
        have := andn_bit (dnd D j) o q
        rw [z', Nat.zero_testBit, hq2, ho q] at this
        revert this; cases S'.2.1 q <;> decide
      · intro z
        have : dnd D j ^^^ (dnd D j &&& o) = 0 := by
          apply Nat.eq_of_testBit_eq
          intro q
          rw [andn_bit, Nat.zero_testBit, ho q]
          cases hq : (dnd D j).testBit q with
          | false => rfl
          | true =>
            have hqj : q < dnp D := by
              apply Decidable.byContradiction
              intro zz
              have := Nat.testBit_lt_two_pow (show dnd D j < 2 ^ q from Nat.lt_of_lt_of_le hnd (Nat.pow_le_pow_right (by decide) (by omega)))
              rw [this] at hq; exact absurd hq (by decide)
            rw [z q hqj hq]; rfl
        rw [this]; rfl
    have wF : w32 S'.2.2.2 = S'.2.2.2 := w32_id (by omega) (by omega)
    have wh : w32 (dhd D j) = dhd D j := w32_id (by omega) (by omega)
    have skip : ¬ canB D j S' → ∃ μ', f_X2_beginOn_L2 day sl n ((j : Int) + 1) μ = some (0, μ') ∧ SX D k μ' ∧ RX D (bgN D T day (dnp D) S) μ' ∧ ∀ t, t ≠ 11 → t ≠ 14 → μ' t = μ t := by
      intro hc
      exact ih' μ ⟨X, s12, s4, s5, s13⟩ (by rw [bg1_n hc]; exact ⟨b, o, ⟨h6, h7⟩, ⟨hb10, ho10⟩, hb, ho, h8, h14⟩) (by omega) (by omega)
    rw [f_X2_beginOn_L2.eq_2, wx_np O X, if_neg (show ¬ w32 (dnp D : Int) ≤ w32 (j : Int) by rw [w32n (by omega), w32n (by omega)]; omega), gd_inb _ (by omega) (by omega) (by omega), jn_u]
    try dsimp only
    rw [ixn (by omega), h6, h7, h8, shl1 j (by omega), wx_nd O X hjp, wx_hd X, b_and (by omega) (by omega), b_andn (by omega) (by omega), wF, wh]
    by_cases e1 : S'.1 j = false
    · rw [if_pos (c1.2 e1)]
      by_cases e2 : ∀ q, q < dnp D → (dnd D j).testBit q = true → S'.2.1 q = true
      · rw [if_pos (c2.2 e2)]
        by_cases e3 : S'.2.2.2 < dhd D j
        · rw [if_pos e3]
          exact skip (fun z => by have := z.2.1; omega)
        · rw [if_neg e3]
          have hc : canB D j S' := ⟨e1, by omega, e2⟩
          have hTt : ddy D j (dig D k j) + late1 D (cbt D k) j + (if (j : Int) = sl then 1 else 0) = T j := by rw [hTe]; rfl
          rw [s12 j hjp, gd_inb _ (by omega) (by omega) (by omega), gd_inb _ (by omega) (by omega) (by omega), gd_inb _ (by omega) (by omega) (by omega), jn_ite, gd_inb _ (by omega) (by omega) (by omega), ixn (by omega), wx_dy X, s13 j hjp, w32n (by omega), w32_id (x := sl) (by omega) (by omega), hTt, w32_id (x := T j) (by omega) (by omega), b_or (by omega) (by omega)]
          by_cases e4 : T j = 0
          · rw [if_pos e4, st_nt _ (by decide), st_nk _ (by decide), h7, b_or (by omega) (by omega)]
            obtain ⟨μ', g1, g2, g3, g4⟩ := ih' (st (st (st μ 11 0 6 ((b ||| 2 ^ j : Nat) : Int)) 14 0 j (day + T j)) 11 0 7 ((o ||| 2 ^ j : Nat) : Int))
              (SX_ext ⟨X, s12, s4, s5, s13⟩ (fun t h1 h2 => by rw [st_tag _ h1, st_tag _ h2, st_tag _ h1]) (by rw [st_nk _ (by decide), st_nt _ (by decide), st_nk _ (by decide)]) (by rw [st_nk _ (by decide), st_nt _ (by decide), st_nk _ (by decide)]))
              (by
                rw [bg1_0 hc e4]
                refine ⟨b ||| 2 ^ j, o ||| 2 ^ j, ⟨?_, ?_⟩, ⟨Nat.or_lt_two_pow hb10 hp10, Nat.or_lt_two_pow ho10 hp10⟩, or_setB hb, or_setB ho, ?_, fun p hp hbp => ?_⟩
                · rw [st_nk _ (by decide), st_nt _ (by decide), st_eq]
                · rw [st_eq]
                · rw [st_nk _ (by decide), st_nt _ (by decide), st_nk _ (by decide)]; exact h8
                · dsimp only at hbp ⊢
                  rw [st_nt _ (by decide)]
                  by_cases e : p = j
                  · rw [e, st_eq, up_eq]
                  · rw [setB_ne e] at hbp
                    rw [st_nk _ e, st_nt _ (by decide), up_ne _ _ e]; exact h14 p hp hbp) (by omega) (by omega)
            exact ⟨μ', g1, g2, g3, fun t h1 h2 => by rw [g4 t h1 h2, st_tag _ h1, st_tag _ h2, st_tag _ h1]⟩
          · rw [if_neg e4]
            rw [st_nt (st μ 11 0 6 ((b ||| 2 ^ j : Nat) : Int)) (by decide), st_nk μ (by decide), h8, st_nt _ (by decide), st_nt _ (by decide), wx_hd X]
            obtain ⟨μ', g1, g2, g3, g4⟩ := ih' (st (st (st μ 11 0 6 ((b ||| 2 ^ j : Nat) : Int)) 14 0 j (day + T j)) 11 0 8 (S'.2.2.2 - dhd D j))
              (SX_ext ⟨X, s12, s4, s5, s13⟩ (fun t h1 h2 => by rw [st_tag _ h1, st_tag _ h2, st_tag _ h1]) (by rw [st_nk _ (by decide), st_nt _ (by decide), st_nk _ (by decide)]) (by rw [st_nk _ (by decide), st_nt _ (by decide), st_nk _ (by decide)]))
              (by
                rw [bg1_1 hc e4]
                refine ⟨b ||| 2 ^ j, o, ⟨?_, ?_⟩, ⟨Nat.or_lt_two_pow hb10 hp10, ho10⟩, or_setB hb, ho, ?_, fun p hp hbp => ?_⟩
                · rw [st_nk _ (by decide), st_nt _ (by decide), st_eq]
                · rw [st_nk _ (by decide), st_nt _ (by decide), st_nk _ (by decide)]; exact h7
                · rw [st_eq]
                · dsimp only at hbp ⊢
                  rw [st_nt _ (by decide)]
                  by_cases e : p = j
                  · rw [e, st_eq, up_eq]
                  · rw [setB_ne e] at hbp
                    rw [st_nk _ e, st_nt _ (by decide), up_ne _ _ e]; exact h14 p hp hbp) (by omega) (by omega)
            exact ⟨μ', g1, g2, g3, fun t h1 h2 => by rw [g4 t h1 h2, st_tag _ h1, st_tag _ h2, st_tag _ h1]⟩
      · rw [if_neg (fun z => e2 (c2.1 z))]
        exact skip (fun z => e2 z.2.2)
    · rw [if_neg (fun z => e1 (c1.1 z))]
      exact skip (fun z => e1 z.1)
theorem fr1_z {D : Dt} {S : Sm} {day : Int} : ∀ n, (∀ p, p < n → runs S p = true → S.2.2.1 p ≠ day) → fr1 D S day n = 0 := by
  intro n
  induction n with
  | zero => intro _; rfl
  | succ n ih =>
    intro h
    show fr1 D S day n + (if runs S n = true ∧ S.2.2.1 n = day then dhd D n else 0) = 0
    rw [ih (fun p hp => h p (by omega)), if_neg (fun z => h n (by omega) z.1 z.2)]; rfl
theorem endX_L {D : Dt} (O : OKD D) {S : Sm} {μ : Mem} (X : dt μ = D) {m : Nat} (hm : m < 2 ^ 10) (hmr : ∀ i, m.testBit i = runs S i) (hE : ∀ p, p < dnp D → runs S p = true → μ 14 0 p = S.2.2.1 p ∧ 0 ≤ S.2.2.1 p ∧ S.2.2.1 p < 1000000) : ∀ (d n j e : Nat), d + j = dnp D → d < n → e < 2 ^ 10 → (∀ i, e.testBit i = true ↔ i < j ∧ runs S i = true ∧ S.2.2.1 i = nxt S j 1000000) →
    ∃ e' : Nat, e' < 2 ^ 10 ∧ (∀ i, e'.testBit i = true ↔ i < dnp D ∧ runs S i = true ∧ S.2.2.1 i = nxt S (dnp D) 1000000) ∧ f_X2_endNext_L23 (m : Int) n (nxt S j 1000000) (e : Int) (fr1 D S (nxt S j 1000000) j) (j : Int) μ = some (nxt S (dnp D) 1000000, st (st μ 11 0 7 (ior (μ 11 0 7) (e' : Int))) 11 0 8 (μ 11 0 8 + fr1 D S (nxt S (dnp D) 1000000) (dnp D))) := by
  have h10 := ok_np O
  intro d
  induction d with
  | zero =>
    intro n j e hd hn he heb
    obtain ⟨n, rfl⟩ : ∃ q, n = q + 1 := ⟨n - 1, by omega⟩
    have hj : j = dnp D := by omega
    subst hj
    refine ⟨e, he, heb, ?_⟩
    rw [f_X2_endNext_L23.eq_2, wx_np O X, if_pos (Int.le_refl _), st_nk μ (by decide)]
  | succ d ih =>
    intro n j e hd hn he heb
    obtain ⟨n, rfl⟩ : ∃ q, n = q + 1 := ⟨n - 1, by omega⟩
    have hjp : j < dnp D := by omega
    have hp10 := p10 (show j < 10 by omega)
    have hnx := nxt_ex (S := S) (d0 := 1000000) j (fun p hp hr => (hE p (by omega) hr).2.2)
    have hN : 0 ≤ nxt S j 1000000 ∧ nxt S j 1000000 ≤ 1000000 := by
      cases ha : anyr S j with
      | true => obtain ⟨p, h1, h2, h3⟩ := hnx.1 ha; have := hE p (by omega) h2; omega
      | false => have := hnx.2.1 ha; omega
    have wN : w32 (nxt S j 1000000) = nxt S j 1000000 := w32_id (by omega) (by omega)
    have dN : nxt S (j + 1) 1000000 = if runs S j = true ∧ S.2.2.1 j < nxt S j 1000000 then S.2.2.1 j else nxt S j 1000000 := rfl
    have dF : ∀ day, fr1 D S day (j + 1) = fr1 D S day j + (if runs S j = true ∧ S.2.2.1 j = day then dhd D j else 0) := fun _ => rfl
    rw [f_X2_endNext_L23.eq_2, wx_np O X, if_neg (show ¬ w32 (dnp D : Int) ≤ w32 (j : Int) by rw [w32n (by omega), w32n (by omega)]; omega)]
    simp only [jn_u]
    rw [b_bit (by omega) (by omega), hmr j, show ((j : Int) + 1) = ((j + 1 : Nat) : Int) by omega]
    by_cases hr : runs S j = true
    · obtain ⟨q1, q2, q3⟩ := hE j hjp hr
      have wE : w32 (S.2.2.1 j) = S.2.2.1 j := w32_id (by omega) (by omega)
      rw [if_pos hr, if_neg (show ¬ w32 1 = 0 by decide), gd_inb _ (by omega) (by omega) (by omega), gd_inb _ (by omega) (by omega) (by omega), gd_inb _ (by omega) (by omega) (by omega), gd_inb _ (by omega) (by omega) (by omega), ixn (by omega), q1, wN, wE, wx_hd X, shl1 j (by omega)]
      by_cases z1 : nxt S j 1000000 < S.2.2.1 j
      · rw [if_pos z1]
        have e1 : nxt S (j + 1) 1000000 = nxt S j 1000000 := by rw [dN, if_neg (by omega)]
        have e2 := dF (nxt S j 1000000)
        rw [if_neg (by omega)] at e2
        have := ih n (j + 1) e (by omega) (by omega) he (fun i => by
          rw [heb i, e1]
          refine ⟨fun z => ⟨by omega, z.2⟩, fun z => ⟨?_, z.2⟩⟩
          have hij : i ≠ j := by
            intro q
            rw [q] at z
            omega
          omega)
        rw [e1, e2, Int.add_zero] at this
        exact this
      · rw [if_neg z1]
        by_cases z2 : nxt S j 1000000 ≤ S.2.2.1 j
        · rw [if_pos z2]
          have e1 : nxt S (j + 1) 1000000 = nxt S j 1000000 := by rw [dN, if_neg (by omega)]
          have e2 := dF (nxt S j 1000000)
          rw [if_pos ⟨hr, by omega⟩] at e2
          rw [b_or (by omega) (by omega), ← e2, ← e1]
          refine ih n (j + 1) (e ||| 2 ^ j) (by omega) (by omega) (Nat.or_lt_two_pow he hp10) (fun i => ?_)
          rw [bit_or, Bool.or_eq_true, decide_eq_true_eq, heb i, e1]
          constructor
          · rintro (z | z)
            · exact ⟨by omega, z.2⟩
            · rw [← z]; exact ⟨by omega, hr, by omega⟩
          · intro z
            by_cases q : j = i
            · exact Or.inr q
            · exact Or.inl ⟨by omega, z.2⟩
        · rw [if_neg z2]
          have e1 : nxt S (j + 1) 1000000 = S.2.2.1 j := by rw [dN, if_pos ⟨hr, by omega⟩]
          have e2 := dF (S.2.2.1 j)
          rw [if_pos ⟨hr, rfl⟩, fr1_z j (fun p hp hrp => by have := hnx.2.2 p hp hrp; omega)] at e2
          have e0 : ior 0 ((2 ^ j : Nat) : Int) = ((2 ^ j : Nat) : Int) := by
            have := b_or (x := 0) (y := 2 ^ j) (by decide) (by omega)
            rw [Nat.zero_or] at this
            exact this
          rw [e0, ← e2, ← e1, gd_inb _ (by omega) (by omega) (by omega)]
          refine ih n (j + 1) (2 ^ j) (by omega) (by omega) hp10 (fun i => ?_)
          rw [Nat.testBit_two_pow, decide_eq_true_eq, e1]
          constructor
          · intro z; rw [← z]; exact ⟨by omega, hr, rfl⟩
          · intro z
            apply Decidable.byContradiction
            intro q
            have := hnx.2.2 i (by omega) z.2.1
            omega
    · rw [if_neg hr, if_pos w32_0]
      have e1 : nxt S (j + 1) 1000000 = nxt S j 1000000 := by rw [dN, if_neg (fun z => hr z.1)]
      have e2 := dF (nxt S j 1000000)
      rw [if_neg (fun z => hr z.1)] at e2
      have := ih n (j + 1) e (by omega) (by omega) he (fun i => by
        rw [heb i, e1]
        refine ⟨fun z => ⟨by omega, z.2⟩, fun z => ⟨?_, z.2⟩⟩
        have hij : i ≠ j := by
          intro q
          rw [q] at z
          exact hr z.2.1
        omega)
      rw [e1, e2, Int.add_zero] at this
      exact this
theorem endX {D : Dt} (O : OKD D) {k : Nat} {T : Nat → Int} {d : Int} {S : Sm} (I : Inv D T d S) (hTT : sm T (dnp D) < 1000000) {μ : Mem} (hX : SX D k μ) (hR : RX D S μ) : ∃ μ', f_X2_endNext μ = some (nxt S (dnp D) 1000000, μ') ∧ SX D k μ' ∧ RX D (enN D (nxt S (dnp D) 1000000) S) μ' ∧ ∀ t, t ≠ 11 → t ≠ 14 → μ' t = μ t := by
  obtain ⟨b, o, ⟨h6, h7⟩, ⟨hb10, ho10⟩, hb, ho, h8, h14⟩ := hR
  have hm10 : b ^^^ (b &&& o) < 2 ^ 10 := Nat.xor_lt_two_pow hb10 (Nat.and_lt_two_pow _ ho10)
  obtain ⟨e', q1, q2, q3⟩ := endX_L O (S := S) (μ := μ) hX.1 (m := b ^^^ (b &&& o)) hm10 (fun i => by rw [andn_bit, hb i, ho i]; rfl) (fun p hp hr => by
    have h1 := (runs_t.1 hr).1
    have := I.2.2.2.2.2 p hp h1
    exact ⟨h14 p hp h1, this.1, by omega⟩) (dnp D) FU 0 0 (by omega) (by have := ok_np O; unfold FU; omega) (by decide) (fun i => by rw [Nat.zero_testBit]; exact ⟨fun z => absurd z (by decide), fun z => by omega⟩)
  unfold f_X2_endNext
  rw [h6, h7, b_andn (by omega) (by omega), show f_X2_endNext_L23 ((b ^^^ (b &&& o) : Nat) : Int) FU 1000000 0 0 0 μ = _ from q3]
  rw [h7, b_or (by omega) (by omega)]
  refine ⟨_, rfl, ?_, ⟨b, o ||| e', ⟨?_, ?_⟩, ⟨hb10, Nat.or_lt_two_pow ho10 q1⟩, hb, fun i => ?_, ?_, fun p hp hbp => ?_⟩, fun t h1 h2 => by rw [st_tag _ h1, st_tag _ h1]⟩
  · exact SX_ext hX (fun t h1 h2 => by rw [st_tag _ h1, st_tag _ h1]) (by rw [st_nk _ (by decide), st_nk _ (by decide)]) (by rw [st_nk _ (by decide), st_nk _ (by decide)])
  · rw [st_nk _ (by decide), st_nk _ (by decide)]; exact h6
  · rw [st_nk _ (by decide), st_eq]
  · refine bii ?_
    rw [Nat.testBit_or, Bool.or_eq_true, q2 i, ho i]
    exact (enJ_O (D := D) (day := nxt S (dnp D) 1000000) (j := dnp D) (p := i) (S := S)).symm
  · rw [st_eq, h8]; rfl
  · rw [st_nt _ (by decide), st_nt _ (by decide)]; exact h14 p hp hbp
theorem stepX_L {D : Dt} (O : OKD D) {k : Nat} {sl : Int} (hsl : -1 ≤ sl ∧ sl ≤ 9) : ∀ (m n i : Nat) (μ : Mem) (day : Int) (S : Sm), m + i = 10 → m < n → SX D k μ → RX D S μ → Stn D (tkg D (dig D k) (cbt D k) sl) day S →
    ∃ μ', f_X2_stepThrough_L31 sl n day (i : Int) μ = some ((simL D (tkg D (dig D k) (cbt D k) sl) m day S).1, μ') ∧ SX D k μ' ∧ RX D (simL D (tkg D (dig D k) (cbt D k) sl) m day S).2 μ' ∧ ∀ t, t ≠ 11 → t ≠ 14 → μ' t = μ t := by
  have hT0 : ∀ p, p < dnp D → 0 ≤ tkg D (dig D k) (cbt D k) sl p := fun p hp => (tkg_bd O hp).1
  have hTT : sm (tkg D (dig D k) (cbt D k) sl) (dnp D) < 1000000 := by have := (tkg_sum O (k := k) (sl := sl)).2; split at this <;> omega
  intro m
  induction m with
  | zero =>
    intro n i μ day S hi hn hX hR hS
    obtain ⟨n, rfl⟩ : ∃ q, n = q + 1 := ⟨n - 1, by omega⟩
    refine ⟨μ, ?_, hX, hR, fun t _ _ => rfl⟩
    rw [f_X2_stepThrough_L31.eq_2, if_pos (by rw [show i = 10 by omega]; decide)]
    rfl
  | succ m ih =>
    intro n i μ day S hi hn hX hR hS
    obtain ⟨n, rfl⟩ : ∃ q, n = q + 1 := ⟨n - 1, by omega⟩
    have hR' := hR
    obtain ⟨b, o, ⟨h6, h7⟩, ⟨hb10, ho10⟩, hb, ho, h8, h14⟩ := hR'
    rw [f_X2_stepThrough_L31.eq_2, if_neg (by rw [w32n (by omega), show w32 10 = 10 from rfl]; omega), h6, h7, w32n (by omega), w32n (by omega)]
    have hiff : ((b : Int) = (o : Int)) ↔ anyr S (dnp D) = false := by
      constructor
      · intro z
        have z' : b = o := by omega
        refine bfa (fun y => ?_)
        obtain ⟨p, h1, h2⟩ := (anyr_t (dnp D)).1 y
        have h3 := runs_t.1 h2
        rw [← hb p, ← ho p, z'] at h3
        rw [h3.1] at h3; exact absurd h3.2 (by decide)
      · intro z
        have : b = o := by
          apply Nat.eq_of_testBit_eq
          intro p
          rw [hb p, ho p]
          by_cases hp : p < dnp D
          · refine bii ⟨fun h1 => ?_, hS.1.2.1 p⟩
            cases h2 : S.2.1 p with
            | true => rfl
            | false => rw [(anyr_t (dnp D)).2 ⟨p, hp, runs_t.2 ⟨h1, h2⟩⟩] at z; exact absurd z (by decide)
          · have := hS.1.1 p (by omega); rw [this.1, this.2]
        rw [this]
    by_cases ha : anyr S (dnp D) = true
    · rw [if_neg (fun z => by rw [hiff.1 z] at ha; exact absurd ha (by decide)), simL_t ha]
      obtain ⟨μ1, g1, g2, g3, g4⟩ := endX O hS.1 hTT hX hR
      obtain ⟨j1, j2, -⟩ := Stn_go O hT0 hTT hS.1 ha
      obtain ⟨μ2, k1, k2, k3, k4⟩ := beginX_L O hsl j1 (dnp D) FU 0 μ1 g2 g3 (by omega) (by have := ok_np O; unfold FU; omega)
      obtain ⟨μ3, l1, l2, l3, l4⟩ := ih n (i + 1) μ2 _ _ (by omega) (by omega) k2 k3 j2
      refine ⟨μ3, ?_, l2, l3, fun t h1 h2 => by rw [l4 t h1 h2, k4 t h1 h2, g4 t h1 h2]⟩
      rw [g1, bn_s]
      unfold f_X2_beginOn
      rw [show f_X2_beginOn_L2 (nxt S (dnp D) 1000000) sl FU 0 μ1 = _ from k1, bn_s, show ((i : Int) + 1) = ((i + 1 : Nat) : Int) by omega]
      exact l1
    · rw [if_pos (hiff.2 (bfa ha)), simL_f (bfa ha)]
      exact ⟨μ, rfl, hX, hR, fun t _ _ => rfl⟩
theorem stepX {D : Dt} (O : OKD D) {k : Nat} {sl : Int} (hsl : -1 ≤ sl ∧ sl ≤ 9) {μ : Mem} (hX : SX D k μ) : ∃ μ', f_X2_stepThrough sl μ = some (wEnd D k sl, μ') ∧ SX D k μ' ∧ RX D (sim D (tkg D (dig D k) (cbt D k) sl)).2 μ' ∧ ∀ t, t ≠ 11 → t ≠ 14 → μ' t = μ t := by
  have hT0 : ∀ p, p < dnp D → 0 ≤ tkg D (dig D k) (cbt D k) sl p := fun p hp => (tkg_bd O hp).1
  unfold f_X2_stepThrough f_X2_beginOn
  have e15 : st (st μ 11 0 6 0) 11 0 7 0 15 0 5 = dhs D := by rw [st_nt _ (by decide), st_nt _ (by decide)]; exact wx_hs hX.1
  rw [e15]
  obtain ⟨μ1, g1, g2, g3, g4⟩ := beginX_L O hsl (S0_Inv O hT0) (dnp D) FU 0 (st (st (st μ 11 0 6 0) 11 0 7 0) 11 0 8 (dhs D)) (SX_ext hX (fun t h1 h2 => by rw [st_tag _ h1, st_tag _ h1, st_tag _ h1]) (by rw [st_nk _ (by decide), st_nk _ (by decide), st_nk _ (by decide)]) (by rw [st_nk _ (by decide), st_nk _ (by decide), st_nk _ (by decide)]))
    ⟨0, 0, ⟨by rw [st_nk _ (by decide), st_nk _ (by decide), st_eq]; rfl, by rw [st_nk _ (by decide), st_eq]; rfl⟩, ⟨by decide, by decide⟩, fun i => Nat.zero_testBit i, fun i => Nat.zero_testBit i, by rw [st_eq]; rfl, fun p _ h => absurd (show false = true from h) (by decide)⟩ (by omega) (by have := ok_np O; unfold FU; omega)
  obtain ⟨μ2, k1, k2, k3, k4⟩ := stepX_L O hsl 10 FU 0 μ1 0 _ (by omega) (by unfold FU; omega) g2 g3 (Stn_0 O hT0)
  refine ⟨μ2, ?_, k2, k3, fun t h1 h2 => by rw [k4 t h1 h2, g4 t h1 h2, st_tag _ h1, st_tag _ h1, st_tag _ h1]⟩
  rw [show f_X2_beginOn_L2 0 sl FU 0 _ = _ from g1, bn_s]
  exact k1
