/-! THE STEPPING, as the model has it -/
theorem sm_upd {f g : Nat → Int} {p : Nat} : ∀ n, (∀ q, q ≠ p → q < n → g q = f q) → sm g n = sm f n + (if p < n then g p - f p else 0) := by
  intro n
  induction n with
  | zero => intro _; rw [if_neg (by omega)]; rfl
  | succ n ih =>
    intro h
    have i := ih (fun q h1 h2 => h q h1 (by omega))
    show sm g n + g n = sm f n + f n + _
    by_cases e : n = p
    · subst e
      rw [if_neg (by omega)] at i
      rw [if_pos (by omega), i]; omega
    · rw [i, h n e (by omega)]
      by_cases z : p < n
      · rw [if_pos z, if_pos (by omega)]; omega
      · rw [if_neg z, if_neg (by omega)]; omega
theorem sm_le {f g : Nat → Int} : ∀ n, (∀ q, q < n → f q ≤ g q) → sm f n ≤ sm g n := by
  intro n
  induction n with
  | zero => intro _; exact Int.le_refl _
  | succ n ih =>
    intro h
    have i := ih (fun q hq => h q (by omega))
    have := h n (by omega)
    show sm f n + f n ≤ sm g n + g n
    omega
theorem sm_le1 {f g : Nat → Int} {p n : Nat} {a : Int} (hp : p < n) (h : ∀ q, q < n → f q ≤ g q) (h2 : f p + a ≤ g p) : sm f n + a ≤ sm g n := by
  have h1 := sm_le (f := fun q => if q = p then f p + a else f q) (g := g) n (fun q hq => by
    by_cases e : q = p
    · rw [if_pos e, e]; exact h2
    · rw [if_neg e]; exact h q hq)
  have h3 := sm_upd (f := f) (g := fun q => if q = p then f p + a else f q) (p := p) n (fun q e _ => if_neg e)
  rw [if_pos hp, if_pos rfl] at h3
  omega
theorem setB_eq {f : Nat → Bool} {p : Nat} {v : Bool} : setB f p v p = v := if_pos rfl
theorem setB_ne {f : Nat → Bool} {p q : Nat} {v : Bool} (h : q ≠ p) : setB f p v q = f q := if_neg h
theorem runs_t {S : Sm} {p : Nat} : runs S p = true ↔ S.1 p = true ∧ S.2.1 p = false := by
  unfold runs; cases S.1 p <;> cases S.2.1 p <;> decide
theorem runs_f {S : Sm} {p : Nat} (h : ¬ (S.1 p = true ∧ S.2.1 p = false)) : runs S p = false := by
  unfold runs; revert h; cases S.1 p <;> cases S.2.1 p <;> decide
theorem bfa {b : Bool} (h : ¬ b = true) : b = false := by revert h; cases b <;> decide
theorem bg1_0 {D : Dt} {T : Nat → Int} {day : Int} {p : Nat} {S : Sm} (h : canB D p S) (h0 : T p = 0) : bg1 D T day p S = (setB S.1 p true, setB S.2.1 p true, up S.2.2.1 p (day + T p), S.2.2.2) := by
  unfold bg1; rw [if_pos h, if_pos h0]
theorem bg1_1 {D : Dt} {T : Nat → Int} {day : Int} {p : Nat} {S : Sm} (h : canB D p S) (h0 : ¬ T p = 0) : bg1 D T day p S = (setB S.1 p true, S.2.1, up S.2.2.1 p (day + T p), S.2.2.2 - dhd D p) := by
  unfold bg1; rw [if_pos h, if_neg h0]
theorem bg1_n {D : Dt} {T : Nat → Int} {day : Int} {p : Nat} {S : Sm} (h : ¬ canB D p S) : bg1 D T day p S = S := by
  unfold bg1; rw [if_neg h]
def sO (D : Dt) (T : Nat → Int) (S : Sm) : Int := sm (fun q => if S.2.1 q then T q else 0) (dnp D)
def sR (D : Dt) (S : Sm) : Int := sm (fun q => if runs S q then dhd D q else 0) (dnp D)
def lf (D : Dt) (S : Sm) : Int := sm (fun q => if S.2.1 q then 0 else 1) (dnp D)
def Inv (D : Dt) (T : Nat → Int) (day : Int) (S : Sm) : Prop := (∀ i, dnp D ≤ i → S.1 i = false ∧ S.2.1 i = false) ∧ (∀ i, S.2.1 i = true → S.1 i = true) ∧ (S.2.2.2 = dhs D - sR D S ∧ 0 ≤ S.2.2.2) ∧ (0 ≤ day ∧ day ≤ sO D T S) ∧ (∀ p, p < dnp D → runs S p = true → S.2.2.1 p ≤ sO D T S + T p) ∧ ∀ p, p < dnp D → S.1 p = true → 0 ≤ S.2.2.1 p ∧ S.2.2.1 p ≤ sm T (dnp D)
theorem sO_le {D : Dt} {T : Nat → Int} {S : Sm} (hT : ∀ p, p < dnp D → 0 ≤ T p) : sO D T S ≤ sm T (dnp D) := sm_le _ (fun q hq => by
  have := hT q hq
  show (if S.2.1 q then T q else 0) ≤ T q
  split <;> omega)
theorem sO_lt {D : Dt} {T : Nat → Int} {S : Sm} (hT : ∀ p, p < dnp D → 0 ≤ T p) {p : Nat} (hp : p < dnp D) (h : S.2.1 p = false) : sO D T S + T p ≤ sm T (dnp D) := sm_le1 hp (fun q hq => by
  have := hT q hq
  show (if S.2.1 q then T q else 0) ≤ T q
  split <;> omega) (by show (if S.2.1 p then T p else 0) + T p ≤ T p; rw [h, if_neg (by decide)]; omega)
theorem bg1_Inv {D : Dt} {T : Nat → Int} {day : Int} {S : Sm} (hT : ∀ p, p < dnp D → 0 ≤ T p) (I : Inv D T day S) {p : Nat} (hp : p < dnp D) : Inv D T day (bg1 D T day p S) := by
  by_cases h : canB D p S
  · obtain ⟨a, b, c, d, e, f⟩ := I
    have hO : S.2.1 p = false := bfa (fun z => by have := b p z; rw [h.1] at this; exact absurd this (by decide))
    have hTp := hT p hp
    have hlt := sO_lt hT hp hO
    by_cases h0 : T p = 0
    · rw [bg1_0 h h0]
      have hr : ∀ q, runs (setB S.1 p true, setB S.2.1 p true, up S.2.2.1 p (day + T p), S.2.2.2) q = runs S q := by
        intro q
        by_cases e : q = p
        · subst e
          unfold runs; dsimp only
          rw [setB_eq, setB_eq, h.1]; rfl
        · unfold runs; dsimp only
          rw [setB_ne e, setB_ne e]
      have hsO : sO D T (setB S.1 p true, setB S.2.1 p true, up S.2.2.1 p (day + T p), S.2.2.2) = sO D T S := by
        refine sm_congr _ (fun q _ => ?_)
        show (if setB S.2.1 p true q = true then T q else 0) = (if S.2.1 q = true then T q else 0)
        by_cases e : q = p
        · rw [e, setB_eq, hO, h0]; rfl
        · rw [setB_ne e]
      refine ⟨fun i hi => ?_, fun i hi => ?_, ⟨?_, c.2⟩, ⟨d.1, by rw [hsO]; exact d.2⟩, fun q hq hr' => ?_, fun q hq hb => ?_⟩
      · dsimp only; rw [setB_ne (by omega), setB_ne (by omega)]; exact a i hi
      · dsimp only at hi ⊢
        by_cases e : i = p
        · rw [e, setB_eq]
        · rw [setB_ne e] at hi ⊢; exact b i hi
      · refine c.1.trans (congrArg (fun z => dhs D - z) (sm_congr _ (fun q _ => ?_)))
        show (if runs S q = true then dhd D q else 0) = (if runs (setB S.1 p true, setB S.2.1 p true, up S.2.2.1 p (day + T p), S.2.2.2) q = true then dhd D q else 0)
        rw [hr q]
      · rw [hr q] at hr'
        have hq' : q ≠ p := fun z => by rw [z] at hr'; have := (runs_t.1 hr').1; rw [h.1] at this; exact absurd this (by decide)
        rw [hsO]; dsimp only; rw [up_ne _ _ hq']
        exact e q hq hr'
      · dsimp only at hb ⊢
        by_cases e : q = p
        · rw [e, up_eq]; omega
        · rw [setB_ne e] at hb; rw [up_ne _ _ e]; exact f q hq hb
    · rw [bg1_1 h h0]
      have hr : ∀ q, q ≠ p → runs (setB S.1 p true, S.2.1, up S.2.2.1 p (day + T p), S.2.2.2 - dhd D p) q = runs S q := by
        intro q e
        unfold runs; dsimp only
        rw [setB_ne e]
      have hrp : runs (setB S.1 p true, S.2.1, up S.2.2.1 p (day + T p), S.2.2.2 - dhd D p) p = true := runs_t.2 ⟨setB_eq, hO⟩
      refine ⟨fun i hi => ?_, fun i hi => ?_, ⟨?_, ?_⟩, d, fun q hq hr' => ?_, fun q hq hb => ?_⟩
      · dsimp only; rw [setB_ne (by omega)]; exact a i hi
      · dsimp only at hi ⊢
        by_cases e : i = p
        · rw [e, setB_eq]
        · rw [setB_ne e]; exact b i hi
      · have hu := sm_upd (f := fun q => if runs S q then dhd D q else 0) (g := fun q => if runs (setB S.1 p true, S.2.1, up S.2.2.1 p (day + T p), S.2.2.2 - dhd D p) q then dhd D q else 0) (p := p) (dnp D) (fun q e _ => by
          show (if runs (setB S.1 p true, S.2.1, up S.2.2.1 p (day + T p), S.2.2.2 - dhd D p) q = true then dhd D q else 0) = (if runs S q = true then dhd D q else 0)
          rw [hr q e])
        rw [if_pos hp, if_pos hrp, if_neg (by rw [runs_f (fun z => by rw [h.1] at z; exact absurd z.1 (by decide))]; decide)] at hu
        have hc := c.1
        have e1 : sR D S = sm (fun q => if runs S q then dhd D q else 0) (dnp D) := rfl
        have e2 : sR D (setB S.1 p true, S.2.1, up S.2.2.1 p (day + T p), S.2.2.2 - dhd D p) = sm (fun q => if runs (setB S.1 p true, S.2.1, up S.2.2.1 p (day + T p), S.2.2.2 - dhd D p) q then dhd D q else 0) (dnp D) := rfl
        show S.2.2.2 - dhd D p = dhs D - sR D (setB S.1 p true, S.2.1, up S.2.2.1 p (day + T p), S.2.2.2 - dhd D p)
        omega
      · have := h.2.1; dsimp only; omega
      · dsimp only
        by_cases e' : q = p
        · rw [e', up_eq]
          show day + T p ≤ sO D T S + T p
          omega
        · rw [hr q e'] at hr'; rw [up_ne _ _ e']; exact e q hq hr'
      · dsimp only at hb ⊢
        by_cases e : q = p
        · rw [e, up_eq]; omega
        · rw [setB_ne e] at hb; rw [up_ne _ _ e]; exact f q hq hb
  · rw [bg1_n h]; exact I
theorem bgN_Inv {D : Dt} {T : Nat → Int} {day : Int} {S : Sm} (hT : ∀ p, p < dnp D → 0 ≤ T p) (I : Inv D T day S) : ∀ n, n ≤ dnp D → Inv D T day (bgN D T day n S) := by
  intro n
  induction n with
  | zero => intro _; exact I
  | succ n ih => intro h; exact bg1_Inv hT (ih (by omega)) (by omega)
/-- what could not begin before cannot begin after a later one -/
theorem noB {D : Dt} (O : OKD D) {T : Nat → Int} {day : Int} {S : Sm} {p j : Nat} (hj : j < dnp D) (hpj : p ≤ j) (h : p < j → ¬ canB D p S) : ¬ canB D p (bg1 D T day j S) := by
  intro hb
  by_cases hc : canB D j S
  · have hp : p ≠ j := by
      intro e
      have := hb.1
      by_cases h0 : T j = 0
      · rw [bg1_0 hc h0, e] at this; dsimp only at this; rw [setB_eq] at this; exact absurd this (by decide)
      · rw [bg1_1 hc h0, e] at this; dsimp only at this; rw [setB_eq] at this; exact absurd this (by decide)
    have hnd := ok_nd O (show p < dnp D by omega)
    refine h (by omega) ?_
    by_cases h0 : T j = 0
    · rw [bg1_0 hc h0] at hb
      obtain ⟨b1, b2, b3⟩ := hb
      dsimp only at b1 b2 b3
      rw [setB_ne hp] at b1
      refine ⟨b1, b2, fun q hq hq2 => ?_⟩
      have := b3 q hq hq2
      rw [setB_ne] at this
      · exact this
      · intro e
        rw [e] at hq2
        have := Nat.testBit_lt_two_pow (show dnd D p < 2 ^ j from Nat.lt_of_lt_of_le hnd (Nat.pow_le_pow_right (by decide) (by omega)))
        rw [this] at hq2; exact absurd hq2 (by decide)
    · rw [bg1_1 hc h0] at hb
      obtain ⟨b1, b2, b3⟩ := hb
      dsimp only at b1 b2 b3
      rw [setB_ne hp] at b1
      have := ok_hd O hj
      exact ⟨b1, by omega, b3⟩
  · rw [bg1_n hc] at hb
    by_cases e : p = j
    · rw [e] at hb; exact hc hb
    · exact h (by omega) hb
theorem bgN_no {D : Dt} (O : OKD D) {T : Nat → Int} {day : Int} {S : Sm} : ∀ n, n ≤ dnp D → ∀ p, p < n → ¬ canB D p (bgN D T day n S) := by
  intro n
  induction n with
  | zero => intro _ p hp; omega
  | succ n ih =>
    intro hn p hp
    exact noB O (by omega) (by omega) (fun h => ih (by omega) p h)
theorem anyr_t {S : Sm} : ∀ n, anyr S n = true ↔ ∃ p, p < n ∧ runs S p = true := by
  intro n
  induction n with
  | zero => exact ⟨fun h => absurd (show false = true from h) (by decide), fun ⟨p, h, _⟩ => by omega⟩
  | succ n ih =>
    show (anyr S n || runs S n) = true ↔ _
    rw [Bool.or_eq_true, ih]
    constructor
    · rintro (⟨p, h1, h2⟩ | h)
      · exact ⟨p, by omega, h2⟩
      · exact ⟨n, by omega, h⟩
    · rintro ⟨p, h1, h2⟩
      by_cases e : p = n
      · exact Or.inr (e ▸ h2)
      · exact Or.inl ⟨p, by omega, h2⟩
/-- all are over when none goes on and none can begin -/
theorem all_over {D : Dt} (O : OKD D) (hS : nStuck D) {T : Nat → Int} {day : Int} {S : Sm} (I : Inv D T day S) (hn : ∀ p, p < dnp D → ¬ canB D p S) (ha : anyr S (dnp D) = false) : ∀ p, p < dnp D → S.2.1 p = true := by
  obtain ⟨a, b, c, d, e, f⟩ := I
  have hr : ∀ p, p < dnp D → runs S p = false := fun p hp => bfa (fun z => by rw [(anyr_t (dnp D)).2 ⟨p, hp, z⟩] at ha; exact absurd ha (by decide))
  have hF : S.2.2.2 = dhs D := by
    rw [c.1]; unfold sR
    rw [sm_zero _ (fun q hq => by rw [hr q hq]; rfl)]; omega
  have hB : ∀ n, ∀ p, p < n → p < dnp D → S.1 p = true := by
    intro n
    induction n with
    | zero => intro p h; omega
    | succ n ih =>
      intro p h hp
      by_cases e : p = n
      · cases hb : S.1 p with
        | true => rfl
        | false =>
          exfalso
          refine hn p hp ⟨hb, by rw [hF]; exact hS p hp, fun q hq hq2 => ?_⟩
          have hqp : q < p := by
            apply Decidable.byContradiction
            intro z
            have := Nat.testBit_lt_two_pow (show dnd D p < 2 ^ q from Nat.lt_of_lt_of_le (ok_nd O hp) (Nat.pow_le_pow_right (by decide) (by omega)))
            rw [this] at hq2; exact absurd hq2 (by decide)
          have h1 := ih q (by omega) hq
          cases ho : S.2.1 q with
          | true => rfl
          | false => have := hr q hq; rw [runs_t.2 ⟨h1, ho⟩] at this; exact absurd this (by decide)
      · exact ih p (by omega) hp
  intro p hp
  cases ho : S.2.1 p with
  | true => rfl
  | false => have := hr p hp; rw [runs_t.2 ⟨hB (p + 1) p (by omega) hp, ho⟩] at this; exact absurd this (by decide)
/-- the next day is that of one that goes on -/
theorem nxt_ex {S : Sm} {d0 : Int} : ∀ n, (∀ p, p < n → runs S p = true → S.2.2.1 p < d0) → (anyr S n = true → ∃ p, p < n ∧ runs S p = true ∧ nxt S n d0 = S.2.2.1 p) ∧ (anyr S n = false → nxt S n d0 = d0) ∧ ∀ p, p < n → runs S p = true → nxt S n d0 ≤ S.2.2.1 p := by
  intro n
  induction n with
  | zero => intro _; exact ⟨fun h => absurd (show false = true from h) (by decide), fun _ => rfl, fun p h => by omega⟩
  | succ n ih =>
    intro hb
    obtain ⟨i1, i2, i3⟩ := ih (fun p hp => hb p (by omega))
    have hd : nxt S (n + 1) d0 = if runs S n = true ∧ S.2.2.1 n < nxt S n d0 then S.2.2.1 n else nxt S n d0 := rfl
    have ha : anyr S (n + 1) = (anyr S n || runs S n) := rfl
    rw [hd, ha]
    by_cases hr : runs S n = true
    · by_cases hlt : S.2.2.1 n < nxt S n d0
      · rw [if_pos ⟨hr, hlt⟩]
        refine ⟨fun _ => ⟨n, by omega, hr, rfl⟩, fun h => ?_, fun p hp hrp => ?_⟩
        · rw [hr, Bool.or_true] at h; exact absurd h (by decide)
        · by_cases e : p = n
          · rw [e]; exact Int.le_refl _
          · have := i3 p (by omega) hrp; omega
      · rw [if_neg (fun z => hlt z.2)]
        have han : anyr S n = true := by
          cases hx : anyr S n with
          | true => rfl
          | false => have := i2 hx; have := hb n (by omega) hr; omega
        refine ⟨fun _ => ?_, fun h => ?_, fun p hp hrp => ?_⟩
        · obtain ⟨p, h1, h2, h3⟩ := i1 han
          exact ⟨p, by omega, h2, h3⟩
        · rw [hr, Bool.or_true] at h; exact absurd h (by decide)
        · by_cases e : p = n
          · rw [e]; omega
          · exact i3 p (by omega) hrp
    · rw [if_neg (fun z => hr z.1), bfa hr, Bool.or_false]
      refine ⟨fun h => ?_, i2, fun p hp hrp => ?_⟩
      · obtain ⟨p, h1, h2, h3⟩ := i1 h
        exact ⟨p, by omega, h2, h3⟩
      · by_cases e : p = n
        · rw [e] at hrp; exact absurd hrp hr
        · exact i3 p (by omega) hrp
