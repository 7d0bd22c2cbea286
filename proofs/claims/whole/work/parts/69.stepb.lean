/-! THE STEPPING, as the model has it: ends -/
def enJ (D : Dt) (day : Int) (j : Nat) (S : Sm) : Sm := (S.1, fun p => S.2.1 p || (decide (p < j) && runs S p && decide (S.2.2.1 p = day)), S.2.2.1, S.2.2.2 + fr1 D S day j)
theorem enN_J {D : Dt} {day : Int} {S : Sm} : enN D day S = enJ D day (dnp D) S := rfl
theorem enJ_O {D : Dt} {day : Int} {j p : Nat} {S : Sm} : (enJ D day j S).2.1 p = true ↔ S.2.1 p = true ∨ (p < j ∧ runs S p = true ∧ S.2.2.1 p = day) := by
  show (S.2.1 p || (decide (p < j) && runs S p && decide (S.2.2.1 p = day))) = true ↔ _
  rw [Bool.or_eq_true, Bool.and_eq_true, Bool.and_eq_true, decide_eq_true_eq, decide_eq_true_eq, and_assoc]
theorem enJ_r {D : Dt} {day : Int} {j p : Nat} {S : Sm} : runs (enJ D day j S) p = true ↔ runs S p = true ∧ ¬ (p < j ∧ S.2.2.1 p = day) := by
  have h := enJ_O (D := D) (day := day) (j := j) (p := p) (S := S)
  rw [runs_t, runs_t]
  constructor
  · rintro ⟨h1, h2⟩
    have hn : ¬ (enJ D day j S).2.1 p = true := by rw [h2]; decide
    have h3 : S.2.1 p = false := bfa (fun z => hn (h.2 (Or.inl z)))
    exact ⟨⟨h1, h3⟩, fun z => hn (h.2 (Or.inr ⟨z.1, runs_t.2 ⟨h1, h3⟩, z.2⟩))⟩
  · rintro ⟨⟨h1, h2⟩, h3⟩
    refine ⟨h1, bfa (fun z => ?_)⟩
    rcases h.1 z with z | z
    · rw [h2] at z; exact absurd z (by decide)
    · exact h3 ⟨z.1, z.2.2⟩
theorem fr1_nn {D : Dt} (O : OKD D) {S : Sm} {day : Int} : ∀ n, n ≤ dnp D → 0 ≤ fr1 D S day n ∧ fr1 D S day n ≤ 9 * n := by
  intro n
  induction n with
  | zero => intro _; exact ⟨Int.le_refl _, by show (0 : Int) ≤ 9 * ((0 : Nat) : Int); omega⟩
  | succ n ih =>
    intro hn
    have i := ih (by omega)
    have := ok_hd O (show n < dnp D by omega)
    show 0 ≤ fr1 D S day n + (if runs S n = true ∧ S.2.2.1 n = day then dhd D n else 0) ∧ fr1 D S day n + (if runs S n = true ∧ S.2.2.1 n = day then dhd D n else 0) ≤ _
    split <;> omega
theorem fr1_sum {D : Dt} {S : Sm} {day : Int} : ∀ n, n ≤ dnp D → sm (fun q => if runs (enN D day S) q then dhd D q else 0) n + fr1 D S day n = sm (fun q => if runs S q then dhd D q else 0) n := by
  intro n
  induction n with
  | zero => intro _; rfl
  | succ n ih =>
    intro hn
    have i := ih (by omega)
    show sm (fun q => if runs (enN D day S) q then dhd D q else 0) n + (if runs (enN D day S) n then dhd D n else 0) + (fr1 D S day n + (if runs S n = true ∧ S.2.2.1 n = day then dhd D n else 0)) = sm (fun q => if runs S q then dhd D q else 0) n + (if runs S n then dhd D n else 0)
    have hr : runs (enN D day S) n = true ↔ runs S n = true ∧ ¬ (n < dnp D ∧ S.2.2.1 n = day) := enJ_r
    by_cases h1 : runs S n = true
    · by_cases h2 : S.2.2.1 n = day
      · rw [if_neg (fun z => (hr.1 z).2 ⟨by omega, h2⟩), if_pos ⟨h1, h2⟩, if_pos h1]; omega
      · rw [if_pos (hr.2 ⟨h1, fun z => h2 z.2⟩), if_neg (fun z => h2 z.2), if_pos h1]; omega
    · rw [if_neg (fun z => h1 (hr.1 z).1), if_neg (fun z => h1 z.1), if_neg h1]; omega
theorem enN_Inv {D : Dt} (Ok : OKD D) {T : Nat → Int} {d day : Int} {S : Sm} (hT : ∀ p, p < dnp D → 0 ≤ T p) (I : Inv D T d S) {p0 : Nat} (h0 : p0 < dnp D) (hr0 : runs S p0 = true) (hd0 : S.2.2.1 p0 = day) : Inv D T day (enN D day S) ∧ lf D (enN D day S) + 1 ≤ lf D S := by
  obtain ⟨a, b, c, d, e, f⟩ := I
  have hO : ∀ p, (enN D day S).2.1 p = true ↔ S.2.1 p = true ∨ (p < dnp D ∧ runs S p = true ∧ S.2.2.1 p = day) := fun p => enJ_O
  have hr : ∀ p, runs (enN D day S) p = true ↔ runs S p = true ∧ ¬ (p < dnp D ∧ S.2.2.1 p = day) := fun p => enJ_r
  have hB0 := (runs_t.1 hr0).1
  have hO0 := (runs_t.1 hr0).2
  have hO0' : (enN D day S).2.1 p0 = true := (hO p0).2 (Or.inr ⟨h0, hr0, hd0⟩)
  have hsO : sO D T S + T p0 ≤ sO D T (enN D day S) := sm_le1 h0 (fun q hq => by
      have := hT q hq
      show (if S.2.1 q = true then T q else 0) ≤ (if (enN D day S).2.1 q = true then T q else 0)
      by_cases z : S.2.1 q = true
      · rw [if_pos z, if_pos ((hO q).2 (Or.inl z))]; exact Int.le_refl _
      · rw [if_neg z]; split <;> omega) (by
      show (if S.2.1 p0 = true then T p0 else 0) + T p0 ≤ (if (enN D day S).2.1 p0 = true then T p0 else 0)
      rw [if_pos hO0', if_neg (by rw [hO0]; decide)]; omega)
  have hT0 := hT p0 h0
  have he := e p0 h0 hr0
  have hf := f p0 h0 hB0
  refine ⟨⟨fun i hi => ⟨(a i hi).1, bfa (fun z => ?_)⟩, fun i hi => ?_, ⟨?_, ?_⟩, ⟨by omega, by omega⟩, fun q hq hrq => ?_, f⟩, ?_⟩
  · rcases (hO i).1 z with z | z
    · rw [(a i hi).2] at z; exact absurd z (by decide)
    · omega
  · rcases (hO i).1 hi with z | z
    · exact b i z
    · exact (runs_t.1 z.2.1).1
  · have := fr1_sum (D := D) (S := S) (day := day) (dnp D) (Nat.le_refl _)
    have e1 : sR D S = sm (fun q => if runs S q then dhd D q else 0) (dnp D) := rfl
    have e2 : sR D (enN D day S) = sm (fun q => if runs (enN D day S) q then dhd D q else 0) (dnp D) := rfl
    have := c.1
    show S.2.2.2 + fr1 D S day (dnp D) = dhs D - sR D (enN D day S)
    omega
  · have := (fr1_nn Ok (S := S) (day := day) (dnp D) (Nat.le_refl _)).1
    have := c.2
    show 0 ≤ S.2.2.2 + fr1 D S day (dnp D)
    omega
  · have := e q hq ((hr q).1 hrq).1
    show S.2.2.1 q ≤ _
    omega
  · refine sm_le1 h0 (fun q hq => ?_) ?_
    · show (if (enN D day S).2.1 q = true then 0 else 1) ≤ (if S.2.1 q = true then 0 else 1)
      by_cases z : S.2.1 q = true
      · rw [if_pos z, if_pos ((hO q).2 (Or.inl z))]; decide
      · rw [if_neg z]; split <;> decide
    · show (if (enN D day S).2.1 p0 = true then 0 else 1) + 1 ≤ (if S.2.1 p0 = true then 0 else 1)
      rw [if_pos hO0', if_neg (by rw [hO0]; decide)]; decide
theorem bg1_lf {D : Dt} {T : Nat → Int} {day : Int} {p : Nat} (hp : p < dnp D) {S : Sm} : lf D (bg1 D T day p S) ≤ lf D S := by
  by_cases h : canB D p S
  · by_cases h0 : T p = 0
    · rw [bg1_0 h h0]
      refine sm_le _ (fun q hq => ?_)
      show (if setB S.2.1 p true q = true then (0 : Int) else 1) ≤ (if S.2.1 q = true then 0 else 1)
      by_cases e : q = p
      · rw [e, setB_eq, if_pos rfl]; split <;> decide
      · rw [setB_ne e]; exact Int.le_refl _
    · rw [bg1_1 h h0]; exact Int.le_refl _
  · rw [bg1_n h]; exact Int.le_refl _
theorem bgN_lf {D : Dt} {T : Nat → Int} {day : Int} {S : Sm} : ∀ n, n ≤ dnp D → lf D (bgN D T day n S) ≤ lf D S := by
  intro n
  induction n with
  | zero => intro _; exact Int.le_refl _
  | succ n ih =>
    intro hn
    have h1 := ih (by omega)
    have h2 := bg1_lf (D := D) (T := T) (day := day) (p := n) (by omega) (S := bgN D T day n S)
    show lf D (bg1 D T day n (bgN D T day n S)) ≤ lf D S
    omega
theorem lf_bd {D : Dt} {S : Sm} : 0 ≤ lf D S ∧ lf D S ≤ dnp D := by
  have := sm_bd (f := fun q => if S.2.1 q then (0 : Int) else 1) (B := 1) (dnp D) (fun q _ => by split <;> omega)
  unfold lf; omega
/-- a state after a beginning: it keeps, and none can begin -/
def Stn (D : Dt) (T : Nat → Int) (day : Int) (S : Sm) : Prop := Inv D T day S ∧ ∀ p, p < dnp D → ¬ canB D p S
theorem Stn_nxt {D : Dt} {T : Nat → Int} {day : Int} {S : Sm} (I : Inv D T day S) (hTT : sm T (dnp D) < 1000000) : (anyr S (dnp D) = true → ∃ p, p < dnp D ∧ runs S p = true ∧ nxt S (dnp D) 1000000 = S.2.2.1 p) ∧ ∀ p, p < dnp D → runs S p = true → nxt S (dnp D) 1000000 ≤ S.2.2.1 p := by
  have := nxt_ex (S := S) (d0 := 1000000) (dnp D) (fun p hp hr => by have := I.2.2.2.2.2 p hp (runs_t.1 hr).1; omega)
  exact ⟨this.1, this.2.2⟩
theorem Stn_go {D : Dt} (Ok : OKD D) {T : Nat → Int} {d : Int} {S : Sm} (hT : ∀ p, p < dnp D → 0 ≤ T p) (hTT : sm T (dnp D) < 1000000) (I : Inv D T d S) (ha : anyr S (dnp D) = true) :
    Inv D T (nxt S (dnp D) 1000000) (enN D (nxt S (dnp D) 1000000) S) ∧ Stn D T (nxt S (dnp D) 1000000) (bgN D T (nxt S (dnp D) 1000000) (dnp D) (enN D (nxt S (dnp D) 1000000) S)) ∧ lf D (bgN D T (nxt S (dnp D) 1000000) (dnp D) (enN D (nxt S (dnp D) 1000000) S)) + 1 ≤ lf D S := by
  obtain ⟨p, h1, h2, h3⟩ := (Stn_nxt I hTT).1 ha
  obtain ⟨i1, i2⟩ := enN_Inv Ok hT I h1 h2 h3.symm
  have i3 := bgN_lf (D := D) (T := T) (day := nxt S (dnp D) 1000000) (S := enN D (nxt S (dnp D) 1000000) S) (dnp D) (Nat.le_refl _)
  exact ⟨i1, ⟨bgN_Inv hT i1 (dnp D) (Nat.le_refl _), bgN_no Ok (dnp D) (Nat.le_refl _)⟩, by omega⟩
def S0 (D : Dt) : Sm := (fun _ => false, fun _ => false, fun _ => 0, dhs D)
theorem S0_Inv {D : Dt} (Ok : OKD D) {T : Nat → Int} (hT : ∀ p, p < dnp D → 0 ≤ T p) : Inv D T 0 (S0 D) := by
  have hs := ok_hs Ok
  have e1 : sR D (S0 D) = 0 := sm_zero _ (fun q _ => rfl)
  have e2 : sO D T (S0 D) = 0 := sm_zero _ (fun q _ => rfl)
  refine ⟨fun i _ => ⟨rfl, rfl⟩, fun i h => absurd (show false = true from h) (by decide), ⟨?_, ?_⟩, ⟨by omega, by omega⟩, fun p _ h => absurd (show false = true from h) (by decide), fun p _ h => absurd (show false = true from h) (by decide)⟩
  · rw [e1]; show dhs D = _; omega
  · show 0 ≤ dhs D; omega
theorem Stn_0 {D : Dt} (Ok : OKD D) {T : Nat → Int} (hT : ∀ p, p < dnp D → 0 ≤ T p) : Stn D T 0 (bgN D T 0 (dnp D) (S0 D)) := ⟨bgN_Inv hT (S0_Inv Ok hT) (dnp D) (Nat.le_refl _), bgN_no Ok (dnp D) (Nat.le_refl _)⟩
theorem simL_t {D : Dt} {T : Nat → Int} {n : Nat} {d : Int} {S : Sm} (h : anyr S (dnp D) = true) : simL D T (n + 1) d S = simL D T n (nxt S (dnp D) 1000000) (bgN D T (nxt S (dnp D) 1000000) (dnp D) (enN D (nxt S (dnp D) 1000000) S)) := if_pos h
theorem simL_f {D : Dt} {T : Nat → Int} {n : Nat} {d : Int} {S : Sm} (h : anyr S (dnp D) = false) : simL D T n d S = (d, S) := by
  cases n with
  | zero => rfl
  | succ n => exact if_neg (by rw [h]; decide)
theorem simL_Stn {D : Dt} (Ok : OKD D) {T : Nat → Int} (hT : ∀ p, p < dnp D → 0 ≤ T p) (hTT : sm T (dnp D) < 1000000) : ∀ (n : Nat) (d : Int) (S : Sm), Stn D T d S → Stn D T (simL D T n d S).1 (simL D T n d S).2 ∧ (lf D S ≤ n → anyr (simL D T n d S).2 (dnp D) = false) := by
  intro n
  induction n with
  | zero =>
    intro d S h
    refine ⟨h, fun hl => bfa (fun z => ?_)⟩
    have := Stn_go Ok hT hTT h.1 z
    have := (lf_bd (D := D) (S := bgN D T (nxt S (dnp D) 1000000) (dnp D) (enN D (nxt S (dnp D) 1000000) S))).1
    omega
  | succ n ih =>
    intro d S h
    by_cases ha : anyr S (dnp D) = true
    · rw [simL_t ha]
      obtain ⟨-, g2, g3⟩ := Stn_go Ok hT hTT h.1 ha
      obtain ⟨i1, i2⟩ := ih _ _ g2
      exact ⟨i1, fun hl => i2 (by omega)⟩
    · rw [simL_f (bfa ha)]
      exact ⟨h, fun _ => bfa ha⟩
theorem sim_end {D : Dt} (Ok : OKD D) (hS : nStuck D) {T : Nat → Int} (hT : ∀ p, p < dnp D → 0 ≤ T p) (hTT : sm T (dnp D) < 1000000) : Inv D T (sim D T).1 (sim D T).2 ∧ ∀ p, p < dnp D → (sim D T).2.2.1 p = true := by
  have h := simL_Stn Ok hT hTT 10 0 _ (Stn_0 Ok hT)
  have hl := h.2 (by have := (lf_bd (D := D) (S := bgN D T 0 (dnp D) (S0 D))).2; have := ok_np Ok; omega)
  exact ⟨h.1.1, all_over Ok hS h.1.1 h.1.2 hl⟩
/-- what a way's parts take -/
theorem tkg_bd {D : Dt} (Ok : OKD D) {k : Nat} {sl : Int} {p : Nat} (hp : p < dnp D) : 0 ≤ tkg D (dig D k) (cbt D k) sl p ∧ tkg D (dig D k) (cbt D k) sl p ≤ 495 + (if (p : Int) = sl then 1 else 0) := by
  have h1 := ok_dy Ok hp (dig_lt Ok (k := k) hp)
  have h4 := ok_nc Ok
  have h2 := sm_bd (f := fun c => if cbt D k c then dlt D p c else 0) (B := 99) (dnc D) (fun c hc => by
    have := ok_lt Ok hp (show c < 4 by omega)
    split <;> omega)
  unfold tkg late1
  split <;> omega
theorem tkg_sum {D : Dt} (Ok : OKD D) {k : Nat} {sl : Int} : 0 ≤ sm (tkg D (dig D k) (cbt D k) sl) (dnp D) ∧ sm (tkg D (dig D k) (cbt D k) sl) (dnp D) ≤ 4950 + (if 0 ≤ sl then 1 else 0) := by
  have h10 := ok_np Ok
  have L : ∀ n, n ≤ dnp D → 0 ≤ sm (tkg D (dig D k) (cbt D k) sl) n ∧ sm (tkg D (dig D k) (cbt D k) sl) n ≤ 495 * n + (if 0 ≤ sl ∧ sl < n then 1 else 0) := by
    intro n
    induction n with
    | zero => intro _; exact ⟨Int.le_refl _, by rw [if_neg (by omega)]; exact Int.le_refl _⟩
    | succ n ih =>
      intro hn
      have i := ih (by omega)
      have b := tkg_bd Ok (k := k) (sl := sl) (show n < dnp D by omega)
      show 0 ≤ sm (tkg D (dig D k) (cbt D k) sl) n + tkg D (dig D k) (cbt D k) sl n ∧ sm (tkg D (dig D k) (cbt D k) sl) n + tkg D (dig D k) (cbt D k) sl n ≤ _
      by_cases e : (n : Int) = sl
      · rw [if_pos e] at b
        rw [if_neg (by omega)] at i
        rw [if_pos (by omega)]; omega
      · rw [if_neg e] at b
        by_cases e2 : 0 ≤ sl ∧ sl < n
        · rw [if_pos e2] at i; rw [if_pos (by omega)]; omega
        · rw [if_neg e2] at i; rw [if_neg (by omega)]; omega
  have l := L (dnp D) (Nat.le_refl _)
  refine ⟨l.1, ?_⟩
  by_cases e : 0 ≤ sl
  · rw [if_pos e]; split at l <;> omega
  · rw [if_neg e]; rw [if_neg (by omega)] at l; omega
