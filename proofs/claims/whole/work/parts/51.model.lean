/-! THE MODEL of works: what both classes' memories spell; the relation between them -/
def sm (f : Nat → Int) : Nat → Int
  | 0 => 0
  | n + 1 => sm f n + f n
def pr (f : Nat → Int) : Nat → Int
  | 0 => 1
  | n + 1 => pr f n * f n
def pN (f : Nat → Nat) : Nat → Nat
  | 0 => 1
  | n + 1 => pN f n * f n
abbrev Dt : Type := (Nat → Int) × (Nat → Nat → Int) × (Nat → Nat → Int) × (Nat → Nat → Int) × (Nat → Nat → Int) × (Nat → Int) × (Nat → Int)
def dt (μ : Mem) : Dt := (μ 15 0, μ 17, μ 18, μ 19, μ 20, μ 21 0, μ 22 0)
def dnp (D : Dt) : Nat := (D.1 3).toNat
def dnc (D : Dt) : Nat := (D.1 4).toNat
def dhs (D : Dt) : Int := D.1 5
def dtd (D : Dt) : Int := D.1 6
def drw (D : Dt) (p : Nat) : Nat := (D.2.1 p 3).toNat
def daw (D : Dt) (p : Nat) : Int := D.2.1 p 4
def dhd (D : Dt) (p : Nat) : Int := D.2.1 p 5
def dnd (D : Dt) (p : Nat) : Nat := (D.2.1 p 6).toNat
def dcm (D : Dt) (p : Nat) : Int := D.2.1 p 7
def ddy (D : Dt) (p k : Nat) : Int := D.2.2.1 p k
def dwt (D : Dt) (p k : Nat) : Int := D.2.2.2.1 p k
def dlt (D : Dt) (p c : Nat) : Int := D.2.2.2.2.1 p c
def dct (D : Dt) (c : Nat) : Int := D.2.2.2.2.2.1 c
def dcl (D : Dt) (c : Nat) : Int := D.2.2.2.2.2.2 c
/-- a way by its number: the row of each part, whether each cause comes -/
def wR (D : Dt) (p : Nat) : Nat := pN (drw D) p
def dig (D : Dt) (k p : Nat) : Nat := k / wR D p % drw D p
def cbt (D : Dt) (k c : Nat) : Bool := (k / wR D (dnp D)).testBit c
def cW (D : Dt) : Nat := wR D (dnp D) * 2 ^ dnc D
/-- what a part takes -/
def late1 (D : Dt) (b : Nat → Bool) (p : Nat) : Int := sm (fun c => if b c then dlt D p c else 0) (dnc D)
def tkg (D : Dt) (g : Nat → Nat) (b : Nat → Bool) (sl : Int) (p : Nat) : Int := ddy D p (g p) + late1 D b p + (if (p : Int) = sl then 1 else 0)
def wtg (D : Dt) (g : Nat → Nat) (b : Nat → Bool) : Int := pr (fun p => dwt D p (g p)) (dnp D) * pr (fun c => if b c then dct D c else dcl D c - dct D c) (dnc D)
/-- the stepping of a way: begun, over, the day of the end, free hands -/
abbrev Sm : Type := (Nat → Bool) × (Nat → Bool) × (Nat → Int) × Int
def setB (f : Nat → Bool) (p : Nat) (v : Bool) : Nat → Bool := fun q => if q = p then v else f q
def canB (D : Dt) (p : Nat) (S : Sm) : Prop := S.1 p = false ∧ dhd D p ≤ S.2.2.2 ∧ ∀ q, q < dnp D → (dnd D p).testBit q = true → S.2.1 q = true
noncomputable def bg1 (D : Dt) (T : Nat → Int) (day : Int) (p : Nat) (S : Sm) : Sm := by
  classical exact if canB D p S then (if T p = 0 then (setB S.1 p true, setB S.2.1 p true, up S.2.2.1 p (day + T p), S.2.2.2) else (setB S.1 p true, S.2.1, up S.2.2.1 p (day + T p), S.2.2.2 - dhd D p)) else S
noncomputable def bgN (D : Dt) (T : Nat → Int) (day : Int) : Nat → Sm → Sm
  | 0, S => S
  | n + 1, S => bg1 D T day n (bgN D T day n S)
def runs (S : Sm) (p : Nat) : Bool := S.1 p && !S.2.1 p
/-- the next day on which one that goes on ends -/
def nxt (S : Sm) : Nat → Int → Int
  | 0, d => d
  | n + 1, d => if runs S n = true ∧ S.2.2.1 n < nxt S n d then S.2.2.1 n else nxt S n d
def anyr (S : Sm) : Nat → Bool
  | 0 => false
  | n + 1 => anyr S n || runs S n
def fr1 (D : Dt) (S : Sm) (day : Int) : Nat → Int
  | 0 => 0
  | n + 1 => fr1 D S day n + (if runs S n = true ∧ S.2.2.1 n = day then dhd D n else 0)
/-- all that end on a day do so -/
def enN (D : Dt) (day : Int) (S : Sm) : Sm := (S.1, fun p => S.2.1 p || (decide (p < dnp D) && runs S p && decide (S.2.2.1 p = day)), S.2.2.1, S.2.2.2 + fr1 D S day (dnp D))
noncomputable def simL (D : Dt) (T : Nat → Int) : Nat → Int → Sm → Int × Sm
  | 0, d, S => (d, S)
  | n + 1, d, S => if anyr S (dnp D) = true then simL D T n (nxt S (dnp D) 1000000) (bgN D T (nxt S (dnp D) 1000000) (dnp D) (enN D (nxt S (dnp D) 1000000) S)) else (d, S)
noncomputable def sim (D : Dt) (T : Nat → Int) : Int × Sm := simL D T 10 0 (bgN D T 0 (dnp D) (fun _ => false, fun _ => false, fun _ => 0, dhs D))
noncomputable def wEnd (D : Dt) (k : Nat) (sl : Int) : Int := (sim D (tkg D (dig D k) (cbt D k) sl)).1
noncomputable def wFin (D : Dt) (k : Nat) (sl : Int) (p : Nat) : Int := (sim D (tkg D (dig D k) (cbt D k) sl)).2.2.2.1 p
def wWt (D : Dt) (k : Nat) : Int := wtg D (dig D k) (cbt D k)
/-- is it left, by what came -/
def lftE (D : Dt) (E : Nat → Int) : Prop := ∀ p, p < dnp D → (if 0 ≤ dcm D p then E p = dcm D p else 0 ≤ dtd D → dtd D < E p)
def wLft (D : Dt) (k : Nat) : Prop := lftE D (wFin D k (-1))
noncomputable def lw (D : Dt) (k : Nat) : Int := by
  classical exact if wLft D k then wWt D k else 0
/-- trays -/
def RT (x3 x4 : Nat → Nat → Int) (m31 m32 m33 : Nat → Int) : Prop := ∀ t, t < 4 → (x3 t 1 = -1 ∧ m32 t = -1) ∨ (0 ≤ x3 t 1 ∧ x3 t 1 ≤ 3 ∧ x3 t 1 = m31 t ∧ x3 t 2 = m32 t ∧ 0 ≤ m32 t ∧ m32 t ≤ 40 ∧ ∀ k : Nat, (k : Int) < m32 t → x4 t k = m33 (40 * t + k) ∧ I64 (x4 t k))
/-- one part -/
def RP (D : Dt) (p : Nat) (m34 m35 m36 m37 m38 m39 m40 : Nat → Int) : Prop :=
  (D.2.1 p 3 = m34 p ∧ 1 ≤ m34 p ∧ m34 p ≤ 8) ∧ (D.2.1 p 5 = m35 p ∧ 0 ≤ m35 p ∧ m35 p ≤ 9) ∧ (D.2.1 p 6 = m36 p ∧ 0 ≤ m36 p ∧ m36 p < 2 ^ p) ∧ (D.2.1 p 7 = m37 p ∧ -1 ≤ m37 p ∧ m37 p ≤ 9999) ∧
  D.2.1 p 4 = sm (fun k => m39 (8 * p + k)) (m34 p).toNat ∧ (∀ k : Nat, (k : Int) < m34 p → D.2.2.1 p k = m38 (8 * p + k) ∧ 0 ≤ m38 (8 * p + k) ∧ m38 (8 * p + k) ≤ 99 ∧ D.2.2.2.1 p k = m39 (8 * p + k) ∧ 1 ≤ m39 (8 * p + k) ∧ m39 (8 * p + k) ≤ 1000) ∧
  ∀ c, c < 4 → D.2.2.2.2.1 p c = m40 (4 * p + c) ∧ 0 ≤ m40 (4 * p + c) ∧ m40 (4 * p + c) ≤ 99
/-- works -/
def RW (D : Dt) (np nc hs td : Int) (m34 m35 m36 m37 m38 m39 m40 m41 m42 : Nat → Int) : Prop :=
  (D.1 3 = np ∧ 0 ≤ np ∧ np ≤ 10) ∧ (D.1 4 = nc ∧ 0 ≤ nc ∧ nc ≤ 4) ∧ (D.1 5 = hs ∧ 1 ≤ hs ∧ hs ≤ 30) ∧ (D.1 6 = td ∧ -1 ≤ td ∧ td ≤ 9999) ∧
  (∀ p : Nat, (p : Int) < np → RP D p m34 m35 m36 m37 m38 m39 m40) ∧ ∀ c : Nat, (c : Int) < nc → D.2.2.2.2.2.1 c = m41 c ∧ D.2.2.2.2.2.2 c = m42 c ∧ 1 ≤ m41 c ∧ m41 c < m42 c ∧ m42 c ≤ 12
/-- tellings -/
def stp (n d : Int) : Int := if n = d then 9 else Int.tdiv (10 * n) d
def redN (a b : Int) : Int := Int.tdiv a (egcd a b)
def redD (a b : Int) : Int := Int.tdiv b (egcd a b)
def fsm (m50 m51 : Nat → Int) (s : Int) : Nat → Int × Int × Bool
  | 0 => (0, 1, false)
  | k + 1 => if stp (m50 k) (m51 k) = s ∧ (fsm m50 m51 s k).2.2 = false then
      (redN ((fsm m50 m51 s k).1 * m51 k + m50 k * (fsm m50 m51 s k).2.1) ((fsm m50 m51 s k).2.1 * m51 k), redD ((fsm m50 m51 s k).1 * m51 k + m50 k * (fsm m50 m51 s k).2.1) ((fsm m50 m51 s k).2.1 * m51 k),
        decide (1099511627776 < redN ((fsm m50 m51 s k).1 * m51 k + m50 k * (fsm m50 m51 s k).2.1) ((fsm m50 m51 s k).2.1 * m51 k) ∨ 1099511627776 < redD ((fsm m50 m51 s k).1 * m51 k + m50 k * (fsm m50 m51 s k).2.1) ((fsm m50 m51 s k).2.1 * m51 k)))
    else fsm m50 m51 s k
def RTl (x1 : Nat → Nat → Int) (x23 : Int) (x24 x25 x27 : Nat → Int) (T : Int) (m50 m51 m52 : Nat → Int) : Prop :=
  x23 = T ∧ 0 ≤ T ∧ T ≤ 1000 ∧ (∀ k : Nat, (k : Int) < T → 0 ≤ m50 k ∧ m50 k ≤ m51 k ∧ 1 ≤ m51 k ∧ m51 k ≤ 1000 ∧ (m52 k = 0 ∨ m52 k = 1)) ∧
  ∀ s : Nat, s < 10 → x24 s = sm (fun k => if stp (m50 k) (m51 k) = s then 1 else 0) T.toNat ∧ x25 s = sm (fun k => if stp (m50 k) (m51 k) = s ∧ ¬ m52 k = 0 then 1 else 0) T.toNat ∧
    x1 (s + 3) 0 = (fsm m50 m51 s T.toNat).1 ∧ x1 (s + 3) 1 = (fsm m50 m51 s T.toNat).2.1 ∧ x27 s = (if (fsm m50 m51 s T.toNat).2.2 then 1 else 0)
/-- neither stuck nor great -/
def nStuck (D : Dt) : Prop := ∀ p, p < dnp D → dhd D p ≤ dhs D
def tot (D : Dt) : Int := pr (daw D) (dnp D) * pr (dcl D) (dnc D)
/-- the ways that are kept -/
def Cach (D : Dt) (x7 x9 x10 : Nat → Int) (n : Int) : Prop := (0 ≤ n ∧ n ≤ 20000) ∧ (x7 5 = 0 ∨ x7 5 = 1) ∧ (x7 5 = 0 → nStuck D ∧ tot D ≤ 20000 ∧ x7 6 = cW D ∧ (cW D : Int) ≤ n ∧
  (∀ k, k < cW D → x10 k = wWt D k ∧ (wLft D k → x9 k = wEnd D k (-1)) ∧ (¬ wLft D k → x9 k = -1)) ∧ x7 8 = sm (lw D) (cW D) ∧ (0 ≤ x7 7 ∧ x7 7 ≤ 4950) ∧ ∀ k, k < cW D → wLft D k → wEnd D k (-1) ≤ x7 7)
def Rel (μx μm : Mem) : Prop :=
  μx 0 0 0 = μm 30 0 0 ∧ (μx 1 0 0 = μm 30 0 2 ∧ μx 1 0 1 = μm 30 0 3) ∧ RT (μx 3) (μx 4) (μm 31 0) (μm 32 0) (μm 33 0) ∧
  RW (dt μx) (μm 30 0 7) (μm 30 0 8) (μm 30 0 9) (μm 30 0 10) (μm 34 0) (μm 35 0) (μm 36 0) (μm 37 0) (μm 38 0) (μm 39 0) (μm 40 0) (μm 41 0) (μm 42 0) ∧
  RTl (μx 1) (μx 23 0 4) (μx 24 0) (μx 25 0) (μx 27 0) (μm 30 0 27) (μm 50 0) (μm 51 0) (μm 52 0) ∧ Cach (dt μx) (μx 7 0) (μx 9 0) (μx 10 0) (μx 28 0 0)
/-- both answer alike, and go on alike -/
def Step (fx fm : Option (Int × Mem)) : Prop := ∃ (r : Int) (μx' μm' : Mem), fx = some (r, μx') ∧ fm = some (r, μm') ∧ Rel μx' μm'
