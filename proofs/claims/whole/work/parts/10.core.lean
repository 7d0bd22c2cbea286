/-! CORE: the memory of whole numbers, the worlds that it spells, the judgement GG and the contracts Ctr -/
abbrev Mem : Type := Nat → Nat → Nat → Int
abbrev Adr : Type := Nat → Nat → Nat
def w32 (x : Int) : Int := (Int32.ofInt x).toInt
def w64 (x : Int) : Int := (Int64.ofInt x).toInt
theorem w32_id {x : Int} (h1 : -2147483648 ≤ x) (h2 : x ≤ 2147483647) : w32 x = x := Int32.toInt_ofInt_of_le h1 (by omega)
theorem w64_id {x : Int} (h1 : -9223372036854775808 ≤ x) (h2 : x ≤ 9223372036854775807) : w64 x = x := Int64.toInt_ofInt_of_le h1 (by omega)
theorem of_w32 (x : Int) : Int32.ofInt (w32 x) = Int32.ofInt x := Int32.ofInt_toInt _
theorem of_w64 (x : Int) : Int64.ofInt (w64 x) = Int64.ofInt x := Int64.ofInt_toInt _
theorem w32_le (x : Int) : w32 x ≤ 2147483647 := by have := Int32.toInt_lt (Int32.ofInt x); unfold w32; omega
theorem w32_ge (x : Int) : -2147483648 ≤ w32 x := Int32.le_toInt (Int32.ofInt x)
theorem w64_le (x : Int) : w64 x ≤ 9223372036854775807 := by have := Int64.toInt_lt (Int64.ofInt x); unfold w64; omega
theorem w64_ge (x : Int) : -9223372036854775808 ≤ w64 x := Int64.le_toInt (Int64.ofInt x)
theorem w32_w32 (x : Int) : w32 (w32 x) = w32 x := w32_id (w32_ge x) (w32_le x)
theorem w64_w64 (x : Int) : w64 (w64 x) = w64 x := w64_id (w64_ge x) (w64_le x)
theorem w64_w32 (x : Int) : w64 (w32 x) = w32 x := w64_id (by have := w32_ge x; omega) (by have := w32_le x; omega)
def vi (x : Int) : Value := .int (Int32.ofInt x)
def vl (x : Int) : Value := .long (Int64.ofInt x)
abbrev vr (α : Adr) (t i : Nat) : Value := .ref (α t i)
/-- an index of an array -/
def ix (x : Int) : Nat := (w32 x).toNat
abbrev inb (x : Int) (n : Nat) : Prop := 0 ≤ w32 x ∧ w32 x < n
theorem inb_vp {x : Int} {n : Nat} (h : inb x n) : vp_in (Int32.ofInt x) n := vp_in_iff.mpr h
theorem ix_cl (x : Int) : (Int32.ofInt x).toNatClampNeg = ix x := rfl
theorem inb_ix {x : Int} {n : Nat} (h : inb x n) : ix x < n := by have h1 := h.1; have h2 := h.2; unfold ix; omega
/-- what a step of the pure programs is made of -/
def gd {β : Type} (c : Prop) [Decidable c] (k : Option β) : Option β := if c then k else none
def bn {β : Type} (o : Option (Int × Mem)) (k : Int → Mem → Option β) : Option β := match o with
  | none => none
  | some (r, μ) => k r μ
def jn {β γ : Type} (j : β) (b : β → γ) : γ := b j
def FU : Nat := 1000000
theorem gd_some {β : Type} {c : Prop} [Decidable c] {k : Option β} {x : β} (h : gd c k = some x) : c ∧ k = some x := by
  unfold gd at h
  split at h
  · exact ⟨by assumption, h⟩
  · cases h
theorem bn_some {β : Type} {o : Option (Int × Mem)} {k : Int → Mem → Option β} {x : β} (h : bn o k = some x) : ∃ r μ, o = some (r, μ) ∧ k r μ = some x := by
  cases o with
  | none => cases h
  | some q => exact ⟨q.1, q.2, rfl, h⟩
theorem gd_t {β : Type} {c : Prop} [Decidable c] (k : Option β) (h : c) : gd c k = k := if_pos h
theorem bn_t {β : Type} {o : Option (Int × Mem)} {r : Int} {μ : Mem} (k : Int → Mem → Option β) (h : o = some (r, μ)) : bn o k = k r μ := by rw [h]; rfl
/-- one number of one cell -/
def up (f : Nat → Int) (k : Nat) (v : Int) : Nat → Int := fun j => if j = k then v else f j
def st (μ : Mem) (t i k : Nat) (v : Int) : Mem := fun t' i' => if t' = t ∧ i' = i then up (μ t i) k v else μ t' i'
theorem st_at (μ : Mem) (t i k : Nat) (v : Int) : st μ t i k v t i = up (μ t i) k v := if_pos ⟨rfl, rfl⟩
theorem st_ne (μ : Mem) {t i k : Nat} {v : Int} {t' i' : Nat} (h : ¬ (t' = t ∧ i' = i)) : st μ t i k v t' i' = μ t' i' := if_neg h
theorem st_eq (μ : Mem) (t i k : Nat) (v : Int) : st μ t i k v t i k = v := by rw [st_at]; exact if_pos rfl
theorem st_nt (μ : Mem) {t i k : Nat} {v : Int} {t' i' k' : Nat} (h : t' ≠ t) : st μ t i k v t' i' k' = μ t' i' k' := by rw [st_ne μ (fun q => h q.1)]
theorem st_ni (μ : Mem) {t i k : Nat} {v : Int} {t' i' k' : Nat} (h : i' ≠ i) : st μ t i k v t' i' k' = μ t' i' k' := by rw [st_ne μ (fun q => h q.2)]
theorem st_nk (μ : Mem) {t i k : Nat} {v : Int} {t' i' k' : Nat} (h : k' ≠ k) : st μ t i k v t' i' k' = μ t' i' k' := by
  unfold st
  split
  · next q => obtain ⟨rfl, rfl⟩ := q; exact if_neg h
  · rfl
