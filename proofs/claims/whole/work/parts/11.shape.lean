/-! SHAPE (by program): what cell each label is -/
def ec (Y : Nat → ClassId) (α : Adr) (n : Nat) (t i : Nat) (f : Nat → Int) : va_E := match t with
  | 0 => .inr (8, [vi (f 0), vr α 1 0, vr α 1 1, vr α 1 2, vr α 2 0, vr α 5 0, vr α 7 0, vr α 15 0, vr α 23 0])
  | 1 => .inr (0, [vl (f 0), vl (f 1)])
  | 2 => .inl (Y 5, 4, .inr (.inr (.inr (.inr (fun k => if k < 4 then some (α 3 k) else none)))))
  | 3 => .inr (5, [vr α 4 i, vi (f 1), vi (f 2)])
  | 4 => .inl (Y 1, 40, .inr (.inl (fun j => Int64.ofInt (f j))))
  | 5 => .inr (3, [vr α 6 0])
  | 6 => .inl (Y 1, 199, .inr (.inl (fun j => Int64.ofInt (f j))))
  | 7 => .inr (6, [vr α 11 0, vr α 15 0, vr α 8 0, vr α 9 0, vr α 10 0, vi (f 5), vi (f 6), vi (f 7), vl (f 8), vl (f 9)])
  | 8 => .inl (Y 0, 4951, .inl (fun j => Int32.ofInt (f j)))
  | 9 => .inl (Y 0, n, .inl (fun j => Int32.ofInt (f j)))
  | 10 => .inl (Y 0, n, .inl (fun j => Int32.ofInt (f j)))
  | 11 => .inr (2, [vr α 15 0, vr α 12 0, vr α 13 0, vr α 14 0, vi (f 4), vi (f 5), vi (f 6), vi (f 7), vi (f 8)])
  | 12 => .inl (Y 0, 10, .inl (fun j => Int32.ofInt (f j)))
  | 13 => .inl (Y 0, 10, .inl (fun j => Int32.ofInt (f j)))
  | 14 => .inl (Y 0, 10, .inl (fun j => Int32.ofInt (f j)))
  | 15 => .inr (7, [vr α 16 0, vr α 21 0, vr α 22 0, vi (f 3), vi (f 4), vi (f 5), vi (f 6)])
  | 16 => .inl (Y 4, 10, .inr (.inr (.inr (.inr (fun k => if k < 10 then some (α 17 k) else none)))))
  | 17 => .inr (1, [vr α 18 i, vr α 19 i, vr α 20 i, vi (f 3), vi (f 4), vi (f 5), vi (f 6), vi (f 7)])
  | 18 => .inl (Y 0, 8, .inl (fun j => Int32.ofInt (f j)))
  | 19 => .inl (Y 0, 8, .inl (fun j => Int32.ofInt (f j)))
  | 20 => .inl (Y 0, 4, .inl (fun j => Int32.ofInt (f j)))
  | 21 => .inl (Y 0, 4, .inl (fun j => Int32.ofInt (f j)))
  | 22 => .inl (Y 0, 4, .inl (fun j => Int32.ofInt (f j)))
  | 23 => .inr (4, [vr α 24 0, vr α 25 0, vr α 26 0, vr α 27 0, vi (f 4)])
  | 24 => .inl (Y 0, 10, .inl (fun j => Int32.ofInt (f j)))
  | 25 => .inl (Y 0, 10, .inl (fun j => Int32.ofInt (f j)))
  | 26 => .inl (Y 3, 10, .inr (.inr (.inr (.inr (fun k => if k < 10 then some (α 1 (k + 3)) else none)))))
  | 27 => .inl (Y 2, 10, .inl (fun j => Int32.ofInt (f j)))
  | 30 => .inr (9, [vi (f 0), vi (f 1), vl (f 2), vl (f 3), vr α 31 0, vr α 32 0, vr α 33 0, vi (f 7), vi (f 8), vi (f 9), vi (f 10), vr α 34 0, vr α 35 0, vr α 36 0, vr α 37 0, vr α 38 0, vr α 39 0, vr α 40 0, vr α 41 0, vr α 42 0, vr α 43 0, vr α 44 0, vr α 45 0, vr α 46 0, vr α 47 0, vr α 48 0, vr α 49 0, vi (f 27), vr α 50 0, vr α 51 0, vr α 52 0, vr α 53 0, vr α 54 0, vl (f 33), vl (f 34), vl (f 35), vl (f 36)])
  | 31 => .inl (Y 0, 4, .inl (fun j => Int32.ofInt (f j)))
  | 32 => .inl (Y 0, 4, .inl (fun j => Int32.ofInt (f j)))
  | 33 => .inl (Y 1, 160, .inr (.inl (fun j => Int64.ofInt (f j))))
  | 34 => .inl (Y 0, 10, .inl (fun j => Int32.ofInt (f j)))
  | 35 => .inl (Y 0, 10, .inl (fun j => Int32.ofInt (f j)))
  | 36 => .inl (Y 0, 10, .inl (fun j => Int32.ofInt (f j)))
  | 37 => .inl (Y 0, 10, .inl (fun j => Int32.ofInt (f j)))
  | 38 => .inl (Y 0, 80, .inl (fun j => Int32.ofInt (f j)))
  | 39 => .inl (Y 0, 80, .inl (fun j => Int32.ofInt (f j)))
  | 40 => .inl (Y 0, 40, .inl (fun j => Int32.ofInt (f j)))
  | 41 => .inl (Y 0, 4, .inl (fun j => Int32.ofInt (f j)))
  | 42 => .inl (Y 0, 4, .inl (fun j => Int32.ofInt (f j)))
  | 43 => .inl (Y 1, 300, .inr (.inl (fun j => Int64.ofInt (f j))))
  | 44 => .inl (Y 0, 10, .inl (fun j => Int32.ofInt (f j)))
  | 45 => .inl (Y 0, 10, .inl (fun j => Int32.ofInt (f j)))
  | 46 => .inl (Y 0, 10, .inl (fun j => Int32.ofInt (f j)))
  | 47 => .inl (Y 2, 4, .inl (fun j => Int32.ofInt (f j)))
  | 48 => .inl (Y 1, 6000, .inr (.inl (fun j => Int64.ofInt (f j))))
  | 49 => .inl (Y 1, 6000, .inr (.inl (fun j => Int64.ofInt (f j))))
  | 50 => .inl (Y 0, 1000, .inl (fun j => Int32.ofInt (f j)))
  | 51 => .inl (Y 0, 1000, .inl (fun j => Int32.ofInt (f j)))
  | 52 => .inl (Y 2, 1000, .inl (fun j => Int32.ofInt (f j)))
  | 53 => .inl (Y 2, 10, .inl (fun j => Int32.ofInt (f j)))
  | 54 => .inl (Y 2, 10, .inl (fun j => Int32.ofInt (f j)))
  | _ => .inr (0, [])
theorem ec_0 (Y : Nat → ClassId) (α : Adr) (n i : Nat) (f : Nat → Int) : ec Y α n 0 i f = .inr (8, [vi (f 0), vr α 1 0, vr α 1 1, vr α 1 2, vr α 2 0, vr α 5 0, vr α 7 0, vr α 15 0, vr α 23 0]) := rfl
theorem ec_1 (Y : Nat → ClassId) (α : Adr) (n i : Nat) (f : Nat → Int) : ec Y α n 1 i f = .inr (0, [vl (f 0), vl (f 1)]) := rfl
theorem ec_2 (Y : Nat → ClassId) (α : Adr) (n i : Nat) (f : Nat → Int) : ec Y α n 2 i f = .inl (Y 5, 4, .inr (.inr (.inr (.inr (fun k => if k < 4 then some (α 3 k) else none))))) := rfl
theorem ec_3 (Y : Nat → ClassId) (α : Adr) (n i : Nat) (f : Nat → Int) : ec Y α n 3 i f = .inr (5, [vr α 4 i, vi (f 1), vi (f 2)]) := rfl
theorem ec_4 (Y : Nat → ClassId) (α : Adr) (n i : Nat) (f : Nat → Int) : ec Y α n 4 i f = .inl (Y 1, 40, .inr (.inl (fun j => Int64.ofInt (f j)))) := rfl
theorem ec_5 (Y : Nat → ClassId) (α : Adr) (n i : Nat) (f : Nat → Int) : ec Y α n 5 i f = .inr (3, [vr α 6 0]) := rfl
theorem ec_6 (Y : Nat → ClassId) (α : Adr) (n i : Nat) (f : Nat → Int) : ec Y α n 6 i f = .inl (Y 1, 199, .inr (.inl (fun j => Int64.ofInt (f j)))) := rfl
theorem ec_7 (Y : Nat → ClassId) (α : Adr) (n i : Nat) (f : Nat → Int) : ec Y α n 7 i f = .inr (6, [vr α 11 0, vr α 15 0, vr α 8 0, vr α 9 0, vr α 10 0, vi (f 5), vi (f 6), vi (f 7), vl (f 8), vl (f 9)]) := rfl
theorem ec_8 (Y : Nat → ClassId) (α : Adr) (n i : Nat) (f : Nat → Int) : ec Y α n 8 i f = .inl (Y 0, 4951, .inl (fun j => Int32.ofInt (f j))) := rfl
theorem ec_9 (Y : Nat → ClassId) (α : Adr) (n i : Nat) (f : Nat → Int) : ec Y α n 9 i f = .inl (Y 0, n, .inl (fun j => Int32.ofInt (f j))) := rfl
theorem ec_10 (Y : Nat → ClassId) (α : Adr) (n i : Nat) (f : Nat → Int) : ec Y α n 10 i f = .inl (Y 0, n, .inl (fun j => Int32.ofInt (f j))) := rfl
theorem ec_11 (Y : Nat → ClassId) (α : Adr) (n i : Nat) (f : Nat → Int) : ec Y α n 11 i f = .inr (2, [vr α 15 0, vr α 12 0, vr α 13 0, vr α 14 0, vi (f 4), vi (f 5), vi (f 6), vi (f 7), vi (f 8)]) := rfl
theorem ec_12 (Y : Nat → ClassId) (α : Adr) (n i : Nat) (f : Nat → Int) : ec Y α n 12 i f = .inl (Y 0, 10, .inl (fun j => Int32.ofInt (f j))) := rfl
theorem ec_13 (Y : Nat → ClassId) (α : Adr) (n i : Nat) (f : Nat → Int) : ec Y α n 13 i f = .inl (Y 0, 10, .inl (fun j => Int32.ofInt (f j))) := rfl
theorem ec_14 (Y : Nat → ClassId) (α : Adr) (n i : Nat) (f : Nat → Int) : ec Y α n 14 i f = .inl (Y 0, 10, .inl (fun j => Int32.ofInt (f j))) := rfl
theorem ec_15 (Y : Nat → ClassId) (α : Adr) (n i : Nat) (f : Nat → Int) : ec Y α n 15 i f = .inr (7, [vr α 16 0, vr α 21 0, vr α 22 0, vi (f 3), vi (f 4), vi (f 5), vi (f 6)]) := rfl
theorem ec_16 (Y : Nat → ClassId) (α : Adr) (n i : Nat) (f : Nat → Int) : ec Y α n 16 i f = .inl (Y 4, 10, .inr (.inr (.inr (.inr (fun k => if k < 10 then some (α 17 k) else none))))) := rfl
theorem ec_17 (Y : Nat → ClassId) (α : Adr) (n i : Nat) (f : Nat → Int) : ec Y α n 17 i f = .inr (1, [vr α 18 i, vr α 19 i, vr α 20 i, vi (f 3), vi (f 4), vi (f 5), vi (f 6), vi (f 7)]) := rfl
theorem ec_18 (Y : Nat → ClassId) (α : Adr) (n i : Nat) (f : Nat → Int) : ec Y α n 18 i f = .inl (Y 0, 8, .inl (fun j => Int32.ofInt (f j))) := rfl
theorem ec_19 (Y : Nat → ClassId) (α : Adr) (n i : Nat) (f : Nat → Int) : ec Y α n 19 i f = .inl (Y 0, 8, .inl (fun j => Int32.ofInt (f j))) := rfl
theorem ec_20 (Y : Nat → ClassId) (α : Adr) (n i : Nat) (f : Nat → Int) : ec Y α n 20 i f = .inl (Y 0, 4, .inl (fun j => Int32.ofInt (f j))) := rfl
theorem ec_21 (Y : Nat → ClassId) (α : Adr) (n i : Nat) (f : Nat → Int) : ec Y α n 21 i f = .inl (Y 0, 4, .inl (fun j => Int32.ofInt (f j))) := rfl
theorem ec_22 (Y : Nat → ClassId) (α : Adr) (n i : Nat) (f : Nat → Int) : ec Y α n 22 i f = .inl (Y 0, 4, .inl (fun j => Int32.ofInt (f j))) := rfl
theorem ec_23 (Y : Nat → ClassId) (α : Adr) (n i : Nat) (f : Nat → Int) : ec Y α n 23 i f = .inr (4, [vr α 24 0, vr α 25 0, vr α 26 0, vr α 27 0, vi (f 4)]) := rfl
theorem ec_24 (Y : Nat → ClassId) (α : Adr) (n i : Nat) (f : Nat → Int) : ec Y α n 24 i f = .inl (Y 0, 10, .inl (fun j => Int32.ofInt (f j))) := rfl
theorem ec_25 (Y : Nat → ClassId) (α : Adr) (n i : Nat) (f : Nat → Int) : ec Y α n 25 i f = .inl (Y 0, 10, .inl (fun j => Int32.ofInt (f j))) := rfl
theorem ec_26 (Y : Nat → ClassId) (α : Adr) (n i : Nat) (f : Nat → Int) : ec Y α n 26 i f = .inl (Y 3, 10, .inr (.inr (.inr (.inr (fun k => if k < 10 then some (α 1 (k + 3)) else none))))) := rfl
theorem ec_27 (Y : Nat → ClassId) (α : Adr) (n i : Nat) (f : Nat → Int) : ec Y α n 27 i f = .inl (Y 2, 10, .inl (fun j => Int32.ofInt (f j))) := rfl
theorem ec_30 (Y : Nat → ClassId) (α : Adr) (n i : Nat) (f : Nat → Int) : ec Y α n 30 i f = .inr (9, [vi (f 0), vi (f 1), vl (f 2), vl (f 3), vr α 31 0, vr α 32 0, vr α 33 0, vi (f 7), vi (f 8), vi (f 9), vi (f 10), vr α 34 0, vr α 35 0, vr α 36 0, vr α 37 0, vr α 38 0, vr α 39 0, vr α 40 0, vr α 41 0, vr α 42 0, vr α 43 0, vr α 44 0, vr α 45 0, vr α 46 0, vr α 47 0, vr α 48 0, vr α 49 0, vi (f 27), vr α 50 0, vr α 51 0, vr α 52 0, vr α 53 0, vr α 54 0, vl (f 33), vl (f 34), vl (f 35), vl (f 36)]) := rfl
theorem ec_31 (Y : Nat → ClassId) (α : Adr) (n i : Nat) (f : Nat → Int) : ec Y α n 31 i f = .inl (Y 0, 4, .inl (fun j => Int32.ofInt (f j))) := rfl
theorem ec_32 (Y : Nat → ClassId) (α : Adr) (n i : Nat) (f : Nat → Int) : ec Y α n 32 i f = .inl (Y 0, 4, .inl (fun j => Int32.ofInt (f j))) := rfl
theorem ec_33 (Y : Nat → ClassId) (α : Adr) (n i : Nat) (f : Nat → Int) : ec Y α n 33 i f = .inl (Y 1, 160, .inr (.inl (fun j => Int64.ofInt (f j)))) := rfl
theorem ec_34 (Y : Nat → ClassId) (α : Adr) (n i : Nat) (f : Nat → Int) : ec Y α n 34 i f = .inl (Y 0, 10, .inl (fun j => Int32.ofInt (f j))) := rfl
theorem ec_35 (Y : Nat → ClassId) (α : Adr) (n i : Nat) (f : Nat → Int) : ec Y α n 35 i f = .inl (Y 0, 10, .inl (fun j => Int32.ofInt (f j))) := rfl
theorem ec_36 (Y : Nat → ClassId) (α : Adr) (n i : Nat) (f : Nat → Int) : ec Y α n 36 i f = .inl (Y 0, 10, .inl (fun j => Int32.ofInt (f j))) := rfl
theorem ec_37 (Y : Nat → ClassId) (α : Adr) (n i : Nat) (f : Nat → Int) : ec Y α n 37 i f = .inl (Y 0, 10, .inl (fun j => Int32.ofInt (f j))) := rfl
theorem ec_38 (Y : Nat → ClassId) (α : Adr) (n i : Nat) (f : Nat → Int) : ec Y α n 38 i f = .inl (Y 0, 80, .inl (fun j => Int32.ofInt (f j))) := rfl
theorem ec_39 (Y : Nat → ClassId) (α : Adr) (n i : Nat) (f : Nat → Int) : ec Y α n 39 i f = .inl (Y 0, 80, .inl (fun j => Int32.ofInt (f j))) := rfl
theorem ec_40 (Y : Nat → ClassId) (α : Adr) (n i : Nat) (f : Nat → Int) : ec Y α n 40 i f = .inl (Y 0, 40, .inl (fun j => Int32.ofInt (f j))) := rfl
theorem ec_41 (Y : Nat → ClassId) (α : Adr) (n i : Nat) (f : Nat → Int) : ec Y α n 41 i f = .inl (Y 0, 4, .inl (fun j => Int32.ofInt (f j))) := rfl
theorem ec_42 (Y : Nat → ClassId) (α : Adr) (n i : Nat) (f : Nat → Int) : ec Y α n 42 i f = .inl (Y 0, 4, .inl (fun j => Int32.ofInt (f j))) := rfl
theorem ec_43 (Y : Nat → ClassId) (α : Adr) (n i : Nat) (f : Nat → Int) : ec Y α n 43 i f = .inl (Y 1, 300, .inr (.inl (fun j => Int64.ofInt (f j)))) := rfl
theorem ec_44 (Y : Nat → ClassId) (α : Adr) (n i : Nat) (f : Nat → Int) : ec Y α n 44 i f = .inl (Y 0, 10, .inl (fun j => Int32.ofInt (f j))) := rfl
theorem ec_45 (Y : Nat → ClassId) (α : Adr) (n i : Nat) (f : Nat → Int) : ec Y α n 45 i f = .inl (Y 0, 10, .inl (fun j => Int32.ofInt (f j))) := rfl
theorem ec_46 (Y : Nat → ClassId) (α : Adr) (n i : Nat) (f : Nat → Int) : ec Y α n 46 i f = .inl (Y 0, 10, .inl (fun j => Int32.ofInt (f j))) := rfl
theorem ec_47 (Y : Nat → ClassId) (α : Adr) (n i : Nat) (f : Nat → Int) : ec Y α n 47 i f = .inl (Y 2, 4, .inl (fun j => Int32.ofInt (f j))) := rfl
theorem ec_48 (Y : Nat → ClassId) (α : Adr) (n i : Nat) (f : Nat → Int) : ec Y α n 48 i f = .inl (Y 1, 6000, .inr (.inl (fun j => Int64.ofInt (f j)))) := rfl
theorem ec_49 (Y : Nat → ClassId) (α : Adr) (n i : Nat) (f : Nat → Int) : ec Y α n 49 i f = .inl (Y 1, 6000, .inr (.inl (fun j => Int64.ofInt (f j)))) := rfl
theorem ec_50 (Y : Nat → ClassId) (α : Adr) (n i : Nat) (f : Nat → Int) : ec Y α n 50 i f = .inl (Y 0, 1000, .inl (fun j => Int32.ofInt (f j))) := rfl
theorem ec_51 (Y : Nat → ClassId) (α : Adr) (n i : Nat) (f : Nat → Int) : ec Y α n 51 i f = .inl (Y 0, 1000, .inl (fun j => Int32.ofInt (f j))) := rfl
theorem ec_52 (Y : Nat → ClassId) (α : Adr) (n i : Nat) (f : Nat → Int) : ec Y α n 52 i f = .inl (Y 2, 1000, .inl (fun j => Int32.ofInt (f j))) := rfl
theorem ec_53 (Y : Nat → ClassId) (α : Adr) (n i : Nat) (f : Nat → Int) : ec Y α n 53 i f = .inl (Y 2, 10, .inl (fun j => Int32.ofInt (f j))) := rfl
theorem ec_54 (Y : Nat → ClassId) (α : Adr) (n i : Nat) (f : Nat → Int) : ec Y α n 54 i f = .inl (Y 2, 10, .inl (fun j => Int32.ofInt (f j))) := rfl
def cnt (t : Nat) : Nat := match t with
  | 1 => 13
  | 3 => 4
  | 4 => 4
  | 17 => 10
  | 18 => 10
  | 19 => 10
  | 20 => 10
  | _ => 1
def LBx : List (Nat × Nat) := (List.range 28).flatMap fun t => (List.range (cnt t)).map fun i => (t, i)
def LBm : List (Nat × Nat) := (List.range 25).map fun k => (k + 30, 0)
theorem LBx_nd : LBx.Nodup := by decide +kernel
theorem LBm_nd : LBm.Nodup := by decide +kernel
theorem mem_LBx {t i : Nat} (ht : t < 28) (hi : i < cnt t) : (t, i) ∈ LBx := List.mem_flatMap.mpr ⟨t, List.mem_range.mpr ht, List.mem_map.mpr ⟨i, List.mem_range.mpr hi, rfl⟩⟩
theorem mem_LBm {t : Nat} (h1 : 30 ≤ t) (h2 : t < 55) : (t, 0) ∈ LBm := List.mem_map.mpr ⟨t - 30, List.mem_range.mpr (by omega), by rw [Nat.sub_add_cancel h1]⟩
theorem in_0 : (0, 0) ∈ LBx := mem_LBx (by decide) (by decide)
theorem in_1 {i : Nat} (h : i < 13) : (1, i) ∈ LBx := mem_LBx (by decide) h
theorem in_2 : (2, 0) ∈ LBx := mem_LBx (by decide) (by decide)
theorem in_3 {i : Nat} (h : i < 4) : (3, i) ∈ LBx := mem_LBx (by decide) h
theorem in_4 {i : Nat} (h : i < 4) : (4, i) ∈ LBx := mem_LBx (by decide) h
theorem in_5 : (5, 0) ∈ LBx := mem_LBx (by decide) (by decide)
theorem in_6 : (6, 0) ∈ LBx := mem_LBx (by decide) (by decide)
theorem in_7 : (7, 0) ∈ LBx := mem_LBx (by decide) (by decide)
theorem in_8 : (8, 0) ∈ LBx := mem_LBx (by decide) (by decide)
theorem in_9 : (9, 0) ∈ LBx := mem_LBx (by decide) (by decide)
theorem in_10 : (10, 0) ∈ LBx := mem_LBx (by decide) (by decide)
theorem in_11 : (11, 0) ∈ LBx := mem_LBx (by decide) (by decide)
theorem in_12 : (12, 0) ∈ LBx := mem_LBx (by decide) (by decide)
theorem in_13 : (13, 0) ∈ LBx := mem_LBx (by decide) (by decide)
theorem in_14 : (14, 0) ∈ LBx := mem_LBx (by decide) (by decide)
theorem in_15 : (15, 0) ∈ LBx := mem_LBx (by decide) (by decide)
theorem in_16 : (16, 0) ∈ LBx := mem_LBx (by decide) (by decide)
theorem in_17 {i : Nat} (h : i < 10) : (17, i) ∈ LBx := mem_LBx (by decide) h
theorem in_18 {i : Nat} (h : i < 10) : (18, i) ∈ LBx := mem_LBx (by decide) h
theorem in_19 {i : Nat} (h : i < 10) : (19, i) ∈ LBx := mem_LBx (by decide) h
theorem in_20 {i : Nat} (h : i < 10) : (20, i) ∈ LBx := mem_LBx (by decide) h
theorem in_21 : (21, 0) ∈ LBx := mem_LBx (by decide) (by decide)
theorem in_22 : (22, 0) ∈ LBx := mem_LBx (by decide) (by decide)
theorem in_23 : (23, 0) ∈ LBx := mem_LBx (by decide) (by decide)
theorem in_24 : (24, 0) ∈ LBx := mem_LBx (by decide) (by decide)
theorem in_25 : (25, 0) ∈ LBx := mem_LBx (by decide) (by decide)
theorem in_26 : (26, 0) ∈ LBx := mem_LBx (by decide) (by decide)
theorem in_27 : (27, 0) ∈ LBx := mem_LBx (by decide) (by decide)
theorem in_30 : (30, 0) ∈ LBm := mem_LBm (by decide) (by decide)
theorem in_31 : (31, 0) ∈ LBm := mem_LBm (by decide) (by decide)
theorem in_32 : (32, 0) ∈ LBm := mem_LBm (by decide) (by decide)
theorem in_33 : (33, 0) ∈ LBm := mem_LBm (by decide) (by decide)
theorem in_34 : (34, 0) ∈ LBm := mem_LBm (by decide) (by decide)
theorem in_35 : (35, 0) ∈ LBm := mem_LBm (by decide) (by decide)
theorem in_36 : (36, 0) ∈ LBm := mem_LBm (by decide) (by decide)
theorem in_37 : (37, 0) ∈ LBm := mem_LBm (by decide) (by decide)
theorem in_38 : (38, 0) ∈ LBm := mem_LBm (by decide) (by decide)
theorem in_39 : (39, 0) ∈ LBm := mem_LBm (by decide) (by decide)
theorem in_40 : (40, 0) ∈ LBm := mem_LBm (by decide) (by decide)
theorem in_41 : (41, 0) ∈ LBm := mem_LBm (by decide) (by decide)
theorem in_42 : (42, 0) ∈ LBm := mem_LBm (by decide) (by decide)
theorem in_43 : (43, 0) ∈ LBm := mem_LBm (by decide) (by decide)
theorem in_44 : (44, 0) ∈ LBm := mem_LBm (by decide) (by decide)
theorem in_45 : (45, 0) ∈ LBm := mem_LBm (by decide) (by decide)
theorem in_46 : (46, 0) ∈ LBm := mem_LBm (by decide) (by decide)
theorem in_47 : (47, 0) ∈ LBm := mem_LBm (by decide) (by decide)
theorem in_48 : (48, 0) ∈ LBm := mem_LBm (by decide) (by decide)
theorem in_49 : (49, 0) ∈ LBm := mem_LBm (by decide) (by decide)
theorem in_50 : (50, 0) ∈ LBm := mem_LBm (by decide) (by decide)
theorem in_51 : (51, 0) ∈ LBm := mem_LBm (by decide) (by decide)
theorem in_52 : (52, 0) ∈ LBm := mem_LBm (by decide) (by decide)
theorem in_53 : (53, 0) ∈ LBm := mem_LBm (by decide) (by decide)
theorem in_54 : (54, 0) ∈ LBm := mem_LBm (by decide) (by decide)
