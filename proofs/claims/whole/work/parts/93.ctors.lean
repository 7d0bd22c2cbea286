/-! THE CONSTRUCTORS (by program ctors.py) -/
def μX0 : Mem := fun t _ => if t = 1 then (fun k => if k = 1 then 1 else 0) else if t = 3 then (fun k => if k = 1 then -1 else 0) else if t = 7 then (fun k => if k = 5 then 1 else 0) else if t = 11 then (fun k => if k = 5 then 1 else 0) else if t = 15 then (fun k => if k = 5 then 30 else if k = 6 then -1 else 0) else if t = 17 then (fun k => if k = 7 then -1 else 0) else fun _ => 0
def rfs (t i : Nat) : List (Nat × Nat) := match t with
  | 0 => [(1, 0), (1, 1), (1, 2), (2, 0), (5, 0), (7, 0), (15, 0), (23, 0)]
  | 2 => (List.range 4).map fun k => (3, k)
  | 3 => [(4, i)]
  | 5 => [(6, 0)]
  | 7 => [(11, 0), (15, 0), (8, 0), (9, 0), (10, 0)]
  | 11 => [(15, 0), (12, 0), (13, 0), (14, 0)]
  | 15 => [(16, 0), (21, 0), (22, 0)]
  | 16 => (List.range 10).map fun k => (17, k)
  | 17 => [(18, i), (19, i), (20, i)]
  | 23 => [(24, 0), (25, 0), (26, 0), (27, 0)]
  | 26 => (List.range 10).map fun k => (1, k + 3)
  | 30 => (List.range 24).map fun k => (k + 31, 0)
  | _ => []
theorem ec_loc {Y : Nat → ClassId} {α α' : Adr} {n t i : Nat} {f : Nat → Int} (h : ∀ u ∈ rfs t i, α u.1 u.2 = α' u.1 u.2) : ec Y α n t i f = ec Y α' n t i f := by
  have hL : ∀ (u : Nat × Nat) (L : List (Nat × Nat)), rfs t i = L → u ∈ L → α u.1 u.2 = α' u.1 u.2 := fun u L e hu => h u (by rw [e]; exact hu)
  match t, h, hL with
  | 0, h, hL =>
    have e0 : α 1 0 = α' 1 0 := h (1, 0) (by simp [rfs])
    have e1 : α 1 1 = α' 1 1 := h (1, 1) (by simp [rfs])
    have e2 : α 1 2 = α' 1 2 := h (1, 2) (by simp [rfs])
    have e3 : α 2 0 = α' 2 0 := h (2, 0) (by simp [rfs])
    have e4 : α 5 0 = α' 5 0 := h (5, 0) (by simp [rfs])
    have e5 : α 7 0 = α' 7 0 := h (7, 0) (by simp [rfs])
    have e6 : α 15 0 = α' 15 0 := h (15, 0) (by simp [rfs])
    have e7 : α 23 0 = α' 23 0 := h (23, 0) (by simp [rfs])
    rw [ec_0, ec_0]
    simp only [vr, e0, e1, e2, e3, e4, e5, e6, e7]
  | 2, h, hL =>
    rw [ec_2, ec_2]
    congr 7
    funext k
    by_cases hk : k < 4
    · rw [if_pos hk, if_pos hk, hL (3, k) _ rfl (List.mem_map.mpr ⟨k, List.mem_range.mpr hk, rfl⟩)]
    · rw [if_neg hk, if_neg hk]
  | 3, h, hL =>
    have e0 : α 4 i = α' 4 i := h (4, i) (by simp [rfs])
    rw [ec_3, ec_3]
    simp only [vr, e0]
  | 5, h, hL =>
    have e0 : α 6 0 = α' 6 0 := h (6, 0) (by simp [rfs])
    rw [ec_5, ec_5]
    simp only [vr, e0]
  | 7, h, hL =>
    have e0 : α 11 0 = α' 11 0 := h (11, 0) (by simp [rfs])
    have e1 : α 15 0 = α' 15 0 := h (15, 0) (by simp [rfs])
    have e2 : α 8 0 = α' 8 0 := h (8, 0) (by simp [rfs])
    have e3 : α 9 0 = α' 9 0 := h (9, 0) (by simp [rfs])
    have e4 : α 10 0 = α' 10 0 := h (10, 0) (by simp [rfs])
    rw [ec_7, ec_7]
    simp only [vr, e0, e1, e2, e3, e4]
  | 11, h, hL =>
    have e0 : α 15 0 = α' 15 0 := h (15, 0) (by simp [rfs])
    have e1 : α 12 0 = α' 12 0 := h (12, 0) (by simp [rfs])
    have e2 : α 13 0 = α' 13 0 := h (13, 0) (by simp [rfs])
    have e3 : α 14 0 = α' 14 0 := h (14, 0) (by simp [rfs])
    rw [ec_11, ec_11]
    simp only [vr, e0, e1, e2, e3]
  | 15, h, hL =>
    have e0 : α 16 0 = α' 16 0 := h (16, 0) (by simp [rfs])
    have e1 : α 21 0 = α' 21 0 := h (21, 0) (by simp [rfs])
    have e2 : α 22 0 = α' 22 0 := h (22, 0) (by simp [rfs])
    rw [ec_15, ec_15]
    simp only [vr, e0, e1, e2]
  | 16, h, hL =>
    rw [ec_16, ec_16]
    congr 7
    funext k
    by_cases hk : k < 10
    · rw [if_pos hk, if_pos hk, hL (17, k) _ rfl (List.mem_map.mpr ⟨k, List.mem_range.mpr hk, rfl⟩)]
    · rw [if_neg hk, if_neg hk]
  | 17, h, hL =>
    have e0 : α 18 i = α' 18 i := h (18, i) (by simp [rfs])
    have e1 : α 19 i = α' 19 i := h (19, i) (by simp [rfs])
    have e2 : α 20 i = α' 20 i := h (20, i) (by simp [rfs])
    rw [ec_17, ec_17]
    simp only [vr, e0, e1, e2]
  | 23, h, hL =>
    have e0 : α 24 0 = α' 24 0 := h (24, 0) (by simp [rfs])
    have e1 : α 25 0 = α' 25 0 := h (25, 0) (by simp [rfs])
    have e2 : α 26 0 = α' 26 0 := h (26, 0) (by simp [rfs])
    have e3 : α 27 0 = α' 27 0 := h (27, 0) (by simp [rfs])
    rw [ec_23, ec_23]
    simp only [vr, e0, e1, e2, e3]
  | 26, h, hL =>
    rw [ec_26, ec_26]
    congr 7
    funext k
    by_cases hk : k < 10
    · rw [if_pos hk, if_pos hk, hL (1, k + 3) _ rfl (List.mem_map.mpr ⟨k, List.mem_range.mpr hk, rfl⟩)]
    · rw [if_neg hk, if_neg hk]
  | 30, h, hL =>
    have q : ∀ k, k < 24 → α (k + 31) 0 = α' (k + 31) 0 := fun k hk => hL (k + 31, 0) _ rfl (List.mem_map.mpr ⟨k, List.mem_range.mpr hk, rfl⟩)
    rw [ec_30, ec_30]
    simp only [vr, q 0 (by decide), q 1 (by decide), q 2 (by decide), q 3 (by decide), q 4 (by decide), q 5 (by decide), q 6 (by decide), q 7 (by decide), q 8 (by decide), q 9 (by decide), q 10 (by decide), q 11 (by decide), q 12 (by decide), q 13 (by decide), q 14 (by decide), q 15 (by decide), q 16 (by decide), q 17 (by decide), q 18 (by decide), q 19 (by decide), q 20 (by decide), q 21 (by decide), q 22 (by decide), q 23 (by decide)]
  | 1, h, hL => rfl
  | 4, h, hL => rfl
  | 6, h, hL => rfl
  | 8, h, hL => rfl
  | 9, h, hL => rfl
  | 10, h, hL => rfl
  | 12, h, hL => rfl
  | 13, h, hL => rfl
  | 14, h, hL => rfl
  | 18, h, hL => rfl
  | 19, h, hL => rfl
  | 20, h, hL => rfl
  | 21, h, hL => rfl
  | 22, h, hL => rfl
  | 24, h, hL => rfl
  | 25, h, hL => rfl
  | 27, h, hL => rfl
  | 31, h, hL => rfl
  | 32, h, hL => rfl
  | 33, h, hL => rfl
  | 34, h, hL => rfl
  | 35, h, hL => rfl
  | 36, h, hL => rfl
  | 37, h, hL => rfl
  | 38, h, hL => rfl
  | 39, h, hL => rfl
  | 40, h, hL => rfl
  | 41, h, hL => rfl
  | 42, h, hL => rfl
  | 43, h, hL => rfl
  | 44, h, hL => rfl
  | 45, h, hL => rfl
  | 46, h, hL => rfl
  | 47, h, hL => rfl
  | 48, h, hL => rfl
  | 49, h, hL => rfl
  | 50, h, hL => rfl
  | 51, h, hL => rfl
  | 52, h, hL => rfl
  | 53, h, hL => rfl
  | 54, h, hL => rfl
  | 28, h, hL => rfl
  | 29, h, hL => rfl
  | n + 55, h, hL => rfl
theorem wl_loc {Y : Nat → ClassId} {LB : List (Nat × Nat)} {α α' : Adr} {μ : Mem} (hc : ∀ w ∈ LB, ∀ u ∈ rfs w.1 w.2, u ∈ LB) (h : ∀ w ∈ LB, α w.1 w.2 = α' w.1 w.2) : wl Y LB α μ = wl Y LB α' μ := List.map_congr_left fun w hw => by rw [h w hw, ec_loc (fun u hu => h u (hc w hw u hu))]
theorem wl_app {Y : Nat → ClassId} {L1 L2 : List (Nat × Nat)} {α : Adr} {μ : Mem} : wl Y (L1 ++ L2) α μ = wl Y L1 α μ ++ wl Y L2 α μ := List.map_append
theorem wl_cons {Y : Nat → ClassId} {t i : Nat} {L : List (Nat × Nat)} {α : Adr} {μ : Mem} : wl Y ((t, i) :: L) α μ = (α t i, ec Y α (μ 28 0 0).toNat t i (μ t i)) :: wl Y L α μ := rfl
def LBi (T : List Nat) (off i : Nat) : List (Nat × Nat) := (List.range i).flatMap fun k => T.map fun t => (t, k + off)
theorem LBi_succ {T : List Nat} {off i : Nat} : LBi T off (i + 1) = LBi T off i ++ T.map fun t => (t, i + off) := by
  unfold LBi
  rw [List.range_succ, List.flatMap_append]
  simp
def adx (α β : Adr) (T : List Nat) (j : Nat) : Adr := fun t k => if t ∈ T ∧ k = j then β t 0 else α t k
theorem ec_move {Y : Nat → ClassId} {α β : Adr} {n t j : Nat} {f : Nat → Int} (ht : t ∈ [1, 3, 4, 17, 18, 19, 20]) (h : ∀ u ∈ rfs t 0, α u.1 j = β u.1 0) : ec Y β n t 0 f = ec Y α n t j f := by
  simp only [List.mem_cons, List.not_mem_nil, or_false] at ht
  rcases ht with rfl | rfl | rfl | rfl | rfl | rfl | rfl
  · rfl
  · have e1 : α 4 j = β 4 0 := h (4, 0) (by simp [rfs])
    rw [ec_3, ec_3]
    simp only [vr, e1]
  · rfl
  · have e1 : α 18 j = β 18 0 := h (18, 0) (by simp [rfs])
    have e2 : α 19 j = β 19 0 := h (19, 0) (by simp [rfs])
    have e3 : α 20 j = β 20 0 := h (20, 0) (by simp [rfs])
    rw [ec_17, ec_17]
    simp only [vr, e1, e2, e3]
  · rfl
  · rfl
  · rfl
theorem wl_step {Y : Nat → ClassId} {α β : Adr} {T : List Nat} {off i : Nat} (hT : ∀ t ∈ T, ∀ j, ∀ u ∈ rfs t j, u.1 ∈ T ∧ u.2 = j) (hm : ∀ t ∈ T, t ∈ [1, 3, 4, 17, 18, 19, 20]) : wl Y (LBi T off i) α μX0 ++ wl Y (T.map fun t => (t, 0)) β μX0 = wl Y (LBi T off (i + 1)) (adx α β T (i + off)) μX0 := by
  rw [LBi_succ, wl_app]
  congr 1
  · apply wl_loc
    · intro w hw u hu
      obtain ⟨k, hk, hw⟩ := List.mem_flatMap.mp hw
      obtain ⟨t, ht, rfl⟩ := List.mem_map.mp hw
      obtain ⟨h1, h2⟩ := hT t ht _ u hu
      exact List.mem_flatMap.mpr ⟨k, hk, List.mem_map.mpr ⟨u.1, h1, by rw [show k + off = u.2 from h2.symm]⟩⟩
    · intro w hw
      obtain ⟨k, hk, hw⟩ := List.mem_flatMap.mp hw
      obtain ⟨t, ht, rfl⟩ := List.mem_map.mp hw
      have hk := List.mem_range.mp hk
      unfold adx
      rw [if_neg (by rintro ⟨-, h⟩; omega)]
  · unfold wl
    rw [List.map_map, List.map_map]
    apply List.map_congr_left
    intro t ht
    show (β t 0, ec Y β _ t 0 (μX0 t 0)) = (adx α β T (i + off) t (i + off), ec Y (adx α β T (i + off)) _ t (i + off) (μX0 t (i + off)))
    have ha : ∀ u ∈ T, adx α β T (i + off) u (i + off) = β u 0 := fun u hu => by unfold adx; rw [if_pos ⟨hu, rfl⟩]
    rw [ha t ht, ec_move (hm t ht) (α := adx α β T (i + off)) (j := i + off) (fun u hu => ha _ (hT t ht 0 u hu).1)]
    rfl
theorem up_step {α β : Adr} {T : List Nat} {t off i : Nat} (ht : t ∈ T) : va_up (fun k => if k < i then some (α t (k + off)) else none) i (some (β t 0)) = fun k => if k < i + 1 then some (adx α β T (i + off) t (k + off)) else none := by
  funext k
  unfold va_up adx
  by_cases h1 : k = i
  · subst h1
    simp [ht]
  · by_cases h2 : k < i
    · simp [h1, h2, Nat.lt_succ_of_lt h2]
    · have h3 : ¬ k < i + 1 := by omega
      simp [h1, h2, h3]
theorem at_app (a b : Nat × va_E) (x y : va_W) : (a :: b :: (x ++ y))[2 + x.length]? = y[0]? := by
  rw [show 2 + x.length = x.length + 1 + 1 by omega, List.getElem?_cons_succ, List.getElem?_cons_succ, List.getElem?_append_right (Nat.le_refl _), Nat.sub_self]
theorem pm_mid {a b : Nat × va_E} {X Z : va_W} : (a :: ((X ++ [b]) ++ Z)).Perm (a :: b :: (X ++ Z)) := by
  refine List.Perm.cons _ ?_
  rw [List.append_assoc]
  exact List.perm_middle
def LBwork : List (Nat × Nat) := (15, 0) :: (16, 0) :: (([(21, 0)] ++ [(22, 0)]) ++ LBi [17, 18, 19, 20] 0 10)
def LBstep : List (Nat × Nat) := (11, 0) :: (((LBwork ++ [(12, 0)]) ++ [(13, 0)]) ++ [(14, 0)])
def LBways : List (Nat × Nat) := (7, 0) :: (((LBstep ++ [(8, 0)]) ++ [(9, 0)]) ++ [(10, 0)])
def LBtell : List (Nat × Nat) := (23, 0) :: (26, 0) :: ((([(24, 0)] ++ [(25, 0)]) ++ [(27, 0)]) ++ LBi [1] 3 10)
def LBtab : List (Nat × Nat) := [(5, 0), (6, 0)]

set_option maxRecDepth 100000 in
set_option maxHeartbeats 4000000 in
theorem c_X0_init (l : Launch) (D : va_G) (Y : Nat → ClassId) : CtI l D Y yX0_init cX0_init 1 1 12 0 0 0 [vl 0, vl 0] [(1, 0)] 1 μX0 := CtI_of (own := RX0) pn_X0 rfl rfl (Nat.le_of_ble_eq_true rfl) (fun p e s m below meth c h0 sz C => by
  refine k_ald_n C 0 rfl rfl dX0_init_0 ?_
  refine k_obj C m_1_28 dX0_init_1 (Nat.le_of_ble_eq_true rfl) (Nat.le_of_ble_eq_true rfl) ?_
  refine k_ald_n C 0 rfl rfl dX0_init_4 ?_
  refine k_lconst (x := 0) C rfl dX0_init_5 ?_
  refine k_put (fs' := [vl 0, vl 0]) C rfl rfl fl_X0_7 rfl (Nat.le_of_ble_eq_true rfl) rfl dX0_init_6 ?_
  refine k_ald_n C 0 rfl rfl dX0_init_9 ?_
  refine k_lconst (x := 1) C rfl dX0_init_10 ?_
  refine k_put (fs' := [vl 0, vl 1]) C rfl rfl fl_X0_13 rfl (Nat.le_of_ble_eq_true rfl) rfl dX0_init_11 ?_
  exact k_vret C (fun _ _ => h0) rfl (List.Perm.refl _) rfl rfl dX0_init_14)
set_option maxRecDepth 100000 in
set_option maxHeartbeats 4000000 in
theorem c_X1_init (l : Launch) (D : va_G) (Y : Nat → ClassId) : CtI l D Y yX1_init cX1_init 1 1 12 3 20 1 [.null, .null, .null, vi 0, vi 0, vi 0, vi 0, vi 0] [(17, 0), (18, 0), (19, 0), (20, 0)] 17 μX0 := CtI_of (own := RX1) pn_X1 rfl rfl (Nat.le_of_ble_eq_true rfl) (fun p e s m below meth c h0 sz C => by
  refine k_ald_n C 0 rfl rfl dX1_init_0 ?_
  refine k_obj C m_1_79 dX1_init_1 (Nat.le_of_ble_eq_true rfl) (Nat.le_of_ble_eq_true rfl) ?_
  refine k_ald_n C 0 rfl rfl dX1_init_4 ?_
  refine k_bipush C rfl dX1_init_5 ?_
  refine k_newi C 8 rfl (by decide +kernel) (by decide) (Nat.le_of_ble_eq_true rfl) (Nat.le_of_ble_eq_true rfl) dX1_init_7 (fun q1 => ?_)
  refine k_put (fs' := [.ref q1, .null, .null, vi 0, vi 0, vi 0, vi 0, vi 0]) C rfl rfl fl_X1_9 rfl (Nat.le_of_ble_eq_true rfl) rfl dX1_init_9 ?_
  refine k_ald_n C 0 rfl rfl dX1_init_12 ?_
  refine k_bipush C rfl dX1_init_13 ?_
  refine k_newi C 8 rfl (by decide +kernel) (by decide) (Nat.le_of_ble_eq_true rfl) (Nat.le_of_ble_eq_true rfl) dX1_init_15 (fun q2 => ?_)
  refine k_put (fs' := [.ref q1, .ref q2, .null, vi 0, vi 0, vi 0, vi 0, vi 0]) C rfl rfl fl_X1_15 rfl (Nat.le_of_ble_eq_true rfl) rfl dX1_init_17 ?_
  refine k_ald_n C 0 rfl rfl dX1_init_20 ?_
  refine k_iconst C dX1_init_21 ?_
  refine k_newi C 4 rfl (by decide +kernel) (by decide) (Nat.le_of_ble_eq_true rfl) (Nat.le_of_ble_eq_true rfl) dX1_init_22 (fun q3 => ?_)
  refine k_put (fs' := [.ref q1, .ref q2, .ref q3, vi 0, vi 0, vi 0, vi 0, vi 0]) C rfl rfl fl_X1_18 rfl (Nat.le_of_ble_eq_true rfl) rfl dX1_init_24 ?_
  refine k_ald_n C 0 rfl rfl dX1_init_27 ?_
  refine k_iconst C dX1_init_28 ?_
  refine k_put (fs' := [.ref q1, .ref q2, .ref q3, vi 0, vi 0, vi 0, vi 0, vi 0]) C rfl rfl fl_X1_21 rfl (Nat.le_of_ble_eq_true rfl) rfl dX1_init_29 ?_
  refine k_ald_n C 0 rfl rfl dX1_init_32 ?_
  refine k_iconst C dX1_init_33 ?_
  refine k_put (fs' := [.ref q1, .ref q2, .ref q3, vi 0, vi 0, vi 0, vi 0, vi 0]) C rfl rfl fl_X1_25 rfl (Nat.le_of_ble_eq_true rfl) rfl dX1_init_34 ?_
  refine k_ald_n C 0 rfl rfl dX1_init_37 ?_
  refine k_iconst C dX1_init_38 ?_
  refine k_put (fs' := [.ref q1, .ref q2, .ref q3, vi 0, vi 0, vi 0, vi 0, vi 0]) C rfl rfl fl_X1_28 rfl (Nat.le_of_ble_eq_true rfl) rfl dX1_init_39 ?_
  refine k_ald_n C 0 rfl rfl dX1_init_42 ?_
  refine k_iconst C dX1_init_43 ?_
  refine k_put (fs' := [.ref q1, .ref q2, .ref q3, vi 0, vi 0, vi 0, vi 0, vi 0]) C rfl rfl fl_X1_31 rfl (Nat.le_of_ble_eq_true rfl) rfl dX1_init_44 ?_
  refine k_ald_n C 0 rfl rfl dX1_init_47 ?_
  refine k_iconst C dX1_init_48 ?_
  refine k_put (fs' := [.ref q1, .ref q2, .ref q3, vi 0, vi 0, vi 0, vi 0, vi (-1)]) C rfl rfl fl_X1_34 rfl (Nat.le_of_ble_eq_true rfl) rfl dX1_init_49 ?_
  exact k_vret C (fun t _ => if t = 17 then h0 else if t = 18 then q1 else if t = 19 then q2 else q3) rfl (List.Perm.refl _) rfl rfl dX1_init_52)
set_option maxRecDepth 100000 in
set_option maxHeartbeats 4000000 in
theorem c_X3_init (l : Launch) (D : va_G) (Y : Nat → ClassId) : CtI l D Y yX3_init cX3_init 1 1 12 1 199 3 [.null] LBtab 5 μX0 := CtI_of (own := RX3) pn_X3 rfl rfl (Nat.le_of_ble_eq_true rfl) (fun p e s m below meth c h0 sz C => by
  refine k_ald_n C 0 rfl rfl dX3_init_0 ?_
  refine k_obj C m_1_48 dX3_init_1 (Nat.le_of_ble_eq_true rfl) (Nat.le_of_ble_eq_true rfl) ?_
  refine k_ald_n C 0 rfl rfl dX3_init_4 ?_
  refine k_sipush C rfl dX3_init_5 ?_
  refine k_newl C 199 rfl (by decide +kernel) (by decide) (Nat.le_of_ble_eq_true rfl) (Nat.le_of_ble_eq_true rfl) dX3_init_8 (fun q1 => ?_)
  refine k_put (fs' := [.ref q1]) C rfl rfl fl_X3_9 rfl (Nat.le_of_ble_eq_true rfl) rfl dX3_init_10 ?_
  exact k_vret C (fun t _ => if t = 5 then h0 else q1) rfl (List.Perm.refl _) rfl rfl dX3_init_13)
set_option maxRecDepth 100000 in
set_option maxHeartbeats 4000000 in
theorem c_X5_init (l : Launch) (D : va_G) (Y : Nat → ClassId) : CtI l D Y yX5_init cX5_init 1 1 12 1 40 5 [.null, vi 0, vi 0] [(3, 0), (4, 0)] 3 μX0 := CtI_of (own := RX5) pn_X5 rfl rfl (Nat.le_of_ble_eq_true rfl) (fun p e s m below meth c h0 sz C => by
  refine k_ald_n C 0 rfl rfl dX5_init_0 ?_
  refine k_obj C m_2_22 dX5_init_1 (Nat.le_of_ble_eq_true rfl) (Nat.le_of_ble_eq_true rfl) ?_
  refine k_ald_n C 0 rfl rfl dX5_init_4 ?_
  refine k_bipush C rfl dX5_init_5 ?_
  refine k_newl C 40 rfl (by decide +kernel) (by decide) (Nat.le_of_ble_eq_true rfl) (Nat.le_of_ble_eq_true rfl) dX5_init_7 (fun q1 => ?_)
  refine k_put (fs' := [.ref q1, vi 0, vi 0]) C rfl rfl fl_X5_9 rfl (Nat.le_of_ble_eq_true rfl) rfl dX5_init_9 ?_
  refine k_ald_n C 0 rfl rfl dX5_init_12 ?_
  refine k_iconst C dX5_init_13 ?_
  refine k_put (fs' := [.ref q1, vi (-1), vi 0]) C rfl rfl fl_X5_15 rfl (Nat.le_of_ble_eq_true rfl) rfl dX5_init_14 ?_
  refine k_ald_n C 0 rfl rfl dX5_init_17 ?_
  refine k_iconst C dX5_init_18 ?_
  refine k_put (fs' := [.ref q1, vi (-1), vi 0]) C rfl rfl fl_X5_19 rfl (Nat.le_of_ble_eq_true rfl) rfl dX5_init_19 ?_
  exact k_vret C (fun t _ => if t = 3 then h0 else q1) rfl (List.Perm.refl _) rfl rfl dX5_init_22)
set_option maxRecDepth 100000 in
set_option maxHeartbeats 4000000 in
theorem l_X7_init {p : Program} {l : Launch} {e : Env} {s : State} {m : MethodId} {args : Array Value} {below : List Frame} {meth : Method} {c : Code} {D : va_G} {Y : Nat → ClassId} {A : Nat → Prop} {Q : State → Prop} {h0 q1 : Nat} {v1 v2 : Value} {r : va_W} (C : CY p s m args meth c cX7_init 2 RX7 D Y A) (kend : ∀ α : Adr, GC D A p l e { frames := 2, cells := 43, slots := 298, locals := 32 } s m args below meth c 2 Q 43 298 [(1, vi ((10 : Nat) : Int)), (0, .ref h0)] [] ((h0, .inr (7, [.ref q1, v1, v2, vi 0, vi 0, vi 30, vi (-1)])) :: (q1, .inl (Y 4, 10, .inr (.inr (.inr (.inr (fun k => if k < 10 then some (α 17 (k + 0)) else none)))))) :: (r ++ wl Y (LBi [17, 18, 19, 20] 0 10) α μX0)) 75) : ∀ (d i : Nat) (α : Adr), d + i = 10 → GC D A p l e { frames := 2, cells := 43, slots := 298, locals := 32 } s m args below meth c 2 Q (3 + 4 * i) (18 + 28 * i) [(1, vi (i : Int)), (0, .ref h0)] [] ((h0, .inr (7, [.ref q1, v1, v2, vi 0, vi 0, vi 30, vi (-1)])) :: (q1, .inl (Y 4, 10, .inr (.inr (.inr (.inr (fun k => if k < i then some (α 17 (k + 0)) else none)))))) :: (r ++ wl Y (LBi [17, 18, 19, 20] 0 i) α μX0)) 50 := by
  intro d
  induction d with
  | zero =>
    intro i α hi
    obtain rfl : i = 10 := by omega
    refine k_ild_n C 0 rfl rfl dX7_init_50 ?_
    refine k_bipush C rfl dX7_init_51 ?_
    refine k_ic_ge C 75 (by decide) dX7_init_53 (fun h => ?_) (fun h => ?_)
    · exact kend α
    · exact absurd (Int.le_refl _) h
  | succ d ih =>
    intro i α hi
    have hw : w32 (i : Int) = i := w32_id (by omega) (by omega)
    refine k_ild_n C 0 rfl rfl dX7_init_50 ?_
    refine k_bipush C rfl dX7_init_51 ?_
    refine k_ic_ge C 75 (by decide) dX7_init_53 (fun h => ?_) (fun h => ?_)
    · rw [hw, w32_id (x := 10) (by decide) (by decide)] at h
      omega
    · refine k_ald_n C 1 rfl rfl dX7_init_56 ?_
      refine k_get C 0 rfl fl_X7_11 rfl dX7_init_57 ?_
      refine k_ild_n C 0 rfl rfl dX7_init_60 ?_
      refine k_mk (fs := [.null, .null, .null, vi 0, vi 0, vi 0, vi 0, vi 0]) (N := 8) C (ci := 1) (T := TX1) (ty0 := tyX1) rfl uw_1 tyX1_ok m_1_73 m_1_75 m_1_7 (fun j hj => by rcases (show j = 0 ∨ j = 1 ∨ j = 2 ∨ j = 3 ∨ j = 4 ∨ j = 5 ∨ j = 6 ∨ j = 7 by omega) with rfl | rfl | rfl | rfl | rfl | rfl | rfl | rfl <;> rfl) (c_X1_init l D Y) cw_X1_init (Or.inr ⟨RX8, C.2.2.2.1.2.2.2.2.2.2⟩) rfl m_1_77 (Nat.le_of_ble_eq_true rfl) ⟨Nat.le_of_ble_eq_true rfl, Nat.le_of_ble_eq_true rfl⟩ ⟨by show 3 + 4 * i + 1 + 3 ≤ 43; omega, by show 18 + 28 * i + 8 + 20 ≤ 298; omega⟩ dX7_init_61 dX7_init_64 dX7_init_65 (fun q91 β91 hβ91 => ?_)
      subst hβ91
      refine k_astq (ci := 1) (T := TX1) C (2 + (r ++ wl Y (LBi [17, 18, 19, 20] 0 i) α μX0).length) rfl rfl ((at_app _ _ _ _).trans rfl) ⟨by rw [hw]; omega, by rw [hw]; omega⟩ dX7_init_68 ?_
      refine k_iinc (lo' := [(1, vi ((i : Int) + 1)), (0, .ref h0)]) C 0 rfl (by decide) rfl dX7_init_69 ?_
      refine k_goto C 50 (by decide) dX7_init_72 ?_
      have hix : ix (i : Int) = i := by unfold ix; rw [hw]; exact Int.toNat_natCast i
      have k := ih (i + 1) (adx α β91 [17, 18, 19, 20] (i + 0)) (by omega)
      rw [show ((i + 1 : Nat) : Int) = (i : Int) + 1 by omega, ← up_step (by decide), ← wl_step (by intro t ht j u hu; simp only [List.mem_cons, List.not_mem_nil, or_false] at ht; rcases ht with rfl | rfl | rfl | rfl <;> simp only [rfs, List.mem_cons, List.not_mem_nil, or_false] at hu <;> first | (rcases hu with rfl | rfl | rfl <;> exact ⟨by simp, rfl⟩) | (subst hu; exact ⟨by simp, rfl⟩) | exact hu.elim) (by decide), ← List.append_assoc] at k
      rw [hix, show 3 + 4 * i + 1 + 3 = 3 + 4 * (i + 1) by omega, show 18 + 28 * i + 8 + 20 = 18 + 28 * (i + 1) by omega]
      exact k

set_option maxRecDepth 100000 in
set_option maxHeartbeats 4000000 in
theorem c_X7_init (l : Launch) (D : va_G) (Y : Nat → ClassId) : CtI l D Y yX7_init cX7_init 2 2 32 43 298 7 [.null, .null, .null, vi 0, vi 0, vi 0, vi 0] LBwork 15 μX0 := CtI_of (own := RX7) pn_X7 rfl rfl (Nat.le_of_ble_eq_true rfl) (fun p e s m below meth c h0 sz C => by
  refine k_ald_n C 0 rfl rfl dX7_init_0 ?_
  refine k_obj C m_1_72 dX7_init_1 (Nat.le_of_ble_eq_true rfl) (Nat.le_of_ble_eq_true rfl) ?_
  refine k_ald_n C 0 rfl rfl dX7_init_4 ?_
  refine k_bipush C rfl dX7_init_5 ?_
  refine k_newq C 10 4 RX1 rfl C.2.2.2.2.2.1 m_1_73 rfl (by decide +kernel) (by decide) (Nat.le_of_ble_eq_true rfl) (Nat.le_of_ble_eq_true rfl) dX7_init_7 (fun q1 => ?_)
  refine k_put (fs' := [.ref q1, .null, .null, vi 0, vi 0, vi 0, vi 0]) C rfl rfl fl_X7_11 rfl (Nat.le_of_ble_eq_true rfl) rfl dX7_init_10 ?_
  refine k_ald_n C 0 rfl rfl dX7_init_13 ?_
  refine k_iconst C dX7_init_14 ?_
  refine k_newi C 4 rfl (by decide +kernel) (by decide) (Nat.le_of_ble_eq_true rfl) (Nat.le_of_ble_eq_true rfl) dX7_init_15 (fun q2 => ?_)
  refine k_put (fs' := [.ref q1, .ref q2, .null, vi 0, vi 0, vi 0, vi 0]) C rfl rfl fl_X7_17 rfl (Nat.le_of_ble_eq_true rfl) rfl dX7_init_17 ?_
  refine k_ald_n C 0 rfl rfl dX7_init_20 ?_
  refine k_iconst C dX7_init_21 ?_
  refine k_newi C 4 rfl (by decide +kernel) (by decide) (Nat.le_of_ble_eq_true rfl) (Nat.le_of_ble_eq_true rfl) dX7_init_22 (fun q3 => ?_)
  refine k_put (fs' := [.ref q1, .ref q2, .ref q3, vi 0, vi 0, vi 0, vi 0]) C rfl rfl fl_X7_21 rfl (Nat.le_of_ble_eq_true rfl) rfl dX7_init_24 ?_
  refine k_ald_n C 0 rfl rfl dX7_init_27 ?_
  refine k_iconst C dX7_init_28 ?_
  refine k_put (fs' := [.ref q1, .ref q2, .ref q3, vi 0, vi 0, vi 0, vi 0]) C rfl rfl fl_X7_24 rfl (Nat.le_of_ble_eq_true rfl) rfl dX7_init_29 ?_
  refine k_ald_n C 0 rfl rfl dX7_init_32 ?_
  refine k_iconst C dX7_init_33 ?_
  refine k_put (fs' := [.ref q1, .ref q2, .ref q3, vi 0, vi 0, vi 0, vi 0]) C rfl rfl fl_X7_28 rfl (Nat.le_of_ble_eq_true rfl) rfl dX7_init_34 ?_
  refine k_ald_n C 0 rfl rfl dX7_init_37 ?_
  refine k_bipush C rfl dX7_init_38 ?_
  refine k_put (fs' := [.ref q1, .ref q2, .ref q3, vi 0, vi 0, vi 30, vi 0]) C rfl rfl fl_X7_31 rfl (Nat.le_of_ble_eq_true rfl) rfl dX7_init_40 ?_
  refine k_ald_n C 0 rfl rfl dX7_init_43 ?_
  refine k_iconst C dX7_init_44 ?_
  refine k_put (fs' := [.ref q1, .ref q2, .ref q3, vi 0, vi 0, vi 30, vi (-1)]) C rfl rfl fl_X7_34 rfl (Nat.le_of_ble_eq_true rfl) rfl dX7_init_45 ?_
  refine k_iconst C dX7_init_48 ?_
  refine k_ist_n (lo' := [(1, vi 0), (0, .ref h0)]) C rfl (by decide) rfl dX7_init_49 ?_
  refine k_cast (w' := (h0, .inr (7, [.ref q1, .ref q2, .ref q3, vi 0, vi 0, vi 30, vi (-1)])) :: (q1, .inl (Y 4, 10, .inr (.inr (.inr (.inr (fun k => if k < 0 then some ((fun _ _ => 0 : Adr) 17 (k + 0)) else none)))))) :: (([(q2, .inl (Y 0, 4, .inl (fun _ => Int32.ofInt 0)))] ++ [(q3, .inl (Y 0, 4, .inl (fun _ => Int32.ofInt 0)))]) ++ wl Y (LBi [17, 18, 19, 20] 0 0) (fun _ _ => 0) μX0)) rfl ?_
  refine l_X7_init C (fun α => ?_) 10 0 _ rfl
  refine k_vret C (fun t i => if t = 15 then h0 else if t = 16 then q1 else if t = 21 then q2 else if t = 22 then q3 else α t i) rfl (List.Perm.of_eq ?_) rfl rfl dX7_init_75
  unfold LBwork
  rw [wl_cons, wl_cons, wl_app, wl_loc (LB := LBi [17, 18, 19, 20] 0 10) (α := fun t i => if t = 15 then h0 else if t = 16 then q1 else if t = 21 then q2 else if t = 22 then q3 else α t i) (α' := α) (by decide +kernel) ?_]
  · rfl
  · intro w hw
    have h : ∀ w ∈ LBi [17, 18, 19, 20] 0 10, 17 ≤ w.1 ∧ w.1 ≤ 20 := by decide +kernel
    obtain ⟨h1, h2⟩ := h w hw
    rw [if_neg (by omega), if_neg (by omega), if_neg (by omega), if_neg (by omega)])
set_option maxRecDepth 100000 in
set_option maxHeartbeats 4000000 in
theorem c_X2_init (l : Launch) (D : va_G) (Y : Nat → ClassId) : CtI l D Y yX2_init cX2_init 1 3 53 47 335 2 [.null, .null, .null, .null, vi 0, vi 0, vi 0, vi 0, vi 0] LBstep 11 μX0 := CtI_of (own := RX2) pn_X2 rfl rfl (Nat.le_of_ble_eq_true rfl) (fun p e s m below meth c h0 sz C => by
  refine k_ald_n C 0 rfl rfl dX2_init_0 ?_
  refine k_obj C m_1_66 dX2_init_1 (Nat.le_of_ble_eq_true rfl) (Nat.le_of_ble_eq_true rfl) ?_
  refine k_ald_n C 0 rfl rfl dX2_init_4 ?_
  refine k_mk (fs := [.null, .null, .null, vi 0, vi 0, vi 0, vi 0]) (N := 7) C (ci := 7) (T := TX7) (ty0 := tyX7) rfl uw_7 tyX7_ok m_1_67 m_1_68 m_1_6 (fun j hj => by rcases (show j = 0 ∨ j = 1 ∨ j = 2 ∨ j = 3 ∨ j = 4 ∨ j = 5 ∨ j = 6 by omega) with rfl | rfl | rfl | rfl | rfl | rfl | rfl <;> rfl) (c_X7_init l D Y) cw_X7_init (Or.inl m_1_69) rfl m_1_70 (Nat.le_of_ble_eq_true rfl) ⟨Nat.le_of_ble_eq_true rfl, Nat.le_of_ble_eq_true rfl⟩ ⟨Nat.le_of_ble_eq_true rfl, Nat.le_of_ble_eq_true rfl⟩ dX2_init_5 dX2_init_8 dX2_init_9 (fun q1 β1 hβ1 => ?_)
  subst hβ1
  refine k_put (fs' := [.ref (β1 15 0), .null, .null, .null, vi 0, vi 0, vi 0, vi 0, vi 0]) C rfl rfl fl_X2_12 rfl (Nat.le_of_ble_eq_true rfl) rfl dX2_init_12 ?_
  refine k_ald_n C 0 rfl rfl dX2_init_15 ?_
  refine k_bipush C rfl dX2_init_16 ?_
  refine k_newi C 10 rfl (by decide +kernel) (by decide) (Nat.le_of_ble_eq_true rfl) (Nat.le_of_ble_eq_true rfl) dX2_init_18 (fun q2 => ?_)
  refine k_put (fs' := [.ref (β1 15 0), .ref q2, .null, .null, vi 0, vi 0, vi 0, vi 0, vi 0]) C rfl rfl fl_X2_18 rfl (Nat.le_of_ble_eq_true rfl) rfl dX2_init_20 ?_
  refine k_ald_n C 0 rfl rfl dX2_init_23 ?_
  refine k_bipush C rfl dX2_init_24 ?_
  refine k_newi C 10 rfl (by decide +kernel) (by decide) (Nat.le_of_ble_eq_true rfl) (Nat.le_of_ble_eq_true rfl) dX2_init_26 (fun q3 => ?_)
  refine k_put (fs' := [.ref (β1 15 0), .ref q2, .ref q3, .null, vi 0, vi 0, vi 0, vi 0, vi 0]) C rfl rfl fl_X2_22 rfl (Nat.le_of_ble_eq_true rfl) rfl dX2_init_28 ?_
  refine k_ald_n C 0 rfl rfl dX2_init_31 ?_
  refine k_bipush C rfl dX2_init_32 ?_
  refine k_newi C 10 rfl (by decide +kernel) (by decide) (Nat.le_of_ble_eq_true rfl) (Nat.le_of_ble_eq_true rfl) dX2_init_34 (fun q4 => ?_)
  refine k_put (fs' := [.ref (β1 15 0), .ref q2, .ref q3, .ref q4, vi 0, vi 0, vi 0, vi 0, vi 0]) C rfl rfl fl_X2_25 rfl (Nat.le_of_ble_eq_true rfl) rfl dX2_init_36 ?_
  refine k_ald_n C 0 rfl rfl dX2_init_39 ?_
  refine k_iconst C dX2_init_40 ?_
  refine k_put (fs' := [.ref (β1 15 0), .ref q2, .ref q3, .ref q4, vi 0, vi 0, vi 0, vi 0, vi 0]) C rfl rfl fl_X2_28 rfl (Nat.le_of_ble_eq_true rfl) rfl dX2_init_41 ?_
  refine k_ald_n C 0 rfl rfl dX2_init_44 ?_
  refine k_iconst C dX2_init_45 ?_
  refine k_put (fs' := [.ref (β1 15 0), .ref q2, .ref q3, .ref q4, vi 0, vi 1, vi 0, vi 0, vi 0]) C rfl rfl fl_X2_32 rfl (Nat.le_of_ble_eq_true rfl) rfl dX2_init_46 ?_
  refine k_ald_n C 0 rfl rfl dX2_init_49 ?_
  refine k_iconst C dX2_init_50 ?_
  refine k_put (fs' := [.ref (β1 15 0), .ref q2, .ref q3, .ref q4, vi 0, vi 1, vi 0, vi 0, vi 0]) C rfl rfl fl_X2_35 rfl (Nat.le_of_ble_eq_true rfl) rfl dX2_init_51 ?_
  refine k_ald_n C 0 rfl rfl dX2_init_54 ?_
  refine k_iconst C dX2_init_55 ?_
  refine k_put (fs' := [.ref (β1 15 0), .ref q2, .ref q3, .ref q4, vi 0, vi 1, vi 0, vi 0, vi 0]) C rfl rfl fl_X2_38 rfl (Nat.le_of_ble_eq_true rfl) rfl dX2_init_56 ?_
  refine k_ald_n C 0 rfl rfl dX2_init_59 ?_
  refine k_iconst C dX2_init_60 ?_
  refine k_put (fs' := [.ref (β1 15 0), .ref q2, .ref q3, .ref q4, vi 0, vi 1, vi 0, vi 0, vi 0]) C rfl rfl fl_X2_41 rfl (Nat.le_of_ble_eq_true rfl) rfl dX2_init_61 ?_
  refine k_vret C (fun t i => if t = 11 then h0 else if t = 12 then q2 else if t = 13 then q3 else if t = 14 then q4 else β1 t i) rfl (List.Perm.of_eq ?_) rfl rfl dX2_init_64
  unfold LBstep
  rw [wl_cons, wl_app, wl_app, wl_app, wl_loc (LB := LBwork) (α := fun t i => if t = 11 then h0 else if t = 12 then q2 else if t = 13 then q3 else if t = 14 then q4 else β1 t i) (α' := β1) (by decide +kernel) ?_]
  · rfl
  · intro w hw
    have h : ∀ w ∈ LBwork, 15 ≤ w.1 ∧ w.1 ≤ 22 := by decide +kernel
    obtain ⟨h1, h2⟩ := h w hw
    rw [if_neg (by omega), if_neg (by omega), if_neg (by omega), if_neg (by omega)])
set_option maxRecDepth 100000 in
set_option maxHeartbeats 4000000 in
theorem c_X6_init (l : Launch) (D : va_G) (Y : Nat → ClassId) : CtI l D Y yX6_init cX6_init 1 4 73 51 5295 6 [.null, .null, .null, .null, .null, vi 0, vi 0, vi 0, vl 0, vl 0] LBways 7 μX0 := CtI_of (own := RX6) pn_X6 rfl rfl (Nat.le_of_ble_eq_true rfl) (fun p e s m below meth c h0 sz C => by
  refine k_ald_n C 0 rfl rfl dX6_init_0 ?_
  refine k_obj C m_1_60 dX6_init_1 (Nat.le_of_ble_eq_true rfl) (Nat.le_of_ble_eq_true rfl) ?_
  refine k_ald_n C 0 rfl rfl dX6_init_4 ?_
  refine k_mk (fs := [.null, .null, .null, .null, vi 0, vi 0, vi 0, vi 0, vi 0]) (N := 9) C (ci := 2) (T := TX2) (ty0 := tyX2) rfl uw_2 tyX2_ok m_1_61 m_1_62 m_1_5 (fun j hj => by rcases (show j = 0 ∨ j = 1 ∨ j = 2 ∨ j = 3 ∨ j = 4 ∨ j = 5 ∨ j = 6 ∨ j = 7 ∨ j = 8 by omega) with rfl | rfl | rfl | rfl | rfl | rfl | rfl | rfl | rfl <;> rfl) (c_X2_init l D Y) cw_X2_init (Or.inr ⟨RX8, C.2.2.2.1.2.2.2.2.2.1⟩) rfl m_1_64 (Nat.le_of_ble_eq_true rfl) ⟨Nat.le_of_ble_eq_true rfl, Nat.le_of_ble_eq_true rfl⟩ ⟨Nat.le_of_ble_eq_true rfl, Nat.le_of_ble_eq_true rfl⟩ dX6_init_5 dX6_init_8 dX6_init_9 (fun q1 β1 hβ1 => ?_)
  subst hβ1
  refine k_put (fs' := [.ref (β1 11 0), .null, .null, .null, .null, vi 0, vi 0, vi 0, vl 0, vl 0]) C rfl rfl fl_X6_12 rfl (Nat.le_of_ble_eq_true rfl) rfl dX6_init_12 ?_
  refine k_ald_n C 0 rfl rfl dX6_init_15 ?_
  refine k_ald_n C 0 rfl rfl dX6_init_16 ?_
  refine k_get C 0 rfl fl_X6_12 rfl dX6_init_17 ?_
  refine k_get C 1 rfl fl_X6_18 rfl dX6_init_20 ?_
  refine k_put (fs' := [.ref (β1 11 0), .ref (β1 15 0), .null, .null, .null, vi 0, vi 0, vi 0, vl 0, vl 0]) C rfl rfl fl_X6_22 rfl (Nat.le_of_ble_eq_true rfl) rfl dX6_init_23 ?_
  refine k_ald_n C 0 rfl rfl dX6_init_26 ?_
  refine k_sipush C rfl dX6_init_27 ?_
  refine k_newi C 4951 rfl (by decide +kernel) (by decide) (Nat.le_of_ble_eq_true rfl) (Nat.le_of_ble_eq_true rfl) dX6_init_30 (fun q2 => ?_)
  refine k_put (fs' := [.ref (β1 11 0), .ref (β1 15 0), .ref q2, .null, .null, vi 0, vi 0, vi 0, vl 0, vl 0]) C rfl rfl fl_X6_23 rfl (Nat.le_of_ble_eq_true rfl) rfl dX6_init_32 ?_
  refine k_ald_n C 0 rfl rfl dX6_init_35 ?_
  refine k_iconst C dX6_init_36 ?_
  refine k_newi C 0 rfl (by decide +kernel) (by decide) (Nat.le_of_ble_eq_true rfl) (Nat.le_of_ble_eq_true rfl) dX6_init_37 (fun q3 => ?_)
  refine k_put (fs' := [.ref (β1 11 0), .ref (β1 15 0), .ref q2, .ref q3, .null, vi 0, vi 0, vi 0, vl 0, vl 0]) C rfl rfl fl_X6_27 rfl (Nat.le_of_ble_eq_true rfl) rfl dX6_init_39 ?_
  refine k_ald_n C 0 rfl rfl dX6_init_42 ?_
  refine k_iconst C dX6_init_43 ?_
  refine k_newi C 0 rfl (by decide +kernel) (by decide) (Nat.le_of_ble_eq_true rfl) (Nat.le_of_ble_eq_true rfl) dX6_init_44 (fun q4 => ?_)
  refine k_put (fs' := [.ref (β1 11 0), .ref (β1 15 0), .ref q2, .ref q3, .ref q4, vi 0, vi 0, vi 0, vl 0, vl 0]) C rfl rfl fl_X6_30 rfl (Nat.le_of_ble_eq_true rfl) rfl dX6_init_46 ?_
  refine k_ald_n C 0 rfl rfl dX6_init_49 ?_
  refine k_iconst C dX6_init_50 ?_
  refine k_put (fs' := [.ref (β1 11 0), .ref (β1 15 0), .ref q2, .ref q3, .ref q4, vi 1, vi 0, vi 0, vl 0, vl 0]) C rfl rfl fl_X6_33 rfl (Nat.le_of_ble_eq_true rfl) rfl dX6_init_51 ?_
  refine k_ald_n C 0 rfl rfl dX6_init_54 ?_
  refine k_iconst C dX6_init_55 ?_
  refine k_put (fs' := [.ref (β1 11 0), .ref (β1 15 0), .ref q2, .ref q3, .ref q4, vi 1, vi 0, vi 0, vl 0, vl 0]) C rfl rfl fl_X6_37 rfl (Nat.le_of_ble_eq_true rfl) rfl dX6_init_56 ?_
  refine k_ald_n C 0 rfl rfl dX6_init_59 ?_
  refine k_iconst C dX6_init_60 ?_
  refine k_put (fs' := [.ref (β1 11 0), .ref (β1 15 0), .ref q2, .ref q3, .ref q4, vi 1, vi 0, vi 0, vl 0, vl 0]) C rfl rfl fl_X6_41 rfl (Nat.le_of_ble_eq_true rfl) rfl dX6_init_61 ?_
  refine k_ald_n C 0 rfl rfl dX6_init_64 ?_
  refine k_lconst (x := 0) C rfl dX6_init_65 ?_
  refine k_put (fs' := [.ref (β1 11 0), .ref (β1 15 0), .ref q2, .ref q3, .ref q4, vi 1, vi 0, vi 0, vl 0, vl 0]) C rfl rfl fl_X6_44 rfl (Nat.le_of_ble_eq_true rfl) rfl dX6_init_66 ?_
  refine k_ald_n C 0 rfl rfl dX6_init_69 ?_
  refine k_lconst (x := 0) C rfl dX6_init_70 ?_
  refine k_put (fs' := [.ref (β1 11 0), .ref (β1 15 0), .ref q2, .ref q3, .ref q4, vi 1, vi 0, vi 0, vl 0, vl 0]) C rfl rfl fl_X6_48 rfl (Nat.le_of_ble_eq_true rfl) rfl dX6_init_71 ?_
  refine k_vret C (fun t i => if t = 7 then h0 else if t = 8 then q2 else if t = 9 then q3 else if t = 10 then q4 else β1 t i) rfl (List.Perm.of_eq ?_) rfl rfl dX6_init_74
  unfold LBways
  rw [wl_cons, wl_app, wl_app, wl_app, wl_loc (LB := LBstep) (α := fun t i => if t = 7 then h0 else if t = 8 then q2 else if t = 9 then q3 else if t = 10 then q4 else β1 t i) (α' := β1) (by decide +kernel) ?_]
  · rfl
  · intro w hw
    have h : ∀ w ∈ LBstep, 11 ≤ w.1 ∧ w.1 ≤ 22 := by decide +kernel
    obtain ⟨h1, h2⟩ := h w hw
    rw [if_neg (by omega), if_neg (by omega), if_neg (by omega), if_neg (by omega)])
set_option maxRecDepth 100000 in
set_option maxHeartbeats 4000000 in
theorem l_X4_init {p : Program} {l : Launch} {e : Env} {s : State} {m : MethodId} {args : Array Value} {below : List Frame} {meth : Method} {c : Code} {D : va_G} {Y : Nat → ClassId} {A : Nat → Prop} {Q : State → Prop} {h0 q3 : Nat} {v0 v1 v3 : Value} {r : va_W} (C : CY p s m args meth c cX4_init 2 RX4 D Y A) (kend : ∀ α : Adr, GC D A p l e { frames := 2, cells := 14, slots := 60, locals := 32 } s m args below meth c 2 Q 14 60 [(1, vi ((10 : Nat) : Int)), (0, .ref h0)] [] ((h0, .inr (4, [v0, v1, .ref q3, v3, vi 0])) :: (q3, .inl (Y 3, 10, .inr (.inr (.inr (.inr (fun k => if k < 10 then some (α 1 (k + 3)) else none)))))) :: (r ++ wl Y (LBi [1] 3 10) α μX0)) 69) : ∀ (d i : Nat) (α : Adr), d + i = 10 → GC D A p l e { frames := 2, cells := 14, slots := 60, locals := 32 } s m args below meth c 2 Q (4 + 1 * i) (40 + 2 * i) [(1, vi (i : Int)), (0, .ref h0)] [] ((h0, .inr (4, [v0, v1, .ref q3, v3, vi 0])) :: (q3, .inl (Y 3, 10, .inr (.inr (.inr (.inr (fun k => if k < i then some (α 1 (k + 3)) else none)))))) :: (r ++ wl Y (LBi [1] 3 i) α μX0)) 44 := by
  intro d
  induction d with
  | zero =>
    intro i α hi
    obtain rfl : i = 10 := by omega
    refine k_ild_n C 0 rfl rfl dX4_init_44 ?_
    refine k_bipush C rfl dX4_init_45 ?_
    refine k_ic_ge C 69 (by decide) dX4_init_47 (fun h => ?_) (fun h => ?_)
    · exact kend α
    · exact absurd (Int.le_refl _) h
  | succ d ih =>
    intro i α hi
    have hw : w32 (i : Int) = i := w32_id (by omega) (by omega)
    refine k_ild_n C 0 rfl rfl dX4_init_44 ?_
    refine k_bipush C rfl dX4_init_45 ?_
    refine k_ic_ge C 69 (by decide) dX4_init_47 (fun h => ?_) (fun h => ?_)
    · rw [hw, w32_id (x := 10) (by decide) (by decide)] at h
      omega
    · refine k_ald_n C 1 rfl rfl dX4_init_50 ?_
      refine k_get C 0 rfl fl_X4_20 rfl dX4_init_51 ?_
      refine k_ild_n C 0 rfl rfl dX4_init_54 ?_
      refine k_mk (fs := [vl 0, vl 0]) (N := 2) C (ci := 0) (T := TX0) (ty0 := tyX0) rfl uw_0 tyX0_ok m_1_233 m_1_24 m_1_2 (fun j hj => by rcases (show j = 0 ∨ j = 1 by omega) with rfl | rfl <;> rfl) (c_X0_init l D Y) cw_X0_init (Or.inr ⟨RX8, C.2.2.2.1.2.2.2.2.1⟩) rfl m_1_26 (Nat.le_of_ble_eq_true rfl) ⟨Nat.le_of_ble_eq_true rfl, Nat.le_of_ble_eq_true rfl⟩ ⟨by show 4 + 1 * i + 1 + 0 ≤ 14; omega, by show 40 + 2 * i + 2 + 0 ≤ 60; omega⟩ dX4_init_55 dX4_init_58 dX4_init_59 (fun q91 β91 hβ91 => ?_)
      subst hβ91
      refine k_astq (ci := 0) (T := TX0) C (2 + (r ++ wl Y (LBi [1] 3 i) α μX0).length) rfl rfl ((at_app _ _ _ _).trans rfl) ⟨by rw [hw]; omega, by rw [hw]; omega⟩ dX4_init_62 ?_
      refine k_iinc (lo' := [(1, vi ((i : Int) + 1)), (0, .ref h0)]) C 0 rfl (by decide) rfl dX4_init_63 ?_
      refine k_goto C 44 (by decide) dX4_init_66 ?_
      have hix : ix (i : Int) = i := by unfold ix; rw [hw]; exact Int.toNat_natCast i
      have k := ih (i + 1) (adx α β91 [1] (i + 3)) (by omega)
      rw [show ((i + 1 : Nat) : Int) = (i : Int) + 1 by omega, ← up_step (by decide), ← wl_step (by intro t ht j u hu; simp only [List.mem_cons, List.not_mem_nil, or_false] at ht; rcases ht with rfl <;> simp only [rfs, List.mem_cons, List.not_mem_nil, or_false] at hu <;> first | (rcases hu with rfl | rfl | rfl <;> exact ⟨by simp, rfl⟩) | (subst hu; exact ⟨by simp, rfl⟩) | exact hu.elim) (by decide), ← List.append_assoc] at k
      rw [hix, show 4 + 1 * i + 1 + 0 = 4 + 1 * (i + 1) by omega, show 40 + 2 * i + 2 + 0 = 40 + 2 * (i + 1) by omega]
      exact k

set_option maxRecDepth 100000 in
set_option maxHeartbeats 4000000 in
theorem c_X4_init (l : Launch) (D : va_G) (Y : Nat → ClassId) : CtI l D Y yX4_init cX4_init 2 2 32 14 60 4 [.null, .null, .null, .null, vi 0] LBtell 23 μX0 := CtI_of (own := RX4) pn_X4 rfl rfl (Nat.le_of_ble_eq_true rfl) (fun p e s m below meth c h0 sz C => by
  refine k_ald_n C 0 rfl rfl dX4_init_0 ?_
  refine k_obj C m_1_232 dX4_init_1 (Nat.le_of_ble_eq_true rfl) (Nat.le_of_ble_eq_true rfl) ?_
  refine k_ald_n C 0 rfl rfl dX4_init_4 ?_
  refine k_bipush C rfl dX4_init_5 ?_
  refine k_newi C 10 rfl (by decide +kernel) (by decide) (Nat.le_of_ble_eq_true rfl) (Nat.le_of_ble_eq_true rfl) dX4_init_7 (fun q1 => ?_)
  refine k_put (fs' := [.ref q1, .null, .null, .null, vi 0]) C rfl rfl fl_X4_9 rfl (Nat.le_of_ble_eq_true rfl) rfl dX4_init_9 ?_
  refine k_ald_n C 0 rfl rfl dX4_init_12 ?_
  refine k_bipush C rfl dX4_init_13 ?_
  refine k_newi C 10 rfl (by decide +kernel) (by decide) (Nat.le_of_ble_eq_true rfl) (Nat.le_of_ble_eq_true rfl) dX4_init_15 (fun q2 => ?_)
  refine k_put (fs' := [.ref q1, .ref q2, .null, .null, vi 0]) C rfl rfl fl_X4_15 rfl (Nat.le_of_ble_eq_true rfl) rfl dX4_init_17 ?_
  refine k_ald_n C 0 rfl rfl dX4_init_20 ?_
  refine k_bipush C rfl dX4_init_21 ?_
  refine k_newq C 10 3 RX0 rfl C.2.2.2.2.1 m_1_233 rfl (by decide +kernel) (by decide) (Nat.le_of_ble_eq_true rfl) (Nat.le_of_ble_eq_true rfl) dX4_init_23 (fun q3 => ?_)
  refine k_put (fs' := [.ref q1, .ref q2, .ref q3, .null, vi 0]) C rfl rfl fl_X4_20 rfl (Nat.le_of_ble_eq_true rfl) rfl dX4_init_26 ?_
  refine k_ald_n C 0 rfl rfl dX4_init_29 ?_
  refine k_bipush C rfl dX4_init_30 ?_
  refine k_newz C 10 rfl (by decide +kernel) (by decide) (Nat.le_of_ble_eq_true rfl) (Nat.le_of_ble_eq_true rfl) dX4_init_32 (fun q4 => ?_)
  refine k_put (fs' := [.ref q1, .ref q2, .ref q3, .ref q4, vi 0]) C rfl rfl fl_X4_24 rfl (Nat.le_of_ble_eq_true rfl) rfl dX4_init_34 ?_
  refine k_ald_n C 0 rfl rfl dX4_init_37 ?_
  refine k_iconst C dX4_init_38 ?_
  refine k_put (fs' := [.ref q1, .ref q2, .ref q3, .ref q4, vi 0]) C rfl rfl fl_X4_28 rfl (Nat.le_of_ble_eq_true rfl) rfl dX4_init_39 ?_
  refine k_iconst C dX4_init_42 ?_
  refine k_ist_n (lo' := [(1, vi 0), (0, .ref h0)]) C rfl (by decide) rfl dX4_init_43 ?_
  refine k_perm (pm_mid (X := [(q1, .inl (Y 0, 10, .inl (fun _ => Int32.ofInt 0)))] ++ [(q2, .inl (Y 0, 10, .inl (fun _ => Int32.ofInt 0)))])) ?_
  refine k_cast (w' := (h0, .inr (4, [.ref q1, .ref q2, .ref q3, .ref q4, vi 0])) :: (q3, .inl (Y 3, 10, .inr (.inr (.inr (.inr (fun k => if k < 0 then some ((fun _ _ => 0 : Adr) 1 (k + 3)) else none)))))) :: ((([(q1, .inl (Y 0, 10, .inl (fun _ => Int32.ofInt 0)))] ++ [(q2, .inl (Y 0, 10, .inl (fun _ => Int32.ofInt 0)))]) ++ [(q4, .inl (Y 2, 10, .inl (fun _ => Int32.ofInt 0)))]) ++ wl Y (LBi [1] 3 0) (fun _ _ => 0) μX0)) rfl ?_
  refine l_X4_init C (fun α => ?_) 10 0 _ rfl
  refine k_vret C (fun t i => if t = 23 then h0 else if t = 24 then q1 else if t = 25 then q2 else if t = 26 then q3 else if t = 27 then q4 else α t i) rfl (List.Perm.of_eq ?_) rfl rfl dX4_init_69
  unfold LBtell
  rw [wl_cons, wl_cons, wl_app, wl_loc (LB := LBi [1] 3 10) (α := fun t i => if t = 23 then h0 else if t = 24 then q1 else if t = 25 then q2 else if t = 26 then q3 else if t = 27 then q4 else α t i) (α' := α) (by decide +kernel) ?_]
  · rfl
  · intro w hw
    have h : ∀ w ∈ LBi [1] 3 10, w.1 = 1 := by decide +kernel
    have h1 := h w hw
    rw [if_neg (by omega), if_neg (by omega), if_neg (by omega), if_neg (by omega), if_neg (by omega)])
set_option maxRecDepth 100000 in
set_option maxHeartbeats 4000000 in
theorem l_X8_init {p : Program} {l : Launch} {e : Env} {s : State} {m : MethodId} {args : Array Value} {below : List Frame} {meth : Method} {c : Code} {D : va_G} {Y : Nat → ClassId} {A : Nat → Prop} {Q : State → Prop} {h0 q4 : Nat} {v1 v2 v3 v5 v6 v7 v8 : Value} {r : va_W} (C : CY p s m args meth c cX8_init 2 RX8 D Y A) (kend : ∀ α : Adr, GC D A p l e { frames := 5, cells := 81, slots := 5752, locals := 93 } s m args below meth c 2 Q 81 5752 [(1, vi ((4 : Nat) : Int)), (0, .ref h0)] [] ((h0, .inr (8, [vi 0, v1, v2, v3, .ref q4, v5, v6, v7, v8])) :: (q4, .inl (Y 5, 4, .inr (.inr (.inr (.inr (fun k => if k < 4 then some (α 3 (k + 0)) else none)))))) :: (r ++ wl Y (LBi [3, 4] 0 4) α μX0)) 120) : ∀ (d i : Nat) (α : Adr), d + i = 4 → GC D A p l e { frames := 5, cells := 81, slots := 5752, locals := 93 } s m args below meth c 2 Q (73 + 2 * i) (5580 + 43 * i) [(1, vi (i : Int)), (0, .ref h0)] [] ((h0, .inr (8, [vi 0, v1, v2, v3, .ref q4, v5, v6, v7, v8])) :: (q4, .inl (Y 5, 4, .inr (.inr (.inr (.inr (fun k => if k < i then some (α 3 (k + 0)) else none)))))) :: (r ++ wl Y (LBi [3, 4] 0 i) α μX0)) 96 := by
  intro d
  induction d with
  | zero =>
    intro i α hi
    obtain rfl : i = 4 := by omega
    refine k_ild_n C 0 rfl rfl dX8_init_96 ?_
    refine k_iconst C dX8_init_97 ?_
    refine k_ic_ge C 120 (by decide) dX8_init_98 (fun h => ?_) (fun h => ?_)
    · exact kend α
    · exact absurd (Int.le_refl _) h
  | succ d ih =>
    intro i α hi
    have hw : w32 (i : Int) = i := w32_id (by omega) (by omega)
    refine k_ild_n C 0 rfl rfl dX8_init_96 ?_
    refine k_iconst C dX8_init_97 ?_
    refine k_ic_ge C 120 (by decide) dX8_init_98 (fun h => ?_) (fun h => ?_)
    · rw [hw, w32_id (x := 4) (by decide) (by decide)] at h
      omega
    · refine k_ald_n C 1 rfl rfl dX8_init_101 ?_
      refine k_get C 0 rfl fl_X8_28 rfl dX8_init_102 ?_
      refine k_ild_n C 0 rfl rfl dX8_init_105 ?_
      refine k_mk (fs := [.null, vi 0, vi 0]) (N := 3) C (ci := 5) (T := TX5) (ty0 := tyX5) rfl uw_5 tyX5_ok m_1_41 m_2_18 m_1_9 (fun j hj => by rcases (show j = 0 ∨ j = 1 ∨ j = 2 by omega) with rfl | rfl | rfl <;> rfl) (c_X5_init l D Y) cw_X5_init (Or.inr ⟨RX8, C.2.2.2.1.2.2.2.1⟩) rfl m_2_20 (Nat.le_of_ble_eq_true rfl) ⟨Nat.le_of_ble_eq_true rfl, Nat.le_of_ble_eq_true rfl⟩ ⟨by show 73 + 2 * i + 1 + 1 ≤ 81; omega, by show 5580 + 43 * i + 3 + 40 ≤ 5752; omega⟩ dX8_init_106 dX8_init_109 dX8_init_110 (fun q91 β91 hβ91 => ?_)
      subst hβ91
      refine k_astq (ci := 5) (T := TX5) C (2 + (r ++ wl Y (LBi [3, 4] 0 i) α μX0).length) rfl rfl ((at_app _ _ _ _).trans rfl) ⟨by rw [hw]; omega, by rw [hw]; omega⟩ dX8_init_113 ?_
      refine k_iinc (lo' := [(1, vi ((i : Int) + 1)), (0, .ref h0)]) C 0 rfl (by decide) rfl dX8_init_114 ?_
      refine k_goto C 96 (by decide) dX8_init_117 ?_
      have hix : ix (i : Int) = i := by unfold ix; rw [hw]; exact Int.toNat_natCast i
      have k := ih (i + 1) (adx α β91 [3, 4] (i + 0)) (by omega)
      rw [show ((i + 1 : Nat) : Int) = (i : Int) + 1 by omega, ← up_step (by decide), ← wl_step (by intro t ht j u hu; simp only [List.mem_cons, List.not_mem_nil, or_false] at ht; rcases ht with rfl | rfl <;> simp only [rfs, List.mem_cons, List.not_mem_nil, or_false] at hu <;> first | (rcases hu with rfl | rfl | rfl <;> exact ⟨by simp, rfl⟩) | (subst hu; exact ⟨by simp, rfl⟩) | exact hu.elim) (by decide), ← List.append_assoc] at k
      rw [hix, show 73 + 2 * i + 1 + 1 = 73 + 2 * (i + 1) by omega, show 5580 + 43 * i + 3 + 40 = 5580 + 43 * (i + 1) by omega]
      exact k

def aX8 (h0 q4 b1 b2 b3 : Nat) (β5 β6 β7 α : Adr) : Adr := fun t i => if t = 0 then h0 else if t = 1 then (if i = 0 then b1 else if i = 1 then b2 else if i = 2 then b3 else β7 1 i) else if t = 2 then q4 else if t ≤ 4 then α t i else if t ≤ 6 then β5 t i else if t ≤ 22 then β6 t i else β7 t i
theorem aX8_3 {h0 q4 b1 b2 b3 t i : Nat} {β5 β6 β7 α : Adr} (h1 : 3 ≤ t) (h2 : t ≤ 4) : aX8 h0 q4 b1 b2 b3 β5 β6 β7 α t i = α t i := by
  unfold aX8
  rw [if_neg (show ¬ t = 0 by omega), if_neg (show ¬ t = 1 by omega), if_neg (show ¬ t = 2 by omega), if_pos h2]
theorem aX8_5 {h0 q4 b1 b2 b3 t i : Nat} {β5 β6 β7 α : Adr} (h1 : 5 ≤ t) (h2 : t ≤ 6) : aX8 h0 q4 b1 b2 b3 β5 β6 β7 α t i = β5 t i := by
  unfold aX8
  rw [if_neg (show ¬ t = 0 by omega), if_neg (show ¬ t = 1 by omega), if_neg (show ¬ t = 2 by omega), if_neg (show ¬ t ≤ 4 by omega), if_pos h2]
theorem aX8_7 {h0 q4 b1 b2 b3 t i : Nat} {β5 β6 β7 α : Adr} (h1 : 7 ≤ t) (h2 : t ≤ 22) : aX8 h0 q4 b1 b2 b3 β5 β6 β7 α t i = β6 t i := by
  unfold aX8
  rw [if_neg (show ¬ t = 0 by omega), if_neg (show ¬ t = 1 by omega), if_neg (show ¬ t = 2 by omega), if_neg (show ¬ t ≤ 4 by omega), if_neg (show ¬ t ≤ 6 by omega), if_pos h2]
theorem aX8_23 {h0 q4 b1 b2 b3 t i : Nat} {β5 β6 β7 α : Adr} (h : (t = 1 ∧ 3 ≤ i) ∨ 23 ≤ t) : aX8 h0 q4 b1 b2 b3 β5 β6 β7 α t i = β7 t i := by
  unfold aX8
  rcases h with ⟨rfl, h2⟩ | h1
  · rw [if_neg (by decide), if_pos rfl, if_neg (show ¬ i = 0 by omega), if_neg (show ¬ i = 1 by omega), if_neg (show ¬ i = 2 by omega)]
  · rw [if_neg (show ¬ t = 0 by omega), if_neg (show ¬ t = 1 by omega), if_neg (show ¬ t = 2 by omega), if_neg (show ¬ t ≤ 4 by omega), if_neg (show ¬ t ≤ 6 by omega), if_neg (show ¬ t ≤ 22 by omega)]
def LBk : List (Nat × Nat) := (0, 0) :: (2, 0) :: (((([(1, 0)] ++ [(1, 1)]) ++ [(1, 2)]) ++ ((LBtab ++ LBways) ++ LBtell)) ++ LBi [3, 4] 0 4)
set_option maxRecDepth 100000 in
set_option maxHeartbeats 4000000 in
theorem c_X8_init (l : Launch) (D : va_G) (Y : Nat → ClassId) : CtI l D Y yX8_init cX8_init 2 5 93 81 5752 8 [vi 0, .null, .null, .null, .null, .null, .null, .null, .null] LBx 0 μX0 := CtI_of (own := RX8) pn_X8 rfl rfl (Nat.le_of_ble_eq_true rfl) (fun p e s m below meth c h0 sz C => by
  refine k_ald_n C 0 rfl rfl dX8_init_0 ?_
  refine k_obj C m_1_20 dX8_init_1 (Nat.le_of_ble_eq_true rfl) (Nat.le_of_ble_eq_true rfl) ?_
  refine k_ald_n C 0 rfl rfl dX8_init_4 ?_
  refine k_iconst C dX8_init_5 ?_
  refine k_put (fs' := [vi 0, .null, .null, .null, .null, .null, .null, .null, .null]) C rfl rfl fl_X8_9 rfl (Nat.le_of_ble_eq_true rfl) rfl dX8_init_6 ?_
  refine k_ald_n C 0 rfl rfl dX8_init_9 ?_
  refine k_mk (fs := [vl 0, vl 0]) (N := 2) C (ci := 0) (T := TX0) (ty0 := tyX0) rfl uw_0 tyX0_ok m_1_23 m_1_24 m_1_2 (fun j hj => by rcases (show j = 0 ∨ j = 1 by omega) with rfl | rfl <;> rfl) (c_X0_init l D Y) cw_X0_init (Or.inr ⟨RX8, C.2.2.2.1.1⟩) rfl m_1_26 (Nat.le_of_ble_eq_true rfl) ⟨Nat.le_of_ble_eq_true rfl, Nat.le_of_ble_eq_true rfl⟩ ⟨Nat.le_of_ble_eq_true rfl, Nat.le_of_ble_eq_true rfl⟩ dX8_init_10 dX8_init_13 dX8_init_14 (fun q1 β1 hβ1 => ?_)
  subst hβ1
  refine k_put (fs' := [vi 0, .ref (β1 1 0), .null, .null, .null, .null, .null, .null, .null]) C rfl rfl fl_X8_16 rfl (Nat.le_of_ble_eq_true rfl) rfl dX8_init_17 ?_
  refine k_ald_n C 0 rfl rfl dX8_init_20 ?_
  refine k_mk (fs := [vl 0, vl 0]) (N := 2) C (ci := 0) (T := TX0) (ty0 := tyX0) rfl uw_0 tyX0_ok m_1_23 m_1_24 m_1_2 (fun j hj => by rcases (show j = 0 ∨ j = 1 by omega) with rfl | rfl <;> rfl) (c_X0_init l D Y) cw_X0_init (Or.inr ⟨RX8, C.2.2.2.1.1⟩) rfl m_1_26 (Nat.le_of_ble_eq_true rfl) ⟨Nat.le_of_ble_eq_true rfl, Nat.le_of_ble_eq_true rfl⟩ ⟨Nat.le_of_ble_eq_true rfl, Nat.le_of_ble_eq_true rfl⟩ dX8_init_21 dX8_init_24 dX8_init_25 (fun q2 β2 hβ2 => ?_)
  subst hβ2
  refine k_put (fs' := [vi 0, .ref (β1 1 0), .ref (β2 1 0), .null, .null, .null, .null, .null, .null]) C rfl rfl fl_X8_20 rfl (Nat.le_of_ble_eq_true rfl) rfl dX8_init_28 ?_
  refine k_ald_n C 0 rfl rfl dX8_init_31 ?_
  refine k_mk (fs := [vl 0, vl 0]) (N := 2) C (ci := 0) (T := TX0) (ty0 := tyX0) rfl uw_0 tyX0_ok m_1_23 m_1_24 m_1_2 (fun j hj => by rcases (show j = 0 ∨ j = 1 by omega) with rfl | rfl <;> rfl) (c_X0_init l D Y) cw_X0_init (Or.inr ⟨RX8, C.2.2.2.1.1⟩) rfl m_1_26 (Nat.le_of_ble_eq_true rfl) ⟨Nat.le_of_ble_eq_true rfl, Nat.le_of_ble_eq_true rfl⟩ ⟨Nat.le_of_ble_eq_true rfl, Nat.le_of_ble_eq_true rfl⟩ dX8_init_32 dX8_init_35 dX8_init_36 (fun q3 β3 hβ3 => ?_)
  subst hβ3
  refine k_put (fs' := [vi 0, .ref (β1 1 0), .ref (β2 1 0), .ref (β3 1 0), .null, .null, .null, .null, .null]) C rfl rfl fl_X8_23 rfl (Nat.le_of_ble_eq_true rfl) rfl dX8_init_39 ?_
  refine k_ald_n C 0 rfl rfl dX8_init_42 ?_
  refine k_iconst C dX8_init_43 ?_
  refine k_newq C 4 5 RX5 rfl C.2.2.2.2.2.2 m_1_41 rfl (by decide +kernel) (by decide) (Nat.le_of_ble_eq_true rfl) (Nat.le_of_ble_eq_true rfl) dX8_init_44 (fun q4 => ?_)
  refine k_put (fs' := [vi 0, .ref (β1 1 0), .ref (β2 1 0), .ref (β3 1 0), .ref q4, .null, .null, .null, .null]) C rfl rfl fl_X8_28 rfl (Nat.le_of_ble_eq_true rfl) rfl dX8_init_47 ?_
  refine k_ald_n C 0 rfl rfl dX8_init_50 ?_
  refine k_mk (fs := [.null]) (N := 1) C (ci := 3) (T := TX3) (ty0 := tyX3) rfl uw_3 tyX3_ok m_1_43 m_1_44 m_1_3 (fun j hj => by have h : j = 0 := Nat.lt_one_iff.mp hj; subst h; rfl) (c_X3_init l D Y) cw_X3_init (Or.inr ⟨RX8, C.2.2.2.1.2.1⟩) rfl m_1_46 (Nat.le_of_ble_eq_true rfl) ⟨Nat.le_of_ble_eq_true rfl, Nat.le_of_ble_eq_true rfl⟩ ⟨Nat.le_of_ble_eq_true rfl, Nat.le_of_ble_eq_true rfl⟩ dX8_init_51 dX8_init_54 dX8_init_55 (fun q5 β5 hβ5 => ?_)
  subst hβ5
  refine k_put (fs' := [vi 0, .ref (β1 1 0), .ref (β2 1 0), .ref (β3 1 0), .ref q4, .ref (β5 5 0), .null, .null, .null]) C rfl rfl fl_X8_35 rfl (Nat.le_of_ble_eq_true rfl) rfl dX8_init_58 ?_
  refine k_ald_n C 0 rfl rfl dX8_init_61 ?_
  refine k_mk (fs := [.null, .null, .null, .null, .null, vi 0, vi 0, vi 0, vl 0, vl 0]) (N := 10) C (ci := 6) (T := TX6) (ty0 := tyX6) rfl uw_6 tyX6_ok m_1_55 m_1_56 m_1_4 (fun j hj => by rcases (show j = 0 ∨ j = 1 ∨ j = 2 ∨ j = 3 ∨ j = 4 ∨ j = 5 ∨ j = 6 ∨ j = 7 ∨ j = 8 ∨ j = 9 by omega) with rfl | rfl | rfl | rfl | rfl | rfl | rfl | rfl | rfl | rfl <;> rfl) (c_X6_init l D Y) cw_X6_init (Or.inr ⟨RX8, C.2.2.2.1.2.2.1⟩) rfl m_1_58 (Nat.le_of_ble_eq_true rfl) ⟨Nat.le_of_ble_eq_true rfl, Nat.le_of_ble_eq_true rfl⟩ ⟨Nat.le_of_ble_eq_true rfl, Nat.le_of_ble_eq_true rfl⟩ dX8_init_62 dX8_init_65 dX8_init_66 (fun q6 β6 hβ6 => ?_)
  subst hβ6
  refine k_put (fs' := [vi 0, .ref (β1 1 0), .ref (β2 1 0), .ref (β3 1 0), .ref q4, .ref (β5 5 0), .ref (β6 7 0), .null, .null]) C rfl rfl fl_X8_42 rfl (Nat.le_of_ble_eq_true rfl) rfl dX8_init_69 ?_
  refine k_ald_n C 0 rfl rfl dX8_init_72 ?_
  refine k_ald_n C 0 rfl rfl dX8_init_73 ?_
  refine k_get C 0 rfl fl_X8_42 rfl dX8_init_74 ?_
  refine k_get C 7 rfl fl_X8_46 rfl dX8_init_77 ?_
  refine k_put (fs' := [vi 0, .ref (β1 1 0), .ref (β2 1 0), .ref (β3 1 0), .ref q4, .ref (β5 5 0), .ref (β6 7 0), .ref (β6 15 0), .null]) C rfl rfl fl_X8_50 rfl (Nat.le_of_ble_eq_true rfl) rfl dX8_init_80 ?_
  refine k_ald_n C 0 rfl rfl dX8_init_83 ?_
  refine k_mk (fs := [.null, .null, .null, .null, vi 0]) (N := 5) C (ci := 4) (T := TX4) (ty0 := tyX4) rfl uw_4 tyX4_ok m_1_227 m_1_228 m_1_8 (fun j hj => by rcases (show j = 0 ∨ j = 1 ∨ j = 2 ∨ j = 3 ∨ j = 4 by omega) with rfl | rfl | rfl | rfl | rfl <;> rfl) (c_X4_init l D Y) cw_X4_init (Or.inl m_1_229) rfl m_1_230 (Nat.le_of_ble_eq_true rfl) ⟨Nat.le_of_ble_eq_true rfl, Nat.le_of_ble_eq_true rfl⟩ ⟨Nat.le_of_ble_eq_true rfl, Nat.le_of_ble_eq_true rfl⟩ dX8_init_84 dX8_init_87 dX8_init_88 (fun q7 β7 hβ7 => ?_)
  subst hβ7
  refine k_put (fs' := [vi 0, .ref (β1 1 0), .ref (β2 1 0), .ref (β3 1 0), .ref q4, .ref (β5 5 0), .ref (β6 7 0), .ref (β6 15 0), .ref (β7 23 0)]) C rfl rfl fl_X8_54 rfl (Nat.le_of_ble_eq_true rfl) rfl dX8_init_91 ?_
  refine k_iconst C dX8_init_94 ?_
  refine k_ist_n (lo' := [(1, vi 0), (0, .ref h0)]) C rfl (by decide) rfl dX8_init_95 ?_
  refine k_cast (w' := (h0, .inr (8, [vi 0, .ref (β1 1 0), .ref (β2 1 0), .ref (β3 1 0), .ref q4, .ref (β5 5 0), .ref (β6 7 0), .ref (β6 15 0), .ref (β7 23 0)])) :: (((((([] ++ wl Y [(1, 0)] β1 μX0) ++ wl Y [(1, 0)] β2 μX0) ++ wl Y [(1, 0)] β3 μX0) ++ [(q4, .inl (Y 5, 4, .inr (.inr (.inr (.inr (fun _ => none))))))]) ++ ((wl Y LBtab β5 μX0 ++ wl Y LBways β6 μX0) ++ wl Y LBtell β7 μX0)))) (by simp only [List.append_assoc]) ?_
  refine k_perm (pm_mid (X := (([] ++ wl Y [(1, 0)] β1 μX0) ++ wl Y [(1, 0)] β2 μX0) ++ wl Y [(1, 0)] β3 μX0)) ?_
  refine k_cast (w' := (h0, .inr (8, [vi 0, .ref (β1 1 0), .ref (β2 1 0), .ref (β3 1 0), .ref q4, .ref (β5 5 0), .ref (β6 7 0), .ref (β6 15 0), .ref (β7 23 0)])) :: (q4, .inl (Y 5, 4, .inr (.inr (.inr (.inr (fun k => if k < 0 then some ((fun _ _ => 0 : Adr) 3 (k + 0)) else none)))))) :: (((((wl Y [(1, 0)] β1 μX0 ++ wl Y [(1, 0)] β2 μX0) ++ wl Y [(1, 0)] β3 μX0) ++ ((wl Y LBtab β5 μX0 ++ wl Y LBways β6 μX0) ++ wl Y LBtell β7 μX0))) ++ wl Y (LBi [3, 4] 0 0) (fun _ _ => 0) μX0)) (by rw [show wl Y (LBi [3, 4] 0 0) (fun _ _ => 0) μX0 = [] from rfl, List.append_nil, List.nil_append]; rfl) ?_
  refine l_X8_init C (fun α => ?_) 4 0 _ rfl
  refine k_vret C (aX8 h0 q4 (β1 1 0) (β2 1 0) (β3 1 0) β5 β6 β7 α) rfl ?_ rfl rfl dX8_init_120
  have hk : LBk.Perm LBx := by decide +kernel
  refine List.Perm.trans (List.Perm.of_eq ?_) (hk.map _)
  show _ = wl Y LBk _ μX0
  unfold LBk
  rfl)
