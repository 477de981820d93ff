/-! printed: what the methods come to -/
set_option maxRecDepth 8000 in
set_option maxHeartbeats 2000000 in
theorem e_Ru_begin {p : Nat} (hi : p ∈ [17, 25]) (x2 : Int32) (x3 : Int32) (h : z_H) : z_M 95 [.ref 37, .ref p, .int x2, .int x3] h = z_bd (z_M 101 [.ref 38] (z_wI (z_wI (z_wI (z_wI (z_wI (z_wI (z_wD h p) 37 4 x2) 37 5 x3) 37 0 0) 37 1 0) 37 6 0) 37 7 0)) (fun r1 h2 => (if (h2.1, h2.2.1, p).1 p 0 ≤ 0 then some (0, (h2.1, h2.2.1, p)) else z_bd (z_M 96 [.ref 37, .int 0, .int 0] (h2.1, h2.2.1, p)) (fun r3 h4 => some (0, (h4.1, h4.2.1, p))))) := by
  refine (z_M_eq (by decide)).trans ?_
  simp only [List.mem_cons, List.not_mem_nil, or_false, Prod.mk.injEq] at hi
  rcases hi with rfl | rfl
  · show z_X zc_Ru_begin 21 (0, [(0, .ref 37), (1, .ref 17), (2, .int x2), (3, .int x3)], [], h) = _
    refine (z_X_steps (s' := (39, [(0, .ref 37), (1, .ref 17), (2, .int x2), (3, .int x3)], [.ref 38], (z_wI (z_wI (z_wI (z_wI (z_wI (z_wI (z_wD h 17) 37 4 x2) 37 5 x3) 37 0 0) 37 1 0) 37 6 0) 37 7 0))) 23 rfl).trans ?_
    refine (z_X_call (id := 101) (a := [.ref 38]) (c := 0) (s' := (42, [(0, .ref 37), (1, .ref 17), (2, .int x2), (3, .int x3)], [], (z_wI (z_wI (z_wI (z_wI (z_wI (z_wI (z_wD h 17) 37 4 x2) 37 5 x3) 37 0 0) 37 1 0) 37 6 0) 37 7 0))) rfl ⟨Nat.le_of_ble_eq_true rfl, Nat.le_of_ble_eq_true rfl⟩).trans ?_
    refine (z_bdD 17 rfl rfl).trans (z_bdc fun r1 h2 => ?_)
    refine (z_X_steps (s' := (46, [(0, .ref 37), (1, .ref 17), (2, .int x2), (3, .int x3)], [.ref 17], (h2.1, h2.2.1, 17))) 2 rfl).trans ?_
    refine (z_X_steps (s' := (49, [(0, .ref 37), (1, .ref 17), (2, .int x2), (3, .int x3)], [.int ((h2.1, h2.2.1, 17).1 17 0)], (h2.1, h2.2.1, 17))) 1 rfl).trans ?_
    refine (z_X_br (c := (h2.1, h2.2.1, 17).1 17 0 ≤ 0) (s1 := (58, [(0, .ref 37), (1, .ref 17), (2, .int x2), (3, .int x3)], [], (h2.1, h2.2.1, 17))) (s2 := (52, [(0, .ref 37), (1, .ref 17), (2, .int x2), (3, .int x3)], [], (h2.1, h2.2.1, 17))) rfl).trans (z_ite ?_ ?_)
    · exact z_X_ret rfl
    · refine (z_X_steps (s' := (55, [(0, .ref 37), (1, .ref 17), (2, .int x2), (3, .int x3)], [.int 0, .int 0, .ref 37], (h2.1, h2.2.1, 17))) 3 rfl).trans ?_
      refine (z_X_call (id := 96) (a := [.ref 37, .int 0, .int 0]) (c := 0) (s' := (58, [(0, .ref 37), (1, .ref 17), (2, .int x2), (3, .int x3)], [], (h2.1, h2.2.1, 17))) rfl ⟨Nat.le_of_ble_eq_true rfl, Nat.le_of_ble_eq_true rfl⟩).trans ?_
      refine (z_bdD 17 rfl rfl).trans (z_bdc fun r3 h4 => ?_)
      exact z_X_ret rfl
  · show z_X zc_Ru_begin 21 (0, [(0, .ref 37), (1, .ref 25), (2, .int x2), (3, .int x3)], [], h) = _
    refine (z_X_steps (s' := (39, [(0, .ref 37), (1, .ref 25), (2, .int x2), (3, .int x3)], [.ref 38], (z_wI (z_wI (z_wI (z_wI (z_wI (z_wI (z_wD h 25) 37 4 x2) 37 5 x3) 37 0 0) 37 1 0) 37 6 0) 37 7 0))) 23 rfl).trans ?_
    refine (z_X_call (id := 101) (a := [.ref 38]) (c := 0) (s' := (42, [(0, .ref 37), (1, .ref 25), (2, .int x2), (3, .int x3)], [], (z_wI (z_wI (z_wI (z_wI (z_wI (z_wI (z_wD h 25) 37 4 x2) 37 5 x3) 37 0 0) 37 1 0) 37 6 0) 37 7 0))) rfl ⟨Nat.le_of_ble_eq_true rfl, Nat.le_of_ble_eq_true rfl⟩).trans ?_
    refine (z_bdD 25 rfl rfl).trans (z_bdc fun r1 h2 => ?_)
    refine (z_X_steps (s' := (46, [(0, .ref 37), (1, .ref 25), (2, .int x2), (3, .int x3)], [.ref 25], (h2.1, h2.2.1, 25))) 2 rfl).trans ?_
    refine (z_X_steps (s' := (49, [(0, .ref 37), (1, .ref 25), (2, .int x2), (3, .int x3)], [.int ((h2.1, h2.2.1, 25).1 25 0)], (h2.1, h2.2.1, 25))) 1 rfl).trans ?_
    refine (z_X_br (c := (h2.1, h2.2.1, 25).1 25 0 ≤ 0) (s1 := (58, [(0, .ref 37), (1, .ref 25), (2, .int x2), (3, .int x3)], [], (h2.1, h2.2.1, 25))) (s2 := (52, [(0, .ref 37), (1, .ref 25), (2, .int x2), (3, .int x3)], [], (h2.1, h2.2.1, 25))) rfl).trans (z_ite ?_ ?_)
    · exact z_X_ret rfl
    · refine (z_X_steps (s' := (55, [(0, .ref 37), (1, .ref 25), (2, .int x2), (3, .int x3)], [.int 0, .int 0, .ref 37], (h2.1, h2.2.1, 25))) 3 rfl).trans ?_
      refine (z_X_call (id := 96) (a := [.ref 37, .int 0, .int 0]) (c := 0) (s' := (58, [(0, .ref 37), (1, .ref 25), (2, .int x2), (3, .int x3)], [], (h2.1, h2.2.1, 25))) rfl ⟨Nat.le_of_ble_eq_true rfl, Nat.le_of_ble_eq_true rfl⟩).trans ?_
      refine (z_bdD 25 rfl rfl).trans (z_bdc fun r3 h4 => ?_)
      exact z_X_ret rfl
noncomputable def zl_Ru_enter_49 (ρ : Nat) (d : Nat) (x1 : Int32) (x2 : Int32) (x3 : Int32) (x4 : Int32) (h : z_H) : Option z_A := z_X zc_Ru_enter ρ (49, [(0, .ref 37), (1, .int x1), (2, .int x2), (3, .int x3), (4, .int x4)], [], h)
set_option maxRecDepth 8000 in
set_option maxHeartbeats 2000000 in
theorem ez_Ru_enter {ρ : Nat} {d : Nat} (hi : d ∈ [17, 25]) (hρ0 : 5 ≤ ρ) (x1 : Int32) (x2 : Int32) (I : Nat → Nat → Int32) (L : Nat → Nat → Int64) : z_X zc_Ru_enter ρ (0, [(0, .ref 37), (1, .int x1), (2, .int x2)], [], (I, L, d)) = z_bd (z_M 103 [.ref 38, .int (100 + x1)] (z_wI (I, L, d) 37 0 (((31 * ((I, L, d).1 37 0)) + x1) + 101))) (fun r1 h2 => (bif z_in x1 6 then (if (h2.1, h2.2.1, d).1 (d + 1) (x1.toNatClampNeg) ≤ 0 then zl_Ru_enter_49 ρ d x1 x2 9 0 (h2.1, h2.2.1, d) else zl_Ru_enter_49 ρ d x1 x2 0 0 (h2.1, h2.2.1, d)) else none)) := by
  simp only [List.mem_cons, List.not_mem_nil, or_false, Prod.mk.injEq] at hi
  rcases hi with rfl | rfl
  · show z_X zc_Ru_enter ρ (0, [(0, .ref 37), (1, .int x1), (2, .int x2)], [], (I, L, 17)) = _
    refine (z_X_steps (s' := (24, [(0, .ref 37), (1, .int x1), (2, .int x2)], [.int (100 + x1), .ref 38], (z_wI (I, L, 17) 37 0 (((31 * ((I, L, 17).1 37 0)) + x1) + 101)))) 15 rfl).trans ?_
    refine (z_X_call (id := 103) (a := [.ref 38, .int (100 + x1)]) (c := 0) (s' := (27, [(0, .ref 37), (1, .int x1), (2, .int x2)], [], (z_wI (I, L, 17) 37 0 (((31 * ((I, L, 17).1 37 0)) + x1) + 101)))) rfl ⟨Nat.lt_of_lt_of_le (Nat.le_of_ble_eq_true rfl : z_rank 103 [.ref 38, .int (100 + x1)] < 5) hρ0, Nat.le_of_ble_eq_true rfl⟩).trans ?_
    refine (z_bdD 17 rfl rfl).trans (z_bdc fun r1 h2 => ?_)
    refine (z_X_steps (s' := (31, [(0, .ref 37), (1, .int x1), (2, .int x2)], [.ref 17], (h2.1, h2.2.1, 17))) 2 rfl).trans ?_
    refine (z_X_steps (s' := (35, [(0, .ref 37), (1, .int x1), (2, .int x2)], [.int x1, .ref (17 + 1)], (h2.1, h2.2.1, 17))) 2 rfl).trans ?_
    refine (z_X_if (g := z_in x1 6) (s' := (36, [(0, .ref 37), (1, .int x1), (2, .int x2)], [.int ((h2.1, h2.2.1, 17).1 (17 + 1) (x1.toNatClampNeg))], (h2.1, h2.2.1, 17))) rfl).trans (z_bifA ?_)
    refine (z_X_br (c := (h2.1, h2.2.1, 17).1 (17 + 1) (x1.toNatClampNeg) ≤ 0) (s1 := (43, [(0, .ref 37), (1, .int x1), (2, .int x2)], [], (h2.1, h2.2.1, 17))) (s2 := (39, [(0, .ref 37), (1, .int x1), (2, .int x2)], [], (h2.1, h2.2.1, 17))) rfl).trans (z_ite ?_ ?_)
    · refine (z_X_steps (s' := (49, [(4, .int 0), (3, .int 9), (0, .ref 37), (1, .int x1), (2, .int x2)], [], (h2.1, h2.2.1, 17))) 4 rfl).trans ?_
      exact z_X_lab rfl
    · refine (z_X_steps (s' := (49, [(4, .int 0), (3, .int 0), (0, .ref 37), (1, .int x1), (2, .int x2)], [], (h2.1, h2.2.1, 17))) 5 rfl).trans ?_
      exact z_X_lab rfl
  · show z_X zc_Ru_enter ρ (0, [(0, .ref 37), (1, .int x1), (2, .int x2)], [], (I, L, 25)) = _
    refine (z_X_steps (s' := (24, [(0, .ref 37), (1, .int x1), (2, .int x2)], [.int (100 + x1), .ref 38], (z_wI (I, L, 25) 37 0 (((31 * ((I, L, 25).1 37 0)) + x1) + 101)))) 15 rfl).trans ?_
    refine (z_X_call (id := 103) (a := [.ref 38, .int (100 + x1)]) (c := 0) (s' := (27, [(0, .ref 37), (1, .int x1), (2, .int x2)], [], (z_wI (I, L, 25) 37 0 (((31 * ((I, L, 25).1 37 0)) + x1) + 101)))) rfl ⟨Nat.lt_of_lt_of_le (Nat.le_of_ble_eq_true rfl : z_rank 103 [.ref 38, .int (100 + x1)] < 5) hρ0, Nat.le_of_ble_eq_true rfl⟩).trans ?_
    refine (z_bdD 25 rfl rfl).trans (z_bdc fun r1 h2 => ?_)
    refine (z_X_steps (s' := (31, [(0, .ref 37), (1, .int x1), (2, .int x2)], [.ref 25], (h2.1, h2.2.1, 25))) 2 rfl).trans ?_
    refine (z_X_steps (s' := (35, [(0, .ref 37), (1, .int x1), (2, .int x2)], [.int x1, .ref (25 + 1)], (h2.1, h2.2.1, 25))) 2 rfl).trans ?_
    refine (z_X_if (g := z_in x1 6) (s' := (36, [(0, .ref 37), (1, .int x1), (2, .int x2)], [.int ((h2.1, h2.2.1, 25).1 (25 + 1) (x1.toNatClampNeg))], (h2.1, h2.2.1, 25))) rfl).trans (z_bifA ?_)
    refine (z_X_br (c := (h2.1, h2.2.1, 25).1 (25 + 1) (x1.toNatClampNeg) ≤ 0) (s1 := (43, [(0, .ref 37), (1, .int x1), (2, .int x2)], [], (h2.1, h2.2.1, 25))) (s2 := (39, [(0, .ref 37), (1, .int x1), (2, .int x2)], [], (h2.1, h2.2.1, 25))) rfl).trans (z_ite ?_ ?_)
    · refine (z_X_steps (s' := (49, [(4, .int 0), (3, .int 9), (0, .ref 37), (1, .int x1), (2, .int x2)], [], (h2.1, h2.2.1, 25))) 4 rfl).trans ?_
      exact z_X_lab rfl
    · refine (z_X_steps (s' := (49, [(4, .int 0), (3, .int 0), (0, .ref 37), (1, .int x1), (2, .int x2)], [], (h2.1, h2.2.1, 25))) 5 rfl).trans ?_
      exact z_X_lab rfl
set_option maxRecDepth 8000 in
set_option maxHeartbeats 2000000 in
theorem e_Ru_enter_49 {ρ : Nat} {d : Nat} (hi : d ∈ [17, 25]) (x1 : Int32) (x2 : Int32) (x3 : Int32) (x4 : Int32) (I : Nat → Nat → Int32) (L : Nat → Nat → Int64) (hρ : z_rank 97 [.int (x2)] < ρ) : zl_Ru_enter_49 ρ d x1 x2 x3 x4 (I, L, d) = (if (60 : Int32) < x4 then some (0, (I, L, d)) else (if x3 = 9 then some (0, (I, L, d)) else z_bd (z_M 97 [.ref 37, .int x1, .int x3, .int x2] (I, L, d)) (fun r1 h2 => zl_Ru_enter_49 ρ d x1 x2 r1 (x4 + 1) (h2.1, h2.2.1, d)))) := by
  simp only [List.mem_cons, List.not_mem_nil, or_false, Prod.mk.injEq] at hi
  rcases hi with rfl | rfl
  · show z_X zc_Ru_enter ρ (49, [(0, .ref 37), (1, .int x1), (2, .int x2), (3, .int x3), (4, .int x4)], [], (I, L, 17)) = _
    refine (z_X_steps (s' := (53, [(0, .ref 37), (1, .int x1), (2, .int x2), (3, .int x3), (4, .int x4)], [.int 60, .int x4], (I, L, 17))) 2 rfl).trans ?_
    refine (z_X_br (c := (60 : Int32) < x4) (s1 := (76, [(0, .ref 37), (1, .int x1), (2, .int x2), (3, .int x3), (4, .int x4)], [], (I, L, 17))) (s2 := (56, [(0, .ref 37), (1, .int x1), (2, .int x2), (3, .int x3), (4, .int x4)], [], (I, L, 17))) rfl).trans (z_ite ?_ ?_)
    · exact z_X_ret rfl
    · refine (z_X_steps (s' := (59, [(0, .ref 37), (1, .int x1), (2, .int x2), (3, .int x3), (4, .int x4)], [.int 9, .int x3], (I, L, 17))) 2 rfl).trans ?_
      refine (z_X_br (c := x3 = 9) (s1 := (76, [(0, .ref 37), (1, .int x1), (2, .int x2), (3, .int x3), (4, .int x4)], [], (I, L, 17))) (s2 := (62, [(0, .ref 37), (1, .int x1), (2, .int x2), (3, .int x3), (4, .int x4)], [], (I, L, 17))) rfl).trans (z_ite ?_ ?_)
      · exact z_X_ret rfl
      · refine (z_X_steps (s' := (66, [(0, .ref 37), (1, .int x1), (2, .int x2), (3, .int x3), (4, .int x4)], [.int x2, .int x3, .int x1, .ref 37], (I, L, 17))) 4 rfl).trans ?_
        refine (z_X_call (id := 97) (a := [.ref 37, .int x1, .int x3, .int x2]) (c := 1) (s' := (69, [(0, .ref 37), (1, .int x1), (2, .int x2), (3, .int x3), (4, .int x4)], [], (I, L, 17))) rfl ⟨hρ, Nat.le_of_ble_eq_true rfl⟩).trans ?_
        refine (z_bdD 17 rfl rfl).trans (z_bdc fun r1 h2 => ?_)
        refine (z_X_steps (s' := (49, [(4, .int (x4 + 1)), (3, .int r1), (0, .ref 37), (1, .int x1), (2, .int x2)], [], (h2.1, h2.2.1, 17))) 3 rfl).trans ?_
        exact z_X_lab rfl
  · show z_X zc_Ru_enter ρ (49, [(0, .ref 37), (1, .int x1), (2, .int x2), (3, .int x3), (4, .int x4)], [], (I, L, 25)) = _
    refine (z_X_steps (s' := (53, [(0, .ref 37), (1, .int x1), (2, .int x2), (3, .int x3), (4, .int x4)], [.int 60, .int x4], (I, L, 25))) 2 rfl).trans ?_
    refine (z_X_br (c := (60 : Int32) < x4) (s1 := (76, [(0, .ref 37), (1, .int x1), (2, .int x2), (3, .int x3), (4, .int x4)], [], (I, L, 25))) (s2 := (56, [(0, .ref 37), (1, .int x1), (2, .int x2), (3, .int x3), (4, .int x4)], [], (I, L, 25))) rfl).trans (z_ite ?_ ?_)
    · exact z_X_ret rfl
    · refine (z_X_steps (s' := (59, [(0, .ref 37), (1, .int x1), (2, .int x2), (3, .int x3), (4, .int x4)], [.int 9, .int x3], (I, L, 25))) 2 rfl).trans ?_
      refine (z_X_br (c := x3 = 9) (s1 := (76, [(0, .ref 37), (1, .int x1), (2, .int x2), (3, .int x3), (4, .int x4)], [], (I, L, 25))) (s2 := (62, [(0, .ref 37), (1, .int x1), (2, .int x2), (3, .int x3), (4, .int x4)], [], (I, L, 25))) rfl).trans (z_ite ?_ ?_)
      · exact z_X_ret rfl
      · refine (z_X_steps (s' := (66, [(0, .ref 37), (1, .int x1), (2, .int x2), (3, .int x3), (4, .int x4)], [.int x2, .int x3, .int x1, .ref 37], (I, L, 25))) 4 rfl).trans ?_
        refine (z_X_call (id := 97) (a := [.ref 37, .int x1, .int x3, .int x2]) (c := 1) (s' := (69, [(0, .ref 37), (1, .int x1), (2, .int x2), (3, .int x3), (4, .int x4)], [], (I, L, 25))) rfl ⟨hρ, Nat.le_of_ble_eq_true rfl⟩).trans ?_
        refine (z_bdD 25 rfl rfl).trans (z_bdc fun r1 h2 => ?_)
        refine (z_X_steps (s' := (49, [(4, .int (x4 + 1)), (3, .int r1), (0, .ref 37), (1, .int x1), (2, .int x2)], [], (h2.1, h2.2.1, 25))) 3 rfl).trans ?_
        exact z_X_lab rfl
noncomputable def zl_Ru_visit_103 (ρ : Nat) (d : Nat) (x1 : Int32) (x2 : Int32) (x4 : Int32) (h : z_H) : Option z_A := z_X zc_Ru_visit ρ (103, [(0, .ref 37), (1, .int x1), (2, .int x2), (4, .int x4)], [], h)
set_option maxRecDepth 8000 in
set_option maxHeartbeats 2000000 in
theorem ez_Ru_visit {ρ : Nat} {d : Nat} (hi : d ∈ [17, 25]) (hρ0 : 4 ≤ ρ) (x1 : Int32) (x2 : Int32) (x3 : Int32) (I : Nat → Nat → Int32) (L : Nat → Nat → Int64) (hρ : z_rank 98 [.int (x3)] < ρ) : z_X zc_Ru_visit ρ (0, [(0, .ref 37), (1, .int x1), (2, .int x2), (3, .int x3)], [], (I, L, d)) = (if (I, L, d).1 37 1 < 60 then z_bd (z_M 42 [.int x1, .int x2] (z_wI (I, L, d) 37 1 (((I, L, d).1 37 1) + 1))) (fun r1 h2 => (bif z_in r1 48 then (bif z_in r1 48 then (if ¬ (h2.1, h2.2.1, d).1 (d + 2) (r1.toNatClampNeg) = 1 then zl_Ru_visit_103 ρ d x1 x2 r1 (z_wI (h2.1, h2.2.1, d) 37 0 (((31 * ((h2.1, h2.2.1, d).1 37 0)) + ((h2.1, h2.2.1, d).1 (d + 3) (r1.toNatClampNeg))) + 1)) else z_bd (z_M 98 [.ref 37, .int ((h2.1, h2.2.1, d).1 (d + 3) (r1.toNatClampNeg)), .int x3] (z_wI (h2.1, h2.2.1, d) 37 0 (((31 * ((h2.1, h2.2.1, d).1 37 0)) + ((h2.1, h2.2.1, d).1 (d + 3) (r1.toNatClampNeg))) + 11))) (fun r3 h4 => zl_Ru_visit_103 ρ d x1 x2 r1 (h4.1, h4.2.1, d))) else none) else none)) else some (9, (z_wI (I, L, d) 37 7 1))) := by
  simp only [List.mem_cons, List.not_mem_nil, or_false, Prod.mk.injEq] at hi
  rcases hi with rfl | rfl
  · show z_X zc_Ru_visit ρ (0, [(0, .ref 37), (1, .int x1), (2, .int x2), (3, .int x3)], [], (I, L, 17)) = _
    refine (z_X_steps (s' := (6, [(0, .ref 37), (1, .int x1), (2, .int x2), (3, .int x3)], [.int 60, .int ((I, L, 17).1 37 1)], (I, L, 17))) 3 rfl).trans ?_
    refine (z_X_br (c := (I, L, 17).1 37 1 < 60) (s1 := (17, [(0, .ref 37), (1, .int x1), (2, .int x2), (3, .int x3)], [], (I, L, 17))) (s2 := (9, [(0, .ref 37), (1, .int x1), (2, .int x2), (3, .int x3)], [], (I, L, 17))) rfl).trans (z_ite ?_ ?_)
    · refine (z_X_steps (s' := (29, [(0, .ref 37), (1, .int x1), (2, .int x2), (3, .int x3)], [.int x2, .int x1], (z_wI (I, L, 17) 37 1 (((I, L, 17).1 37 1) + 1)))) 8 rfl).trans ?_
      refine (z_X_call (id := 42) (a := [.int x1, .int x2]) (c := 1) (s' := (32, [(0, .ref 37), (1, .int x1), (2, .int x2), (3, .int x3)], [], (z_wI (I, L, 17) 37 1 (((I, L, 17).1 37 1) + 1)))) rfl ⟨Nat.lt_of_lt_of_le (Nat.le_of_ble_eq_true rfl : z_rank 42 [.int x1, .int x2] < 4) hρ0, Nat.le_of_ble_eq_true rfl⟩).trans ?_
      refine (z_bdD 17 rfl rfl).trans (z_bdc fun r1 h2 => ?_)
      refine (z_X_steps (s' := (38, [(4, .int r1), (0, .ref 37), (1, .int x1), (2, .int x2), (3, .int x3)], [.ref 17], (h2.1, h2.2.1, 17))) 3 rfl).trans ?_
      refine (z_X_steps (s' := (43, [(4, .int r1), (0, .ref 37), (1, .int x1), (2, .int x2), (3, .int x3)], [.int r1, .ref (17 + 3)], (h2.1, h2.2.1, 17))) 2 rfl).trans ?_
      refine (z_X_if (g := z_in r1 48) (s' := (44, [(4, .int r1), (0, .ref 37), (1, .int x1), (2, .int x2), (3, .int x3)], [.int ((h2.1, h2.2.1, 17).1 (17 + 3) (r1.toNatClampNeg))], (h2.1, h2.2.1, 17))) rfl).trans (z_bifA ?_)
      refine (z_X_steps (s' := (50, [(5, .int ((h2.1, h2.2.1, 17).1 (17 + 3) (r1.toNatClampNeg))), (4, .int r1), (0, .ref 37), (1, .int x1), (2, .int x2), (3, .int x3)], [.ref 17], (h2.1, h2.2.1, 17))) 3 rfl).trans ?_
      refine (z_X_steps (s' := (55, [(5, .int ((h2.1, h2.2.1, 17).1 (17 + 3) (r1.toNatClampNeg))), (4, .int r1), (0, .ref 37), (1, .int x1), (2, .int x2), (3, .int x3)], [.int r1, .ref (17 + 2)], (h2.1, h2.2.1, 17))) 2 rfl).trans ?_
      refine (z_X_if (g := z_in r1 48) (s' := (56, [(5, .int ((h2.1, h2.2.1, 17).1 (17 + 3) (r1.toNatClampNeg))), (4, .int r1), (0, .ref 37), (1, .int x1), (2, .int x2), (3, .int x3)], [.int ((h2.1, h2.2.1, 17).1 (17 + 2) (r1.toNatClampNeg))], (h2.1, h2.2.1, 17))) rfl).trans (z_bifA ?_)
      refine (z_X_steps (s' := (57, [(5, .int ((h2.1, h2.2.1, 17).1 (17 + 3) (r1.toNatClampNeg))), (4, .int r1), (0, .ref 37), (1, .int x1), (2, .int x2), (3, .int x3)], [.int 1, .int ((h2.1, h2.2.1, 17).1 (17 + 2) (r1.toNatClampNeg))], (h2.1, h2.2.1, 17))) 1 rfl).trans ?_
      refine (z_X_br (c := ¬ (h2.1, h2.2.1, 17).1 (17 + 2) (r1.toNatClampNeg) = 1) (s1 := (87, [(5, .int ((h2.1, h2.2.1, 17).1 (17 + 3) (r1.toNatClampNeg))), (4, .int r1), (0, .ref 37), (1, .int x1), (2, .int x2), (3, .int x3)], [], (h2.1, h2.2.1, 17))) (s2 := (60, [(5, .int ((h2.1, h2.2.1, 17).1 (17 + 3) (r1.toNatClampNeg))), (4, .int r1), (0, .ref 37), (1, .int x1), (2, .int x2), (3, .int x3)], [], (h2.1, h2.2.1, 17))) rfl).trans (z_ite ?_ ?_)
      · refine (z_X_steps (s' := (103, [(5, .int ((h2.1, h2.2.1, 17).1 (17 + 3) (r1.toNatClampNeg))), (4, .int r1), (0, .ref 37), (1, .int x1), (2, .int x2), (3, .int x3)], [], (z_wI (h2.1, h2.2.1, 17) 37 0 (((31 * ((h2.1, h2.2.1, 17).1 37 0)) + ((h2.1, h2.2.1, 17).1 (17 + 3) (r1.toNatClampNeg))) + 1)))) 10 rfl).trans ?_
        exact z_X_lab rfl
      · refine (z_X_steps (s' := (81, [(5, .int ((h2.1, h2.2.1, 17).1 (17 + 3) (r1.toNatClampNeg))), (4, .int r1), (0, .ref 37), (1, .int x1), (2, .int x2), (3, .int x3)], [.int x3, .int ((h2.1, h2.2.1, 17).1 (17 + 3) (r1.toNatClampNeg)), .ref 37], (z_wI (h2.1, h2.2.1, 17) 37 0 (((31 * ((h2.1, h2.2.1, 17).1 37 0)) + ((h2.1, h2.2.1, 17).1 (17 + 3) (r1.toNatClampNeg))) + 11)))) 13 rfl).trans ?_
        refine (z_X_call (id := 98) (a := [.ref 37, .int ((h2.1, h2.2.1, 17).1 (17 + 3) (r1.toNatClampNeg)), .int x3]) (c := 0) (s' := (84, [(5, .int ((h2.1, h2.2.1, 17).1 (17 + 3) (r1.toNatClampNeg))), (4, .int r1), (0, .ref 37), (1, .int x1), (2, .int x2), (3, .int x3)], [], (z_wI (h2.1, h2.2.1, 17) 37 0 (((31 * ((h2.1, h2.2.1, 17).1 37 0)) + ((h2.1, h2.2.1, 17).1 (17 + 3) (r1.toNatClampNeg))) + 11)))) rfl ⟨hρ, Nat.le_of_ble_eq_true rfl⟩).trans ?_
        refine (z_bdD 17 rfl rfl).trans (z_bdc fun r3 h4 => ?_)
        refine (z_X_steps (s' := (103, [(5, .int ((h2.1, h2.2.1, 17).1 (17 + 3) (r1.toNatClampNeg))), (4, .int r1), (0, .ref 37), (1, .int x1), (2, .int x2), (3, .int x3)], [], (h4.1, h4.2.1, 17))) 1 rfl).trans ?_
        exact z_X_lab rfl
    · refine (z_X_steps (s' := (16, [(0, .ref 37), (1, .int x1), (2, .int x2), (3, .int x3)], [.int 9], (z_wI (I, L, 17) 37 7 1))) 4 rfl).trans ?_
      exact z_X_ret rfl
  · show z_X zc_Ru_visit ρ (0, [(0, .ref 37), (1, .int x1), (2, .int x2), (3, .int x3)], [], (I, L, 25)) = _
    refine (z_X_steps (s' := (6, [(0, .ref 37), (1, .int x1), (2, .int x2), (3, .int x3)], [.int 60, .int ((I, L, 25).1 37 1)], (I, L, 25))) 3 rfl).trans ?_
    refine (z_X_br (c := (I, L, 25).1 37 1 < 60) (s1 := (17, [(0, .ref 37), (1, .int x1), (2, .int x2), (3, .int x3)], [], (I, L, 25))) (s2 := (9, [(0, .ref 37), (1, .int x1), (2, .int x2), (3, .int x3)], [], (I, L, 25))) rfl).trans (z_ite ?_ ?_)
    · refine (z_X_steps (s' := (29, [(0, .ref 37), (1, .int x1), (2, .int x2), (3, .int x3)], [.int x2, .int x1], (z_wI (I, L, 25) 37 1 (((I, L, 25).1 37 1) + 1)))) 8 rfl).trans ?_
      refine (z_X_call (id := 42) (a := [.int x1, .int x2]) (c := 1) (s' := (32, [(0, .ref 37), (1, .int x1), (2, .int x2), (3, .int x3)], [], (z_wI (I, L, 25) 37 1 (((I, L, 25).1 37 1) + 1)))) rfl ⟨Nat.lt_of_lt_of_le (Nat.le_of_ble_eq_true rfl : z_rank 42 [.int x1, .int x2] < 4) hρ0, Nat.le_of_ble_eq_true rfl⟩).trans ?_
      refine (z_bdD 25 rfl rfl).trans (z_bdc fun r1 h2 => ?_)
      refine (z_X_steps (s' := (38, [(4, .int r1), (0, .ref 37), (1, .int x1), (2, .int x2), (3, .int x3)], [.ref 25], (h2.1, h2.2.1, 25))) 3 rfl).trans ?_
      refine (z_X_steps (s' := (43, [(4, .int r1), (0, .ref 37), (1, .int x1), (2, .int x2), (3, .int x3)], [.int r1, .ref (25 + 3)], (h2.1, h2.2.1, 25))) 2 rfl).trans ?_
      refine (z_X_if (g := z_in r1 48) (s' := (44, [(4, .int r1), (0, .ref 37), (1, .int x1), (2, .int x2), (3, .int x3)], [.int ((h2.1, h2.2.1, 25).1 (25 + 3) (r1.toNatClampNeg))], (h2.1, h2.2.1, 25))) rfl).trans (z_bifA ?_)
      refine (z_X_steps (s' := (50, [(5, .int ((h2.1, h2.2.1, 25).1 (25 + 3) (r1.toNatClampNeg))), (4, .int r1), (0, .ref 37), (1, .int x1), (2, .int x2), (3, .int x3)], [.ref 25], (h2.1, h2.2.1, 25))) 3 rfl).trans ?_
      refine (z_X_steps (s' := (55, [(5, .int ((h2.1, h2.2.1, 25).1 (25 + 3) (r1.toNatClampNeg))), (4, .int r1), (0, .ref 37), (1, .int x1), (2, .int x2), (3, .int x3)], [.int r1, .ref (25 + 2)], (h2.1, h2.2.1, 25))) 2 rfl).trans ?_
      refine (z_X_if (g := z_in r1 48) (s' := (56, [(5, .int ((h2.1, h2.2.1, 25).1 (25 + 3) (r1.toNatClampNeg))), (4, .int r1), (0, .ref 37), (1, .int x1), (2, .int x2), (3, .int x3)], [.int ((h2.1, h2.2.1, 25).1 (25 + 2) (r1.toNatClampNeg))], (h2.1, h2.2.1, 25))) rfl).trans (z_bifA ?_)
      refine (z_X_steps (s' := (57, [(5, .int ((h2.1, h2.2.1, 25).1 (25 + 3) (r1.toNatClampNeg))), (4, .int r1), (0, .ref 37), (1, .int x1), (2, .int x2), (3, .int x3)], [.int 1, .int ((h2.1, h2.2.1, 25).1 (25 + 2) (r1.toNatClampNeg))], (h2.1, h2.2.1, 25))) 1 rfl).trans ?_
      refine (z_X_br (c := ¬ (h2.1, h2.2.1, 25).1 (25 + 2) (r1.toNatClampNeg) = 1) (s1 := (87, [(5, .int ((h2.1, h2.2.1, 25).1 (25 + 3) (r1.toNatClampNeg))), (4, .int r1), (0, .ref 37), (1, .int x1), (2, .int x2), (3, .int x3)], [], (h2.1, h2.2.1, 25))) (s2 := (60, [(5, .int ((h2.1, h2.2.1, 25).1 (25 + 3) (r1.toNatClampNeg))), (4, .int r1), (0, .ref 37), (1, .int x1), (2, .int x2), (3, .int x3)], [], (h2.1, h2.2.1, 25))) rfl).trans (z_ite ?_ ?_)
      · refine (z_X_steps (s' := (103, [(5, .int ((h2.1, h2.2.1, 25).1 (25 + 3) (r1.toNatClampNeg))), (4, .int r1), (0, .ref 37), (1, .int x1), (2, .int x2), (3, .int x3)], [], (z_wI (h2.1, h2.2.1, 25) 37 0 (((31 * ((h2.1, h2.2.1, 25).1 37 0)) + ((h2.1, h2.2.1, 25).1 (25 + 3) (r1.toNatClampNeg))) + 1)))) 10 rfl).trans ?_
        exact z_X_lab rfl
      · refine (z_X_steps (s' := (81, [(5, .int ((h2.1, h2.2.1, 25).1 (25 + 3) (r1.toNatClampNeg))), (4, .int r1), (0, .ref 37), (1, .int x1), (2, .int x2), (3, .int x3)], [.int x3, .int ((h2.1, h2.2.1, 25).1 (25 + 3) (r1.toNatClampNeg)), .ref 37], (z_wI (h2.1, h2.2.1, 25) 37 0 (((31 * ((h2.1, h2.2.1, 25).1 37 0)) + ((h2.1, h2.2.1, 25).1 (25 + 3) (r1.toNatClampNeg))) + 11)))) 13 rfl).trans ?_
        refine (z_X_call (id := 98) (a := [.ref 37, .int ((h2.1, h2.2.1, 25).1 (25 + 3) (r1.toNatClampNeg)), .int x3]) (c := 0) (s' := (84, [(5, .int ((h2.1, h2.2.1, 25).1 (25 + 3) (r1.toNatClampNeg))), (4, .int r1), (0, .ref 37), (1, .int x1), (2, .int x2), (3, .int x3)], [], (z_wI (h2.1, h2.2.1, 25) 37 0 (((31 * ((h2.1, h2.2.1, 25).1 37 0)) + ((h2.1, h2.2.1, 25).1 (25 + 3) (r1.toNatClampNeg))) + 11)))) rfl ⟨hρ, Nat.le_of_ble_eq_true rfl⟩).trans ?_
        refine (z_bdD 25 rfl rfl).trans (z_bdc fun r3 h4 => ?_)
        refine (z_X_steps (s' := (103, [(5, .int ((h2.1, h2.2.1, 25).1 (25 + 3) (r1.toNatClampNeg))), (4, .int r1), (0, .ref 37), (1, .int x1), (2, .int x2), (3, .int x3)], [], (h4.1, h4.2.1, 25))) 1 rfl).trans ?_
        exact z_X_lab rfl
    · refine (z_X_steps (s' := (16, [(0, .ref 37), (1, .int x1), (2, .int x2), (3, .int x3)], [.int 9], (z_wI (I, L, 25) 37 7 1))) 4 rfl).trans ?_
      exact z_X_ret rfl
set_option maxRecDepth 8000 in
set_option maxHeartbeats 2000000 in
theorem e_Ru_visit_103 {ρ : Nat} {d : Nat} (hi : d ∈ [17, 25]) (hρ0 : 4 ≤ ρ) (x1 : Int32) (x2 : Int32) (x4 : Int32) (I : Nat → Nat → Int32) (L : Nat → Nat → Int64) : zl_Ru_visit_103 ρ d x1 x2 x4 (I, L, d) = (if (I, L, d).1 37 7 = 0 then (bif z_in x4 48 then z_bd (z_M 99 [.ref 37, .int x1, .int x2, .int ((I, L, d).1 (d + 4) (x4.toNatClampNeg))] (I, L, d)) (fun r1 h2 => some (r1, (h2.1, h2.2.1, d))) else none) else some (9, (I, L, d))) := by
  simp only [List.mem_cons, List.not_mem_nil, or_false, Prod.mk.injEq] at hi
  rcases hi with rfl | rfl
  · show z_X zc_Ru_visit ρ (103, [(0, .ref 37), (1, .int x1), (2, .int x2), (4, .int x4)], [], (I, L, 17)) = _
    refine (z_X_steps (s' := (107, [(0, .ref 37), (1, .int x1), (2, .int x2), (4, .int x4)], [.int ((I, L, 17).1 37 7)], (I, L, 17))) 2 rfl).trans ?_
    refine (z_X_br (c := (I, L, 17).1 37 7 = 0) (s1 := (115, [(0, .ref 37), (1, .int x1), (2, .int x2), (4, .int x4)], [], (I, L, 17))) (s2 := (110, [(0, .ref 37), (1, .int x1), (2, .int x2), (4, .int x4)], [], (I, L, 17))) rfl).trans (z_ite ?_ ?_)
    · refine (z_X_steps (s' := (122, [(0, .ref 37), (1, .int x1), (2, .int x2), (4, .int x4)], [.ref 17, .int x2, .int x1, .ref 37], (I, L, 17))) 5 rfl).trans ?_
      refine (z_X_steps (s' := (127, [(0, .ref 37), (1, .int x1), (2, .int x2), (4, .int x4)], [.int x4, .ref (17 + 4), .int x2, .int x1, .ref 37], (I, L, 17))) 2 rfl).trans ?_
      refine (z_X_if (g := z_in x4 48) (s' := (128, [(0, .ref 37), (1, .int x1), (2, .int x2), (4, .int x4)], [.int ((I, L, 17).1 (17 + 4) (x4.toNatClampNeg)), .int x2, .int x1, .ref 37], (I, L, 17))) rfl).trans (z_bifA ?_)
      refine (z_X_call (id := 99) (a := [.ref 37, .int x1, .int x2, .int ((I, L, 17).1 (17 + 4) (x4.toNatClampNeg))]) (c := 1) (s' := (131, [(0, .ref 37), (1, .int x1), (2, .int x2), (4, .int x4)], [], (I, L, 17))) rfl ⟨Nat.lt_of_lt_of_le (Nat.le_of_ble_eq_true rfl : z_rank 99 [.ref 37, .int x1, .int x2, .int ((I, L, 17).1 (17 + 4) (x4.toNatClampNeg))] < 4) hρ0, Nat.le_of_ble_eq_true rfl⟩).trans ?_
      refine (z_bdD 17 rfl rfl).trans (z_bdc fun r1 h2 => ?_)
      exact z_X_ret rfl
    · refine (z_X_steps (s' := (131, [(0, .ref 37), (1, .int x1), (2, .int x2), (4, .int x4)], [.int 9], (I, L, 17))) 2 rfl).trans ?_
      exact z_X_ret rfl
  · show z_X zc_Ru_visit ρ (103, [(0, .ref 37), (1, .int x1), (2, .int x2), (4, .int x4)], [], (I, L, 25)) = _
    refine (z_X_steps (s' := (107, [(0, .ref 37), (1, .int x1), (2, .int x2), (4, .int x4)], [.int ((I, L, 25).1 37 7)], (I, L, 25))) 2 rfl).trans ?_
    refine (z_X_br (c := (I, L, 25).1 37 7 = 0) (s1 := (115, [(0, .ref 37), (1, .int x1), (2, .int x2), (4, .int x4)], [], (I, L, 25))) (s2 := (110, [(0, .ref 37), (1, .int x1), (2, .int x2), (4, .int x4)], [], (I, L, 25))) rfl).trans (z_ite ?_ ?_)
    · refine (z_X_steps (s' := (122, [(0, .ref 37), (1, .int x1), (2, .int x2), (4, .int x4)], [.ref 25, .int x2, .int x1, .ref 37], (I, L, 25))) 5 rfl).trans ?_
      refine (z_X_steps (s' := (127, [(0, .ref 37), (1, .int x1), (2, .int x2), (4, .int x4)], [.int x4, .ref (25 + 4), .int x2, .int x1, .ref 37], (I, L, 25))) 2 rfl).trans ?_
      refine (z_X_if (g := z_in x4 48) (s' := (128, [(0, .ref 37), (1, .int x1), (2, .int x2), (4, .int x4)], [.int ((I, L, 25).1 (25 + 4) (x4.toNatClampNeg)), .int x2, .int x1, .ref 37], (I, L, 25))) rfl).trans (z_bifA ?_)
      refine (z_X_call (id := 99) (a := [.ref 37, .int x1, .int x2, .int ((I, L, 25).1 (25 + 4) (x4.toNatClampNeg))]) (c := 1) (s' := (131, [(0, .ref 37), (1, .int x1), (2, .int x2), (4, .int x4)], [], (I, L, 25))) rfl ⟨Nat.lt_of_lt_of_le (Nat.le_of_ble_eq_true rfl : z_rank 99 [.ref 37, .int x1, .int x2, .int ((I, L, 25).1 (25 + 4) (x4.toNatClampNeg))] < 4) hρ0, Nat.le_of_ble_eq_true rfl⟩).trans ?_
      refine (z_bdD 25 rfl rfl).trans (z_bdc fun r1 h2 => ?_)
      exact z_X_ret rfl
    · refine (z_X_steps (s' := (131, [(0, .ref 37), (1, .int x1), (2, .int x2), (4, .int x4)], [.int 9], (I, L, 25))) 2 rfl).trans ?_
      exact z_X_ret rfl
set_option maxRecDepth 8000 in
set_option maxHeartbeats 2000000 in
theorem ez_Ru_enterMeant {ρ : Nat} {d : Nat} (hi : d ∈ [17, 25]) (hρ0 : 3 ≤ ρ) (x1 : Int32) (x2 : Int32) (I : Nat → Nat → Int32) (L : Nat → Nat → Int64) (hρ : z_rank 96 [.int (x2 + 1)] < ρ) : z_X zc_Ru_enterMeant ρ (0, [(0, .ref 37), (1, .int x1), (2, .int x2)], [], (I, L, d)) = z_bd (z_M 44 [.int ((I, L, d).1 37 4), .int x1] (I, L, d)) (fun r1 h2 => z_bd (z_M 103 [.ref 38, .int r1] (h2.1, h2.2.1, d)) (fun r3 h4 => z_bd (z_M 79 [.ref d, .int ((h4.1, h4.2.1, d).1 37 4), .int x1] (h4.1, h4.2.1, d)) (fun r5 h6 => (if r5 = (-4) then some (0, (h6.1, h6.2.1, d)) else (if (4 : Int32) ≤ x2 then some (0, (h6.1, h6.2.1, d)) else z_bd (z_M 96 [.ref 37, .int r5, .int (x2 + 1)] (h6.1, h6.2.1, d)) (fun r7 h8 => some (0, (h8.1, h8.2.1, d)))))))) := by
  simp only [List.mem_cons, List.not_mem_nil, or_false, Prod.mk.injEq] at hi
  rcases hi with rfl | rfl
  · show z_X zc_Ru_enterMeant ρ (0, [(0, .ref 37), (1, .int x1), (2, .int x2)], [], (I, L, 17)) = _
    refine (z_X_steps (s' := (9, [(0, .ref 37), (1, .int x1), (2, .int x2)], [.int x1, .int ((I, L, 17).1 37 4), .ref 38], (I, L, 17))) 5 rfl).trans ?_
    refine (z_X_call (id := 44) (a := [.int ((I, L, 17).1 37 4), .int x1]) (c := 1) (s' := (12, [(0, .ref 37), (1, .int x1), (2, .int x2)], [.ref 38], (I, L, 17))) rfl ⟨Nat.lt_of_lt_of_le (Nat.le_of_ble_eq_true rfl : z_rank 44 [.int ((I, L, 17).1 37 4), .int x1] < 3) hρ0, Nat.le_of_ble_eq_true rfl⟩).trans ?_
    refine (z_bdD 17 rfl rfl).trans (z_bdc fun r1 h2 => ?_)
    refine (z_X_call (id := 103) (a := [.ref 38, .int r1]) (c := 0) (s' := (15, [(0, .ref 37), (1, .int x1), (2, .int x2)], [], (h2.1, h2.2.1, 17))) rfl ⟨Nat.lt_of_lt_of_le (Nat.le_of_ble_eq_true rfl : z_rank 103 [.ref 38, .int r1] < 3) hρ0, Nat.le_of_ble_eq_true rfl⟩).trans ?_
    refine (z_bdD 17 rfl rfl).trans (z_bdc fun r3 h4 => ?_)
    refine (z_X_steps (s' := (19, [(0, .ref 37), (1, .int x1), (2, .int x2)], [.ref 17], (h4.1, h4.2.1, 17))) 2 rfl).trans ?_
    refine (z_X_steps (s' := (24, [(0, .ref 37), (1, .int x1), (2, .int x2)], [.int x1, .int ((h4.1, h4.2.1, 17).1 37 4), .ref 17], (h4.1, h4.2.1, 17))) 3 rfl).trans ?_
    refine (z_X_call (id := 79) (a := [.ref 17, .int ((h4.1, h4.2.1, 17).1 37 4), .int x1]) (c := 1) (s' := (27, [(0, .ref 37), (1, .int x1), (2, .int x2)], [], (h4.1, h4.2.1, 17))) rfl ⟨Nat.lt_of_lt_of_le (Nat.le_of_ble_eq_true rfl : z_rank 79 [.ref 17, .int ((h4.1, h4.2.1, 17).1 37 4), .int x1] < 3) hρ0, Nat.le_of_ble_eq_true rfl⟩).trans ?_
    refine (z_bdD 17 rfl rfl).trans (z_bdc fun r5 h6 => ?_)
    refine (z_X_steps (s' := (31, [(3, .int r5), (0, .ref 37), (1, .int x1), (2, .int x2)], [.int (-4), .int r5], (h6.1, h6.2.1, 17))) 3 rfl).trans ?_
    refine (z_X_br (c := r5 = (-4)) (s1 := (47, [(3, .int r5), (0, .ref 37), (1, .int x1), (2, .int x2)], [], (h6.1, h6.2.1, 17))) (s2 := (34, [(3, .int r5), (0, .ref 37), (1, .int x1), (2, .int x2)], [], (h6.1, h6.2.1, 17))) rfl).trans (z_ite ?_ ?_)
    · exact z_X_ret rfl
    · refine (z_X_steps (s' := (36, [(3, .int r5), (0, .ref 37), (1, .int x1), (2, .int x2)], [.int 4, .int x2], (h6.1, h6.2.1, 17))) 2 rfl).trans ?_
      refine (z_X_br (c := (4 : Int32) ≤ x2) (s1 := (47, [(3, .int r5), (0, .ref 37), (1, .int x1), (2, .int x2)], [], (h6.1, h6.2.1, 17))) (s2 := (39, [(3, .int r5), (0, .ref 37), (1, .int x1), (2, .int x2)], [], (h6.1, h6.2.1, 17))) rfl).trans (z_ite ?_ ?_)
      · exact z_X_ret rfl
      · refine (z_X_steps (s' := (44, [(3, .int r5), (0, .ref 37), (1, .int x1), (2, .int x2)], [.int (x2 + 1), .int r5, .ref 37], (h6.1, h6.2.1, 17))) 5 rfl).trans ?_
        refine (z_X_call (id := 96) (a := [.ref 37, .int r5, .int (x2 + 1)]) (c := 0) (s' := (47, [(3, .int r5), (0, .ref 37), (1, .int x1), (2, .int x2)], [], (h6.1, h6.2.1, 17))) rfl ⟨hρ, Nat.le_of_ble_eq_true rfl⟩).trans ?_
        refine (z_bdD 17 rfl rfl).trans (z_bdc fun r7 h8 => ?_)
        exact z_X_ret rfl
  · show z_X zc_Ru_enterMeant ρ (0, [(0, .ref 37), (1, .int x1), (2, .int x2)], [], (I, L, 25)) = _
    refine (z_X_steps (s' := (9, [(0, .ref 37), (1, .int x1), (2, .int x2)], [.int x1, .int ((I, L, 25).1 37 4), .ref 38], (I, L, 25))) 5 rfl).trans ?_
    refine (z_X_call (id := 44) (a := [.int ((I, L, 25).1 37 4), .int x1]) (c := 1) (s' := (12, [(0, .ref 37), (1, .int x1), (2, .int x2)], [.ref 38], (I, L, 25))) rfl ⟨Nat.lt_of_lt_of_le (Nat.le_of_ble_eq_true rfl : z_rank 44 [.int ((I, L, 25).1 37 4), .int x1] < 3) hρ0, Nat.le_of_ble_eq_true rfl⟩).trans ?_
    refine (z_bdD 25 rfl rfl).trans (z_bdc fun r1 h2 => ?_)
    refine (z_X_call (id := 103) (a := [.ref 38, .int r1]) (c := 0) (s' := (15, [(0, .ref 37), (1, .int x1), (2, .int x2)], [], (h2.1, h2.2.1, 25))) rfl ⟨Nat.lt_of_lt_of_le (Nat.le_of_ble_eq_true rfl : z_rank 103 [.ref 38, .int r1] < 3) hρ0, Nat.le_of_ble_eq_true rfl⟩).trans ?_
    refine (z_bdD 25 rfl rfl).trans (z_bdc fun r3 h4 => ?_)
    refine (z_X_steps (s' := (19, [(0, .ref 37), (1, .int x1), (2, .int x2)], [.ref 25], (h4.1, h4.2.1, 25))) 2 rfl).trans ?_
    refine (z_X_steps (s' := (24, [(0, .ref 37), (1, .int x1), (2, .int x2)], [.int x1, .int ((h4.1, h4.2.1, 25).1 37 4), .ref 25], (h4.1, h4.2.1, 25))) 3 rfl).trans ?_
    refine (z_X_call (id := 79) (a := [.ref 25, .int ((h4.1, h4.2.1, 25).1 37 4), .int x1]) (c := 1) (s' := (27, [(0, .ref 37), (1, .int x1), (2, .int x2)], [], (h4.1, h4.2.1, 25))) rfl ⟨Nat.lt_of_lt_of_le (Nat.le_of_ble_eq_true rfl : z_rank 79 [.ref 25, .int ((h4.1, h4.2.1, 25).1 37 4), .int x1] < 3) hρ0, Nat.le_of_ble_eq_true rfl⟩).trans ?_
    refine (z_bdD 25 rfl rfl).trans (z_bdc fun r5 h6 => ?_)
    refine (z_X_steps (s' := (31, [(3, .int r5), (0, .ref 37), (1, .int x1), (2, .int x2)], [.int (-4), .int r5], (h6.1, h6.2.1, 25))) 3 rfl).trans ?_
    refine (z_X_br (c := r5 = (-4)) (s1 := (47, [(3, .int r5), (0, .ref 37), (1, .int x1), (2, .int x2)], [], (h6.1, h6.2.1, 25))) (s2 := (34, [(3, .int r5), (0, .ref 37), (1, .int x1), (2, .int x2)], [], (h6.1, h6.2.1, 25))) rfl).trans (z_ite ?_ ?_)
    · exact z_X_ret rfl
    · refine (z_X_steps (s' := (36, [(3, .int r5), (0, .ref 37), (1, .int x1), (2, .int x2)], [.int 4, .int x2], (h6.1, h6.2.1, 25))) 2 rfl).trans ?_
      refine (z_X_br (c := (4 : Int32) ≤ x2) (s1 := (47, [(3, .int r5), (0, .ref 37), (1, .int x1), (2, .int x2)], [], (h6.1, h6.2.1, 25))) (s2 := (39, [(3, .int r5), (0, .ref 37), (1, .int x1), (2, .int x2)], [], (h6.1, h6.2.1, 25))) rfl).trans (z_ite ?_ ?_)
      · exact z_X_ret rfl
      · refine (z_X_steps (s' := (44, [(3, .int r5), (0, .ref 37), (1, .int x1), (2, .int x2)], [.int (x2 + 1), .int r5, .ref 37], (h6.1, h6.2.1, 25))) 5 rfl).trans ?_
        refine (z_X_call (id := 96) (a := [.ref 37, .int r5, .int (x2 + 1)]) (c := 0) (s' := (47, [(3, .int r5), (0, .ref 37), (1, .int x1), (2, .int x2)], [], (h6.1, h6.2.1, 25))) rfl ⟨hρ, Nat.le_of_ble_eq_true rfl⟩).trans ?_
        refine (z_bdD 25 rfl rfl).trans (z_bdc fun r7 h8 => ?_)
        exact z_X_ret rfl
noncomputable def zl_Ru_goOn_22 (d : Nat) (s0 : Int32) (s1 : Int32) (s2 : Int32) (h : z_H) : Option z_A := z_X zc_Ru_goOn 2 (22, [(0, .ref 37)], [.int s2, .int s1, .int s0], h)
set_option maxRecDepth 8000 in
set_option maxHeartbeats 2000000 in
theorem e_Ru_goOn {d : Nat} (hi : d ∈ [17, 25]) (x1 : Int32) (x2 : Int32) (x3 : Int32) (I : Nat → Nat → Int32) (L : Nat → Nat → Int64) : z_M 99 [.ref 37, .int x1, .int x2, .int x3] (I, L, d) = (if ¬ x3 = 0 then (if ¬ x3 = 1 then z_bd (z_M 100 [.ref 37] (I, L, d)) (fun r1 h2 => zl_Ru_goOn_22 d x1 x2 r1 (h2.1, h2.2.1, d)) else zl_Ru_goOn_22 d x1 x2 0 (I, L, d)) else some (9, (I, L, d))) := by
  refine (z_M_eq (by decide)).trans ?_
  simp only [List.mem_cons, List.not_mem_nil, or_false, Prod.mk.injEq] at hi
  rcases hi with rfl | rfl
  · show z_X zc_Ru_goOn 2 (0, [(0, .ref 37), (1, .int x1), (2, .int x2), (3, .int x3)], [], (I, L, 17)) = _
    refine (z_X_steps (s' := (1, [(0, .ref 37), (1, .int x1), (2, .int x2), (3, .int x3)], [.int x3], (I, L, 17))) 1 rfl).trans ?_
    refine (z_X_br (c := ¬ x3 = 0) (s1 := (7, [(0, .ref 37), (1, .int x1), (2, .int x2), (3, .int x3)], [], (I, L, 17))) (s2 := (4, [(0, .ref 37), (1, .int x1), (2, .int x2), (3, .int x3)], [], (I, L, 17))) rfl).trans (z_ite ?_ ?_)
    · refine (z_X_steps (s' := (11, [(0, .ref 37), (1, .int x1), (2, .int x2), (3, .int x3)], [.int 1, .int x3, .int x2, .int x1], (I, L, 17))) 4 rfl).trans ?_
      refine (z_X_br (c := ¬ x3 = 1) (s1 := (18, [(0, .ref 37), (1, .int x1), (2, .int x2), (3, .int x3)], [.int x2, .int x1], (I, L, 17))) (s2 := (14, [(0, .ref 37), (1, .int x1), (2, .int x2), (3, .int x3)], [.int x2, .int x1], (I, L, 17))) rfl).trans (z_ite ?_ ?_)
      · refine (z_X_steps (s' := (19, [(0, .ref 37), (1, .int x1), (2, .int x2), (3, .int x3)], [.ref 37, .int x2, .int x1], (I, L, 17))) 1 rfl).trans ?_
        refine (z_X_call (id := 100) (a := [.ref 37]) (c := 1) (s' := (22, [(0, .ref 37), (1, .int x1), (2, .int x2), (3, .int x3)], [.int x2, .int x1], (I, L, 17))) rfl ⟨Nat.le_of_ble_eq_true rfl, Nat.le_of_ble_eq_true rfl⟩).trans ?_
        refine (z_bdD 17 rfl rfl).trans (z_bdc fun r1 h2 => ?_)
        exact z_X_lab rfl
      · refine (z_X_steps (s' := (22, [(0, .ref 37), (1, .int x1), (2, .int x2), (3, .int x3)], [.int 0, .int x2, .int x1], (I, L, 17))) 2 rfl).trans ?_
        exact z_X_lab rfl
    · refine (z_X_steps (s' := (6, [(0, .ref 37), (1, .int x1), (2, .int x2), (3, .int x3)], [.int 9], (I, L, 17))) 1 rfl).trans ?_
      exact z_X_ret rfl
  · show z_X zc_Ru_goOn 2 (0, [(0, .ref 37), (1, .int x1), (2, .int x2), (3, .int x3)], [], (I, L, 25)) = _
    refine (z_X_steps (s' := (1, [(0, .ref 37), (1, .int x1), (2, .int x2), (3, .int x3)], [.int x3], (I, L, 25))) 1 rfl).trans ?_
    refine (z_X_br (c := ¬ x3 = 0) (s1 := (7, [(0, .ref 37), (1, .int x1), (2, .int x2), (3, .int x3)], [], (I, L, 25))) (s2 := (4, [(0, .ref 37), (1, .int x1), (2, .int x2), (3, .int x3)], [], (I, L, 25))) rfl).trans (z_ite ?_ ?_)
    · refine (z_X_steps (s' := (11, [(0, .ref 37), (1, .int x1), (2, .int x2), (3, .int x3)], [.int 1, .int x3, .int x2, .int x1], (I, L, 25))) 4 rfl).trans ?_
      refine (z_X_br (c := ¬ x3 = 1) (s1 := (18, [(0, .ref 37), (1, .int x1), (2, .int x2), (3, .int x3)], [.int x2, .int x1], (I, L, 25))) (s2 := (14, [(0, .ref 37), (1, .int x1), (2, .int x2), (3, .int x3)], [.int x2, .int x1], (I, L, 25))) rfl).trans (z_ite ?_ ?_)
      · refine (z_X_steps (s' := (19, [(0, .ref 37), (1, .int x1), (2, .int x2), (3, .int x3)], [.ref 37, .int x2, .int x1], (I, L, 25))) 1 rfl).trans ?_
        refine (z_X_call (id := 100) (a := [.ref 37]) (c := 1) (s' := (22, [(0, .ref 37), (1, .int x1), (2, .int x2), (3, .int x3)], [.int x2, .int x1], (I, L, 25))) rfl ⟨Nat.le_of_ble_eq_true rfl, Nat.le_of_ble_eq_true rfl⟩).trans ?_
        refine (z_bdD 25 rfl rfl).trans (z_bdc fun r1 h2 => ?_)
        exact z_X_lab rfl
      · refine (z_X_steps (s' := (22, [(0, .ref 37), (1, .int x1), (2, .int x2), (3, .int x3)], [.int 0, .int x2, .int x1], (I, L, 25))) 2 rfl).trans ?_
        exact z_X_lab rfl
    · refine (z_X_steps (s' := (6, [(0, .ref 37), (1, .int x1), (2, .int x2), (3, .int x3)], [.int 9], (I, L, 25))) 1 rfl).trans ?_
      exact z_X_ret rfl
set_option maxRecDepth 8000 in
set_option maxHeartbeats 2000000 in
theorem e_Ru_goOn_22 {d : Nat} (hi : d ∈ [17, 25]) (s0 : Int32) (s1 : Int32) (s2 : Int32) (I : Nat → Nat → Int32) (L : Nat → Nat → Int64) : zl_Ru_goOn_22 d s0 s1 s2 (I, L, d) = z_bd (z_M 43 [.int s0, .int s1, .int s2] (I, L, d)) (fun r1 h2 => z_bd (z_M 103 [.ref 38, .int r1] (h2.1, h2.2.1, d)) (fun r3 h4 => (bif z_in r1 96 then some ((h4.1, h4.2.1, d).1 (d + 5) (r1.toNatClampNeg), (h4.1, h4.2.1, d)) else none))) := by
  simp only [List.mem_cons, List.not_mem_nil, or_false, Prod.mk.injEq] at hi
  rcases hi with rfl | rfl
  · show z_X zc_Ru_goOn 2 (22, [(0, .ref 37)], [.int s2, .int s1, .int s0], (I, L, 17)) = _
    refine (z_X_call (id := 43) (a := [.int s0, .int s1, .int s2]) (c := 1) (s' := (25, [(0, .ref 37)], [], (I, L, 17))) rfl ⟨Nat.le_of_ble_eq_true rfl, Nat.le_of_ble_eq_true rfl⟩).trans ?_
    refine (z_bdD 17 rfl rfl).trans (z_bdc fun r1 h2 => ?_)
    refine (z_X_steps (s' := (33, [(4, .int r1), (0, .ref 37)], [.int r1, .ref 38], (h2.1, h2.2.1, 17))) 4 rfl).trans ?_
    refine (z_X_call (id := 103) (a := [.ref 38, .int r1]) (c := 0) (s' := (36, [(4, .int r1), (0, .ref 37)], [], (h2.1, h2.2.1, 17))) rfl ⟨Nat.le_of_ble_eq_true rfl, Nat.le_of_ble_eq_true rfl⟩).trans ?_
    refine (z_bdD 17 rfl rfl).trans (z_bdc fun r3 h4 => ?_)
    refine (z_X_steps (s' := (40, [(4, .int r1), (0, .ref 37)], [.ref 17], (h4.1, h4.2.1, 17))) 2 rfl).trans ?_
    refine (z_X_steps (s' := (45, [(4, .int r1), (0, .ref 37)], [.int r1, .ref (17 + 5)], (h4.1, h4.2.1, 17))) 2 rfl).trans ?_
    refine (z_X_if (g := z_in r1 96) (s' := (46, [(4, .int r1), (0, .ref 37)], [.int ((h4.1, h4.2.1, 17).1 (17 + 5) (r1.toNatClampNeg))], (h4.1, h4.2.1, 17))) rfl).trans (z_bifA ?_)
    exact z_X_ret rfl
  · show z_X zc_Ru_goOn 2 (22, [(0, .ref 37)], [.int s2, .int s1, .int s0], (I, L, 25)) = _
    refine (z_X_call (id := 43) (a := [.int s0, .int s1, .int s2]) (c := 1) (s' := (25, [(0, .ref 37)], [], (I, L, 25))) rfl ⟨Nat.le_of_ble_eq_true rfl, Nat.le_of_ble_eq_true rfl⟩).trans ?_
    refine (z_bdD 25 rfl rfl).trans (z_bdc fun r1 h2 => ?_)
    refine (z_X_steps (s' := (33, [(4, .int r1), (0, .ref 37)], [.int r1, .ref 38], (h2.1, h2.2.1, 25))) 4 rfl).trans ?_
    refine (z_X_call (id := 103) (a := [.ref 38, .int r1]) (c := 0) (s' := (36, [(4, .int r1), (0, .ref 37)], [], (h2.1, h2.2.1, 25))) rfl ⟨Nat.le_of_ble_eq_true rfl, Nat.le_of_ble_eq_true rfl⟩).trans ?_
    refine (z_bdD 25 rfl rfl).trans (z_bdc fun r3 h4 => ?_)
    refine (z_X_steps (s' := (40, [(4, .int r1), (0, .ref 37)], [.ref 25], (h4.1, h4.2.1, 25))) 2 rfl).trans ?_
    refine (z_X_steps (s' := (45, [(4, .int r1), (0, .ref 37)], [.int r1, .ref (25 + 5)], (h4.1, h4.2.1, 25))) 2 rfl).trans ?_
    refine (z_X_if (g := z_in r1 96) (s' := (46, [(4, .int r1), (0, .ref 37)], [.int ((h4.1, h4.2.1, 25).1 (25 + 5) (r1.toNatClampNeg))], (h4.1, h4.2.1, 25))) rfl).trans (z_bifA ?_)
    exact z_X_ret rfl
set_option maxRecDepth 8000 in
set_option maxHeartbeats 2000000 in
theorem e_Ru_decide (h : z_H) : z_M 100 [.ref 37] h = some (((h.1 37 5) >>> (((h.1 37 6) &&& 7) &&& 31)) &&& 1, (z_wI h 37 6 ((h.1 37 6) + 1))) := by
  refine (z_M_eq (by decide)).trans ?_
  show z_X zc_Ru_decide 1 (0, [(0, .ref 37)], [], h) = _
  refine (z_X_steps (s' := (26, [(1, .int (((h.1 37 5) >>> (((h.1 37 6) &&& 7) &&& 31)) &&& 1)), (0, .ref 37)], [.int (((h.1 37 5) >>> (((h.1 37 6) &&& 7) &&& 31)) &&& 1)], (z_wI h 37 6 ((h.1 37 6) + 1)))) 17 rfl).trans ?_
  exact z_X_ret rfl
noncomputable def zl_Dg_compare_9 (x1 : Int32) (h : z_H) : Option z_A := z_X zc_Dg_compare 5 (9, [(0, .ref 40), (1, .int x1)], [], h)
noncomputable def zl_Dg_compare_33 (x1 : Int32) (h : z_H) : Option z_A := z_X zc_Dg_compare 5 (33, [(0, .ref 40), (1, .int x1)], [], h)
noncomputable def zl_Dg_compare_46 (x1 : Int32) (x2 : Int32) (h : z_H) : Option z_A := z_X zc_Dg_compare 5 (46, [(0, .ref 40), (1, .int x1), (2, .int x2)], [], h)
set_option maxRecDepth 8000 in
set_option maxHeartbeats 2000000 in
theorem e_Dg_compare (h : z_H) : z_M 109 [.ref 40] h = z_bd (z_M 101 [.ref 41] h) (fun r1 h2 => zl_Dg_compare_9 0 h2) := by
  refine (z_M_eq (by decide)).trans ?_
  show z_X zc_Dg_compare 5 (0, [(0, .ref 40)], [], h) = _
  refine (z_X_steps (s' := (4, [(0, .ref 40)], [.ref 41], h)) 2 rfl).trans ?_
  refine (z_X_call (id := 101) (a := [.ref 41]) (c := 0) (s' := (7, [(0, .ref 40)], [], h)) rfl ⟨Nat.le_of_ble_eq_true rfl, Nat.le_of_ble_eq_true rfl⟩).trans ?_
  refine z_bdc fun r1 h2 => ?_
  refine (z_X_steps (s' := (9, [(1, .int 0), (0, .ref 40)], [], h2)) 2 rfl).trans ?_
  exact z_X_lab rfl
set_option maxRecDepth 8000 in
set_option maxHeartbeats 2000000 in
theorem e_Dg_compare_9 (x1 : Int32) (h : z_H) : zl_Dg_compare_9 x1 h = (if h.1 17 0 ≤ x1 then zl_Dg_compare_33 0 h else z_bd (z_M 110 [.ref 40, .int x1] h) (fun r1 h2 => zl_Dg_compare_9 (x1 + 1) h2)) := by
  show z_X zc_Dg_compare 5 (9, [(0, .ref 40), (1, .int x1)], [], h) = _
  refine (z_X_steps (s' := (17, [(0, .ref 40), (1, .int x1)], [.int (h.1 17 0), .int x1], h)) 4 rfl).trans ?_
  refine (z_X_br (c := h.1 17 0 ≤ x1) (s1 := (31, [(0, .ref 40), (1, .int x1)], [], h)) (s2 := (20, [(0, .ref 40), (1, .int x1)], [], h)) rfl).trans (z_ite ?_ ?_)
  · refine (z_X_steps (s' := (33, [(1, .int 0), (0, .ref 40)], [], h)) 2 rfl).trans ?_
    exact z_X_lab rfl
  · refine (z_X_steps (s' := (22, [(0, .ref 40), (1, .int x1)], [.int x1, .ref 40], h)) 2 rfl).trans ?_
    refine (z_X_call (id := 110) (a := [.ref 40, .int x1]) (c := 0) (s' := (25, [(0, .ref 40), (1, .int x1)], [], h)) rfl ⟨Nat.le_of_ble_eq_true rfl, Nat.le_of_ble_eq_true rfl⟩).trans ?_
    refine z_bdc fun r1 h2 => ?_
    refine (z_X_steps (s' := (9, [(1, .int (x1 + 1)), (0, .ref 40)], [], h2)) 2 rfl).trans ?_
    exact z_X_lab rfl
set_option maxRecDepth 8000 in
set_option maxHeartbeats 2000000 in
theorem e_Dg_compare_33 (x1 : Int32) (h : z_H) : zl_Dg_compare_33 x1 h = (if h.1 17 1 ≤ x1 then some (0, h) else zl_Dg_compare_46 x1 0 h) := by
  show z_X zc_Dg_compare 5 (33, [(0, .ref 40), (1, .int x1)], [], h) = _
  refine (z_X_steps (s' := (41, [(0, .ref 40), (1, .int x1)], [.int (h.1 17 1), .int x1], h)) 4 rfl).trans ?_
  refine (z_X_br (c := h.1 17 1 ≤ x1) (s1 := (96, [(0, .ref 40), (1, .int x1)], [], h)) (s2 := (44, [(0, .ref 40), (1, .int x1)], [], h)) rfl).trans (z_ite ?_ ?_)
  · exact z_X_ret rfl
  · refine (z_X_steps (s' := (46, [(2, .int 0), (0, .ref 40), (1, .int x1)], [], h)) 2 rfl).trans ?_
    exact z_X_lab rfl
set_option maxRecDepth 8000 in
set_option maxHeartbeats 2000000 in
theorem e_Dg_compare_46 (x1 : Int32) (x2 : Int32) (h : z_H) : zl_Dg_compare_46 x1 x2 h = (if (4 : Int32) ≤ x2 then zl_Dg_compare_33 (x1 + 1) h else z_bd (z_M 79 [.ref 17, .int x1, .int x2] h) (fun r1 h2 => z_bd (z_M 79 [.ref 25, .int x1, .int x2] h2) (fun r3 h4 => (if r1 = r3 then zl_Dg_compare_46 x1 (x2 + 1) h4 else z_bd (z_M 44 [.int x1, .int x2] h4) (fun r5 h6 => z_bd (z_M 103 [.ref 41, .int r5] h6) (fun r7 h8 => zl_Dg_compare_46 x1 (x2 + 1) h8)))))) := by
  show z_X zc_Dg_compare 5 (46, [(0, .ref 40), (1, .int x1), (2, .int x2)], [], h) = _
  refine (z_X_steps (s' := (48, [(0, .ref 40), (1, .int x1), (2, .int x2)], [.int 4, .int x2], h)) 2 rfl).trans ?_
  refine (z_X_br (c := (4 : Int32) ≤ x2) (s1 := (90, [(0, .ref 40), (1, .int x1), (2, .int x2)], [], h)) (s2 := (51, [(0, .ref 40), (1, .int x1), (2, .int x2)], [], h)) rfl).trans (z_ite ?_ ?_)
  · refine (z_X_steps (s' := (33, [(1, .int (x1 + 1)), (0, .ref 40), (2, .int x2)], [], h)) 2 rfl).trans ?_
    exact z_X_lab rfl
  · refine (z_X_steps (s' := (57, [(0, .ref 40), (1, .int x1), (2, .int x2)], [.int x2, .int x1, .ref 17], h)) 4 rfl).trans ?_
    refine (z_X_call (id := 79) (a := [.ref 17, .int x1, .int x2]) (c := 1) (s' := (60, [(0, .ref 40), (1, .int x1), (2, .int x2)], [], h)) rfl ⟨Nat.le_of_ble_eq_true rfl, Nat.le_of_ble_eq_true rfl⟩).trans ?_
    refine z_bdc fun r1 h2 => ?_
    refine (z_X_steps (s' := (66, [(0, .ref 40), (1, .int x1), (2, .int x2)], [.int x2, .int x1, .ref 25, .int r1], h2)) 4 rfl).trans ?_
    refine (z_X_call (id := 79) (a := [.ref 25, .int x1, .int x2]) (c := 1) (s' := (69, [(0, .ref 40), (1, .int x1), (2, .int x2)], [.int r1], h2)) rfl ⟨Nat.le_of_ble_eq_true rfl, Nat.le_of_ble_eq_true rfl⟩).trans ?_
    refine z_bdc fun r3 h4 => ?_
    refine (z_X_br (c := r1 = r3) (s1 := (84, [(0, .ref 40), (1, .int x1), (2, .int x2)], [], h4)) (s2 := (72, [(0, .ref 40), (1, .int x1), (2, .int x2)], [], h4)) rfl).trans (z_ite ?_ ?_)
    · refine (z_X_steps (s' := (46, [(2, .int (x2 + 1)), (0, .ref 40), (1, .int x1)], [], h4)) 2 rfl).trans ?_
      exact z_X_lab rfl
    · refine (z_X_steps (s' := (78, [(0, .ref 40), (1, .int x1), (2, .int x2)], [.int x2, .int x1, .ref 41], h4)) 4 rfl).trans ?_
      refine (z_X_call (id := 44) (a := [.int x1, .int x2]) (c := 1) (s' := (81, [(0, .ref 40), (1, .int x1), (2, .int x2)], [.ref 41], h4)) rfl ⟨Nat.le_of_ble_eq_true rfl, Nat.le_of_ble_eq_true rfl⟩).trans ?_
      refine z_bdc fun r5 h6 => ?_
      refine (z_X_call (id := 103) (a := [.ref 41, .int r5]) (c := 0) (s' := (84, [(0, .ref 40), (1, .int x1), (2, .int x2)], [], h6)) rfl ⟨Nat.le_of_ble_eq_true rfl, Nat.le_of_ble_eq_true rfl⟩).trans ?_
      refine z_bdc fun r7 h8 => ?_
      refine (z_X_steps (s' := (46, [(2, .int (x2 + 1)), (0, .ref 40), (1, .int x1)], [], h8)) 2 rfl).trans ?_
      exact z_X_lab rfl
noncomputable def zl_Dg_compareMethod_49 (x1 : Int32) (x2 : Int32) (h : z_H) : Option z_A := z_X zc_Dg_compareMethod 4 (49, [(0, .ref 40), (1, .int x1), (2, .int x2)], [], h)
set_option maxRecDepth 8000 in
set_option maxHeartbeats 2000000 in
theorem e_Dg_compareMethod (x1 : Int32) (h : z_H) : z_M 110 [.ref 40, .int x1] h = z_bd (z_M 902 [.ref 43, .int 0] (z_wI h 40 5 0)) (fun r1 h2 => (bif z_in x1 6 then (if ¬ h2.1 18 (x1.toNatClampNeg) = 0 then z_bd (z_M 112 [.ref 40, .int x1, .int 0, .int 0] h2) (fun r3 h4 => (if ¬ r3 = 0 then zl_Dg_compareMethod_49 x1 0 h4 else z_bd (z_M 103 [.ref 41, .int (100 + x1)] h4) (fun r5 h6 => zl_Dg_compareMethod_49 x1 0 h6))) else some (0, h2)) else none)) := by
  refine (z_M_eq (by decide)).trans ?_
  show z_X zc_Dg_compareMethod 4 (0, [(0, .ref 40), (1, .int x1)], [], h) = _
  refine (z_X_steps (s' := (10, [(0, .ref 40), (1, .int x1)], [.int 0, .ref 43], (z_wI h 40 5 0))) 6 rfl).trans ?_
  refine (z_X_call (id := 902) (a := [.ref 43, .int 0]) (c := 0) (s' := (13, [(0, .ref 40), (1, .int x1)], [], (z_wI h 40 5 0))) rfl ⟨Nat.le_of_ble_eq_true rfl, Nat.le_of_ble_eq_true rfl⟩).trans ?_
  refine z_bdc fun r1 h2 => ?_
  refine (z_X_steps (s' := (21, [(0, .ref 40), (1, .int x1)], [.int x1, .ref 18], h2)) 4 rfl).trans ?_
  refine (z_X_if (g := z_in x1 6) (s' := (22, [(0, .ref 40), (1, .int x1)], [.int (h2.1 18 (x1.toNatClampNeg))], h2)) rfl).trans (z_bifA ?_)
  refine (z_X_br (c := ¬ h2.1 18 (x1.toNatClampNeg) = 0) (s1 := (26, [(0, .ref 40), (1, .int x1)], [], h2)) (s2 := (25, [(0, .ref 40), (1, .int x1)], [], h2)) rfl).trans (z_ite ?_ ?_)
  · refine (z_X_steps (s' := (30, [(0, .ref 40), (1, .int x1)], [.int 0, .int 0, .int x1, .ref 40], h2)) 4 rfl).trans ?_
    refine (z_X_call (id := 112) (a := [.ref 40, .int x1, .int 0, .int 0]) (c := 1) (s' := (33, [(0, .ref 40), (1, .int x1)], [], h2)) rfl ⟨Nat.le_of_ble_eq_true rfl, Nat.le_of_ble_eq_true rfl⟩).trans ?_
    refine z_bdc fun r3 h4 => ?_
    refine (z_X_br (c := ¬ r3 = 0) (s1 := (47, [(0, .ref 40), (1, .int x1)], [], h4)) (s2 := (36, [(0, .ref 40), (1, .int x1)], [], h4)) rfl).trans (z_ite ?_ ?_)
    · refine (z_X_steps (s' := (49, [(2, .int 0), (0, .ref 40), (1, .int x1)], [], h4)) 2 rfl).trans ?_
      exact z_X_lab rfl
    · refine (z_X_steps (s' := (44, [(0, .ref 40), (1, .int x1)], [.int (100 + x1), .ref 41], h4)) 5 rfl).trans ?_
      refine (z_X_call (id := 103) (a := [.ref 41, .int (100 + x1)]) (c := 0) (s' := (47, [(0, .ref 40), (1, .int x1)], [], h4)) rfl ⟨Nat.le_of_ble_eq_true rfl, Nat.le_of_ble_eq_true rfl⟩).trans ?_
      refine z_bdc fun r5 h6 => ?_
      refine (z_X_steps (s' := (49, [(2, .int 0), (0, .ref 40), (1, .int x1)], [], h6)) 2 rfl).trans ?_
      exact z_X_lab rfl
  · exact z_X_ret rfl
set_option maxRecDepth 8000 in
set_option maxHeartbeats 2000000 in
theorem e_Dg_compareMethod_49 (x1 : Int32) (x2 : Int32) (h : z_H) : zl_Dg_compareMethod_49 x1 x2 h = (if h.1 40 5 ≤ x2 then some (0, h) else (if (64 : Int32) ≤ x2 then some (0, h) else (bif z_in x2 64 then (bif z_in x2 64 then z_bd (z_M 111 [.ref 40, .int x1, .int ((h.1 44 (x2.toNatClampNeg)) / 8), .int ((h.1 44 (x2.toNatClampNeg)) - (h.1 44 (x2.toNatClampNeg)) / 8 * 8)] h) (fun r1 h2 => zl_Dg_compareMethod_49 x1 (x2 + 1) h2) else none) else none))) := by
  show z_X zc_Dg_compareMethod 4 (49, [(0, .ref 40), (1, .int x1), (2, .int x2)], [], h) = _
  refine (z_X_steps (s' := (54, [(0, .ref 40), (1, .int x1), (2, .int x2)], [.int (h.1 40 5), .int x2], h)) 3 rfl).trans ?_
  refine (z_X_br (c := h.1 40 5 ≤ x2) (s1 := (92, [(0, .ref 40), (1, .int x1), (2, .int x2)], [], h)) (s2 := (57, [(0, .ref 40), (1, .int x1), (2, .int x2)], [], h)) rfl).trans (z_ite ?_ ?_)
  · exact z_X_ret rfl
  · refine (z_X_steps (s' := (60, [(0, .ref 40), (1, .int x1), (2, .int x2)], [.int 64, .int x2], h)) 2 rfl).trans ?_
    refine (z_X_br (c := (64 : Int32) ≤ x2) (s1 := (92, [(0, .ref 40), (1, .int x1), (2, .int x2)], [], h)) (s2 := (63, [(0, .ref 40), (1, .int x1), (2, .int x2)], [], h)) rfl).trans (z_ite ?_ ?_)
    · exact z_X_ret rfl
    · refine (z_X_steps (s' := (70, [(0, .ref 40), (1, .int x1), (2, .int x2)], [.int x2, .ref 44, .int x1, .ref 40], h)) 5 rfl).trans ?_
      refine (z_X_if (g := z_in x2 64) (s' := (71, [(0, .ref 40), (1, .int x1), (2, .int x2)], [.int (h.1 44 (x2.toNatClampNeg)), .int x1, .ref 40], h)) rfl).trans (z_bifA ?_)
      refine (z_X_steps (s' := (79, [(0, .ref 40), (1, .int x1), (2, .int x2)], [.int x2, .ref 44, .int ((h.1 44 (x2.toNatClampNeg)) / 8), .int x1, .ref 40], h)) 5 rfl).trans ?_
      refine (z_X_if (g := z_in x2 64) (s' := (80, [(0, .ref 40), (1, .int x1), (2, .int x2)], [.int (h.1 44 (x2.toNatClampNeg)), .int ((h.1 44 (x2.toNatClampNeg)) / 8), .int x1, .ref 40], h)) rfl).trans (z_bifA ?_)
      refine (z_X_steps (s' := (83, [(0, .ref 40), (1, .int x1), (2, .int x2)], [.int ((h.1 44 (x2.toNatClampNeg)) - (h.1 44 (x2.toNatClampNeg)) / 8 * 8), .int ((h.1 44 (x2.toNatClampNeg)) / 8), .int x1, .ref 40], h)) 2 rfl).trans ?_
      refine (z_X_call (id := 111) (a := [.ref 40, .int x1, .int ((h.1 44 (x2.toNatClampNeg)) / 8), .int ((h.1 44 (x2.toNatClampNeg)) - (h.1 44 (x2.toNatClampNeg)) / 8 * 8)]) (c := 0) (s' := (86, [(0, .ref 40), (1, .int x1), (2, .int x2)], [], h)) rfl ⟨Nat.le_of_ble_eq_true rfl, Nat.le_of_ble_eq_true rfl⟩).trans ?_
      refine z_bdc fun r1 h2 => ?_
      refine (z_X_steps (s' := (49, [(2, .int (x2 + 1)), (0, .ref 40), (1, .int x1)], [], h2)) 2 rfl).trans ?_
      exact z_X_lab rfl
noncomputable def zl_Dg_compareNexts_3 (x1 : Int32) (x2 : Int32) (x3 : Int32) (x4 : Int32) (h : z_H) : Option z_A := z_X zc_Dg_compareNexts 3 (3, [(0, .ref 40), (1, .int x1), (2, .int x2), (3, .int x3), (4, .int x4)], [], h)
noncomputable def zl_Dg_compareNexts_66 (x1 : Int32) (x2 : Int32) (x3 : Int32) (x4 : Int32) (x5 : Int32) (x6 : Int32) (s0 : Int32) (h : z_H) : Option z_A := z_X zc_Dg_compareNexts 3 (66, [(0, .ref 40), (1, .int x1), (2, .int x2), (3, .int x3), (4, .int x4), (5, .int x5), (6, .int x6)], [.int s0], h)
noncomputable def zl_Dg_compareNexts_87 (x1 : Int32) (x2 : Int32) (x3 : Int32) (x4 : Int32) (x5 : Int32) (x6 : Int32) (x7 : Int32) (s0 : Int32) (h : z_H) : Option z_A := z_X zc_Dg_compareNexts 3 (87, [(0, .ref 40), (1, .int x1), (2, .int x2), (3, .int x3), (4, .int x4), (5, .int x5), (6, .int x6), (7, .int x7)], [.int s0], h)
noncomputable def zl_Dg_compareNexts_111 (x1 : Int32) (x2 : Int32) (x3 : Int32) (x4 : Int32) (h : z_H) : Option z_A := z_X zc_Dg_compareNexts 3 (111, [(0, .ref 40), (1, .int x1), (2, .int x2), (3, .int x3), (4, .int x4)], [], h)
set_option maxRecDepth 8000 in
set_option maxHeartbeats 2000000 in
theorem e_Dg_compareNexts (x1 : Int32) (x2 : Int32) (x3 : Int32) (h : z_H) : z_M 111 [.ref 40, .int x1, .int x2, .int x3] h = zl_Dg_compareNexts_3 x1 x2 x3 0 h := by
  refine (z_M_eq (by decide)).trans ?_
  show z_X zc_Dg_compareNexts 3 (0, [(0, .ref 40), (1, .int x1), (2, .int x2), (3, .int x3)], [], h) = _
  refine (z_X_steps (s' := (3, [(4, .int 0), (0, .ref 40), (1, .int x1), (2, .int x2), (3, .int x3)], [], h)) 2 rfl).trans ?_
  exact z_X_lab rfl
set_option maxRecDepth 8000 in
set_option maxHeartbeats 2000000 in
theorem e_Dg_compareNexts_3 (x1 : Int32) (x2 : Int32) (x3 : Int32) (x4 : Int32) (h : z_H) : zl_Dg_compareNexts_3 x1 x2 x3 x4 h = z_bd (z_M 42 [.int x1, .int x2] h) (fun r1 h2 => (bif z_in r1 48 then (if h2.1 21 (r1.toNatClampNeg) ≤ x4 then some (0, h2) else z_bd (z_M 75 [.ref 17, .int x1, .int x2, .int x4] h2) (fun r3 h4 => z_bd (z_M 75 [.ref 25, .int x1, .int x3, .int x4] h4) (fun r5 h6 => (if ¬ r3 = 9 then zl_Dg_compareNexts_66 x1 x2 x3 x4 r3 r5 0 h6 else (if ¬ r5 = 9 then zl_Dg_compareNexts_66 x1 x2 x3 x4 r3 r5 0 h6 else zl_Dg_compareNexts_66 x1 x2 x3 x4 r3 r5 1 h6))))) else none)) := by
  show z_X zc_Dg_compareNexts 3 (3, [(0, .ref 40), (1, .int x1), (2, .int x2), (3, .int x3), (4, .int x4)], [], h) = _
  refine (z_X_steps (s' := (14, [(0, .ref 40), (1, .int x1), (2, .int x2), (3, .int x3), (4, .int x4)], [.int x2, .int x1, .ref 21, .int x4], h)) 6 rfl).trans ?_
  refine (z_X_call (id := 42) (a := [.int x1, .int x2]) (c := 1) (s' := (17, [(0, .ref 40), (1, .int x1), (2, .int x2), (3, .int x3), (4, .int x4)], [.ref 21, .int x4], h)) rfl ⟨Nat.le_of_ble_eq_true rfl, Nat.le_of_ble_eq_true rfl⟩).trans ?_
  refine z_bdc fun r1 h2 => ?_
  refine (z_X_if (g := z_in r1 48) (s' := (18, [(0, .ref 40), (1, .int x1), (2, .int x2), (3, .int x3), (4, .int x4)], [.int (h2.1 21 (r1.toNatClampNeg)), .int x4], h2)) rfl).trans (z_bifA ?_)
  refine (z_X_br (c := h2.1 21 (r1.toNatClampNeg) ≤ x4) (s1 := (131, [(0, .ref 40), (1, .int x1), (2, .int x2), (3, .int x3), (4, .int x4)], [], h2)) (s2 := (21, [(0, .ref 40), (1, .int x1), (2, .int x2), (3, .int x3), (4, .int x4)], [], h2)) rfl).trans (z_ite ?_ ?_)
  · exact z_X_ret rfl
  · refine (z_X_steps (s' := (29, [(0, .ref 40), (1, .int x1), (2, .int x2), (3, .int x3), (4, .int x4)], [.int x4, .int x2, .int x1, .ref 17], h2)) 5 rfl).trans ?_
    refine (z_X_call (id := 75) (a := [.ref 17, .int x1, .int x2, .int x4]) (c := 1) (s' := (32, [(0, .ref 40), (1, .int x1), (2, .int x2), (3, .int x3), (4, .int x4)], [], h2)) rfl ⟨Nat.le_of_ble_eq_true rfl, Nat.le_of_ble_eq_true rfl⟩).trans ?_
    refine z_bdc fun r3 h4 => ?_
    refine (z_X_steps (s' := (42, [(5, .int r3), (0, .ref 40), (1, .int x1), (2, .int x2), (3, .int x3), (4, .int x4)], [.int x4, .int x3, .int x1, .ref 25], h4)) 6 rfl).trans ?_
    refine (z_X_call (id := 75) (a := [.ref 25, .int x1, .int x3, .int x4]) (c := 1) (s' := (45, [(5, .int r3), (0, .ref 40), (1, .int x1), (2, .int x2), (3, .int x3), (4, .int x4)], [], h4)) rfl ⟨Nat.le_of_ble_eq_true rfl, Nat.le_of_ble_eq_true rfl⟩).trans ?_
    refine z_bdc fun r5 h6 => ?_
    refine (z_X_steps (s' := (51, [(6, .int r5), (5, .int r3), (0, .ref 40), (1, .int x1), (2, .int x2), (3, .int x3), (4, .int x4)], [.int 9, .int r3], h6)) 3 rfl).trans ?_
    refine (z_X_br (c := ¬ r3 = 9) (s1 := (65, [(6, .int r5), (5, .int r3), (0, .ref 40), (1, .int x1), (2, .int x2), (3, .int x3), (4, .int x4)], [], h6)) (s2 := (54, [(6, .int r5), (5, .int r3), (0, .ref 40), (1, .int x1), (2, .int x2), (3, .int x3), (4, .int x4)], [], h6)) rfl).trans (z_ite ?_ ?_)
    · refine (z_X_steps (s' := (66, [(6, .int r5), (5, .int r3), (0, .ref 40), (1, .int x1), (2, .int x2), (3, .int x3), (4, .int x4)], [.int 0], h6)) 1 rfl).trans ?_
      exact z_X_lab rfl
    · refine (z_X_steps (s' := (58, [(6, .int r5), (5, .int r3), (0, .ref 40), (1, .int x1), (2, .int x2), (3, .int x3), (4, .int x4)], [.int 9, .int r5], h6)) 2 rfl).trans ?_
      refine (z_X_br (c := ¬ r5 = 9) (s1 := (65, [(6, .int r5), (5, .int r3), (0, .ref 40), (1, .int x1), (2, .int x2), (3, .int x3), (4, .int x4)], [], h6)) (s2 := (61, [(6, .int r5), (5, .int r3), (0, .ref 40), (1, .int x1), (2, .int x2), (3, .int x3), (4, .int x4)], [], h6)) rfl).trans (z_ite ?_ ?_)
      · refine (z_X_steps (s' := (66, [(6, .int r5), (5, .int r3), (0, .ref 40), (1, .int x1), (2, .int x2), (3, .int x3), (4, .int x4)], [.int 0], h6)) 1 rfl).trans ?_
        exact z_X_lab rfl
      · refine (z_X_steps (s' := (66, [(6, .int r5), (5, .int r3), (0, .ref 40), (1, .int x1), (2, .int x2), (3, .int x3), (4, .int x4)], [.int 1], h6)) 2 rfl).trans ?_
        exact z_X_lab rfl
set_option maxRecDepth 8000 in
set_option maxHeartbeats 2000000 in
theorem e_Dg_compareNexts_66 (x1 : Int32) (x2 : Int32) (x3 : Int32) (x4 : Int32) (x5 : Int32) (x6 : Int32) (s0 : Int32) (h : z_H) : zl_Dg_compareNexts_66 x1 x2 x3 x4 x5 x6 s0 h = (if x5 = 9 then zl_Dg_compareNexts_87 x1 x2 x3 x4 x5 x6 s0 1 h else (if ¬ x6 = 9 then zl_Dg_compareNexts_87 x1 x2 x3 x4 x5 x6 s0 0 h else zl_Dg_compareNexts_87 x1 x2 x3 x4 x5 x6 s0 1 h)) := by
  show z_X zc_Dg_compareNexts 3 (66, [(0, .ref 40), (1, .int x1), (2, .int x2), (3, .int x3), (4, .int x4), (5, .int x5), (6, .int x6)], [.int s0], h) = _
  refine (z_X_steps (s' := (72, [(7, .int s0), (0, .ref 40), (1, .int x1), (2, .int x2), (3, .int x3), (4, .int x4), (5, .int x5), (6, .int x6)], [.int 9, .int x5], h)) 3 rfl).trans ?_
  refine (z_X_br (c := x5 = 9) (s1 := (82, [(7, .int s0), (0, .ref 40), (1, .int x1), (2, .int x2), (3, .int x3), (4, .int x4), (5, .int x5), (6, .int x6)], [], h)) (s2 := (75, [(7, .int s0), (0, .ref 40), (1, .int x1), (2, .int x2), (3, .int x3), (4, .int x4), (5, .int x5), (6, .int x6)], [], h)) rfl).trans (z_ite ?_ ?_)
  · refine (z_X_steps (s' := (87, [(7, .int s0), (0, .ref 40), (1, .int x1), (2, .int x2), (3, .int x3), (4, .int x4), (5, .int x5), (6, .int x6)], [.int 1], h)) 2 rfl).trans ?_
    exact z_X_lab rfl
  · refine (z_X_steps (s' := (79, [(7, .int s0), (0, .ref 40), (1, .int x1), (2, .int x2), (3, .int x3), (4, .int x4), (5, .int x5), (6, .int x6)], [.int 9, .int x6], h)) 2 rfl).trans ?_
    refine (z_X_br (c := ¬ x6 = 9) (s1 := (86, [(7, .int s0), (0, .ref 40), (1, .int x1), (2, .int x2), (3, .int x3), (4, .int x4), (5, .int x5), (6, .int x6)], [], h)) (s2 := (82, [(7, .int s0), (0, .ref 40), (1, .int x1), (2, .int x2), (3, .int x3), (4, .int x4), (5, .int x5), (6, .int x6)], [], h)) rfl).trans (z_ite ?_ ?_)
    · refine (z_X_steps (s' := (87, [(7, .int s0), (0, .ref 40), (1, .int x1), (2, .int x2), (3, .int x3), (4, .int x4), (5, .int x5), (6, .int x6)], [.int 0], h)) 1 rfl).trans ?_
      exact z_X_lab rfl
    · refine (z_X_steps (s' := (87, [(7, .int s0), (0, .ref 40), (1, .int x1), (2, .int x2), (3, .int x3), (4, .int x4), (5, .int x5), (6, .int x6)], [.int 1], h)) 2 rfl).trans ?_
      exact z_X_lab rfl
set_option maxRecDepth 8000 in
set_option maxHeartbeats 2000000 in
theorem e_Dg_compareNexts_87 (x1 : Int32) (x2 : Int32) (x3 : Int32) (x4 : Int32) (x5 : Int32) (x6 : Int32) (x7 : Int32) (s0 : Int32) (h : z_H) : zl_Dg_compareNexts_87 x1 x2 x3 x4 x5 x6 x7 s0 h = (if ¬ x7 = 0 then zl_Dg_compareNexts_3 x1 x2 x3 (x4 + 1) h else (if ¬ s0 = 0 then zl_Dg_compareNexts_111 x1 x2 x3 x4 h else z_bd (z_M 112 [.ref 40, .int x1, .int x5, .int x6] h) (fun r1 h2 => (if ¬ r1 = 0 then zl_Dg_compareNexts_3 x1 x2 x3 (x4 + 1) h2 else zl_Dg_compareNexts_111 x1 x2 x3 x4 h2)))) := by
  show z_X zc_Dg_compareNexts 3 (87, [(0, .ref 40), (1, .int x1), (2, .int x2), (3, .int x3), (4, .int x4), (5, .int x5), (6, .int x6), (7, .int x7)], [.int s0], h) = _
  refine (z_X_steps (s' := (91, [(8, .int s0), (0, .ref 40), (1, .int x1), (2, .int x2), (3, .int x3), (4, .int x4), (5, .int x5), (6, .int x6), (7, .int x7)], [.int x7], h)) 2 rfl).trans ?_
  refine (z_X_br (c := ¬ x7 = 0) (s1 := (125, [(8, .int s0), (0, .ref 40), (1, .int x1), (2, .int x2), (3, .int x3), (4, .int x4), (5, .int x5), (6, .int x6), (7, .int x7)], [], h)) (s2 := (94, [(8, .int s0), (0, .ref 40), (1, .int x1), (2, .int x2), (3, .int x3), (4, .int x4), (5, .int x5), (6, .int x6), (7, .int x7)], [], h)) rfl).trans (z_ite ?_ ?_)
  · refine (z_X_steps (s' := (3, [(4, .int (x4 + 1)), (8, .int s0), (0, .ref 40), (1, .int x1), (2, .int x2), (3, .int x3), (5, .int x5), (6, .int x6), (7, .int x7)], [], h)) 2 rfl).trans ?_
    exact z_X_lab rfl
  · refine (z_X_steps (s' := (96, [(8, .int s0), (0, .ref 40), (1, .int x1), (2, .int x2), (3, .int x3), (4, .int x4), (5, .int x5), (6, .int x6), (7, .int x7)], [.int s0], h)) 1 rfl).trans ?_
    refine (z_X_br (c := ¬ s0 = 0) (s1 := (111, [(8, .int s0), (0, .ref 40), (1, .int x1), (2, .int x2), (3, .int x3), (4, .int x4), (5, .int x5), (6, .int x6), (7, .int x7)], [], h)) (s2 := (99, [(8, .int s0), (0, .ref 40), (1, .int x1), (2, .int x2), (3, .int x3), (4, .int x4), (5, .int x5), (6, .int x6), (7, .int x7)], [], h)) rfl).trans (z_ite ?_ ?_)
    · exact z_X_lab rfl
    · refine (z_X_steps (s' := (105, [(8, .int s0), (0, .ref 40), (1, .int x1), (2, .int x2), (3, .int x3), (4, .int x4), (5, .int x5), (6, .int x6), (7, .int x7)], [.int x6, .int x5, .int x1, .ref 40], h)) 4 rfl).trans ?_
      refine (z_X_call (id := 112) (a := [.ref 40, .int x1, .int x5, .int x6]) (c := 1) (s' := (108, [(8, .int s0), (0, .ref 40), (1, .int x1), (2, .int x2), (3, .int x3), (4, .int x4), (5, .int x5), (6, .int x6), (7, .int x7)], [], h)) rfl ⟨Nat.le_of_ble_eq_true rfl, Nat.le_of_ble_eq_true rfl⟩).trans ?_
      refine z_bdc fun r1 h2 => ?_
      refine (z_X_br (c := ¬ r1 = 0) (s1 := (125, [(8, .int s0), (0, .ref 40), (1, .int x1), (2, .int x2), (3, .int x3), (4, .int x4), (5, .int x5), (6, .int x6), (7, .int x7)], [], h2)) (s2 := (111, [(8, .int s0), (0, .ref 40), (1, .int x1), (2, .int x2), (3, .int x3), (4, .int x4), (5, .int x5), (6, .int x6), (7, .int x7)], [], h2)) rfl).trans (z_ite ?_ ?_)
      · refine (z_X_steps (s' := (3, [(4, .int (x4 + 1)), (8, .int s0), (0, .ref 40), (1, .int x1), (2, .int x2), (3, .int x3), (5, .int x5), (6, .int x6), (7, .int x7)], [], h2)) 2 rfl).trans ?_
        exact z_X_lab rfl
      · exact z_X_lab rfl
set_option maxRecDepth 8000 in
set_option maxHeartbeats 2000000 in
theorem e_Dg_compareNexts_111 (x1 : Int32) (x2 : Int32) (x3 : Int32) (x4 : Int32) (h : z_H) : zl_Dg_compareNexts_111 x1 x2 x3 x4 h = z_bd (z_M 43 [.int x1, .int x2, .int x4] h) (fun r1 h2 => z_bd (z_M 103 [.ref 41, .int r1] h2) (fun r3 h4 => zl_Dg_compareNexts_3 x1 x2 x3 (x4 + 1) h4)) := by
  show z_X zc_Dg_compareNexts 3 (111, [(0, .ref 40), (1, .int x1), (2, .int x2), (3, .int x3), (4, .int x4)], [], h) = _
  refine (z_X_steps (s' := (119, [(0, .ref 40), (1, .int x1), (2, .int x2), (3, .int x3), (4, .int x4)], [.int x4, .int x2, .int x1, .ref 41], h)) 5 rfl).trans ?_
  refine (z_X_call (id := 43) (a := [.int x1, .int x2, .int x4]) (c := 1) (s' := (122, [(0, .ref 40), (1, .int x1), (2, .int x2), (3, .int x3), (4, .int x4)], [.ref 41], h)) rfl ⟨Nat.le_of_ble_eq_true rfl, Nat.le_of_ble_eq_true rfl⟩).trans ?_
  refine z_bdc fun r1 h2 => ?_
  refine (z_X_call (id := 103) (a := [.ref 41, .int r1]) (c := 0) (s' := (125, [(0, .ref 40), (1, .int x1), (2, .int x2), (3, .int x3), (4, .int x4)], [], h2)) rfl ⟨Nat.le_of_ble_eq_true rfl, Nat.le_of_ble_eq_true rfl⟩).trans ?_
  refine z_bdc fun r3 h4 => ?_
  refine (z_X_steps (s' := (3, [(4, .int (x4 + 1)), (0, .ref 40), (1, .int x1), (2, .int x2), (3, .int x3)], [], h4)) 2 rfl).trans ?_
  exact z_X_lab rfl
set_option maxRecDepth 8000 in
set_option maxHeartbeats 2000000 in
theorem e_Dg_pairUp (x1 : Int32) (x2 : Int32) (x3 : Int32) (h : z_H) : z_M 112 [.ref 40, .int x1, .int x2, .int x3] h = z_bd (z_M 42 [.int x1, .int x2] h) (fun r1 h2 => z_bd (z_M 42 [.int x1, .int x3] h2) (fun r3 h4 => z_bd (z_M 113 [.ref 40, .int r1, .int r3] h4) (fun r5 h6 => (if ¬ r5 = 0 then (bif z_in ((8 * x2) + x3) 64 then (if ¬ h6.1 43 (((8 * x2) + x3).toNatClampNeg) = 0 then some (1, h6) else (if (64 : Int32) ≤ h6.1 40 5 then some (1, h6) else (bif z_in ((8 * x2) + x3) 64 then (bif z_in ((z_wI h6 43 (((8 * x2) + x3).toNatClampNeg) 1).1 40 5) 64 then some (1, (z_wI (z_wI (z_wI h6 43 (((8 * x2) + x3).toNatClampNeg) 1) 44 (((z_wI h6 43 (((8 * x2) + x3).toNatClampNeg) 1).1 40 5).toNatClampNeg) ((8 * x2) + x3)) 40 5 (((z_wI (z_wI h6 43 (((8 * x2) + x3).toNatClampNeg) 1) 44 (((z_wI h6 43 (((8 * x2) + x3).toNatClampNeg) 1).1 40 5).toNatClampNeg) ((8 * x2) + x3)).1 40 5) + 1))) else none) else none))) else none) else some (0, h6))))) := by
  refine (z_M_eq (by decide)).trans ?_
  show z_X zc_Dg_pairUp 2 (0, [(0, .ref 40), (1, .int x1), (2, .int x2), (3, .int x3)], [], h) = _
  refine (z_X_steps (s' := (3, [(0, .ref 40), (1, .int x1), (2, .int x2), (3, .int x3)], [.int x2, .int x1, .ref 40], h)) 3 rfl).trans ?_
  refine (z_X_call (id := 42) (a := [.int x1, .int x2]) (c := 1) (s' := (6, [(0, .ref 40), (1, .int x1), (2, .int x2), (3, .int x3)], [.ref 40], h)) rfl ⟨Nat.le_of_ble_eq_true rfl, Nat.le_of_ble_eq_true rfl⟩).trans ?_
  refine z_bdc fun r1 h2 => ?_
  refine (z_X_steps (s' := (8, [(0, .ref 40), (1, .int x1), (2, .int x2), (3, .int x3)], [.int x3, .int x1, .int r1, .ref 40], h2)) 2 rfl).trans ?_
  refine (z_X_call (id := 42) (a := [.int x1, .int x3]) (c := 1) (s' := (11, [(0, .ref 40), (1, .int x1), (2, .int x2), (3, .int x3)], [.int r1, .ref 40], h2)) rfl ⟨Nat.le_of_ble_eq_true rfl, Nat.le_of_ble_eq_true rfl⟩).trans ?_
  refine z_bdc fun r3 h4 => ?_
  refine (z_X_call (id := 113) (a := [.ref 40, .int r1, .int r3]) (c := 1) (s' := (14, [(0, .ref 40), (1, .int x1), (2, .int x2), (3, .int x3)], [], h4)) rfl ⟨Nat.le_of_ble_eq_true rfl, Nat.le_of_ble_eq_true rfl⟩).trans ?_
  refine z_bdc fun r5 h6 => ?_
  refine (z_X_br (c := ¬ r5 = 0) (s1 := (19, [(0, .ref 40), (1, .int x1), (2, .int x2), (3, .int x3)], [], h6)) (s2 := (17, [(0, .ref 40), (1, .int x1), (2, .int x2), (3, .int x3)], [], h6)) rfl).trans (z_ite ?_ ?_)
  · refine (z_X_steps (s' := (33, [(4, .int ((8 * x2) + x3)), (0, .ref 40), (1, .int x1), (2, .int x2), (3, .int x3)], [.int ((8 * x2) + x3), .ref 43], h6)) 9 rfl).trans ?_
    refine (z_X_if (g := z_in ((8 * x2) + x3) 64) (s' := (34, [(4, .int ((8 * x2) + x3)), (0, .ref 40), (1, .int x1), (2, .int x2), (3, .int x3)], [.int (h6.1 43 (((8 * x2) + x3).toNatClampNeg))], h6)) rfl).trans (z_bifA ?_)
    refine (z_X_br (c := ¬ h6.1 43 (((8 * x2) + x3).toNatClampNeg) = 0) (s1 := (75, [(4, .int ((8 * x2) + x3)), (0, .ref 40), (1, .int x1), (2, .int x2), (3, .int x3)], [], h6)) (s2 := (37, [(4, .int ((8 * x2) + x3)), (0, .ref 40), (1, .int x1), (2, .int x2), (3, .int x3)], [], h6)) rfl).trans (z_ite ?_ ?_)
    · refine (z_X_steps (s' := (76, [(4, .int ((8 * x2) + x3)), (0, .ref 40), (1, .int x1), (2, .int x2), (3, .int x3)], [.int 1], h6)) 1 rfl).trans ?_
      exact z_X_ret rfl
    · refine (z_X_steps (s' := (43, [(4, .int ((8 * x2) + x3)), (0, .ref 40), (1, .int x1), (2, .int x2), (3, .int x3)], [.int 64, .int (h6.1 40 5)], h6)) 3 rfl).trans ?_
      refine (z_X_br (c := (64 : Int32) ≤ h6.1 40 5) (s1 := (75, [(4, .int ((8 * x2) + x3)), (0, .ref 40), (1, .int x1), (2, .int x2), (3, .int x3)], [], h6)) (s2 := (46, [(4, .int ((8 * x2) + x3)), (0, .ref 40), (1, .int x1), (2, .int x2), (3, .int x3)], [], h6)) rfl).trans (z_ite ?_ ?_)
      · refine (z_X_steps (s' := (76, [(4, .int ((8 * x2) + x3)), (0, .ref 40), (1, .int x1), (2, .int x2), (3, .int x3)], [.int 1], h6)) 1 rfl).trans ?_
        exact z_X_ret rfl
      · refine (z_X_steps (s' := (53, [(4, .int ((8 * x2) + x3)), (0, .ref 40), (1, .int x1), (2, .int x2), (3, .int x3)], [.int 1, .int ((8 * x2) + x3), .ref 43], h6)) 4 rfl).trans ?_
        refine (z_X_if (g := z_in ((8 * x2) + x3) 64) (s' := (54, [(4, .int ((8 * x2) + x3)), (0, .ref 40), (1, .int x1), (2, .int x2), (3, .int x3)], [], (z_wI h6 43 (((8 * x2) + x3).toNatClampNeg) 1))) rfl).trans (z_bifA ?_)
        refine (z_X_steps (s' := (64, [(4, .int ((8 * x2) + x3)), (0, .ref 40), (1, .int x1), (2, .int x2), (3, .int x3)], [.int ((8 * x2) + x3), .int ((z_wI h6 43 (((8 * x2) + x3).toNatClampNeg) 1).1 40 5), .ref 44], (z_wI h6 43 (((8 * x2) + x3).toNatClampNeg) 1))) 5 rfl).trans ?_
        refine (z_X_if (g := z_in ((z_wI h6 43 (((8 * x2) + x3).toNatClampNeg) 1).1 40 5) 64) (s' := (65, [(4, .int ((8 * x2) + x3)), (0, .ref 40), (1, .int x1), (2, .int x2), (3, .int x3)], [], (z_wI (z_wI h6 43 (((8 * x2) + x3).toNatClampNeg) 1) 44 (((z_wI h6 43 (((8 * x2) + x3).toNatClampNeg) 1).1 40 5).toNatClampNeg) ((8 * x2) + x3)))) rfl).trans (z_bifA ?_)
        refine (z_X_steps (s' := (76, [(4, .int ((8 * x2) + x3)), (0, .ref 40), (1, .int x1), (2, .int x2), (3, .int x3)], [.int 1], (z_wI (z_wI (z_wI h6 43 (((8 * x2) + x3).toNatClampNeg) 1) 44 (((z_wI h6 43 (((8 * x2) + x3).toNatClampNeg) 1).1 40 5).toNatClampNeg) ((8 * x2) + x3)) 40 5 (((z_wI (z_wI h6 43 (((8 * x2) + x3).toNatClampNeg) 1) 44 (((z_wI h6 43 (((8 * x2) + x3).toNatClampNeg) 1).1 40 5).toNatClampNeg) ((8 * x2) + x3)).1 40 5) + 1)))) 7 rfl).trans ?_
        exact z_X_ret rfl
  · refine (z_X_steps (s' := (18, [(0, .ref 40), (1, .int x1), (2, .int x2), (3, .int x3)], [.int 0], h6)) 1 rfl).trans ?_
    exact z_X_ret rfl
set_option maxRecDepth 8000 in
set_option maxHeartbeats 2000000 in
theorem e_Dg_areAlike (x1 : Int32) (x2 : Int32) (h : z_H) : z_M 113 [.ref 40, .int x1, .int x2] h = (bif z_in x1 48 then (bif z_in x2 48 then (if ¬ h.1 19 (x1.toNatClampNeg) = h.1 27 (x2.toNatClampNeg) then some (0, h) else (bif z_in x1 48 then (bif z_in x2 48 then (if ¬ h.1 20 (x1.toNatClampNeg) = h.1 28 (x2.toNatClampNeg) then some (0, h) else (bif z_in x1 48 then (bif z_in x2 48 then (if ¬ h.1 21 (x1.toNatClampNeg) = h.1 29 (x2.toNatClampNeg) then some (0, h) else some (1, h)) else none) else none)) else none) else none)) else none) else none) := by
  refine (z_M_eq (by decide)).trans ?_
  show z_X zc_Dg_areAlike 1 (0, [(0, .ref 40), (1, .int x1), (2, .int x2)], [], h) = _
  refine (z_X_steps (s' := (8, [(0, .ref 40), (1, .int x1), (2, .int x2)], [.int x1, .ref 19], h)) 4 rfl).trans ?_
  refine (z_X_if (g := z_in x1 48) (s' := (9, [(0, .ref 40), (1, .int x1), (2, .int x2)], [.int (h.1 19 (x1.toNatClampNeg))], h)) rfl).trans (z_bifA ?_)
  refine (z_X_steps (s' := (17, [(0, .ref 40), (1, .int x1), (2, .int x2)], [.int x2, .ref 27, .int (h.1 19 (x1.toNatClampNeg))], h)) 4 rfl).trans ?_
  refine (z_X_if (g := z_in x2 48) (s' := (18, [(0, .ref 40), (1, .int x1), (2, .int x2)], [.int (h.1 27 (x2.toNatClampNeg)), .int (h.1 19 (x1.toNatClampNeg))], h)) rfl).trans (z_bifA ?_)
  refine (z_X_br (c := ¬ h.1 19 (x1.toNatClampNeg) = h.1 27 (x2.toNatClampNeg)) (s1 := (67, [(0, .ref 40), (1, .int x1), (2, .int x2)], [], h)) (s2 := (21, [(0, .ref 40), (1, .int x1), (2, .int x2)], [], h)) rfl).trans (z_ite ?_ ?_)
  · refine (z_X_steps (s' := (68, [(0, .ref 40), (1, .int x1), (2, .int x2)], [.int 0], h)) 1 rfl).trans ?_
    exact z_X_ret rfl
  · refine (z_X_steps (s' := (29, [(0, .ref 40), (1, .int x1), (2, .int x2)], [.int x1, .ref 20], h)) 4 rfl).trans ?_
    refine (z_X_if (g := z_in x1 48) (s' := (30, [(0, .ref 40), (1, .int x1), (2, .int x2)], [.int (h.1 20 (x1.toNatClampNeg))], h)) rfl).trans (z_bifA ?_)
    refine (z_X_steps (s' := (38, [(0, .ref 40), (1, .int x1), (2, .int x2)], [.int x2, .ref 28, .int (h.1 20 (x1.toNatClampNeg))], h)) 4 rfl).trans ?_
    refine (z_X_if (g := z_in x2 48) (s' := (39, [(0, .ref 40), (1, .int x1), (2, .int x2)], [.int (h.1 28 (x2.toNatClampNeg)), .int (h.1 20 (x1.toNatClampNeg))], h)) rfl).trans (z_bifA ?_)
    refine (z_X_br (c := ¬ h.1 20 (x1.toNatClampNeg) = h.1 28 (x2.toNatClampNeg)) (s1 := (67, [(0, .ref 40), (1, .int x1), (2, .int x2)], [], h)) (s2 := (42, [(0, .ref 40), (1, .int x1), (2, .int x2)], [], h)) rfl).trans (z_ite ?_ ?_)
    · refine (z_X_steps (s' := (68, [(0, .ref 40), (1, .int x1), (2, .int x2)], [.int 0], h)) 1 rfl).trans ?_
      exact z_X_ret rfl
    · refine (z_X_steps (s' := (50, [(0, .ref 40), (1, .int x1), (2, .int x2)], [.int x1, .ref 21], h)) 4 rfl).trans ?_
      refine (z_X_if (g := z_in x1 48) (s' := (51, [(0, .ref 40), (1, .int x1), (2, .int x2)], [.int (h.1 21 (x1.toNatClampNeg))], h)) rfl).trans (z_bifA ?_)
      refine (z_X_steps (s' := (59, [(0, .ref 40), (1, .int x1), (2, .int x2)], [.int x2, .ref 29, .int (h.1 21 (x1.toNatClampNeg))], h)) 4 rfl).trans ?_
      refine (z_X_if (g := z_in x2 48) (s' := (60, [(0, .ref 40), (1, .int x1), (2, .int x2)], [.int (h.1 29 (x2.toNatClampNeg)), .int (h.1 21 (x1.toNatClampNeg))], h)) rfl).trans (z_bifA ?_)
      refine (z_X_br (c := ¬ h.1 21 (x1.toNatClampNeg) = h.1 29 (x2.toNatClampNeg)) (s1 := (67, [(0, .ref 40), (1, .int x1), (2, .int x2)], [], h)) (s2 := (63, [(0, .ref 40), (1, .int x1), (2, .int x2)], [], h)) rfl).trans (z_ite ?_ ?_)
      · refine (z_X_steps (s' := (68, [(0, .ref 40), (1, .int x1), (2, .int x2)], [.int 0], h)) 1 rfl).trans ?_
        exact z_X_ret rfl
      · refine (z_X_steps (s' := (68, [(0, .ref 40), (1, .int x1), (2, .int x2)], [.int 1], h)) 2 rfl).trans ?_
        exact z_X_ret rfl
noncomputable def zl_Ch_choose_9 (x1 : Int32) (h : z_H) : Option z_A := z_X zc_Ch_choose 22 (9, [(0, .ref 45), (1, .int x1)], [], h)
set_option maxRecDepth 8000 in
set_option maxHeartbeats 2000000 in
theorem e_Ch_choose (h : z_H) : z_M 114 [.ref 45] h = z_bd (z_M 109 [.ref 40] h) (fun r1 h2 => zl_Ch_choose_9 0 h2) := by
  refine (z_M_eq (by decide)).trans ?_
  show z_X zc_Ch_choose 22 (0, [(0, .ref 45)], [], h) = _
  refine (z_X_steps (s' := (4, [(0, .ref 45)], [.ref 40], h)) 2 rfl).trans ?_
  refine (z_X_call (id := 109) (a := [.ref 40]) (c := 0) (s' := (7, [(0, .ref 45)], [], h)) rfl ⟨Nat.le_of_ble_eq_true rfl, Nat.le_of_ble_eq_true rfl⟩).trans ?_
  refine z_bdc fun r1 h2 => ?_
  refine (z_X_steps (s' := (9, [(1, .int 0), (0, .ref 45)], [], h2)) 2 rfl).trans ?_
  exact z_X_lab rfl
set_option maxRecDepth 8000 in
set_option maxHeartbeats 2000000 in
theorem e_Ch_choose_9 (x1 : Int32) (h : z_H) : zl_Ch_choose_9 x1 h = (if h.1 33 0 ≤ x1 then z_bd (z_M 119 [.ref 45] h) (fun r1 h2 => some (0, h2)) else (bif z_in x1 8 then (bif z_in x1 8 then z_bd (z_M 95 [.ref 37, .ref 17, .int (h.1 34 (x1.toNatClampNeg)), .int (h.1 35 (x1.toNatClampNeg))] h) (fun r3 h4 => (bif z_in x1 8 then z_bd (z_M 102 [.ref (54 + 2 * x1.toNatClampNeg), .ref 38] h4) (fun r5 h6 => zl_Ch_choose_9 (x1 + 1) h6) else none)) else none) else none)) := by
  show z_X zc_Ch_choose 22 (9, [(0, .ref 45), (1, .int x1)], [], h) = _
  refine (z_X_steps (s' := (17, [(0, .ref 45), (1, .int x1)], [.int (h.1 33 0), .int x1], h)) 4 rfl).trans ?_
  refine (z_X_br (c := h.1 33 0 ≤ x1) (s1 := (71, [(0, .ref 45), (1, .int x1)], [], h)) (s2 := (20, [(0, .ref 45), (1, .int x1)], [], h)) rfl).trans (z_ite ?_ ?_)
  · refine (z_X_steps (s' := (72, [(0, .ref 45), (1, .int x1)], [.ref 45], h)) 1 rfl).trans ?_
    refine (z_X_call (id := 119) (a := [.ref 45]) (c := 0) (s' := (75, [(0, .ref 45), (1, .int x1)], [], h)) rfl ⟨Nat.le_of_ble_eq_true rfl, Nat.le_of_ble_eq_true rfl⟩).trans ?_
    refine z_bdc fun r1 h2 => ?_
    exact z_X_ret rfl
  · refine (z_X_steps (s' := (36, [(0, .ref 45), (1, .int x1)], [.int x1, .ref 34, .ref 17, .ref 37], h)) 8 rfl).trans ?_
    refine (z_X_if (g := z_in x1 8) (s' := (37, [(0, .ref 45), (1, .int x1)], [.int (h.1 34 (x1.toNatClampNeg)), .ref 17, .ref 37], h)) rfl).trans (z_bifA ?_)
    refine (z_X_steps (s' := (45, [(0, .ref 45), (1, .int x1)], [.int x1, .ref 35, .int (h.1 34 (x1.toNatClampNeg)), .ref 17, .ref 37], h)) 4 rfl).trans ?_
    refine (z_X_if (g := z_in x1 8) (s' := (46, [(0, .ref 45), (1, .int x1)], [.int (h.1 35 (x1.toNatClampNeg)), .int (h.1 34 (x1.toNatClampNeg)), .ref 17, .ref 37], h)) rfl).trans (z_bifA ?_)
    refine (z_X_call (id := 95) (a := [.ref 37, .ref 17, .int (h.1 34 (x1.toNatClampNeg)), .int (h.1 35 (x1.toNatClampNeg))]) (c := 0) (s' := (49, [(0, .ref 45), (1, .int x1)], [], h)) rfl ⟨Nat.le_of_ble_eq_true rfl, Nat.le_of_ble_eq_true rfl⟩).trans ?_
    refine z_bdc fun r3 h4 => ?_
    refine (z_X_steps (s' := (54, [(0, .ref 45), (1, .int x1)], [.int x1, .ref 49], h4)) 3 rfl).trans ?_
    refine (z_X_if (g := z_in x1 8) (s' := (55, [(0, .ref 45), (1, .int x1)], [.ref (54 + 2 * x1.toNatClampNeg)], h4)) rfl).trans (z_bifE8 ?_)
    refine ⟨fun e => ?_, fun e => ?_, fun e => ?_, fun e => ?_, fun e => ?_, fun e => ?_, fun e => ?_, fun e => ?_⟩
    · subst e
      refine (z_X_steps (s' := (62, [(0, .ref 45), (1, .int (nI 0))], [.ref 38, .ref (54 + 2 * (nI 0).toNatClampNeg)], h4)) 3 rfl).trans ?_
      refine (z_X_call (id := 102) (a := [.ref (54 + 2 * (nI 0).toNatClampNeg), .ref 38]) (c := 0) (s' := (65, [(0, .ref 45), (1, .int (nI 0))], [], h4)) rfl ⟨Nat.le_of_ble_eq_true rfl, Nat.le_of_ble_eq_true rfl⟩).trans ?_
      refine z_bdc fun r5 h6 => ?_
      refine (z_X_steps (s' := (9, [(1, .int ((nI 0) + 1)), (0, .ref 45)], [], h6)) 2 rfl).trans ?_
      exact z_X_lab rfl
    · subst e
      refine (z_X_steps (s' := (62, [(0, .ref 45), (1, .int (nI 1))], [.ref 38, .ref (54 + 2 * (nI 1).toNatClampNeg)], h4)) 3 rfl).trans ?_
      refine (z_X_call (id := 102) (a := [.ref (54 + 2 * (nI 1).toNatClampNeg), .ref 38]) (c := 0) (s' := (65, [(0, .ref 45), (1, .int (nI 1))], [], h4)) rfl ⟨Nat.le_of_ble_eq_true rfl, Nat.le_of_ble_eq_true rfl⟩).trans ?_
      refine z_bdc fun r5 h6 => ?_
      refine (z_X_steps (s' := (9, [(1, .int ((nI 1) + 1)), (0, .ref 45)], [], h6)) 2 rfl).trans ?_
      exact z_X_lab rfl
    · subst e
      refine (z_X_steps (s' := (62, [(0, .ref 45), (1, .int (nI 2))], [.ref 38, .ref (54 + 2 * (nI 2).toNatClampNeg)], h4)) 3 rfl).trans ?_
      refine (z_X_call (id := 102) (a := [.ref (54 + 2 * (nI 2).toNatClampNeg), .ref 38]) (c := 0) (s' := (65, [(0, .ref 45), (1, .int (nI 2))], [], h4)) rfl ⟨Nat.le_of_ble_eq_true rfl, Nat.le_of_ble_eq_true rfl⟩).trans ?_
      refine z_bdc fun r5 h6 => ?_
      refine (z_X_steps (s' := (9, [(1, .int ((nI 2) + 1)), (0, .ref 45)], [], h6)) 2 rfl).trans ?_
      exact z_X_lab rfl
    · subst e
      refine (z_X_steps (s' := (62, [(0, .ref 45), (1, .int (nI 3))], [.ref 38, .ref (54 + 2 * (nI 3).toNatClampNeg)], h4)) 3 rfl).trans ?_
      refine (z_X_call (id := 102) (a := [.ref (54 + 2 * (nI 3).toNatClampNeg), .ref 38]) (c := 0) (s' := (65, [(0, .ref 45), (1, .int (nI 3))], [], h4)) rfl ⟨Nat.le_of_ble_eq_true rfl, Nat.le_of_ble_eq_true rfl⟩).trans ?_
      refine z_bdc fun r5 h6 => ?_
      refine (z_X_steps (s' := (9, [(1, .int ((nI 3) + 1)), (0, .ref 45)], [], h6)) 2 rfl).trans ?_
      exact z_X_lab rfl
    · subst e
      refine (z_X_steps (s' := (62, [(0, .ref 45), (1, .int (nI 4))], [.ref 38, .ref (54 + 2 * (nI 4).toNatClampNeg)], h4)) 3 rfl).trans ?_
      refine (z_X_call (id := 102) (a := [.ref (54 + 2 * (nI 4).toNatClampNeg), .ref 38]) (c := 0) (s' := (65, [(0, .ref 45), (1, .int (nI 4))], [], h4)) rfl ⟨Nat.le_of_ble_eq_true rfl, Nat.le_of_ble_eq_true rfl⟩).trans ?_
      refine z_bdc fun r5 h6 => ?_
      refine (z_X_steps (s' := (9, [(1, .int ((nI 4) + 1)), (0, .ref 45)], [], h6)) 2 rfl).trans ?_
      exact z_X_lab rfl
    · subst e
      refine (z_X_steps (s' := (62, [(0, .ref 45), (1, .int (nI 5))], [.ref 38, .ref (54 + 2 * (nI 5).toNatClampNeg)], h4)) 3 rfl).trans ?_
      refine (z_X_call (id := 102) (a := [.ref (54 + 2 * (nI 5).toNatClampNeg), .ref 38]) (c := 0) (s' := (65, [(0, .ref 45), (1, .int (nI 5))], [], h4)) rfl ⟨Nat.le_of_ble_eq_true rfl, Nat.le_of_ble_eq_true rfl⟩).trans ?_
      refine z_bdc fun r5 h6 => ?_
      refine (z_X_steps (s' := (9, [(1, .int ((nI 5) + 1)), (0, .ref 45)], [], h6)) 2 rfl).trans ?_
      exact z_X_lab rfl
    · subst e
      refine (z_X_steps (s' := (62, [(0, .ref 45), (1, .int (nI 6))], [.ref 38, .ref (54 + 2 * (nI 6).toNatClampNeg)], h4)) 3 rfl).trans ?_
      refine (z_X_call (id := 102) (a := [.ref (54 + 2 * (nI 6).toNatClampNeg), .ref 38]) (c := 0) (s' := (65, [(0, .ref 45), (1, .int (nI 6))], [], h4)) rfl ⟨Nat.le_of_ble_eq_true rfl, Nat.le_of_ble_eq_true rfl⟩).trans ?_
      refine z_bdc fun r5 h6 => ?_
      refine (z_X_steps (s' := (9, [(1, .int ((nI 6) + 1)), (0, .ref 45)], [], h6)) 2 rfl).trans ?_
      exact z_X_lab rfl
    · subst e
      refine (z_X_steps (s' := (62, [(0, .ref 45), (1, .int (nI 7))], [.ref 38, .ref (54 + 2 * (nI 7).toNatClampNeg)], h4)) 3 rfl).trans ?_
      refine (z_X_call (id := 102) (a := [.ref (54 + 2 * (nI 7).toNatClampNeg), .ref 38]) (c := 0) (s' := (65, [(0, .ref 45), (1, .int (nI 7))], [], h4)) rfl ⟨Nat.le_of_ble_eq_true rfl, Nat.le_of_ble_eq_true rfl⟩).trans ?_
      refine z_bdc fun r5 h6 => ?_
      refine (z_X_steps (s' := (9, [(1, .int ((nI 7) + 1)), (0, .ref 45)], [], h6)) 2 rfl).trans ?_
      exact z_X_lab rfl
set_option maxRecDepth 8000 in
set_option maxHeartbeats 2000000 in
theorem e_Ch_tellTest (x1 : Int32) (x2 : Int32) (h : z_H) : z_M 115 [.ref 45, .int x1, .int x2] h = (if x2 = 5 then (bif z_in x1 8 then (if ¬ h.1 48 (x1.toNatClampNeg) = (-4) then some (1, h) else some (0, h)) else none) else (if x2 = 6 then (bif z_in x1 8 then some (h.1 48 (x1.toNatClampNeg), h) else none) else (if x2 = 7 then (bif z_in x1 8 then z_bd (z_M 107 [.ref (54 + 2 * x1.toNatClampNeg)] h) (fun r1 h2 => some (r1, h2)) else none) else (bif z_in x1 8 then z_bd (z_M 108 [.ref (54 + 2 * x1.toNatClampNeg), .ref 41] h) (fun r3 h4 => some (r3, h4)) else none)))) := by
  refine (z_M_eq (by decide)).trans ?_
  show z_X zc_Ch_tellTest 5 (0, [(0, .ref 45), (1, .int x1), (2, .int x2)], [], h) = _
  refine (z_X_steps (s' := (1, [(0, .ref 45), (1, .int x1), (2, .int x2)], [.int x2], h)) 1 rfl).trans ?_
  refine (z_X_sw (d := (62, [(0, .ref 45), (1, .int x1), (2, .int x2)], [], h)) (x := x2) (lo := [(0, .ref 45), (1, .int x1), (2, .int x2)]) (stk := []) (h := h) (sw := [(5, 28), (6, 45), (7, 52)]) rfl).trans ?_
  refine z_ite ?_ ?_
  · refine (z_X_steps (s' := (33, [(0, .ref 45), (1, .int x1), (2, .int x2)], [.int x1, .ref 48], h)) 3 rfl).trans ?_
    refine (z_X_if (g := z_in x1 8) (s' := (34, [(0, .ref 45), (1, .int x1), (2, .int x2)], [.int (h.1 48 (x1.toNatClampNeg))], h)) rfl).trans (z_bifA ?_)
    refine (z_X_steps (s' := (36, [(0, .ref 45), (1, .int x1), (2, .int x2)], [.int (-4), .int (h.1 48 (x1.toNatClampNeg))], h)) 1 rfl).trans ?_
    refine (z_X_br (c := ¬ h.1 48 (x1.toNatClampNeg) = (-4)) (s1 := (43, [(0, .ref 45), (1, .int x1), (2, .int x2)], [], h)) (s2 := (39, [(0, .ref 45), (1, .int x1), (2, .int x2)], [], h)) rfl).trans (z_ite ?_ ?_)
    · refine (z_X_steps (s' := (44, [(0, .ref 45), (1, .int x1), (2, .int x2)], [.int 1], h)) 1 rfl).trans ?_
      exact z_X_ret rfl
    · refine (z_X_steps (s' := (44, [(0, .ref 45), (1, .int x1), (2, .int x2)], [.int 0], h)) 2 rfl).trans ?_
      exact z_X_ret rfl
  refine z_ite ?_ ?_
  · refine (z_X_steps (s' := (50, [(0, .ref 45), (1, .int x1), (2, .int x2)], [.int x1, .ref 48], h)) 3 rfl).trans ?_
    refine (z_X_if (g := z_in x1 8) (s' := (51, [(0, .ref 45), (1, .int x1), (2, .int x2)], [.int (h.1 48 (x1.toNatClampNeg))], h)) rfl).trans (z_bifA ?_)
    exact z_X_ret rfl
  refine z_ite ?_ ?_
  · refine (z_X_steps (s' := (57, [(0, .ref 45), (1, .int x1), (2, .int x2)], [.int x1, .ref 49], h)) 3 rfl).trans ?_
    refine (z_X_if (g := z_in x1 8) (s' := (58, [(0, .ref 45), (1, .int x1), (2, .int x2)], [.ref (54 + 2 * x1.toNatClampNeg)], h)) rfl).trans (z_bifE8 ?_)
    refine ⟨fun e => ?_, fun e => ?_, fun e => ?_, fun e => ?_, fun e => ?_, fun e => ?_, fun e => ?_, fun e => ?_⟩
    · subst e
      refine (z_X_call (id := 107) (a := [.ref (54 + 2 * (nI 0).toNatClampNeg)]) (c := 1) (s' := (61, [(0, .ref 45), (1, .int (nI 0)), (2, .int x2)], [], h)) rfl ⟨Nat.le_of_ble_eq_true rfl, Nat.le_of_ble_eq_true rfl⟩).trans ?_
      refine z_bdc fun r1 h2 => ?_
      exact z_X_ret rfl
    · subst e
      refine (z_X_call (id := 107) (a := [.ref (54 + 2 * (nI 1).toNatClampNeg)]) (c := 1) (s' := (61, [(0, .ref 45), (1, .int (nI 1)), (2, .int x2)], [], h)) rfl ⟨Nat.le_of_ble_eq_true rfl, Nat.le_of_ble_eq_true rfl⟩).trans ?_
      refine z_bdc fun r1 h2 => ?_
      exact z_X_ret rfl
    · subst e
      refine (z_X_call (id := 107) (a := [.ref (54 + 2 * (nI 2).toNatClampNeg)]) (c := 1) (s' := (61, [(0, .ref 45), (1, .int (nI 2)), (2, .int x2)], [], h)) rfl ⟨Nat.le_of_ble_eq_true rfl, Nat.le_of_ble_eq_true rfl⟩).trans ?_
      refine z_bdc fun r1 h2 => ?_
      exact z_X_ret rfl
    · subst e
      refine (z_X_call (id := 107) (a := [.ref (54 + 2 * (nI 3).toNatClampNeg)]) (c := 1) (s' := (61, [(0, .ref 45), (1, .int (nI 3)), (2, .int x2)], [], h)) rfl ⟨Nat.le_of_ble_eq_true rfl, Nat.le_of_ble_eq_true rfl⟩).trans ?_
      refine z_bdc fun r1 h2 => ?_
      exact z_X_ret rfl
    · subst e
      refine (z_X_call (id := 107) (a := [.ref (54 + 2 * (nI 4).toNatClampNeg)]) (c := 1) (s' := (61, [(0, .ref 45), (1, .int (nI 4)), (2, .int x2)], [], h)) rfl ⟨Nat.le_of_ble_eq_true rfl, Nat.le_of_ble_eq_true rfl⟩).trans ?_
      refine z_bdc fun r1 h2 => ?_
      exact z_X_ret rfl
    · subst e
      refine (z_X_call (id := 107) (a := [.ref (54 + 2 * (nI 5).toNatClampNeg)]) (c := 1) (s' := (61, [(0, .ref 45), (1, .int (nI 5)), (2, .int x2)], [], h)) rfl ⟨Nat.le_of_ble_eq_true rfl, Nat.le_of_ble_eq_true rfl⟩).trans ?_
      refine z_bdc fun r1 h2 => ?_
      exact z_X_ret rfl
    · subst e
      refine (z_X_call (id := 107) (a := [.ref (54 + 2 * (nI 6).toNatClampNeg)]) (c := 1) (s' := (61, [(0, .ref 45), (1, .int (nI 6)), (2, .int x2)], [], h)) rfl ⟨Nat.le_of_ble_eq_true rfl, Nat.le_of_ble_eq_true rfl⟩).trans ?_
      refine z_bdc fun r1 h2 => ?_
      exact z_X_ret rfl
    · subst e
      refine (z_X_call (id := 107) (a := [.ref (54 + 2 * (nI 7).toNatClampNeg)]) (c := 1) (s' := (61, [(0, .ref 45), (1, .int (nI 7)), (2, .int x2)], [], h)) rfl ⟨Nat.le_of_ble_eq_true rfl, Nat.le_of_ble_eq_true rfl⟩).trans ?_
      refine z_bdc fun r1 h2 => ?_
      exact z_X_ret rfl
  refine (z_X_steps (s' := (67, [(0, .ref 45), (1, .int x1), (2, .int x2)], [.int x1, .ref 49], h)) 3 rfl).trans ?_
  refine (z_X_if (g := z_in x1 8) (s' := (68, [(0, .ref 45), (1, .int x1), (2, .int x2)], [.ref (54 + 2 * x1.toNatClampNeg)], h)) rfl).trans (z_bifE8 ?_)
  refine ⟨fun e => ?_, fun e => ?_, fun e => ?_, fun e => ?_, fun e => ?_, fun e => ?_, fun e => ?_, fun e => ?_⟩
  · subst e
    refine (z_X_steps (s' := (75, [(0, .ref 45), (1, .int (nI 0)), (2, .int x2)], [.ref 41, .ref (54 + 2 * (nI 0).toNatClampNeg)], h)) 3 rfl).trans ?_
    refine (z_X_call (id := 108) (a := [.ref (54 + 2 * (nI 0).toNatClampNeg), .ref 41]) (c := 1) (s' := (78, [(0, .ref 45), (1, .int (nI 0)), (2, .int x2)], [], h)) rfl ⟨Nat.le_of_ble_eq_true rfl, Nat.le_of_ble_eq_true rfl⟩).trans ?_
    refine z_bdc fun r3 h4 => ?_
    exact z_X_ret rfl
  · subst e
    refine (z_X_steps (s' := (75, [(0, .ref 45), (1, .int (nI 1)), (2, .int x2)], [.ref 41, .ref (54 + 2 * (nI 1).toNatClampNeg)], h)) 3 rfl).trans ?_
    refine (z_X_call (id := 108) (a := [.ref (54 + 2 * (nI 1).toNatClampNeg), .ref 41]) (c := 1) (s' := (78, [(0, .ref 45), (1, .int (nI 1)), (2, .int x2)], [], h)) rfl ⟨Nat.le_of_ble_eq_true rfl, Nat.le_of_ble_eq_true rfl⟩).trans ?_
    refine z_bdc fun r3 h4 => ?_
    exact z_X_ret rfl
  · subst e
    refine (z_X_steps (s' := (75, [(0, .ref 45), (1, .int (nI 2)), (2, .int x2)], [.ref 41, .ref (54 + 2 * (nI 2).toNatClampNeg)], h)) 3 rfl).trans ?_
    refine (z_X_call (id := 108) (a := [.ref (54 + 2 * (nI 2).toNatClampNeg), .ref 41]) (c := 1) (s' := (78, [(0, .ref 45), (1, .int (nI 2)), (2, .int x2)], [], h)) rfl ⟨Nat.le_of_ble_eq_true rfl, Nat.le_of_ble_eq_true rfl⟩).trans ?_
    refine z_bdc fun r3 h4 => ?_
    exact z_X_ret rfl
  · subst e
    refine (z_X_steps (s' := (75, [(0, .ref 45), (1, .int (nI 3)), (2, .int x2)], [.ref 41, .ref (54 + 2 * (nI 3).toNatClampNeg)], h)) 3 rfl).trans ?_
    refine (z_X_call (id := 108) (a := [.ref (54 + 2 * (nI 3).toNatClampNeg), .ref 41]) (c := 1) (s' := (78, [(0, .ref 45), (1, .int (nI 3)), (2, .int x2)], [], h)) rfl ⟨Nat.le_of_ble_eq_true rfl, Nat.le_of_ble_eq_true rfl⟩).trans ?_
    refine z_bdc fun r3 h4 => ?_
    exact z_X_ret rfl
  · subst e
    refine (z_X_steps (s' := (75, [(0, .ref 45), (1, .int (nI 4)), (2, .int x2)], [.ref 41, .ref (54 + 2 * (nI 4).toNatClampNeg)], h)) 3 rfl).trans ?_
    refine (z_X_call (id := 108) (a := [.ref (54 + 2 * (nI 4).toNatClampNeg), .ref 41]) (c := 1) (s' := (78, [(0, .ref 45), (1, .int (nI 4)), (2, .int x2)], [], h)) rfl ⟨Nat.le_of_ble_eq_true rfl, Nat.le_of_ble_eq_true rfl⟩).trans ?_
    refine z_bdc fun r3 h4 => ?_
    exact z_X_ret rfl
  · subst e
    refine (z_X_steps (s' := (75, [(0, .ref 45), (1, .int (nI 5)), (2, .int x2)], [.ref 41, .ref (54 + 2 * (nI 5).toNatClampNeg)], h)) 3 rfl).trans ?_
    refine (z_X_call (id := 108) (a := [.ref (54 + 2 * (nI 5).toNatClampNeg), .ref 41]) (c := 1) (s' := (78, [(0, .ref 45), (1, .int (nI 5)), (2, .int x2)], [], h)) rfl ⟨Nat.le_of_ble_eq_true rfl, Nat.le_of_ble_eq_true rfl⟩).trans ?_
    refine z_bdc fun r3 h4 => ?_
    exact z_X_ret rfl
  · subst e
    refine (z_X_steps (s' := (75, [(0, .ref 45), (1, .int (nI 6)), (2, .int x2)], [.ref 41, .ref (54 + 2 * (nI 6).toNatClampNeg)], h)) 3 rfl).trans ?_
    refine (z_X_call (id := 108) (a := [.ref (54 + 2 * (nI 6).toNatClampNeg), .ref 41]) (c := 1) (s' := (78, [(0, .ref 45), (1, .int (nI 6)), (2, .int x2)], [], h)) rfl ⟨Nat.le_of_ble_eq_true rfl, Nat.le_of_ble_eq_true rfl⟩).trans ?_
    refine z_bdc fun r3 h4 => ?_
    exact z_X_ret rfl
  · subst e
    refine (z_X_steps (s' := (75, [(0, .ref 45), (1, .int (nI 7)), (2, .int x2)], [.ref 41, .ref (54 + 2 * (nI 7).toNatClampNeg)], h)) 3 rfl).trans ?_
    refine (z_X_call (id := 108) (a := [.ref (54 + 2 * (nI 7).toNatClampNeg), .ref 41]) (c := 1) (s' := (78, [(0, .ref 45), (1, .int (nI 7)), (2, .int x2)], [], h)) rfl ⟨Nat.le_of_ble_eq_true rfl, Nat.le_of_ble_eq_true rfl⟩).trans ?_
    refine z_bdc fun r3 h4 => ?_
    exact z_X_ret rfl
noncomputable def zl_Ch_costOfChosen_4 (x1 : Int32) (x2 : Int32) (h : z_H) : Option z_A := z_X zc_Ch_costOfChosen 1 (4, [(0, .ref 45), (1, .int x1), (2, .int x2)], [], h)
set_option maxRecDepth 8000 in
set_option maxHeartbeats 2000000 in
theorem e_Ch_costOfChosen (h : z_H) : z_M 116 [.ref 45] h = zl_Ch_costOfChosen_4 0 0 h := by
  refine (z_M_eq (by decide)).trans ?_
  show z_X zc_Ch_costOfChosen 1 (0, [(0, .ref 45)], [], h) = _
  refine (z_X_steps (s' := (4, [(2, .int 0), (1, .int 0), (0, .ref 45)], [], h)) 4 rfl).trans ?_
  exact z_X_lab rfl
set_option maxRecDepth 8000 in
set_option maxHeartbeats 2000000 in
theorem e_Ch_costOfChosen_4 (x1 : Int32) (x2 : Int32) (h : z_H) : zl_Ch_costOfChosen_4 x1 x2 h = (if h.1 45 0 ≤ x2 then some (x1, h) else (bif z_in x2 8 then (bif z_in (h.1 46 (x2.toNatClampNeg)) 8 then zl_Ch_costOfChosen_4 (x1 + (h.1 36 ((h.1 46 (x2.toNatClampNeg)).toNatClampNeg))) (x2 + 1) h else none) else none)) := by
  show z_X zc_Ch_costOfChosen 1 (4, [(0, .ref 45), (1, .int x1), (2, .int x2)], [], h) = _
  refine (z_X_steps (s' := (9, [(0, .ref 45), (1, .int x1), (2, .int x2)], [.int (h.1 45 0), .int x2], h)) 3 rfl).trans ?_
  refine (z_X_br (c := h.1 45 0 ≤ x2) (s1 := (35, [(0, .ref 45), (1, .int x1), (2, .int x2)], [], h)) (s2 := (12, [(0, .ref 45), (1, .int x1), (2, .int x2)], [], h)) rfl).trans (z_ite ?_ ?_)
  · refine (z_X_steps (s' := (36, [(0, .ref 45), (1, .int x1), (2, .int x2)], [.int x1], h)) 1 rfl).trans ?_
    exact z_X_ret rfl
  · refine (z_X_steps (s' := (25, [(0, .ref 45), (1, .int x1), (2, .int x2)], [.int x2, .ref 46, .ref 36, .int x1], h)) 7 rfl).trans ?_
    refine (z_X_if (g := z_in x2 8) (s' := (26, [(0, .ref 45), (1, .int x1), (2, .int x2)], [.int (h.1 46 (x2.toNatClampNeg)), .ref 36, .int x1], h)) rfl).trans (z_bifA ?_)
    refine (z_X_if (g := z_in (h.1 46 (x2.toNatClampNeg)) 8) (s' := (27, [(0, .ref 45), (1, .int x1), (2, .int x2)], [.int (h.1 36 ((h.1 46 (x2.toNatClampNeg)).toNatClampNeg)), .int x1], h)) rfl).trans (z_bifA ?_)
    refine (z_X_steps (s' := (4, [(2, .int (x2 + 1)), (1, .int (x1 + (h.1 36 ((h.1 46 (x2.toNatClampNeg)).toNatClampNeg)))), (0, .ref 45)], [], h)) 4 rfl).trans ?_
    exact z_X_lab rfl
noncomputable def zl_Ch_testsOver_4 (x1 : Int32) (x2 : Int32) (x3 : Int32) (h : z_H) : Option z_A := z_X zc_Ch_testsOver 2 (4, [(0, .ref 45), (1, .int x1), (2, .int x2), (3, .int x3)], [], h)
set_option maxRecDepth 8000 in
set_option maxHeartbeats 2000000 in
theorem e_Ch_testsOver (x1 : Int32) (h : z_H) : z_M 117 [.ref 45, .int x1] h = zl_Ch_testsOver_4 x1 0 0 h := by
  refine (z_M_eq (by decide)).trans ?_
  show z_X zc_Ch_testsOver 2 (0, [(0, .ref 45), (1, .int x1)], [], h) = _
  refine (z_X_steps (s' := (4, [(3, .int 0), (2, .int 0), (0, .ref 45), (1, .int x1)], [], h)) 4 rfl).trans ?_
  exact z_X_lab rfl
set_option maxRecDepth 8000 in
set_option maxHeartbeats 2000000 in
theorem e_Ch_testsOver_4 (x1 : Int32) (x2 : Int32) (x3 : Int32) (h : z_H) : zl_Ch_testsOver_4 x1 x2 x3 h = (if h.1 33 0 ≤ x3 then some (x2, h) else (bif z_in x3 8 then z_bd (z_M 106 [.ref (54 + 2 * x3.toNatClampNeg), .int x1] h) (fun r1 h2 => zl_Ch_testsOver_4 x1 (x2 + r1) (x3 + 1) h2) else none)) := by
  show z_X zc_Ch_testsOver 2 (4, [(0, .ref 45), (1, .int x1), (2, .int x2), (3, .int x3)], [], h) = _
  refine (z_X_steps (s' := (12, [(0, .ref 45), (1, .int x1), (2, .int x2), (3, .int x3)], [.int (h.1 33 0), .int x3], h)) 4 rfl).trans ?_
  refine (z_X_br (c := h.1 33 0 ≤ x3) (s1 := (34, [(0, .ref 45), (1, .int x1), (2, .int x2), (3, .int x3)], [], h)) (s2 := (15, [(0, .ref 45), (1, .int x1), (2, .int x2), (3, .int x3)], [], h)) rfl).trans (z_ite ?_ ?_)
  · refine (z_X_steps (s' := (35, [(0, .ref 45), (1, .int x1), (2, .int x2), (3, .int x3)], [.int x2], h)) 1 rfl).trans ?_
    exact z_X_ret rfl
  · refine (z_X_steps (s' := (21, [(0, .ref 45), (1, .int x1), (2, .int x2), (3, .int x3)], [.int x3, .ref 49, .int x2], h)) 4 rfl).trans ?_
    refine (z_X_if (g := z_in x3 8) (s' := (22, [(0, .ref 45), (1, .int x1), (2, .int x2), (3, .int x3)], [.ref (54 + 2 * x3.toNatClampNeg), .int x2], h)) rfl).trans (z_bifE8 ?_)
    refine ⟨fun e => ?_, fun e => ?_, fun e => ?_, fun e => ?_, fun e => ?_, fun e => ?_, fun e => ?_, fun e => ?_⟩
    · subst e
      refine (z_X_steps (s' := (23, [(0, .ref 45), (1, .int x1), (2, .int x2), (3, .int (nI 0))], [.int x1, .ref (54 + 2 * (nI 0).toNatClampNeg), .int x2], h)) 1 rfl).trans ?_
      refine (z_X_call (id := 106) (a := [.ref (54 + 2 * (nI 0).toNatClampNeg), .int x1]) (c := 1) (s' := (26, [(0, .ref 45), (1, .int x1), (2, .int x2), (3, .int (nI 0))], [.int x2], h)) rfl ⟨Nat.le_of_ble_eq_true rfl, Nat.le_of_ble_eq_true rfl⟩).trans ?_
      refine z_bdc fun r1 h2 => ?_
      refine (z_X_steps (s' := (4, [(3, .int ((nI 0) + 1)), (2, .int (x2 + r1)), (0, .ref 45), (1, .int x1)], [], h2)) 4 rfl).trans ?_
      exact z_X_lab rfl
    · subst e
      refine (z_X_steps (s' := (23, [(0, .ref 45), (1, .int x1), (2, .int x2), (3, .int (nI 1))], [.int x1, .ref (54 + 2 * (nI 1).toNatClampNeg), .int x2], h)) 1 rfl).trans ?_
      refine (z_X_call (id := 106) (a := [.ref (54 + 2 * (nI 1).toNatClampNeg), .int x1]) (c := 1) (s' := (26, [(0, .ref 45), (1, .int x1), (2, .int x2), (3, .int (nI 1))], [.int x2], h)) rfl ⟨Nat.le_of_ble_eq_true rfl, Nat.le_of_ble_eq_true rfl⟩).trans ?_
      refine z_bdc fun r1 h2 => ?_
      refine (z_X_steps (s' := (4, [(3, .int ((nI 1) + 1)), (2, .int (x2 + r1)), (0, .ref 45), (1, .int x1)], [], h2)) 4 rfl).trans ?_
      exact z_X_lab rfl
    · subst e
      refine (z_X_steps (s' := (23, [(0, .ref 45), (1, .int x1), (2, .int x2), (3, .int (nI 2))], [.int x1, .ref (54 + 2 * (nI 2).toNatClampNeg), .int x2], h)) 1 rfl).trans ?_
      refine (z_X_call (id := 106) (a := [.ref (54 + 2 * (nI 2).toNatClampNeg), .int x1]) (c := 1) (s' := (26, [(0, .ref 45), (1, .int x1), (2, .int x2), (3, .int (nI 2))], [.int x2], h)) rfl ⟨Nat.le_of_ble_eq_true rfl, Nat.le_of_ble_eq_true rfl⟩).trans ?_
      refine z_bdc fun r1 h2 => ?_
      refine (z_X_steps (s' := (4, [(3, .int ((nI 2) + 1)), (2, .int (x2 + r1)), (0, .ref 45), (1, .int x1)], [], h2)) 4 rfl).trans ?_
      exact z_X_lab rfl
    · subst e
      refine (z_X_steps (s' := (23, [(0, .ref 45), (1, .int x1), (2, .int x2), (3, .int (nI 3))], [.int x1, .ref (54 + 2 * (nI 3).toNatClampNeg), .int x2], h)) 1 rfl).trans ?_
      refine (z_X_call (id := 106) (a := [.ref (54 + 2 * (nI 3).toNatClampNeg), .int x1]) (c := 1) (s' := (26, [(0, .ref 45), (1, .int x1), (2, .int x2), (3, .int (nI 3))], [.int x2], h)) rfl ⟨Nat.le_of_ble_eq_true rfl, Nat.le_of_ble_eq_true rfl⟩).trans ?_
      refine z_bdc fun r1 h2 => ?_
      refine (z_X_steps (s' := (4, [(3, .int ((nI 3) + 1)), (2, .int (x2 + r1)), (0, .ref 45), (1, .int x1)], [], h2)) 4 rfl).trans ?_
      exact z_X_lab rfl
    · subst e
      refine (z_X_steps (s' := (23, [(0, .ref 45), (1, .int x1), (2, .int x2), (3, .int (nI 4))], [.int x1, .ref (54 + 2 * (nI 4).toNatClampNeg), .int x2], h)) 1 rfl).trans ?_
      refine (z_X_call (id := 106) (a := [.ref (54 + 2 * (nI 4).toNatClampNeg), .int x1]) (c := 1) (s' := (26, [(0, .ref 45), (1, .int x1), (2, .int x2), (3, .int (nI 4))], [.int x2], h)) rfl ⟨Nat.le_of_ble_eq_true rfl, Nat.le_of_ble_eq_true rfl⟩).trans ?_
      refine z_bdc fun r1 h2 => ?_
      refine (z_X_steps (s' := (4, [(3, .int ((nI 4) + 1)), (2, .int (x2 + r1)), (0, .ref 45), (1, .int x1)], [], h2)) 4 rfl).trans ?_
      exact z_X_lab rfl
    · subst e
      refine (z_X_steps (s' := (23, [(0, .ref 45), (1, .int x1), (2, .int x2), (3, .int (nI 5))], [.int x1, .ref (54 + 2 * (nI 5).toNatClampNeg), .int x2], h)) 1 rfl).trans ?_
      refine (z_X_call (id := 106) (a := [.ref (54 + 2 * (nI 5).toNatClampNeg), .int x1]) (c := 1) (s' := (26, [(0, .ref 45), (1, .int x1), (2, .int x2), (3, .int (nI 5))], [.int x2], h)) rfl ⟨Nat.le_of_ble_eq_true rfl, Nat.le_of_ble_eq_true rfl⟩).trans ?_
      refine z_bdc fun r1 h2 => ?_
      refine (z_X_steps (s' := (4, [(3, .int ((nI 5) + 1)), (2, .int (x2 + r1)), (0, .ref 45), (1, .int x1)], [], h2)) 4 rfl).trans ?_
      exact z_X_lab rfl
    · subst e
      refine (z_X_steps (s' := (23, [(0, .ref 45), (1, .int x1), (2, .int x2), (3, .int (nI 6))], [.int x1, .ref (54 + 2 * (nI 6).toNatClampNeg), .int x2], h)) 1 rfl).trans ?_
      refine (z_X_call (id := 106) (a := [.ref (54 + 2 * (nI 6).toNatClampNeg), .int x1]) (c := 1) (s' := (26, [(0, .ref 45), (1, .int x1), (2, .int x2), (3, .int (nI 6))], [.int x2], h)) rfl ⟨Nat.le_of_ble_eq_true rfl, Nat.le_of_ble_eq_true rfl⟩).trans ?_
      refine z_bdc fun r1 h2 => ?_
      refine (z_X_steps (s' := (4, [(3, .int ((nI 6) + 1)), (2, .int (x2 + r1)), (0, .ref 45), (1, .int x1)], [], h2)) 4 rfl).trans ?_
      exact z_X_lab rfl
    · subst e
      refine (z_X_steps (s' := (23, [(0, .ref 45), (1, .int x1), (2, .int x2), (3, .int (nI 7))], [.int x1, .ref (54 + 2 * (nI 7).toNatClampNeg), .int x2], h)) 1 rfl).trans ?_
      refine (z_X_call (id := 106) (a := [.ref (54 + 2 * (nI 7).toNatClampNeg), .int x1]) (c := 1) (s' := (26, [(0, .ref 45), (1, .int x1), (2, .int x2), (3, .int (nI 7))], [.int x2], h)) rfl ⟨Nat.le_of_ble_eq_true rfl, Nat.le_of_ble_eq_true rfl⟩).trans ?_
      refine z_bdc fun r1 h2 => ?_
      refine (z_X_steps (s' := (4, [(3, .int ((nI 7) + 1)), (2, .int (x2 + r1)), (0, .ref 45), (1, .int x1)], [], h2)) 4 rfl).trans ?_
      exact z_X_lab rfl
noncomputable def zl_Ch_edgesOver_9 (x1 : Int32) (h : z_H) : Option z_A := z_X zc_Ch_edgesOver 5 (9, [(0, .ref 45), (1, .int x1)], [], h)
set_option maxRecDepth 8000 in
set_option maxHeartbeats 2000000 in
theorem e_Ch_edgesOver (h : z_H) : z_M 118 [.ref 45] h = z_bd (z_M 101 [.ref 52] h) (fun r1 h2 => zl_Ch_edgesOver_9 0 h2) := by
  refine (z_M_eq (by decide)).trans ?_
  show z_X zc_Ch_edgesOver 5 (0, [(0, .ref 45)], [], h) = _
  refine (z_X_steps (s' := (4, [(0, .ref 45)], [.ref 52], h)) 2 rfl).trans ?_
  refine (z_X_call (id := 101) (a := [.ref 52]) (c := 0) (s' := (7, [(0, .ref 45)], [], h)) rfl ⟨Nat.le_of_ble_eq_true rfl, Nat.le_of_ble_eq_true rfl⟩).trans ?_
  refine z_bdc fun r1 h2 => ?_
  refine (z_X_steps (s' := (9, [(1, .int 0), (0, .ref 45)], [], h2)) 2 rfl).trans ?_
  exact z_X_lab rfl
set_option maxRecDepth 8000 in
set_option maxHeartbeats 2000000 in
theorem e_Ch_edgesOver_9 (x1 : Int32) (h : z_H) : zl_Ch_edgesOver_9 x1 h = (if h.1 33 0 ≤ x1 then z_bd (z_M 107 [.ref 52] h) (fun r1 h2 => some (r1, h2)) else (bif z_in x1 8 then z_bd (z_M 104 [.ref 52, .ref (54 + 2 * x1.toNatClampNeg)] h) (fun r3 h4 => zl_Ch_edgesOver_9 (x1 + 1) h4) else none)) := by
  show z_X zc_Ch_edgesOver 5 (9, [(0, .ref 45), (1, .int x1)], [], h) = _
  refine (z_X_steps (s' := (17, [(0, .ref 45), (1, .int x1)], [.int (h.1 33 0), .int x1], h)) 4 rfl).trans ?_
  refine (z_X_br (c := h.1 33 0 ≤ x1) (s1 := (39, [(0, .ref 45), (1, .int x1)], [], h)) (s2 := (20, [(0, .ref 45), (1, .int x1)], [], h)) rfl).trans (z_ite ?_ ?_)
  · refine (z_X_steps (s' := (43, [(0, .ref 45), (1, .int x1)], [.ref 52], h)) 2 rfl).trans ?_
    refine (z_X_call (id := 107) (a := [.ref 52]) (c := 1) (s' := (46, [(0, .ref 45), (1, .int x1)], [], h)) rfl ⟨Nat.le_of_ble_eq_true rfl, Nat.le_of_ble_eq_true rfl⟩).trans ?_
    refine z_bdc fun r1 h2 => ?_
    exact z_X_ret rfl
  · refine (z_X_steps (s' := (29, [(0, .ref 45), (1, .int x1)], [.int x1, .ref 49, .ref 52], h)) 5 rfl).trans ?_
    refine (z_X_if (g := z_in x1 8) (s' := (30, [(0, .ref 45), (1, .int x1)], [.ref (54 + 2 * x1.toNatClampNeg), .ref 52], h)) rfl).trans (z_bifE8 ?_)
    refine ⟨fun e => ?_, fun e => ?_, fun e => ?_, fun e => ?_, fun e => ?_, fun e => ?_, fun e => ?_, fun e => ?_⟩
    · subst e
      refine (z_X_call (id := 104) (a := [.ref 52, .ref (54 + 2 * (nI 0).toNatClampNeg)]) (c := 0) (s' := (33, [(0, .ref 45), (1, .int (nI 0))], [], h)) rfl ⟨Nat.le_of_ble_eq_true rfl, Nat.le_of_ble_eq_true rfl⟩).trans ?_
      refine z_bdc fun r3 h4 => ?_
      refine (z_X_steps (s' := (9, [(1, .int ((nI 0) + 1)), (0, .ref 45)], [], h4)) 2 rfl).trans ?_
      exact z_X_lab rfl
    · subst e
      refine (z_X_call (id := 104) (a := [.ref 52, .ref (54 + 2 * (nI 1).toNatClampNeg)]) (c := 0) (s' := (33, [(0, .ref 45), (1, .int (nI 1))], [], h)) rfl ⟨Nat.le_of_ble_eq_true rfl, Nat.le_of_ble_eq_true rfl⟩).trans ?_
      refine z_bdc fun r3 h4 => ?_
      refine (z_X_steps (s' := (9, [(1, .int ((nI 1) + 1)), (0, .ref 45)], [], h4)) 2 rfl).trans ?_
      exact z_X_lab rfl
    · subst e
      refine (z_X_call (id := 104) (a := [.ref 52, .ref (54 + 2 * (nI 2).toNatClampNeg)]) (c := 0) (s' := (33, [(0, .ref 45), (1, .int (nI 2))], [], h)) rfl ⟨Nat.le_of_ble_eq_true rfl, Nat.le_of_ble_eq_true rfl⟩).trans ?_
      refine z_bdc fun r3 h4 => ?_
      refine (z_X_steps (s' := (9, [(1, .int ((nI 2) + 1)), (0, .ref 45)], [], h4)) 2 rfl).trans ?_
      exact z_X_lab rfl
    · subst e
      refine (z_X_call (id := 104) (a := [.ref 52, .ref (54 + 2 * (nI 3).toNatClampNeg)]) (c := 0) (s' := (33, [(0, .ref 45), (1, .int (nI 3))], [], h)) rfl ⟨Nat.le_of_ble_eq_true rfl, Nat.le_of_ble_eq_true rfl⟩).trans ?_
      refine z_bdc fun r3 h4 => ?_
      refine (z_X_steps (s' := (9, [(1, .int ((nI 3) + 1)), (0, .ref 45)], [], h4)) 2 rfl).trans ?_
      exact z_X_lab rfl
    · subst e
      refine (z_X_call (id := 104) (a := [.ref 52, .ref (54 + 2 * (nI 4).toNatClampNeg)]) (c := 0) (s' := (33, [(0, .ref 45), (1, .int (nI 4))], [], h)) rfl ⟨Nat.le_of_ble_eq_true rfl, Nat.le_of_ble_eq_true rfl⟩).trans ?_
      refine z_bdc fun r3 h4 => ?_
      refine (z_X_steps (s' := (9, [(1, .int ((nI 4) + 1)), (0, .ref 45)], [], h4)) 2 rfl).trans ?_
      exact z_X_lab rfl
    · subst e
      refine (z_X_call (id := 104) (a := [.ref 52, .ref (54 + 2 * (nI 5).toNatClampNeg)]) (c := 0) (s' := (33, [(0, .ref 45), (1, .int (nI 5))], [], h)) rfl ⟨Nat.le_of_ble_eq_true rfl, Nat.le_of_ble_eq_true rfl⟩).trans ?_
      refine z_bdc fun r3 h4 => ?_
      refine (z_X_steps (s' := (9, [(1, .int ((nI 5) + 1)), (0, .ref 45)], [], h4)) 2 rfl).trans ?_
      exact z_X_lab rfl
    · subst e
      refine (z_X_call (id := 104) (a := [.ref 52, .ref (54 + 2 * (nI 6).toNatClampNeg)]) (c := 0) (s' := (33, [(0, .ref 45), (1, .int (nI 6))], [], h)) rfl ⟨Nat.le_of_ble_eq_true rfl, Nat.le_of_ble_eq_true rfl⟩).trans ?_
      refine z_bdc fun r3 h4 => ?_
      refine (z_X_steps (s' := (9, [(1, .int ((nI 6) + 1)), (0, .ref 45)], [], h4)) 2 rfl).trans ?_
      exact z_X_lab rfl
    · subst e
      refine (z_X_call (id := 104) (a := [.ref 52, .ref (54 + 2 * (nI 7).toNatClampNeg)]) (c := 0) (s' := (33, [(0, .ref 45), (1, .int (nI 7))], [], h)) rfl ⟨Nat.le_of_ble_eq_true rfl, Nat.le_of_ble_eq_true rfl⟩).trans ?_
      refine z_bdc fun r3 h4 => ?_
      refine (z_X_steps (s' := (9, [(1, .int ((nI 7) + 1)), (0, .ref 45)], [], h4)) 2 rfl).trans ?_
      exact z_X_lab rfl
noncomputable def zl_Ch_rankAll_30 (x1 : Int32) (h : z_H) : Option z_A := z_X zc_Ch_rankAll 5 (30, [(0, .ref 45), (1, .int x1)], [], h)
set_option maxRecDepth 8000 in
set_option maxHeartbeats 2000000 in
theorem e_Ch_rankAll (h : z_H) : z_M 119 [.ref 45] h = z_bd (z_M 902 [.ref 48, .int (-4)] (z_wI h 45 0 0)) (fun r1 h2 => z_bd (z_M 102 [.ref 50, .ref 41] h2) (fun r3 h4 => zl_Ch_rankAll_30 0 h4)) := by
  refine (z_M_eq (by decide)).trans ?_
  show z_X zc_Ch_rankAll 5 (0, [(0, .ref 45)], [], h) = _
  refine (z_X_steps (s' := (11, [(0, .ref 45)], [.int (-4), .ref 48], (z_wI h 45 0 0))) 6 rfl).trans ?_
  refine (z_X_call (id := 902) (a := [.ref 48, .int (-4)]) (c := 0) (s' := (14, [(0, .ref 45)], [], (z_wI h 45 0 0))) rfl ⟨Nat.le_of_ble_eq_true rfl, Nat.le_of_ble_eq_true rfl⟩).trans ?_
  refine z_bdc fun r1 h2 => ?_
  refine (z_X_steps (s' := (25, [(0, .ref 45)], [.ref 41, .ref 50], h2)) 5 rfl).trans ?_
  refine (z_X_call (id := 102) (a := [.ref 50, .ref 41]) (c := 0) (s' := (28, [(0, .ref 45)], [], h2)) rfl ⟨Nat.le_of_ble_eq_true rfl, Nat.le_of_ble_eq_true rfl⟩).trans ?_
  refine z_bdc fun r3 h4 => ?_
  refine (z_X_steps (s' := (30, [(1, .int 0), (0, .ref 45)], [], h4)) 2 rfl).trans ?_
  exact z_X_lab rfl
set_option maxRecDepth 8000 in
set_option maxHeartbeats 2000000 in
theorem e_Ch_rankAll_30 (x1 : Int32) (h : z_H) : zl_Ch_rankAll_30 x1 h = (if h.1 33 0 ≤ x1 then some (0, h) else z_bd (z_M 120 [.ref 45] h) (fun r1 h2 => (if ¬ r1 = (-4) then z_bd (z_M 121 [.ref 45, .int r1] h2) (fun r3 h4 => zl_Ch_rankAll_30 (x1 + 1) h4) else some (0, h2)))) := by
  show z_X zc_Ch_rankAll 5 (30, [(0, .ref 45), (1, .int x1)], [], h) = _
  refine (z_X_steps (s' := (38, [(0, .ref 45), (1, .int x1)], [.int (h.1 33 0), .int x1], h)) 4 rfl).trans ?_
  refine (z_X_br (c := h.1 33 0 ≤ x1) (s1 := (64, [(0, .ref 45), (1, .int x1)], [], h)) (s2 := (41, [(0, .ref 45), (1, .int x1)], [], h)) rfl).trans (z_ite ?_ ?_)
  · exact z_X_ret rfl
  · refine (z_X_steps (s' := (42, [(0, .ref 45), (1, .int x1)], [.ref 45], h)) 1 rfl).trans ?_
    refine (z_X_call (id := 120) (a := [.ref 45]) (c := 1) (s' := (45, [(0, .ref 45), (1, .int x1)], [], h)) rfl ⟨Nat.le_of_ble_eq_true rfl, Nat.le_of_ble_eq_true rfl⟩).trans ?_
    refine z_bdc fun r1 h2 => ?_
    refine (z_X_steps (s' := (49, [(2, .int r1), (0, .ref 45), (1, .int x1)], [.int (-4), .int r1], h2)) 3 rfl).trans ?_
    refine (z_X_br (c := ¬ r1 = (-4)) (s1 := (53, [(2, .int r1), (0, .ref 45), (1, .int x1)], [], h2)) (s2 := (52, [(2, .int r1), (0, .ref 45), (1, .int x1)], [], h2)) rfl).trans (z_ite ?_ ?_)
    · refine (z_X_steps (s' := (55, [(2, .int r1), (0, .ref 45), (1, .int x1)], [.int r1, .ref 45], h2)) 2 rfl).trans ?_
      refine (z_X_call (id := 121) (a := [.ref 45, .int r1]) (c := 0) (s' := (58, [(2, .int r1), (0, .ref 45), (1, .int x1)], [], h2)) rfl ⟨Nat.le_of_ble_eq_true rfl, Nat.le_of_ble_eq_true rfl⟩).trans ?_
      refine z_bdc fun r3 h4 => ?_
      refine (z_X_steps (s' := (30, [(1, .int (x1 + 1)), (2, .int r1), (0, .ref 45)], [], h4)) 2 rfl).trans ?_
      exact z_X_lab rfl
    · exact z_X_ret rfl
noncomputable def zl_Ch_nextOne_7 (x1 : Int32) (x2 : Int32) (x3 : Int32) (h : z_H) : Option z_A := z_X zc_Ch_nextOne 4 (7, [(0, .ref 45), (1, .int x1), (2, .int x2), (3, .int x3)], [], h)
set_option maxRecDepth 8000 in
set_option maxHeartbeats 2000000 in
theorem e_Ch_nextOne (h : z_H) : z_M 120 [.ref 45] h = zl_Ch_nextOne_7 (-4) 0 0 h := by
  refine (z_M_eq (by decide)).trans ?_
  show z_X zc_Ch_nextOne 4 (0, [(0, .ref 45)], [], h) = _
  refine (z_X_steps (s' := (7, [(3, .int 0), (2, .int 0), (1, .int (-4)), (0, .ref 45)], [], h)) 6 rfl).trans ?_
  exact z_X_lab rfl
set_option maxRecDepth 8000 in
set_option maxHeartbeats 2000000 in
theorem e_Ch_nextOne_7 (x1 : Int32) (x2 : Int32) (x3 : Int32) (h : z_H) : zl_Ch_nextOne_7 x1 x2 x3 h = (if h.1 33 0 ≤ x3 then some (x1, h) else (bif z_in x3 8 then (if ¬ h.1 48 (x3.toNatClampNeg) = (-4) then zl_Ch_nextOne_7 x1 x2 (x3 + 1) h else (bif z_in x3 8 then z_bd (z_M 108 [.ref (54 + 2 * x3.toNatClampNeg), .ref 41] h) (fun r1 h2 => (if r1 ≤ 0 then zl_Ch_nextOne_7 x1 x2 (x3 + 1) h2 else (bif z_in x3 8 then z_bd (z_M 108 [.ref (54 + 2 * x3.toNatClampNeg), .ref 50] h2) (fun r3 h4 => (if x1 = (-4) then zl_Ch_nextOne_7 x3 r3 (x3 + 1) h4 else (bif z_in x1 8 then (bif z_in x3 8 then (if r3 * (h4.1 36 (x1.toNatClampNeg)) ≤ x2 * (h4.1 36 (x3.toNatClampNeg)) then zl_Ch_nextOne_7 x1 x2 (x3 + 1) h4 else zl_Ch_nextOne_7 x3 r3 (x3 + 1) h4) else none) else none))) else none))) else none)) else none)) := by
  show z_X zc_Ch_nextOne 4 (7, [(0, .ref 45), (1, .int x1), (2, .int x2), (3, .int x3)], [], h) = _
  refine (z_X_steps (s' := (15, [(0, .ref 45), (1, .int x1), (2, .int x2), (3, .int x3)], [.int (h.1 33 0), .int x3], h)) 4 rfl).trans ?_
  refine (z_X_br (c := h.1 33 0 ≤ x3) (s1 := (106, [(0, .ref 45), (1, .int x1), (2, .int x2), (3, .int x3)], [], h)) (s2 := (18, [(0, .ref 45), (1, .int x1), (2, .int x2), (3, .int x3)], [], h)) rfl).trans (z_ite ?_ ?_)
  · refine (z_X_steps (s' := (107, [(0, .ref 45), (1, .int x1), (2, .int x2), (3, .int x3)], [.int x1], h)) 1 rfl).trans ?_
    exact z_X_ret rfl
  · refine (z_X_steps (s' := (23, [(0, .ref 45), (1, .int x1), (2, .int x2), (3, .int x3)], [.int x3, .ref 48], h)) 3 rfl).trans ?_
    refine (z_X_if (g := z_in x3 8) (s' := (24, [(0, .ref 45), (1, .int x1), (2, .int x2), (3, .int x3)], [.int (h.1 48 (x3.toNatClampNeg))], h)) rfl).trans (z_bifA ?_)
    refine (z_X_steps (s' := (26, [(0, .ref 45), (1, .int x1), (2, .int x2), (3, .int x3)], [.int (-4), .int (h.1 48 (x3.toNatClampNeg))], h)) 1 rfl).trans ?_
    refine (z_X_br (c := ¬ h.1 48 (x3.toNatClampNeg) = (-4)) (s1 := (100, [(0, .ref 45), (1, .int x1), (2, .int x2), (3, .int x3)], [], h)) (s2 := (29, [(0, .ref 45), (1, .int x1), (2, .int x2), (3, .int x3)], [], h)) rfl).trans (z_ite ?_ ?_)
    · refine (z_X_steps (s' := (7, [(3, .int (x3 + 1)), (0, .ref 45), (1, .int x1), (2, .int x2)], [], h)) 2 rfl).trans ?_
      exact z_X_lab rfl
    · refine (z_X_steps (s' := (34, [(0, .ref 45), (1, .int x1), (2, .int x2), (3, .int x3)], [.int x3, .ref 49], h)) 3 rfl).trans ?_
      refine (z_X_if (g := z_in x3 8) (s' := (35, [(0, .ref 45), (1, .int x1), (2, .int x2), (3, .int x3)], [.ref (54 + 2 * x3.toNatClampNeg)], h)) rfl).trans (z_bifE8 ?_)
      refine ⟨fun e => ?_, fun e => ?_, fun e => ?_, fun e => ?_, fun e => ?_, fun e => ?_, fun e => ?_, fun e => ?_⟩
      · subst e
        refine (z_X_steps (s' := (42, [(0, .ref 45), (1, .int x1), (2, .int x2), (3, .int (nI 0))], [.ref 41, .ref (54 + 2 * (nI 0).toNatClampNeg)], h)) 3 rfl).trans ?_
        refine (z_X_call (id := 108) (a := [.ref (54 + 2 * (nI 0).toNatClampNeg), .ref 41]) (c := 1) (s' := (45, [(0, .ref 45), (1, .int x1), (2, .int x2), (3, .int (nI 0))], [], h)) rfl ⟨Nat.le_of_ble_eq_true rfl, Nat.le_of_ble_eq_true rfl⟩).trans ?_
        refine z_bdc fun r1 h2 => ?_
        refine (z_X_br (c := r1 ≤ 0) (s1 := (100, [(0, .ref 45), (1, .int x1), (2, .int x2), (3, .int (nI 0))], [], h2)) (s2 := (48, [(0, .ref 45), (1, .int x1), (2, .int x2), (3, .int (nI 0))], [], h2)) rfl).trans (z_ite ?_ ?_)
        · refine (z_X_steps (s' := (7, [(3, .int ((nI 0) + 1)), (0, .ref 45), (1, .int x1), (2, .int x2)], [], h2)) 2 rfl).trans ?_
          exact z_X_lab rfl
        · refine (z_X_steps (s' := (53, [(0, .ref 45), (1, .int x1), (2, .int x2), (3, .int (nI 0))], [.int (nI 0), .ref 49], h2)) 3 rfl).trans ?_
          refine (z_X_if (g := z_in (nI 0) 8) (s' := (54, [(0, .ref 45), (1, .int x1), (2, .int x2), (3, .int (nI 0))], [.ref (54 + 2 * (nI 0).toNatClampNeg)], h2)) rfl).trans (z_bifA ?_)
          refine (z_X_steps (s' := (58, [(0, .ref 45), (1, .int x1), (2, .int x2), (3, .int (nI 0))], [.ref 50, .ref (54 + 2 * (nI 0).toNatClampNeg)], h2)) 2 rfl).trans ?_
          refine (z_X_call (id := 108) (a := [.ref (54 + 2 * (nI 0).toNatClampNeg), .ref 50]) (c := 1) (s' := (61, [(0, .ref 45), (1, .int x1), (2, .int x2), (3, .int (nI 0))], [], h2)) rfl ⟨Nat.le_of_ble_eq_true rfl, Nat.le_of_ble_eq_true rfl⟩).trans ?_
          refine z_bdc fun r3 h4 => ?_
          refine (z_X_steps (s' := (66, [(4, .int r3), (0, .ref 45), (1, .int x1), (2, .int x2), (3, .int (nI 0))], [.int (-4), .int x1], h4)) 3 rfl).trans ?_
          refine (z_X_br (c := x1 = (-4)) (s1 := (95, [(4, .int r3), (0, .ref 45), (1, .int x1), (2, .int x2), (3, .int (nI 0))], [], h4)) (s2 := (69, [(4, .int r3), (0, .ref 45), (1, .int x1), (2, .int x2), (3, .int (nI 0))], [], h4)) rfl).trans (z_ite ?_ ?_)
          · refine (z_X_steps (s' := (7, [(3, .int ((nI 0) + 1)), (2, .int r3), (1, .int (nI 0)), (4, .int r3), (0, .ref 45)], [], h4)) 6 rfl).trans ?_
            exact z_X_lab rfl
          · refine (z_X_steps (s' := (79, [(4, .int r3), (0, .ref 45), (1, .int x1), (2, .int x2), (3, .int (nI 0))], [.int x1, .ref 36, .int r3], h4)) 5 rfl).trans ?_
            refine (z_X_if (g := z_in x1 8) (s' := (80, [(4, .int r3), (0, .ref 45), (1, .int x1), (2, .int x2), (3, .int (nI 0))], [.int (h4.1 36 (x1.toNatClampNeg)), .int r3], h4)) rfl).trans (z_bifA ?_)
            refine (z_X_steps (s' := (90, [(4, .int r3), (0, .ref 45), (1, .int x1), (2, .int x2), (3, .int (nI 0))], [.int (nI 0), .ref 36, .int x2, .int (r3 * (h4.1 36 (x1.toNatClampNeg)))], h4)) 6 rfl).trans ?_
            refine (z_X_if (g := z_in (nI 0) 8) (s' := (91, [(4, .int r3), (0, .ref 45), (1, .int x1), (2, .int x2), (3, .int (nI 0))], [.int (h4.1 36 ((nI 0).toNatClampNeg)), .int x2, .int (r3 * (h4.1 36 (x1.toNatClampNeg)))], h4)) rfl).trans (z_bifA ?_)
            refine (z_X_steps (s' := (92, [(4, .int r3), (0, .ref 45), (1, .int x1), (2, .int x2), (3, .int (nI 0))], [.int (x2 * (h4.1 36 ((nI 0).toNatClampNeg))), .int (r3 * (h4.1 36 (x1.toNatClampNeg)))], h4)) 1 rfl).trans ?_
            refine (z_X_br (c := r3 * (h4.1 36 (x1.toNatClampNeg)) ≤ x2 * (h4.1 36 ((nI 0).toNatClampNeg))) (s1 := (100, [(4, .int r3), (0, .ref 45), (1, .int x1), (2, .int x2), (3, .int (nI 0))], [], h4)) (s2 := (95, [(4, .int r3), (0, .ref 45), (1, .int x1), (2, .int x2), (3, .int (nI 0))], [], h4)) rfl).trans (z_ite ?_ ?_)
            · refine (z_X_steps (s' := (7, [(3, .int ((nI 0) + 1)), (4, .int r3), (0, .ref 45), (1, .int x1), (2, .int x2)], [], h4)) 2 rfl).trans ?_
              exact z_X_lab rfl
            · refine (z_X_steps (s' := (7, [(3, .int ((nI 0) + 1)), (2, .int r3), (1, .int (nI 0)), (4, .int r3), (0, .ref 45)], [], h4)) 6 rfl).trans ?_
              exact z_X_lab rfl
      · subst e
        refine (z_X_steps (s' := (42, [(0, .ref 45), (1, .int x1), (2, .int x2), (3, .int (nI 1))], [.ref 41, .ref (54 + 2 * (nI 1).toNatClampNeg)], h)) 3 rfl).trans ?_
        refine (z_X_call (id := 108) (a := [.ref (54 + 2 * (nI 1).toNatClampNeg), .ref 41]) (c := 1) (s' := (45, [(0, .ref 45), (1, .int x1), (2, .int x2), (3, .int (nI 1))], [], h)) rfl ⟨Nat.le_of_ble_eq_true rfl, Nat.le_of_ble_eq_true rfl⟩).trans ?_
        refine z_bdc fun r1 h2 => ?_
        refine (z_X_br (c := r1 ≤ 0) (s1 := (100, [(0, .ref 45), (1, .int x1), (2, .int x2), (3, .int (nI 1))], [], h2)) (s2 := (48, [(0, .ref 45), (1, .int x1), (2, .int x2), (3, .int (nI 1))], [], h2)) rfl).trans (z_ite ?_ ?_)
        · refine (z_X_steps (s' := (7, [(3, .int ((nI 1) + 1)), (0, .ref 45), (1, .int x1), (2, .int x2)], [], h2)) 2 rfl).trans ?_
          exact z_X_lab rfl
        · refine (z_X_steps (s' := (53, [(0, .ref 45), (1, .int x1), (2, .int x2), (3, .int (nI 1))], [.int (nI 1), .ref 49], h2)) 3 rfl).trans ?_
          refine (z_X_if (g := z_in (nI 1) 8) (s' := (54, [(0, .ref 45), (1, .int x1), (2, .int x2), (3, .int (nI 1))], [.ref (54 + 2 * (nI 1).toNatClampNeg)], h2)) rfl).trans (z_bifA ?_)
          refine (z_X_steps (s' := (58, [(0, .ref 45), (1, .int x1), (2, .int x2), (3, .int (nI 1))], [.ref 50, .ref (54 + 2 * (nI 1).toNatClampNeg)], h2)) 2 rfl).trans ?_
          refine (z_X_call (id := 108) (a := [.ref (54 + 2 * (nI 1).toNatClampNeg), .ref 50]) (c := 1) (s' := (61, [(0, .ref 45), (1, .int x1), (2, .int x2), (3, .int (nI 1))], [], h2)) rfl ⟨Nat.le_of_ble_eq_true rfl, Nat.le_of_ble_eq_true rfl⟩).trans ?_
          refine z_bdc fun r3 h4 => ?_
          refine (z_X_steps (s' := (66, [(4, .int r3), (0, .ref 45), (1, .int x1), (2, .int x2), (3, .int (nI 1))], [.int (-4), .int x1], h4)) 3 rfl).trans ?_
          refine (z_X_br (c := x1 = (-4)) (s1 := (95, [(4, .int r3), (0, .ref 45), (1, .int x1), (2, .int x2), (3, .int (nI 1))], [], h4)) (s2 := (69, [(4, .int r3), (0, .ref 45), (1, .int x1), (2, .int x2), (3, .int (nI 1))], [], h4)) rfl).trans (z_ite ?_ ?_)
          · refine (z_X_steps (s' := (7, [(3, .int ((nI 1) + 1)), (2, .int r3), (1, .int (nI 1)), (4, .int r3), (0, .ref 45)], [], h4)) 6 rfl).trans ?_
            exact z_X_lab rfl
          · refine (z_X_steps (s' := (79, [(4, .int r3), (0, .ref 45), (1, .int x1), (2, .int x2), (3, .int (nI 1))], [.int x1, .ref 36, .int r3], h4)) 5 rfl).trans ?_
            refine (z_X_if (g := z_in x1 8) (s' := (80, [(4, .int r3), (0, .ref 45), (1, .int x1), (2, .int x2), (3, .int (nI 1))], [.int (h4.1 36 (x1.toNatClampNeg)), .int r3], h4)) rfl).trans (z_bifA ?_)
            refine (z_X_steps (s' := (90, [(4, .int r3), (0, .ref 45), (1, .int x1), (2, .int x2), (3, .int (nI 1))], [.int (nI 1), .ref 36, .int x2, .int (r3 * (h4.1 36 (x1.toNatClampNeg)))], h4)) 6 rfl).trans ?_
            refine (z_X_if (g := z_in (nI 1) 8) (s' := (91, [(4, .int r3), (0, .ref 45), (1, .int x1), (2, .int x2), (3, .int (nI 1))], [.int (h4.1 36 ((nI 1).toNatClampNeg)), .int x2, .int (r3 * (h4.1 36 (x1.toNatClampNeg)))], h4)) rfl).trans (z_bifA ?_)
            refine (z_X_steps (s' := (92, [(4, .int r3), (0, .ref 45), (1, .int x1), (2, .int x2), (3, .int (nI 1))], [.int (x2 * (h4.1 36 ((nI 1).toNatClampNeg))), .int (r3 * (h4.1 36 (x1.toNatClampNeg)))], h4)) 1 rfl).trans ?_
            refine (z_X_br (c := r3 * (h4.1 36 (x1.toNatClampNeg)) ≤ x2 * (h4.1 36 ((nI 1).toNatClampNeg))) (s1 := (100, [(4, .int r3), (0, .ref 45), (1, .int x1), (2, .int x2), (3, .int (nI 1))], [], h4)) (s2 := (95, [(4, .int r3), (0, .ref 45), (1, .int x1), (2, .int x2), (3, .int (nI 1))], [], h4)) rfl).trans (z_ite ?_ ?_)
            · refine (z_X_steps (s' := (7, [(3, .int ((nI 1) + 1)), (4, .int r3), (0, .ref 45), (1, .int x1), (2, .int x2)], [], h4)) 2 rfl).trans ?_
              exact z_X_lab rfl
            · refine (z_X_steps (s' := (7, [(3, .int ((nI 1) + 1)), (2, .int r3), (1, .int (nI 1)), (4, .int r3), (0, .ref 45)], [], h4)) 6 rfl).trans ?_
              exact z_X_lab rfl
      · subst e
        refine (z_X_steps (s' := (42, [(0, .ref 45), (1, .int x1), (2, .int x2), (3, .int (nI 2))], [.ref 41, .ref (54 + 2 * (nI 2).toNatClampNeg)], h)) 3 rfl).trans ?_
        refine (z_X_call (id := 108) (a := [.ref (54 + 2 * (nI 2).toNatClampNeg), .ref 41]) (c := 1) (s' := (45, [(0, .ref 45), (1, .int x1), (2, .int x2), (3, .int (nI 2))], [], h)) rfl ⟨Nat.le_of_ble_eq_true rfl, Nat.le_of_ble_eq_true rfl⟩).trans ?_
        refine z_bdc fun r1 h2 => ?_
        refine (z_X_br (c := r1 ≤ 0) (s1 := (100, [(0, .ref 45), (1, .int x1), (2, .int x2), (3, .int (nI 2))], [], h2)) (s2 := (48, [(0, .ref 45), (1, .int x1), (2, .int x2), (3, .int (nI 2))], [], h2)) rfl).trans (z_ite ?_ ?_)
        · refine (z_X_steps (s' := (7, [(3, .int ((nI 2) + 1)), (0, .ref 45), (1, .int x1), (2, .int x2)], [], h2)) 2 rfl).trans ?_
          exact z_X_lab rfl
        · refine (z_X_steps (s' := (53, [(0, .ref 45), (1, .int x1), (2, .int x2), (3, .int (nI 2))], [.int (nI 2), .ref 49], h2)) 3 rfl).trans ?_
          refine (z_X_if (g := z_in (nI 2) 8) (s' := (54, [(0, .ref 45), (1, .int x1), (2, .int x2), (3, .int (nI 2))], [.ref (54 + 2 * (nI 2).toNatClampNeg)], h2)) rfl).trans (z_bifA ?_)
          refine (z_X_steps (s' := (58, [(0, .ref 45), (1, .int x1), (2, .int x2), (3, .int (nI 2))], [.ref 50, .ref (54 + 2 * (nI 2).toNatClampNeg)], h2)) 2 rfl).trans ?_
          refine (z_X_call (id := 108) (a := [.ref (54 + 2 * (nI 2).toNatClampNeg), .ref 50]) (c := 1) (s' := (61, [(0, .ref 45), (1, .int x1), (2, .int x2), (3, .int (nI 2))], [], h2)) rfl ⟨Nat.le_of_ble_eq_true rfl, Nat.le_of_ble_eq_true rfl⟩).trans ?_
          refine z_bdc fun r3 h4 => ?_
          refine (z_X_steps (s' := (66, [(4, .int r3), (0, .ref 45), (1, .int x1), (2, .int x2), (3, .int (nI 2))], [.int (-4), .int x1], h4)) 3 rfl).trans ?_
          refine (z_X_br (c := x1 = (-4)) (s1 := (95, [(4, .int r3), (0, .ref 45), (1, .int x1), (2, .int x2), (3, .int (nI 2))], [], h4)) (s2 := (69, [(4, .int r3), (0, .ref 45), (1, .int x1), (2, .int x2), (3, .int (nI 2))], [], h4)) rfl).trans (z_ite ?_ ?_)
          · refine (z_X_steps (s' := (7, [(3, .int ((nI 2) + 1)), (2, .int r3), (1, .int (nI 2)), (4, .int r3), (0, .ref 45)], [], h4)) 6 rfl).trans ?_
            exact z_X_lab rfl
          · refine (z_X_steps (s' := (79, [(4, .int r3), (0, .ref 45), (1, .int x1), (2, .int x2), (3, .int (nI 2))], [.int x1, .ref 36, .int r3], h4)) 5 rfl).trans ?_
            refine (z_X_if (g := z_in x1 8) (s' := (80, [(4, .int r3), (0, .ref 45), (1, .int x1), (2, .int x2), (3, .int (nI 2))], [.int (h4.1 36 (x1.toNatClampNeg)), .int r3], h4)) rfl).trans (z_bifA ?_)
            refine (z_X_steps (s' := (90, [(4, .int r3), (0, .ref 45), (1, .int x1), (2, .int x2), (3, .int (nI 2))], [.int (nI 2), .ref 36, .int x2, .int (r3 * (h4.1 36 (x1.toNatClampNeg)))], h4)) 6 rfl).trans ?_
            refine (z_X_if (g := z_in (nI 2) 8) (s' := (91, [(4, .int r3), (0, .ref 45), (1, .int x1), (2, .int x2), (3, .int (nI 2))], [.int (h4.1 36 ((nI 2).toNatClampNeg)), .int x2, .int (r3 * (h4.1 36 (x1.toNatClampNeg)))], h4)) rfl).trans (z_bifA ?_)
            refine (z_X_steps (s' := (92, [(4, .int r3), (0, .ref 45), (1, .int x1), (2, .int x2), (3, .int (nI 2))], [.int (x2 * (h4.1 36 ((nI 2).toNatClampNeg))), .int (r3 * (h4.1 36 (x1.toNatClampNeg)))], h4)) 1 rfl).trans ?_
            refine (z_X_br (c := r3 * (h4.1 36 (x1.toNatClampNeg)) ≤ x2 * (h4.1 36 ((nI 2).toNatClampNeg))) (s1 := (100, [(4, .int r3), (0, .ref 45), (1, .int x1), (2, .int x2), (3, .int (nI 2))], [], h4)) (s2 := (95, [(4, .int r3), (0, .ref 45), (1, .int x1), (2, .int x2), (3, .int (nI 2))], [], h4)) rfl).trans (z_ite ?_ ?_)
            · refine (z_X_steps (s' := (7, [(3, .int ((nI 2) + 1)), (4, .int r3), (0, .ref 45), (1, .int x1), (2, .int x2)], [], h4)) 2 rfl).trans ?_
              exact z_X_lab rfl
            · refine (z_X_steps (s' := (7, [(3, .int ((nI 2) + 1)), (2, .int r3), (1, .int (nI 2)), (4, .int r3), (0, .ref 45)], [], h4)) 6 rfl).trans ?_
              exact z_X_lab rfl
      · subst e
        refine (z_X_steps (s' := (42, [(0, .ref 45), (1, .int x1), (2, .int x2), (3, .int (nI 3))], [.ref 41, .ref (54 + 2 * (nI 3).toNatClampNeg)], h)) 3 rfl).trans ?_
        refine (z_X_call (id := 108) (a := [.ref (54 + 2 * (nI 3).toNatClampNeg), .ref 41]) (c := 1) (s' := (45, [(0, .ref 45), (1, .int x1), (2, .int x2), (3, .int (nI 3))], [], h)) rfl ⟨Nat.le_of_ble_eq_true rfl, Nat.le_of_ble_eq_true rfl⟩).trans ?_
        refine z_bdc fun r1 h2 => ?_
        refine (z_X_br (c := r1 ≤ 0) (s1 := (100, [(0, .ref 45), (1, .int x1), (2, .int x2), (3, .int (nI 3))], [], h2)) (s2 := (48, [(0, .ref 45), (1, .int x1), (2, .int x2), (3, .int (nI 3))], [], h2)) rfl).trans (z_ite ?_ ?_)
        · refine (z_X_steps (s' := (7, [(3, .int ((nI 3) + 1)), (0, .ref 45), (1, .int x1), (2, .int x2)], [], h2)) 2 rfl).trans ?_
          exact z_X_lab rfl
        · refine (z_X_steps (s' := (53, [(0, .ref 45), (1, .int x1), (2, .int x2), (3, .int (nI 3))], [.int (nI 3), .ref 49], h2)) 3 rfl).trans ?_
          refine (z_X_if (g := z_in (nI 3) 8) (s' := (54, [(0, .ref 45), (1, .int x1), (2, .int x2), (3, .int (nI 3))], [.ref (54 + 2 * (nI 3).toNatClampNeg)], h2)) rfl).trans (z_bifA ?_)
          refine (z_X_steps (s' := (58, [(0, .ref 45), (1, .int x1), (2, .int x2), (3, .int (nI 3))], [.ref 50, .ref (54 + 2 * (nI 3).toNatClampNeg)], h2)) 2 rfl).trans ?_
          refine (z_X_call (id := 108) (a := [.ref (54 + 2 * (nI 3).toNatClampNeg), .ref 50]) (c := 1) (s' := (61, [(0, .ref 45), (1, .int x1), (2, .int x2), (3, .int (nI 3))], [], h2)) rfl ⟨Nat.le_of_ble_eq_true rfl, Nat.le_of_ble_eq_true rfl⟩).trans ?_
          refine z_bdc fun r3 h4 => ?_
          refine (z_X_steps (s' := (66, [(4, .int r3), (0, .ref 45), (1, .int x1), (2, .int x2), (3, .int (nI 3))], [.int (-4), .int x1], h4)) 3 rfl).trans ?_
          refine (z_X_br (c := x1 = (-4)) (s1 := (95, [(4, .int r3), (0, .ref 45), (1, .int x1), (2, .int x2), (3, .int (nI 3))], [], h4)) (s2 := (69, [(4, .int r3), (0, .ref 45), (1, .int x1), (2, .int x2), (3, .int (nI 3))], [], h4)) rfl).trans (z_ite ?_ ?_)
          · refine (z_X_steps (s' := (7, [(3, .int ((nI 3) + 1)), (2, .int r3), (1, .int (nI 3)), (4, .int r3), (0, .ref 45)], [], h4)) 6 rfl).trans ?_
            exact z_X_lab rfl
          · refine (z_X_steps (s' := (79, [(4, .int r3), (0, .ref 45), (1, .int x1), (2, .int x2), (3, .int (nI 3))], [.int x1, .ref 36, .int r3], h4)) 5 rfl).trans ?_
            refine (z_X_if (g := z_in x1 8) (s' := (80, [(4, .int r3), (0, .ref 45), (1, .int x1), (2, .int x2), (3, .int (nI 3))], [.int (h4.1 36 (x1.toNatClampNeg)), .int r3], h4)) rfl).trans (z_bifA ?_)
            refine (z_X_steps (s' := (90, [(4, .int r3), (0, .ref 45), (1, .int x1), (2, .int x2), (3, .int (nI 3))], [.int (nI 3), .ref 36, .int x2, .int (r3 * (h4.1 36 (x1.toNatClampNeg)))], h4)) 6 rfl).trans ?_
            refine (z_X_if (g := z_in (nI 3) 8) (s' := (91, [(4, .int r3), (0, .ref 45), (1, .int x1), (2, .int x2), (3, .int (nI 3))], [.int (h4.1 36 ((nI 3).toNatClampNeg)), .int x2, .int (r3 * (h4.1 36 (x1.toNatClampNeg)))], h4)) rfl).trans (z_bifA ?_)
            refine (z_X_steps (s' := (92, [(4, .int r3), (0, .ref 45), (1, .int x1), (2, .int x2), (3, .int (nI 3))], [.int (x2 * (h4.1 36 ((nI 3).toNatClampNeg))), .int (r3 * (h4.1 36 (x1.toNatClampNeg)))], h4)) 1 rfl).trans ?_
            refine (z_X_br (c := r3 * (h4.1 36 (x1.toNatClampNeg)) ≤ x2 * (h4.1 36 ((nI 3).toNatClampNeg))) (s1 := (100, [(4, .int r3), (0, .ref 45), (1, .int x1), (2, .int x2), (3, .int (nI 3))], [], h4)) (s2 := (95, [(4, .int r3), (0, .ref 45), (1, .int x1), (2, .int x2), (3, .int (nI 3))], [], h4)) rfl).trans (z_ite ?_ ?_)
            · refine (z_X_steps (s' := (7, [(3, .int ((nI 3) + 1)), (4, .int r3), (0, .ref 45), (1, .int x1), (2, .int x2)], [], h4)) 2 rfl).trans ?_
              exact z_X_lab rfl
            · refine (z_X_steps (s' := (7, [(3, .int ((nI 3) + 1)), (2, .int r3), (1, .int (nI 3)), (4, .int r3), (0, .ref 45)], [], h4)) 6 rfl).trans ?_
              exact z_X_lab rfl
      · subst e
        refine (z_X_steps (s' := (42, [(0, .ref 45), (1, .int x1), (2, .int x2), (3, .int (nI 4))], [.ref 41, .ref (54 + 2 * (nI 4).toNatClampNeg)], h)) 3 rfl).trans ?_
        refine (z_X_call (id := 108) (a := [.ref (54 + 2 * (nI 4).toNatClampNeg), .ref 41]) (c := 1) (s' := (45, [(0, .ref 45), (1, .int x1), (2, .int x2), (3, .int (nI 4))], [], h)) rfl ⟨Nat.le_of_ble_eq_true rfl, Nat.le_of_ble_eq_true rfl⟩).trans ?_
        refine z_bdc fun r1 h2 => ?_
        refine (z_X_br (c := r1 ≤ 0) (s1 := (100, [(0, .ref 45), (1, .int x1), (2, .int x2), (3, .int (nI 4))], [], h2)) (s2 := (48, [(0, .ref 45), (1, .int x1), (2, .int x2), (3, .int (nI 4))], [], h2)) rfl).trans (z_ite ?_ ?_)
        · refine (z_X_steps (s' := (7, [(3, .int ((nI 4) + 1)), (0, .ref 45), (1, .int x1), (2, .int x2)], [], h2)) 2 rfl).trans ?_
          exact z_X_lab rfl
        · refine (z_X_steps (s' := (53, [(0, .ref 45), (1, .int x1), (2, .int x2), (3, .int (nI 4))], [.int (nI 4), .ref 49], h2)) 3 rfl).trans ?_
          refine (z_X_if (g := z_in (nI 4) 8) (s' := (54, [(0, .ref 45), (1, .int x1), (2, .int x2), (3, .int (nI 4))], [.ref (54 + 2 * (nI 4).toNatClampNeg)], h2)) rfl).trans (z_bifA ?_)
          refine (z_X_steps (s' := (58, [(0, .ref 45), (1, .int x1), (2, .int x2), (3, .int (nI 4))], [.ref 50, .ref (54 + 2 * (nI 4).toNatClampNeg)], h2)) 2 rfl).trans ?_
          refine (z_X_call (id := 108) (a := [.ref (54 + 2 * (nI 4).toNatClampNeg), .ref 50]) (c := 1) (s' := (61, [(0, .ref 45), (1, .int x1), (2, .int x2), (3, .int (nI 4))], [], h2)) rfl ⟨Nat.le_of_ble_eq_true rfl, Nat.le_of_ble_eq_true rfl⟩).trans ?_
          refine z_bdc fun r3 h4 => ?_
          refine (z_X_steps (s' := (66, [(4, .int r3), (0, .ref 45), (1, .int x1), (2, .int x2), (3, .int (nI 4))], [.int (-4), .int x1], h4)) 3 rfl).trans ?_
          refine (z_X_br (c := x1 = (-4)) (s1 := (95, [(4, .int r3), (0, .ref 45), (1, .int x1), (2, .int x2), (3, .int (nI 4))], [], h4)) (s2 := (69, [(4, .int r3), (0, .ref 45), (1, .int x1), (2, .int x2), (3, .int (nI 4))], [], h4)) rfl).trans (z_ite ?_ ?_)
          · refine (z_X_steps (s' := (7, [(3, .int ((nI 4) + 1)), (2, .int r3), (1, .int (nI 4)), (4, .int r3), (0, .ref 45)], [], h4)) 6 rfl).trans ?_
            exact z_X_lab rfl
          · refine (z_X_steps (s' := (79, [(4, .int r3), (0, .ref 45), (1, .int x1), (2, .int x2), (3, .int (nI 4))], [.int x1, .ref 36, .int r3], h4)) 5 rfl).trans ?_
            refine (z_X_if (g := z_in x1 8) (s' := (80, [(4, .int r3), (0, .ref 45), (1, .int x1), (2, .int x2), (3, .int (nI 4))], [.int (h4.1 36 (x1.toNatClampNeg)), .int r3], h4)) rfl).trans (z_bifA ?_)
            refine (z_X_steps (s' := (90, [(4, .int r3), (0, .ref 45), (1, .int x1), (2, .int x2), (3, .int (nI 4))], [.int (nI 4), .ref 36, .int x2, .int (r3 * (h4.1 36 (x1.toNatClampNeg)))], h4)) 6 rfl).trans ?_
            refine (z_X_if (g := z_in (nI 4) 8) (s' := (91, [(4, .int r3), (0, .ref 45), (1, .int x1), (2, .int x2), (3, .int (nI 4))], [.int (h4.1 36 ((nI 4).toNatClampNeg)), .int x2, .int (r3 * (h4.1 36 (x1.toNatClampNeg)))], h4)) rfl).trans (z_bifA ?_)
            refine (z_X_steps (s' := (92, [(4, .int r3), (0, .ref 45), (1, .int x1), (2, .int x2), (3, .int (nI 4))], [.int (x2 * (h4.1 36 ((nI 4).toNatClampNeg))), .int (r3 * (h4.1 36 (x1.toNatClampNeg)))], h4)) 1 rfl).trans ?_
            refine (z_X_br (c := r3 * (h4.1 36 (x1.toNatClampNeg)) ≤ x2 * (h4.1 36 ((nI 4).toNatClampNeg))) (s1 := (100, [(4, .int r3), (0, .ref 45), (1, .int x1), (2, .int x2), (3, .int (nI 4))], [], h4)) (s2 := (95, [(4, .int r3), (0, .ref 45), (1, .int x1), (2, .int x2), (3, .int (nI 4))], [], h4)) rfl).trans (z_ite ?_ ?_)
            · refine (z_X_steps (s' := (7, [(3, .int ((nI 4) + 1)), (4, .int r3), (0, .ref 45), (1, .int x1), (2, .int x2)], [], h4)) 2 rfl).trans ?_
              exact z_X_lab rfl
            · refine (z_X_steps (s' := (7, [(3, .int ((nI 4) + 1)), (2, .int r3), (1, .int (nI 4)), (4, .int r3), (0, .ref 45)], [], h4)) 6 rfl).trans ?_
              exact z_X_lab rfl
      · subst e
        refine (z_X_steps (s' := (42, [(0, .ref 45), (1, .int x1), (2, .int x2), (3, .int (nI 5))], [.ref 41, .ref (54 + 2 * (nI 5).toNatClampNeg)], h)) 3 rfl).trans ?_
        refine (z_X_call (id := 108) (a := [.ref (54 + 2 * (nI 5).toNatClampNeg), .ref 41]) (c := 1) (s' := (45, [(0, .ref 45), (1, .int x1), (2, .int x2), (3, .int (nI 5))], [], h)) rfl ⟨Nat.le_of_ble_eq_true rfl, Nat.le_of_ble_eq_true rfl⟩).trans ?_
        refine z_bdc fun r1 h2 => ?_
        refine (z_X_br (c := r1 ≤ 0) (s1 := (100, [(0, .ref 45), (1, .int x1), (2, .int x2), (3, .int (nI 5))], [], h2)) (s2 := (48, [(0, .ref 45), (1, .int x1), (2, .int x2), (3, .int (nI 5))], [], h2)) rfl).trans (z_ite ?_ ?_)
        · refine (z_X_steps (s' := (7, [(3, .int ((nI 5) + 1)), (0, .ref 45), (1, .int x1), (2, .int x2)], [], h2)) 2 rfl).trans ?_
          exact z_X_lab rfl
        · refine (z_X_steps (s' := (53, [(0, .ref 45), (1, .int x1), (2, .int x2), (3, .int (nI 5))], [.int (nI 5), .ref 49], h2)) 3 rfl).trans ?_
          refine (z_X_if (g := z_in (nI 5) 8) (s' := (54, [(0, .ref 45), (1, .int x1), (2, .int x2), (3, .int (nI 5))], [.ref (54 + 2 * (nI 5).toNatClampNeg)], h2)) rfl).trans (z_bifA ?_)
          refine (z_X_steps (s' := (58, [(0, .ref 45), (1, .int x1), (2, .int x2), (3, .int (nI 5))], [.ref 50, .ref (54 + 2 * (nI 5).toNatClampNeg)], h2)) 2 rfl).trans ?_
          refine (z_X_call (id := 108) (a := [.ref (54 + 2 * (nI 5).toNatClampNeg), .ref 50]) (c := 1) (s' := (61, [(0, .ref 45), (1, .int x1), (2, .int x2), (3, .int (nI 5))], [], h2)) rfl ⟨Nat.le_of_ble_eq_true rfl, Nat.le_of_ble_eq_true rfl⟩).trans ?_
          refine z_bdc fun r3 h4 => ?_
          refine (z_X_steps (s' := (66, [(4, .int r3), (0, .ref 45), (1, .int x1), (2, .int x2), (3, .int (nI 5))], [.int (-4), .int x1], h4)) 3 rfl).trans ?_
          refine (z_X_br (c := x1 = (-4)) (s1 := (95, [(4, .int r3), (0, .ref 45), (1, .int x1), (2, .int x2), (3, .int (nI 5))], [], h4)) (s2 := (69, [(4, .int r3), (0, .ref 45), (1, .int x1), (2, .int x2), (3, .int (nI 5))], [], h4)) rfl).trans (z_ite ?_ ?_)
          · refine (z_X_steps (s' := (7, [(3, .int ((nI 5) + 1)), (2, .int r3), (1, .int (nI 5)), (4, .int r3), (0, .ref 45)], [], h4)) 6 rfl).trans ?_
            exact z_X_lab rfl
          · refine (z_X_steps (s' := (79, [(4, .int r3), (0, .ref 45), (1, .int x1), (2, .int x2), (3, .int (nI 5))], [.int x1, .ref 36, .int r3], h4)) 5 rfl).trans ?_
            refine (z_X_if (g := z_in x1 8) (s' := (80, [(4, .int r3), (0, .ref 45), (1, .int x1), (2, .int x2), (3, .int (nI 5))], [.int (h4.1 36 (x1.toNatClampNeg)), .int r3], h4)) rfl).trans (z_bifA ?_)
            refine (z_X_steps (s' := (90, [(4, .int r3), (0, .ref 45), (1, .int x1), (2, .int x2), (3, .int (nI 5))], [.int (nI 5), .ref 36, .int x2, .int (r3 * (h4.1 36 (x1.toNatClampNeg)))], h4)) 6 rfl).trans ?_
            refine (z_X_if (g := z_in (nI 5) 8) (s' := (91, [(4, .int r3), (0, .ref 45), (1, .int x1), (2, .int x2), (3, .int (nI 5))], [.int (h4.1 36 ((nI 5).toNatClampNeg)), .int x2, .int (r3 * (h4.1 36 (x1.toNatClampNeg)))], h4)) rfl).trans (z_bifA ?_)
            refine (z_X_steps (s' := (92, [(4, .int r3), (0, .ref 45), (1, .int x1), (2, .int x2), (3, .int (nI 5))], [.int (x2 * (h4.1 36 ((nI 5).toNatClampNeg))), .int (r3 * (h4.1 36 (x1.toNatClampNeg)))], h4)) 1 rfl).trans ?_
            refine (z_X_br (c := r3 * (h4.1 36 (x1.toNatClampNeg)) ≤ x2 * (h4.1 36 ((nI 5).toNatClampNeg))) (s1 := (100, [(4, .int r3), (0, .ref 45), (1, .int x1), (2, .int x2), (3, .int (nI 5))], [], h4)) (s2 := (95, [(4, .int r3), (0, .ref 45), (1, .int x1), (2, .int x2), (3, .int (nI 5))], [], h4)) rfl).trans (z_ite ?_ ?_)
            · refine (z_X_steps (s' := (7, [(3, .int ((nI 5) + 1)), (4, .int r3), (0, .ref 45), (1, .int x1), (2, .int x2)], [], h4)) 2 rfl).trans ?_
              exact z_X_lab rfl
            · refine (z_X_steps (s' := (7, [(3, .int ((nI 5) + 1)), (2, .int r3), (1, .int (nI 5)), (4, .int r3), (0, .ref 45)], [], h4)) 6 rfl).trans ?_
              exact z_X_lab rfl
      · subst e
        refine (z_X_steps (s' := (42, [(0, .ref 45), (1, .int x1), (2, .int x2), (3, .int (nI 6))], [.ref 41, .ref (54 + 2 * (nI 6).toNatClampNeg)], h)) 3 rfl).trans ?_
        refine (z_X_call (id := 108) (a := [.ref (54 + 2 * (nI 6).toNatClampNeg), .ref 41]) (c := 1) (s' := (45, [(0, .ref 45), (1, .int x1), (2, .int x2), (3, .int (nI 6))], [], h)) rfl ⟨Nat.le_of_ble_eq_true rfl, Nat.le_of_ble_eq_true rfl⟩).trans ?_
        refine z_bdc fun r1 h2 => ?_
        refine (z_X_br (c := r1 ≤ 0) (s1 := (100, [(0, .ref 45), (1, .int x1), (2, .int x2), (3, .int (nI 6))], [], h2)) (s2 := (48, [(0, .ref 45), (1, .int x1), (2, .int x2), (3, .int (nI 6))], [], h2)) rfl).trans (z_ite ?_ ?_)
        · refine (z_X_steps (s' := (7, [(3, .int ((nI 6) + 1)), (0, .ref 45), (1, .int x1), (2, .int x2)], [], h2)) 2 rfl).trans ?_
          exact z_X_lab rfl
        · refine (z_X_steps (s' := (53, [(0, .ref 45), (1, .int x1), (2, .int x2), (3, .int (nI 6))], [.int (nI 6), .ref 49], h2)) 3 rfl).trans ?_
          refine (z_X_if (g := z_in (nI 6) 8) (s' := (54, [(0, .ref 45), (1, .int x1), (2, .int x2), (3, .int (nI 6))], [.ref (54 + 2 * (nI 6).toNatClampNeg)], h2)) rfl).trans (z_bifA ?_)
          refine (z_X_steps (s' := (58, [(0, .ref 45), (1, .int x1), (2, .int x2), (3, .int (nI 6))], [.ref 50, .ref (54 + 2 * (nI 6).toNatClampNeg)], h2)) 2 rfl).trans ?_
          refine (z_X_call (id := 108) (a := [.ref (54 + 2 * (nI 6).toNatClampNeg), .ref 50]) (c := 1) (s' := (61, [(0, .ref 45), (1, .int x1), (2, .int x2), (3, .int (nI 6))], [], h2)) rfl ⟨Nat.le_of_ble_eq_true rfl, Nat.le_of_ble_eq_true rfl⟩).trans ?_
          refine z_bdc fun r3 h4 => ?_
          refine (z_X_steps (s' := (66, [(4, .int r3), (0, .ref 45), (1, .int x1), (2, .int x2), (3, .int (nI 6))], [.int (-4), .int x1], h4)) 3 rfl).trans ?_
          refine (z_X_br (c := x1 = (-4)) (s1 := (95, [(4, .int r3), (0, .ref 45), (1, .int x1), (2, .int x2), (3, .int (nI 6))], [], h4)) (s2 := (69, [(4, .int r3), (0, .ref 45), (1, .int x1), (2, .int x2), (3, .int (nI 6))], [], h4)) rfl).trans (z_ite ?_ ?_)
          · refine (z_X_steps (s' := (7, [(3, .int ((nI 6) + 1)), (2, .int r3), (1, .int (nI 6)), (4, .int r3), (0, .ref 45)], [], h4)) 6 rfl).trans ?_
            exact z_X_lab rfl
          · refine (z_X_steps (s' := (79, [(4, .int r3), (0, .ref 45), (1, .int x1), (2, .int x2), (3, .int (nI 6))], [.int x1, .ref 36, .int r3], h4)) 5 rfl).trans ?_
            refine (z_X_if (g := z_in x1 8) (s' := (80, [(4, .int r3), (0, .ref 45), (1, .int x1), (2, .int x2), (3, .int (nI 6))], [.int (h4.1 36 (x1.toNatClampNeg)), .int r3], h4)) rfl).trans (z_bifA ?_)
            refine (z_X_steps (s' := (90, [(4, .int r3), (0, .ref 45), (1, .int x1), (2, .int x2), (3, .int (nI 6))], [.int (nI 6), .ref 36, .int x2, .int (r3 * (h4.1 36 (x1.toNatClampNeg)))], h4)) 6 rfl).trans ?_
            refine (z_X_if (g := z_in (nI 6) 8) (s' := (91, [(4, .int r3), (0, .ref 45), (1, .int x1), (2, .int x2), (3, .int (nI 6))], [.int (h4.1 36 ((nI 6).toNatClampNeg)), .int x2, .int (r3 * (h4.1 36 (x1.toNatClampNeg)))], h4)) rfl).trans (z_bifA ?_)
            refine (z_X_steps (s' := (92, [(4, .int r3), (0, .ref 45), (1, .int x1), (2, .int x2), (3, .int (nI 6))], [.int (x2 * (h4.1 36 ((nI 6).toNatClampNeg))), .int (r3 * (h4.1 36 (x1.toNatClampNeg)))], h4)) 1 rfl).trans ?_
            refine (z_X_br (c := r3 * (h4.1 36 (x1.toNatClampNeg)) ≤ x2 * (h4.1 36 ((nI 6).toNatClampNeg))) (s1 := (100, [(4, .int r3), (0, .ref 45), (1, .int x1), (2, .int x2), (3, .int (nI 6))], [], h4)) (s2 := (95, [(4, .int r3), (0, .ref 45), (1, .int x1), (2, .int x2), (3, .int (nI 6))], [], h4)) rfl).trans (z_ite ?_ ?_)
            · refine (z_X_steps (s' := (7, [(3, .int ((nI 6) + 1)), (4, .int r3), (0, .ref 45), (1, .int x1), (2, .int x2)], [], h4)) 2 rfl).trans ?_
              exact z_X_lab rfl
            · refine (z_X_steps (s' := (7, [(3, .int ((nI 6) + 1)), (2, .int r3), (1, .int (nI 6)), (4, .int r3), (0, .ref 45)], [], h4)) 6 rfl).trans ?_
              exact z_X_lab rfl
      · subst e
        refine (z_X_steps (s' := (42, [(0, .ref 45), (1, .int x1), (2, .int x2), (3, .int (nI 7))], [.ref 41, .ref (54 + 2 * (nI 7).toNatClampNeg)], h)) 3 rfl).trans ?_
        refine (z_X_call (id := 108) (a := [.ref (54 + 2 * (nI 7).toNatClampNeg), .ref 41]) (c := 1) (s' := (45, [(0, .ref 45), (1, .int x1), (2, .int x2), (3, .int (nI 7))], [], h)) rfl ⟨Nat.le_of_ble_eq_true rfl, Nat.le_of_ble_eq_true rfl⟩).trans ?_
        refine z_bdc fun r1 h2 => ?_
        refine (z_X_br (c := r1 ≤ 0) (s1 := (100, [(0, .ref 45), (1, .int x1), (2, .int x2), (3, .int (nI 7))], [], h2)) (s2 := (48, [(0, .ref 45), (1, .int x1), (2, .int x2), (3, .int (nI 7))], [], h2)) rfl).trans (z_ite ?_ ?_)
        · refine (z_X_steps (s' := (7, [(3, .int ((nI 7) + 1)), (0, .ref 45), (1, .int x1), (2, .int x2)], [], h2)) 2 rfl).trans ?_
          exact z_X_lab rfl
        · refine (z_X_steps (s' := (53, [(0, .ref 45), (1, .int x1), (2, .int x2), (3, .int (nI 7))], [.int (nI 7), .ref 49], h2)) 3 rfl).trans ?_
          refine (z_X_if (g := z_in (nI 7) 8) (s' := (54, [(0, .ref 45), (1, .int x1), (2, .int x2), (3, .int (nI 7))], [.ref (54 + 2 * (nI 7).toNatClampNeg)], h2)) rfl).trans (z_bifA ?_)
          refine (z_X_steps (s' := (58, [(0, .ref 45), (1, .int x1), (2, .int x2), (3, .int (nI 7))], [.ref 50, .ref (54 + 2 * (nI 7).toNatClampNeg)], h2)) 2 rfl).trans ?_
          refine (z_X_call (id := 108) (a := [.ref (54 + 2 * (nI 7).toNatClampNeg), .ref 50]) (c := 1) (s' := (61, [(0, .ref 45), (1, .int x1), (2, .int x2), (3, .int (nI 7))], [], h2)) rfl ⟨Nat.le_of_ble_eq_true rfl, Nat.le_of_ble_eq_true rfl⟩).trans ?_
          refine z_bdc fun r3 h4 => ?_
          refine (z_X_steps (s' := (66, [(4, .int r3), (0, .ref 45), (1, .int x1), (2, .int x2), (3, .int (nI 7))], [.int (-4), .int x1], h4)) 3 rfl).trans ?_
          refine (z_X_br (c := x1 = (-4)) (s1 := (95, [(4, .int r3), (0, .ref 45), (1, .int x1), (2, .int x2), (3, .int (nI 7))], [], h4)) (s2 := (69, [(4, .int r3), (0, .ref 45), (1, .int x1), (2, .int x2), (3, .int (nI 7))], [], h4)) rfl).trans (z_ite ?_ ?_)
          · refine (z_X_steps (s' := (7, [(3, .int ((nI 7) + 1)), (2, .int r3), (1, .int (nI 7)), (4, .int r3), (0, .ref 45)], [], h4)) 6 rfl).trans ?_
            exact z_X_lab rfl
          · refine (z_X_steps (s' := (79, [(4, .int r3), (0, .ref 45), (1, .int x1), (2, .int x2), (3, .int (nI 7))], [.int x1, .ref 36, .int r3], h4)) 5 rfl).trans ?_
            refine (z_X_if (g := z_in x1 8) (s' := (80, [(4, .int r3), (0, .ref 45), (1, .int x1), (2, .int x2), (3, .int (nI 7))], [.int (h4.1 36 (x1.toNatClampNeg)), .int r3], h4)) rfl).trans (z_bifA ?_)
            refine (z_X_steps (s' := (90, [(4, .int r3), (0, .ref 45), (1, .int x1), (2, .int x2), (3, .int (nI 7))], [.int (nI 7), .ref 36, .int x2, .int (r3 * (h4.1 36 (x1.toNatClampNeg)))], h4)) 6 rfl).trans ?_
            refine (z_X_if (g := z_in (nI 7) 8) (s' := (91, [(4, .int r3), (0, .ref 45), (1, .int x1), (2, .int x2), (3, .int (nI 7))], [.int (h4.1 36 ((nI 7).toNatClampNeg)), .int x2, .int (r3 * (h4.1 36 (x1.toNatClampNeg)))], h4)) rfl).trans (z_bifA ?_)
            refine (z_X_steps (s' := (92, [(4, .int r3), (0, .ref 45), (1, .int x1), (2, .int x2), (3, .int (nI 7))], [.int (x2 * (h4.1 36 ((nI 7).toNatClampNeg))), .int (r3 * (h4.1 36 (x1.toNatClampNeg)))], h4)) 1 rfl).trans ?_
            refine (z_X_br (c := r3 * (h4.1 36 (x1.toNatClampNeg)) ≤ x2 * (h4.1 36 ((nI 7).toNatClampNeg))) (s1 := (100, [(4, .int r3), (0, .ref 45), (1, .int x1), (2, .int x2), (3, .int (nI 7))], [], h4)) (s2 := (95, [(4, .int r3), (0, .ref 45), (1, .int x1), (2, .int x2), (3, .int (nI 7))], [], h4)) rfl).trans (z_ite ?_ ?_)
            · refine (z_X_steps (s' := (7, [(3, .int ((nI 7) + 1)), (4, .int r3), (0, .ref 45), (1, .int x1), (2, .int x2)], [], h4)) 2 rfl).trans ?_
              exact z_X_lab rfl
            · refine (z_X_steps (s' := (7, [(3, .int ((nI 7) + 1)), (2, .int r3), (1, .int (nI 7)), (4, .int r3), (0, .ref 45)], [], h4)) 6 rfl).trans ?_
              exact z_X_lab rfl
set_option maxRecDepth 8000 in
set_option maxHeartbeats 2000000 in
theorem e_Ch_rank (x1 : Int32) (h : z_H) : z_M 121 [.ref 45, .int x1] h = (bif z_in (h.1 45 0) 8 then (bif z_in x1 8 then z_bd (z_M 108 [.ref (54 + 2 * x1.toNatClampNeg), .ref 50] (z_wI h 46 ((h.1 45 0).toNatClampNeg) x1)) (fun r1 h2 => (bif z_in ((z_wI h 46 ((h.1 45 0).toNatClampNeg) x1).1 45 0) 8 then (bif z_in x1 8 then (bif z_in x1 8 then z_bd (z_M 105 [.ref 50, .ref (54 + 2 * x1.toNatClampNeg)] (z_wI (z_wI (z_wI h2 47 (((z_wI h 46 ((h.1 45 0).toNatClampNeg) x1).1 45 0).toNatClampNeg) r1) 48 (x1.toNatClampNeg) ((z_wI h2 47 (((z_wI h 46 ((h.1 45 0).toNatClampNeg) x1).1 45 0).toNatClampNeg) r1).1 45 0)) 45 0 (((z_wI (z_wI h2 47 (((z_wI h 46 ((h.1 45 0).toNatClampNeg) x1).1 45 0).toNatClampNeg) r1) 48 (x1.toNatClampNeg) ((z_wI h2 47 (((z_wI h 46 ((h.1 45 0).toNatClampNeg) x1).1 45 0).toNatClampNeg) r1).1 45 0)).1 45 0) + 1))) (fun r3 h4 => some (0, h4)) else none) else none) else none)) else none) else none) := by
  refine (z_M_eq (by decide)).trans ?_
  show z_X zc_Ch_rank 4 (0, [(0, .ref 45), (1, .int x1)], [], h) = _
  refine (z_X_steps (s' := (9, [(0, .ref 45), (1, .int x1)], [.int x1, .int (h.1 45 0), .ref 46], h)) 5 rfl).trans ?_
  refine (z_X_if (g := z_in (h.1 45 0) 8) (s' := (10, [(0, .ref 45), (1, .int x1)], [], (z_wI h 46 ((h.1 45 0).toNatClampNeg) x1))) rfl).trans (z_bifA ?_)
  refine (z_X_steps (s' := (23, [(0, .ref 45), (1, .int x1)], [.int x1, .ref 49, .int ((z_wI h 46 ((h.1 45 0).toNatClampNeg) x1).1 45 0), .ref 47], (z_wI h 46 ((h.1 45 0).toNatClampNeg) x1))) 7 rfl).trans ?_
  refine (z_X_if (g := z_in x1 8) (s' := (24, [(0, .ref 45), (1, .int x1)], [.ref (54 + 2 * x1.toNatClampNeg), .int ((z_wI h 46 ((h.1 45 0).toNatClampNeg) x1).1 45 0), .ref 47], (z_wI h 46 ((h.1 45 0).toNatClampNeg) x1))) rfl).trans (z_bifE8 ?_)
  refine ⟨fun e => ?_, fun e => ?_, fun e => ?_, fun e => ?_, fun e => ?_, fun e => ?_, fun e => ?_, fun e => ?_⟩
  · subst e
    refine (z_X_steps (s' := (28, [(0, .ref 45), (1, .int (nI 0))], [.ref 50, .ref (54 + 2 * (nI 0).toNatClampNeg), .int ((z_wI h 46 ((h.1 45 0).toNatClampNeg) (nI 0)).1 45 0), .ref 47], (z_wI h 46 ((h.1 45 0).toNatClampNeg) (nI 0)))) 2 rfl).trans ?_
    refine (z_X_call (id := 108) (a := [.ref (54 + 2 * (nI 0).toNatClampNeg), .ref 50]) (c := 1) (s' := (31, [(0, .ref 45), (1, .int (nI 0))], [.int ((z_wI h 46 ((h.1 45 0).toNatClampNeg) (nI 0)).1 45 0), .ref 47], (z_wI h 46 ((h.1 45 0).toNatClampNeg) (nI 0)))) rfl ⟨Nat.le_of_ble_eq_true rfl, Nat.le_of_ble_eq_true rfl⟩).trans ?_
    refine z_bdc fun r1 h2 => ?_
    refine (z_X_if (g := z_in ((z_wI h 46 ((h.1 45 0).toNatClampNeg) (nI 0)).1 45 0) 8) (s' := (32, [(0, .ref 45), (1, .int (nI 0))], [], (z_wI h2 47 (((z_wI h 46 ((h.1 45 0).toNatClampNeg) (nI 0)).1 45 0).toNatClampNeg) r1))) rfl).trans (z_bifA ?_)
    refine (z_X_steps (s' := (41, [(0, .ref 45), (1, .int (nI 0))], [.int ((z_wI h2 47 (((z_wI h 46 ((h.1 45 0).toNatClampNeg) (nI 0)).1 45 0).toNatClampNeg) r1).1 45 0), .int (nI 0), .ref 48], (z_wI h2 47 (((z_wI h 46 ((h.1 45 0).toNatClampNeg) (nI 0)).1 45 0).toNatClampNeg) r1))) 5 rfl).trans ?_
    refine (z_X_if (g := z_in (nI 0) 8) (s' := (42, [(0, .ref 45), (1, .int (nI 0))], [], (z_wI (z_wI h2 47 (((z_wI h 46 ((h.1 45 0).toNatClampNeg) (nI 0)).1 45 0).toNatClampNeg) r1) 48 ((nI 0).toNatClampNeg) ((z_wI h2 47 (((z_wI h 46 ((h.1 45 0).toNatClampNeg) (nI 0)).1 45 0).toNatClampNeg) r1).1 45 0)))) rfl).trans (z_bifA ?_)
    refine (z_X_steps (s' := (61, [(0, .ref 45), (1, .int (nI 0))], [.int (nI 0), .ref 49, .ref 50], (z_wI (z_wI (z_wI h2 47 (((z_wI h 46 ((h.1 45 0).toNatClampNeg) (nI 0)).1 45 0).toNatClampNeg) r1) 48 ((nI 0).toNatClampNeg) ((z_wI h2 47 (((z_wI h 46 ((h.1 45 0).toNatClampNeg) (nI 0)).1 45 0).toNatClampNeg) r1).1 45 0)) 45 0 (((z_wI (z_wI h2 47 (((z_wI h 46 ((h.1 45 0).toNatClampNeg) (nI 0)).1 45 0).toNatClampNeg) r1) 48 ((nI 0).toNatClampNeg) ((z_wI h2 47 (((z_wI h 46 ((h.1 45 0).toNatClampNeg) (nI 0)).1 45 0).toNatClampNeg) r1).1 45 0)).1 45 0) + 1)))) 11 rfl).trans ?_
    refine (z_X_if (g := z_in (nI 0) 8) (s' := (62, [(0, .ref 45), (1, .int (nI 0))], [.ref (54 + 2 * (nI 0).toNatClampNeg), .ref 50], (z_wI (z_wI (z_wI h2 47 (((z_wI h 46 ((h.1 45 0).toNatClampNeg) (nI 0)).1 45 0).toNatClampNeg) r1) 48 ((nI 0).toNatClampNeg) ((z_wI h2 47 (((z_wI h 46 ((h.1 45 0).toNatClampNeg) (nI 0)).1 45 0).toNatClampNeg) r1).1 45 0)) 45 0 (((z_wI (z_wI h2 47 (((z_wI h 46 ((h.1 45 0).toNatClampNeg) (nI 0)).1 45 0).toNatClampNeg) r1) 48 ((nI 0).toNatClampNeg) ((z_wI h2 47 (((z_wI h 46 ((h.1 45 0).toNatClampNeg) (nI 0)).1 45 0).toNatClampNeg) r1).1 45 0)).1 45 0) + 1)))) rfl).trans (z_bifA ?_)
    refine (z_X_call (id := 105) (a := [.ref 50, .ref (54 + 2 * (nI 0).toNatClampNeg)]) (c := 0) (s' := (65, [(0, .ref 45), (1, .int (nI 0))], [], (z_wI (z_wI (z_wI h2 47 (((z_wI h 46 ((h.1 45 0).toNatClampNeg) (nI 0)).1 45 0).toNatClampNeg) r1) 48 ((nI 0).toNatClampNeg) ((z_wI h2 47 (((z_wI h 46 ((h.1 45 0).toNatClampNeg) (nI 0)).1 45 0).toNatClampNeg) r1).1 45 0)) 45 0 (((z_wI (z_wI h2 47 (((z_wI h 46 ((h.1 45 0).toNatClampNeg) (nI 0)).1 45 0).toNatClampNeg) r1) 48 ((nI 0).toNatClampNeg) ((z_wI h2 47 (((z_wI h 46 ((h.1 45 0).toNatClampNeg) (nI 0)).1 45 0).toNatClampNeg) r1).1 45 0)).1 45 0) + 1)))) rfl ⟨Nat.le_of_ble_eq_true rfl, Nat.le_of_ble_eq_true rfl⟩).trans ?_
    refine z_bdc fun r3 h4 => ?_
    exact z_X_ret rfl
  · subst e
    refine (z_X_steps (s' := (28, [(0, .ref 45), (1, .int (nI 1))], [.ref 50, .ref (54 + 2 * (nI 1).toNatClampNeg), .int ((z_wI h 46 ((h.1 45 0).toNatClampNeg) (nI 1)).1 45 0), .ref 47], (z_wI h 46 ((h.1 45 0).toNatClampNeg) (nI 1)))) 2 rfl).trans ?_
    refine (z_X_call (id := 108) (a := [.ref (54 + 2 * (nI 1).toNatClampNeg), .ref 50]) (c := 1) (s' := (31, [(0, .ref 45), (1, .int (nI 1))], [.int ((z_wI h 46 ((h.1 45 0).toNatClampNeg) (nI 1)).1 45 0), .ref 47], (z_wI h 46 ((h.1 45 0).toNatClampNeg) (nI 1)))) rfl ⟨Nat.le_of_ble_eq_true rfl, Nat.le_of_ble_eq_true rfl⟩).trans ?_
    refine z_bdc fun r1 h2 => ?_
    refine (z_X_if (g := z_in ((z_wI h 46 ((h.1 45 0).toNatClampNeg) (nI 1)).1 45 0) 8) (s' := (32, [(0, .ref 45), (1, .int (nI 1))], [], (z_wI h2 47 (((z_wI h 46 ((h.1 45 0).toNatClampNeg) (nI 1)).1 45 0).toNatClampNeg) r1))) rfl).trans (z_bifA ?_)
    refine (z_X_steps (s' := (41, [(0, .ref 45), (1, .int (nI 1))], [.int ((z_wI h2 47 (((z_wI h 46 ((h.1 45 0).toNatClampNeg) (nI 1)).1 45 0).toNatClampNeg) r1).1 45 0), .int (nI 1), .ref 48], (z_wI h2 47 (((z_wI h 46 ((h.1 45 0).toNatClampNeg) (nI 1)).1 45 0).toNatClampNeg) r1))) 5 rfl).trans ?_
    refine (z_X_if (g := z_in (nI 1) 8) (s' := (42, [(0, .ref 45), (1, .int (nI 1))], [], (z_wI (z_wI h2 47 (((z_wI h 46 ((h.1 45 0).toNatClampNeg) (nI 1)).1 45 0).toNatClampNeg) r1) 48 ((nI 1).toNatClampNeg) ((z_wI h2 47 (((z_wI h 46 ((h.1 45 0).toNatClampNeg) (nI 1)).1 45 0).toNatClampNeg) r1).1 45 0)))) rfl).trans (z_bifA ?_)
    refine (z_X_steps (s' := (61, [(0, .ref 45), (1, .int (nI 1))], [.int (nI 1), .ref 49, .ref 50], (z_wI (z_wI (z_wI h2 47 (((z_wI h 46 ((h.1 45 0).toNatClampNeg) (nI 1)).1 45 0).toNatClampNeg) r1) 48 ((nI 1).toNatClampNeg) ((z_wI h2 47 (((z_wI h 46 ((h.1 45 0).toNatClampNeg) (nI 1)).1 45 0).toNatClampNeg) r1).1 45 0)) 45 0 (((z_wI (z_wI h2 47 (((z_wI h 46 ((h.1 45 0).toNatClampNeg) (nI 1)).1 45 0).toNatClampNeg) r1) 48 ((nI 1).toNatClampNeg) ((z_wI h2 47 (((z_wI h 46 ((h.1 45 0).toNatClampNeg) (nI 1)).1 45 0).toNatClampNeg) r1).1 45 0)).1 45 0) + 1)))) 11 rfl).trans ?_
    refine (z_X_if (g := z_in (nI 1) 8) (s' := (62, [(0, .ref 45), (1, .int (nI 1))], [.ref (54 + 2 * (nI 1).toNatClampNeg), .ref 50], (z_wI (z_wI (z_wI h2 47 (((z_wI h 46 ((h.1 45 0).toNatClampNeg) (nI 1)).1 45 0).toNatClampNeg) r1) 48 ((nI 1).toNatClampNeg) ((z_wI h2 47 (((z_wI h 46 ((h.1 45 0).toNatClampNeg) (nI 1)).1 45 0).toNatClampNeg) r1).1 45 0)) 45 0 (((z_wI (z_wI h2 47 (((z_wI h 46 ((h.1 45 0).toNatClampNeg) (nI 1)).1 45 0).toNatClampNeg) r1) 48 ((nI 1).toNatClampNeg) ((z_wI h2 47 (((z_wI h 46 ((h.1 45 0).toNatClampNeg) (nI 1)).1 45 0).toNatClampNeg) r1).1 45 0)).1 45 0) + 1)))) rfl).trans (z_bifA ?_)
    refine (z_X_call (id := 105) (a := [.ref 50, .ref (54 + 2 * (nI 1).toNatClampNeg)]) (c := 0) (s' := (65, [(0, .ref 45), (1, .int (nI 1))], [], (z_wI (z_wI (z_wI h2 47 (((z_wI h 46 ((h.1 45 0).toNatClampNeg) (nI 1)).1 45 0).toNatClampNeg) r1) 48 ((nI 1).toNatClampNeg) ((z_wI h2 47 (((z_wI h 46 ((h.1 45 0).toNatClampNeg) (nI 1)).1 45 0).toNatClampNeg) r1).1 45 0)) 45 0 (((z_wI (z_wI h2 47 (((z_wI h 46 ((h.1 45 0).toNatClampNeg) (nI 1)).1 45 0).toNatClampNeg) r1) 48 ((nI 1).toNatClampNeg) ((z_wI h2 47 (((z_wI h 46 ((h.1 45 0).toNatClampNeg) (nI 1)).1 45 0).toNatClampNeg) r1).1 45 0)).1 45 0) + 1)))) rfl ⟨Nat.le_of_ble_eq_true rfl, Nat.le_of_ble_eq_true rfl⟩).trans ?_
    refine z_bdc fun r3 h4 => ?_
    exact z_X_ret rfl
  · subst e
    refine (z_X_steps (s' := (28, [(0, .ref 45), (1, .int (nI 2))], [.ref 50, .ref (54 + 2 * (nI 2).toNatClampNeg), .int ((z_wI h 46 ((h.1 45 0).toNatClampNeg) (nI 2)).1 45 0), .ref 47], (z_wI h 46 ((h.1 45 0).toNatClampNeg) (nI 2)))) 2 rfl).trans ?_
    refine (z_X_call (id := 108) (a := [.ref (54 + 2 * (nI 2).toNatClampNeg), .ref 50]) (c := 1) (s' := (31, [(0, .ref 45), (1, .int (nI 2))], [.int ((z_wI h 46 ((h.1 45 0).toNatClampNeg) (nI 2)).1 45 0), .ref 47], (z_wI h 46 ((h.1 45 0).toNatClampNeg) (nI 2)))) rfl ⟨Nat.le_of_ble_eq_true rfl, Nat.le_of_ble_eq_true rfl⟩).trans ?_
    refine z_bdc fun r1 h2 => ?_
    refine (z_X_if (g := z_in ((z_wI h 46 ((h.1 45 0).toNatClampNeg) (nI 2)).1 45 0) 8) (s' := (32, [(0, .ref 45), (1, .int (nI 2))], [], (z_wI h2 47 (((z_wI h 46 ((h.1 45 0).toNatClampNeg) (nI 2)).1 45 0).toNatClampNeg) r1))) rfl).trans (z_bifA ?_)
    refine (z_X_steps (s' := (41, [(0, .ref 45), (1, .int (nI 2))], [.int ((z_wI h2 47 (((z_wI h 46 ((h.1 45 0).toNatClampNeg) (nI 2)).1 45 0).toNatClampNeg) r1).1 45 0), .int (nI 2), .ref 48], (z_wI h2 47 (((z_wI h 46 ((h.1 45 0).toNatClampNeg) (nI 2)).1 45 0).toNatClampNeg) r1))) 5 rfl).trans ?_
    refine (z_X_if (g := z_in (nI 2) 8) (s' := (42, [(0, .ref 45), (1, .int (nI 2))], [], (z_wI (z_wI h2 47 (((z_wI h 46 ((h.1 45 0).toNatClampNeg) (nI 2)).1 45 0).toNatClampNeg) r1) 48 ((nI 2).toNatClampNeg) ((z_wI h2 47 (((z_wI h 46 ((h.1 45 0).toNatClampNeg) (nI 2)).1 45 0).toNatClampNeg) r1).1 45 0)))) rfl).trans (z_bifA ?_)
    refine (z_X_steps (s' := (61, [(0, .ref 45), (1, .int (nI 2))], [.int (nI 2), .ref 49, .ref 50], (z_wI (z_wI (z_wI h2 47 (((z_wI h 46 ((h.1 45 0).toNatClampNeg) (nI 2)).1 45 0).toNatClampNeg) r1) 48 ((nI 2).toNatClampNeg) ((z_wI h2 47 (((z_wI h 46 ((h.1 45 0).toNatClampNeg) (nI 2)).1 45 0).toNatClampNeg) r1).1 45 0)) 45 0 (((z_wI (z_wI h2 47 (((z_wI h 46 ((h.1 45 0).toNatClampNeg) (nI 2)).1 45 0).toNatClampNeg) r1) 48 ((nI 2).toNatClampNeg) ((z_wI h2 47 (((z_wI h 46 ((h.1 45 0).toNatClampNeg) (nI 2)).1 45 0).toNatClampNeg) r1).1 45 0)).1 45 0) + 1)))) 11 rfl).trans ?_
    refine (z_X_if (g := z_in (nI 2) 8) (s' := (62, [(0, .ref 45), (1, .int (nI 2))], [.ref (54 + 2 * (nI 2).toNatClampNeg), .ref 50], (z_wI (z_wI (z_wI h2 47 (((z_wI h 46 ((h.1 45 0).toNatClampNeg) (nI 2)).1 45 0).toNatClampNeg) r1) 48 ((nI 2).toNatClampNeg) ((z_wI h2 47 (((z_wI h 46 ((h.1 45 0).toNatClampNeg) (nI 2)).1 45 0).toNatClampNeg) r1).1 45 0)) 45 0 (((z_wI (z_wI h2 47 (((z_wI h 46 ((h.1 45 0).toNatClampNeg) (nI 2)).1 45 0).toNatClampNeg) r1) 48 ((nI 2).toNatClampNeg) ((z_wI h2 47 (((z_wI h 46 ((h.1 45 0).toNatClampNeg) (nI 2)).1 45 0).toNatClampNeg) r1).1 45 0)).1 45 0) + 1)))) rfl).trans (z_bifA ?_)
    refine (z_X_call (id := 105) (a := [.ref 50, .ref (54 + 2 * (nI 2).toNatClampNeg)]) (c := 0) (s' := (65, [(0, .ref 45), (1, .int (nI 2))], [], (z_wI (z_wI (z_wI h2 47 (((z_wI h 46 ((h.1 45 0).toNatClampNeg) (nI 2)).1 45 0).toNatClampNeg) r1) 48 ((nI 2).toNatClampNeg) ((z_wI h2 47 (((z_wI h 46 ((h.1 45 0).toNatClampNeg) (nI 2)).1 45 0).toNatClampNeg) r1).1 45 0)) 45 0 (((z_wI (z_wI h2 47 (((z_wI h 46 ((h.1 45 0).toNatClampNeg) (nI 2)).1 45 0).toNatClampNeg) r1) 48 ((nI 2).toNatClampNeg) ((z_wI h2 47 (((z_wI h 46 ((h.1 45 0).toNatClampNeg) (nI 2)).1 45 0).toNatClampNeg) r1).1 45 0)).1 45 0) + 1)))) rfl ⟨Nat.le_of_ble_eq_true rfl, Nat.le_of_ble_eq_true rfl⟩).trans ?_
    refine z_bdc fun r3 h4 => ?_
    exact z_X_ret rfl
  · subst e
    refine (z_X_steps (s' := (28, [(0, .ref 45), (1, .int (nI 3))], [.ref 50, .ref (54 + 2 * (nI 3).toNatClampNeg), .int ((z_wI h 46 ((h.1 45 0).toNatClampNeg) (nI 3)).1 45 0), .ref 47], (z_wI h 46 ((h.1 45 0).toNatClampNeg) (nI 3)))) 2 rfl).trans ?_
    refine (z_X_call (id := 108) (a := [.ref (54 + 2 * (nI 3).toNatClampNeg), .ref 50]) (c := 1) (s' := (31, [(0, .ref 45), (1, .int (nI 3))], [.int ((z_wI h 46 ((h.1 45 0).toNatClampNeg) (nI 3)).1 45 0), .ref 47], (z_wI h 46 ((h.1 45 0).toNatClampNeg) (nI 3)))) rfl ⟨Nat.le_of_ble_eq_true rfl, Nat.le_of_ble_eq_true rfl⟩).trans ?_
    refine z_bdc fun r1 h2 => ?_
    refine (z_X_if (g := z_in ((z_wI h 46 ((h.1 45 0).toNatClampNeg) (nI 3)).1 45 0) 8) (s' := (32, [(0, .ref 45), (1, .int (nI 3))], [], (z_wI h2 47 (((z_wI h 46 ((h.1 45 0).toNatClampNeg) (nI 3)).1 45 0).toNatClampNeg) r1))) rfl).trans (z_bifA ?_)
    refine (z_X_steps (s' := (41, [(0, .ref 45), (1, .int (nI 3))], [.int ((z_wI h2 47 (((z_wI h 46 ((h.1 45 0).toNatClampNeg) (nI 3)).1 45 0).toNatClampNeg) r1).1 45 0), .int (nI 3), .ref 48], (z_wI h2 47 (((z_wI h 46 ((h.1 45 0).toNatClampNeg) (nI 3)).1 45 0).toNatClampNeg) r1))) 5 rfl).trans ?_
    refine (z_X_if (g := z_in (nI 3) 8) (s' := (42, [(0, .ref 45), (1, .int (nI 3))], [], (z_wI (z_wI h2 47 (((z_wI h 46 ((h.1 45 0).toNatClampNeg) (nI 3)).1 45 0).toNatClampNeg) r1) 48 ((nI 3).toNatClampNeg) ((z_wI h2 47 (((z_wI h 46 ((h.1 45 0).toNatClampNeg) (nI 3)).1 45 0).toNatClampNeg) r1).1 45 0)))) rfl).trans (z_bifA ?_)
    refine (z_X_steps (s' := (61, [(0, .ref 45), (1, .int (nI 3))], [.int (nI 3), .ref 49, .ref 50], (z_wI (z_wI (z_wI h2 47 (((z_wI h 46 ((h.1 45 0).toNatClampNeg) (nI 3)).1 45 0).toNatClampNeg) r1) 48 ((nI 3).toNatClampNeg) ((z_wI h2 47 (((z_wI h 46 ((h.1 45 0).toNatClampNeg) (nI 3)).1 45 0).toNatClampNeg) r1).1 45 0)) 45 0 (((z_wI (z_wI h2 47 (((z_wI h 46 ((h.1 45 0).toNatClampNeg) (nI 3)).1 45 0).toNatClampNeg) r1) 48 ((nI 3).toNatClampNeg) ((z_wI h2 47 (((z_wI h 46 ((h.1 45 0).toNatClampNeg) (nI 3)).1 45 0).toNatClampNeg) r1).1 45 0)).1 45 0) + 1)))) 11 rfl).trans ?_
    refine (z_X_if (g := z_in (nI 3) 8) (s' := (62, [(0, .ref 45), (1, .int (nI 3))], [.ref (54 + 2 * (nI 3).toNatClampNeg), .ref 50], (z_wI (z_wI (z_wI h2 47 (((z_wI h 46 ((h.1 45 0).toNatClampNeg) (nI 3)).1 45 0).toNatClampNeg) r1) 48 ((nI 3).toNatClampNeg) ((z_wI h2 47 (((z_wI h 46 ((h.1 45 0).toNatClampNeg) (nI 3)).1 45 0).toNatClampNeg) r1).1 45 0)) 45 0 (((z_wI (z_wI h2 47 (((z_wI h 46 ((h.1 45 0).toNatClampNeg) (nI 3)).1 45 0).toNatClampNeg) r1) 48 ((nI 3).toNatClampNeg) ((z_wI h2 47 (((z_wI h 46 ((h.1 45 0).toNatClampNeg) (nI 3)).1 45 0).toNatClampNeg) r1).1 45 0)).1 45 0) + 1)))) rfl).trans (z_bifA ?_)
    refine (z_X_call (id := 105) (a := [.ref 50, .ref (54 + 2 * (nI 3).toNatClampNeg)]) (c := 0) (s' := (65, [(0, .ref 45), (1, .int (nI 3))], [], (z_wI (z_wI (z_wI h2 47 (((z_wI h 46 ((h.1 45 0).toNatClampNeg) (nI 3)).1 45 0).toNatClampNeg) r1) 48 ((nI 3).toNatClampNeg) ((z_wI h2 47 (((z_wI h 46 ((h.1 45 0).toNatClampNeg) (nI 3)).1 45 0).toNatClampNeg) r1).1 45 0)) 45 0 (((z_wI (z_wI h2 47 (((z_wI h 46 ((h.1 45 0).toNatClampNeg) (nI 3)).1 45 0).toNatClampNeg) r1) 48 ((nI 3).toNatClampNeg) ((z_wI h2 47 (((z_wI h 46 ((h.1 45 0).toNatClampNeg) (nI 3)).1 45 0).toNatClampNeg) r1).1 45 0)).1 45 0) + 1)))) rfl ⟨Nat.le_of_ble_eq_true rfl, Nat.le_of_ble_eq_true rfl⟩).trans ?_
    refine z_bdc fun r3 h4 => ?_
    exact z_X_ret rfl
  · subst e
    refine (z_X_steps (s' := (28, [(0, .ref 45), (1, .int (nI 4))], [.ref 50, .ref (54 + 2 * (nI 4).toNatClampNeg), .int ((z_wI h 46 ((h.1 45 0).toNatClampNeg) (nI 4)).1 45 0), .ref 47], (z_wI h 46 ((h.1 45 0).toNatClampNeg) (nI 4)))) 2 rfl).trans ?_
    refine (z_X_call (id := 108) (a := [.ref (54 + 2 * (nI 4).toNatClampNeg), .ref 50]) (c := 1) (s' := (31, [(0, .ref 45), (1, .int (nI 4))], [.int ((z_wI h 46 ((h.1 45 0).toNatClampNeg) (nI 4)).1 45 0), .ref 47], (z_wI h 46 ((h.1 45 0).toNatClampNeg) (nI 4)))) rfl ⟨Nat.le_of_ble_eq_true rfl, Nat.le_of_ble_eq_true rfl⟩).trans ?_
    refine z_bdc fun r1 h2 => ?_
    refine (z_X_if (g := z_in ((z_wI h 46 ((h.1 45 0).toNatClampNeg) (nI 4)).1 45 0) 8) (s' := (32, [(0, .ref 45), (1, .int (nI 4))], [], (z_wI h2 47 (((z_wI h 46 ((h.1 45 0).toNatClampNeg) (nI 4)).1 45 0).toNatClampNeg) r1))) rfl).trans (z_bifA ?_)
    refine (z_X_steps (s' := (41, [(0, .ref 45), (1, .int (nI 4))], [.int ((z_wI h2 47 (((z_wI h 46 ((h.1 45 0).toNatClampNeg) (nI 4)).1 45 0).toNatClampNeg) r1).1 45 0), .int (nI 4), .ref 48], (z_wI h2 47 (((z_wI h 46 ((h.1 45 0).toNatClampNeg) (nI 4)).1 45 0).toNatClampNeg) r1))) 5 rfl).trans ?_
    refine (z_X_if (g := z_in (nI 4) 8) (s' := (42, [(0, .ref 45), (1, .int (nI 4))], [], (z_wI (z_wI h2 47 (((z_wI h 46 ((h.1 45 0).toNatClampNeg) (nI 4)).1 45 0).toNatClampNeg) r1) 48 ((nI 4).toNatClampNeg) ((z_wI h2 47 (((z_wI h 46 ((h.1 45 0).toNatClampNeg) (nI 4)).1 45 0).toNatClampNeg) r1).1 45 0)))) rfl).trans (z_bifA ?_)
    refine (z_X_steps (s' := (61, [(0, .ref 45), (1, .int (nI 4))], [.int (nI 4), .ref 49, .ref 50], (z_wI (z_wI (z_wI h2 47 (((z_wI h 46 ((h.1 45 0).toNatClampNeg) (nI 4)).1 45 0).toNatClampNeg) r1) 48 ((nI 4).toNatClampNeg) ((z_wI h2 47 (((z_wI h 46 ((h.1 45 0).toNatClampNeg) (nI 4)).1 45 0).toNatClampNeg) r1).1 45 0)) 45 0 (((z_wI (z_wI h2 47 (((z_wI h 46 ((h.1 45 0).toNatClampNeg) (nI 4)).1 45 0).toNatClampNeg) r1) 48 ((nI 4).toNatClampNeg) ((z_wI h2 47 (((z_wI h 46 ((h.1 45 0).toNatClampNeg) (nI 4)).1 45 0).toNatClampNeg) r1).1 45 0)).1 45 0) + 1)))) 11 rfl).trans ?_
    refine (z_X_if (g := z_in (nI 4) 8) (s' := (62, [(0, .ref 45), (1, .int (nI 4))], [.ref (54 + 2 * (nI 4).toNatClampNeg), .ref 50], (z_wI (z_wI (z_wI h2 47 (((z_wI h 46 ((h.1 45 0).toNatClampNeg) (nI 4)).1 45 0).toNatClampNeg) r1) 48 ((nI 4).toNatClampNeg) ((z_wI h2 47 (((z_wI h 46 ((h.1 45 0).toNatClampNeg) (nI 4)).1 45 0).toNatClampNeg) r1).1 45 0)) 45 0 (((z_wI (z_wI h2 47 (((z_wI h 46 ((h.1 45 0).toNatClampNeg) (nI 4)).1 45 0).toNatClampNeg) r1) 48 ((nI 4).toNatClampNeg) ((z_wI h2 47 (((z_wI h 46 ((h.1 45 0).toNatClampNeg) (nI 4)).1 45 0).toNatClampNeg) r1).1 45 0)).1 45 0) + 1)))) rfl).trans (z_bifA ?_)
    refine (z_X_call (id := 105) (a := [.ref 50, .ref (54 + 2 * (nI 4).toNatClampNeg)]) (c := 0) (s' := (65, [(0, .ref 45), (1, .int (nI 4))], [], (z_wI (z_wI (z_wI h2 47 (((z_wI h 46 ((h.1 45 0).toNatClampNeg) (nI 4)).1 45 0).toNatClampNeg) r1) 48 ((nI 4).toNatClampNeg) ((z_wI h2 47 (((z_wI h 46 ((h.1 45 0).toNatClampNeg) (nI 4)).1 45 0).toNatClampNeg) r1).1 45 0)) 45 0 (((z_wI (z_wI h2 47 (((z_wI h 46 ((h.1 45 0).toNatClampNeg) (nI 4)).1 45 0).toNatClampNeg) r1) 48 ((nI 4).toNatClampNeg) ((z_wI h2 47 (((z_wI h 46 ((h.1 45 0).toNatClampNeg) (nI 4)).1 45 0).toNatClampNeg) r1).1 45 0)).1 45 0) + 1)))) rfl ⟨Nat.le_of_ble_eq_true rfl, Nat.le_of_ble_eq_true rfl⟩).trans ?_
    refine z_bdc fun r3 h4 => ?_
    exact z_X_ret rfl
  · subst e
    refine (z_X_steps (s' := (28, [(0, .ref 45), (1, .int (nI 5))], [.ref 50, .ref (54 + 2 * (nI 5).toNatClampNeg), .int ((z_wI h 46 ((h.1 45 0).toNatClampNeg) (nI 5)).1 45 0), .ref 47], (z_wI h 46 ((h.1 45 0).toNatClampNeg) (nI 5)))) 2 rfl).trans ?_
    refine (z_X_call (id := 108) (a := [.ref (54 + 2 * (nI 5).toNatClampNeg), .ref 50]) (c := 1) (s' := (31, [(0, .ref 45), (1, .int (nI 5))], [.int ((z_wI h 46 ((h.1 45 0).toNatClampNeg) (nI 5)).1 45 0), .ref 47], (z_wI h 46 ((h.1 45 0).toNatClampNeg) (nI 5)))) rfl ⟨Nat.le_of_ble_eq_true rfl, Nat.le_of_ble_eq_true rfl⟩).trans ?_
    refine z_bdc fun r1 h2 => ?_
    refine (z_X_if (g := z_in ((z_wI h 46 ((h.1 45 0).toNatClampNeg) (nI 5)).1 45 0) 8) (s' := (32, [(0, .ref 45), (1, .int (nI 5))], [], (z_wI h2 47 (((z_wI h 46 ((h.1 45 0).toNatClampNeg) (nI 5)).1 45 0).toNatClampNeg) r1))) rfl).trans (z_bifA ?_)
    refine (z_X_steps (s' := (41, [(0, .ref 45), (1, .int (nI 5))], [.int ((z_wI h2 47 (((z_wI h 46 ((h.1 45 0).toNatClampNeg) (nI 5)).1 45 0).toNatClampNeg) r1).1 45 0), .int (nI 5), .ref 48], (z_wI h2 47 (((z_wI h 46 ((h.1 45 0).toNatClampNeg) (nI 5)).1 45 0).toNatClampNeg) r1))) 5 rfl).trans ?_
    refine (z_X_if (g := z_in (nI 5) 8) (s' := (42, [(0, .ref 45), (1, .int (nI 5))], [], (z_wI (z_wI h2 47 (((z_wI h 46 ((h.1 45 0).toNatClampNeg) (nI 5)).1 45 0).toNatClampNeg) r1) 48 ((nI 5).toNatClampNeg) ((z_wI h2 47 (((z_wI h 46 ((h.1 45 0).toNatClampNeg) (nI 5)).1 45 0).toNatClampNeg) r1).1 45 0)))) rfl).trans (z_bifA ?_)
    refine (z_X_steps (s' := (61, [(0, .ref 45), (1, .int (nI 5))], [.int (nI 5), .ref 49, .ref 50], (z_wI (z_wI (z_wI h2 47 (((z_wI h 46 ((h.1 45 0).toNatClampNeg) (nI 5)).1 45 0).toNatClampNeg) r1) 48 ((nI 5).toNatClampNeg) ((z_wI h2 47 (((z_wI h 46 ((h.1 45 0).toNatClampNeg) (nI 5)).1 45 0).toNatClampNeg) r1).1 45 0)) 45 0 (((z_wI (z_wI h2 47 (((z_wI h 46 ((h.1 45 0).toNatClampNeg) (nI 5)).1 45 0).toNatClampNeg) r1) 48 ((nI 5).toNatClampNeg) ((z_wI h2 47 (((z_wI h 46 ((h.1 45 0).toNatClampNeg) (nI 5)).1 45 0).toNatClampNeg) r1).1 45 0)).1 45 0) + 1)))) 11 rfl).trans ?_
    refine (z_X_if (g := z_in (nI 5) 8) (s' := (62, [(0, .ref 45), (1, .int (nI 5))], [.ref (54 + 2 * (nI 5).toNatClampNeg), .ref 50], (z_wI (z_wI (z_wI h2 47 (((z_wI h 46 ((h.1 45 0).toNatClampNeg) (nI 5)).1 45 0).toNatClampNeg) r1) 48 ((nI 5).toNatClampNeg) ((z_wI h2 47 (((z_wI h 46 ((h.1 45 0).toNatClampNeg) (nI 5)).1 45 0).toNatClampNeg) r1).1 45 0)) 45 0 (((z_wI (z_wI h2 47 (((z_wI h 46 ((h.1 45 0).toNatClampNeg) (nI 5)).1 45 0).toNatClampNeg) r1) 48 ((nI 5).toNatClampNeg) ((z_wI h2 47 (((z_wI h 46 ((h.1 45 0).toNatClampNeg) (nI 5)).1 45 0).toNatClampNeg) r1).1 45 0)).1 45 0) + 1)))) rfl).trans (z_bifA ?_)
    refine (z_X_call (id := 105) (a := [.ref 50, .ref (54 + 2 * (nI 5).toNatClampNeg)]) (c := 0) (s' := (65, [(0, .ref 45), (1, .int (nI 5))], [], (z_wI (z_wI (z_wI h2 47 (((z_wI h 46 ((h.1 45 0).toNatClampNeg) (nI 5)).1 45 0).toNatClampNeg) r1) 48 ((nI 5).toNatClampNeg) ((z_wI h2 47 (((z_wI h 46 ((h.1 45 0).toNatClampNeg) (nI 5)).1 45 0).toNatClampNeg) r1).1 45 0)) 45 0 (((z_wI (z_wI h2 47 (((z_wI h 46 ((h.1 45 0).toNatClampNeg) (nI 5)).1 45 0).toNatClampNeg) r1) 48 ((nI 5).toNatClampNeg) ((z_wI h2 47 (((z_wI h 46 ((h.1 45 0).toNatClampNeg) (nI 5)).1 45 0).toNatClampNeg) r1).1 45 0)).1 45 0) + 1)))) rfl ⟨Nat.le_of_ble_eq_true rfl, Nat.le_of_ble_eq_true rfl⟩).trans ?_
    refine z_bdc fun r3 h4 => ?_
    exact z_X_ret rfl
  · subst e
    refine (z_X_steps (s' := (28, [(0, .ref 45), (1, .int (nI 6))], [.ref 50, .ref (54 + 2 * (nI 6).toNatClampNeg), .int ((z_wI h 46 ((h.1 45 0).toNatClampNeg) (nI 6)).1 45 0), .ref 47], (z_wI h 46 ((h.1 45 0).toNatClampNeg) (nI 6)))) 2 rfl).trans ?_
    refine (z_X_call (id := 108) (a := [.ref (54 + 2 * (nI 6).toNatClampNeg), .ref 50]) (c := 1) (s' := (31, [(0, .ref 45), (1, .int (nI 6))], [.int ((z_wI h 46 ((h.1 45 0).toNatClampNeg) (nI 6)).1 45 0), .ref 47], (z_wI h 46 ((h.1 45 0).toNatClampNeg) (nI 6)))) rfl ⟨Nat.le_of_ble_eq_true rfl, Nat.le_of_ble_eq_true rfl⟩).trans ?_
    refine z_bdc fun r1 h2 => ?_
    refine (z_X_if (g := z_in ((z_wI h 46 ((h.1 45 0).toNatClampNeg) (nI 6)).1 45 0) 8) (s' := (32, [(0, .ref 45), (1, .int (nI 6))], [], (z_wI h2 47 (((z_wI h 46 ((h.1 45 0).toNatClampNeg) (nI 6)).1 45 0).toNatClampNeg) r1))) rfl).trans (z_bifA ?_)
    refine (z_X_steps (s' := (41, [(0, .ref 45), (1, .int (nI 6))], [.int ((z_wI h2 47 (((z_wI h 46 ((h.1 45 0).toNatClampNeg) (nI 6)).1 45 0).toNatClampNeg) r1).1 45 0), .int (nI 6), .ref 48], (z_wI h2 47 (((z_wI h 46 ((h.1 45 0).toNatClampNeg) (nI 6)).1 45 0).toNatClampNeg) r1))) 5 rfl).trans ?_
    refine (z_X_if (g := z_in (nI 6) 8) (s' := (42, [(0, .ref 45), (1, .int (nI 6))], [], (z_wI (z_wI h2 47 (((z_wI h 46 ((h.1 45 0).toNatClampNeg) (nI 6)).1 45 0).toNatClampNeg) r1) 48 ((nI 6).toNatClampNeg) ((z_wI h2 47 (((z_wI h 46 ((h.1 45 0).toNatClampNeg) (nI 6)).1 45 0).toNatClampNeg) r1).1 45 0)))) rfl).trans (z_bifA ?_)
    refine (z_X_steps (s' := (61, [(0, .ref 45), (1, .int (nI 6))], [.int (nI 6), .ref 49, .ref 50], (z_wI (z_wI (z_wI h2 47 (((z_wI h 46 ((h.1 45 0).toNatClampNeg) (nI 6)).1 45 0).toNatClampNeg) r1) 48 ((nI 6).toNatClampNeg) ((z_wI h2 47 (((z_wI h 46 ((h.1 45 0).toNatClampNeg) (nI 6)).1 45 0).toNatClampNeg) r1).1 45 0)) 45 0 (((z_wI (z_wI h2 47 (((z_wI h 46 ((h.1 45 0).toNatClampNeg) (nI 6)).1 45 0).toNatClampNeg) r1) 48 ((nI 6).toNatClampNeg) ((z_wI h2 47 (((z_wI h 46 ((h.1 45 0).toNatClampNeg) (nI 6)).1 45 0).toNatClampNeg) r1).1 45 0)).1 45 0) + 1)))) 11 rfl).trans ?_
    refine (z_X_if (g := z_in (nI 6) 8) (s' := (62, [(0, .ref 45), (1, .int (nI 6))], [.ref (54 + 2 * (nI 6).toNatClampNeg), .ref 50], (z_wI (z_wI (z_wI h2 47 (((z_wI h 46 ((h.1 45 0).toNatClampNeg) (nI 6)).1 45 0).toNatClampNeg) r1) 48 ((nI 6).toNatClampNeg) ((z_wI h2 47 (((z_wI h 46 ((h.1 45 0).toNatClampNeg) (nI 6)).1 45 0).toNatClampNeg) r1).1 45 0)) 45 0 (((z_wI (z_wI h2 47 (((z_wI h 46 ((h.1 45 0).toNatClampNeg) (nI 6)).1 45 0).toNatClampNeg) r1) 48 ((nI 6).toNatClampNeg) ((z_wI h2 47 (((z_wI h 46 ((h.1 45 0).toNatClampNeg) (nI 6)).1 45 0).toNatClampNeg) r1).1 45 0)).1 45 0) + 1)))) rfl).trans (z_bifA ?_)
    refine (z_X_call (id := 105) (a := [.ref 50, .ref (54 + 2 * (nI 6).toNatClampNeg)]) (c := 0) (s' := (65, [(0, .ref 45), (1, .int (nI 6))], [], (z_wI (z_wI (z_wI h2 47 (((z_wI h 46 ((h.1 45 0).toNatClampNeg) (nI 6)).1 45 0).toNatClampNeg) r1) 48 ((nI 6).toNatClampNeg) ((z_wI h2 47 (((z_wI h 46 ((h.1 45 0).toNatClampNeg) (nI 6)).1 45 0).toNatClampNeg) r1).1 45 0)) 45 0 (((z_wI (z_wI h2 47 (((z_wI h 46 ((h.1 45 0).toNatClampNeg) (nI 6)).1 45 0).toNatClampNeg) r1) 48 ((nI 6).toNatClampNeg) ((z_wI h2 47 (((z_wI h 46 ((h.1 45 0).toNatClampNeg) (nI 6)).1 45 0).toNatClampNeg) r1).1 45 0)).1 45 0) + 1)))) rfl ⟨Nat.le_of_ble_eq_true rfl, Nat.le_of_ble_eq_true rfl⟩).trans ?_
    refine z_bdc fun r3 h4 => ?_
    exact z_X_ret rfl
  · subst e
    refine (z_X_steps (s' := (28, [(0, .ref 45), (1, .int (nI 7))], [.ref 50, .ref (54 + 2 * (nI 7).toNatClampNeg), .int ((z_wI h 46 ((h.1 45 0).toNatClampNeg) (nI 7)).1 45 0), .ref 47], (z_wI h 46 ((h.1 45 0).toNatClampNeg) (nI 7)))) 2 rfl).trans ?_
    refine (z_X_call (id := 108) (a := [.ref (54 + 2 * (nI 7).toNatClampNeg), .ref 50]) (c := 1) (s' := (31, [(0, .ref 45), (1, .int (nI 7))], [.int ((z_wI h 46 ((h.1 45 0).toNatClampNeg) (nI 7)).1 45 0), .ref 47], (z_wI h 46 ((h.1 45 0).toNatClampNeg) (nI 7)))) rfl ⟨Nat.le_of_ble_eq_true rfl, Nat.le_of_ble_eq_true rfl⟩).trans ?_
    refine z_bdc fun r1 h2 => ?_
    refine (z_X_if (g := z_in ((z_wI h 46 ((h.1 45 0).toNatClampNeg) (nI 7)).1 45 0) 8) (s' := (32, [(0, .ref 45), (1, .int (nI 7))], [], (z_wI h2 47 (((z_wI h 46 ((h.1 45 0).toNatClampNeg) (nI 7)).1 45 0).toNatClampNeg) r1))) rfl).trans (z_bifA ?_)
    refine (z_X_steps (s' := (41, [(0, .ref 45), (1, .int (nI 7))], [.int ((z_wI h2 47 (((z_wI h 46 ((h.1 45 0).toNatClampNeg) (nI 7)).1 45 0).toNatClampNeg) r1).1 45 0), .int (nI 7), .ref 48], (z_wI h2 47 (((z_wI h 46 ((h.1 45 0).toNatClampNeg) (nI 7)).1 45 0).toNatClampNeg) r1))) 5 rfl).trans ?_
    refine (z_X_if (g := z_in (nI 7) 8) (s' := (42, [(0, .ref 45), (1, .int (nI 7))], [], (z_wI (z_wI h2 47 (((z_wI h 46 ((h.1 45 0).toNatClampNeg) (nI 7)).1 45 0).toNatClampNeg) r1) 48 ((nI 7).toNatClampNeg) ((z_wI h2 47 (((z_wI h 46 ((h.1 45 0).toNatClampNeg) (nI 7)).1 45 0).toNatClampNeg) r1).1 45 0)))) rfl).trans (z_bifA ?_)
    refine (z_X_steps (s' := (61, [(0, .ref 45), (1, .int (nI 7))], [.int (nI 7), .ref 49, .ref 50], (z_wI (z_wI (z_wI h2 47 (((z_wI h 46 ((h.1 45 0).toNatClampNeg) (nI 7)).1 45 0).toNatClampNeg) r1) 48 ((nI 7).toNatClampNeg) ((z_wI h2 47 (((z_wI h 46 ((h.1 45 0).toNatClampNeg) (nI 7)).1 45 0).toNatClampNeg) r1).1 45 0)) 45 0 (((z_wI (z_wI h2 47 (((z_wI h 46 ((h.1 45 0).toNatClampNeg) (nI 7)).1 45 0).toNatClampNeg) r1) 48 ((nI 7).toNatClampNeg) ((z_wI h2 47 (((z_wI h 46 ((h.1 45 0).toNatClampNeg) (nI 7)).1 45 0).toNatClampNeg) r1).1 45 0)).1 45 0) + 1)))) 11 rfl).trans ?_
    refine (z_X_if (g := z_in (nI 7) 8) (s' := (62, [(0, .ref 45), (1, .int (nI 7))], [.ref (54 + 2 * (nI 7).toNatClampNeg), .ref 50], (z_wI (z_wI (z_wI h2 47 (((z_wI h 46 ((h.1 45 0).toNatClampNeg) (nI 7)).1 45 0).toNatClampNeg) r1) 48 ((nI 7).toNatClampNeg) ((z_wI h2 47 (((z_wI h 46 ((h.1 45 0).toNatClampNeg) (nI 7)).1 45 0).toNatClampNeg) r1).1 45 0)) 45 0 (((z_wI (z_wI h2 47 (((z_wI h 46 ((h.1 45 0).toNatClampNeg) (nI 7)).1 45 0).toNatClampNeg) r1) 48 ((nI 7).toNatClampNeg) ((z_wI h2 47 (((z_wI h 46 ((h.1 45 0).toNatClampNeg) (nI 7)).1 45 0).toNatClampNeg) r1).1 45 0)).1 45 0) + 1)))) rfl).trans (z_bifA ?_)
    refine (z_X_call (id := 105) (a := [.ref 50, .ref (54 + 2 * (nI 7).toNatClampNeg)]) (c := 0) (s' := (65, [(0, .ref 45), (1, .int (nI 7))], [], (z_wI (z_wI (z_wI h2 47 (((z_wI h 46 ((h.1 45 0).toNatClampNeg) (nI 7)).1 45 0).toNatClampNeg) r1) 48 ((nI 7).toNatClampNeg) ((z_wI h2 47 (((z_wI h 46 ((h.1 45 0).toNatClampNeg) (nI 7)).1 45 0).toNatClampNeg) r1).1 45 0)) 45 0 (((z_wI (z_wI h2 47 (((z_wI h 46 ((h.1 45 0).toNatClampNeg) (nI 7)).1 45 0).toNatClampNeg) r1) 48 ((nI 7).toNatClampNeg) ((z_wI h2 47 (((z_wI h 46 ((h.1 45 0).toNatClampNeg) (nI 7)).1 45 0).toNatClampNeg) r1).1 45 0)).1 45 0) + 1)))) rfl ⟨Nat.le_of_ble_eq_true rfl, Nat.le_of_ble_eq_true rfl⟩).trans ?_
    refine z_bdc fun r3 h4 => ?_
    exact z_X_ret rfl
