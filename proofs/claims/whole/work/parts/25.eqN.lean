/-! printed: what the methods come to -/
noncomputable def zl_M_dangersOf_11 (x2 : Int32) (x3 : Int32) (x4 : Int32) (h : z_H) : Option z_A := z_X zc_M_dangersOf 8 (11, [(0, .ref 122), (2, .int x2), (3, .int x3), (4, .int x4)], [], h)
set_option maxRecDepth 8000 in
set_option maxHeartbeats 2000000 in
theorem e_M_dangersOf (x1 : Int32) (x2 : Int32) (h : z_H) : z_M 174 [.ref 122, .int x1, .int x2] h = z_bd (z_M 168 [.ref 122, .int 0, .int x1] h) (fun r1 h2 => zl_M_dangersOf_11 x2 0 0 h2) := by
  refine (z_M_eq (by decide)).trans ?_
  show z_X zc_M_dangersOf 8 (0, [(0, .ref 122), (1, .int x1), (2, .int x2)], [], h) = _
  refine (z_X_steps (s' := (3, [(0, .ref 122), (1, .int x1), (2, .int x2)], [.int x1, .int 0, .ref 122], h)) 3 rfl).trans ?_
  refine (z_X_call (id := 168) (a := [.ref 122, .int 0, .int x1]) (c := 0) (s' := (6, [(0, .ref 122), (1, .int x1), (2, .int x2)], [], h)) rfl ⟨Nat.le_of_ble_eq_true rfl, Nat.le_of_ble_eq_true rfl⟩).trans ?_
  refine z_bdc fun r1 h2 => ?_
  refine (z_X_steps (s' := (11, [(4, .int 0), (3, .int 0), (0, .ref 122), (1, .int x1), (2, .int x2)], [], h2)) 4 rfl).trans ?_
  exact z_X_lab rfl
set_option maxRecDepth 8000 in
set_option maxHeartbeats 2000000 in
theorem e_M_dangersOf_11 (x2 : Int32) (x3 : Int32) (x4 : Int32) (h : z_H) : zl_M_dangersOf_11 x2 x3 x4 h = (if (216 : Int32) ≤ x4 then some (x3, h) else (bif z_in x4 216 then (if h.1 130 (x4.toNatClampNeg) = 0 then z_bd (z_M 128 [.int 0] h) (fun r1 h2 => zl_M_dangersOf_11 x2 (x3 + r1) (x4 + 1) h2) else (bif z_in x4 216 then (if h.1 131 (x4.toNatClampNeg) = 0 then z_bd (z_M 128 [.int 0] h) (fun r3 h4 => zl_M_dangersOf_11 x2 (x3 + r3) (x4 + 1) h4) else (if x2 = 0 then z_bd (z_M 128 [.int 1] h) (fun r5 h6 => zl_M_dangersOf_11 x2 (x3 + r5) (x4 + 1) h6) else (bif z_in x4 216 then (if ¬ h.1 133 (x4.toNatClampNeg) = 0 then z_bd (z_M 128 [.int 0] h) (fun r7 h8 => zl_M_dangersOf_11 x2 (x3 + r7) (x4 + 1) h8) else z_bd (z_M 128 [.int 1] h) (fun r9 h10 => zl_M_dangersOf_11 x2 (x3 + r9) (x4 + 1) h10)) else none))) else none)) else none)) := by
  show z_X zc_M_dangersOf 8 (11, [(0, .ref 122), (2, .int x2), (3, .int x3), (4, .int x4)], [], h) = _
  refine (z_X_steps (s' := (16, [(0, .ref 122), (2, .int x2), (3, .int x3), (4, .int x4)], [.int 216, .int x4], h)) 2 rfl).trans ?_
  refine (z_X_br (c := (216 : Int32) ≤ x4) (s1 := (70, [(0, .ref 122), (2, .int x2), (3, .int x3), (4, .int x4)], [], h)) (s2 := (19, [(0, .ref 122), (2, .int x2), (3, .int x3), (4, .int x4)], [], h)) rfl).trans (z_ite ?_ ?_)
  · refine (z_X_steps (s' := (71, [(0, .ref 122), (2, .int x2), (3, .int x3), (4, .int x4)], [.int x3], h)) 1 rfl).trans ?_
    exact z_X_ret rfl
  · refine (z_X_steps (s' := (26, [(0, .ref 122), (2, .int x2), (3, .int x3), (4, .int x4)], [.int x4, .ref 130, .int x3], h)) 4 rfl).trans ?_
    refine (z_X_if (g := z_in x4 216) (s' := (27, [(0, .ref 122), (2, .int x2), (3, .int x3), (4, .int x4)], [.int (h.1 130 (x4.toNatClampNeg)), .int x3], h)) rfl).trans (z_bifA ?_)
    refine (z_X_br (c := h.1 130 (x4.toNatClampNeg) = 0) (s1 := (58, [(0, .ref 122), (2, .int x2), (3, .int x3), (4, .int x4)], [.int x3], h)) (s2 := (30, [(0, .ref 122), (2, .int x2), (3, .int x3), (4, .int x4)], [.int x3], h)) rfl).trans (z_ite ?_ ?_)
    · refine (z_X_steps (s' := (59, [(0, .ref 122), (2, .int x2), (3, .int x3), (4, .int x4)], [.int 0, .int x3], h)) 1 rfl).trans ?_
      refine (z_X_call (id := 128) (a := [.int 0]) (c := 1) (s' := (62, [(0, .ref 122), (2, .int x2), (3, .int x3), (4, .int x4)], [.int x3], h)) rfl ⟨Nat.le_of_ble_eq_true rfl, Nat.le_of_ble_eq_true rfl⟩).trans ?_
      refine z_bdc fun r1 h2 => ?_
      refine (z_X_steps (s' := (11, [(4, .int (x4 + 1)), (3, .int (x3 + r1)), (0, .ref 122), (2, .int x2)], [], h2)) 4 rfl).trans ?_
      exact z_X_lab rfl
    · refine (z_X_steps (s' := (36, [(0, .ref 122), (2, .int x2), (3, .int x3), (4, .int x4)], [.int x4, .ref 131, .int x3], h)) 3 rfl).trans ?_
      refine (z_X_if (g := z_in x4 216) (s' := (37, [(0, .ref 122), (2, .int x2), (3, .int x3), (4, .int x4)], [.int (h.1 131 (x4.toNatClampNeg)), .int x3], h)) rfl).trans (z_bifA ?_)
      refine (z_X_br (c := h.1 131 (x4.toNatClampNeg) = 0) (s1 := (58, [(0, .ref 122), (2, .int x2), (3, .int x3), (4, .int x4)], [.int x3], h)) (s2 := (40, [(0, .ref 122), (2, .int x2), (3, .int x3), (4, .int x4)], [.int x3], h)) rfl).trans (z_ite ?_ ?_)
      · refine (z_X_steps (s' := (59, [(0, .ref 122), (2, .int x2), (3, .int x3), (4, .int x4)], [.int 0, .int x3], h)) 1 rfl).trans ?_
        refine (z_X_call (id := 128) (a := [.int 0]) (c := 1) (s' := (62, [(0, .ref 122), (2, .int x2), (3, .int x3), (4, .int x4)], [.int x3], h)) rfl ⟨Nat.le_of_ble_eq_true rfl, Nat.le_of_ble_eq_true rfl⟩).trans ?_
        refine z_bdc fun r3 h4 => ?_
        refine (z_X_steps (s' := (11, [(4, .int (x4 + 1)), (3, .int (x3 + r3)), (0, .ref 122), (2, .int x2)], [], h4)) 4 rfl).trans ?_
        exact z_X_lab rfl
      · refine (z_X_steps (s' := (41, [(0, .ref 122), (2, .int x2), (3, .int x3), (4, .int x4)], [.int x2, .int x3], h)) 1 rfl).trans ?_
        refine (z_X_br (c := x2 = 0) (s1 := (54, [(0, .ref 122), (2, .int x2), (3, .int x3), (4, .int x4)], [.int x3], h)) (s2 := (44, [(0, .ref 122), (2, .int x2), (3, .int x3), (4, .int x4)], [.int x3], h)) rfl).trans (z_ite ?_ ?_)
        · refine (z_X_steps (s' := (59, [(0, .ref 122), (2, .int x2), (3, .int x3), (4, .int x4)], [.int 1, .int x3], h)) 2 rfl).trans ?_
          refine (z_X_call (id := 128) (a := [.int 1]) (c := 1) (s' := (62, [(0, .ref 122), (2, .int x2), (3, .int x3), (4, .int x4)], [.int x3], h)) rfl ⟨Nat.le_of_ble_eq_true rfl, Nat.le_of_ble_eq_true rfl⟩).trans ?_
          refine z_bdc fun r5 h6 => ?_
          refine (z_X_steps (s' := (11, [(4, .int (x4 + 1)), (3, .int (x3 + r5)), (0, .ref 122), (2, .int x2)], [], h6)) 4 rfl).trans ?_
          exact z_X_lab rfl
        · refine (z_X_steps (s' := (50, [(0, .ref 122), (2, .int x2), (3, .int x3), (4, .int x4)], [.int x4, .ref 133, .int x3], h)) 3 rfl).trans ?_
          refine (z_X_if (g := z_in x4 216) (s' := (51, [(0, .ref 122), (2, .int x2), (3, .int x3), (4, .int x4)], [.int (h.1 133 (x4.toNatClampNeg)), .int x3], h)) rfl).trans (z_bifA ?_)
          refine (z_X_br (c := ¬ h.1 133 (x4.toNatClampNeg) = 0) (s1 := (58, [(0, .ref 122), (2, .int x2), (3, .int x3), (4, .int x4)], [.int x3], h)) (s2 := (54, [(0, .ref 122), (2, .int x2), (3, .int x3), (4, .int x4)], [.int x3], h)) rfl).trans (z_ite ?_ ?_)
          · refine (z_X_steps (s' := (59, [(0, .ref 122), (2, .int x2), (3, .int x3), (4, .int x4)], [.int 0, .int x3], h)) 1 rfl).trans ?_
            refine (z_X_call (id := 128) (a := [.int 0]) (c := 1) (s' := (62, [(0, .ref 122), (2, .int x2), (3, .int x3), (4, .int x4)], [.int x3], h)) rfl ⟨Nat.le_of_ble_eq_true rfl, Nat.le_of_ble_eq_true rfl⟩).trans ?_
            refine z_bdc fun r7 h8 => ?_
            refine (z_X_steps (s' := (11, [(4, .int (x4 + 1)), (3, .int (x3 + r7)), (0, .ref 122), (2, .int x2)], [], h8)) 4 rfl).trans ?_
            exact z_X_lab rfl
          · refine (z_X_steps (s' := (59, [(0, .ref 122), (2, .int x2), (3, .int x3), (4, .int x4)], [.int 1, .int x3], h)) 2 rfl).trans ?_
            refine (z_X_call (id := 128) (a := [.int 1]) (c := 1) (s' := (62, [(0, .ref 122), (2, .int x2), (3, .int x3), (4, .int x4)], [.int x3], h)) rfl ⟨Nat.le_of_ble_eq_true rfl, Nat.le_of_ble_eq_true rfl⟩).trans ?_
            refine z_bdc fun r9 h10 => ?_
            refine (z_X_steps (s' := (11, [(4, .int (x4 + 1)), (3, .int (x3 + r9)), (0, .ref 122), (2, .int x2)], [], h10)) 4 rfl).trans ?_
            exact z_X_lab rfl
noncomputable def zl_M_findOrder_6 (x1 : Int32) (h : z_H) : Option z_A := z_X zc_M_findOrder 9 (6, [(0, .ref 122), (1, .int x1)], [], h)
noncomputable def zl_M_findOrder_28 (x1 : Int32) (h : z_H) : Option z_A := z_X zc_M_findOrder 9 (28, [(0, .ref 122), (1, .int x1)], [], h)
noncomputable def zl_M_findOrder_54 (x1 : Int32) (h : z_H) : Option z_A := z_X zc_M_findOrder 9 (54, [(0, .ref 122), (1, .int x1)], [], h)
noncomputable def zl_M_findOrder_66 (x2 : Int32) (x3 : Int32) (x4 : Int32) (h : z_H) : Option z_A := z_X zc_M_findOrder 9 (66, [(0, .ref 122), (2, .int x2), (3, .int x3), (4, .int x4)], [], h)
noncomputable def zl_M_findOrder_156 (x2 : Int32) (x3 : Int32) (s0 : Int32) (h : z_H) : Option z_A := z_X zc_M_findOrder 9 (156, [(0, .ref 122), (2, .int x2), (3, .int x3)], [.int s0], h)
set_option maxRecDepth 8000 in
set_option maxHeartbeats 2000000 in
theorem e_M_findOrder (h : z_H) : z_M 175 [.ref 122] h = z_bd (z_M 172 [.ref 122] h) (fun r1 h2 => zl_M_findOrder_6 0 h2) := by
  refine (z_M_eq (by decide)).trans ?_
  show z_X zc_M_findOrder 9 (0, [(0, .ref 122)], [], h) = _
  refine (z_X_steps (s' := (1, [(0, .ref 122)], [.ref 122], h)) 1 rfl).trans ?_
  refine (z_X_call (id := 172) (a := [.ref 122]) (c := 0) (s' := (4, [(0, .ref 122)], [], h)) rfl ⟨Nat.le_of_ble_eq_true rfl, Nat.le_of_ble_eq_true rfl⟩).trans ?_
  refine z_bdc fun r1 h2 => ?_
  refine (z_X_steps (s' := (6, [(1, .int 0), (0, .ref 122)], [], h2)) 2 rfl).trans ?_
  exact z_X_lab rfl
set_option maxRecDepth 8000 in
set_option maxHeartbeats 2000000 in
theorem e_M_findOrder_6 (x1 : Int32) (h : z_H) : zl_M_findOrder_6 x1 h = (if (216 : Int32) ≤ x1 then zl_M_findOrder_28 0 h else (bif z_in x1 216 then zl_M_findOrder_6 (x1 + 1) (z_wI h 133 (x1.toNatClampNeg) 0) else none)) := by
  show z_X zc_M_findOrder 9 (6, [(0, .ref 122), (1, .int x1)], [], h) = _
  refine (z_X_steps (s' := (10, [(0, .ref 122), (1, .int x1)], [.int 216, .int x1], h)) 2 rfl).trans ?_
  refine (z_X_br (c := (216 : Int32) ≤ x1) (s1 := (26, [(0, .ref 122), (1, .int x1)], [], h)) (s2 := (13, [(0, .ref 122), (1, .int x1)], [], h)) rfl).trans (z_ite ?_ ?_)
  · refine (z_X_steps (s' := (28, [(1, .int 0), (0, .ref 122)], [], h)) 2 rfl).trans ?_
    exact z_X_lab rfl
  · refine (z_X_steps (s' := (19, [(0, .ref 122), (1, .int x1)], [.int 0, .int x1, .ref 133], h)) 4 rfl).trans ?_
    refine (z_X_if (g := z_in x1 216) (s' := (20, [(0, .ref 122), (1, .int x1)], [], (z_wI h 133 (x1.toNatClampNeg) 0))) rfl).trans (z_bifA ?_)
    refine (z_X_steps (s' := (6, [(1, .int (x1 + 1)), (0, .ref 122)], [], (z_wI h 133 (x1.toNatClampNeg) 0))) 2 rfl).trans ?_
    exact z_X_lab rfl
set_option maxRecDepth 8000 in
set_option maxHeartbeats 2000000 in
theorem e_M_findOrder_28 (x1 : Int32) (h : z_H) : zl_M_findOrder_28 x1 h = (if (8 : Int32) ≤ x1 then zl_M_findOrder_54 1 (z_wI h 122 28 0) else (bif z_in x1 8 then zl_M_findOrder_28 (x1 + 1) (z_wI h 134 (x1.toNatClampNeg) 0) else none)) := by
  show z_X zc_M_findOrder 9 (28, [(0, .ref 122), (1, .int x1)], [], h) = _
  refine (z_X_steps (s' := (31, [(0, .ref 122), (1, .int x1)], [.int 8, .int x1], h)) 2 rfl).trans ?_
  refine (z_X_br (c := (8 : Int32) ≤ x1) (s1 := (47, [(0, .ref 122), (1, .int x1)], [], h)) (s2 := (34, [(0, .ref 122), (1, .int x1)], [], h)) rfl).trans (z_ite ?_ ?_)
  · refine (z_X_steps (s' := (54, [(1, .int 1), (0, .ref 122)], [], (z_wI h 122 28 0))) 5 rfl).trans ?_
    exact z_X_lab rfl
  · refine (z_X_steps (s' := (40, [(0, .ref 122), (1, .int x1)], [.int 0, .int x1, .ref 134], h)) 4 rfl).trans ?_
    refine (z_X_if (g := z_in x1 8) (s' := (41, [(0, .ref 122), (1, .int x1)], [], (z_wI h 134 (x1.toNatClampNeg) 0))) rfl).trans (z_bifA ?_)
    refine (z_X_steps (s' := (28, [(1, .int (x1 + 1)), (0, .ref 122)], [], (z_wI h 134 (x1.toNatClampNeg) 0))) 2 rfl).trans ?_
    exact z_X_lab rfl
set_option maxRecDepth 8000 in
set_option maxHeartbeats 2000000 in
theorem e_M_findOrder_54 (x1 : Int32) (h : z_H) : zl_M_findOrder_54 x1 h = (if x1 = 0 then some (0, h) else zl_M_findOrder_66 (-4) 0 0 h) := by
  show z_X zc_M_findOrder 9 (54, [(0, .ref 122), (1, .int x1)], [], h) = _
  refine (z_X_steps (s' := (55, [(0, .ref 122), (1, .int x1)], [.int x1], h)) 1 rfl).trans ?_
  refine (z_X_br (c := x1 = 0) (s1 := (170, [(0, .ref 122), (1, .int x1)], [], h)) (s2 := (58, [(0, .ref 122), (1, .int x1)], [], h)) rfl).trans (z_ite ?_ ?_)
  · exact z_X_ret rfl
  · refine (z_X_steps (s' := (66, [(4, .int 0), (3, .int 0), (2, .int (-4)), (0, .ref 122), (1, .int x1)], [], h)) 6 rfl).trans ?_
    exact z_X_lab rfl
set_option maxRecDepth 8000 in
set_option maxHeartbeats 2000000 in
theorem e_M_findOrder_66 (x2 : Int32) (x3 : Int32) (x4 : Int32) (h : z_H) : zl_M_findOrder_66 x2 x3 x4 h = (if h.1 123 2 ≤ x4 then (if x2 = (-4) then zl_M_findOrder_156 x2 x3 0 h else zl_M_findOrder_156 x2 x3 1 h) else (bif z_in x4 8 then (if ¬ h.1 134 (x4.toNatClampNeg) = 0 then zl_M_findOrder_66 x2 x3 (x4 + 1) h else z_bd (z_M 174 [.ref 122, .int x4, .int 0] h) (fun r1 h2 => (if r1 ≤ 0 then zl_M_findOrder_66 x2 x3 (x4 + 1) h2 else z_bd (z_M 174 [.ref 122, .int x4, .int 1] h2) (fun r3 h4 => (if x2 = (-4) then zl_M_findOrder_66 x4 r3 (x4 + 1) h4 else z_bd (z_M 167 [.ref 122, .int x2, .int 2] h4) (fun r5 h6 => z_bd (z_M 167 [.ref 122, .int x4, .int 2] h6) (fun r7 h8 => (if r3 * r5 ≤ x3 * r7 then zl_M_findOrder_66 x2 x3 (x4 + 1) h8 else zl_M_findOrder_66 x4 r3 (x4 + 1) h8)))))))) else none)) := by
  show z_X zc_M_findOrder 9 (66, [(0, .ref 122), (2, .int x2), (3, .int x3), (4, .int x4)], [], h) = _
  refine (z_X_steps (s' := (74, [(0, .ref 122), (2, .int x2), (3, .int x3), (4, .int x4)], [.int (h.1 123 2), .int x4], h)) 5 rfl).trans ?_
  refine (z_X_br (c := h.1 123 2 ≤ x4) (s1 := (145, [(0, .ref 122), (2, .int x2), (3, .int x3), (4, .int x4)], [], h)) (s2 := (77, [(0, .ref 122), (2, .int x2), (3, .int x3), (4, .int x4)], [], h)) rfl).trans (z_ite ?_ ?_)
  · refine (z_X_steps (s' := (148, [(0, .ref 122), (2, .int x2), (3, .int x3), (4, .int x4)], [.int (-4), .int x2], h)) 2 rfl).trans ?_
    refine (z_X_br (c := x2 = (-4)) (s1 := (155, [(0, .ref 122), (2, .int x2), (3, .int x3), (4, .int x4)], [], h)) (s2 := (151, [(0, .ref 122), (2, .int x2), (3, .int x3), (4, .int x4)], [], h)) rfl).trans (z_ite ?_ ?_)
    · refine (z_X_steps (s' := (156, [(0, .ref 122), (2, .int x2), (3, .int x3), (4, .int x4)], [.int 0], h)) 1 rfl).trans ?_
      exact z_X_lab rfl
    · refine (z_X_steps (s' := (156, [(0, .ref 122), (2, .int x2), (3, .int x3), (4, .int x4)], [.int 1], h)) 2 rfl).trans ?_
      exact z_X_lab rfl
  · refine (z_X_steps (s' := (83, [(0, .ref 122), (2, .int x2), (3, .int x3), (4, .int x4)], [.int x4, .ref 134], h)) 3 rfl).trans ?_
    refine (z_X_if (g := z_in x4 8) (s' := (84, [(0, .ref 122), (2, .int x2), (3, .int x3), (4, .int x4)], [.int (h.1 134 (x4.toNatClampNeg))], h)) rfl).trans (z_bifA ?_)
    refine (z_X_br (c := ¬ h.1 134 (x4.toNatClampNeg) = 0) (s1 := (139, [(0, .ref 122), (2, .int x2), (3, .int x3), (4, .int x4)], [], h)) (s2 := (87, [(0, .ref 122), (2, .int x2), (3, .int x3), (4, .int x4)], [], h)) rfl).trans (z_ite ?_ ?_)
    · refine (z_X_steps (s' := (66, [(4, .int (x4 + 1)), (0, .ref 122), (2, .int x2), (3, .int x3)], [], h)) 2 rfl).trans ?_
      exact z_X_lab rfl
    · refine (z_X_steps (s' := (91, [(0, .ref 122), (2, .int x2), (3, .int x3), (4, .int x4)], [.int 0, .int x4, .ref 122], h)) 3 rfl).trans ?_
      refine (z_X_call (id := 174) (a := [.ref 122, .int x4, .int 0]) (c := 1) (s' := (94, [(0, .ref 122), (2, .int x2), (3, .int x3), (4, .int x4)], [], h)) rfl ⟨Nat.le_of_ble_eq_true rfl, Nat.le_of_ble_eq_true rfl⟩).trans ?_
      refine z_bdc fun r1 h2 => ?_
      refine (z_X_br (c := r1 ≤ 0) (s1 := (139, [(0, .ref 122), (2, .int x2), (3, .int x3), (4, .int x4)], [], h2)) (s2 := (97, [(0, .ref 122), (2, .int x2), (3, .int x3), (4, .int x4)], [], h2)) rfl).trans (z_ite ?_ ?_)
      · refine (z_X_steps (s' := (66, [(4, .int (x4 + 1)), (0, .ref 122), (2, .int x2), (3, .int x3)], [], h2)) 2 rfl).trans ?_
        exact z_X_lab rfl
      · refine (z_X_steps (s' := (101, [(0, .ref 122), (2, .int x2), (3, .int x3), (4, .int x4)], [.int 1, .int x4, .ref 122], h2)) 3 rfl).trans ?_
        refine (z_X_call (id := 174) (a := [.ref 122, .int x4, .int 1]) (c := 1) (s' := (104, [(0, .ref 122), (2, .int x2), (3, .int x3), (4, .int x4)], [], h2)) rfl ⟨Nat.le_of_ble_eq_true rfl, Nat.le_of_ble_eq_true rfl⟩).trans ?_
        refine z_bdc fun r3 h4 => ?_
        refine (z_X_steps (s' := (109, [(5, .int r3), (0, .ref 122), (2, .int x2), (3, .int x3), (4, .int x4)], [.int (-4), .int x2], h4)) 3 rfl).trans ?_
        refine (z_X_br (c := x2 = (-4)) (s1 := (133, [(5, .int r3), (0, .ref 122), (2, .int x2), (3, .int x3), (4, .int x4)], [], h4)) (s2 := (112, [(5, .int r3), (0, .ref 122), (2, .int x2), (3, .int x3), (4, .int x4)], [], h4)) rfl).trans (z_ite ?_ ?_)
        · refine (z_X_steps (s' := (66, [(4, .int (x4 + 1)), (3, .int r3), (2, .int x4), (5, .int r3), (0, .ref 122)], [], h4)) 6 rfl).trans ?_
          exact z_X_lab rfl
        · refine (z_X_steps (s' := (117, [(5, .int r3), (0, .ref 122), (2, .int x2), (3, .int x3), (4, .int x4)], [.int 2, .int x2, .ref 122, .int r3], h4)) 4 rfl).trans ?_
          refine (z_X_call (id := 167) (a := [.ref 122, .int x2, .int 2]) (c := 1) (s' := (120, [(5, .int r3), (0, .ref 122), (2, .int x2), (3, .int x3), (4, .int x4)], [.int r3], h4)) rfl ⟨Nat.le_of_ble_eq_true rfl, Nat.le_of_ble_eq_true rfl⟩).trans ?_
          refine z_bdc fun r5 h6 => ?_
          refine (z_X_steps (s' := (126, [(5, .int r3), (0, .ref 122), (2, .int x2), (3, .int x3), (4, .int x4)], [.int 2, .int x4, .ref 122, .int x3, .int (r3 * r5)], h6)) 5 rfl).trans ?_
          refine (z_X_call (id := 167) (a := [.ref 122, .int x4, .int 2]) (c := 1) (s' := (129, [(5, .int r3), (0, .ref 122), (2, .int x2), (3, .int x3), (4, .int x4)], [.int x3, .int (r3 * r5)], h6)) rfl ⟨Nat.le_of_ble_eq_true rfl, Nat.le_of_ble_eq_true rfl⟩).trans ?_
          refine z_bdc fun r7 h8 => ?_
          refine (z_X_steps (s' := (130, [(5, .int r3), (0, .ref 122), (2, .int x2), (3, .int x3), (4, .int x4)], [.int (x3 * r7), .int (r3 * r5)], h8)) 1 rfl).trans ?_
          refine (z_X_br (c := r3 * r5 ≤ x3 * r7) (s1 := (139, [(5, .int r3), (0, .ref 122), (2, .int x2), (3, .int x3), (4, .int x4)], [], h8)) (s2 := (133, [(5, .int r3), (0, .ref 122), (2, .int x2), (3, .int x3), (4, .int x4)], [], h8)) rfl).trans (z_ite ?_ ?_)
          · refine (z_X_steps (s' := (66, [(4, .int (x4 + 1)), (5, .int r3), (0, .ref 122), (2, .int x2), (3, .int x3)], [], h8)) 2 rfl).trans ?_
            exact z_X_lab rfl
          · refine (z_X_steps (s' := (66, [(4, .int (x4 + 1)), (3, .int r3), (2, .int x4), (5, .int r3), (0, .ref 122)], [], h8)) 6 rfl).trans ?_
            exact z_X_lab rfl
set_option maxRecDepth 8000 in
set_option maxHeartbeats 2000000 in
theorem e_M_findOrder_156 (x2 : Int32) (x3 : Int32) (s0 : Int32) (h : z_H) : zl_M_findOrder_156 x2 x3 s0 h = (if s0 = 0 then zl_M_findOrder_54 s0 h else z_bd (z_M 176 [.ref 122, .int x2, .int x3] h) (fun r1 h2 => zl_M_findOrder_54 s0 h2)) := by
  show z_X zc_M_findOrder 9 (156, [(0, .ref 122), (2, .int x2), (3, .int x3)], [.int s0], h) = _
  refine (z_X_steps (s' := (158, [(1, .int s0), (0, .ref 122), (2, .int x2), (3, .int x3)], [.int s0], h)) 2 rfl).trans ?_
  refine (z_X_br (c := s0 = 0) (s1 := (167, [(1, .int s0), (0, .ref 122), (2, .int x2), (3, .int x3)], [], h)) (s2 := (161, [(1, .int s0), (0, .ref 122), (2, .int x2), (3, .int x3)], [], h)) rfl).trans (z_ite ?_ ?_)
  · refine (z_X_steps (s' := (54, [(1, .int s0), (0, .ref 122), (2, .int x2), (3, .int x3)], [], h)) 1 rfl).trans ?_
    exact z_X_lab rfl
  · refine (z_X_steps (s' := (164, [(1, .int s0), (0, .ref 122), (2, .int x2), (3, .int x3)], [.int x3, .int x2, .ref 122], h)) 3 rfl).trans ?_
    refine (z_X_call (id := 176) (a := [.ref 122, .int x2, .int x3]) (c := 0) (s' := (167, [(1, .int s0), (0, .ref 122), (2, .int x2), (3, .int x3)], [], h)) rfl ⟨Nat.le_of_ble_eq_true rfl, Nat.le_of_ble_eq_true rfl⟩).trans ?_
    refine z_bdc fun r1 h2 => ?_
    refine (z_X_steps (s' := (54, [(1, .int s0), (0, .ref 122), (2, .int x2), (3, .int x3)], [], h2)) 1 rfl).trans ?_
    exact z_X_lab rfl
noncomputable def zl_M_comesNext_45 (x3 : Int32) (h : z_H) : Option z_A := z_X zc_M_comesNext 8 (45, [(0, .ref 122), (3, .int x3)], [], h)
set_option maxRecDepth 8000 in
set_option maxHeartbeats 2000000 in
theorem e_M_comesNext (x1 : Int32) (x2 : Int32) (h : z_H) : z_M 176 [.ref 122, .int x1, .int x2] h = (bif z_in (h.1 122 28) 8 then (bif z_in ((z_wI h 135 ((h.1 122 28).toNatClampNeg) x1).1 122 28) 8 then (bif z_in x1 8 then z_bd (z_M 168 [.ref 122, .int 0, .int x1] (z_wI (z_wI (z_wI (z_wI h 135 ((h.1 122 28).toNatClampNeg) x1) 136 (((z_wI h 135 ((h.1 122 28).toNatClampNeg) x1).1 122 28).toNatClampNeg) x2) 122 28 (((z_wI (z_wI h 135 ((h.1 122 28).toNatClampNeg) x1) 136 (((z_wI h 135 ((h.1 122 28).toNatClampNeg) x1).1 122 28).toNatClampNeg) x2).1 122 28) + 1)) 134 (x1.toNatClampNeg) 1)) (fun r1 h2 => zl_M_comesNext_45 0 h2) else none) else none) else none) := by
  refine (z_M_eq (by decide)).trans ?_
  show z_X zc_M_comesNext 8 (0, [(0, .ref 122), (1, .int x1), (2, .int x2)], [], h) = _
  refine (z_X_steps (s' := (9, [(0, .ref 122), (1, .int x1), (2, .int x2)], [.int x1, .int (h.1 122 28), .ref 135], h)) 5 rfl).trans ?_
  refine (z_X_if (g := z_in (h.1 122 28) 8) (s' := (10, [(0, .ref 122), (1, .int x1), (2, .int x2)], [], (z_wI h 135 ((h.1 122 28).toNatClampNeg) x1))) rfl).trans (z_bifA ?_)
  refine (z_X_steps (s' := (19, [(0, .ref 122), (1, .int x1), (2, .int x2)], [.int x2, .int ((z_wI h 135 ((h.1 122 28).toNatClampNeg) x1).1 122 28), .ref 136], (z_wI h 135 ((h.1 122 28).toNatClampNeg) x1))) 5 rfl).trans ?_
  refine (z_X_if (g := z_in ((z_wI h 135 ((h.1 122 28).toNatClampNeg) x1).1 122 28) 8) (s' := (20, [(0, .ref 122), (1, .int x1), (2, .int x2)], [], (z_wI (z_wI h 135 ((h.1 122 28).toNatClampNeg) x1) 136 (((z_wI h 135 ((h.1 122 28).toNatClampNeg) x1).1 122 28).toNatClampNeg) x2))) rfl).trans (z_bifA ?_)
  refine (z_X_steps (s' := (36, [(0, .ref 122), (1, .int x1), (2, .int x2)], [.int 1, .int x1, .ref 134], (z_wI (z_wI (z_wI h 135 ((h.1 122 28).toNatClampNeg) x1) 136 (((z_wI h 135 ((h.1 122 28).toNatClampNeg) x1).1 122 28).toNatClampNeg) x2) 122 28 (((z_wI (z_wI h 135 ((h.1 122 28).toNatClampNeg) x1) 136 (((z_wI h 135 ((h.1 122 28).toNatClampNeg) x1).1 122 28).toNatClampNeg) x2).1 122 28) + 1)))) 10 rfl).trans ?_
  refine (z_X_if (g := z_in x1 8) (s' := (37, [(0, .ref 122), (1, .int x1), (2, .int x2)], [], (z_wI (z_wI (z_wI (z_wI h 135 ((h.1 122 28).toNatClampNeg) x1) 136 (((z_wI h 135 ((h.1 122 28).toNatClampNeg) x1).1 122 28).toNatClampNeg) x2) 122 28 (((z_wI (z_wI h 135 ((h.1 122 28).toNatClampNeg) x1) 136 (((z_wI h 135 ((h.1 122 28).toNatClampNeg) x1).1 122 28).toNatClampNeg) x2).1 122 28) + 1)) 134 (x1.toNatClampNeg) 1))) rfl).trans (z_bifA ?_)
  refine (z_X_steps (s' := (40, [(0, .ref 122), (1, .int x1), (2, .int x2)], [.int x1, .int 0, .ref 122], (z_wI (z_wI (z_wI (z_wI h 135 ((h.1 122 28).toNatClampNeg) x1) 136 (((z_wI h 135 ((h.1 122 28).toNatClampNeg) x1).1 122 28).toNatClampNeg) x2) 122 28 (((z_wI (z_wI h 135 ((h.1 122 28).toNatClampNeg) x1) 136 (((z_wI h 135 ((h.1 122 28).toNatClampNeg) x1).1 122 28).toNatClampNeg) x2).1 122 28) + 1)) 134 (x1.toNatClampNeg) 1))) 3 rfl).trans ?_
  refine (z_X_call (id := 168) (a := [.ref 122, .int 0, .int x1]) (c := 0) (s' := (43, [(0, .ref 122), (1, .int x1), (2, .int x2)], [], (z_wI (z_wI (z_wI (z_wI h 135 ((h.1 122 28).toNatClampNeg) x1) 136 (((z_wI h 135 ((h.1 122 28).toNatClampNeg) x1).1 122 28).toNatClampNeg) x2) 122 28 (((z_wI (z_wI h 135 ((h.1 122 28).toNatClampNeg) x1) 136 (((z_wI h 135 ((h.1 122 28).toNatClampNeg) x1).1 122 28).toNatClampNeg) x2).1 122 28) + 1)) 134 (x1.toNatClampNeg) 1))) rfl ⟨Nat.le_of_ble_eq_true rfl, Nat.le_of_ble_eq_true rfl⟩).trans ?_
  refine z_bdc fun r1 h2 => ?_
  refine (z_X_steps (s' := (45, [(3, .int 0), (0, .ref 122), (1, .int x1), (2, .int x2)], [], h2)) 2 rfl).trans ?_
  exact z_X_lab rfl
set_option maxRecDepth 8000 in
set_option maxHeartbeats 2000000 in
theorem e_M_comesNext_45 (x3 : Int32) (h : z_H) : zl_M_comesNext_45 x3 h = (if (216 : Int32) ≤ x3 then some (0, h) else (bif z_in x3 216 then (if ¬ h.1 133 (x3.toNatClampNeg) = 0 then (bif z_in x3 216 then zl_M_comesNext_45 (x3 + 1) (z_wI h 133 (x3.toNatClampNeg) 1) else none) else (bif z_in x3 216 then (if h.1 130 (x3.toNatClampNeg) = 0 then (bif z_in x3 216 then zl_M_comesNext_45 (x3 + 1) (z_wI h 133 (x3.toNatClampNeg) 0) else none) else (bif z_in x3 216 then (if h.1 131 (x3.toNatClampNeg) = 0 then (bif z_in x3 216 then zl_M_comesNext_45 (x3 + 1) (z_wI h 133 (x3.toNatClampNeg) 0) else none) else (bif z_in x3 216 then zl_M_comesNext_45 (x3 + 1) (z_wI h 133 (x3.toNatClampNeg) 1) else none)) else none)) else none)) else none)) := by
  show z_X zc_M_comesNext 8 (45, [(0, .ref 122), (3, .int x3)], [], h) = _
  refine (z_X_steps (s' := (49, [(0, .ref 122), (3, .int x3)], [.int 216, .int x3], h)) 2 rfl).trans ?_
  refine (z_X_br (c := (216 : Int32) ≤ x3) (s1 := (96, [(0, .ref 122), (3, .int x3)], [], h)) (s2 := (52, [(0, .ref 122), (3, .int x3)], [], h)) rfl).trans (z_ite ?_ ?_)
  · exact z_X_ret rfl
  · refine (z_X_steps (s' := (62, [(0, .ref 122), (3, .int x3)], [.int x3, .ref 133, .int x3, .ref 133], h)) 6 rfl).trans ?_
    refine (z_X_if (g := z_in x3 216) (s' := (63, [(0, .ref 122), (3, .int x3)], [.int (h.1 133 (x3.toNatClampNeg)), .int x3, .ref 133], h)) rfl).trans (z_bifA ?_)
    refine (z_X_br (c := ¬ h.1 133 (x3.toNatClampNeg) = 0) (s1 := (84, [(0, .ref 122), (3, .int x3)], [.int x3, .ref 133], h)) (s2 := (66, [(0, .ref 122), (3, .int x3)], [.int x3, .ref 133], h)) rfl).trans (z_ite ?_ ?_)
    · refine (z_X_steps (s' := (89, [(0, .ref 122), (3, .int x3)], [.int 1, .int x3, .ref 133], h)) 2 rfl).trans ?_
      refine (z_X_if (g := z_in x3 216) (s' := (90, [(0, .ref 122), (3, .int x3)], [], (z_wI h 133 (x3.toNatClampNeg) 1))) rfl).trans (z_bifA ?_)
      refine (z_X_steps (s' := (45, [(3, .int (x3 + 1)), (0, .ref 122)], [], (z_wI h 133 (x3.toNatClampNeg) 1))) 2 rfl).trans ?_
      exact z_X_lab rfl
    · refine (z_X_steps (s' := (71, [(0, .ref 122), (3, .int x3)], [.int x3, .ref 130, .int x3, .ref 133], h)) 3 rfl).trans ?_
      refine (z_X_if (g := z_in x3 216) (s' := (72, [(0, .ref 122), (3, .int x3)], [.int (h.1 130 (x3.toNatClampNeg)), .int x3, .ref 133], h)) rfl).trans (z_bifA ?_)
      refine (z_X_br (c := h.1 130 (x3.toNatClampNeg) = 0) (s1 := (88, [(0, .ref 122), (3, .int x3)], [.int x3, .ref 133], h)) (s2 := (75, [(0, .ref 122), (3, .int x3)], [.int x3, .ref 133], h)) rfl).trans (z_ite ?_ ?_)
      · refine (z_X_steps (s' := (89, [(0, .ref 122), (3, .int x3)], [.int 0, .int x3, .ref 133], h)) 1 rfl).trans ?_
        refine (z_X_if (g := z_in x3 216) (s' := (90, [(0, .ref 122), (3, .int x3)], [], (z_wI h 133 (x3.toNatClampNeg) 0))) rfl).trans (z_bifA ?_)
        refine (z_X_steps (s' := (45, [(3, .int (x3 + 1)), (0, .ref 122)], [], (z_wI h 133 (x3.toNatClampNeg) 0))) 2 rfl).trans ?_
        exact z_X_lab rfl
      · refine (z_X_steps (s' := (80, [(0, .ref 122), (3, .int x3)], [.int x3, .ref 131, .int x3, .ref 133], h)) 3 rfl).trans ?_
        refine (z_X_if (g := z_in x3 216) (s' := (81, [(0, .ref 122), (3, .int x3)], [.int (h.1 131 (x3.toNatClampNeg)), .int x3, .ref 133], h)) rfl).trans (z_bifA ?_)
        refine (z_X_br (c := h.1 131 (x3.toNatClampNeg) = 0) (s1 := (88, [(0, .ref 122), (3, .int x3)], [.int x3, .ref 133], h)) (s2 := (84, [(0, .ref 122), (3, .int x3)], [.int x3, .ref 133], h)) rfl).trans (z_ite ?_ ?_)
        · refine (z_X_steps (s' := (89, [(0, .ref 122), (3, .int x3)], [.int 0, .int x3, .ref 133], h)) 1 rfl).trans ?_
          refine (z_X_if (g := z_in x3 216) (s' := (90, [(0, .ref 122), (3, .int x3)], [], (z_wI h 133 (x3.toNatClampNeg) 0))) rfl).trans (z_bifA ?_)
          refine (z_X_steps (s' := (45, [(3, .int (x3 + 1)), (0, .ref 122)], [], (z_wI h 133 (x3.toNatClampNeg) 0))) 2 rfl).trans ?_
          exact z_X_lab rfl
        · refine (z_X_steps (s' := (89, [(0, .ref 122), (3, .int x3)], [.int 1, .int x3, .ref 133], h)) 2 rfl).trans ?_
          refine (z_X_if (g := z_in x3 216) (s' := (90, [(0, .ref 122), (3, .int x3)], [], (z_wI h 133 (x3.toNatClampNeg) 1))) rfl).trans (z_bifA ?_)
          refine (z_X_steps (s' := (45, [(3, .int (x3 + 1)), (0, .ref 122)], [], (z_wI h 133 (x3.toNatClampNeg) 1))) 2 rfl).trans ?_
          exact z_X_lab rfl
noncomputable def zl_M_rankOf_2 (x1 : Int32) (x2 : Int32) (h : z_H) : Option z_A := z_X zc_M_rankOf 1 (2, [(0, .ref 122), (1, .int x1), (2, .int x2)], [], h)
set_option maxRecDepth 8000 in
set_option maxHeartbeats 2000000 in
theorem e_M_rankOf (x1 : Int32) (h : z_H) : z_M 177 [.ref 122, .int x1] h = zl_M_rankOf_2 x1 0 h := by
  refine (z_M_eq (by decide)).trans ?_
  show z_X zc_M_rankOf 1 (0, [(0, .ref 122), (1, .int x1)], [], h) = _
  refine (z_X_steps (s' := (2, [(2, .int 0), (0, .ref 122), (1, .int x1)], [], h)) 2 rfl).trans ?_
  exact z_X_lab rfl
set_option maxRecDepth 8000 in
set_option maxHeartbeats 2000000 in
theorem e_M_rankOf_2 (x1 : Int32) (x2 : Int32) (h : z_H) : zl_M_rankOf_2 x1 x2 h = (if h.1 122 28 ≤ x2 then some ((-4), h) else (bif z_in x2 8 then (if ¬ h.1 135 (x2.toNatClampNeg) = x1 then zl_M_rankOf_2 x1 (x2 + 1) h else some (x2, h)) else none)) := by
  show z_X zc_M_rankOf 1 (2, [(0, .ref 122), (1, .int x1), (2, .int x2)], [], h) = _
  refine (z_X_steps (s' := (7, [(0, .ref 122), (1, .int x1), (2, .int x2)], [.int (h.1 122 28), .int x2], h)) 3 rfl).trans ?_
  refine (z_X_br (c := h.1 122 28 ≤ x2) (s1 := (28, [(0, .ref 122), (1, .int x1), (2, .int x2)], [], h)) (s2 := (10, [(0, .ref 122), (1, .int x1), (2, .int x2)], [], h)) rfl).trans (z_ite ?_ ?_)
  · refine (z_X_steps (s' := (30, [(0, .ref 122), (1, .int x1), (2, .int x2)], [.int (-4)], h)) 1 rfl).trans ?_
    exact z_X_ret rfl
  · refine (z_X_steps (s' := (15, [(0, .ref 122), (1, .int x1), (2, .int x2)], [.int x2, .ref 135], h)) 3 rfl).trans ?_
    refine (z_X_if (g := z_in x2 8) (s' := (16, [(0, .ref 122), (1, .int x1), (2, .int x2)], [.int (h.1 135 (x2.toNatClampNeg))], h)) rfl).trans (z_bifA ?_)
    refine (z_X_steps (s' := (17, [(0, .ref 122), (1, .int x1), (2, .int x2)], [.int x1, .int (h.1 135 (x2.toNatClampNeg))], h)) 1 rfl).trans ?_
    refine (z_X_br (c := ¬ h.1 135 (x2.toNatClampNeg) = x1) (s1 := (22, [(0, .ref 122), (1, .int x1), (2, .int x2)], [], h)) (s2 := (20, [(0, .ref 122), (1, .int x1), (2, .int x2)], [], h)) rfl).trans (z_ite ?_ ?_)
    · refine (z_X_steps (s' := (2, [(2, .int (x2 + 1)), (0, .ref 122), (1, .int x1)], [], h)) 2 rfl).trans ?_
      exact z_X_lab rfl
    · refine (z_X_steps (s' := (21, [(0, .ref 122), (1, .int x1), (2, .int x2)], [.int x2], h)) 1 rfl).trans ?_
      exact z_X_ret rfl
noncomputable def zl_M_nodesOfAll_4 (x1 : Int32) (x2 : Int32) (h : z_H) : Option z_A := z_X zc_M_nodesOfAll 1 (4, [(0, .ref 122), (1, .int x1), (2, .int x2)], [], h)
set_option maxRecDepth 8000 in
set_option maxHeartbeats 2000000 in
theorem e_M_nodesOfAll (h : z_H) : z_M 178 [.ref 122] h = zl_M_nodesOfAll_4 0 0 h := by
  refine (z_M_eq (by decide)).trans ?_
  show z_X zc_M_nodesOfAll 1 (0, [(0, .ref 122)], [], h) = _
  refine (z_X_steps (s' := (4, [(2, .int 0), (1, .int 0), (0, .ref 122)], [], h)) 4 rfl).trans ?_
  exact z_X_lab rfl
set_option maxRecDepth 8000 in
set_option maxHeartbeats 2000000 in
theorem e_M_nodesOfAll_4 (x1 : Int32) (x2 : Int32) (h : z_H) : zl_M_nodesOfAll_4 x1 x2 h = (if h.1 123 0 ≤ x2 then some (x1, h) else (bif z_in (7 + x2) 549 then zl_M_nodesOfAll_4 (x1 + (h.1 123 ((7 + x2).toNatClampNeg))) (x2 + 1) h else none)) := by
  show z_X zc_M_nodesOfAll 1 (4, [(0, .ref 122), (1, .int x1), (2, .int x2)], [], h) = _
  refine (z_X_steps (s' := (11, [(0, .ref 122), (1, .int x1), (2, .int x2)], [.int (h.1 123 0), .int x2], h)) 5 rfl).trans ?_
  refine (z_X_br (c := h.1 123 0 ≤ x2) (s1 := (32, [(0, .ref 122), (1, .int x1), (2, .int x2)], [], h)) (s2 := (14, [(0, .ref 122), (1, .int x1), (2, .int x2)], [], h)) rfl).trans (z_ite ?_ ?_)
  · refine (z_X_steps (s' := (33, [(0, .ref 122), (1, .int x1), (2, .int x2)], [.int x1], h)) 1 rfl).trans ?_
    exact z_X_ret rfl
  · refine (z_X_steps (s' := (23, [(0, .ref 122), (1, .int x1), (2, .int x2)], [.int (7 + x2), .ref 123, .int x1], h)) 6 rfl).trans ?_
    refine (z_X_if (g := z_in (7 + x2) 549) (s' := (24, [(0, .ref 122), (1, .int x1), (2, .int x2)], [.int (h.1 123 ((7 + x2).toNatClampNeg)), .int x1], h)) rfl).trans (z_bifA ?_)
    refine (z_X_steps (s' := (4, [(2, .int (x2 + 1)), (1, .int (x1 + (h.1 123 ((7 + x2).toNatClampNeg)))), (0, .ref 122)], [], h)) 4 rfl).trans ?_
    exact z_X_lab rfl
noncomputable def zl_M_costsChosen_8 (x1 : Int32) (x2 : Int32) (h : z_H) : Option z_A := z_X zc_M_costsChosen 10 (8, [(0, .ref 122), (1, .int x1), (2, .int x2)], [], h)
set_option maxRecDepth 8000 in
set_option maxHeartbeats 2000000 in
theorem e_M_costsChosen (h : z_H) : z_M 179 [.ref 122] h = z_bd (z_M 175 [.ref 122] h) (fun r1 h2 => zl_M_costsChosen_8 0 0 h2) := by
  refine (z_M_eq (by decide)).trans ?_
  show z_X zc_M_costsChosen 10 (0, [(0, .ref 122)], [], h) = _
  refine (z_X_steps (s' := (1, [(0, .ref 122)], [.ref 122], h)) 1 rfl).trans ?_
  refine (z_X_call (id := 175) (a := [.ref 122]) (c := 0) (s' := (4, [(0, .ref 122)], [], h)) rfl ⟨Nat.le_of_ble_eq_true rfl, Nat.le_of_ble_eq_true rfl⟩).trans ?_
  refine z_bdc fun r1 h2 => ?_
  refine (z_X_steps (s' := (8, [(2, .int 0), (1, .int 0), (0, .ref 122)], [], h2)) 4 rfl).trans ?_
  exact z_X_lab rfl
set_option maxRecDepth 8000 in
set_option maxHeartbeats 2000000 in
theorem e_M_costsChosen_8 (x1 : Int32) (x2 : Int32) (h : z_H) : zl_M_costsChosen_8 x1 x2 h = (if h.1 122 28 ≤ x2 then some (x1, h) else (bif z_in x2 8 then z_bd (z_M 167 [.ref 122, .int (h.1 135 (x2.toNatClampNeg)), .int 2] h) (fun r1 h2 => zl_M_costsChosen_8 (x1 + r1) (x2 + 1) h2) else none)) := by
  show z_X zc_M_costsChosen 10 (8, [(0, .ref 122), (1, .int x1), (2, .int x2)], [], h) = _
  refine (z_X_steps (s' := (13, [(0, .ref 122), (1, .int x1), (2, .int x2)], [.int (h.1 122 28), .int x2], h)) 3 rfl).trans ?_
  refine (z_X_br (c := h.1 122 28 ≤ x2) (s1 := (36, [(0, .ref 122), (1, .int x1), (2, .int x2)], [], h)) (s2 := (16, [(0, .ref 122), (1, .int x1), (2, .int x2)], [], h)) rfl).trans (z_ite ?_ ?_)
  · refine (z_X_steps (s' := (37, [(0, .ref 122), (1, .int x1), (2, .int x2)], [.int x1], h)) 1 rfl).trans ?_
    exact z_X_ret rfl
  · refine (z_X_steps (s' := (23, [(0, .ref 122), (1, .int x1), (2, .int x2)], [.int x2, .ref 135, .ref 122, .int x1], h)) 5 rfl).trans ?_
    refine (z_X_if (g := z_in x2 8) (s' := (24, [(0, .ref 122), (1, .int x1), (2, .int x2)], [.int (h.1 135 (x2.toNatClampNeg)), .ref 122, .int x1], h)) rfl).trans (z_bifA ?_)
    refine (z_X_steps (s' := (25, [(0, .ref 122), (1, .int x1), (2, .int x2)], [.int 2, .int (h.1 135 (x2.toNatClampNeg)), .ref 122, .int x1], h)) 1 rfl).trans ?_
    refine (z_X_call (id := 167) (a := [.ref 122, .int (h.1 135 (x2.toNatClampNeg)), .int 2]) (c := 1) (s' := (28, [(0, .ref 122), (1, .int x1), (2, .int x2)], [.int x1], h)) rfl ⟨Nat.le_of_ble_eq_true rfl, Nat.le_of_ble_eq_true rfl⟩).trans ?_
    refine z_bdc fun r1 h2 => ?_
    refine (z_X_steps (s' := (8, [(2, .int (x2 + 1)), (1, .int (x1 + r1)), (0, .ref 122)], [], h2)) 4 rfl).trans ?_
    exact z_X_lab rfl
set_option maxRecDepth 8000 in
set_option maxHeartbeats 2000000 in
theorem e_M_chosen (h : z_H) : z_M 180 [.ref 122] h = z_bd (z_M 175 [.ref 122] h) (fun r1 h2 => some (h2.1 122 28, h2)) := by
  refine (z_M_eq (by decide)).trans ?_
  show z_X zc_M_chosen 10 (0, [(0, .ref 122)], [], h) = _
  refine (z_X_steps (s' := (1, [(0, .ref 122)], [.ref 122], h)) 1 rfl).trans ?_
  refine (z_X_call (id := 175) (a := [.ref 122]) (c := 0) (s' := (4, [(0, .ref 122)], [], h)) rfl ⟨Nat.le_of_ble_eq_true rfl, Nat.le_of_ble_eq_true rfl⟩).trans ?_
  refine z_bdc fun r1 h2 => ?_
  refine (z_X_steps (s' := (8, [(0, .ref 122)], [.int (h2.1 122 28)], h2)) 2 rfl).trans ?_
  exact z_X_ret rfl
set_option maxRecDepth 8000 in
set_option maxHeartbeats 2000000 in
theorem e_M_areSame (x1 : Int32) (x2 : Int32) (h : z_H) : z_M 181 [.ref 122, .int x1, .int x2] h = z_bd (z_M 166 [.ref 122, .int 0, .int x1, .int x2] h) (fun r1 h2 => z_bd (z_M 166 [.ref 122, .int 1, .int x1, .int x2] h2) (fun r3 h4 => (if ¬ h2.1 122 19 = h4.1 122 19 then some (0, h4) else some (1, h4)))) := by
  refine (z_M_eq (by decide)).trans ?_
  show z_X zc_M_areSame 7 (0, [(0, .ref 122), (1, .int x1), (2, .int x2)], [], h) = _
  refine (z_X_steps (s' := (4, [(0, .ref 122), (1, .int x1), (2, .int x2)], [.int x2, .int x1, .int 0, .ref 122], h)) 4 rfl).trans ?_
  refine (z_X_call (id := 166) (a := [.ref 122, .int 0, .int x1, .int x2]) (c := 0) (s' := (7, [(0, .ref 122), (1, .int x1), (2, .int x2)], [], h)) rfl ⟨Nat.le_of_ble_eq_true rfl, Nat.le_of_ble_eq_true rfl⟩).trans ?_
  refine z_bdc fun r1 h2 => ?_
  refine (z_X_steps (s' := (16, [(3, .int (h2.1 122 19)), (0, .ref 122), (1, .int x1), (2, .int x2)], [.int x2, .int x1, .int 1, .ref 122], h2)) 7 rfl).trans ?_
  refine (z_X_call (id := 166) (a := [.ref 122, .int 1, .int x1, .int x2]) (c := 0) (s' := (19, [(3, .int (h2.1 122 19)), (0, .ref 122), (1, .int x1), (2, .int x2)], [], h2)) rfl ⟨Nat.le_of_ble_eq_true rfl, Nat.le_of_ble_eq_true rfl⟩).trans ?_
  refine z_bdc fun r3 h4 => ?_
  refine (z_X_steps (s' := (24, [(3, .int (h2.1 122 19)), (0, .ref 122), (1, .int x1), (2, .int x2)], [.int (h4.1 122 19), .int (h2.1 122 19)], h4)) 3 rfl).trans ?_
  refine (z_X_br (c := ¬ h2.1 122 19 = h4.1 122 19) (s1 := (31, [(3, .int (h2.1 122 19)), (0, .ref 122), (1, .int x1), (2, .int x2)], [], h4)) (s2 := (27, [(3, .int (h2.1 122 19)), (0, .ref 122), (1, .int x1), (2, .int x2)], [], h4)) rfl).trans (z_ite ?_ ?_)
  · refine (z_X_steps (s' := (32, [(3, .int (h2.1 122 19)), (0, .ref 122), (1, .int x1), (2, .int x2)], [.int 0], h4)) 1 rfl).trans ?_
    exact z_X_ret rfl
  · refine (z_X_steps (s' := (32, [(3, .int (h2.1 122 19)), (0, .ref 122), (1, .int x1), (2, .int x2)], [.int 1], h4)) 2 rfl).trans ?_
    exact z_X_ret rfl
noncomputable def zl_M_others_4 (x1 : Int32) (x2 : Int32) (h : z_H) : Option z_A := z_X zc_M_others 8 (4, [(0, .ref 122), (1, .int x1), (2, .int x2)], [], h)
set_option maxRecDepth 8000 in
set_option maxHeartbeats 2000000 in
theorem e_M_others (h : z_H) : z_M 182 [.ref 122] h = zl_M_others_4 0 0 h := by
  refine (z_M_eq (by decide)).trans ?_
  show z_X zc_M_others 8 (0, [(0, .ref 122)], [], h) = _
  refine (z_X_steps (s' := (4, [(2, .int 0), (1, .int 0), (0, .ref 122)], [], h)) 4 rfl).trans ?_
  exact z_X_lab rfl
set_option maxRecDepth 8000 in
set_option maxHeartbeats 2000000 in
theorem e_M_others_4 (x1 : Int32) (x2 : Int32) (h : z_H) : zl_M_others_4 x1 x2 h = (if h.1 123 2 ≤ x2 then some (x1, h) else z_bd (z_M 167 [.ref 122, .int x2, .int 0] h) (fun r1 h2 => z_bd (z_M 167 [.ref 122, .int x2, .int 1] h2) (fun r3 h4 => z_bd (z_M 181 [.ref 122, .int r1, .int r3] h4) (fun r5 h6 => (if ¬ r5 = 0 then z_bd (z_M 128 [.int 0] h6) (fun r7 h8 => zl_M_others_4 (x1 + r7) (x2 + 1) h8) else z_bd (z_M 128 [.int 1] h6) (fun r9 h10 => zl_M_others_4 (x1 + r9) (x2 + 1) h10)))))) := by
  show z_X zc_M_others 8 (4, [(0, .ref 122), (1, .int x1), (2, .int x2)], [], h) = _
  refine (z_X_steps (s' := (11, [(0, .ref 122), (1, .int x1), (2, .int x2)], [.int (h.1 123 2), .int x2], h)) 5 rfl).trans ?_
  refine (z_X_br (c := h.1 123 2 ≤ x2) (s1 := (50, [(0, .ref 122), (1, .int x1), (2, .int x2)], [], h)) (s2 := (14, [(0, .ref 122), (1, .int x1), (2, .int x2)], [], h)) rfl).trans (z_ite ?_ ?_)
  · refine (z_X_steps (s' := (51, [(0, .ref 122), (1, .int x1), (2, .int x2)], [.int x1], h)) 1 rfl).trans ?_
    exact z_X_ret rfl
  · refine (z_X_steps (s' := (19, [(0, .ref 122), (1, .int x1), (2, .int x2)], [.int 0, .int x2, .ref 122, .ref 122, .int x1], h)) 5 rfl).trans ?_
    refine (z_X_call (id := 167) (a := [.ref 122, .int x2, .int 0]) (c := 1) (s' := (22, [(0, .ref 122), (1, .int x1), (2, .int x2)], [.ref 122, .int x1], h)) rfl ⟨Nat.le_of_ble_eq_true rfl, Nat.le_of_ble_eq_true rfl⟩).trans ?_
    refine z_bdc fun r1 h2 => ?_
    refine (z_X_steps (s' := (25, [(0, .ref 122), (1, .int x1), (2, .int x2)], [.int 1, .int x2, .ref 122, .int r1, .ref 122, .int x1], h2)) 3 rfl).trans ?_
    refine (z_X_call (id := 167) (a := [.ref 122, .int x2, .int 1]) (c := 1) (s' := (28, [(0, .ref 122), (1, .int x1), (2, .int x2)], [.int r1, .ref 122, .int x1], h2)) rfl ⟨Nat.le_of_ble_eq_true rfl, Nat.le_of_ble_eq_true rfl⟩).trans ?_
    refine z_bdc fun r3 h4 => ?_
    refine (z_X_call (id := 181) (a := [.ref 122, .int r1, .int r3]) (c := 1) (s' := (31, [(0, .ref 122), (1, .int x1), (2, .int x2)], [.int x1], h4)) rfl ⟨Nat.le_of_ble_eq_true rfl, Nat.le_of_ble_eq_true rfl⟩).trans ?_
    refine z_bdc fun r5 h6 => ?_
    refine (z_X_br (c := ¬ r5 = 0) (s1 := (38, [(0, .ref 122), (1, .int x1), (2, .int x2)], [.int x1], h6)) (s2 := (34, [(0, .ref 122), (1, .int x1), (2, .int x2)], [.int x1], h6)) rfl).trans (z_ite ?_ ?_)
    · refine (z_X_steps (s' := (39, [(0, .ref 122), (1, .int x1), (2, .int x2)], [.int 0, .int x1], h6)) 1 rfl).trans ?_
      refine (z_X_call (id := 128) (a := [.int 0]) (c := 1) (s' := (42, [(0, .ref 122), (1, .int x1), (2, .int x2)], [.int x1], h6)) rfl ⟨Nat.le_of_ble_eq_true rfl, Nat.le_of_ble_eq_true rfl⟩).trans ?_
      refine z_bdc fun r7 h8 => ?_
      refine (z_X_steps (s' := (4, [(2, .int (x2 + 1)), (1, .int (x1 + r7)), (0, .ref 122)], [], h8)) 4 rfl).trans ?_
      exact z_X_lab rfl
    · refine (z_X_steps (s' := (39, [(0, .ref 122), (1, .int x1), (2, .int x2)], [.int 1, .int x1], h6)) 2 rfl).trans ?_
      refine (z_X_call (id := 128) (a := [.int 1]) (c := 1) (s' := (42, [(0, .ref 122), (1, .int x1), (2, .int x2)], [.int x1], h6)) rfl ⟨Nat.le_of_ble_eq_true rfl, Nat.le_of_ble_eq_true rfl⟩).trans ?_
      refine z_bdc fun r9 h10 => ?_
      refine (z_X_steps (s' := (4, [(2, .int (x2 + 1)), (1, .int (x1 + r9)), (0, .ref 122)], [], h10)) 4 rfl).trans ?_
      exact z_X_lab rfl
set_option maxRecDepth 8000 in
set_option maxHeartbeats 2000000 in
theorem e_M_rule (x1 : Int32) (h : z_H) : z_M 183 [.ref 122, .int x1] h = (if x1 = 0 then some (h.1 123 0, h) else (if x1 = 1 then z_bd (z_M 178 [.ref 122] h) (fun r1 h2 => some (r1, h2)) else (if x1 = 2 then some (h.1 123 1, h) else (if x1 = 3 then some (h.1 123 2, h) else (if x1 = 4 then z_bd (z_M 173 [.ref 122] h) (fun r3 h4 => some (r3, h4)) else (if x1 = 5 then z_bd (z_M 180 [.ref 122] h) (fun r5 h6 => some (r5, h6)) else (if x1 = 6 then z_bd (z_M 179 [.ref 122] h) (fun r7 h8 => some (r7, h8)) else (if x1 = 7 then z_bd (z_M 182 [.ref 122] h) (fun r9 h10 => some (r9, h10)) else some ((-1), h))))))))) := by
  refine (z_M_eq (by decide)).trans ?_
  show z_X zc_M_rule 11 (0, [(0, .ref 122), (1, .int x1)], [], h) = _
  refine (z_X_steps (s' := (1, [(0, .ref 122), (1, .int x1)], [.int x1], h)) 1 rfl).trans ?_
  refine (z_X_sw (d := (94, [(0, .ref 122), (1, .int x1)], [], h)) (x := x1) (lo := [(0, .ref 122), (1, .int x1)]) (stk := []) (h := h) (sw := [(0, 48), (1, 55), (2, 60), (3, 67), (4, 74), (5, 79), (6, 84), (7, 89)]) rfl).trans ?_
  refine z_ite ?_ ?_
  · refine (z_X_steps (s' := (54, [(0, .ref 122), (1, .int x1)], [.int (h.1 123 0)], h)) 4 rfl).trans ?_
    exact z_X_ret rfl
  refine z_ite ?_ ?_
  · refine (z_X_steps (s' := (56, [(0, .ref 122), (1, .int x1)], [.ref 122], h)) 1 rfl).trans ?_
    refine (z_X_call (id := 178) (a := [.ref 122]) (c := 1) (s' := (59, [(0, .ref 122), (1, .int x1)], [], h)) rfl ⟨Nat.le_of_ble_eq_true rfl, Nat.le_of_ble_eq_true rfl⟩).trans ?_
    refine z_bdc fun r1 h2 => ?_
    exact z_X_ret rfl
  refine z_ite ?_ ?_
  · refine (z_X_steps (s' := (66, [(0, .ref 122), (1, .int x1)], [.int (h.1 123 1)], h)) 4 rfl).trans ?_
    exact z_X_ret rfl
  refine z_ite ?_ ?_
  · refine (z_X_steps (s' := (73, [(0, .ref 122), (1, .int x1)], [.int (h.1 123 2)], h)) 4 rfl).trans ?_
    exact z_X_ret rfl
  refine z_ite ?_ ?_
  · refine (z_X_steps (s' := (75, [(0, .ref 122), (1, .int x1)], [.ref 122], h)) 1 rfl).trans ?_
    refine (z_X_call (id := 173) (a := [.ref 122]) (c := 1) (s' := (78, [(0, .ref 122), (1, .int x1)], [], h)) rfl ⟨Nat.le_of_ble_eq_true rfl, Nat.le_of_ble_eq_true rfl⟩).trans ?_
    refine z_bdc fun r3 h4 => ?_
    exact z_X_ret rfl
  refine z_ite ?_ ?_
  · refine (z_X_steps (s' := (80, [(0, .ref 122), (1, .int x1)], [.ref 122], h)) 1 rfl).trans ?_
    refine (z_X_call (id := 180) (a := [.ref 122]) (c := 1) (s' := (83, [(0, .ref 122), (1, .int x1)], [], h)) rfl ⟨Nat.le_of_ble_eq_true rfl, Nat.le_of_ble_eq_true rfl⟩).trans ?_
    refine z_bdc fun r5 h6 => ?_
    exact z_X_ret rfl
  refine z_ite ?_ ?_
  · refine (z_X_steps (s' := (85, [(0, .ref 122), (1, .int x1)], [.ref 122], h)) 1 rfl).trans ?_
    refine (z_X_call (id := 179) (a := [.ref 122]) (c := 1) (s' := (88, [(0, .ref 122), (1, .int x1)], [], h)) rfl ⟨Nat.le_of_ble_eq_true rfl, Nat.le_of_ble_eq_true rfl⟩).trans ?_
    refine z_bdc fun r7 h8 => ?_
    exact z_X_ret rfl
  refine z_ite ?_ ?_
  · refine (z_X_steps (s' := (90, [(0, .ref 122), (1, .int x1)], [.ref 122], h)) 1 rfl).trans ?_
    refine (z_X_call (id := 182) (a := [.ref 122]) (c := 1) (s' := (93, [(0, .ref 122), (1, .int x1)], [], h)) rfl ⟨Nat.le_of_ble_eq_true rfl, Nat.le_of_ble_eq_true rfl⟩).trans ?_
    refine z_bdc fun r9 h10 => ?_
    exact z_X_ret rfl
  refine (z_X_steps (s' := (95, [(0, .ref 122), (1, .int x1)], [.int (-1)], h)) 1 rfl).trans ?_
  exact z_X_ret rfl
set_option maxRecDepth 8000 in
set_option maxHeartbeats 2000000 in
theorem e_M_node (x1 : Int32) (x2 : Int32) (x3 : Int32) (h : z_H) : z_M 184 [.ref 122, .int x1, .int x2, .int x3] h = z_bd (z_M 153 [.ref 122, .int x1, .int x2] h) (fun r1 h2 => (if r1 = 0 then some ((-1), h2) else z_bd (z_M 127 [.long (x3.toInt64), .long ((0 : Int32).toInt64), .long ((14 : Int32).toInt64)] h2) (fun r3 h4 => (if r3 = 0 then some ((-1), h4) else (if x3 - x3 / 10 * 10 ≤ 4 then (if (3 : Int32) ≤ x3 - x3 / 10 * 10 then z_bd (z_M 158 [.ref 122, .int (x3 / 10), .int x1, .int x2, .int 2] h4) (fun r5 h6 => (if r5 ≤ (x3 - x3 / 10 * 10) - 3 then some ((-4), h6) else z_bd (z_M 158 [.ref 122, .int (x3 / 10), .int x1, .int x2, .int (x3 - x3 / 10 * 10)] h6) (fun r7 h8 => some (r7, h8)))) else z_bd (z_M 158 [.ref 122, .int (x3 / 10), .int x1, .int x2, .int (x3 - x3 / 10 * 10)] h4) (fun r9 h10 => some (r9, h10))) else some ((-1), h4)))))) := by
  refine (z_M_eq (by decide)).trans ?_
  show z_X zc_M_node 4 (0, [(0, .ref 122), (1, .int x1), (2, .int x2), (3, .int x3)], [], h) = _
  refine (z_X_steps (s' := (9, [(4, .int (x3 - x3 / 10 * 10)), (0, .ref 122), (1, .int x1), (2, .int x2), (3, .int x3)], [.int x2, .int x1, .ref 122], h)) 7 rfl).trans ?_
  refine (z_X_call (id := 153) (a := [.ref 122, .int x1, .int x2]) (c := 1) (s' := (12, [(4, .int (x3 - x3 / 10 * 10)), (0, .ref 122), (1, .int x1), (2, .int x2), (3, .int x3)], [], h)) rfl ⟨Nat.le_of_ble_eq_true rfl, Nat.le_of_ble_eq_true rfl⟩).trans ?_
  refine z_bdc fun r1 h2 => ?_
  refine (z_X_br (c := r1 = 0) (s1 := (33, [(4, .int (x3 - x3 / 10 * 10)), (0, .ref 122), (1, .int x1), (2, .int x2), (3, .int x3)], [], h2)) (s2 := (15, [(4, .int (x3 - x3 / 10 * 10)), (0, .ref 122), (1, .int x1), (2, .int x2), (3, .int x3)], [], h2)) rfl).trans (z_ite ?_ ?_)
  · refine (z_X_steps (s' := (34, [(4, .int (x3 - x3 / 10 * 10)), (0, .ref 122), (1, .int x1), (2, .int x2), (3, .int x3)], [.int (-1)], h2)) 1 rfl).trans ?_
    exact z_X_ret rfl
  · refine (z_X_steps (s' := (21, [(4, .int (x3 - x3 / 10 * 10)), (0, .ref 122), (1, .int x1), (2, .int x2), (3, .int x3)], [.long ((14 : Int32).toInt64), .long ((0 : Int32).toInt64), .long (x3.toInt64)], h2)) 4 rfl).trans ?_
    refine (z_X_call (id := 127) (a := [.long (x3.toInt64), .long ((0 : Int32).toInt64), .long ((14 : Int32).toInt64)]) (c := 1) (s' := (24, [(4, .int (x3 - x3 / 10 * 10)), (0, .ref 122), (1, .int x1), (2, .int x2), (3, .int x3)], [], h2)) rfl ⟨Nat.le_of_ble_eq_true rfl, Nat.le_of_ble_eq_true rfl⟩).trans ?_
    refine z_bdc fun r3 h4 => ?_
    refine (z_X_br (c := r3 = 0) (s1 := (33, [(4, .int (x3 - x3 / 10 * 10)), (0, .ref 122), (1, .int x1), (2, .int x2), (3, .int x3)], [], h4)) (s2 := (27, [(4, .int (x3 - x3 / 10 * 10)), (0, .ref 122), (1, .int x1), (2, .int x2), (3, .int x3)], [], h4)) rfl).trans (z_ite ?_ ?_)
    · refine (z_X_steps (s' := (34, [(4, .int (x3 - x3 / 10 * 10)), (0, .ref 122), (1, .int x1), (2, .int x2), (3, .int x3)], [.int (-1)], h4)) 1 rfl).trans ?_
      exact z_X_ret rfl
    · refine (z_X_steps (s' := (30, [(4, .int (x3 - x3 / 10 * 10)), (0, .ref 122), (1, .int x1), (2, .int x2), (3, .int x3)], [.int 4, .int (x3 - x3 / 10 * 10)], h4)) 2 rfl).trans ?_
      refine (z_X_br (c := x3 - x3 / 10 * 10 ≤ 4) (s1 := (35, [(4, .int (x3 - x3 / 10 * 10)), (0, .ref 122), (1, .int x1), (2, .int x2), (3, .int x3)], [], h4)) (s2 := (33, [(4, .int (x3 - x3 / 10 * 10)), (0, .ref 122), (1, .int x1), (2, .int x2), (3, .int x3)], [], h4)) rfl).trans (z_ite ?_ ?_)
      · refine (z_X_steps (s' := (44, [(5, .int (x3 / 10)), (4, .int (x3 - x3 / 10 * 10)), (0, .ref 122), (1, .int x1), (2, .int x2), (3, .int x3)], [.int 3, .int (x3 - x3 / 10 * 10)], h4)) 6 rfl).trans ?_
        refine (z_X_br (c := (3 : Int32) ≤ x3 - x3 / 10 * 10) (s1 := (58, [(5, .int (x3 / 10)), (4, .int (x3 - x3 / 10 * 10)), (0, .ref 122), (1, .int x1), (2, .int x2), (3, .int x3)], [], h4)) (s2 := (47, [(5, .int (x3 / 10)), (4, .int (x3 - x3 / 10 * 10)), (0, .ref 122), (1, .int x1), (2, .int x2), (3, .int x3)], [], h4)) rfl).trans (z_ite ?_ ?_)
        · refine (z_X_steps (s' := (68, [(5, .int (x3 / 10)), (4, .int (x3 - x3 / 10 * 10)), (0, .ref 122), (1, .int x1), (2, .int x2), (3, .int x3)], [.int 2, .int x2, .int x1, .int (x3 / 10), .ref 122, .int ((x3 - x3 / 10 * 10) - 3)], h4)) 8 rfl).trans ?_
          refine (z_X_call (id := 158) (a := [.ref 122, .int (x3 / 10), .int x1, .int x2, .int 2]) (c := 1) (s' := (71, [(5, .int (x3 / 10)), (4, .int (x3 - x3 / 10 * 10)), (0, .ref 122), (1, .int x1), (2, .int x2), (3, .int x3)], [.int ((x3 - x3 / 10 * 10) - 3)], h4)) rfl ⟨Nat.le_of_ble_eq_true rfl, Nat.le_of_ble_eq_true rfl⟩).trans ?_
          refine z_bdc fun r5 h6 => ?_
          refine (z_X_br (c := r5 ≤ (x3 - x3 / 10 * 10) - 3) (s1 := (87, [(5, .int (x3 / 10)), (4, .int (x3 - x3 / 10 * 10)), (0, .ref 122), (1, .int x1), (2, .int x2), (3, .int x3)], [], h6)) (s2 := (74, [(5, .int (x3 / 10)), (4, .int (x3 - x3 / 10 * 10)), (0, .ref 122), (1, .int x1), (2, .int x2), (3, .int x3)], [], h6)) rfl).trans (z_ite ?_ ?_)
          · refine (z_X_steps (s' := (89, [(5, .int (x3 / 10)), (4, .int (x3 - x3 / 10 * 10)), (0, .ref 122), (1, .int x1), (2, .int x2), (3, .int x3)], [.int (-4)], h6)) 1 rfl).trans ?_
            exact z_X_ret rfl
          · refine (z_X_steps (s' := (81, [(5, .int (x3 / 10)), (4, .int (x3 - x3 / 10 * 10)), (0, .ref 122), (1, .int x1), (2, .int x2), (3, .int x3)], [.int (x3 - x3 / 10 * 10), .int x2, .int x1, .int (x3 / 10), .ref 122], h6)) 5 rfl).trans ?_
            refine (z_X_call (id := 158) (a := [.ref 122, .int (x3 / 10), .int x1, .int x2, .int (x3 - x3 / 10 * 10)]) (c := 1) (s' := (84, [(5, .int (x3 / 10)), (4, .int (x3 - x3 / 10 * 10)), (0, .ref 122), (1, .int x1), (2, .int x2), (3, .int x3)], [], h6)) rfl ⟨Nat.le_of_ble_eq_true rfl, Nat.le_of_ble_eq_true rfl⟩).trans ?_
            refine z_bdc fun r7 h8 => ?_
            refine (z_X_steps (s' := (89, [(5, .int (x3 / 10)), (4, .int (x3 - x3 / 10 * 10)), (0, .ref 122), (1, .int x1), (2, .int x2), (3, .int x3)], [.int r7], h8)) 1 rfl).trans ?_
            exact z_X_ret rfl
        · refine (z_X_steps (s' := (54, [(5, .int (x3 / 10)), (4, .int (x3 - x3 / 10 * 10)), (0, .ref 122), (1, .int x1), (2, .int x2), (3, .int x3)], [.int (x3 - x3 / 10 * 10), .int x2, .int x1, .int (x3 / 10), .ref 122], h4)) 5 rfl).trans ?_
          refine (z_X_call (id := 158) (a := [.ref 122, .int (x3 / 10), .int x1, .int x2, .int (x3 - x3 / 10 * 10)]) (c := 1) (s' := (57, [(5, .int (x3 / 10)), (4, .int (x3 - x3 / 10 * 10)), (0, .ref 122), (1, .int x1), (2, .int x2), (3, .int x3)], [], h4)) rfl ⟨Nat.le_of_ble_eq_true rfl, Nat.le_of_ble_eq_true rfl⟩).trans ?_
          refine z_bdc fun r9 h10 => ?_
          exact z_X_ret rfl
      · refine (z_X_steps (s' := (34, [(4, .int (x3 - x3 / 10 * 10)), (0, .ref 122), (1, .int x1), (2, .int x2), (3, .int x3)], [.int (-1)], h4)) 1 rfl).trans ?_
        exact z_X_ret rfl
set_option maxRecDepth 8000 in
set_option maxHeartbeats 2000000 in
theorem e_M_meant (x1 : Int32) (x2 : Int32) (x3 : Int32) (h : z_H) : z_M 185 [.ref 122, .int x1, .int x2, .int x3] h = z_bd (z_M 154 [.ref 122, .int x1] h) (fun r1 h2 => (if r1 = 0 then some ((-1), h2) else z_bd (z_M 155 [.int x2] h2) (fun r3 h4 => (if r3 = 0 then some ((-1), h4) else z_bd (z_M 157 [.int x3] h4) (fun r5 h6 => (if r5 = 0 then some ((-1), h6) else z_bd (z_M 159 [.ref 122, .int x3, .int x1, .int x2] h6) (fun r7 h8 => some (r7, h8)))))))) := by
  refine (z_M_eq (by decide)).trans ?_
  show z_X zc_M_meant 3 (0, [(0, .ref 122), (1, .int x1), (2, .int x2), (3, .int x3)], [], h) = _
  refine (z_X_steps (s' := (2, [(0, .ref 122), (1, .int x1), (2, .int x2), (3, .int x3)], [.int x1, .ref 122], h)) 2 rfl).trans ?_
  refine (z_X_call (id := 154) (a := [.ref 122, .int x1]) (c := 1) (s' := (5, [(0, .ref 122), (1, .int x1), (2, .int x2), (3, .int x3)], [], h)) rfl ⟨Nat.le_of_ble_eq_true rfl, Nat.le_of_ble_eq_true rfl⟩).trans ?_
  refine z_bdc fun r1 h2 => ?_
  refine (z_X_br (c := r1 = 0) (s1 := (32, [(0, .ref 122), (1, .int x1), (2, .int x2), (3, .int x3)], [], h2)) (s2 := (8, [(0, .ref 122), (1, .int x1), (2, .int x2), (3, .int x3)], [], h2)) rfl).trans (z_ite ?_ ?_)
  · refine (z_X_steps (s' := (33, [(0, .ref 122), (1, .int x1), (2, .int x2), (3, .int x3)], [.int (-1)], h2)) 1 rfl).trans ?_
    exact z_X_ret rfl
  · refine (z_X_steps (s' := (9, [(0, .ref 122), (1, .int x1), (2, .int x2), (3, .int x3)], [.int x2], h2)) 1 rfl).trans ?_
    refine (z_X_call (id := 155) (a := [.int x2]) (c := 1) (s' := (12, [(0, .ref 122), (1, .int x1), (2, .int x2), (3, .int x3)], [], h2)) rfl ⟨Nat.le_of_ble_eq_true rfl, Nat.le_of_ble_eq_true rfl⟩).trans ?_
    refine z_bdc fun r3 h4 => ?_
    refine (z_X_br (c := r3 = 0) (s1 := (32, [(0, .ref 122), (1, .int x1), (2, .int x2), (3, .int x3)], [], h4)) (s2 := (15, [(0, .ref 122), (1, .int x1), (2, .int x2), (3, .int x3)], [], h4)) rfl).trans (z_ite ?_ ?_)
    · refine (z_X_steps (s' := (33, [(0, .ref 122), (1, .int x1), (2, .int x2), (3, .int x3)], [.int (-1)], h4)) 1 rfl).trans ?_
      exact z_X_ret rfl
    · refine (z_X_steps (s' := (16, [(0, .ref 122), (1, .int x1), (2, .int x2), (3, .int x3)], [.int x3], h4)) 1 rfl).trans ?_
      refine (z_X_call (id := 157) (a := [.int x3]) (c := 1) (s' := (19, [(0, .ref 122), (1, .int x1), (2, .int x2), (3, .int x3)], [], h4)) rfl ⟨Nat.le_of_ble_eq_true rfl, Nat.le_of_ble_eq_true rfl⟩).trans ?_
      refine z_bdc fun r5 h6 => ?_
      refine (z_X_br (c := r5 = 0) (s1 := (32, [(0, .ref 122), (1, .int x1), (2, .int x2), (3, .int x3)], [], h6)) (s2 := (22, [(0, .ref 122), (1, .int x1), (2, .int x2), (3, .int x3)], [], h6)) rfl).trans (z_ite ?_ ?_)
      · refine (z_X_steps (s' := (33, [(0, .ref 122), (1, .int x1), (2, .int x2), (3, .int x3)], [.int (-1)], h6)) 1 rfl).trans ?_
        exact z_X_ret rfl
      · refine (z_X_steps (s' := (26, [(0, .ref 122), (1, .int x1), (2, .int x2), (3, .int x3)], [.int x2, .int x1, .int x3, .ref 122], h6)) 4 rfl).trans ?_
        refine (z_X_call (id := 159) (a := [.ref 122, .int x3, .int x1, .int x2]) (c := 1) (s' := (29, [(0, .ref 122), (1, .int x1), (2, .int x2), (3, .int x3)], [], h6)) rfl ⟨Nat.le_of_ble_eq_true rfl, Nat.le_of_ble_eq_true rfl⟩).trans ?_
        refine z_bdc fun r7 h8 => ?_
        refine (z_X_steps (s' := (33, [(0, .ref 122), (1, .int x1), (2, .int x2), (3, .int x3)], [.int r7], h8)) 1 rfl).trans ?_
        exact z_X_ret rfl
noncomputable def zl_M_coveredMany_4 (x1 : Int32) (x2 : Int32) (h : z_H) : Option z_A := z_X zc_M_coveredMany 2 (4, [(0, .ref 122), (1, .int x1), (2, .int x2)], [], h)
set_option maxRecDepth 8000 in
set_option maxHeartbeats 2000000 in
theorem e_M_coveredMany (h : z_H) : z_M 186 [.ref 122] h = zl_M_coveredMany_4 0 0 h := by
  refine (z_M_eq (by decide)).trans ?_
  show z_X zc_M_coveredMany 2 (0, [(0, .ref 122)], [], h) = _
  refine (z_X_steps (s' := (4, [(2, .int 0), (1, .int 0), (0, .ref 122)], [], h)) 4 rfl).trans ?_
  exact z_X_lab rfl
set_option maxRecDepth 8000 in
set_option maxHeartbeats 2000000 in
theorem e_M_coveredMany_4 (x1 : Int32) (x2 : Int32) (h : z_H) : zl_M_coveredMany_4 x1 x2 h = (if (216 : Int32) ≤ x2 then some (x1, h) else (bif z_in x2 216 then z_bd (z_M 128 [.int (h.1 130 (x2.toNatClampNeg))] h) (fun r1 h2 => zl_M_coveredMany_4 (x1 + r1) (x2 + 1) h2) else none)) := by
  show z_X zc_M_coveredMany 2 (4, [(0, .ref 122), (1, .int x1), (2, .int x2)], [], h) = _
  refine (z_X_steps (s' := (8, [(0, .ref 122), (1, .int x1), (2, .int x2)], [.int 216, .int x2], h)) 2 rfl).trans ?_
  refine (z_X_br (c := (216 : Int32) ≤ x2) (s1 := (29, [(0, .ref 122), (1, .int x1), (2, .int x2)], [], h)) (s2 := (11, [(0, .ref 122), (1, .int x1), (2, .int x2)], [], h)) rfl).trans (z_ite ?_ ?_)
  · refine (z_X_steps (s' := (30, [(0, .ref 122), (1, .int x1), (2, .int x2)], [.int x1], h)) 1 rfl).trans ?_
    exact z_X_ret rfl
  · refine (z_X_steps (s' := (17, [(0, .ref 122), (1, .int x1), (2, .int x2)], [.int x2, .ref 130, .int x1], h)) 4 rfl).trans ?_
    refine (z_X_if (g := z_in x2 216) (s' := (18, [(0, .ref 122), (1, .int x1), (2, .int x2)], [.int (h.1 130 (x2.toNatClampNeg)), .int x1], h)) rfl).trans (z_bifA ?_)
    refine (z_X_call (id := 128) (a := [.int (h.1 130 (x2.toNatClampNeg))]) (c := 1) (s' := (21, [(0, .ref 122), (1, .int x1), (2, .int x2)], [.int x1], h)) rfl ⟨Nat.le_of_ble_eq_true rfl, Nat.le_of_ble_eq_true rfl⟩).trans ?_
    refine z_bdc fun r1 h2 => ?_
    refine (z_X_steps (s' := (4, [(2, .int (x2 + 1)), (1, .int (x1 + r1)), (0, .ref 122)], [], h2)) 4 rfl).trans ?_
    exact z_X_lab rfl
set_option maxRecDepth 8000 in
set_option maxHeartbeats 2000000 in
theorem e_M_nodesRun (x1 : Int32) (x2 : Int32) (h : z_H) : z_M 187 [.ref 122, .int x1, .int x2] h = z_bd (z_M 168 [.ref 122, .int x1, .int x2] h) (fun r1 h2 => some (h2.1 122 18, h2)) := by
  refine (z_M_eq (by decide)).trans ?_
  show z_X zc_M_nodesRun 8 (0, [(0, .ref 122), (1, .int x1), (2, .int x2)], [], h) = _
  refine (z_X_steps (s' := (3, [(0, .ref 122), (1, .int x1), (2, .int x2)], [.int x2, .int x1, .ref 122], h)) 3 rfl).trans ?_
  refine (z_X_call (id := 168) (a := [.ref 122, .int x1, .int x2]) (c := 0) (s' := (6, [(0, .ref 122), (1, .int x1), (2, .int x2)], [], h)) rfl ⟨Nat.le_of_ble_eq_true rfl, Nat.le_of_ble_eq_true rfl⟩).trans ?_
  refine z_bdc fun r1 h2 => ?_
  refine (z_X_steps (s' := (10, [(0, .ref 122), (1, .int x1), (2, .int x2)], [.int (h2.1 122 18)], h2)) 2 rfl).trans ?_
  exact z_X_ret rfl
set_option maxRecDepth 8000 in
set_option maxHeartbeats 2000000 in
theorem e_M_coveredBy (x1 : Int32) (h : z_H) : z_M 188 [.ref 122, .int x1] h = z_bd (z_M 168 [.ref 122, .int 0, .int x1] h) (fun r1 h2 => z_bd (z_M 186 [.ref 122] h2) (fun r3 h4 => some (r3, h4))) := by
  refine (z_M_eq (by decide)).trans ?_
  show z_X zc_M_coveredBy 8 (0, [(0, .ref 122), (1, .int x1)], [], h) = _
  refine (z_X_steps (s' := (3, [(0, .ref 122), (1, .int x1)], [.int x1, .int 0, .ref 122], h)) 3 rfl).trans ?_
  refine (z_X_call (id := 168) (a := [.ref 122, .int 0, .int x1]) (c := 0) (s' := (6, [(0, .ref 122), (1, .int x1)], [], h)) rfl ⟨Nat.le_of_ble_eq_true rfl, Nat.le_of_ble_eq_true rfl⟩).trans ?_
  refine z_bdc fun r1 h2 => ?_
  refine (z_X_steps (s' := (7, [(0, .ref 122), (1, .int x1)], [.ref 122], h2)) 1 rfl).trans ?_
  refine (z_X_call (id := 186) (a := [.ref 122]) (c := 1) (s' := (10, [(0, .ref 122), (1, .int x1)], [], h2)) rfl ⟨Nat.le_of_ble_eq_true rfl, Nat.le_of_ble_eq_true rfl⟩).trans ?_
  refine z_bdc fun r3 h4 => ?_
  exact z_X_ret rfl
set_option maxRecDepth 8000 in
set_option maxHeartbeats 2000000 in
theorem e_M_dangersBy (x1 : Int32) (h : z_H) : z_M 189 [.ref 122, .int x1] h = z_bd (z_M 172 [.ref 122] h) (fun r1 h2 => z_bd (z_M 174 [.ref 122, .int x1, .int 0] h2) (fun r3 h4 => some (r3, h4))) := by
  refine (z_M_eq (by decide)).trans ?_
  show z_X zc_M_dangersBy 9 (0, [(0, .ref 122), (1, .int x1)], [], h) = _
  refine (z_X_steps (s' := (1, [(0, .ref 122), (1, .int x1)], [.ref 122], h)) 1 rfl).trans ?_
  refine (z_X_call (id := 172) (a := [.ref 122]) (c := 0) (s' := (4, [(0, .ref 122), (1, .int x1)], [], h)) rfl ⟨Nat.le_of_ble_eq_true rfl, Nat.le_of_ble_eq_true rfl⟩).trans ?_
  refine z_bdc fun r1 h2 => ?_
  refine (z_X_steps (s' := (7, [(0, .ref 122), (1, .int x1)], [.int 0, .int x1, .ref 122], h2)) 3 rfl).trans ?_
  refine (z_X_call (id := 174) (a := [.ref 122, .int x1, .int 0]) (c := 1) (s' := (10, [(0, .ref 122), (1, .int x1)], [], h2)) rfl ⟨Nat.le_of_ble_eq_true rfl, Nat.le_of_ble_eq_true rfl⟩).trans ?_
  refine z_bdc fun r3 h4 => ?_
  exact z_X_ret rfl
set_option maxRecDepth 8000 in
set_option maxHeartbeats 2000000 in
theorem e_M_test (x1 : Int32) (x2 : Int32) (h : z_H) : z_M 190 [.ref 122, .int x1, .int x2] h = z_bd (z_M 156 [.ref 122, .int x1] h) (fun r1 h2 => (if ¬ r1 = 0 then (if x2 = 0 then z_bd (z_M 167 [.ref 122, .int x1, .int x2] h2) (fun r3 h4 => some (r3, h4)) else (if x2 = 1 then z_bd (z_M 167 [.ref 122, .int x1, .int x2] h2) (fun r5 h6 => some (r5, h6)) else (if x2 = 2 then z_bd (z_M 167 [.ref 122, .int x1, .int x2] h2) (fun r7 h8 => some (r7, h8)) else (if x2 = 3 then z_bd (z_M 187 [.ref 122, .int (x2 - 3), .int x1] h2) (fun r9 h10 => some (r9, h10)) else (if x2 = 4 then z_bd (z_M 187 [.ref 122, .int (x2 - 3), .int x1] h2) (fun r11 h12 => some (r11, h12)) else (if x2 = 5 then z_bd (z_M 189 [.ref 122, .int x1] h2) (fun r13 h14 => (if r13 ≤ 0 then z_bd (z_M 128 [.int 0] h14) (fun r15 h16 => some (r15, h16)) else z_bd (z_M 128 [.int 1] h14) (fun r17 h18 => some (r17, h18)))) else (if x2 = 6 then z_bd (z_M 175 [.ref 122] h2) (fun r19 h20 => z_bd (z_M 177 [.ref 122, .int x1] h20) (fun r21 h22 => some (r21, h22))) else (if x2 = 7 then z_bd (z_M 188 [.ref 122, .int x1] h2) (fun r23 h24 => some (r23, h24)) else (if x2 = 8 then z_bd (z_M 189 [.ref 122, .int x1] h2) (fun r25 h26 => some (r25, h26)) else some ((-1), h2)))))))))) else some ((-1), h2))) := by
  refine (z_M_eq (by decide)).trans ?_
  show z_X zc_M_test 10 (0, [(0, .ref 122), (1, .int x1), (2, .int x2)], [], h) = _
  refine (z_X_steps (s' := (2, [(0, .ref 122), (1, .int x1), (2, .int x2)], [.int x1, .ref 122], h)) 2 rfl).trans ?_
  refine (z_X_call (id := 156) (a := [.ref 122, .int x1]) (c := 1) (s' := (5, [(0, .ref 122), (1, .int x1), (2, .int x2)], [], h)) rfl ⟨Nat.le_of_ble_eq_true rfl, Nat.le_of_ble_eq_true rfl⟩).trans ?_
  refine z_bdc fun r1 h2 => ?_
  refine (z_X_br (c := ¬ r1 = 0) (s1 := (10, [(0, .ref 122), (1, .int x1), (2, .int x2)], [], h2)) (s2 := (8, [(0, .ref 122), (1, .int x1), (2, .int x2)], [], h2)) rfl).trans (z_ite ?_ ?_)
  · refine (z_X_steps (s' := (11, [(0, .ref 122), (1, .int x1), (2, .int x2)], [.int x2], h2)) 1 rfl).trans ?_
    refine (z_X_sw (d := (115, [(0, .ref 122), (1, .int x1), (2, .int x2)], [], h2)) (x := x2) (lo := [(0, .ref 122), (1, .int x1), (2, .int x2)]) (stk := []) (h := h2) (sw := [(0, 60), (1, 60), (2, 60), (3, 67), (4, 67), (5, 76), (6, 93), (7, 103), (8, 109)]) rfl).trans ?_
    refine z_ite ?_ ?_
    · refine (z_X_steps (s' := (63, [(0, .ref 122), (1, .int x1), (2, .int x2)], [.int x2, .int x1, .ref 122], h2)) 3 rfl).trans ?_
      refine (z_X_call (id := 167) (a := [.ref 122, .int x1, .int x2]) (c := 1) (s' := (66, [(0, .ref 122), (1, .int x1), (2, .int x2)], [], h2)) rfl ⟨Nat.le_of_ble_eq_true rfl, Nat.le_of_ble_eq_true rfl⟩).trans ?_
      refine z_bdc fun r3 h4 => ?_
      exact z_X_ret rfl
    refine z_ite ?_ ?_
    · refine (z_X_steps (s' := (63, [(0, .ref 122), (1, .int x1), (2, .int x2)], [.int x2, .int x1, .ref 122], h2)) 3 rfl).trans ?_
      refine (z_X_call (id := 167) (a := [.ref 122, .int x1, .int x2]) (c := 1) (s' := (66, [(0, .ref 122), (1, .int x1), (2, .int x2)], [], h2)) rfl ⟨Nat.le_of_ble_eq_true rfl, Nat.le_of_ble_eq_true rfl⟩).trans ?_
      refine z_bdc fun r5 h6 => ?_
      exact z_X_ret rfl
    refine z_ite ?_ ?_
    · refine (z_X_steps (s' := (63, [(0, .ref 122), (1, .int x1), (2, .int x2)], [.int x2, .int x1, .ref 122], h2)) 3 rfl).trans ?_
      refine (z_X_call (id := 167) (a := [.ref 122, .int x1, .int x2]) (c := 1) (s' := (66, [(0, .ref 122), (1, .int x1), (2, .int x2)], [], h2)) rfl ⟨Nat.le_of_ble_eq_true rfl, Nat.le_of_ble_eq_true rfl⟩).trans ?_
      refine z_bdc fun r7 h8 => ?_
      exact z_X_ret rfl
    refine z_ite ?_ ?_
    · refine (z_X_steps (s' := (72, [(0, .ref 122), (1, .int x1), (2, .int x2)], [.int x1, .int (x2 - 3), .ref 122], h2)) 5 rfl).trans ?_
      refine (z_X_call (id := 187) (a := [.ref 122, .int (x2 - 3), .int x1]) (c := 1) (s' := (75, [(0, .ref 122), (1, .int x1), (2, .int x2)], [], h2)) rfl ⟨Nat.le_of_ble_eq_true rfl, Nat.le_of_ble_eq_true rfl⟩).trans ?_
      refine z_bdc fun r9 h10 => ?_
      exact z_X_ret rfl
    refine z_ite ?_ ?_
    · refine (z_X_steps (s' := (72, [(0, .ref 122), (1, .int x1), (2, .int x2)], [.int x1, .int (x2 - 3), .ref 122], h2)) 5 rfl).trans ?_
      refine (z_X_call (id := 187) (a := [.ref 122, .int (x2 - 3), .int x1]) (c := 1) (s' := (75, [(0, .ref 122), (1, .int x1), (2, .int x2)], [], h2)) rfl ⟨Nat.le_of_ble_eq_true rfl, Nat.le_of_ble_eq_true rfl⟩).trans ?_
      refine z_bdc fun r11 h12 => ?_
      exact z_X_ret rfl
    refine z_ite ?_ ?_
    · refine (z_X_steps (s' := (78, [(0, .ref 122), (1, .int x1), (2, .int x2)], [.int x1, .ref 122], h2)) 2 rfl).trans ?_
      refine (z_X_call (id := 189) (a := [.ref 122, .int x1]) (c := 1) (s' := (81, [(0, .ref 122), (1, .int x1), (2, .int x2)], [], h2)) rfl ⟨Nat.le_of_ble_eq_true rfl, Nat.le_of_ble_eq_true rfl⟩).trans ?_
      refine z_bdc fun r13 h14 => ?_
      refine (z_X_br (c := r13 ≤ 0) (s1 := (88, [(0, .ref 122), (1, .int x1), (2, .int x2)], [], h14)) (s2 := (84, [(0, .ref 122), (1, .int x1), (2, .int x2)], [], h14)) rfl).trans (z_ite ?_ ?_)
      · refine (z_X_steps (s' := (89, [(0, .ref 122), (1, .int x1), (2, .int x2)], [.int 0], h14)) 1 rfl).trans ?_
        refine (z_X_call (id := 128) (a := [.int 0]) (c := 1) (s' := (92, [(0, .ref 122), (1, .int x1), (2, .int x2)], [], h14)) rfl ⟨Nat.le_of_ble_eq_true rfl, Nat.le_of_ble_eq_true rfl⟩).trans ?_
        refine z_bdc fun r15 h16 => ?_
        exact z_X_ret rfl
      · refine (z_X_steps (s' := (89, [(0, .ref 122), (1, .int x1), (2, .int x2)], [.int 1], h14)) 2 rfl).trans ?_
        refine (z_X_call (id := 128) (a := [.int 1]) (c := 1) (s' := (92, [(0, .ref 122), (1, .int x1), (2, .int x2)], [], h14)) rfl ⟨Nat.le_of_ble_eq_true rfl, Nat.le_of_ble_eq_true rfl⟩).trans ?_
        refine z_bdc fun r17 h18 => ?_
        exact z_X_ret rfl
    refine z_ite ?_ ?_
    · refine (z_X_steps (s' := (94, [(0, .ref 122), (1, .int x1), (2, .int x2)], [.ref 122], h2)) 1 rfl).trans ?_
      refine (z_X_call (id := 175) (a := [.ref 122]) (c := 0) (s' := (97, [(0, .ref 122), (1, .int x1), (2, .int x2)], [], h2)) rfl ⟨Nat.le_of_ble_eq_true rfl, Nat.le_of_ble_eq_true rfl⟩).trans ?_
      refine z_bdc fun r19 h20 => ?_
      refine (z_X_steps (s' := (99, [(0, .ref 122), (1, .int x1), (2, .int x2)], [.int x1, .ref 122], h20)) 2 rfl).trans ?_
      refine (z_X_call (id := 177) (a := [.ref 122, .int x1]) (c := 1) (s' := (102, [(0, .ref 122), (1, .int x1), (2, .int x2)], [], h20)) rfl ⟨Nat.le_of_ble_eq_true rfl, Nat.le_of_ble_eq_true rfl⟩).trans ?_
      refine z_bdc fun r21 h22 => ?_
      exact z_X_ret rfl
    refine z_ite ?_ ?_
    · refine (z_X_steps (s' := (105, [(0, .ref 122), (1, .int x1), (2, .int x2)], [.int x1, .ref 122], h2)) 2 rfl).trans ?_
      refine (z_X_call (id := 188) (a := [.ref 122, .int x1]) (c := 1) (s' := (108, [(0, .ref 122), (1, .int x1), (2, .int x2)], [], h2)) rfl ⟨Nat.le_of_ble_eq_true rfl, Nat.le_of_ble_eq_true rfl⟩).trans ?_
      refine z_bdc fun r23 h24 => ?_
      exact z_X_ret rfl
    refine z_ite ?_ ?_
    · refine (z_X_steps (s' := (111, [(0, .ref 122), (1, .int x1), (2, .int x2)], [.int x1, .ref 122], h2)) 2 rfl).trans ?_
      refine (z_X_call (id := 189) (a := [.ref 122, .int x1]) (c := 1) (s' := (114, [(0, .ref 122), (1, .int x1), (2, .int x2)], [], h2)) rfl ⟨Nat.le_of_ble_eq_true rfl, Nat.le_of_ble_eq_true rfl⟩).trans ?_
      refine z_bdc fun r25 h26 => ?_
      exact z_X_ret rfl
    refine (z_X_steps (s' := (116, [(0, .ref 122), (1, .int x1), (2, .int x2)], [.int (-1)], h2)) 1 rfl).trans ?_
    exact z_X_ret rfl
  · refine (z_X_steps (s' := (9, [(0, .ref 122), (1, .int x1), (2, .int x2)], [.int (-1)], h2)) 1 rfl).trans ?_
    exact z_X_ret rfl
set_option maxRecDepth 8000 in
set_option maxHeartbeats 2000000 in
theorem e_M_said (x1 : Int32) (x2 : Int32) (h : z_H) : z_M 191 [.ref 122, .int x1, .int x2] h = z_bd (z_M 156 [.ref 122, .int x1] h) (fun r1 h2 => (if r1 = 0 then some (0, h2) else z_bd (z_M 157 [.int x2] h2) (fun r3 h4 => (if ¬ r3 = 0 then z_bd (z_M 168 [.ref 122, .int x2, .int x1] h4) (fun r5 h6 => some (h6.1 122 19, h6)) else some (0, h4))))) := by
  refine (z_M_eq (by decide)).trans ?_
  show z_X zc_M_said 8 (0, [(0, .ref 122), (1, .int x1), (2, .int x2)], [], h) = _
  refine (z_X_steps (s' := (2, [(0, .ref 122), (1, .int x1), (2, .int x2)], [.int x1, .ref 122], h)) 2 rfl).trans ?_
  refine (z_X_call (id := 156) (a := [.ref 122, .int x1]) (c := 1) (s' := (5, [(0, .ref 122), (1, .int x1), (2, .int x2)], [], h)) rfl ⟨Nat.le_of_ble_eq_true rfl, Nat.le_of_ble_eq_true rfl⟩).trans ?_
  refine z_bdc fun r1 h2 => ?_
  refine (z_X_br (c := r1 = 0) (s1 := (15, [(0, .ref 122), (1, .int x1), (2, .int x2)], [], h2)) (s2 := (8, [(0, .ref 122), (1, .int x1), (2, .int x2)], [], h2)) rfl).trans (z_ite ?_ ?_)
  · refine (z_X_steps (s' := (16, [(0, .ref 122), (1, .int x1), (2, .int x2)], [.int 0], h2)) 1 rfl).trans ?_
    exact z_X_ret rfl
  · refine (z_X_steps (s' := (9, [(0, .ref 122), (1, .int x1), (2, .int x2)], [.int x2], h2)) 1 rfl).trans ?_
    refine (z_X_call (id := 157) (a := [.int x2]) (c := 1) (s' := (12, [(0, .ref 122), (1, .int x1), (2, .int x2)], [], h2)) rfl ⟨Nat.le_of_ble_eq_true rfl, Nat.le_of_ble_eq_true rfl⟩).trans ?_
    refine z_bdc fun r3 h4 => ?_
    refine (z_X_br (c := ¬ r3 = 0) (s1 := (17, [(0, .ref 122), (1, .int x1), (2, .int x2)], [], h4)) (s2 := (15, [(0, .ref 122), (1, .int x1), (2, .int x2)], [], h4)) rfl).trans (z_ite ?_ ?_)
    · refine (z_X_steps (s' := (20, [(0, .ref 122), (1, .int x1), (2, .int x2)], [.int x1, .int x2, .ref 122], h4)) 3 rfl).trans ?_
      refine (z_X_call (id := 168) (a := [.ref 122, .int x2, .int x1]) (c := 0) (s' := (23, [(0, .ref 122), (1, .int x1), (2, .int x2)], [], h4)) rfl ⟨Nat.le_of_ble_eq_true rfl, Nat.le_of_ble_eq_true rfl⟩).trans ?_
      refine z_bdc fun r5 h6 => ?_
      refine (z_X_steps (s' := (27, [(0, .ref 122), (1, .int x1), (2, .int x2)], [.int (h6.1 122 19)], h6)) 2 rfl).trans ?_
      exact z_X_ret rfl
    · refine (z_X_steps (s' := (16, [(0, .ref 122), (1, .int x1), (2, .int x2)], [.int 0], h4)) 1 rfl).trans ?_
      exact z_X_ret rfl
noncomputable def zl_M_isEdge_78 (x1 : Int32) (h : z_H) : Option z_A := z_X zc_M_isEdge 4 (78, [(0, .ref 122), (1, .int x1)], [], h)
set_option maxRecDepth 8000 in
set_option maxHeartbeats 2000000 in
theorem e_M_isEdge (x1 : Int32) (h : z_H) : z_M 192 [.ref 122, .int x1] h = z_bd (z_M 127 [.long (x1.toInt64), .long ((0 : Int32).toInt64), .long ((95 : Int32).toInt64)] h) (fun r1 h2 => (if r1 = 0 then z_bd (z_M 127 [.long (x1.toInt64), .long ((100 : Int32).toInt64), .long ((105 : Int32).toInt64)] h2) (fun r3 h4 => (if r3 = 0 then zl_M_isEdge_78 x1 h4 else z_bd (z_M 152 [.ref 122, .int (x1 - 100)] h4) (fun r5 h6 => (if ¬ r5 = 0 then some (1, h6) else zl_M_isEdge_78 x1 h6)))) else z_bd (z_M 153 [.ref 122, .int (x1 / 16), .int ((x1 - x1 / 16 * 16) / 2)] h2) (fun r7 h8 => (if r7 = 0 then some (0, h8) else z_bd (z_M 158 [.ref 122, .int 0, .int (x1 / 16), .int ((x1 - x1 / 16 * 16) / 2), .int 2] h8) (fun r9 h10 => (if r9 ≤ x1 - x1 / 2 * 2 then some (0, h10) else some (1, h10))))))) := by
  refine (z_M_eq (by decide)).trans ?_
  show z_X zc_M_isEdge 4 (0, [(0, .ref 122), (1, .int x1)], [], h) = _
  refine (z_X_steps (s' := (6, [(0, .ref 122), (1, .int x1)], [.long ((95 : Int32).toInt64), .long ((0 : Int32).toInt64), .long (x1.toInt64)], h)) 4 rfl).trans ?_
  refine (z_X_call (id := 127) (a := [.long (x1.toInt64), .long ((0 : Int32).toInt64), .long ((95 : Int32).toInt64)]) (c := 1) (s' := (9, [(0, .ref 122), (1, .int x1)], [], h)) rfl ⟨Nat.le_of_ble_eq_true rfl, Nat.le_of_ble_eq_true rfl⟩).trans ?_
  refine z_bdc fun r1 h2 => ?_
  refine (z_X_br (c := r1 = 0) (s1 := (53, [(0, .ref 122), (1, .int x1)], [], h2)) (s2 := (12, [(0, .ref 122), (1, .int x1)], [], h2)) rfl).trans (z_ite ?_ ?_)
  · refine (z_X_steps (s' := (61, [(0, .ref 122), (1, .int x1)], [.long ((105 : Int32).toInt64), .long ((100 : Int32).toInt64), .long (x1.toInt64)], h2)) 4 rfl).trans ?_
    refine (z_X_call (id := 127) (a := [.long (x1.toInt64), .long ((100 : Int32).toInt64), .long ((105 : Int32).toInt64)]) (c := 1) (s' := (64, [(0, .ref 122), (1, .int x1)], [], h2)) rfl ⟨Nat.le_of_ble_eq_true rfl, Nat.le_of_ble_eq_true rfl⟩).trans ?_
    refine z_bdc fun r3 h4 => ?_
    refine (z_X_br (c := r3 = 0) (s1 := (78, [(0, .ref 122), (1, .int x1)], [], h4)) (s2 := (67, [(0, .ref 122), (1, .int x1)], [], h4)) rfl).trans (z_ite ?_ ?_)
    · exact z_X_lab rfl
    · refine (z_X_steps (s' := (72, [(0, .ref 122), (1, .int x1)], [.int (x1 - 100), .ref 122], h4)) 4 rfl).trans ?_
      refine (z_X_call (id := 152) (a := [.ref 122, .int (x1 - 100)]) (c := 1) (s' := (75, [(0, .ref 122), (1, .int x1)], [], h4)) rfl ⟨Nat.le_of_ble_eq_true rfl, Nat.le_of_ble_eq_true rfl⟩).trans ?_
      refine z_bdc fun r5 h6 => ?_
      refine (z_X_br (c := ¬ r5 = 0) (s1 := (106, [(0, .ref 122), (1, .int x1)], [], h6)) (s2 := (78, [(0, .ref 122), (1, .int x1)], [], h6)) rfl).trans (z_ite ?_ ?_)
      · refine (z_X_steps (s' := (111, [(0, .ref 122), (1, .int x1)], [.int 1], h6)) 2 rfl).trans ?_
        exact z_X_ret rfl
      · exact z_X_lab rfl
  · refine (z_X_steps (s' := (27, [(3, .int ((x1 - x1 / 16 * 16) / 2)), (2, .int (x1 / 16)), (0, .ref 122), (1, .int x1)], [.int ((x1 - x1 / 16 * 16) / 2), .int (x1 / 16), .ref 122], h2)) 13 rfl).trans ?_
    refine (z_X_call (id := 153) (a := [.ref 122, .int (x1 / 16), .int ((x1 - x1 / 16 * 16) / 2)]) (c := 1) (s' := (30, [(3, .int ((x1 - x1 / 16 * 16) / 2)), (2, .int (x1 / 16)), (0, .ref 122), (1, .int x1)], [], h2)) rfl ⟨Nat.le_of_ble_eq_true rfl, Nat.le_of_ble_eq_true rfl⟩).trans ?_
    refine z_bdc fun r7 h8 => ?_
    refine (z_X_br (c := r7 = 0) (s1 := (51, [(3, .int ((x1 - x1 / 16 * 16) / 2)), (2, .int (x1 / 16)), (0, .ref 122), (1, .int x1)], [], h8)) (s2 := (33, [(3, .int ((x1 - x1 / 16 * 16) / 2)), (2, .int (x1 / 16)), (0, .ref 122), (1, .int x1)], [], h8)) rfl).trans (z_ite ?_ ?_)
    · refine (z_X_steps (s' := (52, [(3, .int ((x1 - x1 / 16 * 16) / 2)), (2, .int (x1 / 16)), (0, .ref 122), (1, .int x1)], [.int 0], h8)) 1 rfl).trans ?_
      exact z_X_ret rfl
    · refine (z_X_steps (s' := (41, [(3, .int ((x1 - x1 / 16 * 16) / 2)), (2, .int (x1 / 16)), (0, .ref 122), (1, .int x1)], [.int 2, .int ((x1 - x1 / 16 * 16) / 2), .int (x1 / 16), .int 0, .ref 122, .int (x1 - x1 / 2 * 2)], h8)) 8 rfl).trans ?_
      refine (z_X_call (id := 158) (a := [.ref 122, .int 0, .int (x1 / 16), .int ((x1 - x1 / 16 * 16) / 2), .int 2]) (c := 1) (s' := (44, [(3, .int ((x1 - x1 / 16 * 16) / 2)), (2, .int (x1 / 16)), (0, .ref 122), (1, .int x1)], [.int (x1 - x1 / 2 * 2)], h8)) rfl ⟨Nat.le_of_ble_eq_true rfl, Nat.le_of_ble_eq_true rfl⟩).trans ?_
      refine z_bdc fun r9 h10 => ?_
      refine (z_X_br (c := r9 ≤ x1 - x1 / 2 * 2) (s1 := (51, [(3, .int ((x1 - x1 / 16 * 16) / 2)), (2, .int (x1 / 16)), (0, .ref 122), (1, .int x1)], [], h10)) (s2 := (47, [(3, .int ((x1 - x1 / 16 * 16) / 2)), (2, .int (x1 / 16)), (0, .ref 122), (1, .int x1)], [], h10)) rfl).trans (z_ite ?_ ?_)
      · refine (z_X_steps (s' := (52, [(3, .int ((x1 - x1 / 16 * 16) / 2)), (2, .int (x1 / 16)), (0, .ref 122), (1, .int x1)], [.int 0], h10)) 1 rfl).trans ?_
        exact z_X_ret rfl
      · refine (z_X_steps (s' := (52, [(3, .int ((x1 - x1 / 16 * 16) / 2)), (2, .int (x1 / 16)), (0, .ref 122), (1, .int x1)], [.int 1], h10)) 2 rfl).trans ?_
        exact z_X_ret rfl
set_option maxRecDepth 8000 in
set_option maxHeartbeats 2000000 in
theorem e_M_isEdge_78 (x1 : Int32) (h : z_H) : zl_M_isEdge_78 x1 h = z_bd (z_M 127 [.long (x1.toInt64), .long ((200 : Int32).toInt64), .long ((215 : Int32).toInt64)] h) (fun r1 h2 => (if r1 = 0 then some (0, h2) else z_bd (z_M 154 [.ref 122, .int ((x1 - 200) / 4)] h2) (fun r3 h4 => (if r3 = 0 then some (0, h4) else some (1, h4))))) := by
  show z_X zc_M_isEdge 4 (78, [(0, .ref 122), (1, .int x1)], [], h) = _
  refine (z_X_steps (s' := (86, [(0, .ref 122), (1, .int x1)], [.long ((215 : Int32).toInt64), .long ((200 : Int32).toInt64), .long (x1.toInt64)], h)) 4 rfl).trans ?_
  refine (z_X_call (id := 127) (a := [.long (x1.toInt64), .long ((200 : Int32).toInt64), .long ((215 : Int32).toInt64)]) (c := 1) (s' := (89, [(0, .ref 122), (1, .int x1)], [], h)) rfl ⟨Nat.le_of_ble_eq_true rfl, Nat.le_of_ble_eq_true rfl⟩).trans ?_
  refine z_bdc fun r1 h2 => ?_
  refine (z_X_br (c := r1 = 0) (s1 := (110, [(0, .ref 122), (1, .int x1)], [], h2)) (s2 := (92, [(0, .ref 122), (1, .int x1)], [], h2)) rfl).trans (z_ite ?_ ?_)
  · refine (z_X_steps (s' := (111, [(0, .ref 122), (1, .int x1)], [.int 0], h2)) 1 rfl).trans ?_
    exact z_X_ret rfl
  · refine (z_X_steps (s' := (100, [(0, .ref 122), (1, .int x1)], [.int ((x1 - 200) / 4), .ref 122], h2)) 6 rfl).trans ?_
    refine (z_X_call (id := 154) (a := [.ref 122, .int ((x1 - 200) / 4)]) (c := 1) (s' := (103, [(0, .ref 122), (1, .int x1)], [], h2)) rfl ⟨Nat.le_of_ble_eq_true rfl, Nat.le_of_ble_eq_true rfl⟩).trans ?_
    refine z_bdc fun r3 h4 => ?_
    refine (z_X_br (c := r3 = 0) (s1 := (110, [(0, .ref 122), (1, .int x1)], [], h4)) (s2 := (106, [(0, .ref 122), (1, .int x1)], [], h4)) rfl).trans (z_ite ?_ ?_)
    · refine (z_X_steps (s' := (111, [(0, .ref 122), (1, .int x1)], [.int 0], h4)) 1 rfl).trans ?_
      exact z_X_ret rfl
    · refine (z_X_steps (s' := (111, [(0, .ref 122), (1, .int x1)], [.int 1], h4)) 2 rfl).trans ?_
      exact z_X_ret rfl
noncomputable def zl_M_testsOver_4 (x1 : Int32) (x2 : Int32) (x3 : Int32) (h : z_H) : Option z_A := z_X zc_M_testsOver 8 (4, [(0, .ref 122), (1, .int x1), (2, .int x2), (3, .int x3)], [], h)
set_option maxRecDepth 8000 in
set_option maxHeartbeats 2000000 in
theorem e_M_testsOver (x1 : Int32) (h : z_H) : z_M 193 [.ref 122, .int x1] h = zl_M_testsOver_4 x1 0 0 h := by
  refine (z_M_eq (by decide)).trans ?_
  show z_X zc_M_testsOver 8 (0, [(0, .ref 122), (1, .int x1)], [], h) = _
  refine (z_X_steps (s' := (4, [(3, .int 0), (2, .int 0), (0, .ref 122), (1, .int x1)], [], h)) 4 rfl).trans ?_
  exact z_X_lab rfl
set_option maxRecDepth 8000 in
set_option maxHeartbeats 2000000 in
theorem e_M_testsOver_4 (x1 : Int32) (x2 : Int32) (x3 : Int32) (h : z_H) : zl_M_testsOver_4 x1 x2 x3 h = (if h.1 123 2 ≤ x3 then some (x2, h) else z_bd (z_M 168 [.ref 122, .int 0, .int x3] h) (fun r1 h2 => (bif z_in x1 216 then z_bd (z_M 128 [.int (h2.1 130 (x1.toNatClampNeg))] h2) (fun r3 h4 => zl_M_testsOver_4 x1 (x2 + r3) (x3 + 1) h4) else none))) := by
  show z_X zc_M_testsOver 8 (4, [(0, .ref 122), (1, .int x1), (2, .int x2), (3, .int x3)], [], h) = _
  refine (z_X_steps (s' := (11, [(0, .ref 122), (1, .int x1), (2, .int x2), (3, .int x3)], [.int (h.1 123 2), .int x3], h)) 5 rfl).trans ?_
  refine (z_X_br (c := h.1 123 2 ≤ x3) (s1 := (38, [(0, .ref 122), (1, .int x1), (2, .int x2), (3, .int x3)], [], h)) (s2 := (14, [(0, .ref 122), (1, .int x1), (2, .int x2), (3, .int x3)], [], h)) rfl).trans (z_ite ?_ ?_)
  · refine (z_X_steps (s' := (39, [(0, .ref 122), (1, .int x1), (2, .int x2), (3, .int x3)], [.int x2], h)) 1 rfl).trans ?_
    exact z_X_ret rfl
  · refine (z_X_steps (s' := (17, [(0, .ref 122), (1, .int x1), (2, .int x2), (3, .int x3)], [.int x3, .int 0, .ref 122], h)) 3 rfl).trans ?_
    refine (z_X_call (id := 168) (a := [.ref 122, .int 0, .int x3]) (c := 0) (s' := (20, [(0, .ref 122), (1, .int x1), (2, .int x2), (3, .int x3)], [], h)) rfl ⟨Nat.le_of_ble_eq_true rfl, Nat.le_of_ble_eq_true rfl⟩).trans ?_
    refine z_bdc fun r1 h2 => ?_
    refine (z_X_steps (s' := (26, [(0, .ref 122), (1, .int x1), (2, .int x2), (3, .int x3)], [.int x1, .ref 130, .int x2], h2)) 4 rfl).trans ?_
    refine (z_X_if (g := z_in x1 216) (s' := (27, [(0, .ref 122), (1, .int x1), (2, .int x2), (3, .int x3)], [.int (h2.1 130 (x1.toNatClampNeg)), .int x2], h2)) rfl).trans (z_bifA ?_)
    refine (z_X_call (id := 128) (a := [.int (h2.1 130 (x1.toNatClampNeg))]) (c := 1) (s' := (30, [(0, .ref 122), (1, .int x1), (2, .int x2), (3, .int x3)], [.int x2], h2)) rfl ⟨Nat.le_of_ble_eq_true rfl, Nat.le_of_ble_eq_true rfl⟩).trans ?_
    refine z_bdc fun r3 h4 => ?_
    refine (z_X_steps (s' := (4, [(3, .int (x3 + 1)), (2, .int (x2 + r3)), (0, .ref 122), (1, .int x1)], [], h4)) 4 rfl).trans ?_
    exact z_X_lab rfl
set_option maxRecDepth 8000 in
set_option maxHeartbeats 2000000 in
theorem e_M_edge (x1 : Int32) (x2 : Int32) (h : z_H) : z_M 194 [.ref 122, .int x1, .int x2] h = z_bd (z_M 192 [.ref 122, .int x1] h) (fun r1 h2 => (if r1 = 0 then some ((-1), h2) else z_bd (z_M 157 [.int x2] h2) (fun r3 h4 => (if ¬ r3 = 0 then (if ¬ x2 = 1 then z_bd (z_M 172 [.ref 122] h4) (fun r5 h6 => (bif z_in x1 216 then z_bd (z_M 128 [.int (h6.1 131 (x1.toNatClampNeg))] h6) (fun r7 h8 => some (r7, h8)) else none)) else z_bd (z_M 193 [.ref 122, .int x1] h4) (fun r9 h10 => some (r9, h10))) else some ((-1), h4))))) := by
  refine (z_M_eq (by decide)).trans ?_
  show z_X zc_M_edge 9 (0, [(0, .ref 122), (1, .int x1), (2, .int x2)], [], h) = _
  refine (z_X_steps (s' := (2, [(0, .ref 122), (1, .int x1), (2, .int x2)], [.int x1, .ref 122], h)) 2 rfl).trans ?_
  refine (z_X_call (id := 192) (a := [.ref 122, .int x1]) (c := 1) (s' := (5, [(0, .ref 122), (1, .int x1), (2, .int x2)], [], h)) rfl ⟨Nat.le_of_ble_eq_true rfl, Nat.le_of_ble_eq_true rfl⟩).trans ?_
  refine z_bdc fun r1 h2 => ?_
  refine (z_X_br (c := r1 = 0) (s1 := (15, [(0, .ref 122), (1, .int x1), (2, .int x2)], [], h2)) (s2 := (8, [(0, .ref 122), (1, .int x1), (2, .int x2)], [], h2)) rfl).trans (z_ite ?_ ?_)
  · refine (z_X_steps (s' := (16, [(0, .ref 122), (1, .int x1), (2, .int x2)], [.int (-1)], h2)) 1 rfl).trans ?_
    exact z_X_ret rfl
  · refine (z_X_steps (s' := (9, [(0, .ref 122), (1, .int x1), (2, .int x2)], [.int x2], h2)) 1 rfl).trans ?_
    refine (z_X_call (id := 157) (a := [.int x2]) (c := 1) (s' := (12, [(0, .ref 122), (1, .int x1), (2, .int x2)], [], h2)) rfl ⟨Nat.le_of_ble_eq_true rfl, Nat.le_of_ble_eq_true rfl⟩).trans ?_
    refine z_bdc fun r3 h4 => ?_
    refine (z_X_br (c := ¬ r3 = 0) (s1 := (17, [(0, .ref 122), (1, .int x1), (2, .int x2)], [], h4)) (s2 := (15, [(0, .ref 122), (1, .int x1), (2, .int x2)], [], h4)) rfl).trans (z_ite ?_ ?_)
    · refine (z_X_steps (s' := (19, [(0, .ref 122), (1, .int x1), (2, .int x2)], [.int 1, .int x2], h4)) 2 rfl).trans ?_
      refine (z_X_br (c := ¬ x2 = 1) (s1 := (28, [(0, .ref 122), (1, .int x1), (2, .int x2)], [], h4)) (s2 := (22, [(0, .ref 122), (1, .int x1), (2, .int x2)], [], h4)) rfl).trans (z_ite ?_ ?_)
      · refine (z_X_steps (s' := (29, [(0, .ref 122), (1, .int x1), (2, .int x2)], [.ref 122], h4)) 1 rfl).trans ?_
        refine (z_X_call (id := 172) (a := [.ref 122]) (c := 0) (s' := (32, [(0, .ref 122), (1, .int x1), (2, .int x2)], [], h4)) rfl ⟨Nat.le_of_ble_eq_true rfl, Nat.le_of_ble_eq_true rfl⟩).trans ?_
        refine z_bdc fun r5 h6 => ?_
        refine (z_X_steps (s' := (37, [(0, .ref 122), (1, .int x1), (2, .int x2)], [.int x1, .ref 131], h6)) 3 rfl).trans ?_
        refine (z_X_if (g := z_in x1 216) (s' := (38, [(0, .ref 122), (1, .int x1), (2, .int x2)], [.int (h6.1 131 (x1.toNatClampNeg))], h6)) rfl).trans (z_bifA ?_)
        refine (z_X_call (id := 128) (a := [.int (h6.1 131 (x1.toNatClampNeg))]) (c := 1) (s' := (41, [(0, .ref 122), (1, .int x1), (2, .int x2)], [], h6)) rfl ⟨Nat.le_of_ble_eq_true rfl, Nat.le_of_ble_eq_true rfl⟩).trans ?_
        refine z_bdc fun r7 h8 => ?_
        exact z_X_ret rfl
      · refine (z_X_steps (s' := (24, [(0, .ref 122), (1, .int x1), (2, .int x2)], [.int x1, .ref 122], h4)) 2 rfl).trans ?_
        refine (z_X_call (id := 193) (a := [.ref 122, .int x1]) (c := 1) (s' := (27, [(0, .ref 122), (1, .int x1), (2, .int x2)], [], h4)) rfl ⟨Nat.le_of_ble_eq_true rfl, Nat.le_of_ble_eq_true rfl⟩).trans ?_
        refine z_bdc fun r9 h10 => ?_
        exact z_X_ret rfl
    · refine (z_X_steps (s' := (16, [(0, .ref 122), (1, .int x1), (2, .int x2)], [.int (-1)], h4)) 1 rfl).trans ?_
      exact z_X_ret rfl
set_option maxRecDepth 8000 in
set_option maxHeartbeats 2000000 in
theorem e_M_covers (x1 : Int32) (x2 : Int32) (h : z_H) : z_M 195 [.ref 122, .int x1, .int x2] h = z_bd (z_M 156 [.ref 122, .int x1] h) (fun r1 h2 => (if r1 = 0 then some ((-1), h2) else z_bd (z_M 192 [.ref 122, .int x2] h2) (fun r3 h4 => (if ¬ r3 = 0 then z_bd (z_M 168 [.ref 122, .int 0, .int x1] h4) (fun r5 h6 => (bif z_in x2 216 then z_bd (z_M 128 [.int (h6.1 130 (x2.toNatClampNeg))] h6) (fun r7 h8 => some (r7, h8)) else none)) else some ((-1), h4))))) := by
  refine (z_M_eq (by decide)).trans ?_
  show z_X zc_M_covers 8 (0, [(0, .ref 122), (1, .int x1), (2, .int x2)], [], h) = _
  refine (z_X_steps (s' := (2, [(0, .ref 122), (1, .int x1), (2, .int x2)], [.int x1, .ref 122], h)) 2 rfl).trans ?_
  refine (z_X_call (id := 156) (a := [.ref 122, .int x1]) (c := 1) (s' := (5, [(0, .ref 122), (1, .int x1), (2, .int x2)], [], h)) rfl ⟨Nat.le_of_ble_eq_true rfl, Nat.le_of_ble_eq_true rfl⟩).trans ?_
  refine z_bdc fun r1 h2 => ?_
  refine (z_X_br (c := r1 = 0) (s1 := (16, [(0, .ref 122), (1, .int x1), (2, .int x2)], [], h2)) (s2 := (8, [(0, .ref 122), (1, .int x1), (2, .int x2)], [], h2)) rfl).trans (z_ite ?_ ?_)
  · refine (z_X_steps (s' := (17, [(0, .ref 122), (1, .int x1), (2, .int x2)], [.int (-1)], h2)) 1 rfl).trans ?_
    exact z_X_ret rfl
  · refine (z_X_steps (s' := (10, [(0, .ref 122), (1, .int x1), (2, .int x2)], [.int x2, .ref 122], h2)) 2 rfl).trans ?_
    refine (z_X_call (id := 192) (a := [.ref 122, .int x2]) (c := 1) (s' := (13, [(0, .ref 122), (1, .int x1), (2, .int x2)], [], h2)) rfl ⟨Nat.le_of_ble_eq_true rfl, Nat.le_of_ble_eq_true rfl⟩).trans ?_
    refine z_bdc fun r3 h4 => ?_
    refine (z_X_br (c := ¬ r3 = 0) (s1 := (18, [(0, .ref 122), (1, .int x1), (2, .int x2)], [], h4)) (s2 := (16, [(0, .ref 122), (1, .int x1), (2, .int x2)], [], h4)) rfl).trans (z_ite ?_ ?_)
    · refine (z_X_steps (s' := (21, [(0, .ref 122), (1, .int x1), (2, .int x2)], [.int x1, .int 0, .ref 122], h4)) 3 rfl).trans ?_
      refine (z_X_call (id := 168) (a := [.ref 122, .int 0, .int x1]) (c := 0) (s' := (24, [(0, .ref 122), (1, .int x1), (2, .int x2)], [], h4)) rfl ⟨Nat.le_of_ble_eq_true rfl, Nat.le_of_ble_eq_true rfl⟩).trans ?_
      refine z_bdc fun r5 h6 => ?_
      refine (z_X_steps (s' := (29, [(0, .ref 122), (1, .int x1), (2, .int x2)], [.int x2, .ref 130], h6)) 3 rfl).trans ?_
      refine (z_X_if (g := z_in x2 216) (s' := (30, [(0, .ref 122), (1, .int x1), (2, .int x2)], [.int (h6.1 130 (x2.toNatClampNeg))], h6)) rfl).trans (z_bifA ?_)
      refine (z_X_call (id := 128) (a := [.int (h6.1 130 (x2.toNatClampNeg))]) (c := 1) (s' := (33, [(0, .ref 122), (1, .int x1), (2, .int x2)], [], h6)) rfl ⟨Nat.le_of_ble_eq_true rfl, Nat.le_of_ble_eq_true rfl⟩).trans ?_
      refine z_bdc fun r7 h8 => ?_
      exact z_X_ret rfl
    · refine (z_X_steps (s' := (17, [(0, .ref 122), (1, .int x1), (2, .int x2)], [.int (-1)], h4)) 1 rfl).trans ?_
      exact z_X_ret rfl
set_option maxRecDepth 8000 in
set_option maxHeartbeats 2000000 in
theorem e_M_order (x1 : Int32) (x2 : Int32) (h : z_H) : z_M 196 [.ref 122, .int x1, .int x2] h = (if x1 < 0 then some ((-1), h) else z_bd (z_M 157 [.int x2] h) (fun r1 h2 => (if ¬ r1 = 0 then z_bd (z_M 175 [.ref 122] h2) (fun r3 h4 => (if x1 < h4.1 122 28 then (if ¬ x2 = 0 then (bif z_in x1 8 then some (h4.1 136 (x1.toNatClampNeg), h4) else none) else (bif z_in x1 8 then some (h4.1 135 (x1.toNatClampNeg), h4) else none)) else some ((-4), h4))) else some ((-1), h2)))) := by
  refine (z_M_eq (by decide)).trans ?_
  show z_X zc_M_order 10 (0, [(0, .ref 122), (1, .int x1), (2, .int x2)], [], h) = _
  refine (z_X_steps (s' := (1, [(0, .ref 122), (1, .int x1), (2, .int x2)], [.int x1], h)) 1 rfl).trans ?_
  refine (z_X_br (c := x1 < 0) (s1 := (11, [(0, .ref 122), (1, .int x1), (2, .int x2)], [], h)) (s2 := (4, [(0, .ref 122), (1, .int x1), (2, .int x2)], [], h)) rfl).trans (z_ite ?_ ?_)
  · refine (z_X_steps (s' := (12, [(0, .ref 122), (1, .int x1), (2, .int x2)], [.int (-1)], h)) 1 rfl).trans ?_
    exact z_X_ret rfl
  · refine (z_X_steps (s' := (5, [(0, .ref 122), (1, .int x1), (2, .int x2)], [.int x2], h)) 1 rfl).trans ?_
    refine (z_X_call (id := 157) (a := [.int x2]) (c := 1) (s' := (8, [(0, .ref 122), (1, .int x1), (2, .int x2)], [], h)) rfl ⟨Nat.le_of_ble_eq_true rfl, Nat.le_of_ble_eq_true rfl⟩).trans ?_
    refine z_bdc fun r1 h2 => ?_
    refine (z_X_br (c := ¬ r1 = 0) (s1 := (13, [(0, .ref 122), (1, .int x1), (2, .int x2)], [], h2)) (s2 := (11, [(0, .ref 122), (1, .int x1), (2, .int x2)], [], h2)) rfl).trans (z_ite ?_ ?_)
    · refine (z_X_steps (s' := (14, [(0, .ref 122), (1, .int x1), (2, .int x2)], [.ref 122], h2)) 1 rfl).trans ?_
      refine (z_X_call (id := 175) (a := [.ref 122]) (c := 0) (s' := (17, [(0, .ref 122), (1, .int x1), (2, .int x2)], [], h2)) rfl ⟨Nat.le_of_ble_eq_true rfl, Nat.le_of_ble_eq_true rfl⟩).trans ?_
      refine z_bdc fun r3 h4 => ?_
      refine (z_X_steps (s' := (22, [(0, .ref 122), (1, .int x1), (2, .int x2)], [.int (h4.1 122 28), .int x1], h4)) 3 rfl).trans ?_
      refine (z_X_br (c := x1 < h4.1 122 28) (s1 := (30, [(0, .ref 122), (1, .int x1), (2, .int x2)], [], h4)) (s2 := (25, [(0, .ref 122), (1, .int x1), (2, .int x2)], [], h4)) rfl).trans (z_ite ?_ ?_)
      · refine (z_X_steps (s' := (31, [(0, .ref 122), (1, .int x1), (2, .int x2)], [.int x2], h4)) 1 rfl).trans ?_
        refine (z_X_br (c := ¬ x2 = 0) (s1 := (43, [(0, .ref 122), (1, .int x1), (2, .int x2)], [], h4)) (s2 := (34, [(0, .ref 122), (1, .int x1), (2, .int x2)], [], h4)) rfl).trans (z_ite ?_ ?_)
        · refine (z_X_steps (s' := (48, [(0, .ref 122), (1, .int x1), (2, .int x2)], [.int x1, .ref 136], h4)) 3 rfl).trans ?_
          refine (z_X_if (g := z_in x1 8) (s' := (49, [(0, .ref 122), (1, .int x1), (2, .int x2)], [.int (h4.1 136 (x1.toNatClampNeg))], h4)) rfl).trans (z_bifA ?_)
          exact z_X_ret rfl
        · refine (z_X_steps (s' := (39, [(0, .ref 122), (1, .int x1), (2, .int x2)], [.int x1, .ref 135], h4)) 3 rfl).trans ?_
          refine (z_X_if (g := z_in x1 8) (s' := (40, [(0, .ref 122), (1, .int x1), (2, .int x2)], [.int (h4.1 135 (x1.toNatClampNeg))], h4)) rfl).trans (z_bifA ?_)
          refine (z_X_steps (s' := (49, [(0, .ref 122), (1, .int x1), (2, .int x2)], [.int (h4.1 135 (x1.toNatClampNeg))], h4)) 1 rfl).trans ?_
          exact z_X_ret rfl
      · refine (z_X_steps (s' := (49, [(0, .ref 122), (1, .int x1), (2, .int x2)], [.int (-4)], h4)) 2 rfl).trans ?_
        exact z_X_ret rfl
    · refine (z_X_steps (s' := (12, [(0, .ref 122), (1, .int x1), (2, .int x2)], [.int (-1)], h2)) 1 rfl).trans ?_
      exact z_X_ret rfl
noncomputable def zl_M_same_14 (x1 : Int32) (x2 : Int32) (x3 : Int32) (h : z_H) : Option z_A := z_X zc_M_same 8 (14, [(0, .ref 122), (1, .int x1), (2, .int x2), (3, .int x3)], [], h)
set_option maxRecDepth 8000 in
set_option maxHeartbeats 2000000 in
theorem e_M_same (x1 : Int32) (h : z_H) : z_M 197 [.ref 122, .int x1] h = z_bd (z_M 154 [.ref 122, .int x1] h) (fun r1 h2 => (if ¬ r1 = 0 then zl_M_same_14 x1 0 0 h2 else some ((-1), h2))) := by
  refine (z_M_eq (by decide)).trans ?_
  show z_X zc_M_same 8 (0, [(0, .ref 122), (1, .int x1)], [], h) = _
  refine (z_X_steps (s' := (2, [(0, .ref 122), (1, .int x1)], [.int x1, .ref 122], h)) 2 rfl).trans ?_
  refine (z_X_call (id := 154) (a := [.ref 122, .int x1]) (c := 1) (s' := (5, [(0, .ref 122), (1, .int x1)], [], h)) rfl ⟨Nat.le_of_ble_eq_true rfl, Nat.le_of_ble_eq_true rfl⟩).trans ?_
  refine z_bdc fun r1 h2 => ?_
  refine (z_X_br (c := ¬ r1 = 0) (s1 := (10, [(0, .ref 122), (1, .int x1)], [], h2)) (s2 := (8, [(0, .ref 122), (1, .int x1)], [], h2)) rfl).trans (z_ite ?_ ?_)
  · refine (z_X_steps (s' := (14, [(3, .int 0), (2, .int 0), (0, .ref 122), (1, .int x1)], [], h2)) 4 rfl).trans ?_
    exact z_X_lab rfl
  · refine (z_X_steps (s' := (9, [(0, .ref 122), (1, .int x1)], [.int (-1)], h2)) 1 rfl).trans ?_
    exact z_X_ret rfl
set_option maxRecDepth 8000 in
set_option maxHeartbeats 2000000 in
theorem e_M_same_14 (x1 : Int32) (x2 : Int32) (x3 : Int32) (h : z_H) : zl_M_same_14 x1 x2 x3 h = (if (256 : Int32) ≤ x3 then some (x2, h) else z_bd (z_M 181 [.ref 122, .int x1, .int x3] h) (fun r1 h2 => z_bd (z_M 128 [.int r1] h2) (fun r3 h4 => zl_M_same_14 x1 (x2 + r3) (x3 + 1) h4))) := by
  show z_X zc_M_same 8 (14, [(0, .ref 122), (1, .int x1), (2, .int x2), (3, .int x3)], [], h) = _
  refine (z_X_steps (s' := (18, [(0, .ref 122), (1, .int x1), (2, .int x2), (3, .int x3)], [.int 256, .int x3], h)) 2 rfl).trans ?_
  refine (z_X_br (c := (256 : Int32) ≤ x3) (s1 := (39, [(0, .ref 122), (1, .int x1), (2, .int x2), (3, .int x3)], [], h)) (s2 := (21, [(0, .ref 122), (1, .int x1), (2, .int x2), (3, .int x3)], [], h)) rfl).trans (z_ite ?_ ?_)
  · refine (z_X_steps (s' := (40, [(0, .ref 122), (1, .int x1), (2, .int x2), (3, .int x3)], [.int x2], h)) 1 rfl).trans ?_
    exact z_X_ret rfl
  · refine (z_X_steps (s' := (25, [(0, .ref 122), (1, .int x1), (2, .int x2), (3, .int x3)], [.int x3, .int x1, .ref 122, .int x2], h)) 4 rfl).trans ?_
    refine (z_X_call (id := 181) (a := [.ref 122, .int x1, .int x3]) (c := 1) (s' := (28, [(0, .ref 122), (1, .int x1), (2, .int x2), (3, .int x3)], [.int x2], h)) rfl ⟨Nat.le_of_ble_eq_true rfl, Nat.le_of_ble_eq_true rfl⟩).trans ?_
    refine z_bdc fun r1 h2 => ?_
    refine (z_X_call (id := 128) (a := [.int r1]) (c := 1) (s' := (31, [(0, .ref 122), (1, .int x1), (2, .int x2), (3, .int x3)], [.int x2], h2)) rfl ⟨Nat.le_of_ble_eq_true rfl, Nat.le_of_ble_eq_true rfl⟩).trans ?_
    refine z_bdc fun r3 h4 => ?_
    refine (z_X_steps (s' := (14, [(3, .int (x3 + 1)), (2, .int (x2 + r3)), (0, .ref 122), (1, .int x1)], [], h4)) 4 rfl).trans ?_
    exact z_X_lab rfl
noncomputable def zl_M_say_33 (x1 : Int32) (x2 : Int32) (x3 : Int32) (x4 : Int32) (t0 : Int64) (t1 : Int64) (t2 : Int64) (h : z_H) : Option z_A := z_X zc_M_say 4 (33, [(0, .ref 122), (1, .int x1), (2, .int x2), (3, .int x3), (4, .int x4)], [.long t2, .long t1, .long t0], h)
set_option maxRecDepth 8000 in
set_option maxHeartbeats 2000000 in
theorem e_M_say (x1 : Int32) (x2 : Int32) (x3 : Int32) (x4 : Int32) (h : z_H) : z_M 198 [.ref 122, .int x1, .int x2, .int x3, .int x4] h = z_bd (z_M 153 [.ref 122, .int x1, .int x2] h) (fun r1 h2 => (if r1 = 0 then some ((-1), h2) else z_bd (z_M 157 [.int x3] h2) (fun r3 h4 => (if r3 = 0 then some ((-1), h4) else (if ¬ x3 = 0 then zl_M_say_33 x1 x2 x3 x4 (x4.toInt64) ((0 : Int32).toInt64) ((3 : Int32).toInt64) h4 else zl_M_say_33 x1 x2 x3 x4 (x4.toInt64) ((0 : Int32).toInt64) ((9 : Int32).toInt64) h4))))) := by
  refine (z_M_eq (by decide)).trans ?_
  show z_X zc_M_say 4 (0, [(0, .ref 122), (1, .int x1), (2, .int x2), (3, .int x3), (4, .int x4)], [], h) = _
  refine (z_X_steps (s' := (3, [(0, .ref 122), (1, .int x1), (2, .int x2), (3, .int x3), (4, .int x4)], [.int x2, .int x1, .ref 122], h)) 3 rfl).trans ?_
  refine (z_X_call (id := 153) (a := [.ref 122, .int x1, .int x2]) (c := 1) (s' := (6, [(0, .ref 122), (1, .int x1), (2, .int x2), (3, .int x3), (4, .int x4)], [], h)) rfl ⟨Nat.le_of_ble_eq_true rfl, Nat.le_of_ble_eq_true rfl⟩).trans ?_
  refine z_bdc fun r1 h2 => ?_
  refine (z_X_br (c := r1 = 0) (s1 := (39, [(0, .ref 122), (1, .int x1), (2, .int x2), (3, .int x3), (4, .int x4)], [], h2)) (s2 := (9, [(0, .ref 122), (1, .int x1), (2, .int x2), (3, .int x3), (4, .int x4)], [], h2)) rfl).trans (z_ite ?_ ?_)
  · refine (z_X_steps (s' := (40, [(0, .ref 122), (1, .int x1), (2, .int x2), (3, .int x3), (4, .int x4)], [.int (-1)], h2)) 1 rfl).trans ?_
    exact z_X_ret rfl
  · refine (z_X_steps (s' := (10, [(0, .ref 122), (1, .int x1), (2, .int x2), (3, .int x3), (4, .int x4)], [.int x3], h2)) 1 rfl).trans ?_
    refine (z_X_call (id := 157) (a := [.int x3]) (c := 1) (s' := (13, [(0, .ref 122), (1, .int x1), (2, .int x2), (3, .int x3), (4, .int x4)], [], h2)) rfl ⟨Nat.le_of_ble_eq_true rfl, Nat.le_of_ble_eq_true rfl⟩).trans ?_
    refine z_bdc fun r3 h4 => ?_
    refine (z_X_br (c := r3 = 0) (s1 := (39, [(0, .ref 122), (1, .int x1), (2, .int x2), (3, .int x3), (4, .int x4)], [], h4)) (s2 := (16, [(0, .ref 122), (1, .int x1), (2, .int x2), (3, .int x3), (4, .int x4)], [], h4)) rfl).trans (z_ite ?_ ?_)
    · refine (z_X_steps (s' := (40, [(0, .ref 122), (1, .int x1), (2, .int x2), (3, .int x3), (4, .int x4)], [.int (-1)], h4)) 1 rfl).trans ?_
      exact z_X_ret rfl
    · refine (z_X_steps (s' := (21, [(0, .ref 122), (1, .int x1), (2, .int x2), (3, .int x3), (4, .int x4)], [.int x3, .long ((0 : Int32).toInt64), .long (x4.toInt64)], h4)) 4 rfl).trans ?_
      refine (z_X_br (c := ¬ x3 = 0) (s1 := (30, [(0, .ref 122), (1, .int x1), (2, .int x2), (3, .int x3), (4, .int x4)], [.long ((0 : Int32).toInt64), .long (x4.toInt64)], h4)) (s2 := (24, [(0, .ref 122), (1, .int x1), (2, .int x2), (3, .int x3), (4, .int x4)], [.long ((0 : Int32).toInt64), .long (x4.toInt64)], h4)) rfl).trans (z_ite ?_ ?_)
      · refine (z_X_steps (s' := (33, [(0, .ref 122), (1, .int x1), (2, .int x2), (3, .int x3), (4, .int x4)], [.long ((3 : Int32).toInt64), .long ((0 : Int32).toInt64), .long (x4.toInt64)], h4)) 1 rfl).trans ?_
        exact z_X_lab rfl
      · refine (z_X_steps (s' := (33, [(0, .ref 122), (1, .int x1), (2, .int x2), (3, .int x3), (4, .int x4)], [.long ((9 : Int32).toInt64), .long ((0 : Int32).toInt64), .long (x4.toInt64)], h4)) 2 rfl).trans ?_
        exact z_X_lab rfl
set_option maxRecDepth 8000 in
set_option maxHeartbeats 2000000 in
theorem e_M_say_33 (x1 : Int32) (x2 : Int32) (x3 : Int32) (x4 : Int32) (t0 : Int64) (t1 : Int64) (t2 : Int64) (h : z_H) : zl_M_say_33 x1 x2 x3 x4 t0 t1 t2 h = z_bd (z_M 127 [.long t0, .long t1, .long t2] h) (fun r1 h2 => (if ¬ r1 = 0 then z_bd (z_M 129 [.int 1, .int x1, .int x2] h2) (fun r3 h4 => (bif z_in (r3 + 0) 549 then (bif z_in (r3 + 1) 549 then (bif z_in (r3 + 0) 549 then (bif z_in (r3 + 1) 549 then some ((10 * (h4.1 123 ((r3 + 0).toNatClampNeg))) + (h4.1 123 ((r3 + 1).toNatClampNeg)), (z_wI (z_wI h4 123 ((r3 + 0).toNatClampNeg) x3) 123 ((r3 + 1).toNatClampNeg) x4)) else none) else none) else none) else none)) else some ((-1), h2))) := by
  show z_X zc_M_say 4 (33, [(0, .ref 122), (1, .int x1), (2, .int x2), (3, .int x3), (4, .int x4)], [.long t2, .long t1, .long t0], h) = _
  refine (z_X_call (id := 127) (a := [.long t0, .long t1, .long t2]) (c := 1) (s' := (36, [(0, .ref 122), (1, .int x1), (2, .int x2), (3, .int x3), (4, .int x4)], [], h)) rfl ⟨Nat.le_of_ble_eq_true rfl, Nat.le_of_ble_eq_true rfl⟩).trans ?_
  refine z_bdc fun r1 h2 => ?_
  refine (z_X_br (c := ¬ r1 = 0) (s1 := (41, [(0, .ref 122), (1, .int x1), (2, .int x2), (3, .int x3), (4, .int x4)], [], h2)) (s2 := (39, [(0, .ref 122), (1, .int x1), (2, .int x2), (3, .int x3), (4, .int x4)], [], h2)) rfl).trans (z_ite ?_ ?_)
  · refine (z_X_steps (s' := (44, [(0, .ref 122), (1, .int x1), (2, .int x2), (3, .int x3), (4, .int x4)], [.int x2, .int x1, .int 1], h2)) 3 rfl).trans ?_
    refine (z_X_call (id := 129) (a := [.int 1, .int x1, .int x2]) (c := 1) (s' := (47, [(0, .ref 122), (1, .int x1), (2, .int x2), (3, .int x3), (4, .int x4)], [], h2)) rfl ⟨Nat.le_of_ble_eq_true rfl, Nat.le_of_ble_eq_true rfl⟩).trans ?_
    refine z_bdc fun r3 h4 => ?_
    refine (z_X_steps (s' := (59, [(5, .int r3), (0, .ref 122), (1, .int x1), (2, .int x2), (3, .int x3), (4, .int x4)], [.int (r3 + 0), .ref 123, .int 10], h4)) 7 rfl).trans ?_
    refine (z_X_if (g := z_in (r3 + 0) 549) (s' := (60, [(5, .int r3), (0, .ref 122), (1, .int x1), (2, .int x2), (3, .int x3), (4, .int x4)], [.int (h4.1 123 ((r3 + 0).toNatClampNeg)), .int 10], h4)) rfl).trans (z_bifA ?_)
    refine (z_X_steps (s' := (69, [(5, .int r3), (0, .ref 122), (1, .int x1), (2, .int x2), (3, .int x3), (4, .int x4)], [.int (r3 + 1), .ref 123, .int (10 * (h4.1 123 ((r3 + 0).toNatClampNeg)))], h4)) 6 rfl).trans ?_
    refine (z_X_if (g := z_in (r3 + 1) 549) (s' := (70, [(5, .int r3), (0, .ref 122), (1, .int x1), (2, .int x2), (3, .int x3), (4, .int x4)], [.int (h4.1 123 ((r3 + 1).toNatClampNeg)), .int (10 * (h4.1 123 ((r3 + 0).toNatClampNeg)))], h4)) rfl).trans (z_bifA ?_)
    refine (z_X_steps (s' := (82, [(6, .int ((10 * (h4.1 123 ((r3 + 0).toNatClampNeg))) + (h4.1 123 ((r3 + 1).toNatClampNeg)))), (5, .int r3), (0, .ref 122), (1, .int x1), (2, .int x2), (3, .int x3), (4, .int x4)], [.int x3, .int (r3 + 0), .ref 123], h4)) 8 rfl).trans ?_
    refine (z_X_if (g := z_in (r3 + 0) 549) (s' := (83, [(6, .int ((10 * (h4.1 123 ((r3 + 0).toNatClampNeg))) + (h4.1 123 ((r3 + 1).toNatClampNeg)))), (5, .int r3), (0, .ref 122), (1, .int x1), (2, .int x2), (3, .int x3), (4, .int x4)], [], (z_wI h4 123 ((r3 + 0).toNatClampNeg) x3))) rfl).trans (z_bifA ?_)
    refine (z_X_steps (s' := (93, [(6, .int ((10 * (h4.1 123 ((r3 + 0).toNatClampNeg))) + (h4.1 123 ((r3 + 1).toNatClampNeg)))), (5, .int r3), (0, .ref 122), (1, .int x1), (2, .int x2), (3, .int x3), (4, .int x4)], [.int x4, .int (r3 + 1), .ref 123], (z_wI h4 123 ((r3 + 0).toNatClampNeg) x3))) 6 rfl).trans ?_
    refine (z_X_if (g := z_in (r3 + 1) 549) (s' := (94, [(6, .int ((10 * (h4.1 123 ((r3 + 0).toNatClampNeg))) + (h4.1 123 ((r3 + 1).toNatClampNeg)))), (5, .int r3), (0, .ref 122), (1, .int x1), (2, .int x2), (3, .int x3), (4, .int x4)], [], (z_wI (z_wI h4 123 ((r3 + 0).toNatClampNeg) x3) 123 ((r3 + 1).toNatClampNeg) x4))) rfl).trans (z_bifA ?_)
    refine (z_X_steps (s' := (96, [(6, .int ((10 * (h4.1 123 ((r3 + 0).toNatClampNeg))) + (h4.1 123 ((r3 + 1).toNatClampNeg)))), (5, .int r3), (0, .ref 122), (1, .int x1), (2, .int x2), (3, .int x3), (4, .int x4)], [.int ((10 * (h4.1 123 ((r3 + 0).toNatClampNeg))) + (h4.1 123 ((r3 + 1).toNatClampNeg)))], (z_wI (z_wI h4 123 ((r3 + 0).toNatClampNeg) x3) 123 ((r3 + 1).toNatClampNeg) x4))) 1 rfl).trans ?_
    exact z_X_ret rfl
  · refine (z_X_steps (s' := (40, [(0, .ref 122), (1, .int x1), (2, .int x2), (3, .int x3), (4, .int x4)], [.int (-1)], h2)) 1 rfl).trans ?_
    exact z_X_ret rfl
noncomputable def zl_M_lead_48 (x1 : Int32) (x2 : Int32) (x3 : Int32) (x4 : Int32) (h : z_H) : Option z_A := z_X zc_M_lead 4 (48, [(0, .ref 122), (1, .int x1), (2, .int x2), (3, .int x3), (4, .int x4)], [], h)
set_option maxRecDepth 8000 in
set_option maxHeartbeats 2000000 in
theorem e_M_lead (x1 : Int32) (x2 : Int32) (x3 : Int32) (x4 : Int32) (h : z_H) : z_M 199 [.ref 122, .int x1, .int x2, .int x3, .int x4] h = z_bd (z_M 153 [.ref 122, .int x1, .int x2] h) (fun r1 h2 => (if r1 = 0 then some ((-1), h2) else z_bd (z_M 158 [.ref 122, .int 1, .int x1, .int x2, .int 2] h2) (fun r3 h4 => z_bd (z_M 127 [.long (x3.toInt64), .long ((0 : Int32).toInt64), .long ((r3 - 1).toInt64)] h4) (fun r5 h6 => (if r5 = 0 then some ((-1), h6) else (if x4 = 9 then zl_M_lead_48 x1 x2 x3 x4 h6 else z_bd (z_M 153 [.ref 122, .int x1, .int x4] h6) (fun r7 h8 => (if ¬ r7 = 0 then zl_M_lead_48 x1 x2 x3 x4 h8 else some ((-1), h8))))))))) := by
  refine (z_M_eq (by decide)).trans ?_
  show z_X zc_M_lead 4 (0, [(0, .ref 122), (1, .int x1), (2, .int x2), (3, .int x3), (4, .int x4)], [], h) = _
  refine (z_X_steps (s' := (3, [(0, .ref 122), (1, .int x1), (2, .int x2), (3, .int x3), (4, .int x4)], [.int x2, .int x1, .ref 122], h)) 3 rfl).trans ?_
  refine (z_X_call (id := 153) (a := [.ref 122, .int x1, .int x2]) (c := 1) (s' := (6, [(0, .ref 122), (1, .int x1), (2, .int x2), (3, .int x3), (4, .int x4)], [], h)) rfl ⟨Nat.le_of_ble_eq_true rfl, Nat.le_of_ble_eq_true rfl⟩).trans ?_
  refine z_bdc fun r1 h2 => ?_
  refine (z_X_br (c := r1 = 0) (s1 := (46, [(0, .ref 122), (1, .int x1), (2, .int x2), (3, .int x3), (4, .int x4)], [], h2)) (s2 := (9, [(0, .ref 122), (1, .int x1), (2, .int x2), (3, .int x3), (4, .int x4)], [], h2)) rfl).trans (z_ite ?_ ?_)
  · refine (z_X_steps (s' := (47, [(0, .ref 122), (1, .int x1), (2, .int x2), (3, .int x3), (4, .int x4)], [.int (-1)], h2)) 1 rfl).trans ?_
    exact z_X_ret rfl
  · refine (z_X_steps (s' := (17, [(0, .ref 122), (1, .int x1), (2, .int x2), (3, .int x3), (4, .int x4)], [.int 2, .int x2, .int x1, .int 1, .ref 122, .long ((0 : Int32).toInt64), .long (x3.toInt64)], h2)) 8 rfl).trans ?_
    refine (z_X_call (id := 158) (a := [.ref 122, .int 1, .int x1, .int x2, .int 2]) (c := 1) (s' := (20, [(0, .ref 122), (1, .int x1), (2, .int x2), (3, .int x3), (4, .int x4)], [.long ((0 : Int32).toInt64), .long (x3.toInt64)], h2)) rfl ⟨Nat.le_of_ble_eq_true rfl, Nat.le_of_ble_eq_true rfl⟩).trans ?_
    refine z_bdc fun r3 h4 => ?_
    refine (z_X_steps (s' := (23, [(0, .ref 122), (1, .int x1), (2, .int x2), (3, .int x3), (4, .int x4)], [.long ((r3 - 1).toInt64), .long ((0 : Int32).toInt64), .long (x3.toInt64)], h4)) 3 rfl).trans ?_
    refine (z_X_call (id := 127) (a := [.long (x3.toInt64), .long ((0 : Int32).toInt64), .long ((r3 - 1).toInt64)]) (c := 1) (s' := (26, [(0, .ref 122), (1, .int x1), (2, .int x2), (3, .int x3), (4, .int x4)], [], h4)) rfl ⟨Nat.le_of_ble_eq_true rfl, Nat.le_of_ble_eq_true rfl⟩).trans ?_
    refine z_bdc fun r5 h6 => ?_
    refine (z_X_br (c := r5 = 0) (s1 := (46, [(0, .ref 122), (1, .int x1), (2, .int x2), (3, .int x3), (4, .int x4)], [], h6)) (s2 := (29, [(0, .ref 122), (1, .int x1), (2, .int x2), (3, .int x3), (4, .int x4)], [], h6)) rfl).trans (z_ite ?_ ?_)
    · refine (z_X_steps (s' := (47, [(0, .ref 122), (1, .int x1), (2, .int x2), (3, .int x3), (4, .int x4)], [.int (-1)], h6)) 1 rfl).trans ?_
      exact z_X_ret rfl
    · refine (z_X_steps (s' := (33, [(0, .ref 122), (1, .int x1), (2, .int x2), (3, .int x3), (4, .int x4)], [.int 9, .int x4], h6)) 2 rfl).trans ?_
      refine (z_X_br (c := x4 = 9) (s1 := (48, [(0, .ref 122), (1, .int x1), (2, .int x2), (3, .int x3), (4, .int x4)], [], h6)) (s2 := (36, [(0, .ref 122), (1, .int x1), (2, .int x2), (3, .int x3), (4, .int x4)], [], h6)) rfl).trans (z_ite ?_ ?_)
      · exact z_X_lab rfl
      · refine (z_X_steps (s' := (40, [(0, .ref 122), (1, .int x1), (2, .int x2), (3, .int x3), (4, .int x4)], [.int x4, .int x1, .ref 122], h6)) 3 rfl).trans ?_
        refine (z_X_call (id := 153) (a := [.ref 122, .int x1, .int x4]) (c := 1) (s' := (43, [(0, .ref 122), (1, .int x1), (2, .int x2), (3, .int x3), (4, .int x4)], [], h6)) rfl ⟨Nat.le_of_ble_eq_true rfl, Nat.le_of_ble_eq_true rfl⟩).trans ?_
        refine z_bdc fun r7 h8 => ?_
        refine (z_X_br (c := ¬ r7 = 0) (s1 := (48, [(0, .ref 122), (1, .int x1), (2, .int x2), (3, .int x3), (4, .int x4)], [], h8)) (s2 := (46, [(0, .ref 122), (1, .int x1), (2, .int x2), (3, .int x3), (4, .int x4)], [], h8)) rfl).trans (z_ite ?_ ?_)
        · exact z_X_lab rfl
        · refine (z_X_steps (s' := (47, [(0, .ref 122), (1, .int x1), (2, .int x2), (3, .int x3), (4, .int x4)], [.int (-1)], h8)) 1 rfl).trans ?_
          exact z_X_ret rfl
set_option maxRecDepth 8000 in
set_option maxHeartbeats 2000000 in
theorem e_M_lead_48 (x1 : Int32) (x2 : Int32) (x3 : Int32) (x4 : Int32) (h : z_H) : zl_M_lead_48 x1 x2 x3 x4 h = z_bd (z_M 129 [.int 1, .int x1, .int x2] h) (fun r1 h2 => (bif z_in ((r1 + 3) + x3) 549 then (bif z_in ((r1 + 3) + x3) 549 then some (h2.1 123 (((r1 + 3) + x3).toNatClampNeg), (z_wI h2 123 (((r1 + 3) + x3).toNatClampNeg) x4)) else none) else none)) := by
  show z_X zc_M_lead 4 (48, [(0, .ref 122), (1, .int x1), (2, .int x2), (3, .int x3), (4, .int x4)], [], h) = _
  refine (z_X_steps (s' := (51, [(0, .ref 122), (1, .int x1), (2, .int x2), (3, .int x3), (4, .int x4)], [.int x2, .int x1, .int 1], h)) 3 rfl).trans ?_
  refine (z_X_call (id := 129) (a := [.int 1, .int x1, .int x2]) (c := 1) (s' := (54, [(0, .ref 122), (1, .int x1), (2, .int x2), (3, .int x3), (4, .int x4)], [], h)) rfl ⟨Nat.le_of_ble_eq_true rfl, Nat.le_of_ble_eq_true rfl⟩).trans ?_
  refine z_bdc fun r1 h2 => ?_
  refine (z_X_steps (s' := (66, [(5, .int ((r1 + 3) + x3)), (0, .ref 122), (1, .int x1), (2, .int x2), (3, .int x3), (4, .int x4)], [.int ((r1 + 3) + x3), .ref 123], h2)) 8 rfl).trans ?_
  refine (z_X_if (g := z_in ((r1 + 3) + x3) 549) (s' := (67, [(5, .int ((r1 + 3) + x3)), (0, .ref 122), (1, .int x1), (2, .int x2), (3, .int x3), (4, .int x4)], [.int (h2.1 123 (((r1 + 3) + x3).toNatClampNeg))], h2)) rfl).trans (z_bifA ?_)
  refine (z_X_steps (s' := (77, [(6, .int (h2.1 123 (((r1 + 3) + x3).toNatClampNeg))), (5, .int ((r1 + 3) + x3)), (0, .ref 122), (1, .int x1), (2, .int x2), (3, .int x3), (4, .int x4)], [.int x4, .int ((r1 + 3) + x3), .ref 123], h2)) 5 rfl).trans ?_
  refine (z_X_if (g := z_in ((r1 + 3) + x3) 549) (s' := (78, [(6, .int (h2.1 123 (((r1 + 3) + x3).toNatClampNeg))), (5, .int ((r1 + 3) + x3)), (0, .ref 122), (1, .int x1), (2, .int x2), (3, .int x3), (4, .int x4)], [], (z_wI h2 123 (((r1 + 3) + x3).toNatClampNeg) x4))) rfl).trans (z_bifA ?_)
  refine (z_X_steps (s' := (80, [(6, .int (h2.1 123 (((r1 + 3) + x3).toNatClampNeg))), (5, .int ((r1 + 3) + x3)), (0, .ref 122), (1, .int x1), (2, .int x2), (3, .int x3), (4, .int x4)], [.int (h2.1 123 (((r1 + 3) + x3).toNatClampNeg))], (z_wI h2 123 (((r1 + 3) + x3).toNatClampNeg) x4))) 1 rfl).trans ?_
  exact z_X_ret rfl
noncomputable def zl_M_nexts_46 (x3 : Int32) (x4 : Int32) (x5 : Int32) (x6 : Int32) (h : z_H) : Option z_A := z_X zc_M_nexts 4 (46, [(0, .ref 122), (3, .int x3), (4, .int x4), (5, .int x5), (6, .int x6)], [], h)
noncomputable def zl_M_nexts_75 (x3 : Int32) (x4 : Int32) (x5 : Int32) (x6 : Int32) (h : z_H) : Option z_A := z_X zc_M_nexts 4 (75, [(0, .ref 122), (3, .int x3), (4, .int x4), (5, .int x5), (6, .int x6)], [], h)
set_option maxRecDepth 8000 in
set_option maxHeartbeats 2000000 in
theorem e_M_nexts (x1 : Int32) (x2 : Int32) (x3 : Int32) (h : z_H) : z_M 200 [.ref 122, .int x1, .int x2, .int x3] h = z_bd (z_M 153 [.ref 122, .int x1, .int x2] h) (fun r1 h2 => (if r1 = 0 then some ((-1), h2) else z_bd (z_M 127 [.long (x3.toInt64), .long ((0 : Int32).toInt64), .long ((2 : Int32).toInt64)] h2) (fun r3 h4 => (if ¬ r3 = 0 then z_bd (z_M 129 [.int 1, .int x1, .int x2] h4) (fun r5 h6 => (bif z_in (r5 + 2) 549 then zl_M_nexts_46 x3 r5 (h6.1 123 ((r5 + 2).toNatClampNeg)) (h6.1 123 ((r5 + 2).toNatClampNeg)) h6 else none)) else some ((-1), h4))))) := by
  refine (z_M_eq (by decide)).trans ?_
  show z_X zc_M_nexts 4 (0, [(0, .ref 122), (1, .int x1), (2, .int x2), (3, .int x3)], [], h) = _
  refine (z_X_steps (s' := (3, [(0, .ref 122), (1, .int x1), (2, .int x2), (3, .int x3)], [.int x2, .int x1, .ref 122], h)) 3 rfl).trans ?_
  refine (z_X_call (id := 153) (a := [.ref 122, .int x1, .int x2]) (c := 1) (s' := (6, [(0, .ref 122), (1, .int x1), (2, .int x2), (3, .int x3)], [], h)) rfl ⟨Nat.le_of_ble_eq_true rfl, Nat.le_of_ble_eq_true rfl⟩).trans ?_
  refine z_bdc fun r1 h2 => ?_
  refine (z_X_br (c := r1 = 0) (s1 := (21, [(0, .ref 122), (1, .int x1), (2, .int x2), (3, .int x3)], [], h2)) (s2 := (9, [(0, .ref 122), (1, .int x1), (2, .int x2), (3, .int x3)], [], h2)) rfl).trans (z_ite ?_ ?_)
  · refine (z_X_steps (s' := (22, [(0, .ref 122), (1, .int x1), (2, .int x2), (3, .int x3)], [.int (-1)], h2)) 1 rfl).trans ?_
    exact z_X_ret rfl
  · refine (z_X_steps (s' := (15, [(0, .ref 122), (1, .int x1), (2, .int x2), (3, .int x3)], [.long ((2 : Int32).toInt64), .long ((0 : Int32).toInt64), .long (x3.toInt64)], h2)) 4 rfl).trans ?_
    refine (z_X_call (id := 127) (a := [.long (x3.toInt64), .long ((0 : Int32).toInt64), .long ((2 : Int32).toInt64)]) (c := 1) (s' := (18, [(0, .ref 122), (1, .int x1), (2, .int x2), (3, .int x3)], [], h2)) rfl ⟨Nat.le_of_ble_eq_true rfl, Nat.le_of_ble_eq_true rfl⟩).trans ?_
    refine z_bdc fun r3 h4 => ?_
    refine (z_X_br (c := ¬ r3 = 0) (s1 := (23, [(0, .ref 122), (1, .int x1), (2, .int x2), (3, .int x3)], [], h4)) (s2 := (21, [(0, .ref 122), (1, .int x1), (2, .int x2), (3, .int x3)], [], h4)) rfl).trans (z_ite ?_ ?_)
    · refine (z_X_steps (s' := (26, [(0, .ref 122), (1, .int x1), (2, .int x2), (3, .int x3)], [.int x2, .int x1, .int 1], h4)) 3 rfl).trans ?_
      refine (z_X_call (id := 129) (a := [.int 1, .int x1, .int x2]) (c := 1) (s' := (29, [(0, .ref 122), (1, .int x1), (2, .int x2), (3, .int x3)], [], h4)) rfl ⟨Nat.le_of_ble_eq_true rfl, Nat.le_of_ble_eq_true rfl⟩).trans ?_
      refine z_bdc fun r5 h6 => ?_
      refine (z_X_steps (s' := (39, [(4, .int r5), (0, .ref 122), (1, .int x1), (2, .int x2), (3, .int x3)], [.int (r5 + 2), .ref 123], h6)) 6 rfl).trans ?_
      refine (z_X_if (g := z_in (r5 + 2) 549) (s' := (40, [(4, .int r5), (0, .ref 122), (1, .int x1), (2, .int x2), (3, .int x3)], [.int (h6.1 123 ((r5 + 2).toNatClampNeg))], h6)) rfl).trans (z_bifA ?_)
      refine (z_X_steps (s' := (46, [(6, .int (h6.1 123 ((r5 + 2).toNatClampNeg))), (5, .int (h6.1 123 ((r5 + 2).toNatClampNeg))), (4, .int r5), (0, .ref 122), (1, .int x1), (2, .int x2), (3, .int x3)], [], h6)) 3 rfl).trans ?_
      exact z_X_lab rfl
    · refine (z_X_steps (s' := (22, [(0, .ref 122), (1, .int x1), (2, .int x2), (3, .int x3)], [.int (-1)], h4)) 1 rfl).trans ?_
      exact z_X_ret rfl
set_option maxRecDepth 8000 in
set_option maxHeartbeats 2000000 in
theorem e_M_nexts_46 (x3 : Int32) (x4 : Int32) (x5 : Int32) (x6 : Int32) (h : z_H) : zl_M_nexts_46 x3 x4 x5 x6 h = (if x3 ≤ x6 then zl_M_nexts_75 x3 x4 x5 x3 h else (bif z_in ((x4 + 3) + x6) 549 then zl_M_nexts_46 x3 x4 x5 (x6 + 1) (z_wI h 123 (((x4 + 3) + x6).toNatClampNeg) 9) else none)) := by
  show z_X zc_M_nexts 4 (46, [(0, .ref 122), (3, .int x3), (4, .int x4), (5, .int x5), (6, .int x6)], [], h) = _
  refine (z_X_steps (s' := (49, [(0, .ref 122), (3, .int x3), (4, .int x4), (5, .int x5), (6, .int x6)], [.int x3, .int x6], h)) 2 rfl).trans ?_
  refine (z_X_br (c := x3 ≤ x6) (s1 := (72, [(0, .ref 122), (3, .int x3), (4, .int x4), (5, .int x5), (6, .int x6)], [], h)) (s2 := (52, [(0, .ref 122), (3, .int x3), (4, .int x4), (5, .int x5), (6, .int x6)], [], h)) rfl).trans (z_ite ?_ ?_)
  · refine (z_X_steps (s' := (75, [(6, .int x3), (0, .ref 122), (3, .int x3), (4, .int x4), (5, .int x5)], [], h)) 2 rfl).trans ?_
    exact z_X_lab rfl
  · refine (z_X_steps (s' := (65, [(0, .ref 122), (3, .int x3), (4, .int x4), (5, .int x5), (6, .int x6)], [.int 9, .int ((x4 + 3) + x6), .ref 123], h)) 8 rfl).trans ?_
    refine (z_X_if (g := z_in ((x4 + 3) + x6) 549) (s' := (66, [(0, .ref 122), (3, .int x3), (4, .int x4), (5, .int x5), (6, .int x6)], [], (z_wI h 123 (((x4 + 3) + x6).toNatClampNeg) 9))) rfl).trans (z_bifA ?_)
    refine (z_X_steps (s' := (46, [(6, .int (x6 + 1)), (0, .ref 122), (3, .int x3), (4, .int x4), (5, .int x5)], [], (z_wI h 123 (((x4 + 3) + x6).toNatClampNeg) 9))) 2 rfl).trans ?_
    exact z_X_lab rfl
set_option maxRecDepth 8000 in
set_option maxHeartbeats 2000000 in
theorem e_M_nexts_75 (x3 : Int32) (x4 : Int32) (x5 : Int32) (x6 : Int32) (h : z_H) : zl_M_nexts_75 x3 x4 x5 x6 h = (if (2 : Int32) ≤ x6 then (bif z_in (x4 + 2) 549 then some (x5, (z_wI h 123 ((x4 + 2).toNatClampNeg) x3)) else none) else (bif z_in ((x4 + 3) + x6) 549 then zl_M_nexts_75 x3 x4 x5 (x6 + 1) (z_wI h 123 (((x4 + 3) + x6).toNatClampNeg) 0) else none)) := by
  show z_X zc_M_nexts 4 (75, [(0, .ref 122), (3, .int x3), (4, .int x4), (5, .int x5), (6, .int x6)], [], h) = _
  refine (z_X_steps (s' := (78, [(0, .ref 122), (3, .int x3), (4, .int x4), (5, .int x5), (6, .int x6)], [.int 2, .int x6], h)) 2 rfl).trans ?_
  refine (z_X_br (c := (2 : Int32) ≤ x6) (s1 := (100, [(0, .ref 122), (3, .int x3), (4, .int x4), (5, .int x5), (6, .int x6)], [], h)) (s2 := (81, [(0, .ref 122), (3, .int x3), (4, .int x4), (5, .int x5), (6, .int x6)], [], h)) rfl).trans (z_ite ?_ ?_)
  · refine (z_X_steps (s' := (109, [(0, .ref 122), (3, .int x3), (4, .int x4), (5, .int x5), (6, .int x6)], [.int x3, .int (x4 + 2), .ref 123], h)) 6 rfl).trans ?_
    refine (z_X_if (g := z_in (x4 + 2) 549) (s' := (110, [(0, .ref 122), (3, .int x3), (4, .int x4), (5, .int x5), (6, .int x6)], [], (z_wI h 123 ((x4 + 2).toNatClampNeg) x3))) rfl).trans (z_bifA ?_)
    refine (z_X_steps (s' := (112, [(0, .ref 122), (3, .int x3), (4, .int x4), (5, .int x5), (6, .int x6)], [.int x5], (z_wI h 123 ((x4 + 2).toNatClampNeg) x3))) 1 rfl).trans ?_
    exact z_X_ret rfl
  · refine (z_X_steps (s' := (93, [(0, .ref 122), (3, .int x3), (4, .int x4), (5, .int x5), (6, .int x6)], [.int 0, .int ((x4 + 3) + x6), .ref 123], h)) 8 rfl).trans ?_
    refine (z_X_if (g := z_in ((x4 + 3) + x6) 549) (s' := (94, [(0, .ref 122), (3, .int x3), (4, .int x4), (5, .int x5), (6, .int x6)], [], (z_wI h 123 (((x4 + 3) + x6).toNatClampNeg) 0))) rfl).trans (z_bifA ?_)
    refine (z_X_steps (s' := (75, [(6, .int (x6 + 1)), (0, .ref 122), (3, .int x3), (4, .int x4), (5, .int x5)], [], (z_wI h 123 (((x4 + 3) + x6).toNatClampNeg) 0))) 2 rfl).trans ?_
    exact z_X_lab rfl
noncomputable def zl_M_has_31 (x1 : Int32) (x2 : Int32) (x3 : Int32) (h : z_H) : Option z_A := z_X zc_M_has 3 (31, [(0, .ref 122), (1, .int x1), (2, .int x2), (3, .int x3)], [], h)
set_option maxRecDepth 8000 in
set_option maxHeartbeats 2000000 in
theorem e_M_has (x1 : Int32) (x2 : Int32) (x3 : Int32) (h : z_H) : z_M 201 [.ref 122, .int x1, .int x2, .int x3] h = z_bd (z_M 154 [.ref 122, .int x1] h) (fun r1 h2 => (if r1 = 0 then some ((-1), h2) else z_bd (z_M 155 [.int x2] h2) (fun r3 h4 => (if r3 = 0 then some ((-1), h4) else (if x3 = (-4) then zl_M_has_31 x1 x2 x3 h4 else z_bd (z_M 152 [.ref 122, .int x3] h4) (fun r5 h6 => (if ¬ r5 = 0 then zl_M_has_31 x1 x2 x3 h6 else some ((-1), h6)))))))) := by
  refine (z_M_eq (by decide)).trans ?_
  show z_X zc_M_has 3 (0, [(0, .ref 122), (1, .int x1), (2, .int x2), (3, .int x3)], [], h) = _
  refine (z_X_steps (s' := (2, [(0, .ref 122), (1, .int x1), (2, .int x2), (3, .int x3)], [.int x1, .ref 122], h)) 2 rfl).trans ?_
  refine (z_X_call (id := 154) (a := [.ref 122, .int x1]) (c := 1) (s' := (5, [(0, .ref 122), (1, .int x1), (2, .int x2), (3, .int x3)], [], h)) rfl ⟨Nat.le_of_ble_eq_true rfl, Nat.le_of_ble_eq_true rfl⟩).trans ?_
  refine z_bdc fun r1 h2 => ?_
  refine (z_X_br (c := r1 = 0) (s1 := (29, [(0, .ref 122), (1, .int x1), (2, .int x2), (3, .int x3)], [], h2)) (s2 := (8, [(0, .ref 122), (1, .int x1), (2, .int x2), (3, .int x3)], [], h2)) rfl).trans (z_ite ?_ ?_)
  · refine (z_X_steps (s' := (30, [(0, .ref 122), (1, .int x1), (2, .int x2), (3, .int x3)], [.int (-1)], h2)) 1 rfl).trans ?_
    exact z_X_ret rfl
  · refine (z_X_steps (s' := (9, [(0, .ref 122), (1, .int x1), (2, .int x2), (3, .int x3)], [.int x2], h2)) 1 rfl).trans ?_
    refine (z_X_call (id := 155) (a := [.int x2]) (c := 1) (s' := (12, [(0, .ref 122), (1, .int x1), (2, .int x2), (3, .int x3)], [], h2)) rfl ⟨Nat.le_of_ble_eq_true rfl, Nat.le_of_ble_eq_true rfl⟩).trans ?_
    refine z_bdc fun r3 h4 => ?_
    refine (z_X_br (c := r3 = 0) (s1 := (29, [(0, .ref 122), (1, .int x1), (2, .int x2), (3, .int x3)], [], h4)) (s2 := (15, [(0, .ref 122), (1, .int x1), (2, .int x2), (3, .int x3)], [], h4)) rfl).trans (z_ite ?_ ?_)
    · refine (z_X_steps (s' := (30, [(0, .ref 122), (1, .int x1), (2, .int x2), (3, .int x3)], [.int (-1)], h4)) 1 rfl).trans ?_
      exact z_X_ret rfl
    · refine (z_X_steps (s' := (18, [(0, .ref 122), (1, .int x1), (2, .int x2), (3, .int x3)], [.int (-4), .int x3], h4)) 2 rfl).trans ?_
      refine (z_X_br (c := x3 = (-4)) (s1 := (31, [(0, .ref 122), (1, .int x1), (2, .int x2), (3, .int x3)], [], h4)) (s2 := (21, [(0, .ref 122), (1, .int x1), (2, .int x2), (3, .int x3)], [], h4)) rfl).trans (z_ite ?_ ?_)
      · exact z_X_lab rfl
      · refine (z_X_steps (s' := (23, [(0, .ref 122), (1, .int x1), (2, .int x2), (3, .int x3)], [.int x3, .ref 122], h4)) 2 rfl).trans ?_
        refine (z_X_call (id := 152) (a := [.ref 122, .int x3]) (c := 1) (s' := (26, [(0, .ref 122), (1, .int x1), (2, .int x2), (3, .int x3)], [], h4)) rfl ⟨Nat.le_of_ble_eq_true rfl, Nat.le_of_ble_eq_true rfl⟩).trans ?_
        refine z_bdc fun r5 h6 => ?_
        refine (z_X_br (c := ¬ r5 = 0) (s1 := (31, [(0, .ref 122), (1, .int x1), (2, .int x2), (3, .int x3)], [], h6)) (s2 := (29, [(0, .ref 122), (1, .int x1), (2, .int x2), (3, .int x3)], [], h6)) rfl).trans (z_ite ?_ ?_)
        · exact z_X_lab rfl
        · refine (z_X_steps (s' := (30, [(0, .ref 122), (1, .int x1), (2, .int x2), (3, .int x3)], [.int (-1)], h6)) 1 rfl).trans ?_
          exact z_X_ret rfl
set_option maxRecDepth 8000 in
set_option maxHeartbeats 2000000 in
theorem e_M_has_31 (x1 : Int32) (x2 : Int32) (x3 : Int32) (h : z_H) : zl_M_has_31 x1 x2 x3 h = z_bd (z_M 130 [.int 1, .int x1, .int x2] h) (fun r1 h2 => (bif z_in r1 549 then (bif z_in r1 549 then some (h2.1 123 (r1.toNatClampNeg), (z_wI h2 123 (r1.toNatClampNeg) x3)) else none) else none)) := by
  show z_X zc_M_has 3 (31, [(0, .ref 122), (1, .int x1), (2, .int x2), (3, .int x3)], [], h) = _
  refine (z_X_steps (s' := (34, [(0, .ref 122), (1, .int x1), (2, .int x2), (3, .int x3)], [.int x2, .int x1, .int 1], h)) 3 rfl).trans ?_
  refine (z_X_call (id := 130) (a := [.int 1, .int x1, .int x2]) (c := 1) (s' := (37, [(0, .ref 122), (1, .int x1), (2, .int x2), (3, .int x3)], [], h)) rfl ⟨Nat.le_of_ble_eq_true rfl, Nat.le_of_ble_eq_true rfl⟩).trans ?_
  refine z_bdc fun r1 h2 => ?_
  refine (z_X_steps (s' := (45, [(4, .int r1), (0, .ref 122), (1, .int x1), (2, .int x2), (3, .int x3)], [.int r1, .ref 123], h2)) 4 rfl).trans ?_
  refine (z_X_if (g := z_in r1 549) (s' := (46, [(4, .int r1), (0, .ref 122), (1, .int x1), (2, .int x2), (3, .int x3)], [.int (h2.1 123 (r1.toNatClampNeg))], h2)) rfl).trans (z_bifA ?_)
  refine (z_X_steps (s' := (55, [(5, .int (h2.1 123 (r1.toNatClampNeg))), (4, .int r1), (0, .ref 122), (1, .int x1), (2, .int x2), (3, .int x3)], [.int x3, .int r1, .ref 123], h2)) 5 rfl).trans ?_
  refine (z_X_if (g := z_in r1 549) (s' := (56, [(5, .int (h2.1 123 (r1.toNatClampNeg))), (4, .int r1), (0, .ref 122), (1, .int x1), (2, .int x2), (3, .int x3)], [], (z_wI h2 123 (r1.toNatClampNeg) x3))) rfl).trans (z_bifA ?_)
  refine (z_X_steps (s' := (58, [(5, .int (h2.1 123 (r1.toNatClampNeg))), (4, .int r1), (0, .ref 122), (1, .int x1), (2, .int x2), (3, .int x3)], [.int (h2.1 123 (r1.toNatClampNeg))], (z_wI h2 123 (r1.toNatClampNeg) x3))) 1 rfl).trans ?_
  exact z_X_ret rfl
noncomputable def zl_M_becomes_8 (x1 : Int32) (x2 : Int32) (x3 : Int32) (x4 : Int32) (h : z_H) : Option z_A := z_X zc_M_becomes 8 (8, [(0, .ref 122), (1, .int x1), (2, .int x2), (3, .int x3), (4, .int x4)], [], h)
set_option maxRecDepth 8000 in
set_option maxHeartbeats 2000000 in
theorem e_M_becomes (x1 : Int32) (x2 : Int32) (h : z_H) : z_M 202 [.ref 122, .int x1, .int x2] h = z_bd (z_M 173 [.ref 122] h) (fun r1 h2 => zl_M_becomes_8 x1 x2 r1 0 h2) := by
  refine (z_M_eq (by decide)).trans ?_
  show z_X zc_M_becomes 8 (0, [(0, .ref 122), (1, .int x1), (2, .int x2)], [], h) = _
  refine (z_X_steps (s' := (1, [(0, .ref 122), (1, .int x1), (2, .int x2)], [.ref 122], h)) 1 rfl).trans ?_
  refine (z_X_call (id := 173) (a := [.ref 122]) (c := 1) (s' := (4, [(0, .ref 122), (1, .int x1), (2, .int x2)], [], h)) rfl ⟨Nat.le_of_ble_eq_true rfl, Nat.le_of_ble_eq_true rfl⟩).trans ?_
  refine z_bdc fun r1 h2 => ?_
  refine (z_X_steps (s' := (8, [(4, .int 0), (3, .int r1), (0, .ref 122), (1, .int x1), (2, .int x2)], [], h2)) 3 rfl).trans ?_
  exact z_X_lab rfl
set_option maxRecDepth 8000 in
set_option maxHeartbeats 2000000 in
theorem e_M_becomes_8 (x1 : Int32) (x2 : Int32) (x3 : Int32) (x4 : Int32) (h : z_H) : zl_M_becomes_8 x1 x2 x3 x4 h = (if (256 : Int32) ≤ x4 then some (x3, h) else (bif z_in ((13 + (256 * x2)) + x4) 549 then (bif z_in ((13 + (256 * x1)) + x4) 549 then zl_M_becomes_8 x1 x2 x3 (x4 + 1) (z_wI h 123 (((13 + (256 * x1)) + x4).toNatClampNeg) (h.1 123 (((13 + (256 * x2)) + x4).toNatClampNeg))) else none) else none)) := by
  show z_X zc_M_becomes 8 (8, [(0, .ref 122), (1, .int x1), (2, .int x2), (3, .int x3), (4, .int x4)], [], h) = _
  refine (z_X_steps (s' := (13, [(0, .ref 122), (1, .int x1), (2, .int x2), (3, .int x3), (4, .int x4)], [.int 256, .int x4], h)) 2 rfl).trans ?_
  refine (z_X_br (c := (256 : Int32) ≤ x4) (s1 := (54, [(0, .ref 122), (1, .int x1), (2, .int x2), (3, .int x3), (4, .int x4)], [], h)) (s2 := (16, [(0, .ref 122), (1, .int x1), (2, .int x2), (3, .int x3), (4, .int x4)], [], h)) rfl).trans (z_ite ?_ ?_)
  · refine (z_X_steps (s' := (55, [(0, .ref 122), (1, .int x1), (2, .int x2), (3, .int x3), (4, .int x4)], [.int x3], h)) 1 rfl).trans ?_
    exact z_X_ret rfl
  · refine (z_X_steps (s' := (46, [(0, .ref 122), (1, .int x1), (2, .int x2), (3, .int x3), (4, .int x4)], [.int ((13 + (256 * x2)) + x4), .ref 123, .int ((13 + (256 * x1)) + x4), .ref 123], h)) 18 rfl).trans ?_
    refine (z_X_if (g := z_in ((13 + (256 * x2)) + x4) 549) (s' := (47, [(0, .ref 122), (1, .int x1), (2, .int x2), (3, .int x3), (4, .int x4)], [.int (h.1 123 (((13 + (256 * x2)) + x4).toNatClampNeg)), .int ((13 + (256 * x1)) + x4), .ref 123], h)) rfl).trans (z_bifA ?_)
    refine (z_X_if (g := z_in ((13 + (256 * x1)) + x4) 549) (s' := (48, [(0, .ref 122), (1, .int x1), (2, .int x2), (3, .int x3), (4, .int x4)], [], (z_wI h 123 (((13 + (256 * x1)) + x4).toNatClampNeg) (h.1 123 (((13 + (256 * x2)) + x4).toNatClampNeg))))) rfl).trans (z_bifA ?_)
    refine (z_X_steps (s' := (8, [(4, .int (x4 + 1)), (0, .ref 122), (1, .int x1), (2, .int x2), (3, .int x3)], [], (z_wI h 123 (((13 + (256 * x1)) + x4).toNatClampNeg) (h.1 123 (((13 + (256 * x2)) + x4).toNatClampNeg))))) 2 rfl).trans ?_
    exact z_X_lab rfl
set_option maxRecDepth 8000 in
set_option maxHeartbeats 2000000 in
theorem e_M_take (h : z_H) : z_M 203 [.ref 122] h = z_bd (z_M 202 [.ref 122, .int 0, .int 1] h) (fun r1 h2 => some (r1, h2)) := by
  refine (z_M_eq (by decide)).trans ?_
  show z_X zc_M_take 9 (0, [(0, .ref 122)], [], h) = _
  refine (z_X_steps (s' := (3, [(0, .ref 122)], [.int 1, .int 0, .ref 122], h)) 3 rfl).trans ?_
  refine (z_X_call (id := 202) (a := [.ref 122, .int 0, .int 1]) (c := 1) (s' := (6, [(0, .ref 122)], [], h)) rfl ⟨Nat.le_of_ble_eq_true rfl, Nat.le_of_ble_eq_true rfl⟩).trans ?_
  refine z_bdc fun r1 h2 => ?_
  exact z_X_ret rfl
set_option maxRecDepth 8000 in
set_option maxHeartbeats 2000000 in
theorem e_M_leave (h : z_H) : z_M 204 [.ref 122] h = z_bd (z_M 202 [.ref 122, .int 1, .int 0] h) (fun r1 h2 => some (r1, h2)) := by
  refine (z_M_eq (by decide)).trans ?_
  show z_X zc_M_leave 9 (0, [(0, .ref 122)], [], h) = _
  refine (z_X_steps (s' := (3, [(0, .ref 122)], [.int 0, .int 1, .ref 122], h)) 3 rfl).trans ?_
  refine (z_X_call (id := 202) (a := [.ref 122, .int 1, .int 0]) (c := 1) (s' := (6, [(0, .ref 122)], [], h)) rfl ⟨Nat.le_of_ble_eq_true rfl, Nat.le_of_ble_eq_true rfl⟩).trans ?_
  refine z_bdc fun r1 h2 => ?_
  exact z_X_ret rfl
set_option maxRecDepth 8000 in
set_option maxHeartbeats 2000000 in
theorem e_M_comes (x1 : Int32) (x2 : Int32) (x3 : Int32) (h : z_H) : z_M 205 [.ref 122, .int x1, .int x2, .int x3] h = (bif z_in (525 + (3 * (h.1 123 2))) 549 then (bif z_in ((525 + (3 * (h.1 123 2))) + 1) 549 then (bif z_in ((525 + (3 * (h.1 123 2))) + 2) 549 then some (0, (z_wI (z_wI (z_wI (z_wI h 123 ((525 + (3 * (h.1 123 2))).toNatClampNeg) x1) 123 (((525 + (3 * (h.1 123 2))) + 1).toNatClampNeg) x2) 123 (((525 + (3 * (h.1 123 2))) + 2).toNatClampNeg) x3) 123 2 (((z_wI (z_wI (z_wI h 123 ((525 + (3 * (h.1 123 2))).toNatClampNeg) x1) 123 (((525 + (3 * (h.1 123 2))) + 1).toNatClampNeg) x2) 123 (((525 + (3 * (h.1 123 2))) + 2).toNatClampNeg) x3).1 123 2) + 1))) else none) else none) else none) := by
  refine (z_M_eq (by decide)).trans ?_
  show z_X zc_M_comes 1 (0, [(0, .ref 122), (1, .int x1), (2, .int x2), (3, .int x3)], [], h) = _
  refine (z_X_steps (s' := (21, [(4, .int (525 + (3 * (h.1 123 2)))), (0, .ref 122), (1, .int x1), (2, .int x2), (3, .int x3)], [.int x1, .int (525 + (3 * (h.1 123 2))), .ref 123], h)) 13 rfl).trans ?_
  refine (z_X_if (g := z_in (525 + (3 * (h.1 123 2))) 549) (s' := (22, [(4, .int (525 + (3 * (h.1 123 2)))), (0, .ref 122), (1, .int x1), (2, .int x2), (3, .int x3)], [], (z_wI h 123 ((525 + (3 * (h.1 123 2))).toNatClampNeg) x1))) rfl).trans (z_bifA ?_)
  refine (z_X_steps (s' := (31, [(4, .int (525 + (3 * (h.1 123 2)))), (0, .ref 122), (1, .int x1), (2, .int x2), (3, .int x3)], [.int x2, .int ((525 + (3 * (h.1 123 2))) + 1), .ref 123], (z_wI h 123 ((525 + (3 * (h.1 123 2))).toNatClampNeg) x1))) 6 rfl).trans ?_
  refine (z_X_if (g := z_in ((525 + (3 * (h.1 123 2))) + 1) 549) (s' := (32, [(4, .int (525 + (3 * (h.1 123 2)))), (0, .ref 122), (1, .int x1), (2, .int x2), (3, .int x3)], [], (z_wI (z_wI h 123 ((525 + (3 * (h.1 123 2))).toNatClampNeg) x1) 123 (((525 + (3 * (h.1 123 2))) + 1).toNatClampNeg) x2))) rfl).trans (z_bifA ?_)
  refine (z_X_steps (s' := (41, [(4, .int (525 + (3 * (h.1 123 2)))), (0, .ref 122), (1, .int x1), (2, .int x2), (3, .int x3)], [.int x3, .int ((525 + (3 * (h.1 123 2))) + 2), .ref 123], (z_wI (z_wI h 123 ((525 + (3 * (h.1 123 2))).toNatClampNeg) x1) 123 (((525 + (3 * (h.1 123 2))) + 1).toNatClampNeg) x2))) 6 rfl).trans ?_
  refine (z_X_if (g := z_in ((525 + (3 * (h.1 123 2))) + 2) 549) (s' := (42, [(4, .int (525 + (3 * (h.1 123 2)))), (0, .ref 122), (1, .int x1), (2, .int x2), (3, .int x3)], [], (z_wI (z_wI (z_wI h 123 ((525 + (3 * (h.1 123 2))).toNatClampNeg) x1) 123 (((525 + (3 * (h.1 123 2))) + 1).toNatClampNeg) x2) 123 (((525 + (3 * (h.1 123 2))) + 2).toNatClampNeg) x3))) rfl).trans (z_bifA ?_)
  refine (z_X_steps (s' := (52, [(4, .int (525 + (3 * (h.1 123 2)))), (0, .ref 122), (1, .int x1), (2, .int x2), (3, .int x3)], [], (z_wI (z_wI (z_wI (z_wI h 123 ((525 + (3 * (h.1 123 2))).toNatClampNeg) x1) 123 (((525 + (3 * (h.1 123 2))) + 1).toNatClampNeg) x2) 123 (((525 + (3 * (h.1 123 2))) + 2).toNatClampNeg) x3) 123 2 (((z_wI (z_wI (z_wI h 123 ((525 + (3 * (h.1 123 2))).toNatClampNeg) x1) 123 (((525 + (3 * (h.1 123 2))) + 1).toNatClampNeg) x2) 123 (((525 + (3 * (h.1 123 2))) + 2).toNatClampNeg) x3).1 123 2) + 1)))) 8 rfl).trans ?_
  exact z_X_ret rfl
set_option maxRecDepth 8000 in
set_option maxHeartbeats 2000000 in
theorem e_M_add (x1 : Int32) (x2 : Int32) (x3 : Int32) (h : z_H) : z_M 206 [.ref 122, .int x1, .int x2, .int x3] h = z_bd (z_M 154 [.ref 122, .int x1] h) (fun r1 h2 => (if r1 = 0 then some ((-1), h2) else z_bd (z_M 127 [.long (x2.toInt64), .long ((0 : Int32).toInt64), .long ((255 : Int32).toInt64)] h2) (fun r3 h4 => (if r3 = 0 then some ((-1), h4) else z_bd (z_M 127 [.long (x3.toInt64), .long ((1 : Int32).toInt64), .long ((9 : Int32).toInt64)] h4) (fun r5 h6 => (if ¬ r5 = 0 then (if ¬ h6.1 123 2 = 8 then z_bd (z_M 205 [.ref 122, .int x1, .int x2, .int x3] h6) (fun r7 h8 => some (h8.1 123 2, h8)) else some ((-3), h6)) else some ((-1), h6))))))) := by
  refine (z_M_eq (by decide)).trans ?_
  show z_X zc_M_add 3 (0, [(0, .ref 122), (1, .int x1), (2, .int x2), (3, .int x3)], [], h) = _
  refine (z_X_steps (s' := (2, [(0, .ref 122), (1, .int x1), (2, .int x2), (3, .int x3)], [.int x1, .ref 122], h)) 2 rfl).trans ?_
  refine (z_X_call (id := 154) (a := [.ref 122, .int x1]) (c := 1) (s' := (5, [(0, .ref 122), (1, .int x1), (2, .int x2), (3, .int x3)], [], h)) rfl ⟨Nat.le_of_ble_eq_true rfl, Nat.le_of_ble_eq_true rfl⟩).trans ?_
  refine z_bdc fun r1 h2 => ?_
  refine (z_X_br (c := r1 = 0) (s1 := (32, [(0, .ref 122), (1, .int x1), (2, .int x2), (3, .int x3)], [], h2)) (s2 := (8, [(0, .ref 122), (1, .int x1), (2, .int x2), (3, .int x3)], [], h2)) rfl).trans (z_ite ?_ ?_)
  · refine (z_X_steps (s' := (33, [(0, .ref 122), (1, .int x1), (2, .int x2), (3, .int x3)], [.int (-1)], h2)) 1 rfl).trans ?_
    exact z_X_ret rfl
  · refine (z_X_steps (s' := (14, [(0, .ref 122), (1, .int x1), (2, .int x2), (3, .int x3)], [.long ((255 : Int32).toInt64), .long ((0 : Int32).toInt64), .long (x2.toInt64)], h2)) 4 rfl).trans ?_
    refine (z_X_call (id := 127) (a := [.long (x2.toInt64), .long ((0 : Int32).toInt64), .long ((255 : Int32).toInt64)]) (c := 1) (s' := (17, [(0, .ref 122), (1, .int x1), (2, .int x2), (3, .int x3)], [], h2)) rfl ⟨Nat.le_of_ble_eq_true rfl, Nat.le_of_ble_eq_true rfl⟩).trans ?_
    refine z_bdc fun r3 h4 => ?_
    refine (z_X_br (c := r3 = 0) (s1 := (32, [(0, .ref 122), (1, .int x1), (2, .int x2), (3, .int x3)], [], h4)) (s2 := (20, [(0, .ref 122), (1, .int x1), (2, .int x2), (3, .int x3)], [], h4)) rfl).trans (z_ite ?_ ?_)
    · refine (z_X_steps (s' := (33, [(0, .ref 122), (1, .int x1), (2, .int x2), (3, .int x3)], [.int (-1)], h4)) 1 rfl).trans ?_
      exact z_X_ret rfl
    · refine (z_X_steps (s' := (26, [(0, .ref 122), (1, .int x1), (2, .int x2), (3, .int x3)], [.long ((9 : Int32).toInt64), .long ((1 : Int32).toInt64), .long (x3.toInt64)], h4)) 4 rfl).trans ?_
      refine (z_X_call (id := 127) (a := [.long (x3.toInt64), .long ((1 : Int32).toInt64), .long ((9 : Int32).toInt64)]) (c := 1) (s' := (29, [(0, .ref 122), (1, .int x1), (2, .int x2), (3, .int x3)], [], h4)) rfl ⟨Nat.le_of_ble_eq_true rfl, Nat.le_of_ble_eq_true rfl⟩).trans ?_
      refine z_bdc fun r5 h6 => ?_
      refine (z_X_br (c := ¬ r5 = 0) (s1 := (34, [(0, .ref 122), (1, .int x1), (2, .int x2), (3, .int x3)], [], h6)) (s2 := (32, [(0, .ref 122), (1, .int x1), (2, .int x2), (3, .int x3)], [], h6)) rfl).trans (z_ite ?_ ?_)
      · refine (z_X_steps (s' := (42, [(0, .ref 122), (1, .int x1), (2, .int x2), (3, .int x3)], [.int 8, .int (h6.1 123 2)], h6)) 5 rfl).trans ?_
        refine (z_X_br (c := ¬ h6.1 123 2 = 8) (s1 := (48, [(0, .ref 122), (1, .int x1), (2, .int x2), (3, .int x3)], [], h6)) (s2 := (45, [(0, .ref 122), (1, .int x1), (2, .int x2), (3, .int x3)], [], h6)) rfl).trans (z_ite ?_ ?_)
        · refine (z_X_steps (s' := (52, [(0, .ref 122), (1, .int x1), (2, .int x2), (3, .int x3)], [.int x3, .int x2, .int x1, .ref 122], h6)) 4 rfl).trans ?_
          refine (z_X_call (id := 205) (a := [.ref 122, .int x1, .int x2, .int x3]) (c := 0) (s' := (55, [(0, .ref 122), (1, .int x1), (2, .int x2), (3, .int x3)], [], h6)) rfl ⟨Nat.le_of_ble_eq_true rfl, Nat.le_of_ble_eq_true rfl⟩).trans ?_
          refine z_bdc fun r7 h8 => ?_
          refine (z_X_steps (s' := (61, [(0, .ref 122), (1, .int x1), (2, .int x2), (3, .int x3)], [.int (h8.1 123 2)], h8)) 4 rfl).trans ?_
          exact z_X_ret rfl
        · refine (z_X_steps (s' := (47, [(0, .ref 122), (1, .int x1), (2, .int x2), (3, .int x3)], [.int (-3)], h6)) 1 rfl).trans ?_
          exact z_X_ret rfl
      · refine (z_X_steps (s' := (33, [(0, .ref 122), (1, .int x1), (2, .int x2), (3, .int x3)], [.int (-1)], h6)) 1 rfl).trans ?_
        exact z_X_ret rfl
noncomputable def zl_M_drop_18 (x2 : Int32) (h : z_H) : Option z_A := z_X zc_M_drop 3 (18, [(0, .ref 122), (2, .int x2)], [], h)
set_option maxRecDepth 8000 in
set_option maxHeartbeats 2000000 in
theorem e_M_drop (x1 : Int32) (h : z_H) : z_M 207 [.ref 122, .int x1] h = z_bd (z_M 156 [.ref 122, .int x1] h) (fun r1 h2 => (if ¬ r1 = 0 then zl_M_drop_18 (525 + (3 * x1)) h2 else some ((-1), h2))) := by
  refine (z_M_eq (by decide)).trans ?_
  show z_X zc_M_drop 3 (0, [(0, .ref 122), (1, .int x1)], [], h) = _
  refine (z_X_steps (s' := (2, [(0, .ref 122), (1, .int x1)], [.int x1, .ref 122], h)) 2 rfl).trans ?_
  refine (z_X_call (id := 156) (a := [.ref 122, .int x1]) (c := 1) (s' := (5, [(0, .ref 122), (1, .int x1)], [], h)) rfl ⟨Nat.le_of_ble_eq_true rfl, Nat.le_of_ble_eq_true rfl⟩).trans ?_
  refine z_bdc fun r1 h2 => ?_
  refine (z_X_br (c := ¬ r1 = 0) (s1 := (10, [(0, .ref 122), (1, .int x1)], [], h2)) (s2 := (8, [(0, .ref 122), (1, .int x1)], [], h2)) rfl).trans (z_ite ?_ ?_)
  · refine (z_X_steps (s' := (18, [(2, .int (525 + (3 * x1))), (0, .ref 122), (1, .int x1)], [], h2)) 6 rfl).trans ?_
    exact z_X_lab rfl
  · refine (z_X_steps (s' := (9, [(0, .ref 122), (1, .int x1)], [.int (-1)], h2)) 1 rfl).trans ?_
    exact z_X_ret rfl
set_option maxRecDepth 8000 in
set_option maxHeartbeats 2000000 in
theorem e_M_drop_18 (x2 : Int32) (h : z_H) : zl_M_drop_18 x2 h = (if 525 + (3 * ((h.1 123 2) - 1)) ≤ x2 then some ((z_wI h 123 2 ((h.1 123 2) - 1)).1 123 2, (z_wI h 123 2 ((h.1 123 2) - 1))) else (bif z_in (x2 + 3) 549 then (bif z_in x2 549 then zl_M_drop_18 (x2 + 1) (z_wI h 123 (x2.toNatClampNeg) (h.1 123 ((x2 + 3).toNatClampNeg))) else none) else none)) := by
  show z_X zc_M_drop 3 (18, [(0, .ref 122), (2, .int x2)], [], h) = _
  refine (z_X_steps (s' := (33, [(0, .ref 122), (2, .int x2)], [.int (525 + (3 * ((h.1 123 2) - 1))), .int x2], h)) 11 rfl).trans ?_
  refine (z_X_br (c := 525 + (3 * ((h.1 123 2) - 1)) ≤ x2) (s1 := (56, [(0, .ref 122), (2, .int x2)], [], h)) (s2 := (36, [(0, .ref 122), (2, .int x2)], [], h)) rfl).trans (z_ite ?_ ?_)
  · refine (z_X_steps (s' := (72, [(0, .ref 122), (2, .int x2)], [.int ((z_wI h 123 2 ((h.1 123 2) - 1)).1 123 2)], (z_wI h 123 2 ((h.1 123 2) - 1)))) 12 rfl).trans ?_
    exact z_X_ret rfl
  · refine (z_X_steps (s' := (48, [(0, .ref 122), (2, .int x2)], [.int (x2 + 3), .ref 123, .int x2, .ref 123], h)) 8 rfl).trans ?_
    refine (z_X_if (g := z_in (x2 + 3) 549) (s' := (49, [(0, .ref 122), (2, .int x2)], [.int (h.1 123 ((x2 + 3).toNatClampNeg)), .int x2, .ref 123], h)) rfl).trans (z_bifA ?_)
    refine (z_X_if (g := z_in x2 549) (s' := (50, [(0, .ref 122), (2, .int x2)], [], (z_wI h 123 (x2.toNatClampNeg) (h.1 123 ((x2 + 3).toNatClampNeg))))) rfl).trans (z_bifA ?_)
    refine (z_X_steps (s' := (18, [(2, .int (x2 + 1)), (0, .ref 122)], [], (z_wI h 123 (x2.toNatClampNeg) (h.1 123 ((x2 + 3).toNatClampNeg))))) 2 rfl).trans ?_
    exact z_X_lab rfl
noncomputable def zl_M_draw_31 (x2 : Int32) (x3 : Int32) (x4 : Int32) (h : z_H) : Option z_A := z_X zc_M_draw 2 (31, [(0, .ref 122), (2, .int x2), (3, .int x3), (4, .int x4)], [], h)
set_option maxRecDepth 8000 in
set_option maxHeartbeats 2000000 in
theorem e_M_draw (x1 : Int32) (x2 : Int32) (h : z_H) : z_M 208 [.ref 122, .int x1, .int x2] h = z_bd (z_M 127 [.long (x2.toInt64), .long ((1 : Int32).toInt64), .long ((8 : Int32).toInt64)] h) (fun r1 h2 => (if ¬ r1 = 0 then (if ¬ h2.1 123 1 = 0 then zl_M_draw_31 x2 x1 0 h2 else some ((-2), h2)) else some ((-1), h2))) := by
  refine (z_M_eq (by decide)).trans ?_
  show z_X zc_M_draw 2 (0, [(0, .ref 122), (1, .int x1), (2, .int x2)], [], h) = _
  refine (z_X_steps (s' := (6, [(0, .ref 122), (1, .int x1), (2, .int x2)], [.long ((8 : Int32).toInt64), .long ((1 : Int32).toInt64), .long (x2.toInt64)], h)) 4 rfl).trans ?_
  refine (z_X_call (id := 127) (a := [.long (x2.toInt64), .long ((1 : Int32).toInt64), .long ((8 : Int32).toInt64)]) (c := 1) (s' := (9, [(0, .ref 122), (1, .int x1), (2, .int x2)], [], h)) rfl ⟨Nat.le_of_ble_eq_true rfl, Nat.le_of_ble_eq_true rfl⟩).trans ?_
  refine z_bdc fun r1 h2 => ?_
  refine (z_X_br (c := ¬ r1 = 0) (s1 := (14, [(0, .ref 122), (1, .int x1), (2, .int x2)], [], h2)) (s2 := (12, [(0, .ref 122), (1, .int x1), (2, .int x2)], [], h2)) rfl).trans (z_ite ?_ ?_)
  · refine (z_X_steps (s' := (20, [(0, .ref 122), (1, .int x1), (2, .int x2)], [.int (h2.1 123 1)], h2)) 4 rfl).trans ?_
    refine (z_X_br (c := ¬ h2.1 123 1 = 0) (s1 := (26, [(0, .ref 122), (1, .int x1), (2, .int x2)], [], h2)) (s2 := (23, [(0, .ref 122), (1, .int x1), (2, .int x2)], [], h2)) rfl).trans (z_ite ?_ ?_)
    · refine (z_X_steps (s' := (31, [(4, .int 0), (3, .int x1), (0, .ref 122), (1, .int x1), (2, .int x2)], [], h2)) 4 rfl).trans ?_
      exact z_X_lab rfl
    · refine (z_X_steps (s' := (25, [(0, .ref 122), (1, .int x1), (2, .int x2)], [.int (-2)], h2)) 1 rfl).trans ?_
      exact z_X_ret rfl
  · refine (z_X_steps (s' := (13, [(0, .ref 122), (1, .int x1), (2, .int x2)], [.int (-1)], h2)) 1 rfl).trans ?_
    exact z_X_ret rfl
set_option maxRecDepth 8000 in
set_option maxHeartbeats 2000000 in
theorem e_M_draw_31 (x2 : Int32) (x3 : Int32) (x4 : Int32) (h : z_H) : zl_M_draw_31 x2 x3 x4 h = (if x2 ≤ x4 then some (x4, h) else (if (8 : Int32) ≤ h.1 123 2 then some (x4, h) else (bif (!decide (h.1 123 1 = 0)) then z_bd (z_M 205 [.ref 122, .int (((((x3 * 1103515245) + 12345) >>> ((16 : Int32) &&& 31)) &&& 32767) - ((((x3 * 1103515245) + 12345) >>> ((16 : Int32) &&& 31)) &&& 32767) / (h.1 123 1) * (h.1 123 1)), .int ((((((x3 * 1103515245) + 12345) >>> ((16 : Int32) &&& 31)) &&& 32767) / 4) - (((((x3 * 1103515245) + 12345) >>> ((16 : Int32) &&& 31)) &&& 32767) / 4) / 256 * 256), .int (((((((x3 * 1103515245) + 12345) >>> ((16 : Int32) &&& 31)) &&& 32767) / 1024) - (((((x3 * 1103515245) + 12345) >>> ((16 : Int32) &&& 31)) &&& 32767) / 1024) / 9 * 9) + 1)] h) (fun r1 h2 => zl_M_draw_31 x2 ((x3 * 1103515245) + 12345) (x4 + 1) h2) else none))) := by
  show z_X zc_M_draw 2 (31, [(0, .ref 122), (2, .int x2), (3, .int x3), (4, .int x4)], [], h) = _
  refine (z_X_steps (s' := (34, [(0, .ref 122), (2, .int x2), (3, .int x3), (4, .int x4)], [.int x2, .int x4], h)) 2 rfl).trans ?_
  refine (z_X_br (c := x2 ≤ x4) (s1 := (106, [(0, .ref 122), (2, .int x2), (3, .int x3), (4, .int x4)], [], h)) (s2 := (37, [(0, .ref 122), (2, .int x2), (3, .int x3), (4, .int x4)], [], h)) rfl).trans (z_ite ?_ ?_)
  · refine (z_X_steps (s' := (108, [(0, .ref 122), (2, .int x2), (3, .int x3), (4, .int x4)], [.int x4], h)) 1 rfl).trans ?_
    exact z_X_ret rfl
  · refine (z_X_steps (s' := (45, [(0, .ref 122), (2, .int x2), (3, .int x3), (4, .int x4)], [.int 8, .int (h.1 123 2)], h)) 5 rfl).trans ?_
    refine (z_X_br (c := (8 : Int32) ≤ h.1 123 2) (s1 := (106, [(0, .ref 122), (2, .int x2), (3, .int x3), (4, .int x4)], [], h)) (s2 := (48, [(0, .ref 122), (2, .int x2), (3, .int x3), (4, .int x4)], [], h)) rfl).trans (z_ite ?_ ?_)
    · refine (z_X_steps (s' := (108, [(0, .ref 122), (2, .int x2), (3, .int x3), (4, .int x4)], [.int x4], h)) 1 rfl).trans ?_
      exact z_X_ret rfl
    · refine (z_X_steps (s' := (77, [(5, .int ((((x3 * 1103515245) + 12345) >>> ((16 : Int32) &&& 31)) &&& 32767)), (3, .int ((x3 * 1103515245) + 12345)), (0, .ref 122), (2, .int x2), (4, .int x4)], [.int (h.1 123 1), .int ((((x3 * 1103515245) + 12345) >>> ((16 : Int32) &&& 31)) &&& 32767), .ref 122], h)) 18 rfl).trans ?_
      refine (z_X_if (g := (!decide (h.1 123 1 = 0))) (s' := (78, [(5, .int ((((x3 * 1103515245) + 12345) >>> ((16 : Int32) &&& 31)) &&& 32767)), (3, .int ((x3 * 1103515245) + 12345)), (0, .ref 122), (2, .int x2), (4, .int x4)], [.int (((((x3 * 1103515245) + 12345) >>> ((16 : Int32) &&& 31)) &&& 32767) - ((((x3 * 1103515245) + 12345) >>> ((16 : Int32) &&& 31)) &&& 32767) / (h.1 123 1) * (h.1 123 1)), .ref 122], h)) rfl).trans (z_bifA ?_)
      refine (z_X_steps (s' := (97, [(5, .int ((((x3 * 1103515245) + 12345) >>> ((16 : Int32) &&& 31)) &&& 32767)), (3, .int ((x3 * 1103515245) + 12345)), (0, .ref 122), (2, .int x2), (4, .int x4)], [.int (((((((x3 * 1103515245) + 12345) >>> ((16 : Int32) &&& 31)) &&& 32767) / 1024) - (((((x3 * 1103515245) + 12345) >>> ((16 : Int32) &&& 31)) &&& 32767) / 1024) / 9 * 9) + 1), .int ((((((x3 * 1103515245) + 12345) >>> ((16 : Int32) &&& 31)) &&& 32767) / 4) - (((((x3 * 1103515245) + 12345) >>> ((16 : Int32) &&& 31)) &&& 32767) / 4) / 256 * 256), .int (((((x3 * 1103515245) + 12345) >>> ((16 : Int32) &&& 31)) &&& 32767) - ((((x3 * 1103515245) + 12345) >>> ((16 : Int32) &&& 31)) &&& 32767) / (h.1 123 1) * (h.1 123 1)), .ref 122], h)) 12 rfl).trans ?_
      refine (z_X_call (id := 205) (a := [.ref 122, .int (((((x3 * 1103515245) + 12345) >>> ((16 : Int32) &&& 31)) &&& 32767) - ((((x3 * 1103515245) + 12345) >>> ((16 : Int32) &&& 31)) &&& 32767) / (h.1 123 1) * (h.1 123 1)), .int ((((((x3 * 1103515245) + 12345) >>> ((16 : Int32) &&& 31)) &&& 32767) / 4) - (((((x3 * 1103515245) + 12345) >>> ((16 : Int32) &&& 31)) &&& 32767) / 4) / 256 * 256), .int (((((((x3 * 1103515245) + 12345) >>> ((16 : Int32) &&& 31)) &&& 32767) / 1024) - (((((x3 * 1103515245) + 12345) >>> ((16 : Int32) &&& 31)) &&& 32767) / 1024) / 9 * 9) + 1)]) (c := 0) (s' := (100, [(5, .int ((((x3 * 1103515245) + 12345) >>> ((16 : Int32) &&& 31)) &&& 32767)), (3, .int ((x3 * 1103515245) + 12345)), (0, .ref 122), (2, .int x2), (4, .int x4)], [], h)) rfl ⟨Nat.le_of_ble_eq_true rfl, Nat.le_of_ble_eq_true rfl⟩).trans ?_
      refine z_bdc fun r1 h2 => ?_
      refine (z_X_steps (s' := (31, [(4, .int (x4 + 1)), (5, .int ((((x3 * 1103515245) + 12345) >>> ((16 : Int32) &&& 31)) &&& 32767)), (3, .int ((x3 * 1103515245) + 12345)), (0, .ref 122), (2, .int x2)], [], h2)) 2 rfl).trans ?_
      exact z_X_lab rfl
noncomputable def zl_M_keep_31 (x1 : Int32) (x2 : Int32) (x3 : Int32) (h : z_H) : Option z_A := z_X zc_M_keep 2 (31, [(0, .ref 122), (1, .int x1), (2, .int x2), (3, .int x3)], [], h)
set_option maxRecDepth 8000 in
set_option maxHeartbeats 2000000 in
theorem e_M_keep (x1 : Int32) (h : z_H) : z_M 209 [.ref 122, .int x1] h = z_bd (z_M 127 [.long (x1.toInt64), .long ((0 : Int32).toInt64), .long ((1 : Int32).toInt64)] h) (fun r1 h2 => (if ¬ r1 = 0 then (bif z_in x1 2 then z_bd (z_M 128 [.int (h2.1 125 (x1.toNatClampNeg))] h2) (fun r3 h4 => (bif z_in x1 2 then zl_M_keep_31 x1 r3 0 (z_wI h4 125 (x1.toNatClampNeg) 1) else none)) else none) else some ((-1), h2))) := by
  refine (z_M_eq (by decide)).trans ?_
  show z_X zc_M_keep 2 (0, [(0, .ref 122), (1, .int x1)], [], h) = _
  refine (z_X_steps (s' := (4, [(0, .ref 122), (1, .int x1)], [.long ((1 : Int32).toInt64), .long ((0 : Int32).toInt64), .long (x1.toInt64)], h)) 4 rfl).trans ?_
  refine (z_X_call (id := 127) (a := [.long (x1.toInt64), .long ((0 : Int32).toInt64), .long ((1 : Int32).toInt64)]) (c := 1) (s' := (7, [(0, .ref 122), (1, .int x1)], [], h)) rfl ⟨Nat.le_of_ble_eq_true rfl, Nat.le_of_ble_eq_true rfl⟩).trans ?_
  refine z_bdc fun r1 h2 => ?_
  refine (z_X_br (c := ¬ r1 = 0) (s1 := (12, [(0, .ref 122), (1, .int x1)], [], h2)) (s2 := (10, [(0, .ref 122), (1, .int x1)], [], h2)) rfl).trans (z_ite ?_ ?_)
  · refine (z_X_steps (s' := (17, [(0, .ref 122), (1, .int x1)], [.int x1, .ref 125], h2)) 3 rfl).trans ?_
    refine (z_X_if (g := z_in x1 2) (s' := (18, [(0, .ref 122), (1, .int x1)], [.int (h2.1 125 (x1.toNatClampNeg))], h2)) rfl).trans (z_bifA ?_)
    refine (z_X_call (id := 128) (a := [.int (h2.1 125 (x1.toNatClampNeg))]) (c := 1) (s' := (21, [(0, .ref 122), (1, .int x1)], [], h2)) rfl ⟨Nat.le_of_ble_eq_true rfl, Nat.le_of_ble_eq_true rfl⟩).trans ?_
    refine z_bdc fun r3 h4 => ?_
    refine (z_X_steps (s' := (28, [(2, .int r3), (0, .ref 122), (1, .int x1)], [.int 1, .int x1, .ref 125], h4)) 5 rfl).trans ?_
    refine (z_X_if (g := z_in x1 2) (s' := (29, [(2, .int r3), (0, .ref 122), (1, .int x1)], [], (z_wI h4 125 (x1.toNatClampNeg) 1))) rfl).trans (z_bifA ?_)
    refine (z_X_steps (s' := (31, [(3, .int 0), (2, .int r3), (0, .ref 122), (1, .int x1)], [], (z_wI h4 125 (x1.toNatClampNeg) 1))) 2 rfl).trans ?_
    exact z_X_lab rfl
  · refine (z_X_steps (s' := (11, [(0, .ref 122), (1, .int x1)], [.int (-1)], h2)) 1 rfl).trans ?_
    exact z_X_ret rfl
set_option maxRecDepth 8000 in
set_option maxHeartbeats 2000000 in
theorem e_M_keep_31 (x1 : Int32) (x2 : Int32) (x3 : Int32) (h : z_H) : zl_M_keep_31 x1 x2 x3 h = (if (549 : Int32) ≤ x3 then some (x2, h) else (bif z_in x3 549 then (bif z_in ((549 * x1) + x3) 1098 then zl_M_keep_31 x1 x2 (x3 + 1) (z_wI h 124 (((549 * x1) + x3).toNatClampNeg) (h.1 123 (x3.toNatClampNeg))) else none) else none)) := by
  show z_X zc_M_keep 2 (31, [(0, .ref 122), (1, .int x1), (2, .int x2), (3, .int x3)], [], h) = _
  refine (z_X_steps (s' := (35, [(0, .ref 122), (1, .int x1), (2, .int x2), (3, .int x3)], [.int 549, .int x3], h)) 2 rfl).trans ?_
  refine (z_X_br (c := (549 : Int32) ≤ x3) (s1 := (62, [(0, .ref 122), (1, .int x1), (2, .int x2), (3, .int x3)], [], h)) (s2 := (38, [(0, .ref 122), (1, .int x1), (2, .int x2), (3, .int x3)], [], h)) rfl).trans (z_ite ?_ ?_)
  · refine (z_X_steps (s' := (63, [(0, .ref 122), (1, .int x1), (2, .int x2), (3, .int x3)], [.int x2], h)) 1 rfl).trans ?_
    exact z_X_ret rfl
  · refine (z_X_steps (s' := (54, [(0, .ref 122), (1, .int x1), (2, .int x2), (3, .int x3)], [.int x3, .ref 123, .int ((549 * x1) + x3), .ref 124], h)) 10 rfl).trans ?_
    refine (z_X_if (g := z_in x3 549) (s' := (55, [(0, .ref 122), (1, .int x1), (2, .int x2), (3, .int x3)], [.int (h.1 123 (x3.toNatClampNeg)), .int ((549 * x1) + x3), .ref 124], h)) rfl).trans (z_bifA ?_)
    refine (z_X_if (g := z_in ((549 * x1) + x3) 1098) (s' := (56, [(0, .ref 122), (1, .int x1), (2, .int x2), (3, .int x3)], [], (z_wI h 124 (((549 * x1) + x3).toNatClampNeg) (h.1 123 (x3.toNatClampNeg))))) rfl).trans (z_bifA ?_)
    refine (z_X_steps (s' := (31, [(3, .int (x3 + 1)), (0, .ref 122), (1, .int x1), (2, .int x2)], [], (z_wI h 124 (((549 * x1) + x3).toNatClampNeg) (h.1 123 (x3.toNatClampNeg))))) 2 rfl).trans ?_
    exact z_X_lab rfl
noncomputable def zl_M_back_26 (x1 : Int32) (x2 : Int32) (h : z_H) : Option z_A := z_X zc_M_back 2 (26, [(0, .ref 122), (1, .int x1), (2, .int x2)], [], h)
set_option maxRecDepth 8000 in
set_option maxHeartbeats 2000000 in
theorem e_M_back (x1 : Int32) (h : z_H) : z_M 210 [.ref 122, .int x1] h = z_bd (z_M 127 [.long (x1.toInt64), .long ((0 : Int32).toInt64), .long ((1 : Int32).toInt64)] h) (fun r1 h2 => (if ¬ r1 = 0 then (bif z_in x1 2 then (if ¬ h2.1 125 (x1.toNatClampNeg) = 0 then zl_M_back_26 x1 0 h2 else some ((-2), h2)) else none) else some ((-1), h2))) := by
  refine (z_M_eq (by decide)).trans ?_
  show z_X zc_M_back 2 (0, [(0, .ref 122), (1, .int x1)], [], h) = _
  refine (z_X_steps (s' := (4, [(0, .ref 122), (1, .int x1)], [.long ((1 : Int32).toInt64), .long ((0 : Int32).toInt64), .long (x1.toInt64)], h)) 4 rfl).trans ?_
  refine (z_X_call (id := 127) (a := [.long (x1.toInt64), .long ((0 : Int32).toInt64), .long ((1 : Int32).toInt64)]) (c := 1) (s' := (7, [(0, .ref 122), (1, .int x1)], [], h)) rfl ⟨Nat.le_of_ble_eq_true rfl, Nat.le_of_ble_eq_true rfl⟩).trans ?_
  refine z_bdc fun r1 h2 => ?_
  refine (z_X_br (c := ¬ r1 = 0) (s1 := (12, [(0, .ref 122), (1, .int x1)], [], h2)) (s2 := (10, [(0, .ref 122), (1, .int x1)], [], h2)) rfl).trans (z_ite ?_ ?_)
  · refine (z_X_steps (s' := (17, [(0, .ref 122), (1, .int x1)], [.int x1, .ref 125], h2)) 3 rfl).trans ?_
    refine (z_X_if (g := z_in x1 2) (s' := (18, [(0, .ref 122), (1, .int x1)], [.int (h2.1 125 (x1.toNatClampNeg))], h2)) rfl).trans (z_bifA ?_)
    refine (z_X_br (c := ¬ h2.1 125 (x1.toNatClampNeg) = 0) (s1 := (24, [(0, .ref 122), (1, .int x1)], [], h2)) (s2 := (21, [(0, .ref 122), (1, .int x1)], [], h2)) rfl).trans (z_ite ?_ ?_)
    · refine (z_X_steps (s' := (26, [(2, .int 0), (0, .ref 122), (1, .int x1)], [], h2)) 2 rfl).trans ?_
      exact z_X_lab rfl
    · refine (z_X_steps (s' := (23, [(0, .ref 122), (1, .int x1)], [.int (-2)], h2)) 1 rfl).trans ?_
      exact z_X_ret rfl
  · refine (z_X_steps (s' := (11, [(0, .ref 122), (1, .int x1)], [.int (-1)], h2)) 1 rfl).trans ?_
    exact z_X_ret rfl
set_option maxRecDepth 8000 in
set_option maxHeartbeats 2000000 in
theorem e_M_back_26 (x1 : Int32) (x2 : Int32) (h : z_H) : zl_M_back_26 x1 x2 h = (if (549 : Int32) ≤ x2 then some (h.1 123 2, h) else (bif z_in ((549 * x1) + x2) 1098 then (bif z_in x2 549 then zl_M_back_26 x1 (x2 + 1) (z_wI h 123 (x2.toNatClampNeg) (h.1 124 (((549 * x1) + x2).toNatClampNeg))) else none) else none)) := by
  show z_X zc_M_back 2 (26, [(0, .ref 122), (1, .int x1), (2, .int x2)], [], h) = _
  refine (z_X_steps (s' := (30, [(0, .ref 122), (1, .int x1), (2, .int x2)], [.int 549, .int x2], h)) 2 rfl).trans ?_
  refine (z_X_br (c := (549 : Int32) ≤ x2) (s1 := (57, [(0, .ref 122), (1, .int x1), (2, .int x2)], [], h)) (s2 := (33, [(0, .ref 122), (1, .int x1), (2, .int x2)], [], h)) rfl).trans (z_ite ?_ ?_)
  · refine (z_X_steps (s' := (63, [(0, .ref 122), (1, .int x1), (2, .int x2)], [.int (h.1 123 2)], h)) 4 rfl).trans ?_
    exact z_X_ret rfl
  · refine (z_X_steps (s' := (49, [(0, .ref 122), (1, .int x1), (2, .int x2)], [.int ((549 * x1) + x2), .ref 124, .int x2, .ref 123], h)) 10 rfl).trans ?_
    refine (z_X_if (g := z_in ((549 * x1) + x2) 1098) (s' := (50, [(0, .ref 122), (1, .int x1), (2, .int x2)], [.int (h.1 124 (((549 * x1) + x2).toNatClampNeg)), .int x2, .ref 123], h)) rfl).trans (z_bifA ?_)
    refine (z_X_if (g := z_in x2 549) (s' := (51, [(0, .ref 122), (1, .int x1), (2, .int x2)], [], (z_wI h 123 (x2.toNatClampNeg) (h.1 124 (((549 * x1) + x2).toNatClampNeg))))) rfl).trans (z_bifA ?_)
    refine (z_X_steps (s' := (26, [(2, .int (x2 + 1)), (0, .ref 122), (1, .int x1)], [], (z_wI h 123 (x2.toNatClampNeg) (h.1 124 (((549 * x1) + x2).toNatClampNeg))))) 2 rfl).trans ?_
    exact z_X_lab rfl
set_option maxRecDepth 8000 in
set_option maxHeartbeats 2000000 in
theorem e_M_isSheet (x0 : Int32) (x1 : Int32) (h : z_H) : z_M 211 [.int x0, .int x1] h = z_bd (z_M 127 [.long (x0.toInt64), .long ((0 : Int32).toInt64), .long ((3 : Int32).toInt64)] h) (fun r1 h2 => (if r1 = 0 then some (0, h2) else z_bd (z_M 127 [.long (x1.toInt64), .long ((0 : Int32).toInt64), .long ((2 : Int32).toInt64)] h2) (fun r3 h4 => (if r3 = 0 then some (0, h4) else some (1, h4))))) := by
  refine (z_M_eq (by decide)).trans ?_
  show z_X zc_M_isSheet 2 (0, [(0, .int x0), (1, .int x1)], [], h) = _
  refine (z_X_steps (s' := (6, [(0, .int x0), (1, .int x1)], [.long ((3 : Int32).toInt64), .long ((0 : Int32).toInt64), .long (x0.toInt64)], h)) 4 rfl).trans ?_
  refine (z_X_call (id := 127) (a := [.long (x0.toInt64), .long ((0 : Int32).toInt64), .long ((3 : Int32).toInt64)]) (c := 1) (s' := (9, [(0, .int x0), (1, .int x1)], [], h)) rfl ⟨Nat.le_of_ble_eq_true rfl, Nat.le_of_ble_eq_true rfl⟩).trans ?_
  refine z_bdc fun r1 h2 => ?_
  refine (z_X_br (c := r1 = 0) (s1 := (28, [(0, .int x0), (1, .int x1)], [], h2)) (s2 := (12, [(0, .int x0), (1, .int x1)], [], h2)) rfl).trans (z_ite ?_ ?_)
  · refine (z_X_steps (s' := (29, [(0, .int x0), (1, .int x1)], [.int 0], h2)) 1 rfl).trans ?_
    exact z_X_ret rfl
  · refine (z_X_steps (s' := (18, [(0, .int x0), (1, .int x1)], [.long ((2 : Int32).toInt64), .long ((0 : Int32).toInt64), .long (x1.toInt64)], h2)) 4 rfl).trans ?_
    refine (z_X_call (id := 127) (a := [.long (x1.toInt64), .long ((0 : Int32).toInt64), .long ((2 : Int32).toInt64)]) (c := 1) (s' := (21, [(0, .int x0), (1, .int x1)], [], h2)) rfl ⟨Nat.le_of_ble_eq_true rfl, Nat.le_of_ble_eq_true rfl⟩).trans ?_
    refine z_bdc fun r3 h4 => ?_
    refine (z_X_br (c := r3 = 0) (s1 := (28, [(0, .int x0), (1, .int x1)], [], h4)) (s2 := (24, [(0, .int x0), (1, .int x1)], [], h4)) rfl).trans (z_ite ?_ ?_)
    · refine (z_X_steps (s' := (29, [(0, .int x0), (1, .int x1)], [.int 0], h4)) 1 rfl).trans ?_
      exact z_X_ret rfl
    · refine (z_X_steps (s' := (29, [(0, .int x0), (1, .int x1)], [.int 1], h4)) 2 rfl).trans ?_
      exact z_X_ret rfl
noncomputable def zl_M_sheet_40 (x1 : Int32) (x4 : Int32) (h : z_H) : Option z_A := z_X zc_M_sheet 3 (40, [(0, .ref 122), (1, .int x1), (4, .int x4)], [], h)
set_option maxRecDepth 8000 in
set_option maxHeartbeats 2000000 in
theorem e_M_sheet (x1 : Int32) (x2 : Int32) (x3 : Int32) (h : z_H) : z_M 212 [.ref 122, .int x1, .int x2, .int x3] h = z_bd (z_M 211 [.int x1, .int x2] h) (fun r1 h2 => (if r1 = 0 then some ((-1), h2) else (if x3 ≤ 40 then (if (0 : Int32) ≤ x3 then (bif z_in x1 4 then (bif z_in x1 4 then zl_M_sheet_40 x1 0 (z_wI (z_wI h2 137 (x1.toNatClampNeg) x2) 138 (x1.toNatClampNeg) x3) else none) else none) else some ((-14), h2)) else some ((-1), h2)))) := by
  refine (z_M_eq (by decide)).trans ?_
  show z_X zc_M_sheet 3 (0, [(0, .ref 122), (1, .int x1), (2, .int x2), (3, .int x3)], [], h) = _
  refine (z_X_steps (s' := (2, [(0, .ref 122), (1, .int x1), (2, .int x2), (3, .int x3)], [.int x2, .int x1], h)) 2 rfl).trans ?_
  refine (z_X_call (id := 211) (a := [.int x1, .int x2]) (c := 1) (s' := (5, [(0, .ref 122), (1, .int x1), (2, .int x2), (3, .int x3)], [], h)) rfl ⟨Nat.le_of_ble_eq_true rfl, Nat.le_of_ble_eq_true rfl⟩).trans ?_
  refine z_bdc fun r1 h2 => ?_
  refine (z_X_br (c := r1 = 0) (s1 := (14, [(0, .ref 122), (1, .int x1), (2, .int x2), (3, .int x3)], [], h2)) (s2 := (8, [(0, .ref 122), (1, .int x1), (2, .int x2), (3, .int x3)], [], h2)) rfl).trans (z_ite ?_ ?_)
  · refine (z_X_steps (s' := (15, [(0, .ref 122), (1, .int x1), (2, .int x2), (3, .int x3)], [.int (-1)], h2)) 1 rfl).trans ?_
    exact z_X_ret rfl
  · refine (z_X_steps (s' := (11, [(0, .ref 122), (1, .int x1), (2, .int x2), (3, .int x3)], [.int 40, .int x3], h2)) 2 rfl).trans ?_
    refine (z_X_br (c := x3 ≤ 40) (s1 := (16, [(0, .ref 122), (1, .int x1), (2, .int x2), (3, .int x3)], [], h2)) (s2 := (14, [(0, .ref 122), (1, .int x1), (2, .int x2), (3, .int x3)], [], h2)) rfl).trans (z_ite ?_ ?_)
    · refine (z_X_steps (s' := (17, [(0, .ref 122), (1, .int x1), (2, .int x2), (3, .int x3)], [.int x3], h2)) 1 rfl).trans ?_
      refine (z_X_br (c := (0 : Int32) ≤ x3) (s1 := (23, [(0, .ref 122), (1, .int x1), (2, .int x2), (3, .int x3)], [], h2)) (s2 := (20, [(0, .ref 122), (1, .int x1), (2, .int x2), (3, .int x3)], [], h2)) rfl).trans (z_ite ?_ ?_)
      · refine (z_X_steps (s' := (29, [(0, .ref 122), (1, .int x1), (2, .int x2), (3, .int x3)], [.int x2, .int x1, .ref 137], h2)) 4 rfl).trans ?_
        refine (z_X_if (g := z_in x1 4) (s' := (30, [(0, .ref 122), (1, .int x1), (2, .int x2), (3, .int x3)], [], (z_wI h2 137 (x1.toNatClampNeg) x2))) rfl).trans (z_bifA ?_)
        refine (z_X_steps (s' := (36, [(0, .ref 122), (1, .int x1), (2, .int x2), (3, .int x3)], [.int x3, .int x1, .ref 138], (z_wI h2 137 (x1.toNatClampNeg) x2))) 4 rfl).trans ?_
        refine (z_X_if (g := z_in x1 4) (s' := (37, [(0, .ref 122), (1, .int x1), (2, .int x2), (3, .int x3)], [], (z_wI (z_wI h2 137 (x1.toNatClampNeg) x2) 138 (x1.toNatClampNeg) x3))) rfl).trans (z_bifA ?_)
        refine (z_X_steps (s' := (40, [(4, .int 0), (0, .ref 122), (1, .int x1), (2, .int x2), (3, .int x3)], [], (z_wI (z_wI h2 137 (x1.toNatClampNeg) x2) 138 (x1.toNatClampNeg) x3))) 2 rfl).trans ?_
        exact z_X_lab rfl
      · refine (z_X_steps (s' := (22, [(0, .ref 122), (1, .int x1), (2, .int x2), (3, .int x3)], [.int (-14)], h2)) 1 rfl).trans ?_
        exact z_X_ret rfl
    · refine (z_X_steps (s' := (15, [(0, .ref 122), (1, .int x1), (2, .int x2), (3, .int x3)], [.int (-1)], h2)) 1 rfl).trans ?_
      exact z_X_ret rfl
set_option maxRecDepth 8000 in
set_option maxHeartbeats 2000000 in
theorem e_M_sheet_40 (x1 : Int32) (x4 : Int32) (h : z_H) : zl_M_sheet_40 x1 x4 h = (if (40 : Int32) ≤ x4 then some (1, h) else (bif z_in ((40 * x1) + x4) 160 then zl_M_sheet_40 x1 (x4 + 1) (z_wI h 139 (((40 * x1) + x4).toNatClampNeg) 0) else none)) := by
  show z_X zc_M_sheet 3 (40, [(0, .ref 122), (1, .int x1), (4, .int x4)], [], h) = _
  refine (z_X_steps (s' := (44, [(0, .ref 122), (1, .int x1), (4, .int x4)], [.int 40, .int x4], h)) 2 rfl).trans ?_
  refine (z_X_br (c := (40 : Int32) ≤ x4) (s1 := (66, [(0, .ref 122), (1, .int x1), (4, .int x4)], [], h)) (s2 := (47, [(0, .ref 122), (1, .int x1), (4, .int x4)], [], h)) rfl).trans (z_ite ?_ ?_)
  · refine (z_X_steps (s' := (67, [(0, .ref 122), (1, .int x1), (4, .int x4)], [.int 1], h)) 1 rfl).trans ?_
    exact z_X_ret rfl
  · refine (z_X_steps (s' := (59, [(0, .ref 122), (1, .int x1), (4, .int x4)], [.int 0, .int ((40 * x1) + x4), .ref 139], h)) 8 rfl).trans ?_
    refine (z_X_if (g := z_in ((40 * x1) + x4) 160) (s' := (60, [(0, .ref 122), (1, .int x1), (4, .int x4)], [], (z_wI h 139 (((40 * x1) + x4).toNatClampNeg) 0))) rfl).trans (z_bifA ?_)
    refine (z_X_steps (s' := (40, [(4, .int (x4 + 1)), (0, .ref 122), (1, .int x1)], [], (z_wI h 139 (((40 * x1) + x4).toNatClampNeg) 0))) 2 rfl).trans ?_
    exact z_X_lab rfl
set_option maxRecDepth 8000 in
set_option maxHeartbeats 2000000 in
theorem e_M_lay (x1 : Int32) (x2 : Int32) (x3 : Int32) (h : z_H) : z_M 213 [.ref 122, .int x1, .int x2, .int x3] h = z_bd (z_M 211 [.int x1, .int 0] h) (fun r1 h2 => (if ¬ r1 = 0 then (bif z_in x1 4 then (if ¬ h2.1 137 (x1.toNatClampNeg) = (-4) then (bif z_in x1 4 then z_bd (z_M 127 [.long (x2.toInt64), .long ((0 : Int32).toInt64), .long (((h2.1 138 (x1.toNatClampNeg)) - 1).toInt64)] h2) (fun r3 h4 => (if ¬ r3 = 0 then (bif z_in x1 4 then (if ¬ h4.1 137 (x1.toNatClampNeg) = 0 then (bif z_in x1 4 then (if ¬ h4.1 137 (x1.toNatClampNeg) = 1 then (bif z_in ((40 * x1) + x2) 160 then some (1, (z_wI h4 139 (((40 * x1) + x2).toNatClampNeg) x3)) else none) else (bif z_in ((40 * x1) + x2) 160 then some (1, (z_wI h4 139 (((40 * x1) + x2).toNatClampNeg) (x3.toInt16.toInt32))) else none)) else none) else (bif z_in ((40 * x1) + x2) 160 then some (1, (z_wI h4 139 (((40 * x1) + x2).toNatClampNeg) (x3.toInt8.toInt32))) else none)) else none) else some ((-12), h4))) else none) else some ((-11), h2)) else none) else some ((-1), h2))) := by
  refine (z_M_eq (by decide)).trans ?_
  show z_X zc_M_lay 3 (0, [(0, .ref 122), (1, .int x1), (2, .int x2), (3, .int x3)], [], h) = _
  refine (z_X_steps (s' := (2, [(0, .ref 122), (1, .int x1), (2, .int x2), (3, .int x3)], [.int 0, .int x1], h)) 2 rfl).trans ?_
  refine (z_X_call (id := 211) (a := [.int x1, .int 0]) (c := 1) (s' := (5, [(0, .ref 122), (1, .int x1), (2, .int x2), (3, .int x3)], [], h)) rfl ⟨Nat.le_of_ble_eq_true rfl, Nat.le_of_ble_eq_true rfl⟩).trans ?_
  refine z_bdc fun r1 h2 => ?_
  refine (z_X_br (c := ¬ r1 = 0) (s1 := (10, [(0, .ref 122), (1, .int x1), (2, .int x2), (3, .int x3)], [], h2)) (s2 := (8, [(0, .ref 122), (1, .int x1), (2, .int x2), (3, .int x3)], [], h2)) rfl).trans (z_ite ?_ ?_)
  · refine (z_X_steps (s' := (15, [(0, .ref 122), (1, .int x1), (2, .int x2), (3, .int x3)], [.int x1, .ref 137], h2)) 3 rfl).trans ?_
    refine (z_X_if (g := z_in x1 4) (s' := (16, [(0, .ref 122), (1, .int x1), (2, .int x2), (3, .int x3)], [.int (h2.1 137 (x1.toNatClampNeg))], h2)) rfl).trans (z_bifA ?_)
    refine (z_X_steps (s' := (18, [(0, .ref 122), (1, .int x1), (2, .int x2), (3, .int x3)], [.int (-4), .int (h2.1 137 (x1.toNatClampNeg))], h2)) 1 rfl).trans ?_
    refine (z_X_br (c := ¬ h2.1 137 (x1.toNatClampNeg) = (-4)) (s1 := (24, [(0, .ref 122), (1, .int x1), (2, .int x2), (3, .int x3)], [], h2)) (s2 := (21, [(0, .ref 122), (1, .int x1), (2, .int x2), (3, .int x3)], [], h2)) rfl).trans (z_ite ?_ ?_)
    · refine (z_X_steps (s' := (32, [(0, .ref 122), (1, .int x1), (2, .int x2), (3, .int x3)], [.int x1, .ref 138, .long ((0 : Int32).toInt64), .long (x2.toInt64)], h2)) 6 rfl).trans ?_
      refine (z_X_if (g := z_in x1 4) (s' := (33, [(0, .ref 122), (1, .int x1), (2, .int x2), (3, .int x3)], [.int (h2.1 138 (x1.toNatClampNeg)), .long ((0 : Int32).toInt64), .long (x2.toInt64)], h2)) rfl).trans (z_bifA ?_)
      refine (z_X_steps (s' := (36, [(0, .ref 122), (1, .int x1), (2, .int x2), (3, .int x3)], [.long (((h2.1 138 (x1.toNatClampNeg)) - 1).toInt64), .long ((0 : Int32).toInt64), .long (x2.toInt64)], h2)) 3 rfl).trans ?_
      refine (z_X_call (id := 127) (a := [.long (x2.toInt64), .long ((0 : Int32).toInt64), .long (((h2.1 138 (x1.toNatClampNeg)) - 1).toInt64)]) (c := 1) (s' := (39, [(0, .ref 122), (1, .int x1), (2, .int x2), (3, .int x3)], [], h2)) rfl ⟨Nat.le_of_ble_eq_true rfl, Nat.le_of_ble_eq_true rfl⟩).trans ?_
      refine z_bdc fun r3 h4 => ?_
      refine (z_X_br (c := ¬ r3 = 0) (s1 := (45, [(0, .ref 122), (1, .int x1), (2, .int x2), (3, .int x3)], [], h4)) (s2 := (42, [(0, .ref 122), (1, .int x1), (2, .int x2), (3, .int x3)], [], h4)) rfl).trans (z_ite ?_ ?_)
      · refine (z_X_steps (s' := (60, [(0, .ref 122), (1, .int x1), (2, .int x2), (3, .int x3)], [.int x1, .ref 137, .int ((40 * x1) + x2), .ref 139], h4)) 10 rfl).trans ?_
        refine (z_X_if (g := z_in x1 4) (s' := (61, [(0, .ref 122), (1, .int x1), (2, .int x2), (3, .int x3)], [.int (h4.1 137 (x1.toNatClampNeg)), .int ((40 * x1) + x2), .ref 139], h4)) rfl).trans (z_bifA ?_)
        refine (z_X_br (c := ¬ h4.1 137 (x1.toNatClampNeg) = 0) (s1 := (69, [(0, .ref 122), (1, .int x1), (2, .int x2), (3, .int x3)], [.int ((40 * x1) + x2), .ref 139], h4)) (s2 := (64, [(0, .ref 122), (1, .int x1), (2, .int x2), (3, .int x3)], [.int ((40 * x1) + x2), .ref 139], h4)) rfl).trans (z_ite ?_ ?_)
        · refine (z_X_steps (s' := (74, [(0, .ref 122), (1, .int x1), (2, .int x2), (3, .int x3)], [.int x1, .ref 137, .int ((40 * x1) + x2), .ref 139], h4)) 3 rfl).trans ?_
          refine (z_X_if (g := z_in x1 4) (s' := (75, [(0, .ref 122), (1, .int x1), (2, .int x2), (3, .int x3)], [.int (h4.1 137 (x1.toNatClampNeg)), .int ((40 * x1) + x2), .ref 139], h4)) rfl).trans (z_bifA ?_)
          refine (z_X_steps (s' := (76, [(0, .ref 122), (1, .int x1), (2, .int x2), (3, .int x3)], [.int 1, .int (h4.1 137 (x1.toNatClampNeg)), .int ((40 * x1) + x2), .ref 139], h4)) 1 rfl).trans ?_
          refine (z_X_br (c := ¬ h4.1 137 (x1.toNatClampNeg) = 1) (s1 := (84, [(0, .ref 122), (1, .int x1), (2, .int x2), (3, .int x3)], [.int ((40 * x1) + x2), .ref 139], h4)) (s2 := (79, [(0, .ref 122), (1, .int x1), (2, .int x2), (3, .int x3)], [.int ((40 * x1) + x2), .ref 139], h4)) rfl).trans (z_ite ?_ ?_)
          · refine (z_X_steps (s' := (85, [(0, .ref 122), (1, .int x1), (2, .int x2), (3, .int x3)], [.int x3, .int ((40 * x1) + x2), .ref 139], h4)) 1 rfl).trans ?_
            refine (z_X_if (g := z_in ((40 * x1) + x2) 160) (s' := (86, [(0, .ref 122), (1, .int x1), (2, .int x2), (3, .int x3)], [], (z_wI h4 139 (((40 * x1) + x2).toNatClampNeg) x3))) rfl).trans (z_bifA ?_)
            refine (z_X_steps (s' := (87, [(0, .ref 122), (1, .int x1), (2, .int x2), (3, .int x3)], [.int 1], (z_wI h4 139 (((40 * x1) + x2).toNatClampNeg) x3))) 1 rfl).trans ?_
            exact z_X_ret rfl
          · refine (z_X_steps (s' := (85, [(0, .ref 122), (1, .int x1), (2, .int x2), (3, .int x3)], [.int (x3.toInt16.toInt32), .int ((40 * x1) + x2), .ref 139], h4)) 3 rfl).trans ?_
            refine (z_X_if (g := z_in ((40 * x1) + x2) 160) (s' := (86, [(0, .ref 122), (1, .int x1), (2, .int x2), (3, .int x3)], [], (z_wI h4 139 (((40 * x1) + x2).toNatClampNeg) (x3.toInt16.toInt32)))) rfl).trans (z_bifA ?_)
            refine (z_X_steps (s' := (87, [(0, .ref 122), (1, .int x1), (2, .int x2), (3, .int x3)], [.int 1], (z_wI h4 139 (((40 * x1) + x2).toNatClampNeg) (x3.toInt16.toInt32)))) 1 rfl).trans ?_
            exact z_X_ret rfl
        · refine (z_X_steps (s' := (85, [(0, .ref 122), (1, .int x1), (2, .int x2), (3, .int x3)], [.int (x3.toInt8.toInt32), .int ((40 * x1) + x2), .ref 139], h4)) 3 rfl).trans ?_
          refine (z_X_if (g := z_in ((40 * x1) + x2) 160) (s' := (86, [(0, .ref 122), (1, .int x1), (2, .int x2), (3, .int x3)], [], (z_wI h4 139 (((40 * x1) + x2).toNatClampNeg) (x3.toInt8.toInt32)))) rfl).trans (z_bifA ?_)
          refine (z_X_steps (s' := (87, [(0, .ref 122), (1, .int x1), (2, .int x2), (3, .int x3)], [.int 1], (z_wI h4 139 (((40 * x1) + x2).toNatClampNeg) (x3.toInt8.toInt32)))) 1 rfl).trans ?_
          exact z_X_ret rfl
      · refine (z_X_steps (s' := (44, [(0, .ref 122), (1, .int x1), (2, .int x2), (3, .int x3)], [.int (-12)], h4)) 1 rfl).trans ?_
        exact z_X_ret rfl
    · refine (z_X_steps (s' := (23, [(0, .ref 122), (1, .int x1), (2, .int x2), (3, .int x3)], [.int (-11)], h2)) 1 rfl).trans ?_
      exact z_X_ret rfl
  · refine (z_X_steps (s' := (9, [(0, .ref 122), (1, .int x1), (2, .int x2), (3, .int x3)], [.int (-1)], h2)) 1 rfl).trans ?_
    exact z_X_ret rfl
noncomputable def zl_M_read_26 (x1 : Int32) (x2 : Int32) (x3 : Int32) (x4 : Int32) (x5 : Int32) (h : z_H) : Option z_A := z_X zc_M_read 5 (26, [(0, .ref 122), (1, .int x1), (2, .int x2), (3, .int x3), (4, .int x4), (5, .int x5)], [], h)
noncomputable def zl_M_read_63 (x1 : Int32) (x2 : Int32) (x3 : Int32) (x4 : Int32) (x5 : Int32) (x6 : Int32) (x7 : Int32) (h : z_H) : Option z_A := z_X zc_M_read 5 (63, [(0, .ref 122), (1, .int x1), (2, .int x2), (3, .int x3), (4, .int x4), (5, .int x5), (6, .int x6), (7, .int x7)], [], h)
noncomputable def zl_M_read_78 (x1 : Int32) (x2 : Int32) (x3 : Int32) (x4 : Int32) (x5 : Int32) (x6 : Int32) (x7 : Int32) (x8 : Int32) (h : z_H) : Option z_A := z_X zc_M_read 5 (78, [(0, .ref 122), (1, .int x1), (2, .int x2), (3, .int x3), (4, .int x4), (5, .int x5), (6, .int x6), (7, .int x7), (8, .int x8)], [], h)
noncomputable def zl_M_read_165 (x1 : Int32) (x2 : Int32) (x3 : Int32) (x4 : Int32) (x5 : Int32) (x6 : Int32) (x7 : Int32) (h : z_H) : Option z_A := z_X zc_M_read 5 (165, [(0, .ref 122), (1, .int x1), (2, .int x2), (3, .int x3), (4, .int x4), (5, .int x5), (6, .int x6), (7, .int x7)], [], h)
noncomputable def zl_M_read_227 (x7 : Int32) (x9 : Int32) (h : z_H) : Option z_A := z_X zc_M_read 5 (227, [(0, .ref 122), (7, .int x7), (9, .int x9)], [], h)
set_option maxRecDepth 8000 in
set_option maxHeartbeats 2000000 in
theorem e_M_read (x1 : Int32) (x2 : Int32) (x3 : Int32) (x4 : Int32) (h : z_H) : z_M 214 [.ref 122, .int x1, .int x2, .int x3, .int x4] h = z_bd (z_M 211 [.int x1, .int x2] h) (fun r1 h2 => (if r1 = 0 then some ((-1), h2) else z_bd (z_M 127 [.long (x4.toInt64), .long ((0 : Int32).toInt64), .long ((10 : Int32).toInt64)] h2) (fun r3 h4 => (if ¬ r3 = 0 then zl_M_read_26 x1 x2 x3 x4 0 h4 else some ((-1), h4))))) := by
  refine (z_M_eq (by decide)).trans ?_
  show z_X zc_M_read 5 (0, [(0, .ref 122), (1, .int x1), (2, .int x2), (3, .int x3), (4, .int x4)], [], h) = _
  refine (z_X_steps (s' := (2, [(0, .ref 122), (1, .int x1), (2, .int x2), (3, .int x3), (4, .int x4)], [.int x2, .int x1], h)) 2 rfl).trans ?_
  refine (z_X_call (id := 211) (a := [.int x1, .int x2]) (c := 1) (s' := (5, [(0, .ref 122), (1, .int x1), (2, .int x2), (3, .int x3), (4, .int x4)], [], h)) rfl ⟨Nat.le_of_ble_eq_true rfl, Nat.le_of_ble_eq_true rfl⟩).trans ?_
  refine z_bdc fun r1 h2 => ?_
  refine (z_X_br (c := r1 = 0) (s1 := (21, [(0, .ref 122), (1, .int x1), (2, .int x2), (3, .int x3), (4, .int x4)], [], h2)) (s2 := (8, [(0, .ref 122), (1, .int x1), (2, .int x2), (3, .int x3), (4, .int x4)], [], h2)) rfl).trans (z_ite ?_ ?_)
  · refine (z_X_steps (s' := (22, [(0, .ref 122), (1, .int x1), (2, .int x2), (3, .int x3), (4, .int x4)], [.int (-1)], h2)) 1 rfl).trans ?_
    exact z_X_ret rfl
  · refine (z_X_steps (s' := (15, [(0, .ref 122), (1, .int x1), (2, .int x2), (3, .int x3), (4, .int x4)], [.long ((10 : Int32).toInt64), .long ((0 : Int32).toInt64), .long (x4.toInt64)], h2)) 4 rfl).trans ?_
    refine (z_X_call (id := 127) (a := [.long (x4.toInt64), .long ((0 : Int32).toInt64), .long ((10 : Int32).toInt64)]) (c := 1) (s' := (18, [(0, .ref 122), (1, .int x1), (2, .int x2), (3, .int x3), (4, .int x4)], [], h2)) rfl ⟨Nat.le_of_ble_eq_true rfl, Nat.le_of_ble_eq_true rfl⟩).trans ?_
    refine z_bdc fun r3 h4 => ?_
    refine (z_X_br (c := ¬ r3 = 0) (s1 := (23, [(0, .ref 122), (1, .int x1), (2, .int x2), (3, .int x3), (4, .int x4)], [], h4)) (s2 := (21, [(0, .ref 122), (1, .int x1), (2, .int x2), (3, .int x3), (4, .int x4)], [], h4)) rfl).trans (z_ite ?_ ?_)
    · refine (z_X_steps (s' := (26, [(5, .int 0), (0, .ref 122), (1, .int x1), (2, .int x2), (3, .int x3), (4, .int x4)], [], h4)) 2 rfl).trans ?_
      exact z_X_lab rfl
    · refine (z_X_steps (s' := (22, [(0, .ref 122), (1, .int x1), (2, .int x2), (3, .int x3), (4, .int x4)], [.int (-1)], h4)) 1 rfl).trans ?_
      exact z_X_ret rfl
set_option maxRecDepth 8000 in
set_option maxHeartbeats 2000000 in
theorem e_M_read_26 (x1 : Int32) (x2 : Int32) (x3 : Int32) (x4 : Int32) (x5 : Int32) (h : z_H) : zl_M_read_26 x1 x2 x3 x4 x5 h = (if (549 : Int32) ≤ x5 then zl_M_read_63 x1 x2 x3 x4 0 0 0 h else (bif z_in x5 549 then (bif z_in x5 549 then zl_M_read_26 x1 x2 x3 x4 (x5 + 1) (z_wI h 140 (x5.toNatClampNeg) (h.1 123 (x5.toNatClampNeg))) else none) else none)) := by
  show z_X zc_M_read 5 (26, [(0, .ref 122), (1, .int x1), (2, .int x2), (3, .int x3), (4, .int x4), (5, .int x5)], [], h) = _
  refine (z_X_steps (s' := (31, [(0, .ref 122), (1, .int x1), (2, .int x2), (3, .int x3), (4, .int x4), (5, .int x5)], [.int 549, .int x5], h)) 2 rfl).trans ?_
  refine (z_X_br (c := (549 : Int32) ≤ x5) (s1 := (54, [(0, .ref 122), (1, .int x1), (2, .int x2), (3, .int x3), (4, .int x4), (5, .int x5)], [], h)) (s2 := (34, [(0, .ref 122), (1, .int x1), (2, .int x2), (3, .int x3), (4, .int x4), (5, .int x5)], [], h)) rfl).trans (z_ite ?_ ?_)
  · refine (z_X_steps (s' := (63, [(7, .int 0), (6, .int 0), (5, .int 0), (0, .ref 122), (1, .int x1), (2, .int x2), (3, .int x3), (4, .int x4)], [], h)) 6 rfl).trans ?_
    exact z_X_lab rfl
  · refine (z_X_steps (s' := (46, [(0, .ref 122), (1, .int x1), (2, .int x2), (3, .int x3), (4, .int x4), (5, .int x5)], [.int x5, .ref 123, .int x5, .ref 140], h)) 6 rfl).trans ?_
    refine (z_X_if (g := z_in x5 549) (s' := (47, [(0, .ref 122), (1, .int x1), (2, .int x2), (3, .int x3), (4, .int x4), (5, .int x5)], [.int (h.1 123 (x5.toNatClampNeg)), .int x5, .ref 140], h)) rfl).trans (z_bifA ?_)
    refine (z_X_if (g := z_in x5 549) (s' := (48, [(0, .ref 122), (1, .int x1), (2, .int x2), (3, .int x3), (4, .int x4), (5, .int x5)], [], (z_wI h 140 (x5.toNatClampNeg) (h.1 123 (x5.toNatClampNeg))))) rfl).trans (z_bifA ?_)
    refine (z_X_steps (s' := (26, [(5, .int (x5 + 1)), (0, .ref 122), (1, .int x1), (2, .int x2), (3, .int x3), (4, .int x4)], [], (z_wI h 140 (x5.toNatClampNeg) (h.1 123 (x5.toNatClampNeg))))) 2 rfl).trans ?_
    exact z_X_lab rfl
set_option maxRecDepth 8000 in
set_option maxHeartbeats 2000000 in
theorem e_M_read_63 (x1 : Int32) (x2 : Int32) (x3 : Int32) (x4 : Int32) (x5 : Int32) (x6 : Int32) (x7 : Int32) (h : z_H) : zl_M_read_63 x1 x2 x3 x4 x5 x6 x7 h = (if x4 ≤ x7 then some (x6, (z_wI h 122 33 x5)) else (if ¬ x5 = 0 then some (x6, (z_wI h 122 33 x5)) else zl_M_read_78 x1 x2 x3 x4 x5 x6 x7 0 h)) := by
  show z_X zc_M_read 5 (63, [(0, .ref 122), (1, .int x1), (2, .int x2), (3, .int x3), (4, .int x4), (5, .int x5), (6, .int x6), (7, .int x7)], [], h) = _
  refine (z_X_steps (s' := (67, [(0, .ref 122), (1, .int x1), (2, .int x2), (3, .int x3), (4, .int x4), (5, .int x5), (6, .int x6), (7, .int x7)], [.int x4, .int x7], h)) 2 rfl).trans ?_
  refine (z_X_br (c := x4 ≤ x7) (s1 := (270, [(0, .ref 122), (1, .int x1), (2, .int x2), (3, .int x3), (4, .int x4), (5, .int x5), (6, .int x6), (7, .int x7)], [], h)) (s2 := (70, [(0, .ref 122), (1, .int x1), (2, .int x2), (3, .int x3), (4, .int x4), (5, .int x5), (6, .int x6), (7, .int x7)], [], h)) rfl).trans (z_ite ?_ ?_)
  · refine (z_X_steps (s' := (278, [(0, .ref 122), (1, .int x1), (2, .int x2), (3, .int x3), (4, .int x4), (5, .int x5), (6, .int x6), (7, .int x7)], [.int x6], (z_wI h 122 33 x5))) 4 rfl).trans ?_
    exact z_X_ret rfl
  · refine (z_X_steps (s' := (72, [(0, .ref 122), (1, .int x1), (2, .int x2), (3, .int x3), (4, .int x4), (5, .int x5), (6, .int x6), (7, .int x7)], [.int x5], h)) 1 rfl).trans ?_
    refine (z_X_br (c := ¬ x5 = 0) (s1 := (270, [(0, .ref 122), (1, .int x1), (2, .int x2), (3, .int x3), (4, .int x4), (5, .int x5), (6, .int x6), (7, .int x7)], [], h)) (s2 := (75, [(0, .ref 122), (1, .int x1), (2, .int x2), (3, .int x3), (4, .int x4), (5, .int x5), (6, .int x6), (7, .int x7)], [], h)) rfl).trans (z_ite ?_ ?_)
    · refine (z_X_steps (s' := (278, [(0, .ref 122), (1, .int x1), (2, .int x2), (3, .int x3), (4, .int x4), (5, .int x5), (6, .int x6), (7, .int x7)], [.int x6], (z_wI h 122 33 x5))) 4 rfl).trans ?_
      exact z_X_ret rfl
    · refine (z_X_steps (s' := (78, [(8, .int 0), (0, .ref 122), (1, .int x1), (2, .int x2), (3, .int x3), (4, .int x4), (5, .int x5), (6, .int x6), (7, .int x7)], [], h)) 2 rfl).trans ?_
      exact z_X_lab rfl
set_option maxRecDepth 8000 in
set_option maxHeartbeats 2000000 in
theorem e_M_read_78 (x1 : Int32) (x2 : Int32) (x3 : Int32) (x4 : Int32) (x5 : Int32) (x6 : Int32) (x7 : Int32) (x8 : Int32) (h : z_H) : zl_M_read_78 x1 x2 x3 x4 x5 x6 x7 x8 h = (if (4 : Int32) ≤ x8 then zl_M_read_165 x1 x2 x3 x4 x5 x6 x7 h else (if ¬ x5 = 0 then zl_M_read_165 x1 x2 x3 x4 x5 x6 x7 h else (bif z_in x1 4 then (if ¬ h.1 137 (x1.toNatClampNeg) = (-4) then (bif z_in x1 4 then (if h.1 137 (x1.toNatClampNeg) = x2 then (if lg_cmp (((x3.toInt64) + ((4 * x7).toInt64)) + (x8.toInt64)) ((0 : Int32).toInt64) < 0 then zl_M_read_78 x1 x2 x3 x4 2 x6 x7 (x8 + 1) h else (bif z_in x1 4 then (if lg_cmp (((x3.toInt64) + ((4 * x7).toInt64)) + (x8.toInt64)) ((h.1 138 (x1.toNatClampNeg)).toInt64) < 0 then zl_M_read_78 x1 x2 x3 x4 0 x6 x7 (x8 + 1) h else zl_M_read_78 x1 x2 x3 x4 2 x6 x7 (x8 + 1) h) else none)) else zl_M_read_78 x1 x2 x3 x4 3 x6 x7 (x8 + 1) h) else none) else zl_M_read_78 x1 x2 x3 x4 1 x6 x7 (x8 + 1) h) else none))) := by
  show z_X zc_M_read 5 (78, [(0, .ref 122), (1, .int x1), (2, .int x2), (3, .int x3), (4, .int x4), (5, .int x5), (6, .int x6), (7, .int x7), (8, .int x8)], [], h) = _
  refine (z_X_steps (s' := (81, [(0, .ref 122), (1, .int x1), (2, .int x2), (3, .int x3), (4, .int x4), (5, .int x5), (6, .int x6), (7, .int x7), (8, .int x8)], [.int 4, .int x8], h)) 2 rfl).trans ?_
  refine (z_X_br (c := (4 : Int32) ≤ x8) (s1 := (165, [(0, .ref 122), (1, .int x1), (2, .int x2), (3, .int x3), (4, .int x4), (5, .int x5), (6, .int x6), (7, .int x7), (8, .int x8)], [], h)) (s2 := (84, [(0, .ref 122), (1, .int x1), (2, .int x2), (3, .int x3), (4, .int x4), (5, .int x5), (6, .int x6), (7, .int x7), (8, .int x8)], [], h)) rfl).trans (z_ite ?_ ?_)
  · exact z_X_lab rfl
  · refine (z_X_steps (s' := (86, [(0, .ref 122), (1, .int x1), (2, .int x2), (3, .int x3), (4, .int x4), (5, .int x5), (6, .int x6), (7, .int x7), (8, .int x8)], [.int x5], h)) 1 rfl).trans ?_
    refine (z_X_br (c := ¬ x5 = 0) (s1 := (165, [(0, .ref 122), (1, .int x1), (2, .int x2), (3, .int x3), (4, .int x4), (5, .int x5), (6, .int x6), (7, .int x7), (8, .int x8)], [], h)) (s2 := (89, [(0, .ref 122), (1, .int x1), (2, .int x2), (3, .int x3), (4, .int x4), (5, .int x5), (6, .int x6), (7, .int x7), (8, .int x8)], [], h)) rfl).trans (z_ite ?_ ?_)
    · exact z_X_lab rfl
    · refine (z_X_steps (s' := (108, [(9, .long (((x3.toInt64) + ((4 * x7).toInt64)) + (x8.toInt64))), (0, .ref 122), (1, .int x1), (2, .int x2), (3, .int x3), (4, .int x4), (5, .int x5), (6, .int x6), (7, .int x7), (8, .int x8)], [.int x1, .ref 137], h)) 14 rfl).trans ?_
      refine (z_X_if (g := z_in x1 4) (s' := (109, [(9, .long (((x3.toInt64) + ((4 * x7).toInt64)) + (x8.toInt64))), (0, .ref 122), (1, .int x1), (2, .int x2), (3, .int x3), (4, .int x4), (5, .int x5), (6, .int x6), (7, .int x7), (8, .int x8)], [.int (h.1 137 (x1.toNatClampNeg))], h)) rfl).trans (z_bifA ?_)
      refine (z_X_steps (s' := (111, [(9, .long (((x3.toInt64) + ((4 * x7).toInt64)) + (x8.toInt64))), (0, .ref 122), (1, .int x1), (2, .int x2), (3, .int x3), (4, .int x4), (5, .int x5), (6, .int x6), (7, .int x7), (8, .int x8)], [.int (-4), .int (h.1 137 (x1.toNatClampNeg))], h)) 1 rfl).trans ?_
      refine (z_X_br (c := ¬ h.1 137 (x1.toNatClampNeg) = (-4)) (s1 := (118, [(9, .long (((x3.toInt64) + ((4 * x7).toInt64)) + (x8.toInt64))), (0, .ref 122), (1, .int x1), (2, .int x2), (3, .int x3), (4, .int x4), (5, .int x5), (6, .int x6), (7, .int x7), (8, .int x8)], [], h)) (s2 := (114, [(9, .long (((x3.toInt64) + ((4 * x7).toInt64)) + (x8.toInt64))), (0, .ref 122), (1, .int x1), (2, .int x2), (3, .int x3), (4, .int x4), (5, .int x5), (6, .int x6), (7, .int x7), (8, .int x8)], [], h)) rfl).trans (z_ite ?_ ?_)
      · refine (z_X_steps (s' := (123, [(9, .long (((x3.toInt64) + ((4 * x7).toInt64)) + (x8.toInt64))), (0, .ref 122), (1, .int x1), (2, .int x2), (3, .int x3), (4, .int x4), (5, .int x5), (6, .int x6), (7, .int x7), (8, .int x8)], [.int x1, .ref 137], h)) 3 rfl).trans ?_
        refine (z_X_if (g := z_in x1 4) (s' := (124, [(9, .long (((x3.toInt64) + ((4 * x7).toInt64)) + (x8.toInt64))), (0, .ref 122), (1, .int x1), (2, .int x2), (3, .int x3), (4, .int x4), (5, .int x5), (6, .int x6), (7, .int x7), (8, .int x8)], [.int (h.1 137 (x1.toNatClampNeg))], h)) rfl).trans (z_bifA ?_)
        refine (z_X_steps (s' := (125, [(9, .long (((x3.toInt64) + ((4 * x7).toInt64)) + (x8.toInt64))), (0, .ref 122), (1, .int x1), (2, .int x2), (3, .int x3), (4, .int x4), (5, .int x5), (6, .int x6), (7, .int x7), (8, .int x8)], [.int x2, .int (h.1 137 (x1.toNatClampNeg))], h)) 1 rfl).trans ?_
        refine (z_X_br (c := h.1 137 (x1.toNatClampNeg) = x2) (s1 := (132, [(9, .long (((x3.toInt64) + ((4 * x7).toInt64)) + (x8.toInt64))), (0, .ref 122), (1, .int x1), (2, .int x2), (3, .int x3), (4, .int x4), (5, .int x5), (6, .int x6), (7, .int x7), (8, .int x8)], [], h)) (s2 := (128, [(9, .long (((x3.toInt64) + ((4 * x7).toInt64)) + (x8.toInt64))), (0, .ref 122), (1, .int x1), (2, .int x2), (3, .int x3), (4, .int x4), (5, .int x5), (6, .int x6), (7, .int x7), (8, .int x8)], [], h)) rfl).trans (z_ite ?_ ?_)
        · refine (z_X_steps (s' := (136, [(9, .long (((x3.toInt64) + ((4 * x7).toInt64)) + (x8.toInt64))), (0, .ref 122), (1, .int x1), (2, .int x2), (3, .int x3), (4, .int x4), (5, .int x5), (6, .int x6), (7, .int x7), (8, .int x8)], [.int (lg_cmp (((x3.toInt64) + ((4 * x7).toInt64)) + (x8.toInt64)) ((0 : Int32).toInt64))], h)) 3 rfl).trans ?_
          refine (z_X_br (c := lg_cmp (((x3.toInt64) + ((4 * x7).toInt64)) + (x8.toInt64)) ((0 : Int32).toInt64) < 0) (s1 := (152, [(9, .long (((x3.toInt64) + ((4 * x7).toInt64)) + (x8.toInt64))), (0, .ref 122), (1, .int x1), (2, .int x2), (3, .int x3), (4, .int x4), (5, .int x5), (6, .int x6), (7, .int x7), (8, .int x8)], [], h)) (s2 := (139, [(9, .long (((x3.toInt64) + ((4 * x7).toInt64)) + (x8.toInt64))), (0, .ref 122), (1, .int x1), (2, .int x2), (3, .int x3), (4, .int x4), (5, .int x5), (6, .int x6), (7, .int x7), (8, .int x8)], [], h)) rfl).trans (z_ite ?_ ?_)
          · refine (z_X_steps (s' := (78, [(8, .int (x8 + 1)), (5, .int 2), (9, .long (((x3.toInt64) + ((4 * x7).toInt64)) + (x8.toInt64))), (0, .ref 122), (1, .int x1), (2, .int x2), (3, .int x3), (4, .int x4), (6, .int x6), (7, .int x7)], [], h)) 5 rfl).trans ?_
            exact z_X_lab rfl
          · refine (z_X_steps (s' := (146, [(9, .long (((x3.toInt64) + ((4 * x7).toInt64)) + (x8.toInt64))), (0, .ref 122), (1, .int x1), (2, .int x2), (3, .int x3), (4, .int x4), (5, .int x5), (6, .int x6), (7, .int x7), (8, .int x8)], [.int x1, .ref 138, .long (((x3.toInt64) + ((4 * x7).toInt64)) + (x8.toInt64))], h)) 4 rfl).trans ?_
            refine (z_X_if (g := z_in x1 4) (s' := (147, [(9, .long (((x3.toInt64) + ((4 * x7).toInt64)) + (x8.toInt64))), (0, .ref 122), (1, .int x1), (2, .int x2), (3, .int x3), (4, .int x4), (5, .int x5), (6, .int x6), (7, .int x7), (8, .int x8)], [.int (h.1 138 (x1.toNatClampNeg)), .long (((x3.toInt64) + ((4 * x7).toInt64)) + (x8.toInt64))], h)) rfl).trans (z_bifA ?_)
            refine (z_X_steps (s' := (149, [(9, .long (((x3.toInt64) + ((4 * x7).toInt64)) + (x8.toInt64))), (0, .ref 122), (1, .int x1), (2, .int x2), (3, .int x3), (4, .int x4), (5, .int x5), (6, .int x6), (7, .int x7), (8, .int x8)], [.int (lg_cmp (((x3.toInt64) + ((4 * x7).toInt64)) + (x8.toInt64)) ((h.1 138 (x1.toNatClampNeg)).toInt64))], h)) 2 rfl).trans ?_
            refine (z_X_br (c := lg_cmp (((x3.toInt64) + ((4 * x7).toInt64)) + (x8.toInt64)) ((h.1 138 (x1.toNatClampNeg)).toInt64) < 0) (s1 := (156, [(9, .long (((x3.toInt64) + ((4 * x7).toInt64)) + (x8.toInt64))), (0, .ref 122), (1, .int x1), (2, .int x2), (3, .int x3), (4, .int x4), (5, .int x5), (6, .int x6), (7, .int x7), (8, .int x8)], [], h)) (s2 := (152, [(9, .long (((x3.toInt64) + ((4 * x7).toInt64)) + (x8.toInt64))), (0, .ref 122), (1, .int x1), (2, .int x2), (3, .int x3), (4, .int x4), (5, .int x5), (6, .int x6), (7, .int x7), (8, .int x8)], [], h)) rfl).trans (z_ite ?_ ?_)
            · refine (z_X_steps (s' := (78, [(8, .int (x8 + 1)), (5, .int 0), (9, .long (((x3.toInt64) + ((4 * x7).toInt64)) + (x8.toInt64))), (0, .ref 122), (1, .int x1), (2, .int x2), (3, .int x3), (4, .int x4), (6, .int x6), (7, .int x7)], [], h)) 4 rfl).trans ?_
              exact z_X_lab rfl
            · refine (z_X_steps (s' := (78, [(8, .int (x8 + 1)), (5, .int 2), (9, .long (((x3.toInt64) + ((4 * x7).toInt64)) + (x8.toInt64))), (0, .ref 122), (1, .int x1), (2, .int x2), (3, .int x3), (4, .int x4), (6, .int x6), (7, .int x7)], [], h)) 5 rfl).trans ?_
              exact z_X_lab rfl
        · refine (z_X_steps (s' := (78, [(8, .int (x8 + 1)), (5, .int 3), (9, .long (((x3.toInt64) + ((4 * x7).toInt64)) + (x8.toInt64))), (0, .ref 122), (1, .int x1), (2, .int x2), (3, .int x3), (4, .int x4), (6, .int x6), (7, .int x7)], [], h)) 5 rfl).trans ?_
          exact z_X_lab rfl
      · refine (z_X_steps (s' := (78, [(8, .int (x8 + 1)), (5, .int 1), (9, .long (((x3.toInt64) + ((4 * x7).toInt64)) + (x8.toInt64))), (0, .ref 122), (1, .int x1), (2, .int x2), (3, .int x3), (4, .int x4), (6, .int x6), (7, .int x7)], [], h)) 5 rfl).trans ?_
        exact z_X_lab rfl
set_option maxRecDepth 8000 in
set_option maxHeartbeats 2000000 in
theorem e_M_read_165 (x1 : Int32) (x2 : Int32) (x3 : Int32) (x4 : Int32) (x5 : Int32) (x6 : Int32) (x7 : Int32) (h : z_H) : zl_M_read_165 x1 x2 x3 x4 x5 x6 x7 h = (if ¬ x5 = 0 then zl_M_read_63 x1 x2 x3 x4 x5 x6 (x7 + 1) h else (bif z_in (((40 * x1) + x3) + (4 * x7)) 160 then (bif z_in ((((40 * x1) + x3) + (4 * x7)) + 1) 160 then (bif z_in ((((40 * x1) + x3) + (4 * x7)) + 2) 160 then (bif z_in ((((40 * x1) + x3) + (4 * x7)) + 3) 160 then z_bd (z_M 199 [.ref 122, .int (h.1 139 ((((40 * x1) + x3) + (4 * x7)).toNatClampNeg)), .int (h.1 139 (((((40 * x1) + x3) + (4 * x7)) + 1).toNatClampNeg)), .int (h.1 139 (((((40 * x1) + x3) + (4 * x7)) + 2).toNatClampNeg)), .int (h.1 139 (((((40 * x1) + x3) + (4 * x7)) + 3).toNatClampNeg))] h) (fun r1 h2 => (if (0 : Int32) ≤ r1 then zl_M_read_63 x1 x2 x3 x4 x5 (x6 + 1) (x7 + 1) h2 else zl_M_read_227 x7 0 h2)) else none) else none) else none) else none)) := by
  show z_X zc_M_read 5 (165, [(0, .ref 122), (1, .int x1), (2, .int x2), (3, .int x3), (4, .int x4), (5, .int x5), (6, .int x6), (7, .int x7)], [], h) = _
  refine (z_X_steps (s' := (167, [(0, .ref 122), (1, .int x1), (2, .int x2), (3, .int x3), (4, .int x4), (5, .int x5), (6, .int x6), (7, .int x7)], [.int x5], h)) 1 rfl).trans ?_
  refine (z_X_br (c := ¬ x5 = 0) (s1 := (264, [(0, .ref 122), (1, .int x1), (2, .int x2), (3, .int x3), (4, .int x4), (5, .int x5), (6, .int x6), (7, .int x7)], [], h)) (s2 := (170, [(0, .ref 122), (1, .int x1), (2, .int x2), (3, .int x3), (4, .int x4), (5, .int x5), (6, .int x6), (7, .int x7)], [], h)) rfl).trans (z_ite ?_ ?_)
  · refine (z_X_steps (s' := (63, [(7, .int (x7 + 1)), (0, .ref 122), (1, .int x1), (2, .int x2), (3, .int x3), (4, .int x4), (5, .int x5), (6, .int x6)], [], h)) 2 rfl).trans ?_
    exact z_X_lab rfl
  · refine (z_X_steps (s' := (190, [(8, .int (((40 * x1) + x3) + (4 * x7))), (0, .ref 122), (1, .int x1), (2, .int x2), (3, .int x3), (4, .int x4), (5, .int x5), (6, .int x6), (7, .int x7)], [.int (((40 * x1) + x3) + (4 * x7)), .ref 139, .ref 122], h)) 14 rfl).trans ?_
    refine (z_X_if (g := z_in (((40 * x1) + x3) + (4 * x7)) 160) (s' := (191, [(8, .int (((40 * x1) + x3) + (4 * x7))), (0, .ref 122), (1, .int x1), (2, .int x2), (3, .int x3), (4, .int x4), (5, .int x5), (6, .int x6), (7, .int x7)], [.int (h.1 139 ((((40 * x1) + x3) + (4 * x7)).toNatClampNeg)), .ref 122], h)) rfl).trans (z_bifA ?_)
    refine (z_X_steps (s' := (199, [(8, .int (((40 * x1) + x3) + (4 * x7))), (0, .ref 122), (1, .int x1), (2, .int x2), (3, .int x3), (4, .int x4), (5, .int x5), (6, .int x6), (7, .int x7)], [.int ((((40 * x1) + x3) + (4 * x7)) + 1), .ref 139, .int (h.1 139 ((((40 * x1) + x3) + (4 * x7)).toNatClampNeg)), .ref 122], h)) 5 rfl).trans ?_
    refine (z_X_if (g := z_in ((((40 * x1) + x3) + (4 * x7)) + 1) 160) (s' := (200, [(8, .int (((40 * x1) + x3) + (4 * x7))), (0, .ref 122), (1, .int x1), (2, .int x2), (3, .int x3), (4, .int x4), (5, .int x5), (6, .int x6), (7, .int x7)], [.int (h.1 139 (((((40 * x1) + x3) + (4 * x7)) + 1).toNatClampNeg)), .int (h.1 139 ((((40 * x1) + x3) + (4 * x7)).toNatClampNeg)), .ref 122], h)) rfl).trans (z_bifA ?_)
    refine (z_X_steps (s' := (208, [(8, .int (((40 * x1) + x3) + (4 * x7))), (0, .ref 122), (1, .int x1), (2, .int x2), (3, .int x3), (4, .int x4), (5, .int x5), (6, .int x6), (7, .int x7)], [.int ((((40 * x1) + x3) + (4 * x7)) + 2), .ref 139, .int (h.1 139 (((((40 * x1) + x3) + (4 * x7)) + 1).toNatClampNeg)), .int (h.1 139 ((((40 * x1) + x3) + (4 * x7)).toNatClampNeg)), .ref 122], h)) 5 rfl).trans ?_
    refine (z_X_if (g := z_in ((((40 * x1) + x3) + (4 * x7)) + 2) 160) (s' := (209, [(8, .int (((40 * x1) + x3) + (4 * x7))), (0, .ref 122), (1, .int x1), (2, .int x2), (3, .int x3), (4, .int x4), (5, .int x5), (6, .int x6), (7, .int x7)], [.int (h.1 139 (((((40 * x1) + x3) + (4 * x7)) + 2).toNatClampNeg)), .int (h.1 139 (((((40 * x1) + x3) + (4 * x7)) + 1).toNatClampNeg)), .int (h.1 139 ((((40 * x1) + x3) + (4 * x7)).toNatClampNeg)), .ref 122], h)) rfl).trans (z_bifA ?_)
    refine (z_X_steps (s' := (217, [(8, .int (((40 * x1) + x3) + (4 * x7))), (0, .ref 122), (1, .int x1), (2, .int x2), (3, .int x3), (4, .int x4), (5, .int x5), (6, .int x6), (7, .int x7)], [.int ((((40 * x1) + x3) + (4 * x7)) + 3), .ref 139, .int (h.1 139 (((((40 * x1) + x3) + (4 * x7)) + 2).toNatClampNeg)), .int (h.1 139 (((((40 * x1) + x3) + (4 * x7)) + 1).toNatClampNeg)), .int (h.1 139 ((((40 * x1) + x3) + (4 * x7)).toNatClampNeg)), .ref 122], h)) 5 rfl).trans ?_
    refine (z_X_if (g := z_in ((((40 * x1) + x3) + (4 * x7)) + 3) 160) (s' := (218, [(8, .int (((40 * x1) + x3) + (4 * x7))), (0, .ref 122), (1, .int x1), (2, .int x2), (3, .int x3), (4, .int x4), (5, .int x5), (6, .int x6), (7, .int x7)], [.int (h.1 139 (((((40 * x1) + x3) + (4 * x7)) + 3).toNatClampNeg)), .int (h.1 139 (((((40 * x1) + x3) + (4 * x7)) + 2).toNatClampNeg)), .int (h.1 139 (((((40 * x1) + x3) + (4 * x7)) + 1).toNatClampNeg)), .int (h.1 139 ((((40 * x1) + x3) + (4 * x7)).toNatClampNeg)), .ref 122], h)) rfl).trans (z_bifA ?_)
    refine (z_X_call (id := 199) (a := [.ref 122, .int (h.1 139 ((((40 * x1) + x3) + (4 * x7)).toNatClampNeg)), .int (h.1 139 (((((40 * x1) + x3) + (4 * x7)) + 1).toNatClampNeg)), .int (h.1 139 (((((40 * x1) + x3) + (4 * x7)) + 2).toNatClampNeg)), .int (h.1 139 (((((40 * x1) + x3) + (4 * x7)) + 3).toNatClampNeg))]) (c := 1) (s' := (221, [(8, .int (((40 * x1) + x3) + (4 * x7))), (0, .ref 122), (1, .int x1), (2, .int x2), (3, .int x3), (4, .int x4), (5, .int x5), (6, .int x6), (7, .int x7)], [], h)) rfl ⟨Nat.le_of_ble_eq_true rfl, Nat.le_of_ble_eq_true rfl⟩).trans ?_
    refine z_bdc fun r1 h2 => ?_
    refine (z_X_br (c := (0 : Int32) ≤ r1) (s1 := (261, [(8, .int (((40 * x1) + x3) + (4 * x7))), (0, .ref 122), (1, .int x1), (2, .int x2), (3, .int x3), (4, .int x4), (5, .int x5), (6, .int x6), (7, .int x7)], [], h2)) (s2 := (224, [(8, .int (((40 * x1) + x3) + (4 * x7))), (0, .ref 122), (1, .int x1), (2, .int x2), (3, .int x3), (4, .int x4), (5, .int x5), (6, .int x6), (7, .int x7)], [], h2)) rfl).trans (z_ite ?_ ?_)
    · refine (z_X_steps (s' := (63, [(7, .int (x7 + 1)), (6, .int (x6 + 1)), (8, .int (((40 * x1) + x3) + (4 * x7))), (0, .ref 122), (1, .int x1), (2, .int x2), (3, .int x3), (4, .int x4), (5, .int x5)], [], h2)) 3 rfl).trans ?_
      exact z_X_lab rfl
    · refine (z_X_steps (s' := (227, [(9, .int 0), (8, .int (((40 * x1) + x3) + (4 * x7))), (0, .ref 122), (1, .int x1), (2, .int x2), (3, .int x3), (4, .int x4), (5, .int x5), (6, .int x6), (7, .int x7)], [], h2)) 2 rfl).trans ?_
      exact z_X_lab rfl
set_option maxRecDepth 8000 in
set_option maxHeartbeats 2000000 in
theorem e_M_read_227 (x7 : Int32) (x9 : Int32) (h : z_H) : zl_M_read_227 x7 x9 h = (if (549 : Int32) ≤ x9 then some ((-20) - x7, h) else (bif z_in x9 549 then (bif z_in x9 549 then zl_M_read_227 x7 (x9 + 1) (z_wI h 123 (x9.toNatClampNeg) (h.1 140 (x9.toNatClampNeg))) else none) else none)) := by
  show z_X zc_M_read 5 (227, [(0, .ref 122), (7, .int x7), (9, .int x9)], [], h) = _
  refine (z_X_steps (s' := (232, [(0, .ref 122), (7, .int x7), (9, .int x9)], [.int 549, .int x9], h)) 2 rfl).trans ?_
  refine (z_X_br (c := (549 : Int32) ≤ x9) (s1 := (255, [(0, .ref 122), (7, .int x7), (9, .int x9)], [], h)) (s2 := (235, [(0, .ref 122), (7, .int x7), (9, .int x9)], [], h)) rfl).trans (z_ite ?_ ?_)
  · refine (z_X_steps (s' := (260, [(0, .ref 122), (7, .int x7), (9, .int x9)], [.int ((-20) - x7)], h)) 3 rfl).trans ?_
    exact z_X_ret rfl
  · refine (z_X_steps (s' := (247, [(0, .ref 122), (7, .int x7), (9, .int x9)], [.int x9, .ref 140, .int x9, .ref 123], h)) 6 rfl).trans ?_
    refine (z_X_if (g := z_in x9 549) (s' := (248, [(0, .ref 122), (7, .int x7), (9, .int x9)], [.int (h.1 140 (x9.toNatClampNeg)), .int x9, .ref 123], h)) rfl).trans (z_bifA ?_)
    refine (z_X_if (g := z_in x9 549) (s' := (249, [(0, .ref 122), (7, .int x7), (9, .int x9)], [], (z_wI h 123 (x9.toNatClampNeg) (h.1 140 (x9.toNatClampNeg))))) rfl).trans (z_bifA ?_)
    refine (z_X_steps (s' := (227, [(9, .int (x9 + 1)), (0, .ref 122), (7, .int x7)], [], (z_wI h 123 (x9.toNatClampNeg) (h.1 140 (x9.toNatClampNeg))))) 2 rfl).trans ?_
    exact z_X_lab rfl
set_option maxRecDepth 8000 in
set_option maxHeartbeats 2000000 in
theorem e_M_torn (h : z_H) : z_M 215 [.ref 122] h = some (h.1 122 33, h) := by
  refine (z_M_eq (by decide)).trans ?_
  show z_X zc_M_torn 1 (0, [(0, .ref 122)], [], h) = _
  refine (z_X_steps (s' := (4, [(0, .ref 122)], [.int (h.1 122 33)], h)) 2 rfl).trans ?_
  exact z_X_ret rfl
noncomputable def zl_M_callsOld_4 (x1 : Int32) (x2 : Int32) (h : z_H) : Option z_A := z_X zc_M_callsOld 3 (4, [(0, .ref 122), (1, .int x1), (2, .int x2)], [], h)
noncomputable def zl_M_callsOld_16 (x1 : Int32) (x2 : Int32) (x3 : Int32) (h : z_H) : Option z_A := z_X zc_M_callsOld 3 (16, [(0, .ref 122), (1, .int x1), (2, .int x2), (3, .int x3)], [], h)
set_option maxRecDepth 8000 in
set_option maxHeartbeats 2000000 in
theorem e_M_callsOld (h : z_H) : z_M 216 [.ref 122] h = zl_M_callsOld_4 0 0 h := by
  refine (z_M_eq (by decide)).trans ?_
  show z_X zc_M_callsOld 3 (0, [(0, .ref 122)], [], h) = _
  refine (z_X_steps (s' := (4, [(2, .int 0), (1, .int 0), (0, .ref 122)], [], h)) 4 rfl).trans ?_
  exact z_X_lab rfl
set_option maxRecDepth 8000 in
set_option maxHeartbeats 2000000 in
theorem e_M_callsOld_4 (x1 : Int32) (x2 : Int32) (h : z_H) : zl_M_callsOld_4 x1 x2 h = (if h.1 123 0 ≤ x2 then some (x1, h) else zl_M_callsOld_16 x1 x2 0 h) := by
  show z_X zc_M_callsOld 3 (4, [(0, .ref 122), (1, .int x1), (2, .int x2)], [], h) = _
  refine (z_X_steps (s' := (11, [(0, .ref 122), (1, .int x1), (2, .int x2)], [.int (h.1 123 0), .int x2], h)) 5 rfl).trans ?_
  refine (z_X_br (c := h.1 123 0 ≤ x2) (s1 := (52, [(0, .ref 122), (1, .int x1), (2, .int x2)], [], h)) (s2 := (14, [(0, .ref 122), (1, .int x1), (2, .int x2)], [], h)) rfl).trans (z_ite ?_ ?_)
  · refine (z_X_steps (s' := (53, [(0, .ref 122), (1, .int x1), (2, .int x2)], [.int x1], h)) 1 rfl).trans ?_
    exact z_X_ret rfl
  · refine (z_X_steps (s' := (16, [(3, .int 0), (0, .ref 122), (1, .int x1), (2, .int x2)], [], h)) 2 rfl).trans ?_
    exact z_X_lab rfl
set_option maxRecDepth 8000 in
set_option maxHeartbeats 2000000 in
theorem e_M_callsOld_16 (x1 : Int32) (x2 : Int32) (x3 : Int32) (h : z_H) : zl_M_callsOld_16 x1 x2 x3 h = (bif z_in (7 + x2) 549 then (if h.1 123 ((7 + x2).toNatClampNeg) ≤ x3 then zl_M_callsOld_4 x1 (x2 + 1) h else z_bd (z_M 158 [.ref 122, .int 0, .int x2, .int x3, .int 0] h) (fun r1 h2 => zl_M_callsOld_16 (x1 + r1) x2 (x3 + 1) h2)) else none) := by
  show z_X zc_M_callsOld 3 (16, [(0, .ref 122), (1, .int x1), (2, .int x2), (3, .int x3)], [], h) = _
  refine (z_X_steps (s' := (25, [(0, .ref 122), (1, .int x1), (2, .int x2), (3, .int x3)], [.int (7 + x2), .ref 123, .int x3], h)) 6 rfl).trans ?_
  refine (z_X_if (g := z_in (7 + x2) 549) (s' := (26, [(0, .ref 122), (1, .int x1), (2, .int x2), (3, .int x3)], [.int (h.1 123 ((7 + x2).toNatClampNeg)), .int x3], h)) rfl).trans (z_bifA ?_)
  refine (z_X_br (c := h.1 123 ((7 + x2).toNatClampNeg) ≤ x3) (s1 := (46, [(0, .ref 122), (1, .int x1), (2, .int x2), (3, .int x3)], [], h)) (s2 := (29, [(0, .ref 122), (1, .int x1), (2, .int x2), (3, .int x3)], [], h)) rfl).trans (z_ite ?_ ?_)
  · refine (z_X_steps (s' := (4, [(2, .int (x2 + 1)), (0, .ref 122), (1, .int x1), (3, .int x3)], [], h)) 2 rfl).trans ?_
    exact z_X_lab rfl
  · refine (z_X_steps (s' := (35, [(0, .ref 122), (1, .int x1), (2, .int x2), (3, .int x3)], [.int 0, .int x3, .int x2, .int 0, .ref 122, .int x1], h)) 6 rfl).trans ?_
    refine (z_X_call (id := 158) (a := [.ref 122, .int 0, .int x2, .int x3, .int 0]) (c := 1) (s' := (38, [(0, .ref 122), (1, .int x1), (2, .int x2), (3, .int x3)], [.int x1], h)) rfl ⟨Nat.le_of_ble_eq_true rfl, Nat.le_of_ble_eq_true rfl⟩).trans ?_
    refine z_bdc fun r1 h2 => ?_
    refine (z_X_steps (s' := (16, [(3, .int (x3 + 1)), (1, .int (x1 + r1)), (0, .ref 122), (2, .int x2)], [], h2)) 4 rfl).trans ?_
    exact z_X_lab rfl
noncomputable def zl_M_isOther_19 (x1 : Int32) (x2 : Int32) (x3 : Int32) (x4 : Int32) (h : z_H) : Option z_A := z_X zc_M_isOther 4 (19, [(0, .ref 122), (1, .int x1), (2, .int x2), (3, .int x3), (4, .int x4)], [], h)
set_option maxRecDepth 8000 in
set_option maxHeartbeats 2000000 in
theorem e_M_isOther (x1 : Int32) (x2 : Int32) (h : z_H) : z_M 217 [.ref 122, .int x1, .int x2] h = z_bd (z_M 169 [.ref 122, .int x1, .int x2, .int x2] h) (fun r1 h2 => (if ¬ r1 = 0 then zl_M_isOther_19 x1 x2 0 0 h2 else zl_M_isOther_19 x1 x2 1 0 h2)) := by
  refine (z_M_eq (by decide)).trans ?_
  show z_X zc_M_isOther 4 (0, [(0, .ref 122), (1, .int x1), (2, .int x2)], [], h) = _
  refine (z_X_steps (s' := (4, [(0, .ref 122), (1, .int x1), (2, .int x2)], [.int x2, .int x2, .int x1, .ref 122], h)) 4 rfl).trans ?_
  refine (z_X_call (id := 169) (a := [.ref 122, .int x1, .int x2, .int x2]) (c := 1) (s' := (7, [(0, .ref 122), (1, .int x1), (2, .int x2)], [], h)) rfl ⟨Nat.le_of_ble_eq_true rfl, Nat.le_of_ble_eq_true rfl⟩).trans ?_
  refine z_bdc fun r1 h2 => ?_
  refine (z_X_br (c := ¬ r1 = 0) (s1 := (14, [(0, .ref 122), (1, .int x1), (2, .int x2)], [], h2)) (s2 := (10, [(0, .ref 122), (1, .int x1), (2, .int x2)], [], h2)) rfl).trans (z_ite ?_ ?_)
  · refine (z_X_steps (s' := (19, [(4, .int 0), (3, .int 0), (0, .ref 122), (1, .int x1), (2, .int x2)], [], h2)) 4 rfl).trans ?_
    exact z_X_lab rfl
  · refine (z_X_steps (s' := (19, [(4, .int 0), (3, .int 1), (0, .ref 122), (1, .int x1), (2, .int x2)], [], h2)) 5 rfl).trans ?_
    exact z_X_lab rfl
set_option maxRecDepth 8000 in
set_option maxHeartbeats 2000000 in
theorem e_M_isOther_19 (x1 : Int32) (x2 : Int32) (x3 : Int32) (x4 : Int32) (h : z_H) : zl_M_isOther_19 x1 x2 x3 x4 h = z_bd (z_M 158 [.ref 122, .int 0, .int x1, .int x2, .int 2] h) (fun r1 h2 => (if r1 ≤ x4 then some (x3 &&& 1, h2) else (if ¬ x3 = 0 then zl_M_isOther_19 x1 x2 1 (x4 + 1) h2 else z_bd (z_M 158 [.ref 122, .int 0, .int x1, .int x2, .int (3 + x4)] h2) (fun r3 h4 => z_bd (z_M 158 [.ref 122, .int 1, .int x1, .int x2, .int (3 + x4)] h4) (fun r5 h6 => (if r3 = r5 then zl_M_isOther_19 x1 x2 0 (x4 + 1) h6 else zl_M_isOther_19 x1 x2 1 (x4 + 1) h6)))))) := by
  show z_X zc_M_isOther 4 (19, [(0, .ref 122), (1, .int x1), (2, .int x2), (3, .int x3), (4, .int x4)], [], h) = _
  refine (z_X_steps (s' := (26, [(0, .ref 122), (1, .int x1), (2, .int x2), (3, .int x3), (4, .int x4)], [.int 2, .int x2, .int x1, .int 0, .ref 122, .int x4], h)) 6 rfl).trans ?_
  refine (z_X_call (id := 158) (a := [.ref 122, .int 0, .int x1, .int x2, .int 2]) (c := 1) (s' := (29, [(0, .ref 122), (1, .int x1), (2, .int x2), (3, .int x3), (4, .int x4)], [.int x4], h)) rfl ⟨Nat.le_of_ble_eq_true rfl, Nat.le_of_ble_eq_true rfl⟩).trans ?_
  refine z_bdc fun r1 h2 => ?_
  refine (z_X_br (c := r1 ≤ x4) (s1 := (73, [(0, .ref 122), (1, .int x1), (2, .int x2), (3, .int x3), (4, .int x4)], [], h2)) (s2 := (32, [(0, .ref 122), (1, .int x1), (2, .int x2), (3, .int x3), (4, .int x4)], [], h2)) rfl).trans (z_ite ?_ ?_)
  · refine (z_X_steps (s' := (74, [(0, .ref 122), (1, .int x1), (2, .int x2), (3, .int x3), (4, .int x4)], [.int x3], h2)) 1 rfl).trans ?_
    exact z_X_ret rfl
  · refine (z_X_steps (s' := (33, [(0, .ref 122), (1, .int x1), (2, .int x2), (3, .int x3), (4, .int x4)], [.int x3], h2)) 1 rfl).trans ?_
    refine (z_X_br (c := ¬ x3 = 0) (s1 := (61, [(0, .ref 122), (1, .int x1), (2, .int x2), (3, .int x3), (4, .int x4)], [], h2)) (s2 := (36, [(0, .ref 122), (1, .int x1), (2, .int x2), (3, .int x3), (4, .int x4)], [], h2)) rfl).trans (z_ite ?_ ?_)
    · refine (z_X_steps (s' := (19, [(4, .int (x4 + 1)), (3, .int 1), (0, .ref 122), (1, .int x1), (2, .int x2)], [], h2)) 5 rfl).trans ?_
      exact z_X_lab rfl
    · refine (z_X_steps (s' := (44, [(0, .ref 122), (1, .int x1), (2, .int x2), (3, .int x3), (4, .int x4)], [.int (3 + x4), .int x2, .int x1, .int 0, .ref 122], h2)) 7 rfl).trans ?_
      refine (z_X_call (id := 158) (a := [.ref 122, .int 0, .int x1, .int x2, .int (3 + x4)]) (c := 1) (s' := (47, [(0, .ref 122), (1, .int x1), (2, .int x2), (3, .int x3), (4, .int x4)], [], h2)) rfl ⟨Nat.le_of_ble_eq_true rfl, Nat.le_of_ble_eq_true rfl⟩).trans ?_
      refine z_bdc fun r3 h4 => ?_
      refine (z_X_steps (s' := (55, [(0, .ref 122), (1, .int x1), (2, .int x2), (3, .int x3), (4, .int x4)], [.int (3 + x4), .int x2, .int x1, .int 1, .ref 122, .int r3], h4)) 7 rfl).trans ?_
      refine (z_X_call (id := 158) (a := [.ref 122, .int 1, .int x1, .int x2, .int (3 + x4)]) (c := 1) (s' := (58, [(0, .ref 122), (1, .int x1), (2, .int x2), (3, .int x3), (4, .int x4)], [.int r3], h4)) rfl ⟨Nat.le_of_ble_eq_true rfl, Nat.le_of_ble_eq_true rfl⟩).trans ?_
      refine z_bdc fun r5 h6 => ?_
      refine (z_X_br (c := r3 = r5) (s1 := (65, [(0, .ref 122), (1, .int x1), (2, .int x2), (3, .int x3), (4, .int x4)], [], h6)) (s2 := (61, [(0, .ref 122), (1, .int x1), (2, .int x2), (3, .int x3), (4, .int x4)], [], h6)) rfl).trans (z_ite ?_ ?_)
      · refine (z_X_steps (s' := (19, [(4, .int (x4 + 1)), (3, .int 0), (0, .ref 122), (1, .int x1), (2, .int x2)], [], h6)) 4 rfl).trans ?_
        exact z_X_lab rfl
      · refine (z_X_steps (s' := (19, [(4, .int (x4 + 1)), (3, .int 1), (0, .ref 122), (1, .int x1), (2, .int x2)], [], h6)) 5 rfl).trans ?_
        exact z_X_lab rfl
noncomputable def zl_M_nodesOther_4 (x1 : Int32) (x2 : Int32) (h : z_H) : Option z_A := z_X zc_M_nodesOther 5 (4, [(0, .ref 122), (1, .int x1), (2, .int x2)], [], h)
noncomputable def zl_M_nodesOther_16 (x1 : Int32) (x2 : Int32) (x3 : Int32) (h : z_H) : Option z_A := z_X zc_M_nodesOther 5 (16, [(0, .ref 122), (1, .int x1), (2, .int x2), (3, .int x3)], [], h)
set_option maxRecDepth 8000 in
set_option maxHeartbeats 2000000 in
theorem e_M_nodesOther (h : z_H) : z_M 218 [.ref 122] h = zl_M_nodesOther_4 0 0 h := by
  refine (z_M_eq (by decide)).trans ?_
  show z_X zc_M_nodesOther 5 (0, [(0, .ref 122)], [], h) = _
  refine (z_X_steps (s' := (4, [(2, .int 0), (1, .int 0), (0, .ref 122)], [], h)) 4 rfl).trans ?_
  exact z_X_lab rfl
set_option maxRecDepth 8000 in
set_option maxHeartbeats 2000000 in
theorem e_M_nodesOther_4 (x1 : Int32) (x2 : Int32) (h : z_H) : zl_M_nodesOther_4 x1 x2 h = (if h.1 123 0 ≤ x2 then some (x1, h) else zl_M_nodesOther_16 x1 x2 0 h) := by
  show z_X zc_M_nodesOther 5 (4, [(0, .ref 122), (1, .int x1), (2, .int x2)], [], h) = _
  refine (z_X_steps (s' := (11, [(0, .ref 122), (1, .int x1), (2, .int x2)], [.int (h.1 123 0), .int x2], h)) 5 rfl).trans ?_
  refine (z_X_br (c := h.1 123 0 ≤ x2) (s1 := (53, [(0, .ref 122), (1, .int x1), (2, .int x2)], [], h)) (s2 := (14, [(0, .ref 122), (1, .int x1), (2, .int x2)], [], h)) rfl).trans (z_ite ?_ ?_)
  · refine (z_X_steps (s' := (54, [(0, .ref 122), (1, .int x1), (2, .int x2)], [.int x1], h)) 1 rfl).trans ?_
    exact z_X_ret rfl
  · refine (z_X_steps (s' := (16, [(3, .int 0), (0, .ref 122), (1, .int x1), (2, .int x2)], [], h)) 2 rfl).trans ?_
    exact z_X_lab rfl
set_option maxRecDepth 8000 in
set_option maxHeartbeats 2000000 in
theorem e_M_nodesOther_16 (x1 : Int32) (x2 : Int32) (x3 : Int32) (h : z_H) : zl_M_nodesOther_16 x1 x2 x3 h = (bif z_in (7 + x2) 549 then (if h.1 123 ((7 + x2).toNatClampNeg) ≤ x3 then zl_M_nodesOther_4 x1 (x2 + 1) h else z_bd (z_M 217 [.ref 122, .int x2, .int x3] h) (fun r1 h2 => z_bd (z_M 128 [.int r1] h2) (fun r3 h4 => zl_M_nodesOther_16 (x1 + r3) x2 (x3 + 1) h4))) else none) := by
  show z_X zc_M_nodesOther 5 (16, [(0, .ref 122), (1, .int x1), (2, .int x2), (3, .int x3)], [], h) = _
  refine (z_X_steps (s' := (25, [(0, .ref 122), (1, .int x1), (2, .int x2), (3, .int x3)], [.int (7 + x2), .ref 123, .int x3], h)) 6 rfl).trans ?_
  refine (z_X_if (g := z_in (7 + x2) 549) (s' := (26, [(0, .ref 122), (1, .int x1), (2, .int x2), (3, .int x3)], [.int (h.1 123 ((7 + x2).toNatClampNeg)), .int x3], h)) rfl).trans (z_bifA ?_)
  refine (z_X_br (c := h.1 123 ((7 + x2).toNatClampNeg) ≤ x3) (s1 := (47, [(0, .ref 122), (1, .int x1), (2, .int x2), (3, .int x3)], [], h)) (s2 := (29, [(0, .ref 122), (1, .int x1), (2, .int x2), (3, .int x3)], [], h)) rfl).trans (z_ite ?_ ?_)
  · refine (z_X_steps (s' := (4, [(2, .int (x2 + 1)), (0, .ref 122), (1, .int x1), (3, .int x3)], [], h)) 2 rfl).trans ?_
    exact z_X_lab rfl
  · refine (z_X_steps (s' := (33, [(0, .ref 122), (1, .int x1), (2, .int x2), (3, .int x3)], [.int x3, .int x2, .ref 122, .int x1], h)) 4 rfl).trans ?_
    refine (z_X_call (id := 217) (a := [.ref 122, .int x2, .int x3]) (c := 1) (s' := (36, [(0, .ref 122), (1, .int x1), (2, .int x2), (3, .int x3)], [.int x1], h)) rfl ⟨Nat.le_of_ble_eq_true rfl, Nat.le_of_ble_eq_true rfl⟩).trans ?_
    refine z_bdc fun r1 h2 => ?_
    refine (z_X_call (id := 128) (a := [.int r1]) (c := 1) (s' := (39, [(0, .ref 122), (1, .int x1), (2, .int x2), (3, .int x3)], [.int x1], h2)) rfl ⟨Nat.le_of_ble_eq_true rfl, Nat.le_of_ble_eq_true rfl⟩).trans ?_
    refine z_bdc fun r3 h4 => ?_
    refine (z_X_steps (s' := (16, [(3, .int (x3 + 1)), (1, .int (x1 + r3)), (0, .ref 122), (2, .int x2)], [], h4)) 4 rfl).trans ?_
    exact z_X_lab rfl
noncomputable def zl_M_edgesOver_2 (x1 : Int32) (h : z_H) : Option z_A := z_X zc_M_edgesOver 8 (2, [(0, .ref 122), (1, .int x1)], [], h)
noncomputable def zl_M_edgesOver_24 (x1 : Int32) (h : z_H) : Option z_A := z_X zc_M_edgesOver 8 (24, [(0, .ref 122), (1, .int x1)], [], h)
noncomputable def zl_M_edgesOver_94 (x1 : Int32) (x2 : Int32) (h : z_H) : Option z_A := z_X zc_M_edgesOver 8 (94, [(0, .ref 122), (1, .int x1), (2, .int x2)], [], h)
noncomputable def zl_M_edgesOver_42 (x1 : Int32) (x2 : Int32) (h : z_H) : Option z_A := z_X zc_M_edgesOver 8 (42, [(0, .ref 122), (1, .int x1), (2, .int x2)], [], h)
set_option maxRecDepth 8000 in
set_option maxHeartbeats 2000000 in
theorem e_M_edgesOver (h : z_H) : z_M 219 [.ref 122] h = zl_M_edgesOver_2 0 h := by
  refine (z_M_eq (by decide)).trans ?_
  show z_X zc_M_edgesOver 8 (0, [(0, .ref 122)], [], h) = _
  refine (z_X_steps (s' := (2, [(1, .int 0), (0, .ref 122)], [], h)) 2 rfl).trans ?_
  exact z_X_lab rfl
set_option maxRecDepth 8000 in
set_option maxHeartbeats 2000000 in
theorem e_M_edgesOver_2 (x1 : Int32) (h : z_H) : zl_M_edgesOver_2 x1 h = (if (216 : Int32) ≤ x1 then zl_M_edgesOver_24 0 h else (bif z_in x1 216 then zl_M_edgesOver_2 (x1 + 1) (z_wI h 133 (x1.toNatClampNeg) 0) else none)) := by
  show z_X zc_M_edgesOver 8 (2, [(0, .ref 122), (1, .int x1)], [], h) = _
  refine (z_X_steps (s' := (6, [(0, .ref 122), (1, .int x1)], [.int 216, .int x1], h)) 2 rfl).trans ?_
  refine (z_X_br (c := (216 : Int32) ≤ x1) (s1 := (22, [(0, .ref 122), (1, .int x1)], [], h)) (s2 := (9, [(0, .ref 122), (1, .int x1)], [], h)) rfl).trans (z_ite ?_ ?_)
  · refine (z_X_steps (s' := (24, [(1, .int 0), (0, .ref 122)], [], h)) 2 rfl).trans ?_
    exact z_X_lab rfl
  · refine (z_X_steps (s' := (15, [(0, .ref 122), (1, .int x1)], [.int 0, .int x1, .ref 133], h)) 4 rfl).trans ?_
    refine (z_X_if (g := z_in x1 216) (s' := (16, [(0, .ref 122), (1, .int x1)], [], (z_wI h 133 (x1.toNatClampNeg) 0))) rfl).trans (z_bifA ?_)
    refine (z_X_steps (s' := (2, [(1, .int (x1 + 1)), (0, .ref 122)], [], (z_wI h 133 (x1.toNatClampNeg) 0))) 2 rfl).trans ?_
    exact z_X_lab rfl
set_option maxRecDepth 8000 in
set_option maxHeartbeats 2000000 in
theorem e_M_edgesOver_24 (x1 : Int32) (h : z_H) : zl_M_edgesOver_24 x1 h = (if h.1 123 2 ≤ x1 then zl_M_edgesOver_94 0 0 h else z_bd (z_M 168 [.ref 122, .int 0, .int x1] h) (fun r1 h2 => zl_M_edgesOver_42 x1 0 h2)) := by
  show z_X zc_M_edgesOver 8 (24, [(0, .ref 122), (1, .int x1)], [], h) = _
  refine (z_X_steps (s' := (31, [(0, .ref 122), (1, .int x1)], [.int (h.1 123 2), .int x1], h)) 5 rfl).trans ?_
  refine (z_X_br (c := h.1 123 2 ≤ x1) (s1 := (90, [(0, .ref 122), (1, .int x1)], [], h)) (s2 := (34, [(0, .ref 122), (1, .int x1)], [], h)) rfl).trans (z_ite ?_ ?_)
  · refine (z_X_steps (s' := (94, [(2, .int 0), (1, .int 0), (0, .ref 122)], [], h)) 4 rfl).trans ?_
    exact z_X_lab rfl
  · refine (z_X_steps (s' := (37, [(0, .ref 122), (1, .int x1)], [.int x1, .int 0, .ref 122], h)) 3 rfl).trans ?_
    refine (z_X_call (id := 168) (a := [.ref 122, .int 0, .int x1]) (c := 0) (s' := (40, [(0, .ref 122), (1, .int x1)], [], h)) rfl ⟨Nat.le_of_ble_eq_true rfl, Nat.le_of_ble_eq_true rfl⟩).trans ?_
    refine z_bdc fun r1 h2 => ?_
    refine (z_X_steps (s' := (42, [(2, .int 0), (0, .ref 122), (1, .int x1)], [], h2)) 2 rfl).trans ?_
    exact z_X_lab rfl
set_option maxRecDepth 8000 in
set_option maxHeartbeats 2000000 in
theorem e_M_edgesOver_94 (x1 : Int32) (x2 : Int32) (h : z_H) : zl_M_edgesOver_94 x1 x2 h = (if (216 : Int32) ≤ x2 then some (x1, h) else (bif z_in x2 216 then z_bd (z_M 128 [.int (h.1 133 (x2.toNatClampNeg))] h) (fun r1 h2 => zl_M_edgesOver_94 (x1 + r1) (x2 + 1) h2) else none)) := by
  show z_X zc_M_edgesOver 8 (94, [(0, .ref 122), (1, .int x1), (2, .int x2)], [], h) = _
  refine (z_X_steps (s' := (98, [(0, .ref 122), (1, .int x1), (2, .int x2)], [.int 216, .int x2], h)) 2 rfl).trans ?_
  refine (z_X_br (c := (216 : Int32) ≤ x2) (s1 := (119, [(0, .ref 122), (1, .int x1), (2, .int x2)], [], h)) (s2 := (101, [(0, .ref 122), (1, .int x1), (2, .int x2)], [], h)) rfl).trans (z_ite ?_ ?_)
  · refine (z_X_steps (s' := (120, [(0, .ref 122), (1, .int x1), (2, .int x2)], [.int x1], h)) 1 rfl).trans ?_
    exact z_X_ret rfl
  · refine (z_X_steps (s' := (107, [(0, .ref 122), (1, .int x1), (2, .int x2)], [.int x2, .ref 133, .int x1], h)) 4 rfl).trans ?_
    refine (z_X_if (g := z_in x2 216) (s' := (108, [(0, .ref 122), (1, .int x1), (2, .int x2)], [.int (h.1 133 (x2.toNatClampNeg)), .int x1], h)) rfl).trans (z_bifA ?_)
    refine (z_X_call (id := 128) (a := [.int (h.1 133 (x2.toNatClampNeg))]) (c := 1) (s' := (111, [(0, .ref 122), (1, .int x1), (2, .int x2)], [.int x1], h)) rfl ⟨Nat.le_of_ble_eq_true rfl, Nat.le_of_ble_eq_true rfl⟩).trans ?_
    refine z_bdc fun r1 h2 => ?_
    refine (z_X_steps (s' := (94, [(2, .int (x2 + 1)), (1, .int (x1 + r1)), (0, .ref 122)], [], h2)) 4 rfl).trans ?_
    exact z_X_lab rfl
set_option maxRecDepth 8000 in
set_option maxHeartbeats 2000000 in
theorem e_M_edgesOver_42 (x1 : Int32) (x2 : Int32) (h : z_H) : zl_M_edgesOver_42 x1 x2 h = (if (216 : Int32) ≤ x2 then zl_M_edgesOver_24 (x1 + 1) h else (bif z_in x2 216 then (if ¬ h.1 133 (x2.toNatClampNeg) = 0 then (bif z_in x2 216 then zl_M_edgesOver_42 x1 (x2 + 1) (z_wI h 133 (x2.toNatClampNeg) 1) else none) else (bif z_in x2 216 then (if h.1 130 (x2.toNatClampNeg) = 0 then (bif z_in x2 216 then zl_M_edgesOver_42 x1 (x2 + 1) (z_wI h 133 (x2.toNatClampNeg) 0) else none) else (bif z_in x2 216 then zl_M_edgesOver_42 x1 (x2 + 1) (z_wI h 133 (x2.toNatClampNeg) 1) else none)) else none)) else none)) := by
  show z_X zc_M_edgesOver 8 (42, [(0, .ref 122), (1, .int x1), (2, .int x2)], [], h) = _
  refine (z_X_steps (s' := (46, [(0, .ref 122), (1, .int x1), (2, .int x2)], [.int 216, .int x2], h)) 2 rfl).trans ?_
  refine (z_X_br (c := (216 : Int32) ≤ x2) (s1 := (84, [(0, .ref 122), (1, .int x1), (2, .int x2)], [], h)) (s2 := (49, [(0, .ref 122), (1, .int x1), (2, .int x2)], [], h)) rfl).trans (z_ite ?_ ?_)
  · refine (z_X_steps (s' := (24, [(1, .int (x1 + 1)), (0, .ref 122), (2, .int x2)], [], h)) 2 rfl).trans ?_
    exact z_X_lab rfl
  · refine (z_X_steps (s' := (59, [(0, .ref 122), (1, .int x1), (2, .int x2)], [.int x2, .ref 133, .int x2, .ref 133], h)) 6 rfl).trans ?_
    refine (z_X_if (g := z_in x2 216) (s' := (60, [(0, .ref 122), (1, .int x1), (2, .int x2)], [.int (h.1 133 (x2.toNatClampNeg)), .int x2, .ref 133], h)) rfl).trans (z_bifA ?_)
    refine (z_X_br (c := ¬ h.1 133 (x2.toNatClampNeg) = 0) (s1 := (72, [(0, .ref 122), (1, .int x1), (2, .int x2)], [.int x2, .ref 133], h)) (s2 := (63, [(0, .ref 122), (1, .int x1), (2, .int x2)], [.int x2, .ref 133], h)) rfl).trans (z_ite ?_ ?_)
    · refine (z_X_steps (s' := (77, [(0, .ref 122), (1, .int x1), (2, .int x2)], [.int 1, .int x2, .ref 133], h)) 2 rfl).trans ?_
      refine (z_X_if (g := z_in x2 216) (s' := (78, [(0, .ref 122), (1, .int x1), (2, .int x2)], [], (z_wI h 133 (x2.toNatClampNeg) 1))) rfl).trans (z_bifA ?_)
      refine (z_X_steps (s' := (42, [(2, .int (x2 + 1)), (0, .ref 122), (1, .int x1)], [], (z_wI h 133 (x2.toNatClampNeg) 1))) 2 rfl).trans ?_
      exact z_X_lab rfl
    · refine (z_X_steps (s' := (68, [(0, .ref 122), (1, .int x1), (2, .int x2)], [.int x2, .ref 130, .int x2, .ref 133], h)) 3 rfl).trans ?_
      refine (z_X_if (g := z_in x2 216) (s' := (69, [(0, .ref 122), (1, .int x1), (2, .int x2)], [.int (h.1 130 (x2.toNatClampNeg)), .int x2, .ref 133], h)) rfl).trans (z_bifA ?_)
      refine (z_X_br (c := h.1 130 (x2.toNatClampNeg) = 0) (s1 := (76, [(0, .ref 122), (1, .int x1), (2, .int x2)], [.int x2, .ref 133], h)) (s2 := (72, [(0, .ref 122), (1, .int x1), (2, .int x2)], [.int x2, .ref 133], h)) rfl).trans (z_ite ?_ ?_)
      · refine (z_X_steps (s' := (77, [(0, .ref 122), (1, .int x1), (2, .int x2)], [.int 0, .int x2, .ref 133], h)) 1 rfl).trans ?_
        refine (z_X_if (g := z_in x2 216) (s' := (78, [(0, .ref 122), (1, .int x1), (2, .int x2)], [], (z_wI h 133 (x2.toNatClampNeg) 0))) rfl).trans (z_bifA ?_)
        refine (z_X_steps (s' := (42, [(2, .int (x2 + 1)), (0, .ref 122), (1, .int x1)], [], (z_wI h 133 (x2.toNatClampNeg) 0))) 2 rfl).trans ?_
        exact z_X_lab rfl
      · refine (z_X_steps (s' := (77, [(0, .ref 122), (1, .int x1), (2, .int x2)], [.int 1, .int x2, .ref 133], h)) 2 rfl).trans ?_
        refine (z_X_if (g := z_in x2 216) (s' := (78, [(0, .ref 122), (1, .int x1), (2, .int x2)], [], (z_wI h 133 (x2.toNatClampNeg) 1))) rfl).trans (z_bifA ?_)
        refine (z_X_steps (s' := (42, [(2, .int (x2 + 1)), (0, .ref 122), (1, .int x1)], [], (z_wI h 133 (x2.toNatClampNeg) 1))) 2 rfl).trans ?_
        exact z_X_lab rfl
set_option maxRecDepth 8000 in
set_option maxHeartbeats 2000000 in
theorem e_M_count (x1 : Int32) (h : z_H) : z_M 220 [.ref 122, .int x1] h = (if x1 = 0 then z_bd (z_M 128 [.int (h.1 125 0)] h) (fun r1 h2 => z_bd (z_M 128 [.int (h2.1 125 1)] h2) (fun r3 h4 => some (r1 + r3, h4))) else (if x1 = 1 then z_bd (z_M 216 [.ref 122] h) (fun r5 h6 => some (r5, h6)) else (if x1 = 2 then some (h.1 122 7, h) else (if x1 = 3 then (if ¬ h.1 137 0 = (-4) then some (h.1 138 0, h) else some ((-4), h)) else (if x1 = 4 then z_bd (z_M 219 [.ref 122] h) (fun r7 h8 => some (r7, h8)) else (if x1 = 5 then z_bd (z_M 218 [.ref 122] h) (fun r9 h10 => some (r9, h10)) else some ((-1), h))))))) := by
  refine (z_M_eq (by decide)).trans ?_
  show z_X zc_M_count 9 (0, [(0, .ref 122), (1, .int x1)], [], h) = _
  refine (z_X_steps (s' := (1, [(0, .ref 122), (1, .int x1)], [.int x1], h)) 1 rfl).trans ?_
  refine (z_X_sw (d := (103, [(0, .ref 122), (1, .int x1)], [], h)) (x := x1) (lo := [(0, .ref 122), (1, .int x1)]) (stk := []) (h := h) (sw := [(0, 40), (1, 60), (2, 65), (3, 70), (4, 93), (5, 98)]) rfl).trans ?_
  refine z_ite ?_ ?_
  · refine (z_X_steps (s' := (46, [(0, .ref 122), (1, .int x1)], [.int (h.1 125 0)], h)) 4 rfl).trans ?_
    refine (z_X_call (id := 128) (a := [.int (h.1 125 0)]) (c := 1) (s' := (49, [(0, .ref 122), (1, .int x1)], [], h)) rfl ⟨Nat.le_of_ble_eq_true rfl, Nat.le_of_ble_eq_true rfl⟩).trans ?_
    refine z_bdc fun r1 h2 => ?_
    refine (z_X_steps (s' := (55, [(0, .ref 122), (1, .int x1)], [.int (h2.1 125 1), .int r1], h2)) 4 rfl).trans ?_
    refine (z_X_call (id := 128) (a := [.int (h2.1 125 1)]) (c := 1) (s' := (58, [(0, .ref 122), (1, .int x1)], [.int r1], h2)) rfl ⟨Nat.le_of_ble_eq_true rfl, Nat.le_of_ble_eq_true rfl⟩).trans ?_
    refine z_bdc fun r3 h4 => ?_
    refine (z_X_steps (s' := (59, [(0, .ref 122), (1, .int x1)], [.int (r1 + r3)], h4)) 1 rfl).trans ?_
    exact z_X_ret rfl
  refine z_ite ?_ ?_
  · refine (z_X_steps (s' := (61, [(0, .ref 122), (1, .int x1)], [.ref 122], h)) 1 rfl).trans ?_
    refine (z_X_call (id := 216) (a := [.ref 122]) (c := 1) (s' := (64, [(0, .ref 122), (1, .int x1)], [], h)) rfl ⟨Nat.le_of_ble_eq_true rfl, Nat.le_of_ble_eq_true rfl⟩).trans ?_
    refine z_bdc fun r5 h6 => ?_
    exact z_X_ret rfl
  refine z_ite ?_ ?_
  · refine (z_X_steps (s' := (69, [(0, .ref 122), (1, .int x1)], [.int (h.1 122 7)], h)) 2 rfl).trans ?_
    exact z_X_ret rfl
  refine z_ite ?_ ?_
  · refine (z_X_steps (s' := (78, [(0, .ref 122), (1, .int x1)], [.int (-4), .int (h.1 137 0)], h)) 5 rfl).trans ?_
    refine (z_X_br (c := ¬ h.1 137 0 = (-4)) (s1 := (86, [(0, .ref 122), (1, .int x1)], [], h)) (s2 := (81, [(0, .ref 122), (1, .int x1)], [], h)) rfl).trans (z_ite ?_ ?_)
    · refine (z_X_steps (s' := (92, [(0, .ref 122), (1, .int x1)], [.int (h.1 138 0)], h)) 4 rfl).trans ?_
      exact z_X_ret rfl
    · refine (z_X_steps (s' := (92, [(0, .ref 122), (1, .int x1)], [.int (-4)], h)) 2 rfl).trans ?_
      exact z_X_ret rfl
  refine z_ite ?_ ?_
  · refine (z_X_steps (s' := (94, [(0, .ref 122), (1, .int x1)], [.ref 122], h)) 1 rfl).trans ?_
    refine (z_X_call (id := 219) (a := [.ref 122]) (c := 1) (s' := (97, [(0, .ref 122), (1, .int x1)], [], h)) rfl ⟨Nat.le_of_ble_eq_true rfl, Nat.le_of_ble_eq_true rfl⟩).trans ?_
    refine z_bdc fun r7 h8 => ?_
    exact z_X_ret rfl
  refine z_ite ?_ ?_
  · refine (z_X_steps (s' := (99, [(0, .ref 122), (1, .int x1)], [.ref 122], h)) 1 rfl).trans ?_
    refine (z_X_call (id := 218) (a := [.ref 122]) (c := 1) (s' := (102, [(0, .ref 122), (1, .int x1)], [], h)) rfl ⟨Nat.le_of_ble_eq_true rfl, Nat.le_of_ble_eq_true rfl⟩).trans ?_
    refine z_bdc fun r9 h10 => ?_
    exact z_X_ret rfl
  refine (z_X_steps (s' := (104, [(0, .ref 122), (1, .int x1)], [.int (-1)], h)) 1 rfl).trans ?_
  exact z_X_ret rfl
