/-! printed: what the methods come to -/
set_option maxRecDepth 8000 in
set_option maxHeartbeats 2000000 in
theorem e_X_feed (x1 : Int32) (h : z_H) : z_M 0 [.ref 0, .int x1] h = (if x1 < 0 then some ((-1), h) else (if x1 ≤ 127 then (if h.1 1 0 < 320 then z_bd (z_M 45 [.ref 1, .int x1] h) (fun r1 h2 => some (h2.1 1 0, h2)) else some ((-3), h)) else some ((-1), h))) := by
  refine (z_M_eq (by decide)).trans ?_
  show z_X zc_X_feed 2 (0, [(0, .ref 0), (1, .int x1)], [], h) = _
  refine (z_X_steps (s' := (1, [(0, .ref 0), (1, .int x1)], [.int x1], h)) 1 rfl).trans ?_
  refine (z_X_br (c := x1 < 0) (s1 := (10, [(0, .ref 0), (1, .int x1)], [], h)) (s2 := (4, [(0, .ref 0), (1, .int x1)], [], h)) rfl).trans (z_ite ?_ ?_)
  · refine (z_X_steps (s' := (11, [(0, .ref 0), (1, .int x1)], [.int (-1)], h)) 1 rfl).trans ?_
    exact z_X_ret rfl
  · refine (z_X_steps (s' := (7, [(0, .ref 0), (1, .int x1)], [.int 127, .int x1], h)) 2 rfl).trans ?_
    refine (z_X_br (c := x1 ≤ 127) (s1 := (12, [(0, .ref 0), (1, .int x1)], [], h)) (s2 := (10, [(0, .ref 0), (1, .int x1)], [], h)) rfl).trans (z_ite ?_ ?_)
    · refine (z_X_steps (s' := (22, [(0, .ref 0), (1, .int x1)], [.int 320, .int (h.1 1 0)], h)) 4 rfl).trans ?_
      refine (z_X_br (c := h.1 1 0 < 320) (s1 := (28, [(0, .ref 0), (1, .int x1)], [], h)) (s2 := (25, [(0, .ref 0), (1, .int x1)], [], h)) rfl).trans (z_ite ?_ ?_)
      · refine (z_X_steps (s' := (33, [(0, .ref 0), (1, .int x1)], [.int x1, .ref 1], h)) 3 rfl).trans ?_
        refine (z_X_call (id := 45) (a := [.ref 1, .int x1]) (c := 0) (s' := (36, [(0, .ref 0), (1, .int x1)], [], h)) rfl ⟨Nat.le_of_ble_eq_true rfl, Nat.le_of_ble_eq_true rfl⟩).trans ?_
        refine z_bdc fun r1 h2 => ?_
        refine (z_X_steps (s' := (43, [(0, .ref 0), (1, .int x1)], [.int (h2.1 1 0)], h2)) 3 rfl).trans ?_
        exact z_X_ret rfl
      · refine (z_X_steps (s' := (27, [(0, .ref 0), (1, .int x1)], [.int (-3)], h)) 1 rfl).trans ?_
        exact z_X_ret rfl
    · refine (z_X_steps (s' := (11, [(0, .ref 0), (1, .int x1)], [.int (-1)], h)) 1 rfl).trans ?_
      exact z_X_ret rfl
set_option maxRecDepth 8000 in
set_option maxHeartbeats 2000000 in
theorem e_X_end (x1 : Int32) (h : z_H) : z_M 1 [.ref 0, .int x1] h = (if x1 < 0 then some ((-1), h) else (if x1 ≤ h.1 1 0 then some (h.1 1 0, (z_wI h 1 0 x1)) else some ((-1), h))) := by
  refine (z_M_eq (by decide)).trans ?_
  show z_X zc_X_end 1 (0, [(0, .ref 0), (1, .int x1)], [], h) = _
  refine (z_X_steps (s' := (1, [(0, .ref 0), (1, .int x1)], [.int x1], h)) 1 rfl).trans ?_
  refine (z_X_br (c := x1 < 0) (s1 := (15, [(0, .ref 0), (1, .int x1)], [], h)) (s2 := (4, [(0, .ref 0), (1, .int x1)], [], h)) rfl).trans (z_ite ?_ ?_)
  · refine (z_X_steps (s' := (16, [(0, .ref 0), (1, .int x1)], [.int (-1)], h)) 1 rfl).trans ?_
    exact z_X_ret rfl
  · refine (z_X_steps (s' := (12, [(0, .ref 0), (1, .int x1)], [.int (h.1 1 0), .int x1], h)) 4 rfl).trans ?_
    refine (z_X_br (c := x1 ≤ h.1 1 0) (s1 := (17, [(0, .ref 0), (1, .int x1)], [], h)) (s2 := (15, [(0, .ref 0), (1, .int x1)], [], h)) rfl).trans (z_ite ?_ ?_)
    · refine (z_X_steps (s' := (34, [(2, .int (h.1 1 0)), (0, .ref 0), (1, .int x1)], [.int (h.1 1 0)], (z_wI h 1 0 x1))) 9 rfl).trans ?_
      exact z_X_ret rfl
    · refine (z_X_steps (s' := (16, [(0, .ref 0), (1, .int x1)], [.int (-1)], h)) 1 rfl).trans ?_
      exact z_X_ret rfl
noncomputable def zl_X_text_91 (x1 : Int32) (h : z_H) : Option z_A := z_X zc_X_text 13 (91, [(0, .ref 0), (1, .int x1)], [], h)
set_option maxRecDepth 8000 in
set_option maxHeartbeats 2000000 in
theorem e_X_text (h : z_H) : z_M 2 [.ref 0] h = z_bd (z_M 53 [.ref 3] h) (fun r1 h2 => (if (z_wI (z_wI h2 1 0 0) 0 10 ((z_wI h2 1 0 0).1 3 0)).1 3 0 = 0 then z_bd (z_M 69 [.ref 17, .ref 4] (z_wI (z_wI h2 1 0 0) 0 10 ((z_wI h2 1 0 0).1 3 0))) (fun r3 h4 => z_bd (z_M 69 [.ref 25, .ref 4] h4) (fun r5 h6 => z_bd (z_M 92 [.ref 33, .ref 12] h6) (fun r7 h8 => zl_X_text_91 0 h8))) else some ((-10) - ((z_wI (z_wI h2 1 0 0) 0 10 ((z_wI h2 1 0 0).1 3 0)).1 3 1), (z_wI (z_wI h2 1 0 0) 0 10 ((z_wI h2 1 0 0).1 3 0))))) := by
  refine (z_M_eq (by decide)).trans ?_
  show z_X zc_X_text 13 (0, [(0, .ref 0)], [], h) = _
  refine (z_X_steps (s' := (4, [(0, .ref 0)], [.ref 3], h)) 2 rfl).trans ?_
  refine (z_X_call (id := 53) (a := [.ref 3]) (c := 0) (s' := (7, [(0, .ref 0)], [], h)) rfl ⟨Nat.le_of_ble_eq_true rfl, Nat.le_of_ble_eq_true rfl⟩).trans ?_
  refine z_bdc fun r1 h2 => ?_
  refine (z_X_steps (s' := (33, [(0, .ref 0)], [.int ((z_wI (z_wI h2 1 0 0) 0 10 ((z_wI h2 1 0 0).1 3 0)).1 3 0)], (z_wI (z_wI h2 1 0 0) 0 10 ((z_wI h2 1 0 0).1 3 0)))) 12 rfl).trans ?_
  refine (z_X_br (c := (z_wI (z_wI h2 1 0 0) 0 10 ((z_wI h2 1 0 0).1 3 0)).1 3 0 = 0) (s1 := (47, [(0, .ref 0)], [], (z_wI (z_wI h2 1 0 0) 0 10 ((z_wI h2 1 0 0).1 3 0)))) (s2 := (36, [(0, .ref 0)], [], (z_wI (z_wI h2 1 0 0) 0 10 ((z_wI h2 1 0 0).1 3 0)))) rfl).trans (z_ite ?_ ?_)
  · refine (z_X_steps (s' := (58, [(0, .ref 0)], [.ref 4, .ref 17], (z_wI (z_wI h2 1 0 0) 0 10 ((z_wI h2 1 0 0).1 3 0)))) 5 rfl).trans ?_
    refine (z_X_call (id := 69) (a := [.ref 17, .ref 4]) (c := 0) (s' := (61, [(0, .ref 0)], [], (z_wI (z_wI h2 1 0 0) 0 10 ((z_wI h2 1 0 0).1 3 0)))) rfl ⟨Nat.le_of_ble_eq_true rfl, Nat.le_of_ble_eq_true rfl⟩).trans ?_
    refine z_bdc fun r3 h4 => ?_
    refine (z_X_steps (s' := (72, [(0, .ref 0)], [.ref 4, .ref 25], h4)) 5 rfl).trans ?_
    refine (z_X_call (id := 69) (a := [.ref 25, .ref 4]) (c := 0) (s' := (75, [(0, .ref 0)], [], h4)) rfl ⟨Nat.le_of_ble_eq_true rfl, Nat.le_of_ble_eq_true rfl⟩).trans ?_
    refine z_bdc fun r5 h6 => ?_
    refine (z_X_steps (s' := (86, [(0, .ref 0)], [.ref 12, .ref 33], h6)) 5 rfl).trans ?_
    refine (z_X_call (id := 92) (a := [.ref 33, .ref 12]) (c := 0) (s' := (89, [(0, .ref 0)], [], h6)) rfl ⟨Nat.le_of_ble_eq_true rfl, Nat.le_of_ble_eq_true rfl⟩).trans ?_
    refine z_bdc fun r7 h8 => ?_
    refine (z_X_steps (s' := (91, [(1, .int 0), (0, .ref 0)], [], h8)) 2 rfl).trans ?_
    exact z_X_lab rfl
  · refine (z_X_steps (s' := (46, [(0, .ref 0)], [.int ((-10) - ((z_wI (z_wI h2 1 0 0) 0 10 ((z_wI h2 1 0 0).1 3 0)).1 3 1))], (z_wI (z_wI h2 1 0 0) 0 10 ((z_wI h2 1 0 0).1 3 0)))) 5 rfl).trans ?_
    exact z_X_ret rfl
set_option maxRecDepth 8000 in
set_option maxHeartbeats 2000000 in
theorem e_X_text_91 (x1 : Int32) (h : z_H) : zl_X_text_91 x1 h = (if (2 : Int32) ≤ x1 then some (h.1 3 2, h) else (bif z_in x1 2 then zl_X_text_91 (x1 + 1) (z_wI h (72 + 21 * x1.toNatClampNeg) 0 0) else none)) := by
  show z_X zc_X_text 13 (91, [(0, .ref 0), (1, .int x1)], [], h) = _
  refine (z_X_steps (s' := (93, [(0, .ref 0), (1, .int x1)], [.int 2, .int x1], h)) 2 rfl).trans ?_
  refine (z_X_br (c := (2 : Int32) ≤ x1) (s1 := (112, [(0, .ref 0), (1, .int x1)], [], h)) (s2 := (96, [(0, .ref 0), (1, .int x1)], [], h)) rfl).trans (z_ite ?_ ?_)
  · refine (z_X_steps (s' := (119, [(0, .ref 0), (1, .int x1)], [.int (h.1 3 2)], h)) 3 rfl).trans ?_
    exact z_X_ret rfl
  · refine (z_X_steps (s' := (101, [(0, .ref 0), (1, .int x1)], [.int x1, .ref 70], h)) 3 rfl).trans ?_
    refine (z_X_if (g := z_in x1 2) (s' := (102, [(0, .ref 0), (1, .int x1)], [.ref (72 + 21 * x1.toNatClampNeg)], h)) rfl).trans (z_bifE2 ?_)
    refine ⟨fun e => ?_, fun e => ?_⟩
    · subst e
      refine (z_X_steps (s' := (91, [(1, .int ((nI 0) + 1)), (0, .ref 0)], [], (z_wI h (72 + 21 * (nI 0).toNatClampNeg) 0 0))) 4 rfl).trans ?_
      exact z_X_lab rfl
    · subst e
      refine (z_X_steps (s' := (91, [(1, .int ((nI 1) + 1)), (0, .ref 0)], [], (z_wI h (72 + 21 * (nI 1).toNatClampNeg) 0 0))) 4 rfl).trans ?_
      exact z_X_lab rfl
set_option maxRecDepth 8000 in
set_option maxHeartbeats 2000000 in
theorem e_X_fault (h : z_H) : z_M 3 [.ref 0] h = some (h.1 0 10, h) := by
  refine (z_M_eq (by decide)).trans ?_
  show z_X zc_X_fault 1 (0, [(0, .ref 0)], [], h) = _
  refine (z_X_steps (s' := (4, [(0, .ref 0)], [.int (h.1 0 10)], h)) 2 rfl).trans ?_
  exact z_X_ret rfl
set_option maxRecDepth 8000 in
set_option maxHeartbeats 2000000 in
theorem e_X_rule (x1 : Int32) (h : z_H) : z_M 4 [.ref 0, .int x1] h = (if x1 = 0 then some (h.1 17 0, h) else (if x1 = 1 then z_bd (z_M 81 [.ref 17] h) (fun r1 h2 => some (r1, h2)) else (if x1 = 2 then some (h.1 17 1, h) else (if x1 = 3 then some (h.1 33 0, h) else (if x1 = 4 then z_bd (z_M 31 [.ref 0] h) (fun r3 h4 => some (r3, h4)) else (if x1 = 5 then z_bd (z_M 114 [.ref 45] h) (fun r5 h6 => some (h6.1 45 0, h6)) else (if x1 = 6 then z_bd (z_M 114 [.ref 45] h) (fun r7 h8 => z_bd (z_M 116 [.ref 45] h8) (fun r9 h10 => some (r9, h10))) else (if x1 = 7 then z_bd (z_M 33 [.ref 0] h) (fun r11 h12 => some (r11, h12)) else some ((-1), h))))))))) := by
  refine (z_M_eq (by decide)).trans ?_
  show z_X zc_X_rule 24 (0, [(0, .ref 0), (1, .int x1)], [], h) = _
  refine (z_X_steps (s' := (1, [(0, .ref 0), (1, .int x1)], [.int x1], h)) 1 rfl).trans ?_
  refine (z_X_sw (d := (120, [(0, .ref 0), (1, .int x1)], [], h)) (x := x1) (lo := [(0, .ref 0), (1, .int x1)]) (stk := []) (h := h) (sw := [(0, 48), (1, 56), (2, 64), (3, 72), (4, 80), (5, 85), (6, 100), (7, 115)]) rfl).trans ?_
  refine z_ite ?_ ?_
  · refine (z_X_steps (s' := (55, [(0, .ref 0), (1, .int x1)], [.int (h.1 17 0)], h)) 3 rfl).trans ?_
    exact z_X_ret rfl
  refine z_ite ?_ ?_
  · refine (z_X_steps (s' := (60, [(0, .ref 0), (1, .int x1)], [.ref 17], h)) 2 rfl).trans ?_
    refine (z_X_call (id := 81) (a := [.ref 17]) (c := 1) (s' := (63, [(0, .ref 0), (1, .int x1)], [], h)) rfl ⟨Nat.le_of_ble_eq_true rfl, Nat.le_of_ble_eq_true rfl⟩).trans ?_
    refine z_bdc fun r1 h2 => ?_
    exact z_X_ret rfl
  refine z_ite ?_ ?_
  · refine (z_X_steps (s' := (71, [(0, .ref 0), (1, .int x1)], [.int (h.1 17 1)], h)) 3 rfl).trans ?_
    exact z_X_ret rfl
  refine z_ite ?_ ?_
  · refine (z_X_steps (s' := (79, [(0, .ref 0), (1, .int x1)], [.int (h.1 33 0)], h)) 3 rfl).trans ?_
    exact z_X_ret rfl
  refine z_ite ?_ ?_
  · refine (z_X_steps (s' := (81, [(0, .ref 0), (1, .int x1)], [.ref 0], h)) 1 rfl).trans ?_
    refine (z_X_call (id := 31) (a := [.ref 0]) (c := 1) (s' := (84, [(0, .ref 0), (1, .int x1)], [], h)) rfl ⟨Nat.le_of_ble_eq_true rfl, Nat.le_of_ble_eq_true rfl⟩).trans ?_
    refine z_bdc fun r3 h4 => ?_
    exact z_X_ret rfl
  refine z_ite ?_ ?_
  · refine (z_X_steps (s' := (89, [(0, .ref 0), (1, .int x1)], [.ref 45], h)) 2 rfl).trans ?_
    refine (z_X_call (id := 114) (a := [.ref 45]) (c := 0) (s' := (92, [(0, .ref 0), (1, .int x1)], [], h)) rfl ⟨Nat.le_of_ble_eq_true rfl, Nat.le_of_ble_eq_true rfl⟩).trans ?_
    refine z_bdc fun r5 h6 => ?_
    refine (z_X_steps (s' := (99, [(0, .ref 0), (1, .int x1)], [.int (h6.1 45 0)], h6)) 3 rfl).trans ?_
    exact z_X_ret rfl
  refine z_ite ?_ ?_
  · refine (z_X_steps (s' := (104, [(0, .ref 0), (1, .int x1)], [.ref 45], h)) 2 rfl).trans ?_
    refine (z_X_call (id := 114) (a := [.ref 45]) (c := 0) (s' := (107, [(0, .ref 0), (1, .int x1)], [], h)) rfl ⟨Nat.le_of_ble_eq_true rfl, Nat.le_of_ble_eq_true rfl⟩).trans ?_
    refine z_bdc fun r7 h8 => ?_
    refine (z_X_steps (s' := (111, [(0, .ref 0), (1, .int x1)], [.ref 45], h8)) 2 rfl).trans ?_
    refine (z_X_call (id := 116) (a := [.ref 45]) (c := 1) (s' := (114, [(0, .ref 0), (1, .int x1)], [], h8)) rfl ⟨Nat.le_of_ble_eq_true rfl, Nat.le_of_ble_eq_true rfl⟩).trans ?_
    refine z_bdc fun r9 h10 => ?_
    exact z_X_ret rfl
  refine z_ite ?_ ?_
  · refine (z_X_steps (s' := (116, [(0, .ref 0), (1, .int x1)], [.ref 0], h)) 1 rfl).trans ?_
    refine (z_X_call (id := 33) (a := [.ref 0]) (c := 1) (s' := (119, [(0, .ref 0), (1, .int x1)], [], h)) rfl ⟨Nat.le_of_ble_eq_true rfl, Nat.le_of_ble_eq_true rfl⟩).trans ?_
    refine z_bdc fun r11 h12 => ?_
    exact z_X_ret rfl
  refine (z_X_steps (s' := (121, [(0, .ref 0), (1, .int x1)], [.int (-1)], h)) 1 rfl).trans ?_
  exact z_X_ret rfl
noncomputable def zl_X_node_34 (x1 : Int32) (x2 : Int32) (x3 : Int32) (h : z_H) : Option z_A := z_X zc_X_node 4 (34, [(0, .ref 0), (1, .int x1), (2, .int x2), (3, .int x3)], [], h)
set_option maxRecDepth 8000 in
set_option maxHeartbeats 2000000 in
theorem e_X_node (x1 : Int32) (x2 : Int32) (x3 : Int32) (h : z_H) : z_M 5 [.ref 0, .int x1, .int x2, .int x3] h = z_bd (z_M 71 [.ref 17, .int x1, .int x2] h) (fun r1 h2 => (if ¬ r1 = 0 then (if x3 < 0 then zl_X_node_34 x1 x2 x3 h2 else (if (4 : Int32) < x3 then zl_X_node_34 x1 x2 x3 h2 else z_bd (z_M 80 [.ref 17, .int x1, .int x2, .int x3] h2) (fun r3 h4 => some (r3, h4)))) else some ((-1), h2))) := by
  refine (z_M_eq (by decide)).trans ?_
  show z_X zc_X_node 4 (0, [(0, .ref 0), (1, .int x1), (2, .int x2), (3, .int x3)], [], h) = _
  refine (z_X_steps (s' := (6, [(0, .ref 0), (1, .int x1), (2, .int x2), (3, .int x3)], [.int x2, .int x1, .ref 17], h)) 4 rfl).trans ?_
  refine (z_X_call (id := 71) (a := [.ref 17, .int x1, .int x2]) (c := 1) (s' := (9, [(0, .ref 0), (1, .int x1), (2, .int x2), (3, .int x3)], [], h)) rfl ⟨Nat.le_of_ble_eq_true rfl, Nat.le_of_ble_eq_true rfl⟩).trans ?_
  refine z_bdc fun r1 h2 => ?_
  refine (z_X_br (c := ¬ r1 = 0) (s1 := (14, [(0, .ref 0), (1, .int x1), (2, .int x2), (3, .int x3)], [], h2)) (s2 := (12, [(0, .ref 0), (1, .int x1), (2, .int x2), (3, .int x3)], [], h2)) rfl).trans (z_ite ?_ ?_)
  · refine (z_X_steps (s' := (15, [(0, .ref 0), (1, .int x1), (2, .int x2), (3, .int x3)], [.int x3], h2)) 1 rfl).trans ?_
    refine (z_X_br (c := x3 < 0) (s1 := (34, [(0, .ref 0), (1, .int x1), (2, .int x2), (3, .int x3)], [], h2)) (s2 := (18, [(0, .ref 0), (1, .int x1), (2, .int x2), (3, .int x3)], [], h2)) rfl).trans (z_ite ?_ ?_)
    · exact z_X_lab rfl
    · refine (z_X_steps (s' := (20, [(0, .ref 0), (1, .int x1), (2, .int x2), (3, .int x3)], [.int 4, .int x3], h2)) 2 rfl).trans ?_
      refine (z_X_br (c := (4 : Int32) < x3) (s1 := (34, [(0, .ref 0), (1, .int x1), (2, .int x2), (3, .int x3)], [], h2)) (s2 := (23, [(0, .ref 0), (1, .int x1), (2, .int x2), (3, .int x3)], [], h2)) rfl).trans (z_ite ?_ ?_)
      · exact z_X_lab rfl
      · refine (z_X_steps (s' := (30, [(0, .ref 0), (1, .int x1), (2, .int x2), (3, .int x3)], [.int x3, .int x2, .int x1, .ref 17], h2)) 5 rfl).trans ?_
        refine (z_X_call (id := 80) (a := [.ref 17, .int x1, .int x2, .int x3]) (c := 1) (s' := (33, [(0, .ref 0), (1, .int x1), (2, .int x2), (3, .int x3)], [], h2)) rfl ⟨Nat.le_of_ble_eq_true rfl, Nat.le_of_ble_eq_true rfl⟩).trans ?_
        refine z_bdc fun r3 h4 => ?_
        exact z_X_ret rfl
  · refine (z_X_steps (s' := (13, [(0, .ref 0), (1, .int x1), (2, .int x2), (3, .int x3)], [.int (-1)], h2)) 1 rfl).trans ?_
    exact z_X_ret rfl
set_option maxRecDepth 8000 in
set_option maxHeartbeats 2000000 in
theorem e_X_node_34 (x1 : Int32) (x2 : Int32) (x3 : Int32) (h : z_H) : zl_X_node_34 x1 x2 x3 h = (if x3 < 10 then some ((-1), h) else (if (14 : Int32) < x3 then some ((-1), h) else z_bd (z_M 80 [.ref 25, .int x1, .int x2, .int (x3 - 10)] h) (fun r1 h2 => some (r1, h2)))) := by
  show z_X zc_X_node 4 (34, [(0, .ref 0), (1, .int x1), (2, .int x2), (3, .int x3)], [], h) = _
  refine (z_X_steps (s' := (37, [(0, .ref 0), (1, .int x1), (2, .int x2), (3, .int x3)], [.int 10, .int x3], h)) 2 rfl).trans ?_
  refine (z_X_br (c := x3 < 10) (s1 := (60, [(0, .ref 0), (1, .int x1), (2, .int x2), (3, .int x3)], [], h)) (s2 := (40, [(0, .ref 0), (1, .int x1), (2, .int x2), (3, .int x3)], [], h)) rfl).trans (z_ite ?_ ?_)
  · refine (z_X_steps (s' := (61, [(0, .ref 0), (1, .int x1), (2, .int x2), (3, .int x3)], [.int (-1)], h)) 1 rfl).trans ?_
    exact z_X_ret rfl
  · refine (z_X_steps (s' := (43, [(0, .ref 0), (1, .int x1), (2, .int x2), (3, .int x3)], [.int 14, .int x3], h)) 2 rfl).trans ?_
    refine (z_X_br (c := (14 : Int32) < x3) (s1 := (60, [(0, .ref 0), (1, .int x1), (2, .int x2), (3, .int x3)], [], h)) (s2 := (46, [(0, .ref 0), (1, .int x1), (2, .int x2), (3, .int x3)], [], h)) rfl).trans (z_ite ?_ ?_)
    · refine (z_X_steps (s' := (61, [(0, .ref 0), (1, .int x1), (2, .int x2), (3, .int x3)], [.int (-1)], h)) 1 rfl).trans ?_
      exact z_X_ret rfl
    · refine (z_X_steps (s' := (56, [(0, .ref 0), (1, .int x1), (2, .int x2), (3, .int x3)], [.int (x3 - 10), .int x2, .int x1, .ref 25], h)) 7 rfl).trans ?_
      refine (z_X_call (id := 80) (a := [.ref 25, .int x1, .int x2, .int (x3 - 10)]) (c := 1) (s' := (59, [(0, .ref 0), (1, .int x1), (2, .int x2), (3, .int x3)], [], h)) rfl ⟨Nat.le_of_ble_eq_true rfl, Nat.le_of_ble_eq_true rfl⟩).trans ?_
      refine z_bdc fun r1 h2 => ?_
      exact z_X_ret rfl
set_option maxRecDepth 8000 in
set_option maxHeartbeats 2000000 in
theorem e_X_meant (x1 : Int32) (x2 : Int32) (x3 : Int32) (h : z_H) : z_M 6 [.ref 0, .int x1, .int x2, .int x3] h = z_bd (z_M 73 [.ref 17, .int x1] h) (fun r1 h2 => (if r1 = 0 then some ((-1), h2) else z_bd (z_M 37 [.int x2] h2) (fun r3 h4 => (if r3 = 0 then some ((-1), h4) else (if x3 < 0 then some ((-1), h4) else (if x3 ≤ 1 then (if ¬ x3 = 0 then z_bd (z_M 79 [.ref 25, .int x1, .int x2] h4) (fun r5 h6 => some (r5, h6)) else z_bd (z_M 79 [.ref 17, .int x1, .int x2] h4) (fun r7 h8 => some (r7, h8))) else some ((-1), h4))))))) := by
  refine (z_M_eq (by decide)).trans ?_
  show z_X zc_X_meant 2 (0, [(0, .ref 0), (1, .int x1), (2, .int x2), (3, .int x3)], [], h) = _
  refine (z_X_steps (s' := (5, [(0, .ref 0), (1, .int x1), (2, .int x2), (3, .int x3)], [.int x1, .ref 17], h)) 3 rfl).trans ?_
  refine (z_X_call (id := 73) (a := [.ref 17, .int x1]) (c := 1) (s' := (8, [(0, .ref 0), (1, .int x1), (2, .int x2), (3, .int x3)], [], h)) rfl ⟨Nat.le_of_ble_eq_true rfl, Nat.le_of_ble_eq_true rfl⟩).trans ?_
  refine z_bdc fun r1 h2 => ?_
  refine (z_X_br (c := r1 = 0) (s1 := (27, [(0, .ref 0), (1, .int x1), (2, .int x2), (3, .int x3)], [], h2)) (s2 := (11, [(0, .ref 0), (1, .int x1), (2, .int x2), (3, .int x3)], [], h2)) rfl).trans (z_ite ?_ ?_)
  · refine (z_X_steps (s' := (28, [(0, .ref 0), (1, .int x1), (2, .int x2), (3, .int x3)], [.int (-1)], h2)) 1 rfl).trans ?_
    exact z_X_ret rfl
  · refine (z_X_steps (s' := (12, [(0, .ref 0), (1, .int x1), (2, .int x2), (3, .int x3)], [.int x2], h2)) 1 rfl).trans ?_
    refine (z_X_call (id := 37) (a := [.int x2]) (c := 1) (s' := (15, [(0, .ref 0), (1, .int x1), (2, .int x2), (3, .int x3)], [], h2)) rfl ⟨Nat.le_of_ble_eq_true rfl, Nat.le_of_ble_eq_true rfl⟩).trans ?_
    refine z_bdc fun r3 h4 => ?_
    refine (z_X_br (c := r3 = 0) (s1 := (27, [(0, .ref 0), (1, .int x1), (2, .int x2), (3, .int x3)], [], h4)) (s2 := (18, [(0, .ref 0), (1, .int x1), (2, .int x2), (3, .int x3)], [], h4)) rfl).trans (z_ite ?_ ?_)
    · refine (z_X_steps (s' := (28, [(0, .ref 0), (1, .int x1), (2, .int x2), (3, .int x3)], [.int (-1)], h4)) 1 rfl).trans ?_
      exact z_X_ret rfl
    · refine (z_X_steps (s' := (19, [(0, .ref 0), (1, .int x1), (2, .int x2), (3, .int x3)], [.int x3], h4)) 1 rfl).trans ?_
      refine (z_X_br (c := x3 < 0) (s1 := (27, [(0, .ref 0), (1, .int x1), (2, .int x2), (3, .int x3)], [], h4)) (s2 := (22, [(0, .ref 0), (1, .int x1), (2, .int x2), (3, .int x3)], [], h4)) rfl).trans (z_ite ?_ ?_)
      · refine (z_X_steps (s' := (28, [(0, .ref 0), (1, .int x1), (2, .int x2), (3, .int x3)], [.int (-1)], h4)) 1 rfl).trans ?_
        exact z_X_ret rfl
      · refine (z_X_steps (s' := (24, [(0, .ref 0), (1, .int x1), (2, .int x2), (3, .int x3)], [.int 1, .int x3], h4)) 2 rfl).trans ?_
        refine (z_X_br (c := x3 ≤ 1) (s1 := (29, [(0, .ref 0), (1, .int x1), (2, .int x2), (3, .int x3)], [], h4)) (s2 := (27, [(0, .ref 0), (1, .int x1), (2, .int x2), (3, .int x3)], [], h4)) rfl).trans (z_ite ?_ ?_)
        · refine (z_X_steps (s' := (31, [(0, .ref 0), (1, .int x1), (2, .int x2), (3, .int x3)], [.int x3, .ref 0], h4)) 2 rfl).trans ?_
          refine (z_X_call (id := 29) (a := [.ref 0, .int x3]) (c := 2) (s' := (34, [(0, .ref 0), (1, .int x1), (2, .int x2), (3, .int x3)], [], h4)) rfl ⟨Nat.le_of_ble_eq_true rfl, Nat.le_of_ble_eq_true rfl⟩).trans ?_
          rw [e_X_programOf]
          rw [z_bd_ite]
          refine z_ite ?_ ?_
          · refine (z_X_steps (s' := (36, [(0, .ref 0), (1, .int x1), (2, .int x2), (3, .int x3)], [.int x2, .int x1, .ref 25], h4)) 2 rfl).trans ?_
            refine (z_X_call (id := 79) (a := [.ref 25, .int x1, .int x2]) (c := 1) (s' := (39, [(0, .ref 0), (1, .int x1), (2, .int x2), (3, .int x3)], [], h4)) rfl ⟨Nat.le_of_ble_eq_true rfl, Nat.le_of_ble_eq_true rfl⟩).trans ?_
            refine z_bdc fun r5 h6 => ?_
            exact z_X_ret rfl
          refine (z_X_steps (s' := (36, [(0, .ref 0), (1, .int x1), (2, .int x2), (3, .int x3)], [.int x2, .int x1, .ref 17], h4)) 2 rfl).trans ?_
          refine (z_X_call (id := 79) (a := [.ref 17, .int x1, .int x2]) (c := 1) (s' := (39, [(0, .ref 0), (1, .int x1), (2, .int x2), (3, .int x3)], [], h4)) rfl ⟨Nat.le_of_ble_eq_true rfl, Nat.le_of_ble_eq_true rfl⟩).trans ?_
          refine z_bdc fun r7 h8 => ?_
          exact z_X_ret rfl
        · refine (z_X_steps (s' := (28, [(0, .ref 0), (1, .int x1), (2, .int x2), (3, .int x3)], [.int (-1)], h4)) 1 rfl).trans ?_
          exact z_X_ret rfl
set_option maxRecDepth 8000 in
set_option maxHeartbeats 2000000 in
theorem e_X_test (x1 : Int32) (x2 : Int32) (h : z_H) : z_M 7 [.ref 0, .int x1, .int x2] h = z_bd (z_M 90 [.ref 33, .int x1] h) (fun r1 h2 => (if ¬ r1 = 0 then (if x2 = 0 then (bif z_in x1 8 then some (h2.1 34 (x1.toNatClampNeg), h2) else none) else (if x2 = 1 then (bif z_in x1 8 then some (h2.1 35 (x1.toNatClampNeg), h2) else none) else (if x2 = 2 then (bif z_in x1 8 then some (h2.1 36 (x1.toNatClampNeg), h2) else none) else (if x2 = 3 then z_bd (z_M 30 [.ref 0, .ref 17, .int x1] h2) (fun r3 h4 => some (h4.1 37 1, h4)) else (if x2 = 4 then z_bd (z_M 30 [.ref 0, .ref 25, .int x1] h2) (fun r5 h6 => some (h6.1 37 1, h6)) else (if x2 = 5 then z_bd (z_M 114 [.ref 45] h2) (fun r7 h8 => z_bd (z_M 115 [.ref 45, .int x1, .int x2] h8) (fun r9 h10 => some (r9, h10))) else (if x2 = 6 then z_bd (z_M 114 [.ref 45] h2) (fun r11 h12 => z_bd (z_M 115 [.ref 45, .int x1, .int x2] h12) (fun r13 h14 => some (r13, h14))) else (if x2 = 7 then z_bd (z_M 114 [.ref 45] h2) (fun r15 h16 => z_bd (z_M 115 [.ref 45, .int x1, .int x2] h16) (fun r17 h18 => some (r17, h18))) else (if x2 = 8 then z_bd (z_M 114 [.ref 45] h2) (fun r19 h20 => z_bd (z_M 115 [.ref 45, .int x1, .int x2] h20) (fun r21 h22 => some (r21, h22))) else some ((-1), h2)))))))))) else some ((-1), h2))) := by
  refine (z_M_eq (by decide)).trans ?_
  show z_X zc_X_test 23 (0, [(0, .ref 0), (1, .int x1), (2, .int x2)], [], h) = _
  refine (z_X_steps (s' := (5, [(0, .ref 0), (1, .int x1), (2, .int x2)], [.int x1, .ref 33], h)) 3 rfl).trans ?_
  refine (z_X_call (id := 90) (a := [.ref 33, .int x1]) (c := 1) (s' := (8, [(0, .ref 0), (1, .int x1), (2, .int x2)], [], h)) rfl ⟨Nat.le_of_ble_eq_true rfl, Nat.le_of_ble_eq_true rfl⟩).trans ?_
  refine z_bdc fun r1 h2 => ?_
  refine (z_X_br (c := ¬ r1 = 0) (s1 := (13, [(0, .ref 0), (1, .int x1), (2, .int x2)], [], h2)) (s2 := (11, [(0, .ref 0), (1, .int x1), (2, .int x2)], [], h2)) rfl).trans (z_ite ?_ ?_)
  · refine (z_X_steps (s' := (14, [(0, .ref 0), (1, .int x1), (2, .int x2)], [.int x2], h2)) 1 rfl).trans ?_
    refine (z_X_sw (d := (145, [(0, .ref 0), (1, .int x1), (2, .int x2)], [], h2)) (x := x2) (lo := [(0, .ref 0), (1, .int x1), (2, .int x2)]) (stk := []) (h := h2) (sw := [(0, 64), (1, 74), (2, 84), (3, 94), (4, 111), (5, 128), (6, 128), (7, 128), (8, 128)]) rfl).trans ?_
    refine z_ite ?_ ?_
    · refine (z_X_steps (s' := (72, [(0, .ref 0), (1, .int x1), (2, .int x2)], [.int x1, .ref 34], h2)) 4 rfl).trans ?_
      refine (z_X_if (g := z_in x1 8) (s' := (73, [(0, .ref 0), (1, .int x1), (2, .int x2)], [.int (h2.1 34 (x1.toNatClampNeg))], h2)) rfl).trans (z_bifA ?_)
      exact z_X_ret rfl
    refine z_ite ?_ ?_
    · refine (z_X_steps (s' := (82, [(0, .ref 0), (1, .int x1), (2, .int x2)], [.int x1, .ref 35], h2)) 4 rfl).trans ?_
      refine (z_X_if (g := z_in x1 8) (s' := (83, [(0, .ref 0), (1, .int x1), (2, .int x2)], [.int (h2.1 35 (x1.toNatClampNeg))], h2)) rfl).trans (z_bifA ?_)
      exact z_X_ret rfl
    refine z_ite ?_ ?_
    · refine (z_X_steps (s' := (92, [(0, .ref 0), (1, .int x1), (2, .int x2)], [.int x1, .ref 36], h2)) 4 rfl).trans ?_
      refine (z_X_if (g := z_in x1 8) (s' := (93, [(0, .ref 0), (1, .int x1), (2, .int x2)], [.int (h2.1 36 (x1.toNatClampNeg))], h2)) rfl).trans (z_bifA ?_)
      exact z_X_ret rfl
    refine z_ite ?_ ?_
    · refine (z_X_steps (s' := (100, [(0, .ref 0), (1, .int x1), (2, .int x2)], [.int x1, .ref 17, .ref 0], h2)) 4 rfl).trans ?_
      refine (z_X_call (id := 30) (a := [.ref 0, .ref 17, .int x1]) (c := 0) (s' := (103, [(0, .ref 0), (1, .int x1), (2, .int x2)], [], h2)) rfl ⟨Nat.le_of_ble_eq_true rfl, Nat.le_of_ble_eq_true rfl⟩).trans ?_
      refine z_bdc fun r3 h4 => ?_
      refine (z_X_steps (s' := (110, [(0, .ref 0), (1, .int x1), (2, .int x2)], [.int (h4.1 37 1)], h4)) 3 rfl).trans ?_
      exact z_X_ret rfl
    refine z_ite ?_ ?_
    · refine (z_X_steps (s' := (117, [(0, .ref 0), (1, .int x1), (2, .int x2)], [.int x1, .ref 25, .ref 0], h2)) 4 rfl).trans ?_
      refine (z_X_call (id := 30) (a := [.ref 0, .ref 25, .int x1]) (c := 0) (s' := (120, [(0, .ref 0), (1, .int x1), (2, .int x2)], [], h2)) rfl ⟨Nat.le_of_ble_eq_true rfl, Nat.le_of_ble_eq_true rfl⟩).trans ?_
      refine z_bdc fun r5 h6 => ?_
      refine (z_X_steps (s' := (127, [(0, .ref 0), (1, .int x1), (2, .int x2)], [.int (h6.1 37 1)], h6)) 3 rfl).trans ?_
      exact z_X_ret rfl
    refine z_ite ?_ ?_
    · refine (z_X_steps (s' := (132, [(0, .ref 0), (1, .int x1), (2, .int x2)], [.ref 45], h2)) 2 rfl).trans ?_
      refine (z_X_call (id := 114) (a := [.ref 45]) (c := 0) (s' := (135, [(0, .ref 0), (1, .int x1), (2, .int x2)], [], h2)) rfl ⟨Nat.le_of_ble_eq_true rfl, Nat.le_of_ble_eq_true rfl⟩).trans ?_
      refine z_bdc fun r7 h8 => ?_
      refine (z_X_steps (s' := (141, [(0, .ref 0), (1, .int x1), (2, .int x2)], [.int x2, .int x1, .ref 45], h8)) 4 rfl).trans ?_
      refine (z_X_call (id := 115) (a := [.ref 45, .int x1, .int x2]) (c := 1) (s' := (144, [(0, .ref 0), (1, .int x1), (2, .int x2)], [], h8)) rfl ⟨Nat.le_of_ble_eq_true rfl, Nat.le_of_ble_eq_true rfl⟩).trans ?_
      refine z_bdc fun r9 h10 => ?_
      exact z_X_ret rfl
    refine z_ite ?_ ?_
    · refine (z_X_steps (s' := (132, [(0, .ref 0), (1, .int x1), (2, .int x2)], [.ref 45], h2)) 2 rfl).trans ?_
      refine (z_X_call (id := 114) (a := [.ref 45]) (c := 0) (s' := (135, [(0, .ref 0), (1, .int x1), (2, .int x2)], [], h2)) rfl ⟨Nat.le_of_ble_eq_true rfl, Nat.le_of_ble_eq_true rfl⟩).trans ?_
      refine z_bdc fun r11 h12 => ?_
      refine (z_X_steps (s' := (141, [(0, .ref 0), (1, .int x1), (2, .int x2)], [.int x2, .int x1, .ref 45], h12)) 4 rfl).trans ?_
      refine (z_X_call (id := 115) (a := [.ref 45, .int x1, .int x2]) (c := 1) (s' := (144, [(0, .ref 0), (1, .int x1), (2, .int x2)], [], h12)) rfl ⟨Nat.le_of_ble_eq_true rfl, Nat.le_of_ble_eq_true rfl⟩).trans ?_
      refine z_bdc fun r13 h14 => ?_
      exact z_X_ret rfl
    refine z_ite ?_ ?_
    · refine (z_X_steps (s' := (132, [(0, .ref 0), (1, .int x1), (2, .int x2)], [.ref 45], h2)) 2 rfl).trans ?_
      refine (z_X_call (id := 114) (a := [.ref 45]) (c := 0) (s' := (135, [(0, .ref 0), (1, .int x1), (2, .int x2)], [], h2)) rfl ⟨Nat.le_of_ble_eq_true rfl, Nat.le_of_ble_eq_true rfl⟩).trans ?_
      refine z_bdc fun r15 h16 => ?_
      refine (z_X_steps (s' := (141, [(0, .ref 0), (1, .int x1), (2, .int x2)], [.int x2, .int x1, .ref 45], h16)) 4 rfl).trans ?_
      refine (z_X_call (id := 115) (a := [.ref 45, .int x1, .int x2]) (c := 1) (s' := (144, [(0, .ref 0), (1, .int x1), (2, .int x2)], [], h16)) rfl ⟨Nat.le_of_ble_eq_true rfl, Nat.le_of_ble_eq_true rfl⟩).trans ?_
      refine z_bdc fun r17 h18 => ?_
      exact z_X_ret rfl
    refine z_ite ?_ ?_
    · refine (z_X_steps (s' := (132, [(0, .ref 0), (1, .int x1), (2, .int x2)], [.ref 45], h2)) 2 rfl).trans ?_
      refine (z_X_call (id := 114) (a := [.ref 45]) (c := 0) (s' := (135, [(0, .ref 0), (1, .int x1), (2, .int x2)], [], h2)) rfl ⟨Nat.le_of_ble_eq_true rfl, Nat.le_of_ble_eq_true rfl⟩).trans ?_
      refine z_bdc fun r19 h20 => ?_
      refine (z_X_steps (s' := (141, [(0, .ref 0), (1, .int x1), (2, .int x2)], [.int x2, .int x1, .ref 45], h20)) 4 rfl).trans ?_
      refine (z_X_call (id := 115) (a := [.ref 45, .int x1, .int x2]) (c := 1) (s' := (144, [(0, .ref 0), (1, .int x1), (2, .int x2)], [], h20)) rfl ⟨Nat.le_of_ble_eq_true rfl, Nat.le_of_ble_eq_true rfl⟩).trans ?_
      refine z_bdc fun r21 h22 => ?_
      exact z_X_ret rfl
    refine (z_X_steps (s' := (146, [(0, .ref 0), (1, .int x1), (2, .int x2)], [.int (-1)], h2)) 1 rfl).trans ?_
    exact z_X_ret rfl
  · refine (z_X_steps (s' := (12, [(0, .ref 0), (1, .int x1), (2, .int x2)], [.int (-1)], h2)) 1 rfl).trans ?_
    exact z_X_ret rfl
set_option maxRecDepth 8000 in
set_option maxHeartbeats 2000000 in
theorem e_X_said (x1 : Int32) (x2 : Int32) (h : z_H) : z_M 8 [.ref 0, .int x1, .int x2] h = z_bd (z_M 90 [.ref 33, .int x1] h) (fun r1 h2 => (if r1 = 0 then some (0, h2) else (if x2 < 0 then some (0, h2) else (if x2 ≤ 1 then (if ¬ x2 = 0 then z_bd (z_M 30 [.ref 0, .ref 25, .int x1] h2) (fun r3 h4 => some (h4.1 37 0, h4)) else z_bd (z_M 30 [.ref 0, .ref 17, .int x1] h2) (fun r5 h6 => some (h6.1 37 0, h6))) else some (0, h2))))) := by
  refine (z_M_eq (by decide)).trans ?_
  show z_X zc_X_said 23 (0, [(0, .ref 0), (1, .int x1), (2, .int x2)], [], h) = _
  refine (z_X_steps (s' := (5, [(0, .ref 0), (1, .int x1), (2, .int x2)], [.int x1, .ref 33], h)) 3 rfl).trans ?_
  refine (z_X_call (id := 90) (a := [.ref 33, .int x1]) (c := 1) (s' := (8, [(0, .ref 0), (1, .int x1), (2, .int x2)], [], h)) rfl ⟨Nat.le_of_ble_eq_true rfl, Nat.le_of_ble_eq_true rfl⟩).trans ?_
  refine z_bdc fun r1 h2 => ?_
  refine (z_X_br (c := r1 = 0) (s1 := (20, [(0, .ref 0), (1, .int x1), (2, .int x2)], [], h2)) (s2 := (11, [(0, .ref 0), (1, .int x1), (2, .int x2)], [], h2)) rfl).trans (z_ite ?_ ?_)
  · refine (z_X_steps (s' := (21, [(0, .ref 0), (1, .int x1), (2, .int x2)], [.int 0], h2)) 1 rfl).trans ?_
    exact z_X_ret rfl
  · refine (z_X_steps (s' := (12, [(0, .ref 0), (1, .int x1), (2, .int x2)], [.int x2], h2)) 1 rfl).trans ?_
    refine (z_X_br (c := x2 < 0) (s1 := (20, [(0, .ref 0), (1, .int x1), (2, .int x2)], [], h2)) (s2 := (15, [(0, .ref 0), (1, .int x1), (2, .int x2)], [], h2)) rfl).trans (z_ite ?_ ?_)
    · refine (z_X_steps (s' := (21, [(0, .ref 0), (1, .int x1), (2, .int x2)], [.int 0], h2)) 1 rfl).trans ?_
      exact z_X_ret rfl
    · refine (z_X_steps (s' := (17, [(0, .ref 0), (1, .int x1), (2, .int x2)], [.int 1, .int x2], h2)) 2 rfl).trans ?_
      refine (z_X_br (c := x2 ≤ 1) (s1 := (22, [(0, .ref 0), (1, .int x1), (2, .int x2)], [], h2)) (s2 := (20, [(0, .ref 0), (1, .int x1), (2, .int x2)], [], h2)) rfl).trans (z_ite ?_ ?_)
      · refine (z_X_steps (s' := (25, [(0, .ref 0), (1, .int x1), (2, .int x2)], [.int x2, .ref 0, .ref 0], h2)) 3 rfl).trans ?_
        refine (z_X_call (id := 29) (a := [.ref 0, .int x2]) (c := 2) (s' := (28, [(0, .ref 0), (1, .int x1), (2, .int x2)], [.ref 0], h2)) rfl ⟨Nat.le_of_ble_eq_true rfl, Nat.le_of_ble_eq_true rfl⟩).trans ?_
        rw [e_X_programOf]
        rw [z_bd_ite]
        refine z_ite ?_ ?_
        · refine (z_X_steps (s' := (29, [(0, .ref 0), (1, .int x1), (2, .int x2)], [.int x1, .ref 25, .ref 0], h2)) 1 rfl).trans ?_
          refine (z_X_call (id := 30) (a := [.ref 0, .ref 25, .int x1]) (c := 0) (s' := (32, [(0, .ref 0), (1, .int x1), (2, .int x2)], [], h2)) rfl ⟨Nat.le_of_ble_eq_true rfl, Nat.le_of_ble_eq_true rfl⟩).trans ?_
          refine z_bdc fun r3 h4 => ?_
          refine (z_X_steps (s' := (39, [(0, .ref 0), (1, .int x1), (2, .int x2)], [.int (h4.1 37 0)], h4)) 3 rfl).trans ?_
          exact z_X_ret rfl
        refine (z_X_steps (s' := (29, [(0, .ref 0), (1, .int x1), (2, .int x2)], [.int x1, .ref 17, .ref 0], h2)) 1 rfl).trans ?_
        refine (z_X_call (id := 30) (a := [.ref 0, .ref 17, .int x1]) (c := 0) (s' := (32, [(0, .ref 0), (1, .int x1), (2, .int x2)], [], h2)) rfl ⟨Nat.le_of_ble_eq_true rfl, Nat.le_of_ble_eq_true rfl⟩).trans ?_
        refine z_bdc fun r5 h6 => ?_
        refine (z_X_steps (s' := (39, [(0, .ref 0), (1, .int x1), (2, .int x2)], [.int (h6.1 37 0)], h6)) 3 rfl).trans ?_
        exact z_X_ret rfl
      · refine (z_X_steps (s' := (21, [(0, .ref 0), (1, .int x1), (2, .int x2)], [.int 0], h2)) 1 rfl).trans ?_
        exact z_X_ret rfl
set_option maxRecDepth 8000 in
set_option maxHeartbeats 2000000 in
theorem e_X_edge (x1 : Int32) (x2 : Int32) (h : z_H) : z_M 9 [.ref 0, .int x1, .int x2] h = z_bd (z_M 74 [.ref 17, .int x1] h) (fun r1 h2 => (if r1 = 0 then some ((-1), h2) else (if x2 < 0 then some ((-1), h2) else (if x2 ≤ 1 then z_bd (z_M 114 [.ref 45] h2) (fun r3 h4 => (if ¬ x2 = 0 then z_bd (z_M 117 [.ref 45, .int x1] h4) (fun r5 h6 => some (r5, h6)) else z_bd (z_M 106 [.ref 41, .int x1] h4) (fun r7 h8 => some (r7, h8)))) else some ((-1), h2))))) := by
  refine (z_M_eq (by decide)).trans ?_
  show z_X zc_X_edge 23 (0, [(0, .ref 0), (1, .int x1), (2, .int x2)], [], h) = _
  refine (z_X_steps (s' := (5, [(0, .ref 0), (1, .int x1), (2, .int x2)], [.int x1, .ref 17], h)) 3 rfl).trans ?_
  refine (z_X_call (id := 74) (a := [.ref 17, .int x1]) (c := 1) (s' := (8, [(0, .ref 0), (1, .int x1), (2, .int x2)], [], h)) rfl ⟨Nat.le_of_ble_eq_true rfl, Nat.le_of_ble_eq_true rfl⟩).trans ?_
  refine z_bdc fun r1 h2 => ?_
  refine (z_X_br (c := r1 = 0) (s1 := (20, [(0, .ref 0), (1, .int x1), (2, .int x2)], [], h2)) (s2 := (11, [(0, .ref 0), (1, .int x1), (2, .int x2)], [], h2)) rfl).trans (z_ite ?_ ?_)
  · refine (z_X_steps (s' := (21, [(0, .ref 0), (1, .int x1), (2, .int x2)], [.int (-1)], h2)) 1 rfl).trans ?_
    exact z_X_ret rfl
  · refine (z_X_steps (s' := (12, [(0, .ref 0), (1, .int x1), (2, .int x2)], [.int x2], h2)) 1 rfl).trans ?_
    refine (z_X_br (c := x2 < 0) (s1 := (20, [(0, .ref 0), (1, .int x1), (2, .int x2)], [], h2)) (s2 := (15, [(0, .ref 0), (1, .int x1), (2, .int x2)], [], h2)) rfl).trans (z_ite ?_ ?_)
    · refine (z_X_steps (s' := (21, [(0, .ref 0), (1, .int x1), (2, .int x2)], [.int (-1)], h2)) 1 rfl).trans ?_
      exact z_X_ret rfl
    · refine (z_X_steps (s' := (17, [(0, .ref 0), (1, .int x1), (2, .int x2)], [.int 1, .int x2], h2)) 2 rfl).trans ?_
      refine (z_X_br (c := x2 ≤ 1) (s1 := (22, [(0, .ref 0), (1, .int x1), (2, .int x2)], [], h2)) (s2 := (20, [(0, .ref 0), (1, .int x1), (2, .int x2)], [], h2)) rfl).trans (z_ite ?_ ?_)
      · refine (z_X_steps (s' := (26, [(0, .ref 0), (1, .int x1), (2, .int x2)], [.ref 45], h2)) 2 rfl).trans ?_
        refine (z_X_call (id := 114) (a := [.ref 45]) (c := 0) (s' := (29, [(0, .ref 0), (1, .int x1), (2, .int x2)], [], h2)) rfl ⟨Nat.le_of_ble_eq_true rfl, Nat.le_of_ble_eq_true rfl⟩).trans ?_
        refine z_bdc fun r3 h4 => ?_
        refine (z_X_steps (s' := (30, [(0, .ref 0), (1, .int x1), (2, .int x2)], [.int x2], h4)) 1 rfl).trans ?_
        refine (z_X_br (c := ¬ x2 = 0) (s1 := (47, [(0, .ref 0), (1, .int x1), (2, .int x2)], [], h4)) (s2 := (33, [(0, .ref 0), (1, .int x1), (2, .int x2)], [], h4)) rfl).trans (z_ite ?_ ?_)
        · refine (z_X_steps (s' := (52, [(0, .ref 0), (1, .int x1), (2, .int x2)], [.int x1, .ref 45], h4)) 3 rfl).trans ?_
          refine (z_X_call (id := 117) (a := [.ref 45, .int x1]) (c := 1) (s' := (55, [(0, .ref 0), (1, .int x1), (2, .int x2)], [], h4)) rfl ⟨Nat.le_of_ble_eq_true rfl, Nat.le_of_ble_eq_true rfl⟩).trans ?_
          refine z_bdc fun r5 h6 => ?_
          exact z_X_ret rfl
        · refine (z_X_steps (s' := (41, [(0, .ref 0), (1, .int x1), (2, .int x2)], [.int x1, .ref 41], h4)) 4 rfl).trans ?_
          refine (z_X_call (id := 106) (a := [.ref 41, .int x1]) (c := 1) (s' := (44, [(0, .ref 0), (1, .int x1), (2, .int x2)], [], h4)) rfl ⟨Nat.le_of_ble_eq_true rfl, Nat.le_of_ble_eq_true rfl⟩).trans ?_
          refine z_bdc fun r7 h8 => ?_
          refine (z_X_steps (s' := (55, [(0, .ref 0), (1, .int x1), (2, .int x2)], [.int r7], h8)) 1 rfl).trans ?_
          exact z_X_ret rfl
      · refine (z_X_steps (s' := (21, [(0, .ref 0), (1, .int x1), (2, .int x2)], [.int (-1)], h2)) 1 rfl).trans ?_
        exact z_X_ret rfl
set_option maxRecDepth 8000 in
set_option maxHeartbeats 2000000 in
theorem e_X_covers (x1 : Int32) (x2 : Int32) (h : z_H) : z_M 10 [.ref 0, .int x1, .int x2] h = z_bd (z_M 90 [.ref 33, .int x1] h) (fun r1 h2 => (if r1 = 0 then some ((-1), h2) else z_bd (z_M 74 [.ref 17, .int x2] h2) (fun r3 h4 => (if ¬ r3 = 0 then z_bd (z_M 30 [.ref 0, .ref 17, .int x1] h4) (fun r5 h6 => z_bd (z_M 106 [.ref 38, .int x2] h6) (fun r7 h8 => some (r7, h8))) else some ((-1), h4))))) := by
  refine (z_M_eq (by decide)).trans ?_
  show z_X zc_X_covers 23 (0, [(0, .ref 0), (1, .int x1), (2, .int x2)], [], h) = _
  refine (z_X_steps (s' := (5, [(0, .ref 0), (1, .int x1), (2, .int x2)], [.int x1, .ref 33], h)) 3 rfl).trans ?_
  refine (z_X_call (id := 90) (a := [.ref 33, .int x1]) (c := 1) (s' := (8, [(0, .ref 0), (1, .int x1), (2, .int x2)], [], h)) rfl ⟨Nat.le_of_ble_eq_true rfl, Nat.le_of_ble_eq_true rfl⟩).trans ?_
  refine z_bdc fun r1 h2 => ?_
  refine (z_X_br (c := r1 = 0) (s1 := (22, [(0, .ref 0), (1, .int x1), (2, .int x2)], [], h2)) (s2 := (11, [(0, .ref 0), (1, .int x1), (2, .int x2)], [], h2)) rfl).trans (z_ite ?_ ?_)
  · refine (z_X_steps (s' := (23, [(0, .ref 0), (1, .int x1), (2, .int x2)], [.int (-1)], h2)) 1 rfl).trans ?_
    exact z_X_ret rfl
  · refine (z_X_steps (s' := (16, [(0, .ref 0), (1, .int x1), (2, .int x2)], [.int x2, .ref 17], h2)) 3 rfl).trans ?_
    refine (z_X_call (id := 74) (a := [.ref 17, .int x2]) (c := 1) (s' := (19, [(0, .ref 0), (1, .int x1), (2, .int x2)], [], h2)) rfl ⟨Nat.le_of_ble_eq_true rfl, Nat.le_of_ble_eq_true rfl⟩).trans ?_
    refine z_bdc fun r3 h4 => ?_
    refine (z_X_br (c := ¬ r3 = 0) (s1 := (24, [(0, .ref 0), (1, .int x1), (2, .int x2)], [], h4)) (s2 := (22, [(0, .ref 0), (1, .int x1), (2, .int x2)], [], h4)) rfl).trans (z_ite ?_ ?_)
    · refine (z_X_steps (s' := (30, [(0, .ref 0), (1, .int x1), (2, .int x2)], [.int x1, .ref 17, .ref 0], h4)) 4 rfl).trans ?_
      refine (z_X_call (id := 30) (a := [.ref 0, .ref 17, .int x1]) (c := 0) (s' := (33, [(0, .ref 0), (1, .int x1), (2, .int x2)], [], h4)) rfl ⟨Nat.le_of_ble_eq_true rfl, Nat.le_of_ble_eq_true rfl⟩).trans ?_
      refine z_bdc fun r5 h6 => ?_
      refine (z_X_steps (s' := (41, [(0, .ref 0), (1, .int x1), (2, .int x2)], [.int x2, .ref 38], h6)) 4 rfl).trans ?_
      refine (z_X_call (id := 106) (a := [.ref 38, .int x2]) (c := 1) (s' := (44, [(0, .ref 0), (1, .int x1), (2, .int x2)], [], h6)) rfl ⟨Nat.le_of_ble_eq_true rfl, Nat.le_of_ble_eq_true rfl⟩).trans ?_
      refine z_bdc fun r7 h8 => ?_
      exact z_X_ret rfl
    · refine (z_X_steps (s' := (23, [(0, .ref 0), (1, .int x1), (2, .int x2)], [.int (-1)], h4)) 1 rfl).trans ?_
      exact z_X_ret rfl
set_option maxRecDepth 8000 in
set_option maxHeartbeats 2000000 in
theorem e_X_order (x1 : Int32) (x2 : Int32) (h : z_H) : z_M 11 [.ref 0, .int x1, .int x2] h = (if x1 < 0 then some ((-1), h) else (if x2 < 0 then some ((-1), h) else (if x2 ≤ 1 then z_bd (z_M 114 [.ref 45] h) (fun r1 h2 => (if x1 < h2.1 45 0 then (if ¬ x2 = 0 then (bif z_in x1 8 then some (h2.1 47 (x1.toNatClampNeg), h2) else none) else (bif z_in x1 8 then some (h2.1 46 (x1.toNatClampNeg), h2) else none)) else some ((-4), h2))) else some ((-1), h)))) := by
  refine (z_M_eq (by decide)).trans ?_
  show z_X zc_X_order 23 (0, [(0, .ref 0), (1, .int x1), (2, .int x2)], [], h) = _
  refine (z_X_steps (s' := (1, [(0, .ref 0), (1, .int x1), (2, .int x2)], [.int x1], h)) 1 rfl).trans ?_
  refine (z_X_br (c := x1 < 0) (s1 := (13, [(0, .ref 0), (1, .int x1), (2, .int x2)], [], h)) (s2 := (4, [(0, .ref 0), (1, .int x1), (2, .int x2)], [], h)) rfl).trans (z_ite ?_ ?_)
  · refine (z_X_steps (s' := (14, [(0, .ref 0), (1, .int x1), (2, .int x2)], [.int (-1)], h)) 1 rfl).trans ?_
    exact z_X_ret rfl
  · refine (z_X_steps (s' := (5, [(0, .ref 0), (1, .int x1), (2, .int x2)], [.int x2], h)) 1 rfl).trans ?_
    refine (z_X_br (c := x2 < 0) (s1 := (13, [(0, .ref 0), (1, .int x1), (2, .int x2)], [], h)) (s2 := (8, [(0, .ref 0), (1, .int x1), (2, .int x2)], [], h)) rfl).trans (z_ite ?_ ?_)
    · refine (z_X_steps (s' := (14, [(0, .ref 0), (1, .int x1), (2, .int x2)], [.int (-1)], h)) 1 rfl).trans ?_
      exact z_X_ret rfl
    · refine (z_X_steps (s' := (10, [(0, .ref 0), (1, .int x1), (2, .int x2)], [.int 1, .int x2], h)) 2 rfl).trans ?_
      refine (z_X_br (c := x2 ≤ 1) (s1 := (15, [(0, .ref 0), (1, .int x1), (2, .int x2)], [], h)) (s2 := (13, [(0, .ref 0), (1, .int x1), (2, .int x2)], [], h)) rfl).trans (z_ite ?_ ?_)
      · refine (z_X_steps (s' := (19, [(0, .ref 0), (1, .int x1), (2, .int x2)], [.ref 45], h)) 2 rfl).trans ?_
        refine (z_X_call (id := 114) (a := [.ref 45]) (c := 0) (s' := (22, [(0, .ref 0), (1, .int x1), (2, .int x2)], [], h)) rfl ⟨Nat.le_of_ble_eq_true rfl, Nat.le_of_ble_eq_true rfl⟩).trans ?_
        refine z_bdc fun r1 h2 => ?_
        refine (z_X_steps (s' := (30, [(0, .ref 0), (1, .int x1), (2, .int x2)], [.int (h2.1 45 0), .int x1], h2)) 4 rfl).trans ?_
        refine (z_X_br (c := x1 < h2.1 45 0) (s1 := (36, [(0, .ref 0), (1, .int x1), (2, .int x2)], [], h2)) (s2 := (33, [(0, .ref 0), (1, .int x1), (2, .int x2)], [], h2)) rfl).trans (z_ite ?_ ?_)
        · refine (z_X_steps (s' := (37, [(0, .ref 0), (1, .int x1), (2, .int x2)], [.int x2], h2)) 1 rfl).trans ?_
          refine (z_X_br (c := ¬ x2 = 0) (s1 := (52, [(0, .ref 0), (1, .int x1), (2, .int x2)], [], h2)) (s2 := (40, [(0, .ref 0), (1, .int x1), (2, .int x2)], [], h2)) rfl).trans (z_ite ?_ ?_)
          · refine (z_X_steps (s' := (60, [(0, .ref 0), (1, .int x1), (2, .int x2)], [.int x1, .ref 47], h2)) 4 rfl).trans ?_
            refine (z_X_if (g := z_in x1 8) (s' := (61, [(0, .ref 0), (1, .int x1), (2, .int x2)], [.int (h2.1 47 (x1.toNatClampNeg))], h2)) rfl).trans (z_bifA ?_)
            exact z_X_ret rfl
          · refine (z_X_steps (s' := (48, [(0, .ref 0), (1, .int x1), (2, .int x2)], [.int x1, .ref 46], h2)) 4 rfl).trans ?_
            refine (z_X_if (g := z_in x1 8) (s' := (49, [(0, .ref 0), (1, .int x1), (2, .int x2)], [.int (h2.1 46 (x1.toNatClampNeg))], h2)) rfl).trans (z_bifA ?_)
            refine (z_X_steps (s' := (61, [(0, .ref 0), (1, .int x1), (2, .int x2)], [.int (h2.1 46 (x1.toNatClampNeg))], h2)) 1 rfl).trans ?_
            exact z_X_ret rfl
        · refine (z_X_steps (s' := (35, [(0, .ref 0), (1, .int x1), (2, .int x2)], [.int (-4)], h2)) 1 rfl).trans ?_
          exact z_X_ret rfl
      · refine (z_X_steps (s' := (14, [(0, .ref 0), (1, .int x1), (2, .int x2)], [.int (-1)], h)) 1 rfl).trans ?_
        exact z_X_ret rfl
noncomputable def zl_X_same_17 (x1 : Int32) (x2 : Int32) (x3 : Int32) (h : z_H) : Option z_A := z_X zc_X_same 23 (17, [(0, .ref 0), (1, .int x1), (2, .int x2), (3, .int x3)], [], h)
set_option maxRecDepth 8000 in
set_option maxHeartbeats 2000000 in
theorem e_X_same (x1 : Int32) (h : z_H) : z_M 12 [.ref 0, .int x1] h = z_bd (z_M 73 [.ref 17, .int x1] h) (fun r1 h2 => (if ¬ r1 = 0 then zl_X_same_17 x1 0 0 h2 else some ((-1), h2))) := by
  refine (z_M_eq (by decide)).trans ?_
  show z_X zc_X_same 23 (0, [(0, .ref 0), (1, .int x1)], [], h) = _
  refine (z_X_steps (s' := (5, [(0, .ref 0), (1, .int x1)], [.int x1, .ref 17], h)) 3 rfl).trans ?_
  refine (z_X_call (id := 73) (a := [.ref 17, .int x1]) (c := 1) (s' := (8, [(0, .ref 0), (1, .int x1)], [], h)) rfl ⟨Nat.le_of_ble_eq_true rfl, Nat.le_of_ble_eq_true rfl⟩).trans ?_
  refine z_bdc fun r1 h2 => ?_
  refine (z_X_br (c := ¬ r1 = 0) (s1 := (13, [(0, .ref 0), (1, .int x1)], [], h2)) (s2 := (11, [(0, .ref 0), (1, .int x1)], [], h2)) rfl).trans (z_ite ?_ ?_)
  · refine (z_X_steps (s' := (17, [(3, .int 0), (2, .int 0), (0, .ref 0), (1, .int x1)], [], h2)) 4 rfl).trans ?_
    exact z_X_lab rfl
  · refine (z_X_steps (s' := (12, [(0, .ref 0), (1, .int x1)], [.int (-1)], h2)) 1 rfl).trans ?_
    exact z_X_ret rfl
set_option maxRecDepth 8000 in
set_option maxHeartbeats 2000000 in
theorem e_X_same_17 (x1 : Int32) (x2 : Int32) (x3 : Int32) (h : z_H) : zl_X_same_17 x1 x2 x3 h = (if (255 : Int32) < x3 then some (x2, h) else z_bd (z_M 32 [.ref 0, .int x1, .int x3] h) (fun r1 h2 => (if r1 = 0 then zl_X_same_17 x1 x2 (x3 + 1) h2 else zl_X_same_17 x1 (x2 + 1) (x3 + 1) h2))) := by
  show z_X zc_X_same 23 (17, [(0, .ref 0), (1, .int x1), (2, .int x2), (3, .int x3)], [], h) = _
  refine (z_X_steps (s' := (21, [(0, .ref 0), (1, .int x1), (2, .int x2), (3, .int x3)], [.int 255, .int x3], h)) 2 rfl).trans ?_
  refine (z_X_br (c := (255 : Int32) < x3) (s1 := (42, [(0, .ref 0), (1, .int x1), (2, .int x2), (3, .int x3)], [], h)) (s2 := (24, [(0, .ref 0), (1, .int x1), (2, .int x2), (3, .int x3)], [], h)) rfl).trans (z_ite ?_ ?_)
  · refine (z_X_steps (s' := (43, [(0, .ref 0), (1, .int x1), (2, .int x2), (3, .int x3)], [.int x2], h)) 1 rfl).trans ?_
    exact z_X_ret rfl
  · refine (z_X_steps (s' := (27, [(0, .ref 0), (1, .int x1), (2, .int x2), (3, .int x3)], [.int x3, .int x1, .ref 0], h)) 3 rfl).trans ?_
    refine (z_X_call (id := 32) (a := [.ref 0, .int x1, .int x3]) (c := 1) (s' := (30, [(0, .ref 0), (1, .int x1), (2, .int x2), (3, .int x3)], [], h)) rfl ⟨Nat.le_of_ble_eq_true rfl, Nat.le_of_ble_eq_true rfl⟩).trans ?_
    refine z_bdc fun r1 h2 => ?_
    refine (z_X_br (c := r1 = 0) (s1 := (36, [(0, .ref 0), (1, .int x1), (2, .int x2), (3, .int x3)], [], h2)) (s2 := (33, [(0, .ref 0), (1, .int x1), (2, .int x2), (3, .int x3)], [], h2)) rfl).trans (z_ite ?_ ?_)
    · refine (z_X_steps (s' := (17, [(3, .int (x3 + 1)), (0, .ref 0), (1, .int x1), (2, .int x2)], [], h2)) 2 rfl).trans ?_
      exact z_X_lab rfl
    · refine (z_X_steps (s' := (17, [(3, .int (x3 + 1)), (2, .int (x2 + 1)), (0, .ref 0), (1, .int x1)], [], h2)) 3 rfl).trans ?_
      exact z_X_lab rfl
set_option maxRecDepth 8000 in
set_option maxHeartbeats 2000000 in
theorem e_X_say (x1 : Int32) (x2 : Int32) (x3 : Int32) (x4 : Int32) (h : z_H) : z_M 13 [.ref 0, .int x1, .int x2, .int x3, .int x4] h = z_bd (z_M 71 [.ref 25, .int x1, .int x2] h) (fun r1 h2 => (if r1 = 0 then some ((-1), h2) else z_bd (z_M 38 [.int x3, .int x4] h2) (fun r3 h4 => (if ¬ r3 = 0 then z_bd (z_M 42 [.int x1, .int x2] h4) (fun r5 h6 => (bif z_in r5 48 then (bif z_in r5 48 then (bif z_in r5 48 then (bif z_in r5 48 then some ((10 * (h6.1 27 (r5.toNatClampNeg))) + (h6.1 28 (r5.toNatClampNeg)), (z_wI (z_wI h6 27 (r5.toNatClampNeg) x3) 28 (r5.toNatClampNeg) x4)) else none) else none) else none) else none)) else some ((-1), h4))))) := by
  refine (z_M_eq (by decide)).trans ?_
  show z_X zc_X_say 3 (0, [(0, .ref 0), (1, .int x1), (2, .int x2), (3, .int x3), (4, .int x4)], [], h) = _
  refine (z_X_steps (s' := (6, [(0, .ref 0), (1, .int x1), (2, .int x2), (3, .int x3), (4, .int x4)], [.int x2, .int x1, .ref 25], h)) 4 rfl).trans ?_
  refine (z_X_call (id := 71) (a := [.ref 25, .int x1, .int x2]) (c := 1) (s' := (9, [(0, .ref 0), (1, .int x1), (2, .int x2), (3, .int x3), (4, .int x4)], [], h)) rfl ⟨Nat.le_of_ble_eq_true rfl, Nat.le_of_ble_eq_true rfl⟩).trans ?_
  refine z_bdc fun r1 h2 => ?_
  refine (z_X_br (c := r1 = 0) (s1 := (21, [(0, .ref 0), (1, .int x1), (2, .int x2), (3, .int x3), (4, .int x4)], [], h2)) (s2 := (12, [(0, .ref 0), (1, .int x1), (2, .int x2), (3, .int x3), (4, .int x4)], [], h2)) rfl).trans (z_ite ?_ ?_)
  · refine (z_X_steps (s' := (22, [(0, .ref 0), (1, .int x1), (2, .int x2), (3, .int x3), (4, .int x4)], [.int (-1)], h2)) 1 rfl).trans ?_
    exact z_X_ret rfl
  · refine (z_X_steps (s' := (15, [(0, .ref 0), (1, .int x1), (2, .int x2), (3, .int x3), (4, .int x4)], [.int x4, .int x3], h2)) 2 rfl).trans ?_
    refine (z_X_call (id := 38) (a := [.int x3, .int x4]) (c := 1) (s' := (18, [(0, .ref 0), (1, .int x1), (2, .int x2), (3, .int x3), (4, .int x4)], [], h2)) rfl ⟨Nat.le_of_ble_eq_true rfl, Nat.le_of_ble_eq_true rfl⟩).trans ?_
    refine z_bdc fun r3 h4 => ?_
    refine (z_X_br (c := ¬ r3 = 0) (s1 := (23, [(0, .ref 0), (1, .int x1), (2, .int x2), (3, .int x3), (4, .int x4)], [], h4)) (s2 := (21, [(0, .ref 0), (1, .int x1), (2, .int x2), (3, .int x3), (4, .int x4)], [], h4)) rfl).trans (z_ite ?_ ?_)
    · refine (z_X_steps (s' := (25, [(0, .ref 0), (1, .int x1), (2, .int x2), (3, .int x3), (4, .int x4)], [.int x2, .int x1], h4)) 2 rfl).trans ?_
      refine (z_X_call (id := 42) (a := [.int x1, .int x2]) (c := 1) (s' := (28, [(0, .ref 0), (1, .int x1), (2, .int x2), (3, .int x3), (4, .int x4)], [], h4)) rfl ⟨Nat.le_of_ble_eq_true rfl, Nat.le_of_ble_eq_true rfl⟩).trans ?_
      refine z_bdc fun r5 h6 => ?_
      refine (z_X_steps (s' := (41, [(5, .int r5), (0, .ref 0), (1, .int x1), (2, .int x2), (3, .int x3), (4, .int x4)], [.int r5, .ref 27, .int 10], h6)) 6 rfl).trans ?_
      refine (z_X_if (g := z_in r5 48) (s' := (42, [(5, .int r5), (0, .ref 0), (1, .int x1), (2, .int x2), (3, .int x3), (4, .int x4)], [.int (h6.1 27 (r5.toNatClampNeg)), .int 10], h6)) rfl).trans (z_bifA ?_)
      refine (z_X_steps (s' := (52, [(5, .int r5), (0, .ref 0), (1, .int x1), (2, .int x2), (3, .int x3), (4, .int x4)], [.int r5, .ref 28, .int (10 * (h6.1 27 (r5.toNatClampNeg)))], h6)) 5 rfl).trans ?_
      refine (z_X_if (g := z_in r5 48) (s' := (53, [(5, .int r5), (0, .ref 0), (1, .int x1), (2, .int x2), (3, .int x3), (4, .int x4)], [.int (h6.1 28 (r5.toNatClampNeg)), .int (10 * (h6.1 27 (r5.toNatClampNeg)))], h6)) rfl).trans (z_bifA ?_)
      refine (z_X_steps (s' := (66, [(6, .int ((10 * (h6.1 27 (r5.toNatClampNeg))) + (h6.1 28 (r5.toNatClampNeg)))), (5, .int r5), (0, .ref 0), (1, .int x1), (2, .int x2), (3, .int x3), (4, .int x4)], [.int x3, .int r5, .ref 27], h6)) 7 rfl).trans ?_
      refine (z_X_if (g := z_in r5 48) (s' := (67, [(6, .int ((10 * (h6.1 27 (r5.toNatClampNeg))) + (h6.1 28 (r5.toNatClampNeg)))), (5, .int r5), (0, .ref 0), (1, .int x1), (2, .int x2), (3, .int x3), (4, .int x4)], [], (z_wI h6 27 (r5.toNatClampNeg) x3))) rfl).trans (z_bifA ?_)
      refine (z_X_steps (s' := (78, [(6, .int ((10 * (h6.1 27 (r5.toNatClampNeg))) + (h6.1 28 (r5.toNatClampNeg)))), (5, .int r5), (0, .ref 0), (1, .int x1), (2, .int x2), (3, .int x3), (4, .int x4)], [.int x4, .int r5, .ref 28], (z_wI h6 27 (r5.toNatClampNeg) x3))) 5 rfl).trans ?_
      refine (z_X_if (g := z_in r5 48) (s' := (79, [(6, .int ((10 * (h6.1 27 (r5.toNatClampNeg))) + (h6.1 28 (r5.toNatClampNeg)))), (5, .int r5), (0, .ref 0), (1, .int x1), (2, .int x2), (3, .int x3), (4, .int x4)], [], (z_wI (z_wI h6 27 (r5.toNatClampNeg) x3) 28 (r5.toNatClampNeg) x4))) rfl).trans (z_bifA ?_)
      refine (z_X_steps (s' := (81, [(6, .int ((10 * (h6.1 27 (r5.toNatClampNeg))) + (h6.1 28 (r5.toNatClampNeg)))), (5, .int r5), (0, .ref 0), (1, .int x1), (2, .int x2), (3, .int x3), (4, .int x4)], [.int ((10 * (h6.1 27 (r5.toNatClampNeg))) + (h6.1 28 (r5.toNatClampNeg)))], (z_wI (z_wI h6 27 (r5.toNatClampNeg) x3) 28 (r5.toNatClampNeg) x4))) 1 rfl).trans ?_
      exact z_X_ret rfl
    · refine (z_X_steps (s' := (22, [(0, .ref 0), (1, .int x1), (2, .int x2), (3, .int x3), (4, .int x4)], [.int (-1)], h4)) 1 rfl).trans ?_
      exact z_X_ret rfl
set_option maxRecDepth 8000 in
set_option maxHeartbeats 2000000 in
theorem e_X_lead (x1 : Int32) (x2 : Int32) (x3 : Int32) (x4 : Int32) (h : z_H) : z_M 14 [.ref 0, .int x1, .int x2, .int x3, .int x4] h = z_bd (z_M 76 [.ref 25, .int x1, .int x2, .int x3, .int x4] h) (fun r1 h2 => (if ¬ r1 = 0 then z_bd (z_M 75 [.ref 25, .int x1, .int x2, .int x3] h2) (fun r3 h4 => z_bd (z_M 77 [.ref 25, .int x1, .int x2, .int x3, .int x4] h4) (fun r5 h6 => some (r3, h6))) else some ((-1), h2))) := by
  refine (z_M_eq (by decide)).trans ?_
  show z_X zc_X_lead 5 (0, [(0, .ref 0), (1, .int x1), (2, .int x2), (3, .int x3), (4, .int x4)], [], h) = _
  refine (z_X_steps (s' := (9, [(0, .ref 0), (1, .int x1), (2, .int x2), (3, .int x3), (4, .int x4)], [.int x4, .int x3, .int x2, .int x1, .ref 25], h)) 6 rfl).trans ?_
  refine (z_X_call (id := 76) (a := [.ref 25, .int x1, .int x2, .int x3, .int x4]) (c := 1) (s' := (12, [(0, .ref 0), (1, .int x1), (2, .int x2), (3, .int x3), (4, .int x4)], [], h)) rfl ⟨Nat.le_of_ble_eq_true rfl, Nat.le_of_ble_eq_true rfl⟩).trans ?_
  refine z_bdc fun r1 h2 => ?_
  refine (z_X_br (c := ¬ r1 = 0) (s1 := (17, [(0, .ref 0), (1, .int x1), (2, .int x2), (3, .int x3), (4, .int x4)], [], h2)) (s2 := (15, [(0, .ref 0), (1, .int x1), (2, .int x2), (3, .int x3), (4, .int x4)], [], h2)) rfl).trans (z_ite ?_ ?_)
  · refine (z_X_steps (s' := (24, [(0, .ref 0), (1, .int x1), (2, .int x2), (3, .int x3), (4, .int x4)], [.int x3, .int x2, .int x1, .ref 25], h2)) 5 rfl).trans ?_
    refine (z_X_call (id := 75) (a := [.ref 25, .int x1, .int x2, .int x3]) (c := 1) (s' := (27, [(0, .ref 0), (1, .int x1), (2, .int x2), (3, .int x3), (4, .int x4)], [], h2)) rfl ⟨Nat.le_of_ble_eq_true rfl, Nat.le_of_ble_eq_true rfl⟩).trans ?_
    refine z_bdc fun r3 h4 => ?_
    refine (z_X_steps (s' := (38, [(5, .int r3), (0, .ref 0), (1, .int x1), (2, .int x2), (3, .int x3), (4, .int x4)], [.int x4, .int x3, .int x2, .int x1, .ref 25], h4)) 7 rfl).trans ?_
    refine (z_X_call (id := 77) (a := [.ref 25, .int x1, .int x2, .int x3, .int x4]) (c := 0) (s' := (41, [(5, .int r3), (0, .ref 0), (1, .int x1), (2, .int x2), (3, .int x3), (4, .int x4)], [], h4)) rfl ⟨Nat.le_of_ble_eq_true rfl, Nat.le_of_ble_eq_true rfl⟩).trans ?_
    refine z_bdc fun r5 h6 => ?_
    refine (z_X_steps (s' := (43, [(5, .int r3), (0, .ref 0), (1, .int x1), (2, .int x2), (3, .int x3), (4, .int x4)], [.int r3], h6)) 1 rfl).trans ?_
    exact z_X_ret rfl
  · refine (z_X_steps (s' := (16, [(0, .ref 0), (1, .int x1), (2, .int x2), (3, .int x3), (4, .int x4)], [.int (-1)], h2)) 1 rfl).trans ?_
    exact z_X_ret rfl
set_option maxRecDepth 8000 in
set_option maxHeartbeats 2000000 in
theorem e_X_nexts (x1 : Int32) (x2 : Int32) (x3 : Int32) (h : z_H) : z_M 15 [.ref 0, .int x1, .int x2, .int x3] h = z_bd (z_M 71 [.ref 25, .int x1, .int x2] h) (fun r1 h2 => (if r1 = 0 then some ((-1), h2) else (if x3 < 0 then some ((-1), h2) else (if x3 ≤ 2 then z_bd (z_M 42 [.int x1, .int x2] h2) (fun r3 h4 => (bif z_in r3 48 then z_bd (z_M 78 [.ref 25, .int x1, .int x2, .int x3] h4) (fun r5 h6 => some (h4.1 29 (r3.toNatClampNeg), h6)) else none)) else some ((-1), h2))))) := by
  refine (z_M_eq (by decide)).trans ?_
  show z_X zc_X_nexts 3 (0, [(0, .ref 0), (1, .int x1), (2, .int x2), (3, .int x3)], [], h) = _
  refine (z_X_steps (s' := (6, [(0, .ref 0), (1, .int x1), (2, .int x2), (3, .int x3)], [.int x2, .int x1, .ref 25], h)) 4 rfl).trans ?_
  refine (z_X_call (id := 71) (a := [.ref 25, .int x1, .int x2]) (c := 1) (s' := (9, [(0, .ref 0), (1, .int x1), (2, .int x2), (3, .int x3)], [], h)) rfl ⟨Nat.le_of_ble_eq_true rfl, Nat.le_of_ble_eq_true rfl⟩).trans ?_
  refine z_bdc fun r1 h2 => ?_
  refine (z_X_br (c := r1 = 0) (s1 := (21, [(0, .ref 0), (1, .int x1), (2, .int x2), (3, .int x3)], [], h2)) (s2 := (12, [(0, .ref 0), (1, .int x1), (2, .int x2), (3, .int x3)], [], h2)) rfl).trans (z_ite ?_ ?_)
  · refine (z_X_steps (s' := (22, [(0, .ref 0), (1, .int x1), (2, .int x2), (3, .int x3)], [.int (-1)], h2)) 1 rfl).trans ?_
    exact z_X_ret rfl
  · refine (z_X_steps (s' := (13, [(0, .ref 0), (1, .int x1), (2, .int x2), (3, .int x3)], [.int x3], h2)) 1 rfl).trans ?_
    refine (z_X_br (c := x3 < 0) (s1 := (21, [(0, .ref 0), (1, .int x1), (2, .int x2), (3, .int x3)], [], h2)) (s2 := (16, [(0, .ref 0), (1, .int x1), (2, .int x2), (3, .int x3)], [], h2)) rfl).trans (z_ite ?_ ?_)
    · refine (z_X_steps (s' := (22, [(0, .ref 0), (1, .int x1), (2, .int x2), (3, .int x3)], [.int (-1)], h2)) 1 rfl).trans ?_
      exact z_X_ret rfl
    · refine (z_X_steps (s' := (18, [(0, .ref 0), (1, .int x1), (2, .int x2), (3, .int x3)], [.int 2, .int x3], h2)) 2 rfl).trans ?_
      refine (z_X_br (c := x3 ≤ 2) (s1 := (23, [(0, .ref 0), (1, .int x1), (2, .int x2), (3, .int x3)], [], h2)) (s2 := (21, [(0, .ref 0), (1, .int x1), (2, .int x2), (3, .int x3)], [], h2)) rfl).trans (z_ite ?_ ?_)
      · refine (z_X_steps (s' := (32, [(0, .ref 0), (1, .int x1), (2, .int x2), (3, .int x3)], [.int x2, .int x1, .ref 29], h2)) 5 rfl).trans ?_
        refine (z_X_call (id := 42) (a := [.int x1, .int x2]) (c := 1) (s' := (35, [(0, .ref 0), (1, .int x1), (2, .int x2), (3, .int x3)], [.ref 29], h2)) rfl ⟨Nat.le_of_ble_eq_true rfl, Nat.le_of_ble_eq_true rfl⟩).trans ?_
        refine z_bdc fun r3 h4 => ?_
        refine (z_X_if (g := z_in r3 48) (s' := (36, [(0, .ref 0), (1, .int x1), (2, .int x2), (3, .int x3)], [.int (h4.1 29 (r3.toNatClampNeg))], h4)) rfl).trans (z_bifA ?_)
        refine (z_X_steps (s' := (45, [(4, .int (h4.1 29 (r3.toNatClampNeg))), (0, .ref 0), (1, .int x1), (2, .int x2), (3, .int x3)], [.int x3, .int x2, .int x1, .ref 25], h4)) 6 rfl).trans ?_
        refine (z_X_call (id := 78) (a := [.ref 25, .int x1, .int x2, .int x3]) (c := 0) (s' := (48, [(4, .int (h4.1 29 (r3.toNatClampNeg))), (0, .ref 0), (1, .int x1), (2, .int x2), (3, .int x3)], [], h4)) rfl ⟨Nat.le_of_ble_eq_true rfl, Nat.le_of_ble_eq_true rfl⟩).trans ?_
        refine z_bdc fun r5 h6 => ?_
        refine (z_X_steps (s' := (50, [(4, .int (h4.1 29 (r3.toNatClampNeg))), (0, .ref 0), (1, .int x1), (2, .int x2), (3, .int x3)], [.int (h4.1 29 (r3.toNatClampNeg))], h6)) 1 rfl).trans ?_
        exact z_X_ret rfl
      · refine (z_X_steps (s' := (22, [(0, .ref 0), (1, .int x1), (2, .int x2), (3, .int x3)], [.int (-1)], h2)) 1 rfl).trans ?_
        exact z_X_ret rfl
noncomputable def zl_X_has_37 (x1 : Int32) (x2 : Int32) (x3 : Int32) (h : z_H) : Option z_A := z_X zc_X_has 2 (37, [(0, .ref 0), (1, .int x1), (2, .int x2), (3, .int x3)], [], h)
set_option maxRecDepth 8000 in
set_option maxHeartbeats 2000000 in
theorem e_X_has (x1 : Int32) (x2 : Int32) (x3 : Int32) (h : z_H) : z_M 16 [.ref 0, .int x1, .int x2, .int x3] h = z_bd (z_M 73 [.ref 25, .int x1] h) (fun r1 h2 => (if r1 = 0 then some ((-1), h2) else z_bd (z_M 37 [.int x2] h2) (fun r3 h4 => (if r3 = 0 then some ((-1), h4) else (if x3 = (-4) then zl_X_has_37 x1 x2 x3 h4 else z_bd (z_M 70 [.ref 25, .int x3] h4) (fun r5 h6 => (if ¬ r5 = 0 then zl_X_has_37 x1 x2 x3 h6 else some ((-1), h6)))))))) := by
  refine (z_M_eq (by decide)).trans ?_
  show z_X zc_X_has 2 (0, [(0, .ref 0), (1, .int x1), (2, .int x2), (3, .int x3)], [], h) = _
  refine (z_X_steps (s' := (5, [(0, .ref 0), (1, .int x1), (2, .int x2), (3, .int x3)], [.int x1, .ref 25], h)) 3 rfl).trans ?_
  refine (z_X_call (id := 73) (a := [.ref 25, .int x1]) (c := 1) (s' := (8, [(0, .ref 0), (1, .int x1), (2, .int x2), (3, .int x3)], [], h)) rfl ⟨Nat.le_of_ble_eq_true rfl, Nat.le_of_ble_eq_true rfl⟩).trans ?_
  refine z_bdc fun r1 h2 => ?_
  refine (z_X_br (c := r1 = 0) (s1 := (35, [(0, .ref 0), (1, .int x1), (2, .int x2), (3, .int x3)], [], h2)) (s2 := (11, [(0, .ref 0), (1, .int x1), (2, .int x2), (3, .int x3)], [], h2)) rfl).trans (z_ite ?_ ?_)
  · refine (z_X_steps (s' := (36, [(0, .ref 0), (1, .int x1), (2, .int x2), (3, .int x3)], [.int (-1)], h2)) 1 rfl).trans ?_
    exact z_X_ret rfl
  · refine (z_X_steps (s' := (12, [(0, .ref 0), (1, .int x1), (2, .int x2), (3, .int x3)], [.int x2], h2)) 1 rfl).trans ?_
    refine (z_X_call (id := 37) (a := [.int x2]) (c := 1) (s' := (15, [(0, .ref 0), (1, .int x1), (2, .int x2), (3, .int x3)], [], h2)) rfl ⟨Nat.le_of_ble_eq_true rfl, Nat.le_of_ble_eq_true rfl⟩).trans ?_
    refine z_bdc fun r3 h4 => ?_
    refine (z_X_br (c := r3 = 0) (s1 := (35, [(0, .ref 0), (1, .int x1), (2, .int x2), (3, .int x3)], [], h4)) (s2 := (18, [(0, .ref 0), (1, .int x1), (2, .int x2), (3, .int x3)], [], h4)) rfl).trans (z_ite ?_ ?_)
    · refine (z_X_steps (s' := (36, [(0, .ref 0), (1, .int x1), (2, .int x2), (3, .int x3)], [.int (-1)], h4)) 1 rfl).trans ?_
      exact z_X_ret rfl
    · refine (z_X_steps (s' := (21, [(0, .ref 0), (1, .int x1), (2, .int x2), (3, .int x3)], [.int (-4), .int x3], h4)) 2 rfl).trans ?_
      refine (z_X_br (c := x3 = (-4)) (s1 := (37, [(0, .ref 0), (1, .int x1), (2, .int x2), (3, .int x3)], [], h4)) (s2 := (24, [(0, .ref 0), (1, .int x1), (2, .int x2), (3, .int x3)], [], h4)) rfl).trans (z_ite ?_ ?_)
      · exact z_X_lab rfl
      · refine (z_X_steps (s' := (29, [(0, .ref 0), (1, .int x1), (2, .int x2), (3, .int x3)], [.int x3, .ref 25], h4)) 3 rfl).trans ?_
        refine (z_X_call (id := 70) (a := [.ref 25, .int x3]) (c := 1) (s' := (32, [(0, .ref 0), (1, .int x1), (2, .int x2), (3, .int x3)], [], h4)) rfl ⟨Nat.le_of_ble_eq_true rfl, Nat.le_of_ble_eq_true rfl⟩).trans ?_
        refine z_bdc fun r5 h6 => ?_
        refine (z_X_br (c := ¬ r5 = 0) (s1 := (37, [(0, .ref 0), (1, .int x1), (2, .int x2), (3, .int x3)], [], h6)) (s2 := (35, [(0, .ref 0), (1, .int x1), (2, .int x2), (3, .int x3)], [], h6)) rfl).trans (z_ite ?_ ?_)
        · exact z_X_lab rfl
        · refine (z_X_steps (s' := (36, [(0, .ref 0), (1, .int x1), (2, .int x2), (3, .int x3)], [.int (-1)], h6)) 1 rfl).trans ?_
          exact z_X_ret rfl
set_option maxRecDepth 8000 in
set_option maxHeartbeats 2000000 in
theorem e_X_has_37 (x1 : Int32) (x2 : Int32) (x3 : Int32) (h : z_H) : zl_X_has_37 x1 x2 x3 h = (bif z_in ((4 * x1) + x2) 16 then (bif z_in ((4 * x1) + x2) 16 then some (h.1 32 (((4 * x1) + x2).toNatClampNeg), (z_wI h 32 (((4 * x1) + x2).toNatClampNeg) x3)) else none) else none) := by
  show z_X zc_X_has 2 (37, [(0, .ref 0), (1, .int x1), (2, .int x2), (3, .int x3)], [], h) = _
  refine (z_X_steps (s' := (49, [(0, .ref 0), (1, .int x1), (2, .int x2), (3, .int x3)], [.int ((4 * x1) + x2), .ref 32], h)) 8 rfl).trans ?_
  refine (z_X_if (g := z_in ((4 * x1) + x2) 16) (s' := (50, [(0, .ref 0), (1, .int x1), (2, .int x2), (3, .int x3)], [.int (h.1 32 (((4 * x1) + x2).toNatClampNeg))], h)) rfl).trans (z_bifA ?_)
  refine (z_X_steps (s' := (65, [(4, .int (h.1 32 (((4 * x1) + x2).toNatClampNeg))), (0, .ref 0), (1, .int x1), (2, .int x2), (3, .int x3)], [.int x3, .int ((4 * x1) + x2), .ref 32], h)) 10 rfl).trans ?_
  refine (z_X_if (g := z_in ((4 * x1) + x2) 16) (s' := (66, [(4, .int (h.1 32 (((4 * x1) + x2).toNatClampNeg))), (0, .ref 0), (1, .int x1), (2, .int x2), (3, .int x3)], [], (z_wI h 32 (((4 * x1) + x2).toNatClampNeg) x3))) rfl).trans (z_bifA ?_)
  refine (z_X_steps (s' := (68, [(4, .int (h.1 32 (((4 * x1) + x2).toNatClampNeg))), (0, .ref 0), (1, .int x1), (2, .int x2), (3, .int x3)], [.int (h.1 32 (((4 * x1) + x2).toNatClampNeg))], (z_wI h 32 (((4 * x1) + x2).toNatClampNeg) x3))) 1 rfl).trans ?_
  exact z_X_ret rfl
set_option maxRecDepth 8000 in
set_option maxHeartbeats 2000000 in
theorem e_X_take (h : z_H) : z_M 17 [.ref 0] h = z_bd (z_M 31 [.ref 0] h) (fun r1 h2 => z_bd (z_M 69 [.ref 17, .ref 25] h2) (fun r3 h4 => some (r1, h4))) := by
  refine (z_M_eq (by decide)).trans ?_
  show z_X zc_X_take 7 (0, [(0, .ref 0)], [], h) = _
  refine (z_X_steps (s' := (1, [(0, .ref 0)], [.ref 0], h)) 1 rfl).trans ?_
  refine (z_X_call (id := 31) (a := [.ref 0]) (c := 1) (s' := (4, [(0, .ref 0)], [], h)) rfl ⟨Nat.le_of_ble_eq_true rfl, Nat.le_of_ble_eq_true rfl⟩).trans ?_
  refine z_bdc fun r1 h2 => ?_
  refine (z_X_steps (s' := (13, [(1, .int r1), (0, .ref 0)], [.ref 25, .ref 17], h2)) 5 rfl).trans ?_
  refine (z_X_call (id := 69) (a := [.ref 17, .ref 25]) (c := 0) (s' := (16, [(1, .int r1), (0, .ref 0)], [], h2)) rfl ⟨Nat.le_of_ble_eq_true rfl, Nat.le_of_ble_eq_true rfl⟩).trans ?_
  refine z_bdc fun r3 h4 => ?_
  refine (z_X_steps (s' := (17, [(1, .int r1), (0, .ref 0)], [.int r1], h4)) 1 rfl).trans ?_
  exact z_X_ret rfl
set_option maxRecDepth 8000 in
set_option maxHeartbeats 2000000 in
theorem e_X_leave (h : z_H) : z_M 18 [.ref 0] h = z_bd (z_M 31 [.ref 0] h) (fun r1 h2 => z_bd (z_M 69 [.ref 25, .ref 17] h2) (fun r3 h4 => some (r1, h4))) := by
  refine (z_M_eq (by decide)).trans ?_
  show z_X zc_X_leave 7 (0, [(0, .ref 0)], [], h) = _
  refine (z_X_steps (s' := (1, [(0, .ref 0)], [.ref 0], h)) 1 rfl).trans ?_
  refine (z_X_call (id := 31) (a := [.ref 0]) (c := 1) (s' := (4, [(0, .ref 0)], [], h)) rfl ⟨Nat.le_of_ble_eq_true rfl, Nat.le_of_ble_eq_true rfl⟩).trans ?_
  refine z_bdc fun r1 h2 => ?_
  refine (z_X_steps (s' := (13, [(1, .int r1), (0, .ref 0)], [.ref 17, .ref 25], h2)) 5 rfl).trans ?_
  refine (z_X_call (id := 69) (a := [.ref 25, .ref 17]) (c := 0) (s' := (16, [(1, .int r1), (0, .ref 0)], [], h2)) rfl ⟨Nat.le_of_ble_eq_true rfl, Nat.le_of_ble_eq_true rfl⟩).trans ?_
  refine z_bdc fun r3 h4 => ?_
  refine (z_X_steps (s' := (17, [(1, .int r1), (0, .ref 0)], [.int r1], h4)) 1 rfl).trans ?_
  exact z_X_ret rfl
set_option maxRecDepth 8000 in
set_option maxHeartbeats 2000000 in
theorem e_X_add (x1 : Int32) (x2 : Int32) (x3 : Int32) (h : z_H) : z_M 19 [.ref 0, .int x1, .int x2, .int x3] h = z_bd (z_M 73 [.ref 17, .int x1] h) (fun r1 h2 => (if r1 = 0 then some ((-1), h2) else (if x2 < 0 then some ((-1), h2) else (if (255 : Int32) < x2 then some ((-1), h2) else (if x3 < 1 then some ((-1), h2) else (if x3 ≤ 9 then z_bd (z_M 91 [.ref 33] h2) (fun r3 h4 => (if r3 = 0 then z_bd (z_M 93 [.ref 33, .int x1, .int x2, .int x3] h4) (fun r5 h6 => some (h6.1 33 0, h6)) else some ((-3), h4))) else some ((-1), h2))))))) := by
  refine (z_M_eq (by decide)).trans ?_
  show z_X zc_X_add 3 (0, [(0, .ref 0), (1, .int x1), (2, .int x2), (3, .int x3)], [], h) = _
  refine (z_X_steps (s' := (5, [(0, .ref 0), (1, .int x1), (2, .int x2), (3, .int x3)], [.int x1, .ref 17], h)) 3 rfl).trans ?_
  refine (z_X_call (id := 73) (a := [.ref 17, .int x1]) (c := 1) (s' := (8, [(0, .ref 0), (1, .int x1), (2, .int x2), (3, .int x3)], [], h)) rfl ⟨Nat.le_of_ble_eq_true rfl, Nat.le_of_ble_eq_true rfl⟩).trans ?_
  refine z_bdc fun r1 h2 => ?_
  refine (z_X_br (c := r1 = 0) (s1 := (33, [(0, .ref 0), (1, .int x1), (2, .int x2), (3, .int x3)], [], h2)) (s2 := (11, [(0, .ref 0), (1, .int x1), (2, .int x2), (3, .int x3)], [], h2)) rfl).trans (z_ite ?_ ?_)
  · refine (z_X_steps (s' := (34, [(0, .ref 0), (1, .int x1), (2, .int x2), (3, .int x3)], [.int (-1)], h2)) 1 rfl).trans ?_
    exact z_X_ret rfl
  · refine (z_X_steps (s' := (12, [(0, .ref 0), (1, .int x1), (2, .int x2), (3, .int x3)], [.int x2], h2)) 1 rfl).trans ?_
    refine (z_X_br (c := x2 < 0) (s1 := (33, [(0, .ref 0), (1, .int x1), (2, .int x2), (3, .int x3)], [], h2)) (s2 := (15, [(0, .ref 0), (1, .int x1), (2, .int x2), (3, .int x3)], [], h2)) rfl).trans (z_ite ?_ ?_)
    · refine (z_X_steps (s' := (34, [(0, .ref 0), (1, .int x1), (2, .int x2), (3, .int x3)], [.int (-1)], h2)) 1 rfl).trans ?_
      exact z_X_ret rfl
    · refine (z_X_steps (s' := (19, [(0, .ref 0), (1, .int x1), (2, .int x2), (3, .int x3)], [.int 255, .int x2], h2)) 2 rfl).trans ?_
      refine (z_X_br (c := (255 : Int32) < x2) (s1 := (33, [(0, .ref 0), (1, .int x1), (2, .int x2), (3, .int x3)], [], h2)) (s2 := (22, [(0, .ref 0), (1, .int x1), (2, .int x2), (3, .int x3)], [], h2)) rfl).trans (z_ite ?_ ?_)
      · refine (z_X_steps (s' := (34, [(0, .ref 0), (1, .int x1), (2, .int x2), (3, .int x3)], [.int (-1)], h2)) 1 rfl).trans ?_
        exact z_X_ret rfl
      · refine (z_X_steps (s' := (24, [(0, .ref 0), (1, .int x1), (2, .int x2), (3, .int x3)], [.int 1, .int x3], h2)) 2 rfl).trans ?_
        refine (z_X_br (c := x3 < 1) (s1 := (33, [(0, .ref 0), (1, .int x1), (2, .int x2), (3, .int x3)], [], h2)) (s2 := (27, [(0, .ref 0), (1, .int x1), (2, .int x2), (3, .int x3)], [], h2)) rfl).trans (z_ite ?_ ?_)
        · refine (z_X_steps (s' := (34, [(0, .ref 0), (1, .int x1), (2, .int x2), (3, .int x3)], [.int (-1)], h2)) 1 rfl).trans ?_
          exact z_X_ret rfl
        · refine (z_X_steps (s' := (30, [(0, .ref 0), (1, .int x1), (2, .int x2), (3, .int x3)], [.int 9, .int x3], h2)) 2 rfl).trans ?_
          refine (z_X_br (c := x3 ≤ 9) (s1 := (35, [(0, .ref 0), (1, .int x1), (2, .int x2), (3, .int x3)], [], h2)) (s2 := (33, [(0, .ref 0), (1, .int x1), (2, .int x2), (3, .int x3)], [], h2)) rfl).trans (z_ite ?_ ?_)
          · refine (z_X_steps (s' := (39, [(0, .ref 0), (1, .int x1), (2, .int x2), (3, .int x3)], [.ref 33], h2)) 2 rfl).trans ?_
            refine (z_X_call (id := 91) (a := [.ref 33]) (c := 1) (s' := (42, [(0, .ref 0), (1, .int x1), (2, .int x2), (3, .int x3)], [], h2)) rfl ⟨Nat.le_of_ble_eq_true rfl, Nat.le_of_ble_eq_true rfl⟩).trans ?_
            refine z_bdc fun r3 h4 => ?_
            refine (z_X_br (c := r3 = 0) (s1 := (48, [(0, .ref 0), (1, .int x1), (2, .int x2), (3, .int x3)], [], h4)) (s2 := (45, [(0, .ref 0), (1, .int x1), (2, .int x2), (3, .int x3)], [], h4)) rfl).trans (z_ite ?_ ?_)
            · refine (z_X_steps (s' := (55, [(0, .ref 0), (1, .int x1), (2, .int x2), (3, .int x3)], [.int x3, .int x2, .int x1, .ref 33], h4)) 5 rfl).trans ?_
              refine (z_X_call (id := 93) (a := [.ref 33, .int x1, .int x2, .int x3]) (c := 0) (s' := (58, [(0, .ref 0), (1, .int x1), (2, .int x2), (3, .int x3)], [], h4)) rfl ⟨Nat.le_of_ble_eq_true rfl, Nat.le_of_ble_eq_true rfl⟩).trans ?_
              refine z_bdc fun r5 h6 => ?_
              refine (z_X_steps (s' := (65, [(0, .ref 0), (1, .int x1), (2, .int x2), (3, .int x3)], [.int (h6.1 33 0)], h6)) 3 rfl).trans ?_
              exact z_X_ret rfl
            · refine (z_X_steps (s' := (47, [(0, .ref 0), (1, .int x1), (2, .int x2), (3, .int x3)], [.int (-3)], h4)) 1 rfl).trans ?_
              exact z_X_ret rfl
          · refine (z_X_steps (s' := (34, [(0, .ref 0), (1, .int x1), (2, .int x2), (3, .int x3)], [.int (-1)], h2)) 1 rfl).trans ?_
            exact z_X_ret rfl
set_option maxRecDepth 8000 in
set_option maxHeartbeats 2000000 in
theorem e_X_drop (x1 : Int32) (h : z_H) : z_M 20 [.ref 0, .int x1] h = z_bd (z_M 90 [.ref 33, .int x1] h) (fun r1 h2 => (if ¬ r1 = 0 then z_bd (z_M 94 [.ref 33, .int x1] h2) (fun r3 h4 => some (h4.1 33 0, h4)) else some ((-1), h2))) := by
  refine (z_M_eq (by decide)).trans ?_
  show z_X zc_X_drop 2 (0, [(0, .ref 0), (1, .int x1)], [], h) = _
  refine (z_X_steps (s' := (5, [(0, .ref 0), (1, .int x1)], [.int x1, .ref 33], h)) 3 rfl).trans ?_
  refine (z_X_call (id := 90) (a := [.ref 33, .int x1]) (c := 1) (s' := (8, [(0, .ref 0), (1, .int x1)], [], h)) rfl ⟨Nat.le_of_ble_eq_true rfl, Nat.le_of_ble_eq_true rfl⟩).trans ?_
  refine z_bdc fun r1 h2 => ?_
  refine (z_X_br (c := ¬ r1 = 0) (s1 := (13, [(0, .ref 0), (1, .int x1)], [], h2)) (s2 := (11, [(0, .ref 0), (1, .int x1)], [], h2)) rfl).trans (z_ite ?_ ?_)
  · refine (z_X_steps (s' := (18, [(0, .ref 0), (1, .int x1)], [.int x1, .ref 33], h2)) 3 rfl).trans ?_
    refine (z_X_call (id := 94) (a := [.ref 33, .int x1]) (c := 0) (s' := (21, [(0, .ref 0), (1, .int x1)], [], h2)) rfl ⟨Nat.le_of_ble_eq_true rfl, Nat.le_of_ble_eq_true rfl⟩).trans ?_
    refine z_bdc fun r3 h4 => ?_
    refine (z_X_steps (s' := (28, [(0, .ref 0), (1, .int x1)], [.int (h4.1 33 0)], h4)) 3 rfl).trans ?_
    exact z_X_ret rfl
  · refine (z_X_steps (s' := (12, [(0, .ref 0), (1, .int x1)], [.int (-1)], h2)) 1 rfl).trans ?_
    exact z_X_ret rfl
noncomputable def zl_X_draw_32 (x2 : Int32) (x3 : Int32) (x4 : Int32) (h : z_H) : Option z_A := z_X zc_X_draw 3 (32, [(0, .ref 0), (2, .int x2), (3, .int x3), (4, .int x4)], [], h)
set_option maxRecDepth 8000 in
set_option maxHeartbeats 2000000 in
theorem e_X_draw (x1 : Int32) (x2 : Int32) (h : z_H) : z_M 21 [.ref 0, .int x1, .int x2] h = (if x2 < 1 then some ((-1), h) else (if x2 ≤ 8 then (if (1 : Int32) ≤ h.1 17 1 then zl_X_draw_32 x2 0 x1 h else some ((-2), h)) else some ((-1), h))) := by
  refine (z_M_eq (by decide)).trans ?_
  show z_X zc_X_draw 3 (0, [(0, .ref 0), (1, .int x1), (2, .int x2)], [], h) = _
  refine (z_X_steps (s' := (2, [(0, .ref 0), (1, .int x1), (2, .int x2)], [.int 1, .int x2], h)) 2 rfl).trans ?_
  refine (z_X_br (c := x2 < 1) (s1 := (11, [(0, .ref 0), (1, .int x1), (2, .int x2)], [], h)) (s2 := (5, [(0, .ref 0), (1, .int x1), (2, .int x2)], [], h)) rfl).trans (z_ite ?_ ?_)
  · refine (z_X_steps (s' := (12, [(0, .ref 0), (1, .int x1), (2, .int x2)], [.int (-1)], h)) 1 rfl).trans ?_
    exact z_X_ret rfl
  · refine (z_X_steps (s' := (8, [(0, .ref 0), (1, .int x1), (2, .int x2)], [.int 8, .int x2], h)) 2 rfl).trans ?_
    refine (z_X_br (c := x2 ≤ 8) (s1 := (13, [(0, .ref 0), (1, .int x1), (2, .int x2)], [], h)) (s2 := (11, [(0, .ref 0), (1, .int x1), (2, .int x2)], [], h)) rfl).trans (z_ite ?_ ?_)
    · refine (z_X_steps (s' := (21, [(0, .ref 0), (1, .int x1), (2, .int x2)], [.int 1, .int (h.1 17 1)], h)) 4 rfl).trans ?_
      refine (z_X_br (c := (1 : Int32) ≤ h.1 17 1) (s1 := (27, [(0, .ref 0), (1, .int x1), (2, .int x2)], [], h)) (s2 := (24, [(0, .ref 0), (1, .int x1), (2, .int x2)], [], h)) rfl).trans (z_ite ?_ ?_)
      · refine (z_X_steps (s' := (32, [(4, .int x1), (3, .int 0), (0, .ref 0), (1, .int x1), (2, .int x2)], [], h)) 4 rfl).trans ?_
        exact z_X_lab rfl
      · refine (z_X_steps (s' := (26, [(0, .ref 0), (1, .int x1), (2, .int x2)], [.int (-2)], h)) 1 rfl).trans ?_
        exact z_X_ret rfl
    · refine (z_X_steps (s' := (12, [(0, .ref 0), (1, .int x1), (2, .int x2)], [.int (-1)], h)) 1 rfl).trans ?_
      exact z_X_ret rfl
set_option maxRecDepth 8000 in
set_option maxHeartbeats 2000000 in
theorem e_X_draw_32 (x2 : Int32) (x3 : Int32) (x4 : Int32) (h : z_H) : zl_X_draw_32 x2 x3 x4 h = (if x2 ≤ x3 then some (x3, h) else z_bd (z_M 91 [.ref 33] h) (fun r1 h2 => (if ¬ r1 = 0 then some (x3, h2) else (bif (!decide (h2.1 17 1 = 0)) then z_bd (z_M 93 [.ref 33, .int ((((((x4 * 1103515245) + 12345).toUInt32 >>> ((16 : Int32).toUInt32 &&& Int32.toUInt32 31)).toInt32) &&& 32767) - (((((x4 * 1103515245) + 12345).toUInt32 >>> ((16 : Int32).toUInt32 &&& Int32.toUInt32 31)).toInt32) &&& 32767) / (h2.1 17 1) * (h2.1 17 1)), .int (((((((x4 * 1103515245) + 12345).toUInt32 >>> ((16 : Int32).toUInt32 &&& Int32.toUInt32 31)).toInt32) &&& 32767) / 4) - ((((((x4 * 1103515245) + 12345).toUInt32 >>> ((16 : Int32).toUInt32 &&& Int32.toUInt32 31)).toInt32) &&& 32767) / 4) / 256 * 256), .int ((((((((x4 * 1103515245) + 12345).toUInt32 >>> ((16 : Int32).toUInt32 &&& Int32.toUInt32 31)).toInt32) &&& 32767) / 1024) - ((((((x4 * 1103515245) + 12345).toUInt32 >>> ((16 : Int32).toUInt32 &&& Int32.toUInt32 31)).toInt32) &&& 32767) / 1024) / 9 * 9) + 1)] h2) (fun r3 h4 => zl_X_draw_32 x2 (x3 + 1) ((x4 * 1103515245) + 12345) h4) else none)))) := by
  show z_X zc_X_draw 3 (32, [(0, .ref 0), (2, .int x2), (3, .int x3), (4, .int x4)], [], h) = _
  refine (z_X_steps (s' := (34, [(0, .ref 0), (2, .int x2), (3, .int x3), (4, .int x4)], [.int x2, .int x3], h)) 2 rfl).trans ?_
  refine (z_X_br (c := x2 ≤ x3) (s1 := (112, [(0, .ref 0), (2, .int x2), (3, .int x3), (4, .int x4)], [], h)) (s2 := (37, [(0, .ref 0), (2, .int x2), (3, .int x3), (4, .int x4)], [], h)) rfl).trans (z_ite ?_ ?_)
  · refine (z_X_steps (s' := (113, [(0, .ref 0), (2, .int x2), (3, .int x3), (4, .int x4)], [.int x3], h)) 1 rfl).trans ?_
    exact z_X_ret rfl
  · refine (z_X_steps (s' := (41, [(0, .ref 0), (2, .int x2), (3, .int x3), (4, .int x4)], [.ref 33], h)) 2 rfl).trans ?_
    refine (z_X_call (id := 91) (a := [.ref 33]) (c := 1) (s' := (44, [(0, .ref 0), (2, .int x2), (3, .int x3), (4, .int x4)], [], h)) rfl ⟨Nat.le_of_ble_eq_true rfl, Nat.le_of_ble_eq_true rfl⟩).trans ?_
    refine z_bdc fun r1 h2 => ?_
    refine (z_X_br (c := ¬ r1 = 0) (s1 := (112, [(0, .ref 0), (2, .int x2), (3, .int x3), (4, .int x4)], [], h2)) (s2 := (47, [(0, .ref 0), (2, .int x2), (3, .int x3), (4, .int x4)], [], h2)) rfl).trans (z_ite ?_ ?_)
    · refine (z_X_steps (s' := (113, [(0, .ref 0), (2, .int x2), (3, .int x3), (4, .int x4)], [.int x3], h2)) 1 rfl).trans ?_
      exact z_X_ret rfl
    · refine (z_X_steps (s' := (83, [(5, .int (((((x4 * 1103515245) + 12345).toUInt32 >>> ((16 : Int32).toUInt32 &&& Int32.toUInt32 31)).toInt32) &&& 32767)), (4, .int ((x4 * 1103515245) + 12345)), (0, .ref 0), (2, .int x2), (3, .int x3)], [.int (h2.1 17 1), .int (((((x4 * 1103515245) + 12345).toUInt32 >>> ((16 : Int32).toUInt32 &&& Int32.toUInt32 31)).toInt32) &&& 32767), .ref 33], h2)) 18 rfl).trans ?_
      refine (z_X_if (g := (!decide (h2.1 17 1 = 0))) (s' := (84, [(5, .int (((((x4 * 1103515245) + 12345).toUInt32 >>> ((16 : Int32).toUInt32 &&& Int32.toUInt32 31)).toInt32) &&& 32767)), (4, .int ((x4 * 1103515245) + 12345)), (0, .ref 0), (2, .int x2), (3, .int x3)], [.int ((((((x4 * 1103515245) + 12345).toUInt32 >>> ((16 : Int32).toUInt32 &&& Int32.toUInt32 31)).toInt32) &&& 32767) - (((((x4 * 1103515245) + 12345).toUInt32 >>> ((16 : Int32).toUInt32 &&& Int32.toUInt32 31)).toInt32) &&& 32767) / (h2.1 17 1) * (h2.1 17 1)), .ref 33], h2)) rfl).trans (z_bifA ?_)
      refine (z_X_steps (s' := (103, [(5, .int (((((x4 * 1103515245) + 12345).toUInt32 >>> ((16 : Int32).toUInt32 &&& Int32.toUInt32 31)).toInt32) &&& 32767)), (4, .int ((x4 * 1103515245) + 12345)), (0, .ref 0), (2, .int x2), (3, .int x3)], [.int ((((((((x4 * 1103515245) + 12345).toUInt32 >>> ((16 : Int32).toUInt32 &&& Int32.toUInt32 31)).toInt32) &&& 32767) / 1024) - ((((((x4 * 1103515245) + 12345).toUInt32 >>> ((16 : Int32).toUInt32 &&& Int32.toUInt32 31)).toInt32) &&& 32767) / 1024) / 9 * 9) + 1), .int (((((((x4 * 1103515245) + 12345).toUInt32 >>> ((16 : Int32).toUInt32 &&& Int32.toUInt32 31)).toInt32) &&& 32767) / 4) - ((((((x4 * 1103515245) + 12345).toUInt32 >>> ((16 : Int32).toUInt32 &&& Int32.toUInt32 31)).toInt32) &&& 32767) / 4) / 256 * 256), .int ((((((x4 * 1103515245) + 12345).toUInt32 >>> ((16 : Int32).toUInt32 &&& Int32.toUInt32 31)).toInt32) &&& 32767) - (((((x4 * 1103515245) + 12345).toUInt32 >>> ((16 : Int32).toUInt32 &&& Int32.toUInt32 31)).toInt32) &&& 32767) / (h2.1 17 1) * (h2.1 17 1)), .ref 33], h2)) 12 rfl).trans ?_
      refine (z_X_call (id := 93) (a := [.ref 33, .int ((((((x4 * 1103515245) + 12345).toUInt32 >>> ((16 : Int32).toUInt32 &&& Int32.toUInt32 31)).toInt32) &&& 32767) - (((((x4 * 1103515245) + 12345).toUInt32 >>> ((16 : Int32).toUInt32 &&& Int32.toUInt32 31)).toInt32) &&& 32767) / (h2.1 17 1) * (h2.1 17 1)), .int (((((((x4 * 1103515245) + 12345).toUInt32 >>> ((16 : Int32).toUInt32 &&& Int32.toUInt32 31)).toInt32) &&& 32767) / 4) - ((((((x4 * 1103515245) + 12345).toUInt32 >>> ((16 : Int32).toUInt32 &&& Int32.toUInt32 31)).toInt32) &&& 32767) / 4) / 256 * 256), .int ((((((((x4 * 1103515245) + 12345).toUInt32 >>> ((16 : Int32).toUInt32 &&& Int32.toUInt32 31)).toInt32) &&& 32767) / 1024) - ((((((x4 * 1103515245) + 12345).toUInt32 >>> ((16 : Int32).toUInt32 &&& Int32.toUInt32 31)).toInt32) &&& 32767) / 1024) / 9 * 9) + 1)]) (c := 0) (s' := (106, [(5, .int (((((x4 * 1103515245) + 12345).toUInt32 >>> ((16 : Int32).toUInt32 &&& Int32.toUInt32 31)).toInt32) &&& 32767)), (4, .int ((x4 * 1103515245) + 12345)), (0, .ref 0), (2, .int x2), (3, .int x3)], [], h2)) rfl ⟨Nat.le_of_ble_eq_true rfl, Nat.le_of_ble_eq_true rfl⟩).trans ?_
      refine z_bdc fun r3 h4 => ?_
      refine (z_X_steps (s' := (32, [(3, .int (x3 + 1)), (5, .int (((((x4 * 1103515245) + 12345).toUInt32 >>> ((16 : Int32).toUInt32 &&& Int32.toUInt32 31)).toInt32) &&& 32767)), (4, .int ((x4 * 1103515245) + 12345)), (0, .ref 0), (2, .int x2)], [], h4)) 2 rfl).trans ?_
      exact z_X_lab rfl
noncomputable def zl_X_keep_26 (x1 : Int32) (s0 : Int32) (h : z_H) : Option z_A := z_X zc_X_keep 3 (26, [(0, .ref 0), (1, .int x1)], [.int s0], h)
set_option maxRecDepth 8000 in
set_option maxHeartbeats 2000000 in
theorem e_X_keep (x1 : Int32) (h : z_H) : z_M 22 [.ref 0, .int x1] h = z_bd (z_M 39 [.int x1] h) (fun r1 h2 => (if ¬ r1 = 0 then (bif z_in x1 2 then (if h2.1 (72 + 21 * x1.toNatClampNeg) 0 = 0 then zl_X_keep_26 x1 0 h2 else zl_X_keep_26 x1 1 h2) else none) else some ((-1), h2))) := by
  refine (z_M_eq (by decide)).trans ?_
  show z_X zc_X_keep 3 (0, [(0, .ref 0), (1, .int x1)], [], h) = _
  refine (z_X_steps (s' := (1, [(0, .ref 0), (1, .int x1)], [.int x1], h)) 1 rfl).trans ?_
  refine (z_X_call (id := 39) (a := [.int x1]) (c := 1) (s' := (4, [(0, .ref 0), (1, .int x1)], [], h)) rfl ⟨Nat.le_of_ble_eq_true rfl, Nat.le_of_ble_eq_true rfl⟩).trans ?_
  refine z_bdc fun r1 h2 => ?_
  refine (z_X_br (c := ¬ r1 = 0) (s1 := (9, [(0, .ref 0), (1, .int x1)], [], h2)) (s2 := (7, [(0, .ref 0), (1, .int x1)], [], h2)) rfl).trans (z_ite ?_ ?_)
  · refine (z_X_steps (s' := (14, [(0, .ref 0), (1, .int x1)], [.int x1, .ref 70], h2)) 3 rfl).trans ?_
    refine (z_X_if (g := z_in x1 2) (s' := (15, [(0, .ref 0), (1, .int x1)], [.ref (72 + 21 * x1.toNatClampNeg)], h2)) rfl).trans (z_bifE2 ?_)
    refine ⟨fun e => ?_, fun e => ?_⟩
    · subst e
      refine (z_X_steps (s' := (18, [(0, .ref 0), (1, .int (nI 0))], [.int (h2.1 (72 + 21 * (nI 0).toNatClampNeg) 0)], h2)) 1 rfl).trans ?_
      refine (z_X_br (c := h2.1 (72 + 21 * (nI 0).toNatClampNeg) 0 = 0) (s1 := (25, [(0, .ref 0), (1, .int (nI 0))], [], h2)) (s2 := (21, [(0, .ref 0), (1, .int (nI 0))], [], h2)) rfl).trans (z_ite ?_ ?_)
      · refine (z_X_steps (s' := (26, [(0, .ref 0), (1, .int (nI 0))], [.int 0], h2)) 1 rfl).trans ?_
        exact z_X_lab rfl
      · refine (z_X_steps (s' := (26, [(0, .ref 0), (1, .int (nI 0))], [.int 1], h2)) 2 rfl).trans ?_
        exact z_X_lab rfl
    · subst e
      refine (z_X_steps (s' := (18, [(0, .ref 0), (1, .int (nI 1))], [.int (h2.1 (72 + 21 * (nI 1).toNatClampNeg) 0)], h2)) 1 rfl).trans ?_
      refine (z_X_br (c := h2.1 (72 + 21 * (nI 1).toNatClampNeg) 0 = 0) (s1 := (25, [(0, .ref 0), (1, .int (nI 1))], [], h2)) (s2 := (21, [(0, .ref 0), (1, .int (nI 1))], [], h2)) rfl).trans (z_ite ?_ ?_)
      · refine (z_X_steps (s' := (26, [(0, .ref 0), (1, .int (nI 1))], [.int 0], h2)) 1 rfl).trans ?_
        exact z_X_lab rfl
      · refine (z_X_steps (s' := (26, [(0, .ref 0), (1, .int (nI 1))], [.int 1], h2)) 2 rfl).trans ?_
        exact z_X_lab rfl
  · refine (z_X_steps (s' := (8, [(0, .ref 0), (1, .int x1)], [.int (-1)], h2)) 1 rfl).trans ?_
    exact z_X_ret rfl
set_option maxRecDepth 8000 in
set_option maxHeartbeats 2000000 in
theorem e_X_keep_26 (x1 : Int32) (s0 : Int32) (h : z_H) : zl_X_keep_26 x1 s0 h = (bif z_in x1 2 then (bif z_in x1 2 then z_bd (z_M 69 [.ref ((72 + 21 * x1.toNatClampNeg) + 1), .ref 17] (z_wI h (72 + 21 * x1.toNatClampNeg) 0 1)) (fun r1 h2 => (bif z_in x1 2 then z_bd (z_M 69 [.ref ((72 + 21 * x1.toNatClampNeg) + 9), .ref 25] h2) (fun r3 h4 => (bif z_in x1 2 then z_bd (z_M 92 [.ref ((72 + 21 * x1.toNatClampNeg) + 17), .ref 33] h4) (fun r5 h6 => some (s0, h6)) else none)) else none)) else none) else none) := by
  show z_X zc_X_keep 3 (26, [(0, .ref 0), (1, .int x1)], [.int s0], h) = _
  refine (z_X_steps (s' := (32, [(2, .int s0), (0, .ref 0), (1, .int x1)], [.int x1, .ref 70], h)) 4 rfl).trans ?_
  refine (z_X_if (g := z_in x1 2) (s' := (33, [(2, .int s0), (0, .ref 0), (1, .int x1)], [.ref (72 + 21 * x1.toNatClampNeg)], h)) rfl).trans (z_bifE2 ?_)
  refine ⟨fun e => ?_, fun e => ?_⟩
  · subst e
    refine (z_X_steps (s' := (42, [(2, .int s0), (0, .ref 0), (1, .int (nI 0))], [.int (nI 0), .ref 70], (z_wI h (72 + 21 * (nI 0).toNatClampNeg) 0 1))) 5 rfl).trans ?_
    refine (z_X_if (g := z_in (nI 0) 2) (s' := (43, [(2, .int s0), (0, .ref 0), (1, .int (nI 0))], [.ref (72 + 21 * (nI 0).toNatClampNeg)], (z_wI h (72 + 21 * (nI 0).toNatClampNeg) 0 1))) rfl).trans (z_bifA ?_)
    refine (z_X_steps (s' := (50, [(2, .int s0), (0, .ref 0), (1, .int (nI 0))], [.ref 17, .ref ((72 + 21 * (nI 0).toNatClampNeg) + 1)], (z_wI h (72 + 21 * (nI 0).toNatClampNeg) 0 1))) 3 rfl).trans ?_
    refine (z_X_call (id := 69) (a := [.ref ((72 + 21 * (nI 0).toNatClampNeg) + 1), .ref 17]) (c := 0) (s' := (53, [(2, .int s0), (0, .ref 0), (1, .int (nI 0))], [], (z_wI h (72 + 21 * (nI 0).toNatClampNeg) 0 1))) rfl ⟨Nat.le_of_ble_eq_true rfl, Nat.le_of_ble_eq_true rfl⟩).trans ?_
    refine z_bdc fun r1 h2 => ?_
    refine (z_X_steps (s' := (58, [(2, .int s0), (0, .ref 0), (1, .int (nI 0))], [.int (nI 0), .ref 70], h2)) 3 rfl).trans ?_
    refine (z_X_if (g := z_in (nI 0) 2) (s' := (59, [(2, .int s0), (0, .ref 0), (1, .int (nI 0))], [.ref (72 + 21 * (nI 0).toNatClampNeg)], h2)) rfl).trans (z_bifA ?_)
    refine (z_X_steps (s' := (66, [(2, .int s0), (0, .ref 0), (1, .int (nI 0))], [.ref 25, .ref ((72 + 21 * (nI 0).toNatClampNeg) + 9)], h2)) 3 rfl).trans ?_
    refine (z_X_call (id := 69) (a := [.ref ((72 + 21 * (nI 0).toNatClampNeg) + 9), .ref 25]) (c := 0) (s' := (69, [(2, .int s0), (0, .ref 0), (1, .int (nI 0))], [], h2)) rfl ⟨Nat.le_of_ble_eq_true rfl, Nat.le_of_ble_eq_true rfl⟩).trans ?_
    refine z_bdc fun r3 h4 => ?_
    refine (z_X_steps (s' := (74, [(2, .int s0), (0, .ref 0), (1, .int (nI 0))], [.int (nI 0), .ref 70], h4)) 3 rfl).trans ?_
    refine (z_X_if (g := z_in (nI 0) 2) (s' := (75, [(2, .int s0), (0, .ref 0), (1, .int (nI 0))], [.ref (72 + 21 * (nI 0).toNatClampNeg)], h4)) rfl).trans (z_bifA ?_)
    refine (z_X_steps (s' := (82, [(2, .int s0), (0, .ref 0), (1, .int (nI 0))], [.ref 33, .ref ((72 + 21 * (nI 0).toNatClampNeg) + 17)], h4)) 3 rfl).trans ?_
    refine (z_X_call (id := 92) (a := [.ref ((72 + 21 * (nI 0).toNatClampNeg) + 17), .ref 33]) (c := 0) (s' := (85, [(2, .int s0), (0, .ref 0), (1, .int (nI 0))], [], h4)) rfl ⟨Nat.le_of_ble_eq_true rfl, Nat.le_of_ble_eq_true rfl⟩).trans ?_
    refine z_bdc fun r5 h6 => ?_
    refine (z_X_steps (s' := (86, [(2, .int s0), (0, .ref 0), (1, .int (nI 0))], [.int s0], h6)) 1 rfl).trans ?_
    exact z_X_ret rfl
  · subst e
    refine (z_X_steps (s' := (42, [(2, .int s0), (0, .ref 0), (1, .int (nI 1))], [.int (nI 1), .ref 70], (z_wI h (72 + 21 * (nI 1).toNatClampNeg) 0 1))) 5 rfl).trans ?_
    refine (z_X_if (g := z_in (nI 1) 2) (s' := (43, [(2, .int s0), (0, .ref 0), (1, .int (nI 1))], [.ref (72 + 21 * (nI 1).toNatClampNeg)], (z_wI h (72 + 21 * (nI 1).toNatClampNeg) 0 1))) rfl).trans (z_bifA ?_)
    refine (z_X_steps (s' := (50, [(2, .int s0), (0, .ref 0), (1, .int (nI 1))], [.ref 17, .ref ((72 + 21 * (nI 1).toNatClampNeg) + 1)], (z_wI h (72 + 21 * (nI 1).toNatClampNeg) 0 1))) 3 rfl).trans ?_
    refine (z_X_call (id := 69) (a := [.ref ((72 + 21 * (nI 1).toNatClampNeg) + 1), .ref 17]) (c := 0) (s' := (53, [(2, .int s0), (0, .ref 0), (1, .int (nI 1))], [], (z_wI h (72 + 21 * (nI 1).toNatClampNeg) 0 1))) rfl ⟨Nat.le_of_ble_eq_true rfl, Nat.le_of_ble_eq_true rfl⟩).trans ?_
    refine z_bdc fun r1 h2 => ?_
    refine (z_X_steps (s' := (58, [(2, .int s0), (0, .ref 0), (1, .int (nI 1))], [.int (nI 1), .ref 70], h2)) 3 rfl).trans ?_
    refine (z_X_if (g := z_in (nI 1) 2) (s' := (59, [(2, .int s0), (0, .ref 0), (1, .int (nI 1))], [.ref (72 + 21 * (nI 1).toNatClampNeg)], h2)) rfl).trans (z_bifA ?_)
    refine (z_X_steps (s' := (66, [(2, .int s0), (0, .ref 0), (1, .int (nI 1))], [.ref 25, .ref ((72 + 21 * (nI 1).toNatClampNeg) + 9)], h2)) 3 rfl).trans ?_
    refine (z_X_call (id := 69) (a := [.ref ((72 + 21 * (nI 1).toNatClampNeg) + 9), .ref 25]) (c := 0) (s' := (69, [(2, .int s0), (0, .ref 0), (1, .int (nI 1))], [], h2)) rfl ⟨Nat.le_of_ble_eq_true rfl, Nat.le_of_ble_eq_true rfl⟩).trans ?_
    refine z_bdc fun r3 h4 => ?_
    refine (z_X_steps (s' := (74, [(2, .int s0), (0, .ref 0), (1, .int (nI 1))], [.int (nI 1), .ref 70], h4)) 3 rfl).trans ?_
    refine (z_X_if (g := z_in (nI 1) 2) (s' := (75, [(2, .int s0), (0, .ref 0), (1, .int (nI 1))], [.ref (72 + 21 * (nI 1).toNatClampNeg)], h4)) rfl).trans (z_bifA ?_)
    refine (z_X_steps (s' := (82, [(2, .int s0), (0, .ref 0), (1, .int (nI 1))], [.ref 33, .ref ((72 + 21 * (nI 1).toNatClampNeg) + 17)], h4)) 3 rfl).trans ?_
    refine (z_X_call (id := 92) (a := [.ref ((72 + 21 * (nI 1).toNatClampNeg) + 17), .ref 33]) (c := 0) (s' := (85, [(2, .int s0), (0, .ref 0), (1, .int (nI 1))], [], h4)) rfl ⟨Nat.le_of_ble_eq_true rfl, Nat.le_of_ble_eq_true rfl⟩).trans ?_
    refine z_bdc fun r5 h6 => ?_
    refine (z_X_steps (s' := (86, [(2, .int s0), (0, .ref 0), (1, .int (nI 1))], [.int s0], h6)) 1 rfl).trans ?_
    exact z_X_ret rfl
set_option maxRecDepth 8000 in
set_option maxHeartbeats 2000000 in
theorem e_X_back (x1 : Int32) (h : z_H) : z_M 23 [.ref 0, .int x1] h = z_bd (z_M 39 [.int x1] h) (fun r1 h2 => (if ¬ r1 = 0 then (bif z_in x1 2 then (if ¬ h2.1 (72 + 21 * x1.toNatClampNeg) 0 = 0 then (bif z_in x1 2 then z_bd (z_M 69 [.ref 17, .ref ((72 + 21 * x1.toNatClampNeg) + 1)] h2) (fun r3 h4 => (bif z_in x1 2 then z_bd (z_M 69 [.ref 25, .ref ((72 + 21 * x1.toNatClampNeg) + 9)] h4) (fun r5 h6 => (bif z_in x1 2 then z_bd (z_M 92 [.ref 33, .ref ((72 + 21 * x1.toNatClampNeg) + 17)] h6) (fun r7 h8 => some (h8.1 33 0, h8)) else none)) else none)) else none) else some ((-2), h2)) else none) else some ((-1), h2))) := by
  refine (z_M_eq (by decide)).trans ?_
  show z_X zc_X_back 3 (0, [(0, .ref 0), (1, .int x1)], [], h) = _
  refine (z_X_steps (s' := (1, [(0, .ref 0), (1, .int x1)], [.int x1], h)) 1 rfl).trans ?_
  refine (z_X_call (id := 39) (a := [.int x1]) (c := 1) (s' := (4, [(0, .ref 0), (1, .int x1)], [], h)) rfl ⟨Nat.le_of_ble_eq_true rfl, Nat.le_of_ble_eq_true rfl⟩).trans ?_
  refine z_bdc fun r1 h2 => ?_
  refine (z_X_br (c := ¬ r1 = 0) (s1 := (9, [(0, .ref 0), (1, .int x1)], [], h2)) (s2 := (7, [(0, .ref 0), (1, .int x1)], [], h2)) rfl).trans (z_ite ?_ ?_)
  · refine (z_X_steps (s' := (14, [(0, .ref 0), (1, .int x1)], [.int x1, .ref 70], h2)) 3 rfl).trans ?_
    refine (z_X_if (g := z_in x1 2) (s' := (15, [(0, .ref 0), (1, .int x1)], [.ref (72 + 21 * x1.toNatClampNeg)], h2)) rfl).trans (z_bifE2 ?_)
    refine ⟨fun e => ?_, fun e => ?_⟩
    · subst e
      refine (z_X_steps (s' := (18, [(0, .ref 0), (1, .int (nI 0))], [.int (h2.1 (72 + 21 * (nI 0).toNatClampNeg) 0)], h2)) 1 rfl).trans ?_
      refine (z_X_br (c := ¬ h2.1 (72 + 21 * (nI 0).toNatClampNeg) 0 = 0) (s1 := (24, [(0, .ref 0), (1, .int (nI 0))], [], h2)) (s2 := (21, [(0, .ref 0), (1, .int (nI 0))], [], h2)) rfl).trans (z_ite ?_ ?_)
      · refine (z_X_steps (s' := (33, [(0, .ref 0), (1, .int (nI 0))], [.int (nI 0), .ref 70, .ref 17], h2)) 5 rfl).trans ?_
        refine (z_X_if (g := z_in (nI 0) 2) (s' := (34, [(0, .ref 0), (1, .int (nI 0))], [.ref (72 + 21 * (nI 0).toNatClampNeg), .ref 17], h2)) rfl).trans (z_bifA ?_)
        refine (z_X_steps (s' := (37, [(0, .ref 0), (1, .int (nI 0))], [.ref ((72 + 21 * (nI 0).toNatClampNeg) + 1), .ref 17], h2)) 1 rfl).trans ?_
        refine (z_X_call (id := 69) (a := [.ref 17, .ref ((72 + 21 * (nI 0).toNatClampNeg) + 1)]) (c := 0) (s' := (40, [(0, .ref 0), (1, .int (nI 0))], [], h2)) rfl ⟨Nat.le_of_ble_eq_true rfl, Nat.le_of_ble_eq_true rfl⟩).trans ?_
        refine z_bdc fun r3 h4 => ?_
        refine (z_X_steps (s' := (49, [(0, .ref 0), (1, .int (nI 0))], [.int (nI 0), .ref 70, .ref 25], h4)) 5 rfl).trans ?_
        refine (z_X_if (g := z_in (nI 0) 2) (s' := (50, [(0, .ref 0), (1, .int (nI 0))], [.ref (72 + 21 * (nI 0).toNatClampNeg), .ref 25], h4)) rfl).trans (z_bifA ?_)
        refine (z_X_steps (s' := (53, [(0, .ref 0), (1, .int (nI 0))], [.ref ((72 + 21 * (nI 0).toNatClampNeg) + 9), .ref 25], h4)) 1 rfl).trans ?_
        refine (z_X_call (id := 69) (a := [.ref 25, .ref ((72 + 21 * (nI 0).toNatClampNeg) + 9)]) (c := 0) (s' := (56, [(0, .ref 0), (1, .int (nI 0))], [], h4)) rfl ⟨Nat.le_of_ble_eq_true rfl, Nat.le_of_ble_eq_true rfl⟩).trans ?_
        refine z_bdc fun r5 h6 => ?_
        refine (z_X_steps (s' := (65, [(0, .ref 0), (1, .int (nI 0))], [.int (nI 0), .ref 70, .ref 33], h6)) 5 rfl).trans ?_
        refine (z_X_if (g := z_in (nI 0) 2) (s' := (66, [(0, .ref 0), (1, .int (nI 0))], [.ref (72 + 21 * (nI 0).toNatClampNeg), .ref 33], h6)) rfl).trans (z_bifA ?_)
        refine (z_X_steps (s' := (69, [(0, .ref 0), (1, .int (nI 0))], [.ref ((72 + 21 * (nI 0).toNatClampNeg) + 17), .ref 33], h6)) 1 rfl).trans ?_
        refine (z_X_call (id := 92) (a := [.ref 33, .ref ((72 + 21 * (nI 0).toNatClampNeg) + 17)]) (c := 0) (s' := (72, [(0, .ref 0), (1, .int (nI 0))], [], h6)) rfl ⟨Nat.le_of_ble_eq_true rfl, Nat.le_of_ble_eq_true rfl⟩).trans ?_
        refine z_bdc fun r7 h8 => ?_
        refine (z_X_steps (s' := (79, [(0, .ref 0), (1, .int (nI 0))], [.int (h8.1 33 0)], h8)) 3 rfl).trans ?_
        exact z_X_ret rfl
      · refine (z_X_steps (s' := (23, [(0, .ref 0), (1, .int (nI 0))], [.int (-2)], h2)) 1 rfl).trans ?_
        exact z_X_ret rfl
    · subst e
      refine (z_X_steps (s' := (18, [(0, .ref 0), (1, .int (nI 1))], [.int (h2.1 (72 + 21 * (nI 1).toNatClampNeg) 0)], h2)) 1 rfl).trans ?_
      refine (z_X_br (c := ¬ h2.1 (72 + 21 * (nI 1).toNatClampNeg) 0 = 0) (s1 := (24, [(0, .ref 0), (1, .int (nI 1))], [], h2)) (s2 := (21, [(0, .ref 0), (1, .int (nI 1))], [], h2)) rfl).trans (z_ite ?_ ?_)
      · refine (z_X_steps (s' := (33, [(0, .ref 0), (1, .int (nI 1))], [.int (nI 1), .ref 70, .ref 17], h2)) 5 rfl).trans ?_
        refine (z_X_if (g := z_in (nI 1) 2) (s' := (34, [(0, .ref 0), (1, .int (nI 1))], [.ref (72 + 21 * (nI 1).toNatClampNeg), .ref 17], h2)) rfl).trans (z_bifA ?_)
        refine (z_X_steps (s' := (37, [(0, .ref 0), (1, .int (nI 1))], [.ref ((72 + 21 * (nI 1).toNatClampNeg) + 1), .ref 17], h2)) 1 rfl).trans ?_
        refine (z_X_call (id := 69) (a := [.ref 17, .ref ((72 + 21 * (nI 1).toNatClampNeg) + 1)]) (c := 0) (s' := (40, [(0, .ref 0), (1, .int (nI 1))], [], h2)) rfl ⟨Nat.le_of_ble_eq_true rfl, Nat.le_of_ble_eq_true rfl⟩).trans ?_
        refine z_bdc fun r3 h4 => ?_
        refine (z_X_steps (s' := (49, [(0, .ref 0), (1, .int (nI 1))], [.int (nI 1), .ref 70, .ref 25], h4)) 5 rfl).trans ?_
        refine (z_X_if (g := z_in (nI 1) 2) (s' := (50, [(0, .ref 0), (1, .int (nI 1))], [.ref (72 + 21 * (nI 1).toNatClampNeg), .ref 25], h4)) rfl).trans (z_bifA ?_)
        refine (z_X_steps (s' := (53, [(0, .ref 0), (1, .int (nI 1))], [.ref ((72 + 21 * (nI 1).toNatClampNeg) + 9), .ref 25], h4)) 1 rfl).trans ?_
        refine (z_X_call (id := 69) (a := [.ref 25, .ref ((72 + 21 * (nI 1).toNatClampNeg) + 9)]) (c := 0) (s' := (56, [(0, .ref 0), (1, .int (nI 1))], [], h4)) rfl ⟨Nat.le_of_ble_eq_true rfl, Nat.le_of_ble_eq_true rfl⟩).trans ?_
        refine z_bdc fun r5 h6 => ?_
        refine (z_X_steps (s' := (65, [(0, .ref 0), (1, .int (nI 1))], [.int (nI 1), .ref 70, .ref 33], h6)) 5 rfl).trans ?_
        refine (z_X_if (g := z_in (nI 1) 2) (s' := (66, [(0, .ref 0), (1, .int (nI 1))], [.ref (72 + 21 * (nI 1).toNatClampNeg), .ref 33], h6)) rfl).trans (z_bifA ?_)
        refine (z_X_steps (s' := (69, [(0, .ref 0), (1, .int (nI 1))], [.ref ((72 + 21 * (nI 1).toNatClampNeg) + 17), .ref 33], h6)) 1 rfl).trans ?_
        refine (z_X_call (id := 92) (a := [.ref 33, .ref ((72 + 21 * (nI 1).toNatClampNeg) + 17)]) (c := 0) (s' := (72, [(0, .ref 0), (1, .int (nI 1))], [], h6)) rfl ⟨Nat.le_of_ble_eq_true rfl, Nat.le_of_ble_eq_true rfl⟩).trans ?_
        refine z_bdc fun r7 h8 => ?_
        refine (z_X_steps (s' := (79, [(0, .ref 0), (1, .int (nI 1))], [.int (h8.1 33 0)], h8)) 3 rfl).trans ?_
        exact z_X_ret rfl
      · refine (z_X_steps (s' := (23, [(0, .ref 0), (1, .int (nI 1))], [.int (-2)], h2)) 1 rfl).trans ?_
        exact z_X_ret rfl
  · refine (z_X_steps (s' := (8, [(0, .ref 0), (1, .int x1)], [.int (-1)], h2)) 1 rfl).trans ?_
    exact z_X_ret rfl
set_option maxRecDepth 8000 in
set_option maxHeartbeats 2000000 in
theorem e_X_sheet (x1 : Int32) (x2 : Int32) (x3 : Int32) (h : z_H) : z_M 24 [.ref 0, .int x1, .int x2, .int x3] h = z_bd (z_M 40 [.int x1] h) (fun r1 h2 => (if r1 = 0 then some ((-1), h2) else z_bd (z_M 41 [.int x2] h2) (fun r3 h4 => (if r3 = 0 then some ((-1), h4) else (if x3 ≤ 40 then (if (0 : Int32) ≤ x3 then (bif z_in x1 4 then z_bd (z_M 122 [.ref (114 + 2 * x1.toNatClampNeg), .int x2, .int x3] h4) (fun r5 h6 => some (1, h6)) else none) else some ((-14), h4)) else some ((-1), h4)))))) := by
  refine (z_M_eq (by decide)).trans ?_
  show z_X zc_X_sheet 4 (0, [(0, .ref 0), (1, .int x1), (2, .int x2), (3, .int x3)], [], h) = _
  refine (z_X_steps (s' := (1, [(0, .ref 0), (1, .int x1), (2, .int x2), (3, .int x3)], [.int x1], h)) 1 rfl).trans ?_
  refine (z_X_call (id := 40) (a := [.int x1]) (c := 1) (s' := (4, [(0, .ref 0), (1, .int x1), (2, .int x2), (3, .int x3)], [], h)) rfl ⟨Nat.le_of_ble_eq_true rfl, Nat.le_of_ble_eq_true rfl⟩).trans ?_
  refine z_bdc fun r1 h2 => ?_
  refine (z_X_br (c := r1 = 0) (s1 := (20, [(0, .ref 0), (1, .int x1), (2, .int x2), (3, .int x3)], [], h2)) (s2 := (7, [(0, .ref 0), (1, .int x1), (2, .int x2), (3, .int x3)], [], h2)) rfl).trans (z_ite ?_ ?_)
  · refine (z_X_steps (s' := (21, [(0, .ref 0), (1, .int x1), (2, .int x2), (3, .int x3)], [.int (-1)], h2)) 1 rfl).trans ?_
    exact z_X_ret rfl
  · refine (z_X_steps (s' := (8, [(0, .ref 0), (1, .int x1), (2, .int x2), (3, .int x3)], [.int x2], h2)) 1 rfl).trans ?_
    refine (z_X_call (id := 41) (a := [.int x2]) (c := 1) (s' := (11, [(0, .ref 0), (1, .int x1), (2, .int x2), (3, .int x3)], [], h2)) rfl ⟨Nat.le_of_ble_eq_true rfl, Nat.le_of_ble_eq_true rfl⟩).trans ?_
    refine z_bdc fun r3 h4 => ?_
    refine (z_X_br (c := r3 = 0) (s1 := (20, [(0, .ref 0), (1, .int x1), (2, .int x2), (3, .int x3)], [], h4)) (s2 := (14, [(0, .ref 0), (1, .int x1), (2, .int x2), (3, .int x3)], [], h4)) rfl).trans (z_ite ?_ ?_)
    · refine (z_X_steps (s' := (21, [(0, .ref 0), (1, .int x1), (2, .int x2), (3, .int x3)], [.int (-1)], h4)) 1 rfl).trans ?_
      exact z_X_ret rfl
    · refine (z_X_steps (s' := (17, [(0, .ref 0), (1, .int x1), (2, .int x2), (3, .int x3)], [.int 40, .int x3], h4)) 2 rfl).trans ?_
      refine (z_X_br (c := x3 ≤ 40) (s1 := (22, [(0, .ref 0), (1, .int x1), (2, .int x2), (3, .int x3)], [], h4)) (s2 := (20, [(0, .ref 0), (1, .int x1), (2, .int x2), (3, .int x3)], [], h4)) rfl).trans (z_ite ?_ ?_)
      · refine (z_X_steps (s' := (23, [(0, .ref 0), (1, .int x1), (2, .int x2), (3, .int x3)], [.int x3], h4)) 1 rfl).trans ?_
        refine (z_X_br (c := (0 : Int32) ≤ x3) (s1 := (29, [(0, .ref 0), (1, .int x1), (2, .int x2), (3, .int x3)], [], h4)) (s2 := (26, [(0, .ref 0), (1, .int x1), (2, .int x2), (3, .int x3)], [], h4)) rfl).trans (z_ite ?_ ?_)
        · refine (z_X_steps (s' := (34, [(0, .ref 0), (1, .int x1), (2, .int x2), (3, .int x3)], [.int x1, .ref 71], h4)) 3 rfl).trans ?_
          refine (z_X_if (g := z_in x1 4) (s' := (35, [(0, .ref 0), (1, .int x1), (2, .int x2), (3, .int x3)], [.ref (114 + 2 * x1.toNatClampNeg)], h4)) rfl).trans (z_bifE4 ?_)
          refine ⟨fun e => ?_, fun e => ?_, fun e => ?_, fun e => ?_⟩
          · subst e
            refine (z_X_steps (s' := (37, [(0, .ref 0), (1, .int (nI 0)), (2, .int x2), (3, .int x3)], [.int x3, .int x2, .ref (114 + 2 * (nI 0).toNatClampNeg)], h4)) 2 rfl).trans ?_
            refine (z_X_call (id := 122) (a := [.ref (114 + 2 * (nI 0).toNatClampNeg), .int x2, .int x3]) (c := 0) (s' := (40, [(0, .ref 0), (1, .int (nI 0)), (2, .int x2), (3, .int x3)], [], h4)) rfl ⟨Nat.le_of_ble_eq_true rfl, Nat.le_of_ble_eq_true rfl⟩).trans ?_
            refine z_bdc fun r5 h6 => ?_
            refine (z_X_steps (s' := (41, [(0, .ref 0), (1, .int (nI 0)), (2, .int x2), (3, .int x3)], [.int 1], h6)) 1 rfl).trans ?_
            exact z_X_ret rfl
          · subst e
            refine (z_X_steps (s' := (37, [(0, .ref 0), (1, .int (nI 1)), (2, .int x2), (3, .int x3)], [.int x3, .int x2, .ref (114 + 2 * (nI 1).toNatClampNeg)], h4)) 2 rfl).trans ?_
            refine (z_X_call (id := 122) (a := [.ref (114 + 2 * (nI 1).toNatClampNeg), .int x2, .int x3]) (c := 0) (s' := (40, [(0, .ref 0), (1, .int (nI 1)), (2, .int x2), (3, .int x3)], [], h4)) rfl ⟨Nat.le_of_ble_eq_true rfl, Nat.le_of_ble_eq_true rfl⟩).trans ?_
            refine z_bdc fun r5 h6 => ?_
            refine (z_X_steps (s' := (41, [(0, .ref 0), (1, .int (nI 1)), (2, .int x2), (3, .int x3)], [.int 1], h6)) 1 rfl).trans ?_
            exact z_X_ret rfl
          · subst e
            refine (z_X_steps (s' := (37, [(0, .ref 0), (1, .int (nI 2)), (2, .int x2), (3, .int x3)], [.int x3, .int x2, .ref (114 + 2 * (nI 2).toNatClampNeg)], h4)) 2 rfl).trans ?_
            refine (z_X_call (id := 122) (a := [.ref (114 + 2 * (nI 2).toNatClampNeg), .int x2, .int x3]) (c := 0) (s' := (40, [(0, .ref 0), (1, .int (nI 2)), (2, .int x2), (3, .int x3)], [], h4)) rfl ⟨Nat.le_of_ble_eq_true rfl, Nat.le_of_ble_eq_true rfl⟩).trans ?_
            refine z_bdc fun r5 h6 => ?_
            refine (z_X_steps (s' := (41, [(0, .ref 0), (1, .int (nI 2)), (2, .int x2), (3, .int x3)], [.int 1], h6)) 1 rfl).trans ?_
            exact z_X_ret rfl
          · subst e
            refine (z_X_steps (s' := (37, [(0, .ref 0), (1, .int (nI 3)), (2, .int x2), (3, .int x3)], [.int x3, .int x2, .ref (114 + 2 * (nI 3).toNatClampNeg)], h4)) 2 rfl).trans ?_
            refine (z_X_call (id := 122) (a := [.ref (114 + 2 * (nI 3).toNatClampNeg), .int x2, .int x3]) (c := 0) (s' := (40, [(0, .ref 0), (1, .int (nI 3)), (2, .int x2), (3, .int x3)], [], h4)) rfl ⟨Nat.le_of_ble_eq_true rfl, Nat.le_of_ble_eq_true rfl⟩).trans ?_
            refine z_bdc fun r5 h6 => ?_
            refine (z_X_steps (s' := (41, [(0, .ref 0), (1, .int (nI 3)), (2, .int x2), (3, .int x3)], [.int 1], h6)) 1 rfl).trans ?_
            exact z_X_ret rfl
        · refine (z_X_steps (s' := (28, [(0, .ref 0), (1, .int x1), (2, .int x2), (3, .int x3)], [.int (-14)], h4)) 1 rfl).trans ?_
          exact z_X_ret rfl
      · refine (z_X_steps (s' := (21, [(0, .ref 0), (1, .int x1), (2, .int x2), (3, .int x3)], [.int (-1)], h4)) 1 rfl).trans ?_
        exact z_X_ret rfl
set_option maxRecDepth 8000 in
set_option maxHeartbeats 2000000 in
theorem e_X_lay (x1 : Int32) (x2 : Int32) (x3 : Int32) (h : z_H) : z_M 25 [.ref 0, .int x1, .int x2, .int x3] h = z_bd (z_M 40 [.int x1] h) (fun r1 h2 => (if ¬ r1 = 0 then (bif z_in x1 4 then (if ¬ h2.1 (114 + 2 * x1.toNatClampNeg) 0 = 0 then (if x2 < 0 then some ((-12), h2) else (bif z_in x1 4 then (if x2 < h2.1 (114 + 2 * x1.toNatClampNeg) 1 then (bif z_in x1 4 then z_bd (z_M 123 [.ref (114 + 2 * x1.toNatClampNeg), .int x2, .int x3] h2) (fun r3 h4 => some (1, h4)) else none) else some ((-12), h2)) else none)) else some ((-11), h2)) else none) else some ((-1), h2))) := by
  refine (z_M_eq (by decide)).trans ?_
  show z_X zc_X_lay 2 (0, [(0, .ref 0), (1, .int x1), (2, .int x2), (3, .int x3)], [], h) = _
  refine (z_X_steps (s' := (1, [(0, .ref 0), (1, .int x1), (2, .int x2), (3, .int x3)], [.int x1], h)) 1 rfl).trans ?_
  refine (z_X_call (id := 40) (a := [.int x1]) (c := 1) (s' := (4, [(0, .ref 0), (1, .int x1), (2, .int x2), (3, .int x3)], [], h)) rfl ⟨Nat.le_of_ble_eq_true rfl, Nat.le_of_ble_eq_true rfl⟩).trans ?_
  refine z_bdc fun r1 h2 => ?_
  refine (z_X_br (c := ¬ r1 = 0) (s1 := (9, [(0, .ref 0), (1, .int x1), (2, .int x2), (3, .int x3)], [], h2)) (s2 := (7, [(0, .ref 0), (1, .int x1), (2, .int x2), (3, .int x3)], [], h2)) rfl).trans (z_ite ?_ ?_)
  · refine (z_X_steps (s' := (14, [(0, .ref 0), (1, .int x1), (2, .int x2), (3, .int x3)], [.int x1, .ref 71], h2)) 3 rfl).trans ?_
    refine (z_X_if (g := z_in x1 4) (s' := (15, [(0, .ref 0), (1, .int x1), (2, .int x2), (3, .int x3)], [.ref (114 + 2 * x1.toNatClampNeg)], h2)) rfl).trans (z_bifE4 ?_)
    refine ⟨fun e => ?_, fun e => ?_, fun e => ?_, fun e => ?_⟩
    · subst e
      refine (z_X_steps (s' := (18, [(0, .ref 0), (1, .int (nI 0)), (2, .int x2), (3, .int x3)], [.int (h2.1 (114 + 2 * (nI 0).toNatClampNeg) 0)], h2)) 1 rfl).trans ?_
      refine (z_X_br (c := ¬ h2.1 (114 + 2 * (nI 0).toNatClampNeg) 0 = 0) (s1 := (24, [(0, .ref 0), (1, .int (nI 0)), (2, .int x2), (3, .int x3)], [], h2)) (s2 := (21, [(0, .ref 0), (1, .int (nI 0)), (2, .int x2), (3, .int x3)], [], h2)) rfl).trans (z_ite ?_ ?_)
      · refine (z_X_steps (s' := (25, [(0, .ref 0), (1, .int (nI 0)), (2, .int x2), (3, .int x3)], [.int x2], h2)) 1 rfl).trans ?_
        refine (z_X_br (c := x2 < 0) (s1 := (41, [(0, .ref 0), (1, .int (nI 0)), (2, .int x2), (3, .int x3)], [], h2)) (s2 := (28, [(0, .ref 0), (1, .int (nI 0)), (2, .int x2), (3, .int x3)], [], h2)) rfl).trans (z_ite ?_ ?_)
        · refine (z_X_steps (s' := (43, [(0, .ref 0), (1, .int (nI 0)), (2, .int x2), (3, .int x3)], [.int (-12)], h2)) 1 rfl).trans ?_
          exact z_X_ret rfl
        · refine (z_X_steps (s' := (34, [(0, .ref 0), (1, .int (nI 0)), (2, .int x2), (3, .int x3)], [.int (nI 0), .ref 71, .int x2], h2)) 4 rfl).trans ?_
          refine (z_X_if (g := z_in (nI 0) 4) (s' := (35, [(0, .ref 0), (1, .int (nI 0)), (2, .int x2), (3, .int x3)], [.ref (114 + 2 * (nI 0).toNatClampNeg), .int x2], h2)) rfl).trans (z_bifA ?_)
          refine (z_X_steps (s' := (38, [(0, .ref 0), (1, .int (nI 0)), (2, .int x2), (3, .int x3)], [.int (h2.1 (114 + 2 * (nI 0).toNatClampNeg) 1), .int x2], h2)) 1 rfl).trans ?_
          refine (z_X_br (c := x2 < h2.1 (114 + 2 * (nI 0).toNatClampNeg) 1) (s1 := (44, [(0, .ref 0), (1, .int (nI 0)), (2, .int x2), (3, .int x3)], [], h2)) (s2 := (41, [(0, .ref 0), (1, .int (nI 0)), (2, .int x2), (3, .int x3)], [], h2)) rfl).trans (z_ite ?_ ?_)
          · refine (z_X_steps (s' := (49, [(0, .ref 0), (1, .int (nI 0)), (2, .int x2), (3, .int x3)], [.int (nI 0), .ref 71], h2)) 3 rfl).trans ?_
            refine (z_X_if (g := z_in (nI 0) 4) (s' := (50, [(0, .ref 0), (1, .int (nI 0)), (2, .int x2), (3, .int x3)], [.ref (114 + 2 * (nI 0).toNatClampNeg)], h2)) rfl).trans (z_bifA ?_)
            refine (z_X_steps (s' := (52, [(0, .ref 0), (1, .int (nI 0)), (2, .int x2), (3, .int x3)], [.int x3, .int x2, .ref (114 + 2 * (nI 0).toNatClampNeg)], h2)) 2 rfl).trans ?_
            refine (z_X_call (id := 123) (a := [.ref (114 + 2 * (nI 0).toNatClampNeg), .int x2, .int x3]) (c := 0) (s' := (55, [(0, .ref 0), (1, .int (nI 0)), (2, .int x2), (3, .int x3)], [], h2)) rfl ⟨Nat.le_of_ble_eq_true rfl, Nat.le_of_ble_eq_true rfl⟩).trans ?_
            refine z_bdc fun r3 h4 => ?_
            refine (z_X_steps (s' := (56, [(0, .ref 0), (1, .int (nI 0)), (2, .int x2), (3, .int x3)], [.int 1], h4)) 1 rfl).trans ?_
            exact z_X_ret rfl
          · refine (z_X_steps (s' := (43, [(0, .ref 0), (1, .int (nI 0)), (2, .int x2), (3, .int x3)], [.int (-12)], h2)) 1 rfl).trans ?_
            exact z_X_ret rfl
      · refine (z_X_steps (s' := (23, [(0, .ref 0), (1, .int (nI 0)), (2, .int x2), (3, .int x3)], [.int (-11)], h2)) 1 rfl).trans ?_
        exact z_X_ret rfl
    · subst e
      refine (z_X_steps (s' := (18, [(0, .ref 0), (1, .int (nI 1)), (2, .int x2), (3, .int x3)], [.int (h2.1 (114 + 2 * (nI 1).toNatClampNeg) 0)], h2)) 1 rfl).trans ?_
      refine (z_X_br (c := ¬ h2.1 (114 + 2 * (nI 1).toNatClampNeg) 0 = 0) (s1 := (24, [(0, .ref 0), (1, .int (nI 1)), (2, .int x2), (3, .int x3)], [], h2)) (s2 := (21, [(0, .ref 0), (1, .int (nI 1)), (2, .int x2), (3, .int x3)], [], h2)) rfl).trans (z_ite ?_ ?_)
      · refine (z_X_steps (s' := (25, [(0, .ref 0), (1, .int (nI 1)), (2, .int x2), (3, .int x3)], [.int x2], h2)) 1 rfl).trans ?_
        refine (z_X_br (c := x2 < 0) (s1 := (41, [(0, .ref 0), (1, .int (nI 1)), (2, .int x2), (3, .int x3)], [], h2)) (s2 := (28, [(0, .ref 0), (1, .int (nI 1)), (2, .int x2), (3, .int x3)], [], h2)) rfl).trans (z_ite ?_ ?_)
        · refine (z_X_steps (s' := (43, [(0, .ref 0), (1, .int (nI 1)), (2, .int x2), (3, .int x3)], [.int (-12)], h2)) 1 rfl).trans ?_
          exact z_X_ret rfl
        · refine (z_X_steps (s' := (34, [(0, .ref 0), (1, .int (nI 1)), (2, .int x2), (3, .int x3)], [.int (nI 1), .ref 71, .int x2], h2)) 4 rfl).trans ?_
          refine (z_X_if (g := z_in (nI 1) 4) (s' := (35, [(0, .ref 0), (1, .int (nI 1)), (2, .int x2), (3, .int x3)], [.ref (114 + 2 * (nI 1).toNatClampNeg), .int x2], h2)) rfl).trans (z_bifA ?_)
          refine (z_X_steps (s' := (38, [(0, .ref 0), (1, .int (nI 1)), (2, .int x2), (3, .int x3)], [.int (h2.1 (114 + 2 * (nI 1).toNatClampNeg) 1), .int x2], h2)) 1 rfl).trans ?_
          refine (z_X_br (c := x2 < h2.1 (114 + 2 * (nI 1).toNatClampNeg) 1) (s1 := (44, [(0, .ref 0), (1, .int (nI 1)), (2, .int x2), (3, .int x3)], [], h2)) (s2 := (41, [(0, .ref 0), (1, .int (nI 1)), (2, .int x2), (3, .int x3)], [], h2)) rfl).trans (z_ite ?_ ?_)
          · refine (z_X_steps (s' := (49, [(0, .ref 0), (1, .int (nI 1)), (2, .int x2), (3, .int x3)], [.int (nI 1), .ref 71], h2)) 3 rfl).trans ?_
            refine (z_X_if (g := z_in (nI 1) 4) (s' := (50, [(0, .ref 0), (1, .int (nI 1)), (2, .int x2), (3, .int x3)], [.ref (114 + 2 * (nI 1).toNatClampNeg)], h2)) rfl).trans (z_bifA ?_)
            refine (z_X_steps (s' := (52, [(0, .ref 0), (1, .int (nI 1)), (2, .int x2), (3, .int x3)], [.int x3, .int x2, .ref (114 + 2 * (nI 1).toNatClampNeg)], h2)) 2 rfl).trans ?_
            refine (z_X_call (id := 123) (a := [.ref (114 + 2 * (nI 1).toNatClampNeg), .int x2, .int x3]) (c := 0) (s' := (55, [(0, .ref 0), (1, .int (nI 1)), (2, .int x2), (3, .int x3)], [], h2)) rfl ⟨Nat.le_of_ble_eq_true rfl, Nat.le_of_ble_eq_true rfl⟩).trans ?_
            refine z_bdc fun r3 h4 => ?_
            refine (z_X_steps (s' := (56, [(0, .ref 0), (1, .int (nI 1)), (2, .int x2), (3, .int x3)], [.int 1], h4)) 1 rfl).trans ?_
            exact z_X_ret rfl
          · refine (z_X_steps (s' := (43, [(0, .ref 0), (1, .int (nI 1)), (2, .int x2), (3, .int x3)], [.int (-12)], h2)) 1 rfl).trans ?_
            exact z_X_ret rfl
      · refine (z_X_steps (s' := (23, [(0, .ref 0), (1, .int (nI 1)), (2, .int x2), (3, .int x3)], [.int (-11)], h2)) 1 rfl).trans ?_
        exact z_X_ret rfl
    · subst e
      refine (z_X_steps (s' := (18, [(0, .ref 0), (1, .int (nI 2)), (2, .int x2), (3, .int x3)], [.int (h2.1 (114 + 2 * (nI 2).toNatClampNeg) 0)], h2)) 1 rfl).trans ?_
      refine (z_X_br (c := ¬ h2.1 (114 + 2 * (nI 2).toNatClampNeg) 0 = 0) (s1 := (24, [(0, .ref 0), (1, .int (nI 2)), (2, .int x2), (3, .int x3)], [], h2)) (s2 := (21, [(0, .ref 0), (1, .int (nI 2)), (2, .int x2), (3, .int x3)], [], h2)) rfl).trans (z_ite ?_ ?_)
      · refine (z_X_steps (s' := (25, [(0, .ref 0), (1, .int (nI 2)), (2, .int x2), (3, .int x3)], [.int x2], h2)) 1 rfl).trans ?_
        refine (z_X_br (c := x2 < 0) (s1 := (41, [(0, .ref 0), (1, .int (nI 2)), (2, .int x2), (3, .int x3)], [], h2)) (s2 := (28, [(0, .ref 0), (1, .int (nI 2)), (2, .int x2), (3, .int x3)], [], h2)) rfl).trans (z_ite ?_ ?_)
        · refine (z_X_steps (s' := (43, [(0, .ref 0), (1, .int (nI 2)), (2, .int x2), (3, .int x3)], [.int (-12)], h2)) 1 rfl).trans ?_
          exact z_X_ret rfl
        · refine (z_X_steps (s' := (34, [(0, .ref 0), (1, .int (nI 2)), (2, .int x2), (3, .int x3)], [.int (nI 2), .ref 71, .int x2], h2)) 4 rfl).trans ?_
          refine (z_X_if (g := z_in (nI 2) 4) (s' := (35, [(0, .ref 0), (1, .int (nI 2)), (2, .int x2), (3, .int x3)], [.ref (114 + 2 * (nI 2).toNatClampNeg), .int x2], h2)) rfl).trans (z_bifA ?_)
          refine (z_X_steps (s' := (38, [(0, .ref 0), (1, .int (nI 2)), (2, .int x2), (3, .int x3)], [.int (h2.1 (114 + 2 * (nI 2).toNatClampNeg) 1), .int x2], h2)) 1 rfl).trans ?_
          refine (z_X_br (c := x2 < h2.1 (114 + 2 * (nI 2).toNatClampNeg) 1) (s1 := (44, [(0, .ref 0), (1, .int (nI 2)), (2, .int x2), (3, .int x3)], [], h2)) (s2 := (41, [(0, .ref 0), (1, .int (nI 2)), (2, .int x2), (3, .int x3)], [], h2)) rfl).trans (z_ite ?_ ?_)
          · refine (z_X_steps (s' := (49, [(0, .ref 0), (1, .int (nI 2)), (2, .int x2), (3, .int x3)], [.int (nI 2), .ref 71], h2)) 3 rfl).trans ?_
            refine (z_X_if (g := z_in (nI 2) 4) (s' := (50, [(0, .ref 0), (1, .int (nI 2)), (2, .int x2), (3, .int x3)], [.ref (114 + 2 * (nI 2).toNatClampNeg)], h2)) rfl).trans (z_bifA ?_)
            refine (z_X_steps (s' := (52, [(0, .ref 0), (1, .int (nI 2)), (2, .int x2), (3, .int x3)], [.int x3, .int x2, .ref (114 + 2 * (nI 2).toNatClampNeg)], h2)) 2 rfl).trans ?_
            refine (z_X_call (id := 123) (a := [.ref (114 + 2 * (nI 2).toNatClampNeg), .int x2, .int x3]) (c := 0) (s' := (55, [(0, .ref 0), (1, .int (nI 2)), (2, .int x2), (3, .int x3)], [], h2)) rfl ⟨Nat.le_of_ble_eq_true rfl, Nat.le_of_ble_eq_true rfl⟩).trans ?_
            refine z_bdc fun r3 h4 => ?_
            refine (z_X_steps (s' := (56, [(0, .ref 0), (1, .int (nI 2)), (2, .int x2), (3, .int x3)], [.int 1], h4)) 1 rfl).trans ?_
            exact z_X_ret rfl
          · refine (z_X_steps (s' := (43, [(0, .ref 0), (1, .int (nI 2)), (2, .int x2), (3, .int x3)], [.int (-12)], h2)) 1 rfl).trans ?_
            exact z_X_ret rfl
      · refine (z_X_steps (s' := (23, [(0, .ref 0), (1, .int (nI 2)), (2, .int x2), (3, .int x3)], [.int (-11)], h2)) 1 rfl).trans ?_
        exact z_X_ret rfl
    · subst e
      refine (z_X_steps (s' := (18, [(0, .ref 0), (1, .int (nI 3)), (2, .int x2), (3, .int x3)], [.int (h2.1 (114 + 2 * (nI 3).toNatClampNeg) 0)], h2)) 1 rfl).trans ?_
      refine (z_X_br (c := ¬ h2.1 (114 + 2 * (nI 3).toNatClampNeg) 0 = 0) (s1 := (24, [(0, .ref 0), (1, .int (nI 3)), (2, .int x2), (3, .int x3)], [], h2)) (s2 := (21, [(0, .ref 0), (1, .int (nI 3)), (2, .int x2), (3, .int x3)], [], h2)) rfl).trans (z_ite ?_ ?_)
      · refine (z_X_steps (s' := (25, [(0, .ref 0), (1, .int (nI 3)), (2, .int x2), (3, .int x3)], [.int x2], h2)) 1 rfl).trans ?_
        refine (z_X_br (c := x2 < 0) (s1 := (41, [(0, .ref 0), (1, .int (nI 3)), (2, .int x2), (3, .int x3)], [], h2)) (s2 := (28, [(0, .ref 0), (1, .int (nI 3)), (2, .int x2), (3, .int x3)], [], h2)) rfl).trans (z_ite ?_ ?_)
        · refine (z_X_steps (s' := (43, [(0, .ref 0), (1, .int (nI 3)), (2, .int x2), (3, .int x3)], [.int (-12)], h2)) 1 rfl).trans ?_
          exact z_X_ret rfl
        · refine (z_X_steps (s' := (34, [(0, .ref 0), (1, .int (nI 3)), (2, .int x2), (3, .int x3)], [.int (nI 3), .ref 71, .int x2], h2)) 4 rfl).trans ?_
          refine (z_X_if (g := z_in (nI 3) 4) (s' := (35, [(0, .ref 0), (1, .int (nI 3)), (2, .int x2), (3, .int x3)], [.ref (114 + 2 * (nI 3).toNatClampNeg), .int x2], h2)) rfl).trans (z_bifA ?_)
          refine (z_X_steps (s' := (38, [(0, .ref 0), (1, .int (nI 3)), (2, .int x2), (3, .int x3)], [.int (h2.1 (114 + 2 * (nI 3).toNatClampNeg) 1), .int x2], h2)) 1 rfl).trans ?_
          refine (z_X_br (c := x2 < h2.1 (114 + 2 * (nI 3).toNatClampNeg) 1) (s1 := (44, [(0, .ref 0), (1, .int (nI 3)), (2, .int x2), (3, .int x3)], [], h2)) (s2 := (41, [(0, .ref 0), (1, .int (nI 3)), (2, .int x2), (3, .int x3)], [], h2)) rfl).trans (z_ite ?_ ?_)
          · refine (z_X_steps (s' := (49, [(0, .ref 0), (1, .int (nI 3)), (2, .int x2), (3, .int x3)], [.int (nI 3), .ref 71], h2)) 3 rfl).trans ?_
            refine (z_X_if (g := z_in (nI 3) 4) (s' := (50, [(0, .ref 0), (1, .int (nI 3)), (2, .int x2), (3, .int x3)], [.ref (114 + 2 * (nI 3).toNatClampNeg)], h2)) rfl).trans (z_bifA ?_)
            refine (z_X_steps (s' := (52, [(0, .ref 0), (1, .int (nI 3)), (2, .int x2), (3, .int x3)], [.int x3, .int x2, .ref (114 + 2 * (nI 3).toNatClampNeg)], h2)) 2 rfl).trans ?_
            refine (z_X_call (id := 123) (a := [.ref (114 + 2 * (nI 3).toNatClampNeg), .int x2, .int x3]) (c := 0) (s' := (55, [(0, .ref 0), (1, .int (nI 3)), (2, .int x2), (3, .int x3)], [], h2)) rfl ⟨Nat.le_of_ble_eq_true rfl, Nat.le_of_ble_eq_true rfl⟩).trans ?_
            refine z_bdc fun r3 h4 => ?_
            refine (z_X_steps (s' := (56, [(0, .ref 0), (1, .int (nI 3)), (2, .int x2), (3, .int x3)], [.int 1], h4)) 1 rfl).trans ?_
            exact z_X_ret rfl
          · refine (z_X_steps (s' := (43, [(0, .ref 0), (1, .int (nI 3)), (2, .int x2), (3, .int x3)], [.int (-12)], h2)) 1 rfl).trans ?_
            exact z_X_ret rfl
      · refine (z_X_steps (s' := (23, [(0, .ref 0), (1, .int (nI 3)), (2, .int x2), (3, .int x3)], [.int (-11)], h2)) 1 rfl).trans ?_
        exact z_X_ret rfl
  · refine (z_X_steps (s' := (8, [(0, .ref 0), (1, .int x1), (2, .int x2), (3, .int x3)], [.int (-1)], h2)) 1 rfl).trans ?_
    exact z_X_ret rfl
noncomputable def zl_X_read_47 (x1 : Int32) (x3 : Int32) (x4 : Int32) (s0 : Int32) (h : z_H) : Option z_A := z_X zc_X_read 6 (47, [(0, .ref 0), (1, .int x1), (3, .int x3), (4, .int x4)], [.int s0], h)
noncomputable def zl_X_read_70 (x1 : Int32) (x3 : Int32) (x4 : Int32) (x5 : Int32) (s0 : Int32) (h : z_H) : Option z_A := z_X zc_X_read 6 (70, [(0, .ref 0), (1, .int x1), (3, .int x3), (4, .int x4), (5, .int x5)], [.int s0], h)
set_option maxRecDepth 8000 in
set_option maxHeartbeats 2000000 in
theorem e_X_read (x1 : Int32) (x2 : Int32) (x3 : Int32) (x4 : Int32) (h : z_H) : z_M 26 [.ref 0, .int x1, .int x2, .int x3, .int x4] h = z_bd (z_M 40 [.int x1] h) (fun r1 h2 => (if r1 = 0 then some ((-1), h2) else z_bd (z_M 41 [.int x2] h2) (fun r3 h4 => (if r3 = 0 then some ((-1), h4) else (if x4 < 0 then some ((-1), h4) else (if x4 ≤ 10 then (if ¬ x4 = 0 then (bif z_in x1 4 then z_bd (z_M 125 [.ref (114 + 2 * x1.toNatClampNeg), .int x2] h4) (fun r5 h6 => zl_X_read_47 x1 x3 x4 r5 h6) else none) else zl_X_read_47 x1 x3 x4 0 h4) else some ((-1), h4))))))) := by
  refine (z_M_eq (by decide)).trans ?_
  show z_X zc_X_read 6 (0, [(0, .ref 0), (1, .int x1), (2, .int x2), (3, .int x3), (4, .int x4)], [], h) = _
  refine (z_X_steps (s' := (1, [(0, .ref 0), (1, .int x1), (2, .int x2), (3, .int x3), (4, .int x4)], [.int x1], h)) 1 rfl).trans ?_
  refine (z_X_call (id := 40) (a := [.int x1]) (c := 1) (s' := (4, [(0, .ref 0), (1, .int x1), (2, .int x2), (3, .int x3), (4, .int x4)], [], h)) rfl ⟨Nat.le_of_ble_eq_true rfl, Nat.le_of_ble_eq_true rfl⟩).trans ?_
  refine z_bdc fun r1 h2 => ?_
  refine (z_X_br (c := r1 = 0) (s1 := (26, [(0, .ref 0), (1, .int x1), (2, .int x2), (3, .int x3), (4, .int x4)], [], h2)) (s2 := (7, [(0, .ref 0), (1, .int x1), (2, .int x2), (3, .int x3), (4, .int x4)], [], h2)) rfl).trans (z_ite ?_ ?_)
  · refine (z_X_steps (s' := (27, [(0, .ref 0), (1, .int x1), (2, .int x2), (3, .int x3), (4, .int x4)], [.int (-1)], h2)) 1 rfl).trans ?_
    exact z_X_ret rfl
  · refine (z_X_steps (s' := (8, [(0, .ref 0), (1, .int x1), (2, .int x2), (3, .int x3), (4, .int x4)], [.int x2], h2)) 1 rfl).trans ?_
    refine (z_X_call (id := 41) (a := [.int x2]) (c := 1) (s' := (11, [(0, .ref 0), (1, .int x1), (2, .int x2), (3, .int x3), (4, .int x4)], [], h2)) rfl ⟨Nat.le_of_ble_eq_true rfl, Nat.le_of_ble_eq_true rfl⟩).trans ?_
    refine z_bdc fun r3 h4 => ?_
    refine (z_X_br (c := r3 = 0) (s1 := (26, [(0, .ref 0), (1, .int x1), (2, .int x2), (3, .int x3), (4, .int x4)], [], h4)) (s2 := (14, [(0, .ref 0), (1, .int x1), (2, .int x2), (3, .int x3), (4, .int x4)], [], h4)) rfl).trans (z_ite ?_ ?_)
    · refine (z_X_steps (s' := (27, [(0, .ref 0), (1, .int x1), (2, .int x2), (3, .int x3), (4, .int x4)], [.int (-1)], h4)) 1 rfl).trans ?_
      exact z_X_ret rfl
    · refine (z_X_steps (s' := (16, [(0, .ref 0), (1, .int x1), (2, .int x2), (3, .int x3), (4, .int x4)], [.int x4], h4)) 1 rfl).trans ?_
      refine (z_X_br (c := x4 < 0) (s1 := (26, [(0, .ref 0), (1, .int x1), (2, .int x2), (3, .int x3), (4, .int x4)], [], h4)) (s2 := (19, [(0, .ref 0), (1, .int x1), (2, .int x2), (3, .int x3), (4, .int x4)], [], h4)) rfl).trans (z_ite ?_ ?_)
      · refine (z_X_steps (s' := (27, [(0, .ref 0), (1, .int x1), (2, .int x2), (3, .int x3), (4, .int x4)], [.int (-1)], h4)) 1 rfl).trans ?_
        exact z_X_ret rfl
      · refine (z_X_steps (s' := (23, [(0, .ref 0), (1, .int x1), (2, .int x2), (3, .int x3), (4, .int x4)], [.int 10, .int x4], h4)) 2 rfl).trans ?_
        refine (z_X_br (c := x4 ≤ 10) (s1 := (28, [(0, .ref 0), (1, .int x1), (2, .int x2), (3, .int x3), (4, .int x4)], [], h4)) (s2 := (26, [(0, .ref 0), (1, .int x1), (2, .int x2), (3, .int x3), (4, .int x4)], [], h4)) rfl).trans (z_ite ?_ ?_)
        · refine (z_X_steps (s' := (30, [(0, .ref 0), (1, .int x1), (2, .int x2), (3, .int x3), (4, .int x4)], [.int x4], h4)) 1 rfl).trans ?_
          refine (z_X_br (c := ¬ x4 = 0) (s1 := (37, [(0, .ref 0), (1, .int x1), (2, .int x2), (3, .int x3), (4, .int x4)], [], h4)) (s2 := (33, [(0, .ref 0), (1, .int x1), (2, .int x2), (3, .int x3), (4, .int x4)], [], h4)) rfl).trans (z_ite ?_ ?_)
          · refine (z_X_steps (s' := (42, [(0, .ref 0), (1, .int x1), (2, .int x2), (3, .int x3), (4, .int x4)], [.int x1, .ref 71], h4)) 3 rfl).trans ?_
            refine (z_X_if (g := z_in x1 4) (s' := (43, [(0, .ref 0), (1, .int x1), (2, .int x2), (3, .int x3), (4, .int x4)], [.ref (114 + 2 * x1.toNatClampNeg)], h4)) rfl).trans (z_bifE4 ?_)
            refine ⟨fun e => ?_, fun e => ?_, fun e => ?_, fun e => ?_⟩
            · subst e
              refine (z_X_steps (s' := (44, [(0, .ref 0), (1, .int (nI 0)), (2, .int x2), (3, .int x3), (4, .int x4)], [.int x2, .ref (114 + 2 * (nI 0).toNatClampNeg)], h4)) 1 rfl).trans ?_
              refine (z_X_call (id := 125) (a := [.ref (114 + 2 * (nI 0).toNatClampNeg), .int x2]) (c := 1) (s' := (47, [(0, .ref 0), (1, .int (nI 0)), (2, .int x2), (3, .int x3), (4, .int x4)], [], h4)) rfl ⟨Nat.le_of_ble_eq_true rfl, Nat.le_of_ble_eq_true rfl⟩).trans ?_
              refine z_bdc fun r5 h6 => ?_
              exact z_X_lab rfl
            · subst e
              refine (z_X_steps (s' := (44, [(0, .ref 0), (1, .int (nI 1)), (2, .int x2), (3, .int x3), (4, .int x4)], [.int x2, .ref (114 + 2 * (nI 1).toNatClampNeg)], h4)) 1 rfl).trans ?_
              refine (z_X_call (id := 125) (a := [.ref (114 + 2 * (nI 1).toNatClampNeg), .int x2]) (c := 1) (s' := (47, [(0, .ref 0), (1, .int (nI 1)), (2, .int x2), (3, .int x3), (4, .int x4)], [], h4)) rfl ⟨Nat.le_of_ble_eq_true rfl, Nat.le_of_ble_eq_true rfl⟩).trans ?_
              refine z_bdc fun r5 h6 => ?_
              exact z_X_lab rfl
            · subst e
              refine (z_X_steps (s' := (44, [(0, .ref 0), (1, .int (nI 2)), (2, .int x2), (3, .int x3), (4, .int x4)], [.int x2, .ref (114 + 2 * (nI 2).toNatClampNeg)], h4)) 1 rfl).trans ?_
              refine (z_X_call (id := 125) (a := [.ref (114 + 2 * (nI 2).toNatClampNeg), .int x2]) (c := 1) (s' := (47, [(0, .ref 0), (1, .int (nI 2)), (2, .int x2), (3, .int x3), (4, .int x4)], [], h4)) rfl ⟨Nat.le_of_ble_eq_true rfl, Nat.le_of_ble_eq_true rfl⟩).trans ?_
              refine z_bdc fun r5 h6 => ?_
              exact z_X_lab rfl
            · subst e
              refine (z_X_steps (s' := (44, [(0, .ref 0), (1, .int (nI 3)), (2, .int x2), (3, .int x3), (4, .int x4)], [.int x2, .ref (114 + 2 * (nI 3).toNatClampNeg)], h4)) 1 rfl).trans ?_
              refine (z_X_call (id := 125) (a := [.ref (114 + 2 * (nI 3).toNatClampNeg), .int x2]) (c := 1) (s' := (47, [(0, .ref 0), (1, .int (nI 3)), (2, .int x2), (3, .int x3), (4, .int x4)], [], h4)) rfl ⟨Nat.le_of_ble_eq_true rfl, Nat.le_of_ble_eq_true rfl⟩).trans ?_
              refine z_bdc fun r5 h6 => ?_
              exact z_X_lab rfl
          · refine (z_X_steps (s' := (47, [(0, .ref 0), (1, .int x1), (2, .int x2), (3, .int x3), (4, .int x4)], [.int 0], h4)) 2 rfl).trans ?_
            exact z_X_lab rfl
        · refine (z_X_steps (s' := (27, [(0, .ref 0), (1, .int x1), (2, .int x2), (3, .int x3), (4, .int x4)], [.int (-1)], h4)) 1 rfl).trans ?_
          exact z_X_ret rfl
set_option maxRecDepth 8000 in
set_option maxHeartbeats 2000000 in
theorem e_X_read_47 (x1 : Int32) (x3 : Int32) (x4 : Int32) (s0 : Int32) (h : z_H) : zl_X_read_47 x1 x3 x4 s0 h = (if s0 = 0 then (bif z_in x1 4 then z_bd (z_M 126 [.ref (114 + 2 * x1.toNatClampNeg), .int x3, .int x4] h) (fun r1 h2 => zl_X_read_70 x1 x3 x4 s0 r1 h2) else none) else zl_X_read_70 x1 x3 x4 s0 0 h) := by
  show z_X zc_X_read 6 (47, [(0, .ref 0), (1, .int x1), (3, .int x3), (4, .int x4)], [.int s0], h) = _
  refine (z_X_steps (s' := (51, [(5, .int s0), (0, .ref 0), (1, .int x1), (3, .int x3), (4, .int x4)], [.int s0], h)) 2 rfl).trans ?_
  refine (z_X_br (c := s0 = 0) (s1 := (58, [(5, .int s0), (0, .ref 0), (1, .int x1), (3, .int x3), (4, .int x4)], [], h)) (s2 := (54, [(5, .int s0), (0, .ref 0), (1, .int x1), (3, .int x3), (4, .int x4)], [], h)) rfl).trans (z_ite ?_ ?_)
  · refine (z_X_steps (s' := (63, [(5, .int s0), (0, .ref 0), (1, .int x1), (3, .int x3), (4, .int x4)], [.int x1, .ref 71], h)) 3 rfl).trans ?_
    refine (z_X_if (g := z_in x1 4) (s' := (64, [(5, .int s0), (0, .ref 0), (1, .int x1), (3, .int x3), (4, .int x4)], [.ref (114 + 2 * x1.toNatClampNeg)], h)) rfl).trans (z_bifE4 ?_)
    refine ⟨fun e => ?_, fun e => ?_, fun e => ?_, fun e => ?_⟩
    · subst e
      refine (z_X_steps (s' := (67, [(5, .int s0), (0, .ref 0), (1, .int (nI 0)), (3, .int x3), (4, .int x4)], [.int x4, .int x3, .ref (114 + 2 * (nI 0).toNatClampNeg)], h)) 2 rfl).trans ?_
      refine (z_X_call (id := 126) (a := [.ref (114 + 2 * (nI 0).toNatClampNeg), .int x3, .int x4]) (c := 1) (s' := (70, [(5, .int s0), (0, .ref 0), (1, .int (nI 0)), (3, .int x3), (4, .int x4)], [], h)) rfl ⟨Nat.le_of_ble_eq_true rfl, Nat.le_of_ble_eq_true rfl⟩).trans ?_
      refine z_bdc fun r1 h2 => ?_
      exact z_X_lab rfl
    · subst e
      refine (z_X_steps (s' := (67, [(5, .int s0), (0, .ref 0), (1, .int (nI 1)), (3, .int x3), (4, .int x4)], [.int x4, .int x3, .ref (114 + 2 * (nI 1).toNatClampNeg)], h)) 2 rfl).trans ?_
      refine (z_X_call (id := 126) (a := [.ref (114 + 2 * (nI 1).toNatClampNeg), .int x3, .int x4]) (c := 1) (s' := (70, [(5, .int s0), (0, .ref 0), (1, .int (nI 1)), (3, .int x3), (4, .int x4)], [], h)) rfl ⟨Nat.le_of_ble_eq_true rfl, Nat.le_of_ble_eq_true rfl⟩).trans ?_
      refine z_bdc fun r1 h2 => ?_
      exact z_X_lab rfl
    · subst e
      refine (z_X_steps (s' := (67, [(5, .int s0), (0, .ref 0), (1, .int (nI 2)), (3, .int x3), (4, .int x4)], [.int x4, .int x3, .ref (114 + 2 * (nI 2).toNatClampNeg)], h)) 2 rfl).trans ?_
      refine (z_X_call (id := 126) (a := [.ref (114 + 2 * (nI 2).toNatClampNeg), .int x3, .int x4]) (c := 1) (s' := (70, [(5, .int s0), (0, .ref 0), (1, .int (nI 2)), (3, .int x3), (4, .int x4)], [], h)) rfl ⟨Nat.le_of_ble_eq_true rfl, Nat.le_of_ble_eq_true rfl⟩).trans ?_
      refine z_bdc fun r1 h2 => ?_
      exact z_X_lab rfl
    · subst e
      refine (z_X_steps (s' := (67, [(5, .int s0), (0, .ref 0), (1, .int (nI 3)), (3, .int x3), (4, .int x4)], [.int x4, .int x3, .ref (114 + 2 * (nI 3).toNatClampNeg)], h)) 2 rfl).trans ?_
      refine (z_X_call (id := 126) (a := [.ref (114 + 2 * (nI 3).toNatClampNeg), .int x3, .int x4]) (c := 1) (s' := (70, [(5, .int s0), (0, .ref 0), (1, .int (nI 3)), (3, .int x3), (4, .int x4)], [], h)) rfl ⟨Nat.le_of_ble_eq_true rfl, Nat.le_of_ble_eq_true rfl⟩).trans ?_
      refine z_bdc fun r1 h2 => ?_
      exact z_X_lab rfl
  · refine (z_X_steps (s' := (70, [(5, .int s0), (0, .ref 0), (1, .int x1), (3, .int x3), (4, .int x4)], [.int 0], h)) 2 rfl).trans ?_
    exact z_X_lab rfl
set_option maxRecDepth 8000 in
set_option maxHeartbeats 2000000 in
theorem e_X_read_70 (x1 : Int32) (x3 : Int32) (x4 : Int32) (x5 : Int32) (s0 : Int32) (h : z_H) : zl_X_read_70 x1 x3 x4 x5 s0 h = (bif z_in x1 4 then z_bd (z_M 35 [.ref 0, .ref (114 + 2 * x1.toNatClampNeg), .int x3, .int s0] h) (fun r1 h2 => (if s0 ≤ r1 then (bif z_in x1 4 then z_bd (z_M 36 [.ref 0, .ref (114 + 2 * x1.toNatClampNeg), .int x3, .int s0] h2) (fun r3 h4 => (if ¬ x5 = 0 then some (s0, (z_wI h4 0 11 x5)) else (if x4 ≤ s0 then some (s0, (z_wI h4 0 11 x5)) else some (s0, (z_wI h4 0 11 2))))) else none) else some ((-20) - r1, h2))) else none) := by
  show z_X zc_X_read 6 (70, [(0, .ref 0), (1, .int x1), (3, .int x3), (4, .int x4), (5, .int x5)], [.int s0], h) = _
  refine (z_X_steps (s' := (78, [(6, .int s0), (0, .ref 0), (1, .int x1), (3, .int x3), (4, .int x4), (5, .int x5)], [.int x1, .ref 71, .ref 0], h)) 5 rfl).trans ?_
  refine (z_X_if (g := z_in x1 4) (s' := (79, [(6, .int s0), (0, .ref 0), (1, .int x1), (3, .int x3), (4, .int x4), (5, .int x5)], [.ref (114 + 2 * x1.toNatClampNeg), .ref 0], h)) rfl).trans (z_bifE4 ?_)
  refine ⟨fun e => ?_, fun e => ?_, fun e => ?_, fun e => ?_⟩
  · subst e
    refine (z_X_steps (s' := (82, [(6, .int s0), (0, .ref 0), (1, .int (nI 0)), (3, .int x3), (4, .int x4), (5, .int x5)], [.int s0, .int x3, .ref (114 + 2 * (nI 0).toNatClampNeg), .ref 0], h)) 2 rfl).trans ?_
    refine (z_X_call (id := 35) (a := [.ref 0, .ref (114 + 2 * (nI 0).toNatClampNeg), .int x3, .int s0]) (c := 1) (s' := (85, [(6, .int s0), (0, .ref 0), (1, .int (nI 0)), (3, .int x3), (4, .int x4), (5, .int x5)], [], h)) rfl ⟨Nat.le_of_ble_eq_true rfl, Nat.le_of_ble_eq_true rfl⟩).trans ?_
    refine z_bdc fun r1 h2 => ?_
    refine (z_X_steps (s' := (91, [(7, .int r1), (6, .int s0), (0, .ref 0), (1, .int (nI 0)), (3, .int x3), (4, .int x4), (5, .int x5)], [.int s0, .int r1], h2)) 3 rfl).trans ?_
    refine (z_X_br (c := s0 ≤ r1) (s1 := (100, [(7, .int r1), (6, .int s0), (0, .ref 0), (1, .int (nI 0)), (3, .int x3), (4, .int x4), (5, .int x5)], [], h2)) (s2 := (94, [(7, .int r1), (6, .int s0), (0, .ref 0), (1, .int (nI 0)), (3, .int x3), (4, .int x4), (5, .int x5)], [], h2)) rfl).trans (z_ite ?_ ?_)
    · refine (z_X_steps (s' := (106, [(7, .int r1), (6, .int s0), (0, .ref 0), (1, .int (nI 0)), (3, .int x3), (4, .int x4), (5, .int x5)], [.int (nI 0), .ref 71, .ref 0], h2)) 4 rfl).trans ?_
      refine (z_X_if (g := z_in (nI 0) 4) (s' := (107, [(7, .int r1), (6, .int s0), (0, .ref 0), (1, .int (nI 0)), (3, .int x3), (4, .int x4), (5, .int x5)], [.ref (114 + 2 * (nI 0).toNatClampNeg), .ref 0], h2)) rfl).trans (z_bifA ?_)
      refine (z_X_steps (s' := (110, [(7, .int r1), (6, .int s0), (0, .ref 0), (1, .int (nI 0)), (3, .int x3), (4, .int x4), (5, .int x5)], [.int s0, .int x3, .ref (114 + 2 * (nI 0).toNatClampNeg), .ref 0], h2)) 2 rfl).trans ?_
      refine (z_X_call (id := 36) (a := [.ref 0, .ref (114 + 2 * (nI 0).toNatClampNeg), .int x3, .int s0]) (c := 0) (s' := (113, [(7, .int r1), (6, .int s0), (0, .ref 0), (1, .int (nI 0)), (3, .int x3), (4, .int x4), (5, .int x5)], [], h2)) rfl ⟨Nat.le_of_ble_eq_true rfl, Nat.le_of_ble_eq_true rfl⟩).trans ?_
      refine z_bdc fun r3 h4 => ?_
      refine (z_X_steps (s' := (116, [(7, .int r1), (6, .int s0), (0, .ref 0), (1, .int (nI 0)), (3, .int x3), (4, .int x4), (5, .int x5)], [.int x5, .ref 0], h4)) 2 rfl).trans ?_
      refine (z_X_br (c := ¬ x5 = 0) (s1 := (130, [(7, .int r1), (6, .int s0), (0, .ref 0), (1, .int (nI 0)), (3, .int x3), (4, .int x4), (5, .int x5)], [.ref 0], h4)) (s2 := (119, [(7, .int r1), (6, .int s0), (0, .ref 0), (1, .int (nI 0)), (3, .int x3), (4, .int x4), (5, .int x5)], [.ref 0], h4)) rfl).trans (z_ite ?_ ?_)
      · refine (z_X_steps (s' := (137, [(7, .int r1), (6, .int s0), (0, .ref 0), (1, .int (nI 0)), (3, .int x3), (4, .int x4), (5, .int x5)], [.int s0], (z_wI h4 0 11 x5))) 3 rfl).trans ?_
        exact z_X_ret rfl
      · refine (z_X_steps (s' := (123, [(7, .int r1), (6, .int s0), (0, .ref 0), (1, .int (nI 0)), (3, .int x3), (4, .int x4), (5, .int x5)], [.int x4, .int s0, .ref 0], h4)) 2 rfl).trans ?_
        refine (z_X_br (c := x4 ≤ s0) (s1 := (130, [(7, .int r1), (6, .int s0), (0, .ref 0), (1, .int (nI 0)), (3, .int x3), (4, .int x4), (5, .int x5)], [.ref 0], h4)) (s2 := (126, [(7, .int r1), (6, .int s0), (0, .ref 0), (1, .int (nI 0)), (3, .int x3), (4, .int x4), (5, .int x5)], [.ref 0], h4)) rfl).trans (z_ite ?_ ?_)
        · refine (z_X_steps (s' := (137, [(7, .int r1), (6, .int s0), (0, .ref 0), (1, .int (nI 0)), (3, .int x3), (4, .int x4), (5, .int x5)], [.int s0], (z_wI h4 0 11 x5))) 3 rfl).trans ?_
          exact z_X_ret rfl
        · refine (z_X_steps (s' := (137, [(7, .int r1), (6, .int s0), (0, .ref 0), (1, .int (nI 0)), (3, .int x3), (4, .int x4), (5, .int x5)], [.int s0], (z_wI h4 0 11 2))) 4 rfl).trans ?_
          exact z_X_ret rfl
    · refine (z_X_steps (s' := (99, [(7, .int r1), (6, .int s0), (0, .ref 0), (1, .int (nI 0)), (3, .int x3), (4, .int x4), (5, .int x5)], [.int ((-20) - r1)], h2)) 3 rfl).trans ?_
      exact z_X_ret rfl
  · subst e
    refine (z_X_steps (s' := (82, [(6, .int s0), (0, .ref 0), (1, .int (nI 1)), (3, .int x3), (4, .int x4), (5, .int x5)], [.int s0, .int x3, .ref (114 + 2 * (nI 1).toNatClampNeg), .ref 0], h)) 2 rfl).trans ?_
    refine (z_X_call (id := 35) (a := [.ref 0, .ref (114 + 2 * (nI 1).toNatClampNeg), .int x3, .int s0]) (c := 1) (s' := (85, [(6, .int s0), (0, .ref 0), (1, .int (nI 1)), (3, .int x3), (4, .int x4), (5, .int x5)], [], h)) rfl ⟨Nat.le_of_ble_eq_true rfl, Nat.le_of_ble_eq_true rfl⟩).trans ?_
    refine z_bdc fun r1 h2 => ?_
    refine (z_X_steps (s' := (91, [(7, .int r1), (6, .int s0), (0, .ref 0), (1, .int (nI 1)), (3, .int x3), (4, .int x4), (5, .int x5)], [.int s0, .int r1], h2)) 3 rfl).trans ?_
    refine (z_X_br (c := s0 ≤ r1) (s1 := (100, [(7, .int r1), (6, .int s0), (0, .ref 0), (1, .int (nI 1)), (3, .int x3), (4, .int x4), (5, .int x5)], [], h2)) (s2 := (94, [(7, .int r1), (6, .int s0), (0, .ref 0), (1, .int (nI 1)), (3, .int x3), (4, .int x4), (5, .int x5)], [], h2)) rfl).trans (z_ite ?_ ?_)
    · refine (z_X_steps (s' := (106, [(7, .int r1), (6, .int s0), (0, .ref 0), (1, .int (nI 1)), (3, .int x3), (4, .int x4), (5, .int x5)], [.int (nI 1), .ref 71, .ref 0], h2)) 4 rfl).trans ?_
      refine (z_X_if (g := z_in (nI 1) 4) (s' := (107, [(7, .int r1), (6, .int s0), (0, .ref 0), (1, .int (nI 1)), (3, .int x3), (4, .int x4), (5, .int x5)], [.ref (114 + 2 * (nI 1).toNatClampNeg), .ref 0], h2)) rfl).trans (z_bifA ?_)
      refine (z_X_steps (s' := (110, [(7, .int r1), (6, .int s0), (0, .ref 0), (1, .int (nI 1)), (3, .int x3), (4, .int x4), (5, .int x5)], [.int s0, .int x3, .ref (114 + 2 * (nI 1).toNatClampNeg), .ref 0], h2)) 2 rfl).trans ?_
      refine (z_X_call (id := 36) (a := [.ref 0, .ref (114 + 2 * (nI 1).toNatClampNeg), .int x3, .int s0]) (c := 0) (s' := (113, [(7, .int r1), (6, .int s0), (0, .ref 0), (1, .int (nI 1)), (3, .int x3), (4, .int x4), (5, .int x5)], [], h2)) rfl ⟨Nat.le_of_ble_eq_true rfl, Nat.le_of_ble_eq_true rfl⟩).trans ?_
      refine z_bdc fun r3 h4 => ?_
      refine (z_X_steps (s' := (116, [(7, .int r1), (6, .int s0), (0, .ref 0), (1, .int (nI 1)), (3, .int x3), (4, .int x4), (5, .int x5)], [.int x5, .ref 0], h4)) 2 rfl).trans ?_
      refine (z_X_br (c := ¬ x5 = 0) (s1 := (130, [(7, .int r1), (6, .int s0), (0, .ref 0), (1, .int (nI 1)), (3, .int x3), (4, .int x4), (5, .int x5)], [.ref 0], h4)) (s2 := (119, [(7, .int r1), (6, .int s0), (0, .ref 0), (1, .int (nI 1)), (3, .int x3), (4, .int x4), (5, .int x5)], [.ref 0], h4)) rfl).trans (z_ite ?_ ?_)
      · refine (z_X_steps (s' := (137, [(7, .int r1), (6, .int s0), (0, .ref 0), (1, .int (nI 1)), (3, .int x3), (4, .int x4), (5, .int x5)], [.int s0], (z_wI h4 0 11 x5))) 3 rfl).trans ?_
        exact z_X_ret rfl
      · refine (z_X_steps (s' := (123, [(7, .int r1), (6, .int s0), (0, .ref 0), (1, .int (nI 1)), (3, .int x3), (4, .int x4), (5, .int x5)], [.int x4, .int s0, .ref 0], h4)) 2 rfl).trans ?_
        refine (z_X_br (c := x4 ≤ s0) (s1 := (130, [(7, .int r1), (6, .int s0), (0, .ref 0), (1, .int (nI 1)), (3, .int x3), (4, .int x4), (5, .int x5)], [.ref 0], h4)) (s2 := (126, [(7, .int r1), (6, .int s0), (0, .ref 0), (1, .int (nI 1)), (3, .int x3), (4, .int x4), (5, .int x5)], [.ref 0], h4)) rfl).trans (z_ite ?_ ?_)
        · refine (z_X_steps (s' := (137, [(7, .int r1), (6, .int s0), (0, .ref 0), (1, .int (nI 1)), (3, .int x3), (4, .int x4), (5, .int x5)], [.int s0], (z_wI h4 0 11 x5))) 3 rfl).trans ?_
          exact z_X_ret rfl
        · refine (z_X_steps (s' := (137, [(7, .int r1), (6, .int s0), (0, .ref 0), (1, .int (nI 1)), (3, .int x3), (4, .int x4), (5, .int x5)], [.int s0], (z_wI h4 0 11 2))) 4 rfl).trans ?_
          exact z_X_ret rfl
    · refine (z_X_steps (s' := (99, [(7, .int r1), (6, .int s0), (0, .ref 0), (1, .int (nI 1)), (3, .int x3), (4, .int x4), (5, .int x5)], [.int ((-20) - r1)], h2)) 3 rfl).trans ?_
      exact z_X_ret rfl
  · subst e
    refine (z_X_steps (s' := (82, [(6, .int s0), (0, .ref 0), (1, .int (nI 2)), (3, .int x3), (4, .int x4), (5, .int x5)], [.int s0, .int x3, .ref (114 + 2 * (nI 2).toNatClampNeg), .ref 0], h)) 2 rfl).trans ?_
    refine (z_X_call (id := 35) (a := [.ref 0, .ref (114 + 2 * (nI 2).toNatClampNeg), .int x3, .int s0]) (c := 1) (s' := (85, [(6, .int s0), (0, .ref 0), (1, .int (nI 2)), (3, .int x3), (4, .int x4), (5, .int x5)], [], h)) rfl ⟨Nat.le_of_ble_eq_true rfl, Nat.le_of_ble_eq_true rfl⟩).trans ?_
    refine z_bdc fun r1 h2 => ?_
    refine (z_X_steps (s' := (91, [(7, .int r1), (6, .int s0), (0, .ref 0), (1, .int (nI 2)), (3, .int x3), (4, .int x4), (5, .int x5)], [.int s0, .int r1], h2)) 3 rfl).trans ?_
    refine (z_X_br (c := s0 ≤ r1) (s1 := (100, [(7, .int r1), (6, .int s0), (0, .ref 0), (1, .int (nI 2)), (3, .int x3), (4, .int x4), (5, .int x5)], [], h2)) (s2 := (94, [(7, .int r1), (6, .int s0), (0, .ref 0), (1, .int (nI 2)), (3, .int x3), (4, .int x4), (5, .int x5)], [], h2)) rfl).trans (z_ite ?_ ?_)
    · refine (z_X_steps (s' := (106, [(7, .int r1), (6, .int s0), (0, .ref 0), (1, .int (nI 2)), (3, .int x3), (4, .int x4), (5, .int x5)], [.int (nI 2), .ref 71, .ref 0], h2)) 4 rfl).trans ?_
      refine (z_X_if (g := z_in (nI 2) 4) (s' := (107, [(7, .int r1), (6, .int s0), (0, .ref 0), (1, .int (nI 2)), (3, .int x3), (4, .int x4), (5, .int x5)], [.ref (114 + 2 * (nI 2).toNatClampNeg), .ref 0], h2)) rfl).trans (z_bifA ?_)
      refine (z_X_steps (s' := (110, [(7, .int r1), (6, .int s0), (0, .ref 0), (1, .int (nI 2)), (3, .int x3), (4, .int x4), (5, .int x5)], [.int s0, .int x3, .ref (114 + 2 * (nI 2).toNatClampNeg), .ref 0], h2)) 2 rfl).trans ?_
      refine (z_X_call (id := 36) (a := [.ref 0, .ref (114 + 2 * (nI 2).toNatClampNeg), .int x3, .int s0]) (c := 0) (s' := (113, [(7, .int r1), (6, .int s0), (0, .ref 0), (1, .int (nI 2)), (3, .int x3), (4, .int x4), (5, .int x5)], [], h2)) rfl ⟨Nat.le_of_ble_eq_true rfl, Nat.le_of_ble_eq_true rfl⟩).trans ?_
      refine z_bdc fun r3 h4 => ?_
      refine (z_X_steps (s' := (116, [(7, .int r1), (6, .int s0), (0, .ref 0), (1, .int (nI 2)), (3, .int x3), (4, .int x4), (5, .int x5)], [.int x5, .ref 0], h4)) 2 rfl).trans ?_
      refine (z_X_br (c := ¬ x5 = 0) (s1 := (130, [(7, .int r1), (6, .int s0), (0, .ref 0), (1, .int (nI 2)), (3, .int x3), (4, .int x4), (5, .int x5)], [.ref 0], h4)) (s2 := (119, [(7, .int r1), (6, .int s0), (0, .ref 0), (1, .int (nI 2)), (3, .int x3), (4, .int x4), (5, .int x5)], [.ref 0], h4)) rfl).trans (z_ite ?_ ?_)
      · refine (z_X_steps (s' := (137, [(7, .int r1), (6, .int s0), (0, .ref 0), (1, .int (nI 2)), (3, .int x3), (4, .int x4), (5, .int x5)], [.int s0], (z_wI h4 0 11 x5))) 3 rfl).trans ?_
        exact z_X_ret rfl
      · refine (z_X_steps (s' := (123, [(7, .int r1), (6, .int s0), (0, .ref 0), (1, .int (nI 2)), (3, .int x3), (4, .int x4), (5, .int x5)], [.int x4, .int s0, .ref 0], h4)) 2 rfl).trans ?_
        refine (z_X_br (c := x4 ≤ s0) (s1 := (130, [(7, .int r1), (6, .int s0), (0, .ref 0), (1, .int (nI 2)), (3, .int x3), (4, .int x4), (5, .int x5)], [.ref 0], h4)) (s2 := (126, [(7, .int r1), (6, .int s0), (0, .ref 0), (1, .int (nI 2)), (3, .int x3), (4, .int x4), (5, .int x5)], [.ref 0], h4)) rfl).trans (z_ite ?_ ?_)
        · refine (z_X_steps (s' := (137, [(7, .int r1), (6, .int s0), (0, .ref 0), (1, .int (nI 2)), (3, .int x3), (4, .int x4), (5, .int x5)], [.int s0], (z_wI h4 0 11 x5))) 3 rfl).trans ?_
          exact z_X_ret rfl
        · refine (z_X_steps (s' := (137, [(7, .int r1), (6, .int s0), (0, .ref 0), (1, .int (nI 2)), (3, .int x3), (4, .int x4), (5, .int x5)], [.int s0], (z_wI h4 0 11 2))) 4 rfl).trans ?_
          exact z_X_ret rfl
    · refine (z_X_steps (s' := (99, [(7, .int r1), (6, .int s0), (0, .ref 0), (1, .int (nI 2)), (3, .int x3), (4, .int x4), (5, .int x5)], [.int ((-20) - r1)], h2)) 3 rfl).trans ?_
      exact z_X_ret rfl
  · subst e
    refine (z_X_steps (s' := (82, [(6, .int s0), (0, .ref 0), (1, .int (nI 3)), (3, .int x3), (4, .int x4), (5, .int x5)], [.int s0, .int x3, .ref (114 + 2 * (nI 3).toNatClampNeg), .ref 0], h)) 2 rfl).trans ?_
    refine (z_X_call (id := 35) (a := [.ref 0, .ref (114 + 2 * (nI 3).toNatClampNeg), .int x3, .int s0]) (c := 1) (s' := (85, [(6, .int s0), (0, .ref 0), (1, .int (nI 3)), (3, .int x3), (4, .int x4), (5, .int x5)], [], h)) rfl ⟨Nat.le_of_ble_eq_true rfl, Nat.le_of_ble_eq_true rfl⟩).trans ?_
    refine z_bdc fun r1 h2 => ?_
    refine (z_X_steps (s' := (91, [(7, .int r1), (6, .int s0), (0, .ref 0), (1, .int (nI 3)), (3, .int x3), (4, .int x4), (5, .int x5)], [.int s0, .int r1], h2)) 3 rfl).trans ?_
    refine (z_X_br (c := s0 ≤ r1) (s1 := (100, [(7, .int r1), (6, .int s0), (0, .ref 0), (1, .int (nI 3)), (3, .int x3), (4, .int x4), (5, .int x5)], [], h2)) (s2 := (94, [(7, .int r1), (6, .int s0), (0, .ref 0), (1, .int (nI 3)), (3, .int x3), (4, .int x4), (5, .int x5)], [], h2)) rfl).trans (z_ite ?_ ?_)
    · refine (z_X_steps (s' := (106, [(7, .int r1), (6, .int s0), (0, .ref 0), (1, .int (nI 3)), (3, .int x3), (4, .int x4), (5, .int x5)], [.int (nI 3), .ref 71, .ref 0], h2)) 4 rfl).trans ?_
      refine (z_X_if (g := z_in (nI 3) 4) (s' := (107, [(7, .int r1), (6, .int s0), (0, .ref 0), (1, .int (nI 3)), (3, .int x3), (4, .int x4), (5, .int x5)], [.ref (114 + 2 * (nI 3).toNatClampNeg), .ref 0], h2)) rfl).trans (z_bifA ?_)
      refine (z_X_steps (s' := (110, [(7, .int r1), (6, .int s0), (0, .ref 0), (1, .int (nI 3)), (3, .int x3), (4, .int x4), (5, .int x5)], [.int s0, .int x3, .ref (114 + 2 * (nI 3).toNatClampNeg), .ref 0], h2)) 2 rfl).trans ?_
      refine (z_X_call (id := 36) (a := [.ref 0, .ref (114 + 2 * (nI 3).toNatClampNeg), .int x3, .int s0]) (c := 0) (s' := (113, [(7, .int r1), (6, .int s0), (0, .ref 0), (1, .int (nI 3)), (3, .int x3), (4, .int x4), (5, .int x5)], [], h2)) rfl ⟨Nat.le_of_ble_eq_true rfl, Nat.le_of_ble_eq_true rfl⟩).trans ?_
      refine z_bdc fun r3 h4 => ?_
      refine (z_X_steps (s' := (116, [(7, .int r1), (6, .int s0), (0, .ref 0), (1, .int (nI 3)), (3, .int x3), (4, .int x4), (5, .int x5)], [.int x5, .ref 0], h4)) 2 rfl).trans ?_
      refine (z_X_br (c := ¬ x5 = 0) (s1 := (130, [(7, .int r1), (6, .int s0), (0, .ref 0), (1, .int (nI 3)), (3, .int x3), (4, .int x4), (5, .int x5)], [.ref 0], h4)) (s2 := (119, [(7, .int r1), (6, .int s0), (0, .ref 0), (1, .int (nI 3)), (3, .int x3), (4, .int x4), (5, .int x5)], [.ref 0], h4)) rfl).trans (z_ite ?_ ?_)
      · refine (z_X_steps (s' := (137, [(7, .int r1), (6, .int s0), (0, .ref 0), (1, .int (nI 3)), (3, .int x3), (4, .int x4), (5, .int x5)], [.int s0], (z_wI h4 0 11 x5))) 3 rfl).trans ?_
        exact z_X_ret rfl
      · refine (z_X_steps (s' := (123, [(7, .int r1), (6, .int s0), (0, .ref 0), (1, .int (nI 3)), (3, .int x3), (4, .int x4), (5, .int x5)], [.int x4, .int s0, .ref 0], h4)) 2 rfl).trans ?_
        refine (z_X_br (c := x4 ≤ s0) (s1 := (130, [(7, .int r1), (6, .int s0), (0, .ref 0), (1, .int (nI 3)), (3, .int x3), (4, .int x4), (5, .int x5)], [.ref 0], h4)) (s2 := (126, [(7, .int r1), (6, .int s0), (0, .ref 0), (1, .int (nI 3)), (3, .int x3), (4, .int x4), (5, .int x5)], [.ref 0], h4)) rfl).trans (z_ite ?_ ?_)
        · refine (z_X_steps (s' := (137, [(7, .int r1), (6, .int s0), (0, .ref 0), (1, .int (nI 3)), (3, .int x3), (4, .int x4), (5, .int x5)], [.int s0], (z_wI h4 0 11 x5))) 3 rfl).trans ?_
          exact z_X_ret rfl
        · refine (z_X_steps (s' := (137, [(7, .int r1), (6, .int s0), (0, .ref 0), (1, .int (nI 3)), (3, .int x3), (4, .int x4), (5, .int x5)], [.int s0], (z_wI h4 0 11 2))) 4 rfl).trans ?_
          exact z_X_ret rfl
    · refine (z_X_steps (s' := (99, [(7, .int r1), (6, .int s0), (0, .ref 0), (1, .int (nI 3)), (3, .int x3), (4, .int x4), (5, .int x5)], [.int ((-20) - r1)], h2)) 3 rfl).trans ?_
      exact z_X_ret rfl
set_option maxRecDepth 8000 in
set_option maxHeartbeats 2000000 in
theorem e_X_torn (h : z_H) : z_M 27 [.ref 0] h = some (h.1 0 11, h) := by
  refine (z_M_eq (by decide)).trans ?_
  show z_X zc_X_torn 1 (0, [(0, .ref 0)], [], h) = _
  refine (z_X_steps (s' := (4, [(0, .ref 0)], [.int (h.1 0 11)], h)) 2 rfl).trans ?_
  exact z_X_ret rfl
set_option maxRecDepth 8000 in
set_option maxHeartbeats 2000000 in
theorem e_X_count (x1 : Int32) (h : z_H) : z_M 28 [.ref 0, .int x1] h = (if x1 = 0 then z_bd (z_M 34 [.ref 0] h) (fun r1 h2 => some (r1, h2)) else (if x1 = 1 then z_bd (z_M 82 [.ref 17] h) (fun r3 h4 => some (r3, h4)) else (if x1 = 2 then some (h.1 1 0, h) else (if x1 = 3 then (if h.1 114 0 = 0 then some ((-4), h) else some (h.1 114 1, h)) else (if x1 = 4 then z_bd (z_M 114 [.ref 45] h) (fun r5 h6 => z_bd (z_M 118 [.ref 45] h6) (fun r7 h8 => some (r7, h8))) else (if x1 = 5 then z_bd (z_M 83 [.ref 25, .ref 17] h) (fun r9 h10 => some (r9, h10)) else some ((-1), h))))))) := by
  refine (z_M_eq (by decide)).trans ?_
  show z_X zc_X_count 23 (0, [(0, .ref 0), (1, .int x1)], [], h) = _
  refine (z_X_steps (s' := (1, [(0, .ref 0), (1, .int x1)], [.int x1], h)) 1 rfl).trans ?_
  refine (z_X_sw (d := (115, [(0, .ref 0), (1, .int x1)], [], h)) (x := x1) (lo := [(0, .ref 0), (1, .int x1)]) (stk := []) (h := h) (sw := [(0, 40), (1, 45), (2, 53), (3, 61), (4, 88), (5, 103)]) rfl).trans ?_
  refine z_ite ?_ ?_
  · refine (z_X_steps (s' := (41, [(0, .ref 0), (1, .int x1)], [.ref 0], h)) 1 rfl).trans ?_
    refine (z_X_call (id := 34) (a := [.ref 0]) (c := 1) (s' := (44, [(0, .ref 0), (1, .int x1)], [], h)) rfl ⟨Nat.le_of_ble_eq_true rfl, Nat.le_of_ble_eq_true rfl⟩).trans ?_
    refine z_bdc fun r1 h2 => ?_
    exact z_X_ret rfl
  refine z_ite ?_ ?_
  · refine (z_X_steps (s' := (49, [(0, .ref 0), (1, .int x1)], [.ref 17], h)) 2 rfl).trans ?_
    refine (z_X_call (id := 82) (a := [.ref 17]) (c := 1) (s' := (52, [(0, .ref 0), (1, .int x1)], [], h)) rfl ⟨Nat.le_of_ble_eq_true rfl, Nat.le_of_ble_eq_true rfl⟩).trans ?_
    refine z_bdc fun r3 h4 => ?_
    exact z_X_ret rfl
  refine z_ite ?_ ?_
  · refine (z_X_steps (s' := (60, [(0, .ref 0), (1, .int x1)], [.int (h.1 1 0)], h)) 3 rfl).trans ?_
    exact z_X_ret rfl
  refine z_ite ?_ ?_
  · refine (z_X_steps (s' := (70, [(0, .ref 0), (1, .int x1)], [.int (h.1 114 0)], h)) 5 rfl).trans ?_
    refine (z_X_br (c := h.1 114 0 = 0) (s1 := (85, [(0, .ref 0), (1, .int x1)], [], h)) (s2 := (73, [(0, .ref 0), (1, .int x1)], [], h)) rfl).trans (z_ite ?_ ?_)
    · refine (z_X_steps (s' := (87, [(0, .ref 0), (1, .int x1)], [.int (-4)], h)) 1 rfl).trans ?_
      exact z_X_ret rfl
    · refine (z_X_steps (s' := (87, [(0, .ref 0), (1, .int x1)], [.int (h.1 114 1)], h)) 6 rfl).trans ?_
      exact z_X_ret rfl
  refine z_ite ?_ ?_
  · refine (z_X_steps (s' := (92, [(0, .ref 0), (1, .int x1)], [.ref 45], h)) 2 rfl).trans ?_
    refine (z_X_call (id := 114) (a := [.ref 45]) (c := 0) (s' := (95, [(0, .ref 0), (1, .int x1)], [], h)) rfl ⟨Nat.le_of_ble_eq_true rfl, Nat.le_of_ble_eq_true rfl⟩).trans ?_
    refine z_bdc fun r5 h6 => ?_
    refine (z_X_steps (s' := (99, [(0, .ref 0), (1, .int x1)], [.ref 45], h6)) 2 rfl).trans ?_
    refine (z_X_call (id := 118) (a := [.ref 45]) (c := 1) (s' := (102, [(0, .ref 0), (1, .int x1)], [], h6)) rfl ⟨Nat.le_of_ble_eq_true rfl, Nat.le_of_ble_eq_true rfl⟩).trans ?_
    refine z_bdc fun r7 h8 => ?_
    exact z_X_ret rfl
  refine z_ite ?_ ?_
  · refine (z_X_steps (s' := (111, [(0, .ref 0), (1, .int x1)], [.ref 17, .ref 25], h)) 4 rfl).trans ?_
    refine (z_X_call (id := 83) (a := [.ref 25, .ref 17]) (c := 1) (s' := (114, [(0, .ref 0), (1, .int x1)], [], h)) rfl ⟨Nat.le_of_ble_eq_true rfl, Nat.le_of_ble_eq_true rfl⟩).trans ?_
    refine z_bdc fun r9 h10 => ?_
    exact z_X_ret rfl
  refine (z_X_steps (s' := (116, [(0, .ref 0), (1, .int x1)], [.int (-1)], h)) 1 rfl).trans ?_
  exact z_X_ret rfl
set_option maxRecDepth 8000 in
set_option maxHeartbeats 2000000 in
theorem e_X_runTest {p : Nat} (hi : p ∈ [17, 25]) (x2 : Int32) (h : z_H) : z_M 30 [.ref 0, .ref p, .int x2] h = (bif z_in x2 8 then (bif z_in x2 8 then z_bd (z_M 95 [.ref 37, .ref p, .int (h.1 34 (x2.toNatClampNeg)), .int (h.1 35 (x2.toNatClampNeg))] h) (fun r1 h2 => some (0, h2)) else none) else none) := by
  refine (z_M_eq (by decide)).trans ?_
  simp only [List.mem_cons, List.not_mem_nil, or_false, Prod.mk.injEq] at hi
  rcases hi with rfl | rfl
  · show z_X zc_X_runTest 22 (0, [(0, .ref 0), (1, .ref 17), (2, .int x2)], [], h) = _
    refine (z_X_steps (s' := (13, [(0, .ref 0), (1, .ref 17), (2, .int x2)], [.int x2, .ref 34, .ref 17, .ref 37], h)) 7 rfl).trans ?_
    refine (z_X_if (g := z_in x2 8) (s' := (14, [(0, .ref 0), (1, .ref 17), (2, .int x2)], [.int (h.1 34 (x2.toNatClampNeg)), .ref 17, .ref 37], h)) rfl).trans (z_bifA ?_)
    refine (z_X_steps (s' := (22, [(0, .ref 0), (1, .ref 17), (2, .int x2)], [.int x2, .ref 35, .int (h.1 34 (x2.toNatClampNeg)), .ref 17, .ref 37], h)) 4 rfl).trans ?_
    refine (z_X_if (g := z_in x2 8) (s' := (23, [(0, .ref 0), (1, .ref 17), (2, .int x2)], [.int (h.1 35 (x2.toNatClampNeg)), .int (h.1 34 (x2.toNatClampNeg)), .ref 17, .ref 37], h)) rfl).trans (z_bifA ?_)
    refine (z_X_call (id := 95) (a := [.ref 37, .ref 17, .int (h.1 34 (x2.toNatClampNeg)), .int (h.1 35 (x2.toNatClampNeg))]) (c := 0) (s' := (26, [(0, .ref 0), (1, .ref 17), (2, .int x2)], [], h)) rfl ⟨Nat.le_of_ble_eq_true rfl, Nat.le_of_ble_eq_true rfl⟩).trans ?_
    refine z_bdc fun r1 h2 => ?_
    exact z_X_ret rfl
  · show z_X zc_X_runTest 22 (0, [(0, .ref 0), (1, .ref 25), (2, .int x2)], [], h) = _
    refine (z_X_steps (s' := (13, [(0, .ref 0), (1, .ref 25), (2, .int x2)], [.int x2, .ref 34, .ref 25, .ref 37], h)) 7 rfl).trans ?_
    refine (z_X_if (g := z_in x2 8) (s' := (14, [(0, .ref 0), (1, .ref 25), (2, .int x2)], [.int (h.1 34 (x2.toNatClampNeg)), .ref 25, .ref 37], h)) rfl).trans (z_bifA ?_)
    refine (z_X_steps (s' := (22, [(0, .ref 0), (1, .ref 25), (2, .int x2)], [.int x2, .ref 35, .int (h.1 34 (x2.toNatClampNeg)), .ref 25, .ref 37], h)) 4 rfl).trans ?_
    refine (z_X_if (g := z_in x2 8) (s' := (23, [(0, .ref 0), (1, .ref 25), (2, .int x2)], [.int (h.1 35 (x2.toNatClampNeg)), .int (h.1 34 (x2.toNatClampNeg)), .ref 25, .ref 37], h)) rfl).trans (z_bifA ?_)
    refine (z_X_call (id := 95) (a := [.ref 37, .ref 25, .int (h.1 34 (x2.toNatClampNeg)), .int (h.1 35 (x2.toNatClampNeg))]) (c := 0) (s' := (26, [(0, .ref 0), (1, .ref 25), (2, .int x2)], [], h)) rfl ⟨Nat.le_of_ble_eq_true rfl, Nat.le_of_ble_eq_true rfl⟩).trans ?_
    refine z_bdc fun r1 h2 => ?_
    exact z_X_ret rfl
set_option maxRecDepth 8000 in
set_option maxHeartbeats 2000000 in
theorem e_X_edgesInDanger (h : z_H) : z_M 31 [.ref 0] h = z_bd (z_M 109 [.ref 40] h) (fun r1 h2 => z_bd (z_M 107 [.ref 41] h2) (fun r3 h4 => some (r3, h4))) := by
  refine (z_M_eq (by decide)).trans ?_
  show z_X zc_X_edgesInDanger 6 (0, [(0, .ref 0)], [], h) = _
  refine (z_X_steps (s' := (4, [(0, .ref 0)], [.ref 40], h)) 2 rfl).trans ?_
  refine (z_X_call (id := 109) (a := [.ref 40]) (c := 0) (s' := (7, [(0, .ref 0)], [], h)) rfl ⟨Nat.le_of_ble_eq_true rfl, Nat.le_of_ble_eq_true rfl⟩).trans ?_
  refine z_bdc fun r1 h2 => ?_
  refine (z_X_steps (s' := (14, [(0, .ref 0)], [.ref 41], h2)) 3 rfl).trans ?_
  refine (z_X_call (id := 107) (a := [.ref 41]) (c := 1) (s' := (17, [(0, .ref 0)], [], h2)) rfl ⟨Nat.le_of_ble_eq_true rfl, Nat.le_of_ble_eq_true rfl⟩).trans ?_
  refine z_bdc fun r3 h4 => ?_
  exact z_X_ret rfl
set_option maxRecDepth 8000 in
set_option maxHeartbeats 2000000 in
theorem e_X_saysTheSame (x1 : Int32) (x2 : Int32) (h : z_H) : z_M 32 [.ref 0, .int x1, .int x2] h = z_bd (z_M 95 [.ref 37, .ref 17, .int x1, .int x2] h) (fun r1 h2 => z_bd (z_M 95 [.ref 37, .ref 25, .int x1, .int x2] h2) (fun r3 h4 => (if ¬ h2.1 37 0 = h4.1 37 0 then some (0, h4) else some (1, h4)))) := by
  refine (z_M_eq (by decide)).trans ?_
  show z_X zc_X_saysTheSame 22 (0, [(0, .ref 0), (1, .int x1), (2, .int x2)], [], h) = _
  refine (z_X_steps (s' := (10, [(0, .ref 0), (1, .int x1), (2, .int x2)], [.int x2, .int x1, .ref 17, .ref 37], h)) 6 rfl).trans ?_
  refine (z_X_call (id := 95) (a := [.ref 37, .ref 17, .int x1, .int x2]) (c := 0) (s' := (13, [(0, .ref 0), (1, .int x1), (2, .int x2)], [], h)) rfl ⟨Nat.le_of_ble_eq_true rfl, Nat.le_of_ble_eq_true rfl⟩).trans ?_
  refine z_bdc fun r1 h2 => ?_
  refine (z_X_steps (s' := (31, [(3, .int (h2.1 37 0)), (0, .ref 0), (1, .int x1), (2, .int x2)], [.int x2, .int x1, .ref 25, .ref 37], h2)) 10 rfl).trans ?_
  refine (z_X_call (id := 95) (a := [.ref 37, .ref 25, .int x1, .int x2]) (c := 0) (s' := (34, [(3, .int (h2.1 37 0)), (0, .ref 0), (1, .int x1), (2, .int x2)], [], h2)) rfl ⟨Nat.le_of_ble_eq_true rfl, Nat.le_of_ble_eq_true rfl⟩).trans ?_
  refine z_bdc fun r3 h4 => ?_
  refine (z_X_steps (s' := (42, [(3, .int (h2.1 37 0)), (0, .ref 0), (1, .int x1), (2, .int x2)], [.int (h4.1 37 0), .int (h2.1 37 0)], h4)) 4 rfl).trans ?_
  refine (z_X_br (c := ¬ h2.1 37 0 = h4.1 37 0) (s1 := (49, [(3, .int (h2.1 37 0)), (0, .ref 0), (1, .int x1), (2, .int x2)], [], h4)) (s2 := (45, [(3, .int (h2.1 37 0)), (0, .ref 0), (1, .int x1), (2, .int x2)], [], h4)) rfl).trans (z_ite ?_ ?_)
  · refine (z_X_steps (s' := (50, [(3, .int (h2.1 37 0)), (0, .ref 0), (1, .int x1), (2, .int x2)], [.int 0], h4)) 1 rfl).trans ?_
    exact z_X_ret rfl
  · refine (z_X_steps (s' := (50, [(3, .int (h2.1 37 0)), (0, .ref 0), (1, .int x1), (2, .int x2)], [.int 1], h4)) 2 rfl).trans ?_
    exact z_X_ret rfl
noncomputable def zl_X_testsThatSayOther_4 (x1 : Int32) (x2 : Int32) (h : z_H) : Option z_A := z_X zc_X_testsThatSayOther 23 (4, [(0, .ref 0), (1, .int x1), (2, .int x2)], [], h)
set_option maxRecDepth 8000 in
set_option maxHeartbeats 2000000 in
theorem e_X_testsThatSayOther (h : z_H) : z_M 33 [.ref 0] h = zl_X_testsThatSayOther_4 0 0 h := by
  refine (z_M_eq (by decide)).trans ?_
  show z_X zc_X_testsThatSayOther 23 (0, [(0, .ref 0)], [], h) = _
  refine (z_X_steps (s' := (4, [(2, .int 0), (1, .int 0), (0, .ref 0)], [], h)) 4 rfl).trans ?_
  exact z_X_lab rfl
set_option maxRecDepth 8000 in
set_option maxHeartbeats 2000000 in
theorem e_X_testsThatSayOther_4 (x1 : Int32) (x2 : Int32) (h : z_H) : zl_X_testsThatSayOther_4 x1 x2 h = (if h.1 33 0 ≤ x2 then some (x1, h) else (bif z_in x2 8 then (bif z_in x2 8 then z_bd (z_M 32 [.ref 0, .int (h.1 34 (x2.toNatClampNeg)), .int (h.1 35 (x2.toNatClampNeg))] h) (fun r1 h2 => (if ¬ r1 = 0 then zl_X_testsThatSayOther_4 x1 (x2 + 1) h2 else zl_X_testsThatSayOther_4 (x1 + 1) (x2 + 1) h2)) else none) else none)) := by
  show z_X zc_X_testsThatSayOther 23 (4, [(0, .ref 0), (1, .int x1), (2, .int x2)], [], h) = _
  refine (z_X_steps (s' := (12, [(0, .ref 0), (1, .int x1), (2, .int x2)], [.int (h.1 33 0), .int x2], h)) 4 rfl).trans ?_
  refine (z_X_br (c := h.1 33 0 ≤ x2) (s1 := (49, [(0, .ref 0), (1, .int x1), (2, .int x2)], [], h)) (s2 := (15, [(0, .ref 0), (1, .int x1), (2, .int x2)], [], h)) rfl).trans (z_ite ?_ ?_)
  · refine (z_X_steps (s' := (50, [(0, .ref 0), (1, .int x1), (2, .int x2)], [.int x1], h)) 1 rfl).trans ?_
    exact z_X_ret rfl
  · refine (z_X_steps (s' := (24, [(0, .ref 0), (1, .int x1), (2, .int x2)], [.int x2, .ref 34, .ref 0], h)) 5 rfl).trans ?_
    refine (z_X_if (g := z_in x2 8) (s' := (25, [(0, .ref 0), (1, .int x1), (2, .int x2)], [.int (h.1 34 (x2.toNatClampNeg)), .ref 0], h)) rfl).trans (z_bifA ?_)
    refine (z_X_steps (s' := (33, [(0, .ref 0), (1, .int x1), (2, .int x2)], [.int x2, .ref 35, .int (h.1 34 (x2.toNatClampNeg)), .ref 0], h)) 4 rfl).trans ?_
    refine (z_X_if (g := z_in x2 8) (s' := (34, [(0, .ref 0), (1, .int x1), (2, .int x2)], [.int (h.1 35 (x2.toNatClampNeg)), .int (h.1 34 (x2.toNatClampNeg)), .ref 0], h)) rfl).trans (z_bifA ?_)
    refine (z_X_call (id := 32) (a := [.ref 0, .int (h.1 34 (x2.toNatClampNeg)), .int (h.1 35 (x2.toNatClampNeg))]) (c := 1) (s' := (37, [(0, .ref 0), (1, .int x1), (2, .int x2)], [], h)) rfl ⟨Nat.le_of_ble_eq_true rfl, Nat.le_of_ble_eq_true rfl⟩).trans ?_
    refine z_bdc fun r1 h2 => ?_
    refine (z_X_br (c := ¬ r1 = 0) (s1 := (43, [(0, .ref 0), (1, .int x1), (2, .int x2)], [], h2)) (s2 := (40, [(0, .ref 0), (1, .int x1), (2, .int x2)], [], h2)) rfl).trans (z_ite ?_ ?_)
    · refine (z_X_steps (s' := (4, [(2, .int (x2 + 1)), (0, .ref 0), (1, .int x1)], [], h2)) 2 rfl).trans ?_
      exact z_X_lab rfl
    · refine (z_X_steps (s' := (4, [(2, .int (x2 + 1)), (1, .int (x1 + 1)), (0, .ref 0)], [], h2)) 3 rfl).trans ?_
      exact z_X_lab rfl
noncomputable def zl_X_imagesKept_4 (x1 : Int32) (x2 : Int32) (h : z_H) : Option z_A := z_X zc_X_imagesKept 1 (4, [(0, .ref 0), (1, .int x1), (2, .int x2)], [], h)
set_option maxRecDepth 8000 in
set_option maxHeartbeats 2000000 in
theorem e_X_imagesKept (h : z_H) : z_M 34 [.ref 0] h = zl_X_imagesKept_4 0 0 h := by
  refine (z_M_eq (by decide)).trans ?_
  show z_X zc_X_imagesKept 1 (0, [(0, .ref 0)], [], h) = _
  refine (z_X_steps (s' := (4, [(2, .int 0), (1, .int 0), (0, .ref 0)], [], h)) 4 rfl).trans ?_
  exact z_X_lab rfl
set_option maxRecDepth 8000 in
set_option maxHeartbeats 2000000 in
theorem e_X_imagesKept_4 (x1 : Int32) (x2 : Int32) (h : z_H) : zl_X_imagesKept_4 x1 x2 h = (if (2 : Int32) ≤ x2 then some (x1, h) else (bif z_in x2 2 then (if h.1 (72 + 21 * x2.toNatClampNeg) 0 = 0 then zl_X_imagesKept_4 x1 (x2 + 1) h else zl_X_imagesKept_4 (x1 + 1) (x2 + 1) h) else none)) := by
  show z_X zc_X_imagesKept 1 (4, [(0, .ref 0), (1, .int x1), (2, .int x2)], [], h) = _
  refine (z_X_steps (s' := (6, [(0, .ref 0), (1, .int x1), (2, .int x2)], [.int 2, .int x2], h)) 2 rfl).trans ?_
  refine (z_X_br (c := (2 : Int32) ≤ x2) (s1 := (30, [(0, .ref 0), (1, .int x1), (2, .int x2)], [], h)) (s2 := (9, [(0, .ref 0), (1, .int x1), (2, .int x2)], [], h)) rfl).trans (z_ite ?_ ?_)
  · refine (z_X_steps (s' := (31, [(0, .ref 0), (1, .int x1), (2, .int x2)], [.int x1], h)) 1 rfl).trans ?_
    exact z_X_ret rfl
  · refine (z_X_steps (s' := (14, [(0, .ref 0), (1, .int x1), (2, .int x2)], [.int x2, .ref 70], h)) 3 rfl).trans ?_
    refine (z_X_if (g := z_in x2 2) (s' := (15, [(0, .ref 0), (1, .int x1), (2, .int x2)], [.ref (72 + 21 * x2.toNatClampNeg)], h)) rfl).trans (z_bifE2 ?_)
    refine ⟨fun e => ?_, fun e => ?_⟩
    · subst e
      refine (z_X_steps (s' := (18, [(0, .ref 0), (1, .int x1), (2, .int (nI 0))], [.int (h.1 (72 + 21 * (nI 0).toNatClampNeg) 0)], h)) 1 rfl).trans ?_
      refine (z_X_br (c := h.1 (72 + 21 * (nI 0).toNatClampNeg) 0 = 0) (s1 := (24, [(0, .ref 0), (1, .int x1), (2, .int (nI 0))], [], h)) (s2 := (21, [(0, .ref 0), (1, .int x1), (2, .int (nI 0))], [], h)) rfl).trans (z_ite ?_ ?_)
      · refine (z_X_steps (s' := (4, [(2, .int ((nI 0) + 1)), (0, .ref 0), (1, .int x1)], [], h)) 2 rfl).trans ?_
        exact z_X_lab rfl
      · refine (z_X_steps (s' := (4, [(2, .int ((nI 0) + 1)), (1, .int (x1 + 1)), (0, .ref 0)], [], h)) 3 rfl).trans ?_
        exact z_X_lab rfl
    · subst e
      refine (z_X_steps (s' := (18, [(0, .ref 0), (1, .int x1), (2, .int (nI 1))], [.int (h.1 (72 + 21 * (nI 1).toNatClampNeg) 0)], h)) 1 rfl).trans ?_
      refine (z_X_br (c := h.1 (72 + 21 * (nI 1).toNatClampNeg) 0 = 0) (s1 := (24, [(0, .ref 0), (1, .int x1), (2, .int (nI 1))], [], h)) (s2 := (21, [(0, .ref 0), (1, .int x1), (2, .int (nI 1))], [], h)) rfl).trans (z_ite ?_ ?_)
      · refine (z_X_steps (s' := (4, [(2, .int ((nI 1) + 1)), (0, .ref 0), (1, .int x1)], [], h)) 2 rfl).trans ?_
        exact z_X_lab rfl
      · refine (z_X_steps (s' := (4, [(2, .int ((nI 1) + 1)), (1, .int (x1 + 1)), (0, .ref 0)], [], h)) 3 rfl).trans ?_
        exact z_X_lab rfl
noncomputable def zl_X_firstRefused_3 (o : Nat) (x2 : Int32) (x3 : Int32) (x4 : Int32) (h : z_H) : Option z_A := z_X zc_X_firstRefused 5 (3, [(0, .ref 0), (1, .ref o), (2, .int x2), (3, .int x3), (4, .int x4)], [], h)
set_option maxRecDepth 8000 in
set_option maxHeartbeats 2000000 in
theorem e_X_firstRefused {o : Nat} (hi : o ∈ [114, 116, 118, 120]) (x2 : Int32) (x3 : Int32) (h : z_H) : z_M 35 [.ref 0, .ref o, .int x2, .int x3] h = zl_X_firstRefused_3 o x2 x3 0 h := by
  refine (z_M_eq (by decide)).trans ?_
  simp only [List.mem_cons, List.not_mem_nil, or_false, Prod.mk.injEq] at hi
  rcases hi with rfl | rfl | rfl | rfl
  · show z_X zc_X_firstRefused 5 (0, [(0, .ref 0), (1, .ref 114), (2, .int x2), (3, .int x3)], [], h) = _
    refine (z_X_steps (s' := (3, [(4, .int 0), (0, .ref 0), (1, .ref 114), (2, .int x2), (3, .int x3)], [], h)) 2 rfl).trans ?_
    exact z_X_lab rfl
  · show z_X zc_X_firstRefused 5 (0, [(0, .ref 0), (1, .ref 116), (2, .int x2), (3, .int x3)], [], h) = _
    refine (z_X_steps (s' := (3, [(4, .int 0), (0, .ref 0), (1, .ref 116), (2, .int x2), (3, .int x3)], [], h)) 2 rfl).trans ?_
    exact z_X_lab rfl
  · show z_X zc_X_firstRefused 5 (0, [(0, .ref 0), (1, .ref 118), (2, .int x2), (3, .int x3)], [], h) = _
    refine (z_X_steps (s' := (3, [(4, .int 0), (0, .ref 0), (1, .ref 118), (2, .int x2), (3, .int x3)], [], h)) 2 rfl).trans ?_
    exact z_X_lab rfl
  · show z_X zc_X_firstRefused 5 (0, [(0, .ref 0), (1, .ref 120), (2, .int x2), (3, .int x3)], [], h) = _
    refine (z_X_steps (s' := (3, [(4, .int 0), (0, .ref 0), (1, .ref 120), (2, .int x2), (3, .int x3)], [], h)) 2 rfl).trans ?_
    exact z_X_lab rfl
set_option maxRecDepth 8000 in
set_option maxHeartbeats 2000000 in
theorem e_X_firstRefused_3 {o : Nat} (hi : o ∈ [114, 116, 118, 120]) (x2 : Int32) (x3 : Int32) (x4 : Int32) (h : z_H) : zl_X_firstRefused_3 o x2 x3 x4 h = (if x3 ≤ x4 then some (x3, h) else z_bd (z_M 124 [.ref o, .int (x2 + (4 * x4))] h) (fun r1 h2 => z_bd (z_M 124 [.ref o, .int ((x2 + (4 * x4)) + 1)] h2) (fun r3 h4 => z_bd (z_M 124 [.ref o, .int ((x2 + (4 * x4)) + 2)] h4) (fun r5 h6 => z_bd (z_M 124 [.ref o, .int ((x2 + (4 * x4)) + 3)] h6) (fun r7 h8 => z_bd (z_M 76 [.ref 25, .int r1, .int r3, .int r5, .int r7] h8) (fun r9 h10 => (if ¬ r9 = 0 then zl_X_firstRefused_3 o x2 x3 (x4 + 1) h10 else some (x4, h10)))))))) := by
  simp only [List.mem_cons, List.not_mem_nil, or_false, Prod.mk.injEq] at hi
  rcases hi with rfl | rfl | rfl | rfl
  · show z_X zc_X_firstRefused 5 (3, [(0, .ref 0), (1, .ref 114), (2, .int x2), (3, .int x3), (4, .int x4)], [], h) = _
    refine (z_X_steps (s' := (6, [(0, .ref 0), (1, .ref 114), (2, .int x2), (3, .int x3), (4, .int x4)], [.int x3, .int x4], h)) 2 rfl).trans ?_
    refine (z_X_br (c := x3 ≤ x4) (s1 := (66, [(0, .ref 0), (1, .ref 114), (2, .int x2), (3, .int x3), (4, .int x4)], [], h)) (s2 := (9, [(0, .ref 0), (1, .ref 114), (2, .int x2), (3, .int x3), (4, .int x4)], [], h)) rfl).trans (z_ite ?_ ?_)
    · refine (z_X_steps (s' := (67, [(0, .ref 0), (1, .ref 114), (2, .int x2), (3, .int x3), (4, .int x4)], [.int x3], h)) 1 rfl).trans ?_
      exact z_X_ret rfl
    · refine (z_X_steps (s' := (24, [(5, .int (x2 + (4 * x4))), (0, .ref 0), (1, .ref 114), (2, .int x2), (3, .int x3), (4, .int x4)], [.int (x2 + (4 * x4)), .ref 114, .ref 25], h)) 10 rfl).trans ?_
      refine (z_X_call (id := 124) (a := [.ref 114, .int (x2 + (4 * x4))]) (c := 1) (s' := (27, [(5, .int (x2 + (4 * x4))), (0, .ref 0), (1, .ref 114), (2, .int x2), (3, .int x3), (4, .int x4)], [.ref 25], h)) rfl ⟨Nat.le_of_ble_eq_true rfl, Nat.le_of_ble_eq_true rfl⟩).trans ?_
      refine z_bdc fun r1 h2 => ?_
      refine (z_X_steps (s' := (32, [(5, .int (x2 + (4 * x4))), (0, .ref 0), (1, .ref 114), (2, .int x2), (3, .int x3), (4, .int x4)], [.int ((x2 + (4 * x4)) + 1), .ref 114, .int r1, .ref 25], h2)) 4 rfl).trans ?_
      refine (z_X_call (id := 124) (a := [.ref 114, .int ((x2 + (4 * x4)) + 1)]) (c := 1) (s' := (35, [(5, .int (x2 + (4 * x4))), (0, .ref 0), (1, .ref 114), (2, .int x2), (3, .int x3), (4, .int x4)], [.int r1, .ref 25], h2)) rfl ⟨Nat.le_of_ble_eq_true rfl, Nat.le_of_ble_eq_true rfl⟩).trans ?_
      refine z_bdc fun r3 h4 => ?_
      refine (z_X_steps (s' := (40, [(5, .int (x2 + (4 * x4))), (0, .ref 0), (1, .ref 114), (2, .int x2), (3, .int x3), (4, .int x4)], [.int ((x2 + (4 * x4)) + 2), .ref 114, .int r3, .int r1, .ref 25], h4)) 4 rfl).trans ?_
      refine (z_X_call (id := 124) (a := [.ref 114, .int ((x2 + (4 * x4)) + 2)]) (c := 1) (s' := (43, [(5, .int (x2 + (4 * x4))), (0, .ref 0), (1, .ref 114), (2, .int x2), (3, .int x3), (4, .int x4)], [.int r3, .int r1, .ref 25], h4)) rfl ⟨Nat.le_of_ble_eq_true rfl, Nat.le_of_ble_eq_true rfl⟩).trans ?_
      refine z_bdc fun r5 h6 => ?_
      refine (z_X_steps (s' := (48, [(5, .int (x2 + (4 * x4))), (0, .ref 0), (1, .ref 114), (2, .int x2), (3, .int x3), (4, .int x4)], [.int ((x2 + (4 * x4)) + 3), .ref 114, .int r5, .int r3, .int r1, .ref 25], h6)) 4 rfl).trans ?_
      refine (z_X_call (id := 124) (a := [.ref 114, .int ((x2 + (4 * x4)) + 3)]) (c := 1) (s' := (51, [(5, .int (x2 + (4 * x4))), (0, .ref 0), (1, .ref 114), (2, .int x2), (3, .int x3), (4, .int x4)], [.int r5, .int r3, .int r1, .ref 25], h6)) rfl ⟨Nat.le_of_ble_eq_true rfl, Nat.le_of_ble_eq_true rfl⟩).trans ?_
      refine z_bdc fun r7 h8 => ?_
      refine (z_X_call (id := 76) (a := [.ref 25, .int r1, .int r3, .int r5, .int r7]) (c := 1) (s' := (54, [(5, .int (x2 + (4 * x4))), (0, .ref 0), (1, .ref 114), (2, .int x2), (3, .int x3), (4, .int x4)], [], h8)) rfl ⟨Nat.le_of_ble_eq_true rfl, Nat.le_of_ble_eq_true rfl⟩).trans ?_
      refine z_bdc fun r9 h10 => ?_
      refine (z_X_br (c := ¬ r9 = 0) (s1 := (60, [(5, .int (x2 + (4 * x4))), (0, .ref 0), (1, .ref 114), (2, .int x2), (3, .int x3), (4, .int x4)], [], h10)) (s2 := (57, [(5, .int (x2 + (4 * x4))), (0, .ref 0), (1, .ref 114), (2, .int x2), (3, .int x3), (4, .int x4)], [], h10)) rfl).trans (z_ite ?_ ?_)
      · refine (z_X_steps (s' := (3, [(4, .int (x4 + 1)), (5, .int (x2 + (4 * x4))), (0, .ref 0), (1, .ref 114), (2, .int x2), (3, .int x3)], [], h10)) 2 rfl).trans ?_
        exact z_X_lab rfl
      · refine (z_X_steps (s' := (59, [(5, .int (x2 + (4 * x4))), (0, .ref 0), (1, .ref 114), (2, .int x2), (3, .int x3), (4, .int x4)], [.int x4], h10)) 1 rfl).trans ?_
        exact z_X_ret rfl
  · show z_X zc_X_firstRefused 5 (3, [(0, .ref 0), (1, .ref 116), (2, .int x2), (3, .int x3), (4, .int x4)], [], h) = _
    refine (z_X_steps (s' := (6, [(0, .ref 0), (1, .ref 116), (2, .int x2), (3, .int x3), (4, .int x4)], [.int x3, .int x4], h)) 2 rfl).trans ?_
    refine (z_X_br (c := x3 ≤ x4) (s1 := (66, [(0, .ref 0), (1, .ref 116), (2, .int x2), (3, .int x3), (4, .int x4)], [], h)) (s2 := (9, [(0, .ref 0), (1, .ref 116), (2, .int x2), (3, .int x3), (4, .int x4)], [], h)) rfl).trans (z_ite ?_ ?_)
    · refine (z_X_steps (s' := (67, [(0, .ref 0), (1, .ref 116), (2, .int x2), (3, .int x3), (4, .int x4)], [.int x3], h)) 1 rfl).trans ?_
      exact z_X_ret rfl
    · refine (z_X_steps (s' := (24, [(5, .int (x2 + (4 * x4))), (0, .ref 0), (1, .ref 116), (2, .int x2), (3, .int x3), (4, .int x4)], [.int (x2 + (4 * x4)), .ref 116, .ref 25], h)) 10 rfl).trans ?_
      refine (z_X_call (id := 124) (a := [.ref 116, .int (x2 + (4 * x4))]) (c := 1) (s' := (27, [(5, .int (x2 + (4 * x4))), (0, .ref 0), (1, .ref 116), (2, .int x2), (3, .int x3), (4, .int x4)], [.ref 25], h)) rfl ⟨Nat.le_of_ble_eq_true rfl, Nat.le_of_ble_eq_true rfl⟩).trans ?_
      refine z_bdc fun r1 h2 => ?_
      refine (z_X_steps (s' := (32, [(5, .int (x2 + (4 * x4))), (0, .ref 0), (1, .ref 116), (2, .int x2), (3, .int x3), (4, .int x4)], [.int ((x2 + (4 * x4)) + 1), .ref 116, .int r1, .ref 25], h2)) 4 rfl).trans ?_
      refine (z_X_call (id := 124) (a := [.ref 116, .int ((x2 + (4 * x4)) + 1)]) (c := 1) (s' := (35, [(5, .int (x2 + (4 * x4))), (0, .ref 0), (1, .ref 116), (2, .int x2), (3, .int x3), (4, .int x4)], [.int r1, .ref 25], h2)) rfl ⟨Nat.le_of_ble_eq_true rfl, Nat.le_of_ble_eq_true rfl⟩).trans ?_
      refine z_bdc fun r3 h4 => ?_
      refine (z_X_steps (s' := (40, [(5, .int (x2 + (4 * x4))), (0, .ref 0), (1, .ref 116), (2, .int x2), (3, .int x3), (4, .int x4)], [.int ((x2 + (4 * x4)) + 2), .ref 116, .int r3, .int r1, .ref 25], h4)) 4 rfl).trans ?_
      refine (z_X_call (id := 124) (a := [.ref 116, .int ((x2 + (4 * x4)) + 2)]) (c := 1) (s' := (43, [(5, .int (x2 + (4 * x4))), (0, .ref 0), (1, .ref 116), (2, .int x2), (3, .int x3), (4, .int x4)], [.int r3, .int r1, .ref 25], h4)) rfl ⟨Nat.le_of_ble_eq_true rfl, Nat.le_of_ble_eq_true rfl⟩).trans ?_
      refine z_bdc fun r5 h6 => ?_
      refine (z_X_steps (s' := (48, [(5, .int (x2 + (4 * x4))), (0, .ref 0), (1, .ref 116), (2, .int x2), (3, .int x3), (4, .int x4)], [.int ((x2 + (4 * x4)) + 3), .ref 116, .int r5, .int r3, .int r1, .ref 25], h6)) 4 rfl).trans ?_
      refine (z_X_call (id := 124) (a := [.ref 116, .int ((x2 + (4 * x4)) + 3)]) (c := 1) (s' := (51, [(5, .int (x2 + (4 * x4))), (0, .ref 0), (1, .ref 116), (2, .int x2), (3, .int x3), (4, .int x4)], [.int r5, .int r3, .int r1, .ref 25], h6)) rfl ⟨Nat.le_of_ble_eq_true rfl, Nat.le_of_ble_eq_true rfl⟩).trans ?_
      refine z_bdc fun r7 h8 => ?_
      refine (z_X_call (id := 76) (a := [.ref 25, .int r1, .int r3, .int r5, .int r7]) (c := 1) (s' := (54, [(5, .int (x2 + (4 * x4))), (0, .ref 0), (1, .ref 116), (2, .int x2), (3, .int x3), (4, .int x4)], [], h8)) rfl ⟨Nat.le_of_ble_eq_true rfl, Nat.le_of_ble_eq_true rfl⟩).trans ?_
      refine z_bdc fun r9 h10 => ?_
      refine (z_X_br (c := ¬ r9 = 0) (s1 := (60, [(5, .int (x2 + (4 * x4))), (0, .ref 0), (1, .ref 116), (2, .int x2), (3, .int x3), (4, .int x4)], [], h10)) (s2 := (57, [(5, .int (x2 + (4 * x4))), (0, .ref 0), (1, .ref 116), (2, .int x2), (3, .int x3), (4, .int x4)], [], h10)) rfl).trans (z_ite ?_ ?_)
      · refine (z_X_steps (s' := (3, [(4, .int (x4 + 1)), (5, .int (x2 + (4 * x4))), (0, .ref 0), (1, .ref 116), (2, .int x2), (3, .int x3)], [], h10)) 2 rfl).trans ?_
        exact z_X_lab rfl
      · refine (z_X_steps (s' := (59, [(5, .int (x2 + (4 * x4))), (0, .ref 0), (1, .ref 116), (2, .int x2), (3, .int x3), (4, .int x4)], [.int x4], h10)) 1 rfl).trans ?_
        exact z_X_ret rfl
  · show z_X zc_X_firstRefused 5 (3, [(0, .ref 0), (1, .ref 118), (2, .int x2), (3, .int x3), (4, .int x4)], [], h) = _
    refine (z_X_steps (s' := (6, [(0, .ref 0), (1, .ref 118), (2, .int x2), (3, .int x3), (4, .int x4)], [.int x3, .int x4], h)) 2 rfl).trans ?_
    refine (z_X_br (c := x3 ≤ x4) (s1 := (66, [(0, .ref 0), (1, .ref 118), (2, .int x2), (3, .int x3), (4, .int x4)], [], h)) (s2 := (9, [(0, .ref 0), (1, .ref 118), (2, .int x2), (3, .int x3), (4, .int x4)], [], h)) rfl).trans (z_ite ?_ ?_)
    · refine (z_X_steps (s' := (67, [(0, .ref 0), (1, .ref 118), (2, .int x2), (3, .int x3), (4, .int x4)], [.int x3], h)) 1 rfl).trans ?_
      exact z_X_ret rfl
    · refine (z_X_steps (s' := (24, [(5, .int (x2 + (4 * x4))), (0, .ref 0), (1, .ref 118), (2, .int x2), (3, .int x3), (4, .int x4)], [.int (x2 + (4 * x4)), .ref 118, .ref 25], h)) 10 rfl).trans ?_
      refine (z_X_call (id := 124) (a := [.ref 118, .int (x2 + (4 * x4))]) (c := 1) (s' := (27, [(5, .int (x2 + (4 * x4))), (0, .ref 0), (1, .ref 118), (2, .int x2), (3, .int x3), (4, .int x4)], [.ref 25], h)) rfl ⟨Nat.le_of_ble_eq_true rfl, Nat.le_of_ble_eq_true rfl⟩).trans ?_
      refine z_bdc fun r1 h2 => ?_
      refine (z_X_steps (s' := (32, [(5, .int (x2 + (4 * x4))), (0, .ref 0), (1, .ref 118), (2, .int x2), (3, .int x3), (4, .int x4)], [.int ((x2 + (4 * x4)) + 1), .ref 118, .int r1, .ref 25], h2)) 4 rfl).trans ?_
      refine (z_X_call (id := 124) (a := [.ref 118, .int ((x2 + (4 * x4)) + 1)]) (c := 1) (s' := (35, [(5, .int (x2 + (4 * x4))), (0, .ref 0), (1, .ref 118), (2, .int x2), (3, .int x3), (4, .int x4)], [.int r1, .ref 25], h2)) rfl ⟨Nat.le_of_ble_eq_true rfl, Nat.le_of_ble_eq_true rfl⟩).trans ?_
      refine z_bdc fun r3 h4 => ?_
      refine (z_X_steps (s' := (40, [(5, .int (x2 + (4 * x4))), (0, .ref 0), (1, .ref 118), (2, .int x2), (3, .int x3), (4, .int x4)], [.int ((x2 + (4 * x4)) + 2), .ref 118, .int r3, .int r1, .ref 25], h4)) 4 rfl).trans ?_
      refine (z_X_call (id := 124) (a := [.ref 118, .int ((x2 + (4 * x4)) + 2)]) (c := 1) (s' := (43, [(5, .int (x2 + (4 * x4))), (0, .ref 0), (1, .ref 118), (2, .int x2), (3, .int x3), (4, .int x4)], [.int r3, .int r1, .ref 25], h4)) rfl ⟨Nat.le_of_ble_eq_true rfl, Nat.le_of_ble_eq_true rfl⟩).trans ?_
      refine z_bdc fun r5 h6 => ?_
      refine (z_X_steps (s' := (48, [(5, .int (x2 + (4 * x4))), (0, .ref 0), (1, .ref 118), (2, .int x2), (3, .int x3), (4, .int x4)], [.int ((x2 + (4 * x4)) + 3), .ref 118, .int r5, .int r3, .int r1, .ref 25], h6)) 4 rfl).trans ?_
      refine (z_X_call (id := 124) (a := [.ref 118, .int ((x2 + (4 * x4)) + 3)]) (c := 1) (s' := (51, [(5, .int (x2 + (4 * x4))), (0, .ref 0), (1, .ref 118), (2, .int x2), (3, .int x3), (4, .int x4)], [.int r5, .int r3, .int r1, .ref 25], h6)) rfl ⟨Nat.le_of_ble_eq_true rfl, Nat.le_of_ble_eq_true rfl⟩).trans ?_
      refine z_bdc fun r7 h8 => ?_
      refine (z_X_call (id := 76) (a := [.ref 25, .int r1, .int r3, .int r5, .int r7]) (c := 1) (s' := (54, [(5, .int (x2 + (4 * x4))), (0, .ref 0), (1, .ref 118), (2, .int x2), (3, .int x3), (4, .int x4)], [], h8)) rfl ⟨Nat.le_of_ble_eq_true rfl, Nat.le_of_ble_eq_true rfl⟩).trans ?_
      refine z_bdc fun r9 h10 => ?_
      refine (z_X_br (c := ¬ r9 = 0) (s1 := (60, [(5, .int (x2 + (4 * x4))), (0, .ref 0), (1, .ref 118), (2, .int x2), (3, .int x3), (4, .int x4)], [], h10)) (s2 := (57, [(5, .int (x2 + (4 * x4))), (0, .ref 0), (1, .ref 118), (2, .int x2), (3, .int x3), (4, .int x4)], [], h10)) rfl).trans (z_ite ?_ ?_)
      · refine (z_X_steps (s' := (3, [(4, .int (x4 + 1)), (5, .int (x2 + (4 * x4))), (0, .ref 0), (1, .ref 118), (2, .int x2), (3, .int x3)], [], h10)) 2 rfl).trans ?_
        exact z_X_lab rfl
      · refine (z_X_steps (s' := (59, [(5, .int (x2 + (4 * x4))), (0, .ref 0), (1, .ref 118), (2, .int x2), (3, .int x3), (4, .int x4)], [.int x4], h10)) 1 rfl).trans ?_
        exact z_X_ret rfl
  · show z_X zc_X_firstRefused 5 (3, [(0, .ref 0), (1, .ref 120), (2, .int x2), (3, .int x3), (4, .int x4)], [], h) = _
    refine (z_X_steps (s' := (6, [(0, .ref 0), (1, .ref 120), (2, .int x2), (3, .int x3), (4, .int x4)], [.int x3, .int x4], h)) 2 rfl).trans ?_
    refine (z_X_br (c := x3 ≤ x4) (s1 := (66, [(0, .ref 0), (1, .ref 120), (2, .int x2), (3, .int x3), (4, .int x4)], [], h)) (s2 := (9, [(0, .ref 0), (1, .ref 120), (2, .int x2), (3, .int x3), (4, .int x4)], [], h)) rfl).trans (z_ite ?_ ?_)
    · refine (z_X_steps (s' := (67, [(0, .ref 0), (1, .ref 120), (2, .int x2), (3, .int x3), (4, .int x4)], [.int x3], h)) 1 rfl).trans ?_
      exact z_X_ret rfl
    · refine (z_X_steps (s' := (24, [(5, .int (x2 + (4 * x4))), (0, .ref 0), (1, .ref 120), (2, .int x2), (3, .int x3), (4, .int x4)], [.int (x2 + (4 * x4)), .ref 120, .ref 25], h)) 10 rfl).trans ?_
      refine (z_X_call (id := 124) (a := [.ref 120, .int (x2 + (4 * x4))]) (c := 1) (s' := (27, [(5, .int (x2 + (4 * x4))), (0, .ref 0), (1, .ref 120), (2, .int x2), (3, .int x3), (4, .int x4)], [.ref 25], h)) rfl ⟨Nat.le_of_ble_eq_true rfl, Nat.le_of_ble_eq_true rfl⟩).trans ?_
      refine z_bdc fun r1 h2 => ?_
      refine (z_X_steps (s' := (32, [(5, .int (x2 + (4 * x4))), (0, .ref 0), (1, .ref 120), (2, .int x2), (3, .int x3), (4, .int x4)], [.int ((x2 + (4 * x4)) + 1), .ref 120, .int r1, .ref 25], h2)) 4 rfl).trans ?_
      refine (z_X_call (id := 124) (a := [.ref 120, .int ((x2 + (4 * x4)) + 1)]) (c := 1) (s' := (35, [(5, .int (x2 + (4 * x4))), (0, .ref 0), (1, .ref 120), (2, .int x2), (3, .int x3), (4, .int x4)], [.int r1, .ref 25], h2)) rfl ⟨Nat.le_of_ble_eq_true rfl, Nat.le_of_ble_eq_true rfl⟩).trans ?_
      refine z_bdc fun r3 h4 => ?_
      refine (z_X_steps (s' := (40, [(5, .int (x2 + (4 * x4))), (0, .ref 0), (1, .ref 120), (2, .int x2), (3, .int x3), (4, .int x4)], [.int ((x2 + (4 * x4)) + 2), .ref 120, .int r3, .int r1, .ref 25], h4)) 4 rfl).trans ?_
      refine (z_X_call (id := 124) (a := [.ref 120, .int ((x2 + (4 * x4)) + 2)]) (c := 1) (s' := (43, [(5, .int (x2 + (4 * x4))), (0, .ref 0), (1, .ref 120), (2, .int x2), (3, .int x3), (4, .int x4)], [.int r3, .int r1, .ref 25], h4)) rfl ⟨Nat.le_of_ble_eq_true rfl, Nat.le_of_ble_eq_true rfl⟩).trans ?_
      refine z_bdc fun r5 h6 => ?_
      refine (z_X_steps (s' := (48, [(5, .int (x2 + (4 * x4))), (0, .ref 0), (1, .ref 120), (2, .int x2), (3, .int x3), (4, .int x4)], [.int ((x2 + (4 * x4)) + 3), .ref 120, .int r5, .int r3, .int r1, .ref 25], h6)) 4 rfl).trans ?_
      refine (z_X_call (id := 124) (a := [.ref 120, .int ((x2 + (4 * x4)) + 3)]) (c := 1) (s' := (51, [(5, .int (x2 + (4 * x4))), (0, .ref 0), (1, .ref 120), (2, .int x2), (3, .int x3), (4, .int x4)], [.int r5, .int r3, .int r1, .ref 25], h6)) rfl ⟨Nat.le_of_ble_eq_true rfl, Nat.le_of_ble_eq_true rfl⟩).trans ?_
      refine z_bdc fun r7 h8 => ?_
      refine (z_X_call (id := 76) (a := [.ref 25, .int r1, .int r3, .int r5, .int r7]) (c := 1) (s' := (54, [(5, .int (x2 + (4 * x4))), (0, .ref 0), (1, .ref 120), (2, .int x2), (3, .int x3), (4, .int x4)], [], h8)) rfl ⟨Nat.le_of_ble_eq_true rfl, Nat.le_of_ble_eq_true rfl⟩).trans ?_
      refine z_bdc fun r9 h10 => ?_
      refine (z_X_br (c := ¬ r9 = 0) (s1 := (60, [(5, .int (x2 + (4 * x4))), (0, .ref 0), (1, .ref 120), (2, .int x2), (3, .int x3), (4, .int x4)], [], h10)) (s2 := (57, [(5, .int (x2 + (4 * x4))), (0, .ref 0), (1, .ref 120), (2, .int x2), (3, .int x3), (4, .int x4)], [], h10)) rfl).trans (z_ite ?_ ?_)
      · refine (z_X_steps (s' := (3, [(4, .int (x4 + 1)), (5, .int (x2 + (4 * x4))), (0, .ref 0), (1, .ref 120), (2, .int x2), (3, .int x3)], [], h10)) 2 rfl).trans ?_
        exact z_X_lab rfl
      · refine (z_X_steps (s' := (59, [(5, .int (x2 + (4 * x4))), (0, .ref 0), (1, .ref 120), (2, .int x2), (3, .int x3), (4, .int x4)], [.int x4], h10)) 1 rfl).trans ?_
        exact z_X_ret rfl
noncomputable def zl_X_turnAll_3 (o : Nat) (x2 : Int32) (x3 : Int32) (x4 : Int32) (h : z_H) : Option z_A := z_X zc_X_turnAll 5 (3, [(0, .ref 0), (1, .ref o), (2, .int x2), (3, .int x3), (4, .int x4)], [], h)
set_option maxRecDepth 8000 in
set_option maxHeartbeats 2000000 in
theorem e_X_turnAll {o : Nat} (hi : o ∈ [114, 116, 118, 120]) (x2 : Int32) (x3 : Int32) (h : z_H) : z_M 36 [.ref 0, .ref o, .int x2, .int x3] h = zl_X_turnAll_3 o x2 x3 0 h := by
  refine (z_M_eq (by decide)).trans ?_
  simp only [List.mem_cons, List.not_mem_nil, or_false, Prod.mk.injEq] at hi
  rcases hi with rfl | rfl | rfl | rfl
  · show z_X zc_X_turnAll 5 (0, [(0, .ref 0), (1, .ref 114), (2, .int x2), (3, .int x3)], [], h) = _
    refine (z_X_steps (s' := (3, [(4, .int 0), (0, .ref 0), (1, .ref 114), (2, .int x2), (3, .int x3)], [], h)) 2 rfl).trans ?_
    exact z_X_lab rfl
  · show z_X zc_X_turnAll 5 (0, [(0, .ref 0), (1, .ref 116), (2, .int x2), (3, .int x3)], [], h) = _
    refine (z_X_steps (s' := (3, [(4, .int 0), (0, .ref 0), (1, .ref 116), (2, .int x2), (3, .int x3)], [], h)) 2 rfl).trans ?_
    exact z_X_lab rfl
  · show z_X zc_X_turnAll 5 (0, [(0, .ref 0), (1, .ref 118), (2, .int x2), (3, .int x3)], [], h) = _
    refine (z_X_steps (s' := (3, [(4, .int 0), (0, .ref 0), (1, .ref 118), (2, .int x2), (3, .int x3)], [], h)) 2 rfl).trans ?_
    exact z_X_lab rfl
  · show z_X zc_X_turnAll 5 (0, [(0, .ref 0), (1, .ref 120), (2, .int x2), (3, .int x3)], [], h) = _
    refine (z_X_steps (s' := (3, [(4, .int 0), (0, .ref 0), (1, .ref 120), (2, .int x2), (3, .int x3)], [], h)) 2 rfl).trans ?_
    exact z_X_lab rfl
set_option maxRecDepth 8000 in
set_option maxHeartbeats 2000000 in
theorem e_X_turnAll_3 {o : Nat} (hi : o ∈ [114, 116, 118, 120]) (x2 : Int32) (x3 : Int32) (x4 : Int32) (h : z_H) : zl_X_turnAll_3 o x2 x3 x4 h = (if x3 ≤ x4 then some (0, h) else z_bd (z_M 124 [.ref o, .int (x2 + (4 * x4))] h) (fun r1 h2 => z_bd (z_M 124 [.ref o, .int ((x2 + (4 * x4)) + 1)] h2) (fun r3 h4 => z_bd (z_M 124 [.ref o, .int ((x2 + (4 * x4)) + 2)] h4) (fun r5 h6 => z_bd (z_M 124 [.ref o, .int ((x2 + (4 * x4)) + 3)] h6) (fun r7 h8 => z_bd (z_M 77 [.ref 25, .int r1, .int r3, .int r5, .int r7] h8) (fun r9 h10 => zl_X_turnAll_3 o x2 x3 (x4 + 1) h10)))))) := by
  simp only [List.mem_cons, List.not_mem_nil, or_false, Prod.mk.injEq] at hi
  rcases hi with rfl | rfl | rfl | rfl
  · show z_X zc_X_turnAll 5 (3, [(0, .ref 0), (1, .ref 114), (2, .int x2), (3, .int x3), (4, .int x4)], [], h) = _
    refine (z_X_steps (s' := (6, [(0, .ref 0), (1, .ref 114), (2, .int x2), (3, .int x3), (4, .int x4)], [.int x3, .int x4], h)) 2 rfl).trans ?_
    refine (z_X_br (c := x3 ≤ x4) (s1 := (60, [(0, .ref 0), (1, .ref 114), (2, .int x2), (3, .int x3), (4, .int x4)], [], h)) (s2 := (9, [(0, .ref 0), (1, .ref 114), (2, .int x2), (3, .int x3), (4, .int x4)], [], h)) rfl).trans (z_ite ?_ ?_)
    · exact z_X_ret rfl
    · refine (z_X_steps (s' := (24, [(5, .int (x2 + (4 * x4))), (0, .ref 0), (1, .ref 114), (2, .int x2), (3, .int x3), (4, .int x4)], [.int (x2 + (4 * x4)), .ref 114, .ref 25], h)) 10 rfl).trans ?_
      refine (z_X_call (id := 124) (a := [.ref 114, .int (x2 + (4 * x4))]) (c := 1) (s' := (27, [(5, .int (x2 + (4 * x4))), (0, .ref 0), (1, .ref 114), (2, .int x2), (3, .int x3), (4, .int x4)], [.ref 25], h)) rfl ⟨Nat.le_of_ble_eq_true rfl, Nat.le_of_ble_eq_true rfl⟩).trans ?_
      refine z_bdc fun r1 h2 => ?_
      refine (z_X_steps (s' := (32, [(5, .int (x2 + (4 * x4))), (0, .ref 0), (1, .ref 114), (2, .int x2), (3, .int x3), (4, .int x4)], [.int ((x2 + (4 * x4)) + 1), .ref 114, .int r1, .ref 25], h2)) 4 rfl).trans ?_
      refine (z_X_call (id := 124) (a := [.ref 114, .int ((x2 + (4 * x4)) + 1)]) (c := 1) (s' := (35, [(5, .int (x2 + (4 * x4))), (0, .ref 0), (1, .ref 114), (2, .int x2), (3, .int x3), (4, .int x4)], [.int r1, .ref 25], h2)) rfl ⟨Nat.le_of_ble_eq_true rfl, Nat.le_of_ble_eq_true rfl⟩).trans ?_
      refine z_bdc fun r3 h4 => ?_
      refine (z_X_steps (s' := (40, [(5, .int (x2 + (4 * x4))), (0, .ref 0), (1, .ref 114), (2, .int x2), (3, .int x3), (4, .int x4)], [.int ((x2 + (4 * x4)) + 2), .ref 114, .int r3, .int r1, .ref 25], h4)) 4 rfl).trans ?_
      refine (z_X_call (id := 124) (a := [.ref 114, .int ((x2 + (4 * x4)) + 2)]) (c := 1) (s' := (43, [(5, .int (x2 + (4 * x4))), (0, .ref 0), (1, .ref 114), (2, .int x2), (3, .int x3), (4, .int x4)], [.int r3, .int r1, .ref 25], h4)) rfl ⟨Nat.le_of_ble_eq_true rfl, Nat.le_of_ble_eq_true rfl⟩).trans ?_
      refine z_bdc fun r5 h6 => ?_
      refine (z_X_steps (s' := (48, [(5, .int (x2 + (4 * x4))), (0, .ref 0), (1, .ref 114), (2, .int x2), (3, .int x3), (4, .int x4)], [.int ((x2 + (4 * x4)) + 3), .ref 114, .int r5, .int r3, .int r1, .ref 25], h6)) 4 rfl).trans ?_
      refine (z_X_call (id := 124) (a := [.ref 114, .int ((x2 + (4 * x4)) + 3)]) (c := 1) (s' := (51, [(5, .int (x2 + (4 * x4))), (0, .ref 0), (1, .ref 114), (2, .int x2), (3, .int x3), (4, .int x4)], [.int r5, .int r3, .int r1, .ref 25], h6)) rfl ⟨Nat.le_of_ble_eq_true rfl, Nat.le_of_ble_eq_true rfl⟩).trans ?_
      refine z_bdc fun r7 h8 => ?_
      refine (z_X_call (id := 77) (a := [.ref 25, .int r1, .int r3, .int r5, .int r7]) (c := 0) (s' := (54, [(5, .int (x2 + (4 * x4))), (0, .ref 0), (1, .ref 114), (2, .int x2), (3, .int x3), (4, .int x4)], [], h8)) rfl ⟨Nat.le_of_ble_eq_true rfl, Nat.le_of_ble_eq_true rfl⟩).trans ?_
      refine z_bdc fun r9 h10 => ?_
      refine (z_X_steps (s' := (3, [(4, .int (x4 + 1)), (5, .int (x2 + (4 * x4))), (0, .ref 0), (1, .ref 114), (2, .int x2), (3, .int x3)], [], h10)) 2 rfl).trans ?_
      exact z_X_lab rfl
  · show z_X zc_X_turnAll 5 (3, [(0, .ref 0), (1, .ref 116), (2, .int x2), (3, .int x3), (4, .int x4)], [], h) = _
    refine (z_X_steps (s' := (6, [(0, .ref 0), (1, .ref 116), (2, .int x2), (3, .int x3), (4, .int x4)], [.int x3, .int x4], h)) 2 rfl).trans ?_
    refine (z_X_br (c := x3 ≤ x4) (s1 := (60, [(0, .ref 0), (1, .ref 116), (2, .int x2), (3, .int x3), (4, .int x4)], [], h)) (s2 := (9, [(0, .ref 0), (1, .ref 116), (2, .int x2), (3, .int x3), (4, .int x4)], [], h)) rfl).trans (z_ite ?_ ?_)
    · exact z_X_ret rfl
    · refine (z_X_steps (s' := (24, [(5, .int (x2 + (4 * x4))), (0, .ref 0), (1, .ref 116), (2, .int x2), (3, .int x3), (4, .int x4)], [.int (x2 + (4 * x4)), .ref 116, .ref 25], h)) 10 rfl).trans ?_
      refine (z_X_call (id := 124) (a := [.ref 116, .int (x2 + (4 * x4))]) (c := 1) (s' := (27, [(5, .int (x2 + (4 * x4))), (0, .ref 0), (1, .ref 116), (2, .int x2), (3, .int x3), (4, .int x4)], [.ref 25], h)) rfl ⟨Nat.le_of_ble_eq_true rfl, Nat.le_of_ble_eq_true rfl⟩).trans ?_
      refine z_bdc fun r1 h2 => ?_
      refine (z_X_steps (s' := (32, [(5, .int (x2 + (4 * x4))), (0, .ref 0), (1, .ref 116), (2, .int x2), (3, .int x3), (4, .int x4)], [.int ((x2 + (4 * x4)) + 1), .ref 116, .int r1, .ref 25], h2)) 4 rfl).trans ?_
      refine (z_X_call (id := 124) (a := [.ref 116, .int ((x2 + (4 * x4)) + 1)]) (c := 1) (s' := (35, [(5, .int (x2 + (4 * x4))), (0, .ref 0), (1, .ref 116), (2, .int x2), (3, .int x3), (4, .int x4)], [.int r1, .ref 25], h2)) rfl ⟨Nat.le_of_ble_eq_true rfl, Nat.le_of_ble_eq_true rfl⟩).trans ?_
      refine z_bdc fun r3 h4 => ?_
      refine (z_X_steps (s' := (40, [(5, .int (x2 + (4 * x4))), (0, .ref 0), (1, .ref 116), (2, .int x2), (3, .int x3), (4, .int x4)], [.int ((x2 + (4 * x4)) + 2), .ref 116, .int r3, .int r1, .ref 25], h4)) 4 rfl).trans ?_
      refine (z_X_call (id := 124) (a := [.ref 116, .int ((x2 + (4 * x4)) + 2)]) (c := 1) (s' := (43, [(5, .int (x2 + (4 * x4))), (0, .ref 0), (1, .ref 116), (2, .int x2), (3, .int x3), (4, .int x4)], [.int r3, .int r1, .ref 25], h4)) rfl ⟨Nat.le_of_ble_eq_true rfl, Nat.le_of_ble_eq_true rfl⟩).trans ?_
      refine z_bdc fun r5 h6 => ?_
      refine (z_X_steps (s' := (48, [(5, .int (x2 + (4 * x4))), (0, .ref 0), (1, .ref 116), (2, .int x2), (3, .int x3), (4, .int x4)], [.int ((x2 + (4 * x4)) + 3), .ref 116, .int r5, .int r3, .int r1, .ref 25], h6)) 4 rfl).trans ?_
      refine (z_X_call (id := 124) (a := [.ref 116, .int ((x2 + (4 * x4)) + 3)]) (c := 1) (s' := (51, [(5, .int (x2 + (4 * x4))), (0, .ref 0), (1, .ref 116), (2, .int x2), (3, .int x3), (4, .int x4)], [.int r5, .int r3, .int r1, .ref 25], h6)) rfl ⟨Nat.le_of_ble_eq_true rfl, Nat.le_of_ble_eq_true rfl⟩).trans ?_
      refine z_bdc fun r7 h8 => ?_
      refine (z_X_call (id := 77) (a := [.ref 25, .int r1, .int r3, .int r5, .int r7]) (c := 0) (s' := (54, [(5, .int (x2 + (4 * x4))), (0, .ref 0), (1, .ref 116), (2, .int x2), (3, .int x3), (4, .int x4)], [], h8)) rfl ⟨Nat.le_of_ble_eq_true rfl, Nat.le_of_ble_eq_true rfl⟩).trans ?_
      refine z_bdc fun r9 h10 => ?_
      refine (z_X_steps (s' := (3, [(4, .int (x4 + 1)), (5, .int (x2 + (4 * x4))), (0, .ref 0), (1, .ref 116), (2, .int x2), (3, .int x3)], [], h10)) 2 rfl).trans ?_
      exact z_X_lab rfl
  · show z_X zc_X_turnAll 5 (3, [(0, .ref 0), (1, .ref 118), (2, .int x2), (3, .int x3), (4, .int x4)], [], h) = _
    refine (z_X_steps (s' := (6, [(0, .ref 0), (1, .ref 118), (2, .int x2), (3, .int x3), (4, .int x4)], [.int x3, .int x4], h)) 2 rfl).trans ?_
    refine (z_X_br (c := x3 ≤ x4) (s1 := (60, [(0, .ref 0), (1, .ref 118), (2, .int x2), (3, .int x3), (4, .int x4)], [], h)) (s2 := (9, [(0, .ref 0), (1, .ref 118), (2, .int x2), (3, .int x3), (4, .int x4)], [], h)) rfl).trans (z_ite ?_ ?_)
    · exact z_X_ret rfl
    · refine (z_X_steps (s' := (24, [(5, .int (x2 + (4 * x4))), (0, .ref 0), (1, .ref 118), (2, .int x2), (3, .int x3), (4, .int x4)], [.int (x2 + (4 * x4)), .ref 118, .ref 25], h)) 10 rfl).trans ?_
      refine (z_X_call (id := 124) (a := [.ref 118, .int (x2 + (4 * x4))]) (c := 1) (s' := (27, [(5, .int (x2 + (4 * x4))), (0, .ref 0), (1, .ref 118), (2, .int x2), (3, .int x3), (4, .int x4)], [.ref 25], h)) rfl ⟨Nat.le_of_ble_eq_true rfl, Nat.le_of_ble_eq_true rfl⟩).trans ?_
      refine z_bdc fun r1 h2 => ?_
      refine (z_X_steps (s' := (32, [(5, .int (x2 + (4 * x4))), (0, .ref 0), (1, .ref 118), (2, .int x2), (3, .int x3), (4, .int x4)], [.int ((x2 + (4 * x4)) + 1), .ref 118, .int r1, .ref 25], h2)) 4 rfl).trans ?_
      refine (z_X_call (id := 124) (a := [.ref 118, .int ((x2 + (4 * x4)) + 1)]) (c := 1) (s' := (35, [(5, .int (x2 + (4 * x4))), (0, .ref 0), (1, .ref 118), (2, .int x2), (3, .int x3), (4, .int x4)], [.int r1, .ref 25], h2)) rfl ⟨Nat.le_of_ble_eq_true rfl, Nat.le_of_ble_eq_true rfl⟩).trans ?_
      refine z_bdc fun r3 h4 => ?_
      refine (z_X_steps (s' := (40, [(5, .int (x2 + (4 * x4))), (0, .ref 0), (1, .ref 118), (2, .int x2), (3, .int x3), (4, .int x4)], [.int ((x2 + (4 * x4)) + 2), .ref 118, .int r3, .int r1, .ref 25], h4)) 4 rfl).trans ?_
      refine (z_X_call (id := 124) (a := [.ref 118, .int ((x2 + (4 * x4)) + 2)]) (c := 1) (s' := (43, [(5, .int (x2 + (4 * x4))), (0, .ref 0), (1, .ref 118), (2, .int x2), (3, .int x3), (4, .int x4)], [.int r3, .int r1, .ref 25], h4)) rfl ⟨Nat.le_of_ble_eq_true rfl, Nat.le_of_ble_eq_true rfl⟩).trans ?_
      refine z_bdc fun r5 h6 => ?_
      refine (z_X_steps (s' := (48, [(5, .int (x2 + (4 * x4))), (0, .ref 0), (1, .ref 118), (2, .int x2), (3, .int x3), (4, .int x4)], [.int ((x2 + (4 * x4)) + 3), .ref 118, .int r5, .int r3, .int r1, .ref 25], h6)) 4 rfl).trans ?_
      refine (z_X_call (id := 124) (a := [.ref 118, .int ((x2 + (4 * x4)) + 3)]) (c := 1) (s' := (51, [(5, .int (x2 + (4 * x4))), (0, .ref 0), (1, .ref 118), (2, .int x2), (3, .int x3), (4, .int x4)], [.int r5, .int r3, .int r1, .ref 25], h6)) rfl ⟨Nat.le_of_ble_eq_true rfl, Nat.le_of_ble_eq_true rfl⟩).trans ?_
      refine z_bdc fun r7 h8 => ?_
      refine (z_X_call (id := 77) (a := [.ref 25, .int r1, .int r3, .int r5, .int r7]) (c := 0) (s' := (54, [(5, .int (x2 + (4 * x4))), (0, .ref 0), (1, .ref 118), (2, .int x2), (3, .int x3), (4, .int x4)], [], h8)) rfl ⟨Nat.le_of_ble_eq_true rfl, Nat.le_of_ble_eq_true rfl⟩).trans ?_
      refine z_bdc fun r9 h10 => ?_
      refine (z_X_steps (s' := (3, [(4, .int (x4 + 1)), (5, .int (x2 + (4 * x4))), (0, .ref 0), (1, .ref 118), (2, .int x2), (3, .int x3)], [], h10)) 2 rfl).trans ?_
      exact z_X_lab rfl
  · show z_X zc_X_turnAll 5 (3, [(0, .ref 0), (1, .ref 120), (2, .int x2), (3, .int x3), (4, .int x4)], [], h) = _
    refine (z_X_steps (s' := (6, [(0, .ref 0), (1, .ref 120), (2, .int x2), (3, .int x3), (4, .int x4)], [.int x3, .int x4], h)) 2 rfl).trans ?_
    refine (z_X_br (c := x3 ≤ x4) (s1 := (60, [(0, .ref 0), (1, .ref 120), (2, .int x2), (3, .int x3), (4, .int x4)], [], h)) (s2 := (9, [(0, .ref 0), (1, .ref 120), (2, .int x2), (3, .int x3), (4, .int x4)], [], h)) rfl).trans (z_ite ?_ ?_)
    · exact z_X_ret rfl
    · refine (z_X_steps (s' := (24, [(5, .int (x2 + (4 * x4))), (0, .ref 0), (1, .ref 120), (2, .int x2), (3, .int x3), (4, .int x4)], [.int (x2 + (4 * x4)), .ref 120, .ref 25], h)) 10 rfl).trans ?_
      refine (z_X_call (id := 124) (a := [.ref 120, .int (x2 + (4 * x4))]) (c := 1) (s' := (27, [(5, .int (x2 + (4 * x4))), (0, .ref 0), (1, .ref 120), (2, .int x2), (3, .int x3), (4, .int x4)], [.ref 25], h)) rfl ⟨Nat.le_of_ble_eq_true rfl, Nat.le_of_ble_eq_true rfl⟩).trans ?_
      refine z_bdc fun r1 h2 => ?_
      refine (z_X_steps (s' := (32, [(5, .int (x2 + (4 * x4))), (0, .ref 0), (1, .ref 120), (2, .int x2), (3, .int x3), (4, .int x4)], [.int ((x2 + (4 * x4)) + 1), .ref 120, .int r1, .ref 25], h2)) 4 rfl).trans ?_
      refine (z_X_call (id := 124) (a := [.ref 120, .int ((x2 + (4 * x4)) + 1)]) (c := 1) (s' := (35, [(5, .int (x2 + (4 * x4))), (0, .ref 0), (1, .ref 120), (2, .int x2), (3, .int x3), (4, .int x4)], [.int r1, .ref 25], h2)) rfl ⟨Nat.le_of_ble_eq_true rfl, Nat.le_of_ble_eq_true rfl⟩).trans ?_
      refine z_bdc fun r3 h4 => ?_
      refine (z_X_steps (s' := (40, [(5, .int (x2 + (4 * x4))), (0, .ref 0), (1, .ref 120), (2, .int x2), (3, .int x3), (4, .int x4)], [.int ((x2 + (4 * x4)) + 2), .ref 120, .int r3, .int r1, .ref 25], h4)) 4 rfl).trans ?_
      refine (z_X_call (id := 124) (a := [.ref 120, .int ((x2 + (4 * x4)) + 2)]) (c := 1) (s' := (43, [(5, .int (x2 + (4 * x4))), (0, .ref 0), (1, .ref 120), (2, .int x2), (3, .int x3), (4, .int x4)], [.int r3, .int r1, .ref 25], h4)) rfl ⟨Nat.le_of_ble_eq_true rfl, Nat.le_of_ble_eq_true rfl⟩).trans ?_
      refine z_bdc fun r5 h6 => ?_
      refine (z_X_steps (s' := (48, [(5, .int (x2 + (4 * x4))), (0, .ref 0), (1, .ref 120), (2, .int x2), (3, .int x3), (4, .int x4)], [.int ((x2 + (4 * x4)) + 3), .ref 120, .int r5, .int r3, .int r1, .ref 25], h6)) 4 rfl).trans ?_
      refine (z_X_call (id := 124) (a := [.ref 120, .int ((x2 + (4 * x4)) + 3)]) (c := 1) (s' := (51, [(5, .int (x2 + (4 * x4))), (0, .ref 0), (1, .ref 120), (2, .int x2), (3, .int x3), (4, .int x4)], [.int r5, .int r3, .int r1, .ref 25], h6)) rfl ⟨Nat.le_of_ble_eq_true rfl, Nat.le_of_ble_eq_true rfl⟩).trans ?_
      refine z_bdc fun r7 h8 => ?_
      refine (z_X_call (id := 77) (a := [.ref 25, .int r1, .int r3, .int r5, .int r7]) (c := 0) (s' := (54, [(5, .int (x2 + (4 * x4))), (0, .ref 0), (1, .ref 120), (2, .int x2), (3, .int x3), (4, .int x4)], [], h8)) rfl ⟨Nat.le_of_ble_eq_true rfl, Nat.le_of_ble_eq_true rfl⟩).trans ?_
      refine z_bdc fun r9 h10 => ?_
      refine (z_X_steps (s' := (3, [(4, .int (x4 + 1)), (5, .int (x2 + (4 * x4))), (0, .ref 0), (1, .ref 120), (2, .int x2), (3, .int x3)], [], h10)) 2 rfl).trans ?_
      exact z_X_lab rfl
set_option maxRecDepth 8000 in
set_option maxHeartbeats 2000000 in
theorem e_X_isName (x0 : Int32) (h : z_H) : z_M 37 [.int x0] h = (if x0 < 0 then some (0, h) else (if (4 : Int32) ≤ x0 then some (0, h) else some (1, h))) := by
  refine (z_M_eq (by decide)).trans ?_
  show z_X zc_X_isName 1 (0, [(0, .int x0)], [], h) = _
  refine (z_X_steps (s' := (1, [(0, .int x0)], [.int x0], h)) 1 rfl).trans ?_
  refine (z_X_br (c := x0 < 0) (s1 := (13, [(0, .int x0)], [], h)) (s2 := (4, [(0, .int x0)], [], h)) rfl).trans (z_ite ?_ ?_)
  · refine (z_X_steps (s' := (14, [(0, .int x0)], [.int 0], h)) 1 rfl).trans ?_
    exact z_X_ret rfl
  · refine (z_X_steps (s' := (6, [(0, .int x0)], [.int 4, .int x0], h)) 2 rfl).trans ?_
    refine (z_X_br (c := (4 : Int32) ≤ x0) (s1 := (13, [(0, .int x0)], [], h)) (s2 := (9, [(0, .int x0)], [], h)) rfl).trans (z_ite ?_ ?_)
    · refine (z_X_steps (s' := (14, [(0, .int x0)], [.int 0], h)) 1 rfl).trans ?_
      exact z_X_ret rfl
    · refine (z_X_steps (s' := (14, [(0, .int x0)], [.int 1], h)) 2 rfl).trans ?_
      exact z_X_ret rfl
noncomputable def zl_X_isNode_14 (x0 : Int32) (x1 : Int32) (h : z_H) : Option z_A := z_X zc_X_isNode 2 (14, [(0, .int x0), (1, .int x1)], [], h)
set_option maxRecDepth 8000 in
set_option maxHeartbeats 2000000 in
theorem e_X_isNode (x0 : Int32) (x1 : Int32) (h : z_H) : z_M 38 [.int x0, .int x1] h = (if ¬ x0 = 0 then zl_X_isNode_14 x0 x1 h else (if x1 < 0 then zl_X_isNode_14 x0 x1 h else (if x1 ≤ 9 then some (1, h) else zl_X_isNode_14 x0 x1 h))) := by
  refine (z_M_eq (by decide)).trans ?_
  show z_X zc_X_isNode 2 (0, [(0, .int x0), (1, .int x1)], [], h) = _
  refine (z_X_steps (s' := (1, [(0, .int x0), (1, .int x1)], [.int x0], h)) 1 rfl).trans ?_
  refine (z_X_br (c := ¬ x0 = 0) (s1 := (14, [(0, .int x0), (1, .int x1)], [], h)) (s2 := (4, [(0, .int x0), (1, .int x1)], [], h)) rfl).trans (z_ite ?_ ?_)
  · exact z_X_lab rfl
  · refine (z_X_steps (s' := (5, [(0, .int x0), (1, .int x1)], [.int x1], h)) 1 rfl).trans ?_
    refine (z_X_br (c := x1 < 0) (s1 := (14, [(0, .int x0), (1, .int x1)], [], h)) (s2 := (8, [(0, .int x0), (1, .int x1)], [], h)) rfl).trans (z_ite ?_ ?_)
    · exact z_X_lab rfl
    · refine (z_X_steps (s' := (11, [(0, .int x0), (1, .int x1)], [.int 9, .int x1], h)) 2 rfl).trans ?_
      refine (z_X_br (c := x1 ≤ 9) (s1 := (26, [(0, .int x0), (1, .int x1)], [], h)) (s2 := (14, [(0, .int x0), (1, .int x1)], [], h)) rfl).trans (z_ite ?_ ?_)
      · refine (z_X_steps (s' := (31, [(0, .int x0), (1, .int x1)], [.int 1], h)) 2 rfl).trans ?_
        exact z_X_ret rfl
      · exact z_X_lab rfl
set_option maxRecDepth 8000 in
set_option maxHeartbeats 2000000 in
theorem e_X_isNode_14 (x0 : Int32) (x1 : Int32) (h : z_H) : zl_X_isNode_14 x0 x1 h = (if ¬ x0 = 1 then some (0, h) else z_bd (z_M 37 [.int x1] h) (fun r1 h2 => (if r1 = 0 then some (0, h2) else some (1, h2)))) := by
  show z_X zc_X_isNode 2 (14, [(0, .int x0), (1, .int x1)], [], h) = _
  refine (z_X_steps (s' := (16, [(0, .int x0), (1, .int x1)], [.int 1, .int x0], h)) 2 rfl).trans ?_
  refine (z_X_br (c := ¬ x0 = 1) (s1 := (30, [(0, .int x0), (1, .int x1)], [], h)) (s2 := (19, [(0, .int x0), (1, .int x1)], [], h)) rfl).trans (z_ite ?_ ?_)
  · refine (z_X_steps (s' := (31, [(0, .int x0), (1, .int x1)], [.int 0], h)) 1 rfl).trans ?_
    exact z_X_ret rfl
  · refine (z_X_steps (s' := (20, [(0, .int x0), (1, .int x1)], [.int x1], h)) 1 rfl).trans ?_
    refine (z_X_call (id := 37) (a := [.int x1]) (c := 1) (s' := (23, [(0, .int x0), (1, .int x1)], [], h)) rfl ⟨Nat.le_of_ble_eq_true rfl, Nat.le_of_ble_eq_true rfl⟩).trans ?_
    refine z_bdc fun r1 h2 => ?_
    refine (z_X_br (c := r1 = 0) (s1 := (30, [(0, .int x0), (1, .int x1)], [], h2)) (s2 := (26, [(0, .int x0), (1, .int x1)], [], h2)) rfl).trans (z_ite ?_ ?_)
    · refine (z_X_steps (s' := (31, [(0, .int x0), (1, .int x1)], [.int 0], h2)) 1 rfl).trans ?_
      exact z_X_ret rfl
    · refine (z_X_steps (s' := (31, [(0, .int x0), (1, .int x1)], [.int 1], h2)) 2 rfl).trans ?_
      exact z_X_ret rfl
set_option maxRecDepth 8000 in
set_option maxHeartbeats 2000000 in
theorem e_X_isImage (x0 : Int32) (h : z_H) : z_M 39 [.int x0] h = (if x0 < 0 then some (0, h) else (if (2 : Int32) ≤ x0 then some (0, h) else some (1, h))) := by
  refine (z_M_eq (by decide)).trans ?_
  show z_X zc_X_isImage 1 (0, [(0, .int x0)], [], h) = _
  refine (z_X_steps (s' := (1, [(0, .int x0)], [.int x0], h)) 1 rfl).trans ?_
  refine (z_X_br (c := x0 < 0) (s1 := (13, [(0, .int x0)], [], h)) (s2 := (4, [(0, .int x0)], [], h)) rfl).trans (z_ite ?_ ?_)
  · refine (z_X_steps (s' := (14, [(0, .int x0)], [.int 0], h)) 1 rfl).trans ?_
    exact z_X_ret rfl
  · refine (z_X_steps (s' := (6, [(0, .int x0)], [.int 2, .int x0], h)) 2 rfl).trans ?_
    refine (z_X_br (c := (2 : Int32) ≤ x0) (s1 := (13, [(0, .int x0)], [], h)) (s2 := (9, [(0, .int x0)], [], h)) rfl).trans (z_ite ?_ ?_)
    · refine (z_X_steps (s' := (14, [(0, .int x0)], [.int 0], h)) 1 rfl).trans ?_
      exact z_X_ret rfl
    · refine (z_X_steps (s' := (14, [(0, .int x0)], [.int 1], h)) 2 rfl).trans ?_
      exact z_X_ret rfl
set_option maxRecDepth 8000 in
set_option maxHeartbeats 2000000 in
theorem e_X_isSheet (x0 : Int32) (h : z_H) : z_M 40 [.int x0] h = (if x0 < 0 then some (0, h) else (if (4 : Int32) ≤ x0 then some (0, h) else some (1, h))) := by
  refine (z_M_eq (by decide)).trans ?_
  show z_X zc_X_isSheet 1 (0, [(0, .int x0)], [], h) = _
  refine (z_X_steps (s' := (1, [(0, .int x0)], [.int x0], h)) 1 rfl).trans ?_
  refine (z_X_br (c := x0 < 0) (s1 := (13, [(0, .int x0)], [], h)) (s2 := (4, [(0, .int x0)], [], h)) rfl).trans (z_ite ?_ ?_)
  · refine (z_X_steps (s' := (14, [(0, .int x0)], [.int 0], h)) 1 rfl).trans ?_
    exact z_X_ret rfl
  · refine (z_X_steps (s' := (6, [(0, .int x0)], [.int 4, .int x0], h)) 2 rfl).trans ?_
    refine (z_X_br (c := (4 : Int32) ≤ x0) (s1 := (13, [(0, .int x0)], [], h)) (s2 := (9, [(0, .int x0)], [], h)) rfl).trans (z_ite ?_ ?_)
    · refine (z_X_steps (s' := (14, [(0, .int x0)], [.int 0], h)) 1 rfl).trans ?_
      exact z_X_ret rfl
    · refine (z_X_steps (s' := (14, [(0, .int x0)], [.int 1], h)) 2 rfl).trans ?_
      exact z_X_ret rfl
set_option maxRecDepth 8000 in
set_option maxHeartbeats 2000000 in
theorem e_X_isLane (x0 : Int32) (h : z_H) : z_M 41 [.int x0] h = (if x0 < 0 then some (0, h) else (if (2 : Int32) < x0 then some (0, h) else some (1, h))) := by
  refine (z_M_eq (by decide)).trans ?_
  show z_X zc_X_isLane 1 (0, [(0, .int x0)], [], h) = _
  refine (z_X_steps (s' := (1, [(0, .int x0)], [.int x0], h)) 1 rfl).trans ?_
  refine (z_X_br (c := x0 < 0) (s1 := (13, [(0, .int x0)], [], h)) (s2 := (4, [(0, .int x0)], [], h)) rfl).trans (z_ite ?_ ?_)
  · refine (z_X_steps (s' := (14, [(0, .int x0)], [.int 0], h)) 1 rfl).trans ?_
    exact z_X_ret rfl
  · refine (z_X_steps (s' := (6, [(0, .int x0)], [.int 2, .int x0], h)) 2 rfl).trans ?_
    refine (z_X_br (c := (2 : Int32) < x0) (s1 := (13, [(0, .int x0)], [], h)) (s2 := (9, [(0, .int x0)], [], h)) rfl).trans (z_ite ?_ ?_)
    · refine (z_X_steps (s' := (14, [(0, .int x0)], [.int 0], h)) 1 rfl).trans ?_
      exact z_X_ret rfl
    · refine (z_X_steps (s' := (14, [(0, .int x0)], [.int 1], h)) 2 rfl).trans ?_
      exact z_X_ret rfl
set_option maxRecDepth 8000 in
set_option maxHeartbeats 2000000 in
theorem e_X_placeOf (x0 : Int32) (x1 : Int32) (h : z_H) : z_M 42 [.int x0, .int x1] h = some ((8 * x0) + x1, h) := by
  refine (z_M_eq (by decide)).trans ?_
  show z_X zc_X_placeOf 1 (0, [(0, .int x0), (1, .int x1)], [], h) = _
  refine (z_X_steps (s' := (6, [(0, .int x0), (1, .int x1)], [.int ((8 * x0) + x1)], h)) 5 rfl).trans ?_
  exact z_X_ret rfl
set_option maxRecDepth 8000 in
set_option maxHeartbeats 2000000 in
theorem e_X_edgeOfNext (x0 : Int32) (x1 : Int32) (x2 : Int32) (h : z_H) : z_M 43 [.int x0, .int x1, .int x2] h = some (((16 * x0) + (2 * x1)) + x2, h) := by
  refine (z_M_eq (by decide)).trans ?_
  show z_X zc_X_edgeOfNext 1 (0, [(0, .int x0), (1, .int x1), (2, .int x2)], [], h) = _
  refine (z_X_steps (s' := (10, [(0, .int x0), (1, .int x1), (2, .int x2)], [.int (((16 * x0) + (2 * x1)) + x2)], h)) 9 rfl).trans ?_
  exact z_X_ret rfl
set_option maxRecDepth 8000 in
set_option maxHeartbeats 2000000 in
theorem e_X_edgeOfCall (x0 : Int32) (x1 : Int32) (h : z_H) : z_M 44 [.int x0, .int x1] h = some ((200 + (4 * x0)) + x1, h) := by
  refine (z_M_eq (by decide)).trans ?_
  show z_X zc_X_edgeOfCall 1 (0, [(0, .int x0), (1, .int x1)], [], h) = _
  refine (z_X_steps (s' := (9, [(0, .int x0), (1, .int x1)], [.int ((200 + (4 * x0)) + x1)], h)) 7 rfl).trans ?_
  exact z_X_ret rfl
