/-! printed: what the methods come to -/
set_option maxRecDepth 8000 in
set_option maxHeartbeats 2000000 in
theorem e_Tp_append (x1 : Int32) (h : z_H) : z_M 45 [.ref 1, .int x1] h = (if (320 : Int32) ≤ h.1 1 0 then some (0, h) else (bif z_in (h.1 1 0) 320 then some (0, (z_wI (z_wI h 2 ((h.1 1 0).toNatClampNeg) ((x1.toInt8.toInt32).toInt8.toInt32)) 1 0 (((z_wI h 2 ((h.1 1 0).toNatClampNeg) ((x1.toInt8.toInt32).toInt8.toInt32)).1 1 0) + 1))) else none)) := by
  refine (z_M_eq (by decide)).trans ?_
  show z_X zc_Tp_append 1 (0, [(0, .ref 1), (1, .int x1)], [], h) = _
  refine (z_X_steps (s' := (7, [(0, .ref 1), (1, .int x1)], [.int 320, .int (h.1 1 0)], h)) 3 rfl).trans ?_
  refine (z_X_br (c := (320 : Int32) ≤ h.1 1 0) (s1 := (31, [(0, .ref 1), (1, .int x1)], [], h)) (s2 := (10, [(0, .ref 1), (1, .int x1)], [], h)) rfl).trans (z_ite ?_ ?_)
  · exact z_X_ret rfl
  · refine (z_X_steps (s' := (20, [(0, .ref 1), (1, .int x1)], [.int (x1.toInt8.toInt32), .int (h.1 1 0), .ref 2], h)) 6 rfl).trans ?_
    refine (z_X_if (g := z_in (h.1 1 0) 320) (s' := (21, [(0, .ref 1), (1, .int x1)], [], (z_wI h 2 ((h.1 1 0).toNatClampNeg) ((x1.toInt8.toInt32).toInt8.toInt32)))) rfl).trans (z_bifA ?_)
    refine (z_X_steps (s' := (31, [(0, .ref 1), (1, .int x1)], [], (z_wI (z_wI h 2 ((h.1 1 0).toNatClampNeg) ((x1.toInt8.toInt32).toInt8.toInt32)) 1 0 (((z_wI h 2 ((h.1 1 0).toNatClampNeg) ((x1.toInt8.toInt32).toInt8.toInt32)).1 1 0) + 1)))) 6 rfl).trans ?_
    exact z_X_ret rfl
set_option maxRecDepth 8000 in
set_option maxHeartbeats 2000000 in
theorem e_Tp_rewind (h : z_H) : z_M 46 [.ref 1] h = some (0, (z_wI h 1 4 0)) := by
  refine (z_M_eq (by decide)).trans ?_
  show z_X zc_Tp_rewind 1 (0, [(0, .ref 1)], [], h) = _
  refine (z_X_steps (s' := (5, [(0, .ref 1)], [], (z_wI h 1 4 0))) 3 rfl).trans ?_
  exact z_X_ret rfl
noncomputable def zl_Tp_advance_8 (h : z_H) : Option z_A := z_X zc_Tp_advance 3 (8, [(0, .ref 1)], [], h)
noncomputable def zl_Tp_advance_46 (h : z_H) : Option z_A := z_X zc_Tp_advance 3 (46, [(0, .ref 1)], [], h)
set_option maxRecDepth 8000 in
set_option maxHeartbeats 2000000 in
theorem e_Tp_advance (h : z_H) : z_M 47 [.ref 1] h = zl_Tp_advance_8 (z_wI h 1 2 (h.1 1 4)) := by
  refine (z_M_eq (by decide)).trans ?_
  show z_X zc_Tp_advance 3 (0, [(0, .ref 1)], [], h) = _
  refine (z_X_steps (s' := (8, [(0, .ref 1)], [], (z_wI h 1 2 (h.1 1 4)))) 4 rfl).trans ?_
  exact z_X_lab rfl
set_option maxRecDepth 8000 in
set_option maxHeartbeats 2000000 in
theorem e_Tp_advance_8 (h : z_H) : zl_Tp_advance_8 h = (if h.1 1 0 ≤ h.1 1 2 then zl_Tp_advance_46 h else (bif z_in (h.1 1 2) 320 then (if ¬ h.1 2 ((h.1 1 2).toNatClampNeg) = 32 then zl_Tp_advance_46 h else zl_Tp_advance_8 (z_wI h 1 2 ((h.1 1 2) + 1))) else none)) := by
  show z_X zc_Tp_advance 3 (8, [(0, .ref 1)], [], h) = _
  refine (z_X_steps (s' := (16, [(0, .ref 1)], [.int (h.1 1 0), .int (h.1 1 2)], h)) 4 rfl).trans ?_
  refine (z_X_br (c := h.1 1 0 ≤ h.1 1 2) (s1 := (46, [(0, .ref 1)], [], h)) (s2 := (19, [(0, .ref 1)], [], h)) rfl).trans (z_ite ?_ ?_)
  · exact z_X_lab rfl
  · refine (z_X_steps (s' := (27, [(0, .ref 1)], [.int (h.1 1 2), .ref 2], h)) 4 rfl).trans ?_
    refine (z_X_if (g := z_in (h.1 1 2) 320) (s' := (28, [(0, .ref 1)], [.int (h.1 2 ((h.1 1 2).toNatClampNeg))], h)) rfl).trans (z_bifA ?_)
    refine (z_X_steps (s' := (30, [(0, .ref 1)], [.int 32, .int (h.1 2 ((h.1 1 2).toNatClampNeg))], h)) 1 rfl).trans ?_
    refine (z_X_br (c := ¬ h.1 2 ((h.1 1 2).toNatClampNeg) = 32) (s1 := (46, [(0, .ref 1)], [], h)) (s2 := (33, [(0, .ref 1)], [], h)) rfl).trans (z_ite ?_ ?_)
    · exact z_X_lab rfl
    · refine (z_X_steps (s' := (8, [(0, .ref 1)], [], (z_wI h 1 2 ((h.1 1 2) + 1)))) 7 rfl).trans ?_
      exact z_X_lab rfl
set_option maxRecDepth 8000 in
set_option maxHeartbeats 2000000 in
theorem e_Tp_advance_46 (h : z_H) : zl_Tp_advance_46 h = (if (z_wI h 1 4 (h.1 1 2)).1 1 2 < (z_wI h 1 4 (h.1 1 2)).1 1 0 then (bif z_in ((z_wI h 1 4 (h.1 1 2)).1 1 2) 320 then (if ¬ (z_wI h 1 4 (h.1 1 2)).1 2 (((z_wI h 1 4 (h.1 1 2)).1 1 2).toNatClampNeg) = 59 then (bif z_in ((z_wI h 1 4 (h.1 1 2)).1 1 2) 320 then z_bd (z_M 51 [.int ((z_wI h 1 4 (h.1 1 2)).1 2 (((z_wI h 1 4 (h.1 1 2)).1 1 2).toNatClampNeg))] (z_wI h 1 4 (h.1 1 2))) (fun r1 h2 => (if r1 = 0 then (bif z_in (h2.1 1 2) 320 then z_bd (z_M 52 [.int (h2.1 2 ((h2.1 1 2).toNatClampNeg))] h2) (fun r3 h4 => (if r3 = 0 then some (0, (z_wI h4 1 1 0)) else z_bd (z_M 50 [.ref 1] h4) (fun r5 h6 => some (0, h6)))) else none) else z_bd (z_M 49 [.ref 1] h2) (fun r7 h8 => some (0, h8)))) else none) else some (0, (z_wI (z_wI (z_wI h 1 4 (h.1 1 2)) 1 1 3) 1 4 (((z_wI (z_wI h 1 4 (h.1 1 2)) 1 1 3).1 1 2) + 1)))) else none) else some (0, (z_wI (z_wI h 1 4 (h.1 1 2)) 1 1 4))) := by
  show z_X zc_Tp_advance 3 (46, [(0, .ref 1)], [], h) = _
  refine (z_X_steps (s' := (62, [(0, .ref 1)], [.int ((z_wI h 1 4 (h.1 1 2)).1 1 0), .int ((z_wI h 1 4 (h.1 1 2)).1 1 2)], (z_wI h 1 4 (h.1 1 2)))) 8 rfl).trans ?_
  refine (z_X_br (c := (z_wI h 1 4 (h.1 1 2)).1 1 2 < (z_wI h 1 4 (h.1 1 2)).1 1 0) (s1 := (73, [(0, .ref 1)], [], (z_wI h 1 4 (h.1 1 2)))) (s2 := (65, [(0, .ref 1)], [], (z_wI h 1 4 (h.1 1 2)))) rfl).trans (z_ite ?_ ?_)
  · refine (z_X_steps (s' := (81, [(0, .ref 1)], [.int ((z_wI h 1 4 (h.1 1 2)).1 1 2), .ref 2], (z_wI h 1 4 (h.1 1 2)))) 4 rfl).trans ?_
    refine (z_X_if (g := z_in ((z_wI h 1 4 (h.1 1 2)).1 1 2) 320) (s' := (82, [(0, .ref 1)], [.int ((z_wI h 1 4 (h.1 1 2)).1 2 (((z_wI h 1 4 (h.1 1 2)).1 1 2).toNatClampNeg))], (z_wI h 1 4 (h.1 1 2)))) rfl).trans (z_bifA ?_)
    refine (z_X_steps (s' := (84, [(0, .ref 1)], [.int 59, .int ((z_wI h 1 4 (h.1 1 2)).1 2 (((z_wI h 1 4 (h.1 1 2)).1 1 2).toNatClampNeg))], (z_wI h 1 4 (h.1 1 2)))) 1 rfl).trans ?_
    refine (z_X_br (c := ¬ (z_wI h 1 4 (h.1 1 2)).1 2 (((z_wI h 1 4 (h.1 1 2)).1 1 2).toNatClampNeg) = 59) (s1 := (105, [(0, .ref 1)], [], (z_wI h 1 4 (h.1 1 2)))) (s2 := (87, [(0, .ref 1)], [], (z_wI h 1 4 (h.1 1 2)))) rfl).trans (z_ite ?_ ?_)
    · refine (z_X_steps (s' := (113, [(0, .ref 1)], [.int ((z_wI h 1 4 (h.1 1 2)).1 1 2), .ref 2], (z_wI h 1 4 (h.1 1 2)))) 4 rfl).trans ?_
      refine (z_X_if (g := z_in ((z_wI h 1 4 (h.1 1 2)).1 1 2) 320) (s' := (114, [(0, .ref 1)], [.int ((z_wI h 1 4 (h.1 1 2)).1 2 (((z_wI h 1 4 (h.1 1 2)).1 1 2).toNatClampNeg))], (z_wI h 1 4 (h.1 1 2)))) rfl).trans (z_bifA ?_)
      refine (z_X_call (id := 51) (a := [.int ((z_wI h 1 4 (h.1 1 2)).1 2 (((z_wI h 1 4 (h.1 1 2)).1 1 2).toNatClampNeg))]) (c := 1) (s' := (117, [(0, .ref 1)], [], (z_wI h 1 4 (h.1 1 2)))) rfl ⟨Nat.le_of_ble_eq_true rfl, Nat.le_of_ble_eq_true rfl⟩).trans ?_
      refine z_bdc fun r1 h2 => ?_
      refine (z_X_br (c := r1 = 0) (s1 := (127, [(0, .ref 1)], [], h2)) (s2 := (120, [(0, .ref 1)], [], h2)) rfl).trans (z_ite ?_ ?_)
      · refine (z_X_steps (s' := (135, [(0, .ref 1)], [.int (h2.1 1 2), .ref 2], h2)) 4 rfl).trans ?_
        refine (z_X_if (g := z_in (h2.1 1 2) 320) (s' := (136, [(0, .ref 1)], [.int (h2.1 2 ((h2.1 1 2).toNatClampNeg))], h2)) rfl).trans (z_bifA ?_)
        refine (z_X_call (id := 52) (a := [.int (h2.1 2 ((h2.1 1 2).toNatClampNeg))]) (c := 1) (s' := (139, [(0, .ref 1)], [], h2)) rfl ⟨Nat.le_of_ble_eq_true rfl, Nat.le_of_ble_eq_true rfl⟩).trans ?_
        refine z_bdc fun r3 h4 => ?_
        refine (z_X_br (c := r3 = 0) (s1 := (149, [(0, .ref 1)], [], h4)) (s2 := (142, [(0, .ref 1)], [], h4)) rfl).trans (z_ite ?_ ?_)
        · refine (z_X_steps (s' := (154, [(0, .ref 1)], [], (z_wI h4 1 1 0))) 3 rfl).trans ?_
          exact z_X_ret rfl
        · refine (z_X_steps (s' := (143, [(0, .ref 1)], [.ref 1], h4)) 1 rfl).trans ?_
          refine (z_X_call (id := 50) (a := [.ref 1]) (c := 0) (s' := (146, [(0, .ref 1)], [], h4)) rfl ⟨Nat.le_of_ble_eq_true rfl, Nat.le_of_ble_eq_true rfl⟩).trans ?_
          refine z_bdc fun r5 h6 => ?_
          refine (z_X_steps (s' := (154, [(0, .ref 1)], [], h6)) 1 rfl).trans ?_
          exact z_X_ret rfl
      · refine (z_X_steps (s' := (121, [(0, .ref 1)], [.ref 1], h2)) 1 rfl).trans ?_
        refine (z_X_call (id := 49) (a := [.ref 1]) (c := 0) (s' := (124, [(0, .ref 1)], [], h2)) rfl ⟨Nat.le_of_ble_eq_true rfl, Nat.le_of_ble_eq_true rfl⟩).trans ?_
        refine z_bdc fun r7 h8 => ?_
        refine (z_X_steps (s' := (154, [(0, .ref 1)], [], h8)) 1 rfl).trans ?_
        exact z_X_ret rfl
    · refine (z_X_steps (s' := (154, [(0, .ref 1)], [], (z_wI (z_wI (z_wI h 1 4 (h.1 1 2)) 1 1 3) 1 4 (((z_wI (z_wI h 1 4 (h.1 1 2)) 1 1 3).1 1 2) + 1)))) 10 rfl).trans ?_
      exact z_X_ret rfl
  · refine (z_X_steps (s' := (154, [(0, .ref 1)], [], (z_wI (z_wI h 1 4 (h.1 1 2)) 1 1 4))) 4 rfl).trans ?_
    exact z_X_ret rfl
noncomputable def zl_Tp_isWord_28 (w : Nat) (x2 : Int32) (h : z_H) : Option z_A := z_X zc_Tp_isWord 9 (28, [(0, .ref 1), (1, .ref w), (2, .int x2)], [], h)
set_option maxRecDepth 8000 in
set_option maxHeartbeats 2000000 in
theorem e_Tp_isWord {w : Nat} (hi : w ∈ [1000, 1001, 1002, 1003, 1004, 1005]) (h : z_H) : z_M 48 [.ref 1, .ref w] h = (if ¬ h.1 1 1 = 1 then some (0, h) else z_bd (z_M 907 [.ref w] h) (fun r1 h2 => (if (h.1 1 4) - (h.1 1 2) = r1 then zl_Tp_isWord_28 w 0 h2 else some (0, h2)))) := by
  refine (z_M_eq (by decide)).trans ?_
  simp only [List.mem_cons, List.not_mem_nil, or_false, Prod.mk.injEq] at hi
  rcases hi with rfl | rfl | rfl | rfl | rfl | rfl
  · show z_X zc_Tp_isWord 9 (0, [(0, .ref 1), (1, .ref 1000)], [], h) = _
    refine (z_X_steps (s' := (5, [(0, .ref 1), (1, .ref 1000)], [.int 1, .int (h.1 1 1)], h)) 3 rfl).trans ?_
    refine (z_X_br (c := ¬ h.1 1 1 = 1) (s1 := (24, [(0, .ref 1), (1, .ref 1000)], [], h)) (s2 := (8, [(0, .ref 1), (1, .ref 1000)], [], h)) rfl).trans (z_ite ?_ ?_)
    · refine (z_X_steps (s' := (25, [(0, .ref 1), (1, .ref 1000)], [.int 0], h)) 1 rfl).trans ?_
      exact z_X_ret rfl
    · refine (z_X_steps (s' := (18, [(0, .ref 1), (1, .ref 1000)], [.ref 1000, .int ((h.1 1 4) - (h.1 1 2))], h)) 6 rfl).trans ?_
      refine (z_X_call (id := 907) (a := [.ref 1000]) (c := 1) (s' := (21, [(0, .ref 1), (1, .ref 1000)], [.int ((h.1 1 4) - (h.1 1 2))], h)) rfl ⟨Nat.le_of_ble_eq_true rfl, Nat.le_of_ble_eq_true rfl⟩).trans ?_
      refine z_bdc fun r1 h2 => ?_
      refine (z_X_br (c := (h.1 1 4) - (h.1 1 2) = r1) (s1 := (26, [(0, .ref 1), (1, .ref 1000)], [], h2)) (s2 := (24, [(0, .ref 1), (1, .ref 1000)], [], h2)) rfl).trans (z_ite ?_ ?_)
      · refine (z_X_steps (s' := (28, [(2, .int 0), (0, .ref 1), (1, .ref 1000)], [], h2)) 2 rfl).trans ?_
        exact z_X_lab rfl
      · refine (z_X_steps (s' := (25, [(0, .ref 1), (1, .ref 1000)], [.int 0], h2)) 1 rfl).trans ?_
        exact z_X_ret rfl
  · show z_X zc_Tp_isWord 9 (0, [(0, .ref 1), (1, .ref 1001)], [], h) = _
    refine (z_X_steps (s' := (5, [(0, .ref 1), (1, .ref 1001)], [.int 1, .int (h.1 1 1)], h)) 3 rfl).trans ?_
    refine (z_X_br (c := ¬ h.1 1 1 = 1) (s1 := (24, [(0, .ref 1), (1, .ref 1001)], [], h)) (s2 := (8, [(0, .ref 1), (1, .ref 1001)], [], h)) rfl).trans (z_ite ?_ ?_)
    · refine (z_X_steps (s' := (25, [(0, .ref 1), (1, .ref 1001)], [.int 0], h)) 1 rfl).trans ?_
      exact z_X_ret rfl
    · refine (z_X_steps (s' := (18, [(0, .ref 1), (1, .ref 1001)], [.ref 1001, .int ((h.1 1 4) - (h.1 1 2))], h)) 6 rfl).trans ?_
      refine (z_X_call (id := 907) (a := [.ref 1001]) (c := 1) (s' := (21, [(0, .ref 1), (1, .ref 1001)], [.int ((h.1 1 4) - (h.1 1 2))], h)) rfl ⟨Nat.le_of_ble_eq_true rfl, Nat.le_of_ble_eq_true rfl⟩).trans ?_
      refine z_bdc fun r1 h2 => ?_
      refine (z_X_br (c := (h.1 1 4) - (h.1 1 2) = r1) (s1 := (26, [(0, .ref 1), (1, .ref 1001)], [], h2)) (s2 := (24, [(0, .ref 1), (1, .ref 1001)], [], h2)) rfl).trans (z_ite ?_ ?_)
      · refine (z_X_steps (s' := (28, [(2, .int 0), (0, .ref 1), (1, .ref 1001)], [], h2)) 2 rfl).trans ?_
        exact z_X_lab rfl
      · refine (z_X_steps (s' := (25, [(0, .ref 1), (1, .ref 1001)], [.int 0], h2)) 1 rfl).trans ?_
        exact z_X_ret rfl
  · show z_X zc_Tp_isWord 9 (0, [(0, .ref 1), (1, .ref 1002)], [], h) = _
    refine (z_X_steps (s' := (5, [(0, .ref 1), (1, .ref 1002)], [.int 1, .int (h.1 1 1)], h)) 3 rfl).trans ?_
    refine (z_X_br (c := ¬ h.1 1 1 = 1) (s1 := (24, [(0, .ref 1), (1, .ref 1002)], [], h)) (s2 := (8, [(0, .ref 1), (1, .ref 1002)], [], h)) rfl).trans (z_ite ?_ ?_)
    · refine (z_X_steps (s' := (25, [(0, .ref 1), (1, .ref 1002)], [.int 0], h)) 1 rfl).trans ?_
      exact z_X_ret rfl
    · refine (z_X_steps (s' := (18, [(0, .ref 1), (1, .ref 1002)], [.ref 1002, .int ((h.1 1 4) - (h.1 1 2))], h)) 6 rfl).trans ?_
      refine (z_X_call (id := 907) (a := [.ref 1002]) (c := 1) (s' := (21, [(0, .ref 1), (1, .ref 1002)], [.int ((h.1 1 4) - (h.1 1 2))], h)) rfl ⟨Nat.le_of_ble_eq_true rfl, Nat.le_of_ble_eq_true rfl⟩).trans ?_
      refine z_bdc fun r1 h2 => ?_
      refine (z_X_br (c := (h.1 1 4) - (h.1 1 2) = r1) (s1 := (26, [(0, .ref 1), (1, .ref 1002)], [], h2)) (s2 := (24, [(0, .ref 1), (1, .ref 1002)], [], h2)) rfl).trans (z_ite ?_ ?_)
      · refine (z_X_steps (s' := (28, [(2, .int 0), (0, .ref 1), (1, .ref 1002)], [], h2)) 2 rfl).trans ?_
        exact z_X_lab rfl
      · refine (z_X_steps (s' := (25, [(0, .ref 1), (1, .ref 1002)], [.int 0], h2)) 1 rfl).trans ?_
        exact z_X_ret rfl
  · show z_X zc_Tp_isWord 9 (0, [(0, .ref 1), (1, .ref 1003)], [], h) = _
    refine (z_X_steps (s' := (5, [(0, .ref 1), (1, .ref 1003)], [.int 1, .int (h.1 1 1)], h)) 3 rfl).trans ?_
    refine (z_X_br (c := ¬ h.1 1 1 = 1) (s1 := (24, [(0, .ref 1), (1, .ref 1003)], [], h)) (s2 := (8, [(0, .ref 1), (1, .ref 1003)], [], h)) rfl).trans (z_ite ?_ ?_)
    · refine (z_X_steps (s' := (25, [(0, .ref 1), (1, .ref 1003)], [.int 0], h)) 1 rfl).trans ?_
      exact z_X_ret rfl
    · refine (z_X_steps (s' := (18, [(0, .ref 1), (1, .ref 1003)], [.ref 1003, .int ((h.1 1 4) - (h.1 1 2))], h)) 6 rfl).trans ?_
      refine (z_X_call (id := 907) (a := [.ref 1003]) (c := 1) (s' := (21, [(0, .ref 1), (1, .ref 1003)], [.int ((h.1 1 4) - (h.1 1 2))], h)) rfl ⟨Nat.le_of_ble_eq_true rfl, Nat.le_of_ble_eq_true rfl⟩).trans ?_
      refine z_bdc fun r1 h2 => ?_
      refine (z_X_br (c := (h.1 1 4) - (h.1 1 2) = r1) (s1 := (26, [(0, .ref 1), (1, .ref 1003)], [], h2)) (s2 := (24, [(0, .ref 1), (1, .ref 1003)], [], h2)) rfl).trans (z_ite ?_ ?_)
      · refine (z_X_steps (s' := (28, [(2, .int 0), (0, .ref 1), (1, .ref 1003)], [], h2)) 2 rfl).trans ?_
        exact z_X_lab rfl
      · refine (z_X_steps (s' := (25, [(0, .ref 1), (1, .ref 1003)], [.int 0], h2)) 1 rfl).trans ?_
        exact z_X_ret rfl
  · show z_X zc_Tp_isWord 9 (0, [(0, .ref 1), (1, .ref 1004)], [], h) = _
    refine (z_X_steps (s' := (5, [(0, .ref 1), (1, .ref 1004)], [.int 1, .int (h.1 1 1)], h)) 3 rfl).trans ?_
    refine (z_X_br (c := ¬ h.1 1 1 = 1) (s1 := (24, [(0, .ref 1), (1, .ref 1004)], [], h)) (s2 := (8, [(0, .ref 1), (1, .ref 1004)], [], h)) rfl).trans (z_ite ?_ ?_)
    · refine (z_X_steps (s' := (25, [(0, .ref 1), (1, .ref 1004)], [.int 0], h)) 1 rfl).trans ?_
      exact z_X_ret rfl
    · refine (z_X_steps (s' := (18, [(0, .ref 1), (1, .ref 1004)], [.ref 1004, .int ((h.1 1 4) - (h.1 1 2))], h)) 6 rfl).trans ?_
      refine (z_X_call (id := 907) (a := [.ref 1004]) (c := 1) (s' := (21, [(0, .ref 1), (1, .ref 1004)], [.int ((h.1 1 4) - (h.1 1 2))], h)) rfl ⟨Nat.le_of_ble_eq_true rfl, Nat.le_of_ble_eq_true rfl⟩).trans ?_
      refine z_bdc fun r1 h2 => ?_
      refine (z_X_br (c := (h.1 1 4) - (h.1 1 2) = r1) (s1 := (26, [(0, .ref 1), (1, .ref 1004)], [], h2)) (s2 := (24, [(0, .ref 1), (1, .ref 1004)], [], h2)) rfl).trans (z_ite ?_ ?_)
      · refine (z_X_steps (s' := (28, [(2, .int 0), (0, .ref 1), (1, .ref 1004)], [], h2)) 2 rfl).trans ?_
        exact z_X_lab rfl
      · refine (z_X_steps (s' := (25, [(0, .ref 1), (1, .ref 1004)], [.int 0], h2)) 1 rfl).trans ?_
        exact z_X_ret rfl
  · show z_X zc_Tp_isWord 9 (0, [(0, .ref 1), (1, .ref 1005)], [], h) = _
    refine (z_X_steps (s' := (5, [(0, .ref 1), (1, .ref 1005)], [.int 1, .int (h.1 1 1)], h)) 3 rfl).trans ?_
    refine (z_X_br (c := ¬ h.1 1 1 = 1) (s1 := (24, [(0, .ref 1), (1, .ref 1005)], [], h)) (s2 := (8, [(0, .ref 1), (1, .ref 1005)], [], h)) rfl).trans (z_ite ?_ ?_)
    · refine (z_X_steps (s' := (25, [(0, .ref 1), (1, .ref 1005)], [.int 0], h)) 1 rfl).trans ?_
      exact z_X_ret rfl
    · refine (z_X_steps (s' := (18, [(0, .ref 1), (1, .ref 1005)], [.ref 1005, .int ((h.1 1 4) - (h.1 1 2))], h)) 6 rfl).trans ?_
      refine (z_X_call (id := 907) (a := [.ref 1005]) (c := 1) (s' := (21, [(0, .ref 1), (1, .ref 1005)], [.int ((h.1 1 4) - (h.1 1 2))], h)) rfl ⟨Nat.le_of_ble_eq_true rfl, Nat.le_of_ble_eq_true rfl⟩).trans ?_
      refine z_bdc fun r1 h2 => ?_
      refine (z_X_br (c := (h.1 1 4) - (h.1 1 2) = r1) (s1 := (26, [(0, .ref 1), (1, .ref 1005)], [], h2)) (s2 := (24, [(0, .ref 1), (1, .ref 1005)], [], h2)) rfl).trans (z_ite ?_ ?_)
      · refine (z_X_steps (s' := (28, [(2, .int 0), (0, .ref 1), (1, .ref 1005)], [], h2)) 2 rfl).trans ?_
        exact z_X_lab rfl
      · refine (z_X_steps (s' := (25, [(0, .ref 1), (1, .ref 1005)], [.int 0], h2)) 1 rfl).trans ?_
        exact z_X_ret rfl
set_option maxRecDepth 8000 in
set_option maxHeartbeats 2000000 in
theorem e_Tp_isWord_28 {w : Nat} (hi : w ∈ [1000, 1001, 1002, 1003, 1004, 1005]) (x2 : Int32) (h : z_H) : zl_Tp_isWord_28 w x2 h = z_bd (z_M 907 [.ref w] h) (fun r1 h2 => (if r1 ≤ x2 then some (1, h2) else (bif z_in ((h2.1 1 2) + x2) 320 then z_bd (z_M 908 [.ref w, .int x2] h2) (fun r3 h4 => (if h2.1 2 (((h2.1 1 2) + x2).toNatClampNeg) = r3 then zl_Tp_isWord_28 w (x2 + 1) h4 else some (0, h4))) else none))) := by
  simp only [List.mem_cons, List.not_mem_nil, or_false, Prod.mk.injEq] at hi
  rcases hi with rfl | rfl | rfl | rfl | rfl | rfl
  · show z_X zc_Tp_isWord 9 (28, [(0, .ref 1), (1, .ref 1000), (2, .int x2)], [], h) = _
    refine (z_X_steps (s' := (30, [(0, .ref 1), (1, .ref 1000), (2, .int x2)], [.ref 1000, .int x2], h)) 2 rfl).trans ?_
    refine (z_X_call (id := 907) (a := [.ref 1000]) (c := 1) (s' := (33, [(0, .ref 1), (1, .ref 1000), (2, .int x2)], [.int x2], h)) rfl ⟨Nat.le_of_ble_eq_true rfl, Nat.le_of_ble_eq_true rfl⟩).trans ?_
    refine z_bdc fun r1 h2 => ?_
    refine (z_X_br (c := r1 ≤ x2) (s1 := (63, [(0, .ref 1), (1, .ref 1000), (2, .int x2)], [], h2)) (s2 := (36, [(0, .ref 1), (1, .ref 1000), (2, .int x2)], [], h2)) rfl).trans (z_ite ?_ ?_)
    · refine (z_X_steps (s' := (64, [(0, .ref 1), (1, .ref 1000), (2, .int x2)], [.int 1], h2)) 1 rfl).trans ?_
      exact z_X_ret rfl
    · refine (z_X_steps (s' := (46, [(0, .ref 1), (1, .ref 1000), (2, .int x2)], [.int ((h2.1 1 2) + x2), .ref 2], h2)) 6 rfl).trans ?_
      refine (z_X_if (g := z_in ((h2.1 1 2) + x2) 320) (s' := (47, [(0, .ref 1), (1, .ref 1000), (2, .int x2)], [.int (h2.1 2 (((h2.1 1 2) + x2).toNatClampNeg))], h2)) rfl).trans (z_bifA ?_)
      refine (z_X_steps (s' := (49, [(0, .ref 1), (1, .ref 1000), (2, .int x2)], [.int x2, .ref 1000, .int (h2.1 2 (((h2.1 1 2) + x2).toNatClampNeg))], h2)) 2 rfl).trans ?_
      refine (z_X_call (id := 908) (a := [.ref 1000, .int x2]) (c := 1) (s' := (52, [(0, .ref 1), (1, .ref 1000), (2, .int x2)], [.int (h2.1 2 (((h2.1 1 2) + x2).toNatClampNeg))], h2)) rfl ⟨Nat.le_of_ble_eq_true rfl, Nat.le_of_ble_eq_true rfl⟩).trans ?_
      refine z_bdc fun r3 h4 => ?_
      refine (z_X_br (c := h2.1 2 (((h2.1 1 2) + x2).toNatClampNeg) = r3) (s1 := (57, [(0, .ref 1), (1, .ref 1000), (2, .int x2)], [], h4)) (s2 := (55, [(0, .ref 1), (1, .ref 1000), (2, .int x2)], [], h4)) rfl).trans (z_ite ?_ ?_)
      · refine (z_X_steps (s' := (28, [(2, .int (x2 + 1)), (0, .ref 1), (1, .ref 1000)], [], h4)) 2 rfl).trans ?_
        exact z_X_lab rfl
      · refine (z_X_steps (s' := (56, [(0, .ref 1), (1, .ref 1000), (2, .int x2)], [.int 0], h4)) 1 rfl).trans ?_
        exact z_X_ret rfl
  · show z_X zc_Tp_isWord 9 (28, [(0, .ref 1), (1, .ref 1001), (2, .int x2)], [], h) = _
    refine (z_X_steps (s' := (30, [(0, .ref 1), (1, .ref 1001), (2, .int x2)], [.ref 1001, .int x2], h)) 2 rfl).trans ?_
    refine (z_X_call (id := 907) (a := [.ref 1001]) (c := 1) (s' := (33, [(0, .ref 1), (1, .ref 1001), (2, .int x2)], [.int x2], h)) rfl ⟨Nat.le_of_ble_eq_true rfl, Nat.le_of_ble_eq_true rfl⟩).trans ?_
    refine z_bdc fun r1 h2 => ?_
    refine (z_X_br (c := r1 ≤ x2) (s1 := (63, [(0, .ref 1), (1, .ref 1001), (2, .int x2)], [], h2)) (s2 := (36, [(0, .ref 1), (1, .ref 1001), (2, .int x2)], [], h2)) rfl).trans (z_ite ?_ ?_)
    · refine (z_X_steps (s' := (64, [(0, .ref 1), (1, .ref 1001), (2, .int x2)], [.int 1], h2)) 1 rfl).trans ?_
      exact z_X_ret rfl
    · refine (z_X_steps (s' := (46, [(0, .ref 1), (1, .ref 1001), (2, .int x2)], [.int ((h2.1 1 2) + x2), .ref 2], h2)) 6 rfl).trans ?_
      refine (z_X_if (g := z_in ((h2.1 1 2) + x2) 320) (s' := (47, [(0, .ref 1), (1, .ref 1001), (2, .int x2)], [.int (h2.1 2 (((h2.1 1 2) + x2).toNatClampNeg))], h2)) rfl).trans (z_bifA ?_)
      refine (z_X_steps (s' := (49, [(0, .ref 1), (1, .ref 1001), (2, .int x2)], [.int x2, .ref 1001, .int (h2.1 2 (((h2.1 1 2) + x2).toNatClampNeg))], h2)) 2 rfl).trans ?_
      refine (z_X_call (id := 908) (a := [.ref 1001, .int x2]) (c := 1) (s' := (52, [(0, .ref 1), (1, .ref 1001), (2, .int x2)], [.int (h2.1 2 (((h2.1 1 2) + x2).toNatClampNeg))], h2)) rfl ⟨Nat.le_of_ble_eq_true rfl, Nat.le_of_ble_eq_true rfl⟩).trans ?_
      refine z_bdc fun r3 h4 => ?_
      refine (z_X_br (c := h2.1 2 (((h2.1 1 2) + x2).toNatClampNeg) = r3) (s1 := (57, [(0, .ref 1), (1, .ref 1001), (2, .int x2)], [], h4)) (s2 := (55, [(0, .ref 1), (1, .ref 1001), (2, .int x2)], [], h4)) rfl).trans (z_ite ?_ ?_)
      · refine (z_X_steps (s' := (28, [(2, .int (x2 + 1)), (0, .ref 1), (1, .ref 1001)], [], h4)) 2 rfl).trans ?_
        exact z_X_lab rfl
      · refine (z_X_steps (s' := (56, [(0, .ref 1), (1, .ref 1001), (2, .int x2)], [.int 0], h4)) 1 rfl).trans ?_
        exact z_X_ret rfl
  · show z_X zc_Tp_isWord 9 (28, [(0, .ref 1), (1, .ref 1002), (2, .int x2)], [], h) = _
    refine (z_X_steps (s' := (30, [(0, .ref 1), (1, .ref 1002), (2, .int x2)], [.ref 1002, .int x2], h)) 2 rfl).trans ?_
    refine (z_X_call (id := 907) (a := [.ref 1002]) (c := 1) (s' := (33, [(0, .ref 1), (1, .ref 1002), (2, .int x2)], [.int x2], h)) rfl ⟨Nat.le_of_ble_eq_true rfl, Nat.le_of_ble_eq_true rfl⟩).trans ?_
    refine z_bdc fun r1 h2 => ?_
    refine (z_X_br (c := r1 ≤ x2) (s1 := (63, [(0, .ref 1), (1, .ref 1002), (2, .int x2)], [], h2)) (s2 := (36, [(0, .ref 1), (1, .ref 1002), (2, .int x2)], [], h2)) rfl).trans (z_ite ?_ ?_)
    · refine (z_X_steps (s' := (64, [(0, .ref 1), (1, .ref 1002), (2, .int x2)], [.int 1], h2)) 1 rfl).trans ?_
      exact z_X_ret rfl
    · refine (z_X_steps (s' := (46, [(0, .ref 1), (1, .ref 1002), (2, .int x2)], [.int ((h2.1 1 2) + x2), .ref 2], h2)) 6 rfl).trans ?_
      refine (z_X_if (g := z_in ((h2.1 1 2) + x2) 320) (s' := (47, [(0, .ref 1), (1, .ref 1002), (2, .int x2)], [.int (h2.1 2 (((h2.1 1 2) + x2).toNatClampNeg))], h2)) rfl).trans (z_bifA ?_)
      refine (z_X_steps (s' := (49, [(0, .ref 1), (1, .ref 1002), (2, .int x2)], [.int x2, .ref 1002, .int (h2.1 2 (((h2.1 1 2) + x2).toNatClampNeg))], h2)) 2 rfl).trans ?_
      refine (z_X_call (id := 908) (a := [.ref 1002, .int x2]) (c := 1) (s' := (52, [(0, .ref 1), (1, .ref 1002), (2, .int x2)], [.int (h2.1 2 (((h2.1 1 2) + x2).toNatClampNeg))], h2)) rfl ⟨Nat.le_of_ble_eq_true rfl, Nat.le_of_ble_eq_true rfl⟩).trans ?_
      refine z_bdc fun r3 h4 => ?_
      refine (z_X_br (c := h2.1 2 (((h2.1 1 2) + x2).toNatClampNeg) = r3) (s1 := (57, [(0, .ref 1), (1, .ref 1002), (2, .int x2)], [], h4)) (s2 := (55, [(0, .ref 1), (1, .ref 1002), (2, .int x2)], [], h4)) rfl).trans (z_ite ?_ ?_)
      · refine (z_X_steps (s' := (28, [(2, .int (x2 + 1)), (0, .ref 1), (1, .ref 1002)], [], h4)) 2 rfl).trans ?_
        exact z_X_lab rfl
      · refine (z_X_steps (s' := (56, [(0, .ref 1), (1, .ref 1002), (2, .int x2)], [.int 0], h4)) 1 rfl).trans ?_
        exact z_X_ret rfl
  · show z_X zc_Tp_isWord 9 (28, [(0, .ref 1), (1, .ref 1003), (2, .int x2)], [], h) = _
    refine (z_X_steps (s' := (30, [(0, .ref 1), (1, .ref 1003), (2, .int x2)], [.ref 1003, .int x2], h)) 2 rfl).trans ?_
    refine (z_X_call (id := 907) (a := [.ref 1003]) (c := 1) (s' := (33, [(0, .ref 1), (1, .ref 1003), (2, .int x2)], [.int x2], h)) rfl ⟨Nat.le_of_ble_eq_true rfl, Nat.le_of_ble_eq_true rfl⟩).trans ?_
    refine z_bdc fun r1 h2 => ?_
    refine (z_X_br (c := r1 ≤ x2) (s1 := (63, [(0, .ref 1), (1, .ref 1003), (2, .int x2)], [], h2)) (s2 := (36, [(0, .ref 1), (1, .ref 1003), (2, .int x2)], [], h2)) rfl).trans (z_ite ?_ ?_)
    · refine (z_X_steps (s' := (64, [(0, .ref 1), (1, .ref 1003), (2, .int x2)], [.int 1], h2)) 1 rfl).trans ?_
      exact z_X_ret rfl
    · refine (z_X_steps (s' := (46, [(0, .ref 1), (1, .ref 1003), (2, .int x2)], [.int ((h2.1 1 2) + x2), .ref 2], h2)) 6 rfl).trans ?_
      refine (z_X_if (g := z_in ((h2.1 1 2) + x2) 320) (s' := (47, [(0, .ref 1), (1, .ref 1003), (2, .int x2)], [.int (h2.1 2 (((h2.1 1 2) + x2).toNatClampNeg))], h2)) rfl).trans (z_bifA ?_)
      refine (z_X_steps (s' := (49, [(0, .ref 1), (1, .ref 1003), (2, .int x2)], [.int x2, .ref 1003, .int (h2.1 2 (((h2.1 1 2) + x2).toNatClampNeg))], h2)) 2 rfl).trans ?_
      refine (z_X_call (id := 908) (a := [.ref 1003, .int x2]) (c := 1) (s' := (52, [(0, .ref 1), (1, .ref 1003), (2, .int x2)], [.int (h2.1 2 (((h2.1 1 2) + x2).toNatClampNeg))], h2)) rfl ⟨Nat.le_of_ble_eq_true rfl, Nat.le_of_ble_eq_true rfl⟩).trans ?_
      refine z_bdc fun r3 h4 => ?_
      refine (z_X_br (c := h2.1 2 (((h2.1 1 2) + x2).toNatClampNeg) = r3) (s1 := (57, [(0, .ref 1), (1, .ref 1003), (2, .int x2)], [], h4)) (s2 := (55, [(0, .ref 1), (1, .ref 1003), (2, .int x2)], [], h4)) rfl).trans (z_ite ?_ ?_)
      · refine (z_X_steps (s' := (28, [(2, .int (x2 + 1)), (0, .ref 1), (1, .ref 1003)], [], h4)) 2 rfl).trans ?_
        exact z_X_lab rfl
      · refine (z_X_steps (s' := (56, [(0, .ref 1), (1, .ref 1003), (2, .int x2)], [.int 0], h4)) 1 rfl).trans ?_
        exact z_X_ret rfl
  · show z_X zc_Tp_isWord 9 (28, [(0, .ref 1), (1, .ref 1004), (2, .int x2)], [], h) = _
    refine (z_X_steps (s' := (30, [(0, .ref 1), (1, .ref 1004), (2, .int x2)], [.ref 1004, .int x2], h)) 2 rfl).trans ?_
    refine (z_X_call (id := 907) (a := [.ref 1004]) (c := 1) (s' := (33, [(0, .ref 1), (1, .ref 1004), (2, .int x2)], [.int x2], h)) rfl ⟨Nat.le_of_ble_eq_true rfl, Nat.le_of_ble_eq_true rfl⟩).trans ?_
    refine z_bdc fun r1 h2 => ?_
    refine (z_X_br (c := r1 ≤ x2) (s1 := (63, [(0, .ref 1), (1, .ref 1004), (2, .int x2)], [], h2)) (s2 := (36, [(0, .ref 1), (1, .ref 1004), (2, .int x2)], [], h2)) rfl).trans (z_ite ?_ ?_)
    · refine (z_X_steps (s' := (64, [(0, .ref 1), (1, .ref 1004), (2, .int x2)], [.int 1], h2)) 1 rfl).trans ?_
      exact z_X_ret rfl
    · refine (z_X_steps (s' := (46, [(0, .ref 1), (1, .ref 1004), (2, .int x2)], [.int ((h2.1 1 2) + x2), .ref 2], h2)) 6 rfl).trans ?_
      refine (z_X_if (g := z_in ((h2.1 1 2) + x2) 320) (s' := (47, [(0, .ref 1), (1, .ref 1004), (2, .int x2)], [.int (h2.1 2 (((h2.1 1 2) + x2).toNatClampNeg))], h2)) rfl).trans (z_bifA ?_)
      refine (z_X_steps (s' := (49, [(0, .ref 1), (1, .ref 1004), (2, .int x2)], [.int x2, .ref 1004, .int (h2.1 2 (((h2.1 1 2) + x2).toNatClampNeg))], h2)) 2 rfl).trans ?_
      refine (z_X_call (id := 908) (a := [.ref 1004, .int x2]) (c := 1) (s' := (52, [(0, .ref 1), (1, .ref 1004), (2, .int x2)], [.int (h2.1 2 (((h2.1 1 2) + x2).toNatClampNeg))], h2)) rfl ⟨Nat.le_of_ble_eq_true rfl, Nat.le_of_ble_eq_true rfl⟩).trans ?_
      refine z_bdc fun r3 h4 => ?_
      refine (z_X_br (c := h2.1 2 (((h2.1 1 2) + x2).toNatClampNeg) = r3) (s1 := (57, [(0, .ref 1), (1, .ref 1004), (2, .int x2)], [], h4)) (s2 := (55, [(0, .ref 1), (1, .ref 1004), (2, .int x2)], [], h4)) rfl).trans (z_ite ?_ ?_)
      · refine (z_X_steps (s' := (28, [(2, .int (x2 + 1)), (0, .ref 1), (1, .ref 1004)], [], h4)) 2 rfl).trans ?_
        exact z_X_lab rfl
      · refine (z_X_steps (s' := (56, [(0, .ref 1), (1, .ref 1004), (2, .int x2)], [.int 0], h4)) 1 rfl).trans ?_
        exact z_X_ret rfl
  · show z_X zc_Tp_isWord 9 (28, [(0, .ref 1), (1, .ref 1005), (2, .int x2)], [], h) = _
    refine (z_X_steps (s' := (30, [(0, .ref 1), (1, .ref 1005), (2, .int x2)], [.ref 1005, .int x2], h)) 2 rfl).trans ?_
    refine (z_X_call (id := 907) (a := [.ref 1005]) (c := 1) (s' := (33, [(0, .ref 1), (1, .ref 1005), (2, .int x2)], [.int x2], h)) rfl ⟨Nat.le_of_ble_eq_true rfl, Nat.le_of_ble_eq_true rfl⟩).trans ?_
    refine z_bdc fun r1 h2 => ?_
    refine (z_X_br (c := r1 ≤ x2) (s1 := (63, [(0, .ref 1), (1, .ref 1005), (2, .int x2)], [], h2)) (s2 := (36, [(0, .ref 1), (1, .ref 1005), (2, .int x2)], [], h2)) rfl).trans (z_ite ?_ ?_)
    · refine (z_X_steps (s' := (64, [(0, .ref 1), (1, .ref 1005), (2, .int x2)], [.int 1], h2)) 1 rfl).trans ?_
      exact z_X_ret rfl
    · refine (z_X_steps (s' := (46, [(0, .ref 1), (1, .ref 1005), (2, .int x2)], [.int ((h2.1 1 2) + x2), .ref 2], h2)) 6 rfl).trans ?_
      refine (z_X_if (g := z_in ((h2.1 1 2) + x2) 320) (s' := (47, [(0, .ref 1), (1, .ref 1005), (2, .int x2)], [.int (h2.1 2 (((h2.1 1 2) + x2).toNatClampNeg))], h2)) rfl).trans (z_bifA ?_)
      refine (z_X_steps (s' := (49, [(0, .ref 1), (1, .ref 1005), (2, .int x2)], [.int x2, .ref 1005, .int (h2.1 2 (((h2.1 1 2) + x2).toNatClampNeg))], h2)) 2 rfl).trans ?_
      refine (z_X_call (id := 908) (a := [.ref 1005, .int x2]) (c := 1) (s' := (52, [(0, .ref 1), (1, .ref 1005), (2, .int x2)], [.int (h2.1 2 (((h2.1 1 2) + x2).toNatClampNeg))], h2)) rfl ⟨Nat.le_of_ble_eq_true rfl, Nat.le_of_ble_eq_true rfl⟩).trans ?_
      refine z_bdc fun r3 h4 => ?_
      refine (z_X_br (c := h2.1 2 (((h2.1 1 2) + x2).toNatClampNeg) = r3) (s1 := (57, [(0, .ref 1), (1, .ref 1005), (2, .int x2)], [], h4)) (s2 := (55, [(0, .ref 1), (1, .ref 1005), (2, .int x2)], [], h4)) rfl).trans (z_ite ?_ ?_)
      · refine (z_X_steps (s' := (28, [(2, .int (x2 + 1)), (0, .ref 1), (1, .ref 1005)], [], h4)) 2 rfl).trans ?_
        exact z_X_lab rfl
      · refine (z_X_steps (s' := (56, [(0, .ref 1), (1, .ref 1005), (2, .int x2)], [.int 0], h4)) 1 rfl).trans ?_
        exact z_X_ret rfl
noncomputable def zl_Tp_takeWord_5 (h : z_H) : Option z_A := z_X zc_Tp_takeWord 2 (5, [(0, .ref 1)], [], h)
set_option maxRecDepth 8000 in
set_option maxHeartbeats 2000000 in
theorem e_Tp_takeWord (h : z_H) : z_M 49 [.ref 1] h = zl_Tp_takeWord_5 (z_wI h 1 1 1) := by
  refine (z_M_eq (by decide)).trans ?_
  show z_X zc_Tp_takeWord 2 (0, [(0, .ref 1)], [], h) = _
  refine (z_X_steps (s' := (5, [(0, .ref 1)], [], (z_wI h 1 1 1))) 3 rfl).trans ?_
  exact z_X_lab rfl
set_option maxRecDepth 8000 in
set_option maxHeartbeats 2000000 in
theorem e_Tp_takeWord_5 (h : z_H) : zl_Tp_takeWord_5 h = (if h.1 1 0 ≤ h.1 1 4 then some (0, h) else (bif z_in (h.1 1 4) 320 then z_bd (z_M 51 [.int (h.1 2 ((h.1 1 4).toNatClampNeg))] h) (fun r1 h2 => (if r1 = 0 then some (0, h2) else zl_Tp_takeWord_5 (z_wI h2 1 4 ((h2.1 1 4) + 1)))) else none)) := by
  show z_X zc_Tp_takeWord 2 (5, [(0, .ref 1)], [], h) = _
  refine (z_X_steps (s' := (13, [(0, .ref 1)], [.int (h.1 1 0), .int (h.1 1 4)], h)) 4 rfl).trans ?_
  refine (z_X_br (c := h.1 1 0 ≤ h.1 1 4) (s1 := (44, [(0, .ref 1)], [], h)) (s2 := (16, [(0, .ref 1)], [], h)) rfl).trans (z_ite ?_ ?_)
  · exact z_X_ret rfl
  · refine (z_X_steps (s' := (24, [(0, .ref 1)], [.int (h.1 1 4), .ref 2], h)) 4 rfl).trans ?_
    refine (z_X_if (g := z_in (h.1 1 4) 320) (s' := (25, [(0, .ref 1)], [.int (h.1 2 ((h.1 1 4).toNatClampNeg))], h)) rfl).trans (z_bifA ?_)
    refine (z_X_call (id := 51) (a := [.int (h.1 2 ((h.1 1 4).toNatClampNeg))]) (c := 1) (s' := (28, [(0, .ref 1)], [], h)) rfl ⟨Nat.le_of_ble_eq_true rfl, Nat.le_of_ble_eq_true rfl⟩).trans ?_
    refine z_bdc fun r1 h2 => ?_
    refine (z_X_br (c := r1 = 0) (s1 := (44, [(0, .ref 1)], [], h2)) (s2 := (31, [(0, .ref 1)], [], h2)) rfl).trans (z_ite ?_ ?_)
    · exact z_X_ret rfl
    · refine (z_X_steps (s' := (5, [(0, .ref 1)], [], (z_wI h2 1 4 ((h2.1 1 4) + 1)))) 7 rfl).trans ?_
      exact z_X_lab rfl
noncomputable def zl_Tp_takeNumber_5 (h : z_H) : Option z_A := z_X zc_Tp_takeNumber 2 (5, [(0, .ref 1)], [], h)
noncomputable def zl_Tp_takeNumber_68 (h : z_H) : Option z_A := z_X zc_Tp_takeNumber 2 (68, [(0, .ref 1)], [], h)
set_option maxRecDepth 8000 in
set_option maxHeartbeats 2000000 in
theorem e_Tp_takeNumber (h : z_H) : z_M 50 [.ref 1] h = zl_Tp_takeNumber_5 (z_wI h 1 3 0) := by
  refine (z_M_eq (by decide)).trans ?_
  show z_X zc_Tp_takeNumber 2 (0, [(0, .ref 1)], [], h) = _
  refine (z_X_steps (s' := (5, [(0, .ref 1)], [], (z_wI h 1 3 0))) 3 rfl).trans ?_
  exact z_X_lab rfl
set_option maxRecDepth 8000 in
set_option maxHeartbeats 2000000 in
theorem e_Tp_takeNumber_5 (h : z_H) : zl_Tp_takeNumber_5 h = (if h.1 1 0 ≤ h.1 1 4 then zl_Tp_takeNumber_68 h else (bif z_in (h.1 1 4) 320 then z_bd (z_M 52 [.int (h.1 2 ((h.1 1 4).toNatClampNeg))] h) (fun r1 h2 => (if r1 = 0 then zl_Tp_takeNumber_68 h2 else (bif z_in (h2.1 1 4) 320 then zl_Tp_takeNumber_5 (z_wI (z_wI h2 1 3 (((10 * (h2.1 1 3)) + (h2.1 2 ((h2.1 1 4).toNatClampNeg))) - 48)) 1 4 (((z_wI h2 1 3 (((10 * (h2.1 1 3)) + (h2.1 2 ((h2.1 1 4).toNatClampNeg))) - 48)).1 1 4) + 1)) else none))) else none)) := by
  show z_X zc_Tp_takeNumber 2 (5, [(0, .ref 1)], [], h) = _
  refine (z_X_steps (s' := (13, [(0, .ref 1)], [.int (h.1 1 0), .int (h.1 1 4)], h)) 4 rfl).trans ?_
  refine (z_X_br (c := h.1 1 0 ≤ h.1 1 4) (s1 := (68, [(0, .ref 1)], [], h)) (s2 := (16, [(0, .ref 1)], [], h)) rfl).trans (z_ite ?_ ?_)
  · exact z_X_lab rfl
  · refine (z_X_steps (s' := (24, [(0, .ref 1)], [.int (h.1 1 4), .ref 2], h)) 4 rfl).trans ?_
    refine (z_X_if (g := z_in (h.1 1 4) 320) (s' := (25, [(0, .ref 1)], [.int (h.1 2 ((h.1 1 4).toNatClampNeg))], h)) rfl).trans (z_bifA ?_)
    refine (z_X_call (id := 52) (a := [.int (h.1 2 ((h.1 1 4).toNatClampNeg))]) (c := 1) (s' := (28, [(0, .ref 1)], [], h)) rfl ⟨Nat.le_of_ble_eq_true rfl, Nat.le_of_ble_eq_true rfl⟩).trans ?_
    refine z_bdc fun r1 h2 => ?_
    refine (z_X_br (c := r1 = 0) (s1 := (68, [(0, .ref 1)], [], h2)) (s2 := (31, [(0, .ref 1)], [], h2)) rfl).trans (z_ite ?_ ?_)
    · exact z_X_lab rfl
    · refine (z_X_steps (s' := (47, [(0, .ref 1)], [.int (h2.1 1 4), .ref 2, .int (10 * (h2.1 1 3)), .ref 1], h2)) 9 rfl).trans ?_
      refine (z_X_if (g := z_in (h2.1 1 4) 320) (s' := (48, [(0, .ref 1)], [.int (h2.1 2 ((h2.1 1 4).toNatClampNeg)), .int (10 * (h2.1 1 3)), .ref 1], h2)) rfl).trans (z_bifA ?_)
      refine (z_X_steps (s' := (5, [(0, .ref 1)], [], (z_wI (z_wI h2 1 3 (((10 * (h2.1 1 3)) + (h2.1 2 ((h2.1 1 4).toNatClampNeg))) - 48)) 1 4 (((z_wI h2 1 3 (((10 * (h2.1 1 3)) + (h2.1 2 ((h2.1 1 4).toNatClampNeg))) - 48)).1 1 4) + 1)))) 11 rfl).trans ?_
      exact z_X_lab rfl
set_option maxRecDepth 8000 in
set_option maxHeartbeats 2000000 in
theorem e_Tp_takeNumber_68 (h : z_H) : zl_Tp_takeNumber_68 h = (if (h.1 1 4) - (h.1 1 2) ≤ 3 then some (0, (z_wI h 1 1 2)) else some (0, (z_wI h 1 1 0))) := by
  show z_X zc_Tp_takeNumber 2 (68, [(0, .ref 1)], [], h) = _
  refine (z_X_steps (s' := (79, [(0, .ref 1)], [.int 3, .int ((h.1 1 4) - (h.1 1 2)), .ref 1], h)) 7 rfl).trans ?_
  refine (z_X_br (c := (h.1 1 4) - (h.1 1 2) ≤ 3) (s1 := (86, [(0, .ref 1)], [.ref 1], h)) (s2 := (82, [(0, .ref 1)], [.ref 1], h)) rfl).trans (z_ite ?_ ?_)
  · refine (z_X_steps (s' := (90, [(0, .ref 1)], [], (z_wI h 1 1 2))) 2 rfl).trans ?_
    exact z_X_ret rfl
  · refine (z_X_steps (s' := (90, [(0, .ref 1)], [], (z_wI h 1 1 0))) 3 rfl).trans ?_
    exact z_X_ret rfl
set_option maxRecDepth 8000 in
set_option maxHeartbeats 2000000 in
theorem e_Tp_isLetter (x0 : Int32) (h : z_H) : z_M 51 [.int x0] h = (if x0 < 97 then some (0, h) else (if (122 : Int32) < x0 then some (0, h) else some (1, h))) := by
  refine (z_M_eq (by decide)).trans ?_
  show z_X zc_Tp_isLetter 1 (0, [(0, .int x0)], [], h) = _
  refine (z_X_steps (s' := (3, [(0, .int x0)], [.int 97, .int x0], h)) 2 rfl).trans ?_
  refine (z_X_br (c := x0 < 97) (s1 := (16, [(0, .int x0)], [], h)) (s2 := (6, [(0, .int x0)], [], h)) rfl).trans (z_ite ?_ ?_)
  · refine (z_X_steps (s' := (17, [(0, .int x0)], [.int 0], h)) 1 rfl).trans ?_
    exact z_X_ret rfl
  · refine (z_X_steps (s' := (9, [(0, .int x0)], [.int 122, .int x0], h)) 2 rfl).trans ?_
    refine (z_X_br (c := (122 : Int32) < x0) (s1 := (16, [(0, .int x0)], [], h)) (s2 := (12, [(0, .int x0)], [], h)) rfl).trans (z_ite ?_ ?_)
    · refine (z_X_steps (s' := (17, [(0, .int x0)], [.int 0], h)) 1 rfl).trans ?_
      exact z_X_ret rfl
    · refine (z_X_steps (s' := (17, [(0, .int x0)], [.int 1], h)) 2 rfl).trans ?_
      exact z_X_ret rfl
set_option maxRecDepth 8000 in
set_option maxHeartbeats 2000000 in
theorem e_Tp_isFigure (x0 : Int32) (h : z_H) : z_M 52 [.int x0] h = (if x0 < 48 then some (0, h) else (if (57 : Int32) < x0 then some (0, h) else some (1, h))) := by
  refine (z_M_eq (by decide)).trans ?_
  show z_X zc_Tp_isFigure 1 (0, [(0, .int x0)], [], h) = _
  refine (z_X_steps (s' := (3, [(0, .int x0)], [.int 48, .int x0], h)) 2 rfl).trans ?_
  refine (z_X_br (c := x0 < 48) (s1 := (16, [(0, .int x0)], [], h)) (s2 := (6, [(0, .int x0)], [], h)) rfl).trans (z_ite ?_ ?_)
  · refine (z_X_steps (s' := (17, [(0, .int x0)], [.int 0], h)) 1 rfl).trans ?_
    exact z_X_ret rfl
  · refine (z_X_steps (s' := (9, [(0, .int x0)], [.int 57, .int x0], h)) 2 rfl).trans ?_
    refine (z_X_br (c := (57 : Int32) < x0) (s1 := (16, [(0, .int x0)], [], h)) (s2 := (12, [(0, .int x0)], [], h)) rfl).trans (z_ite ?_ ?_)
    · refine (z_X_steps (s' := (17, [(0, .int x0)], [.int 0], h)) 1 rfl).trans ?_
      exact z_X_ret rfl
    · refine (z_X_steps (s' := (17, [(0, .int x0)], [.int 1], h)) 2 rfl).trans ?_
      exact z_X_ret rfl
noncomputable def zl_Rd_readAll_50 (x1 : Int32) (h : z_H) : Option z_A := z_X zc_Rd_readAll 12 (50, [(0, .ref 3), (1, .int x1)], [], h)
noncomputable def zl_Rd_readAll_85 (h : z_H) : Option z_A := z_X zc_Rd_readAll 12 (85, [(0, .ref 3)], [], h)
set_option maxRecDepth 8000 in
set_option maxHeartbeats 2000000 in
theorem e_Rd_readAll (h : z_H) : z_M 53 [.ref 3] h = z_bd (z_M 68 [.ref 4] (z_wI (z_wI (z_wI (z_wI h 3 0 0) 3 2 0) 3 7 (-4)) 3 8 (-4))) (fun r1 h2 => z_bd (z_M 46 [.ref 1] (z_wI h2 12 0 0)) (fun r3 h4 => z_bd (z_M 55 [.ref 3] h4) (fun r5 h6 => zl_Rd_readAll_50 0 h6))) := by
  refine (z_M_eq (by decide)).trans ?_
  show z_X zc_Rd_readAll 12 (0, [(0, .ref 3)], [], h) = _
  refine (z_X_steps (s' := (26, [(0, .ref 3)], [.ref 4], (z_wI (z_wI (z_wI (z_wI h 3 0 0) 3 2 0) 3 7 (-4)) 3 8 (-4)))) 14 rfl).trans ?_
  refine (z_X_call (id := 68) (a := [.ref 4]) (c := 0) (s' := (29, [(0, .ref 3)], [], (z_wI (z_wI (z_wI (z_wI h 3 0 0) 3 2 0) 3 7 (-4)) 3 8 (-4)))) rfl ⟨Nat.le_of_ble_eq_true rfl, Nat.le_of_ble_eq_true rfl⟩).trans ?_
  refine z_bdc fun r1 h2 => ?_
  refine (z_X_steps (s' := (41, [(0, .ref 3)], [.ref 1], (z_wI h2 12 0 0))) 6 rfl).trans ?_
  refine (z_X_call (id := 46) (a := [.ref 1]) (c := 0) (s' := (44, [(0, .ref 3)], [], (z_wI h2 12 0 0))) rfl ⟨Nat.le_of_ble_eq_true rfl, Nat.le_of_ble_eq_true rfl⟩).trans ?_
  refine z_bdc fun r3 h4 => ?_
  refine (z_X_steps (s' := (45, [(0, .ref 3)], [.ref 3], h4)) 1 rfl).trans ?_
  refine (z_X_call (id := 55) (a := [.ref 3]) (c := 0) (s' := (48, [(0, .ref 3)], [], h4)) rfl ⟨Nat.le_of_ble_eq_true rfl, Nat.le_of_ble_eq_true rfl⟩).trans ?_
  refine z_bdc fun r5 h6 => ?_
  refine (z_X_steps (s' := (50, [(1, .int 0), (0, .ref 3)], [], h6)) 2 rfl).trans ?_
  exact z_X_lab rfl
set_option maxRecDepth 8000 in
set_option maxHeartbeats 2000000 in
theorem e_Rd_readAll_50 (x1 : Int32) (h : z_H) : zl_Rd_readAll_50 x1 h = (if (320 : Int32) < x1 then zl_Rd_readAll_85 h else (if ¬ h.1 3 0 = 0 then zl_Rd_readAll_85 h else (if h.1 1 1 = 4 then zl_Rd_readAll_85 h else z_bd (z_M 56 [.ref 3] h) (fun r1 h2 => zl_Rd_readAll_50 (x1 + 1) h2)))) := by
  show z_X zc_Rd_readAll 12 (50, [(0, .ref 3), (1, .int x1)], [], h) = _
  refine (z_X_steps (s' := (54, [(0, .ref 3), (1, .int x1)], [.int 320, .int x1], h)) 2 rfl).trans ?_
  refine (z_X_br (c := (320 : Int32) < x1) (s1 := (85, [(0, .ref 3), (1, .int x1)], [], h)) (s2 := (57, [(0, .ref 3), (1, .int x1)], [], h)) rfl).trans (z_ite ?_ ?_)
  · exact z_X_lab rfl
  · refine (z_X_steps (s' := (61, [(0, .ref 3), (1, .int x1)], [.int (h.1 3 0)], h)) 2 rfl).trans ?_
    refine (z_X_br (c := ¬ h.1 3 0 = 0) (s1 := (85, [(0, .ref 3), (1, .int x1)], [], h)) (s2 := (64, [(0, .ref 3), (1, .int x1)], [], h)) rfl).trans (z_ite ?_ ?_)
    · exact z_X_lab rfl
    · refine (z_X_steps (s' := (72, [(0, .ref 3), (1, .int x1)], [.int 4, .int (h.1 1 1)], h)) 4 rfl).trans ?_
      refine (z_X_br (c := h.1 1 1 = 4) (s1 := (85, [(0, .ref 3), (1, .int x1)], [], h)) (s2 := (75, [(0, .ref 3), (1, .int x1)], [], h)) rfl).trans (z_ite ?_ ?_)
      · exact z_X_lab rfl
      · refine (z_X_steps (s' := (76, [(0, .ref 3), (1, .int x1)], [.ref 3], h)) 1 rfl).trans ?_
        refine (z_X_call (id := 56) (a := [.ref 3]) (c := 0) (s' := (79, [(0, .ref 3), (1, .int x1)], [], h)) rfl ⟨Nat.le_of_ble_eq_true rfl, Nat.le_of_ble_eq_true rfl⟩).trans ?_
        refine z_bdc fun r1 h2 => ?_
        refine (z_X_steps (s' := (50, [(1, .int (x1 + 1)), (0, .ref 3)], [], h2)) 2 rfl).trans ?_
        exact z_X_lab rfl
set_option maxRecDepth 8000 in
set_option maxHeartbeats 2000000 in
theorem e_Rd_readAll_85 (h : z_H) : zl_Rd_readAll_85 h = (if ¬ h.1 3 0 = 0 then some (0, h) else z_bd (z_M 67 [.ref 3] h) (fun r1 h2 => (if r1 = 0 then some (0, h2) else z_bd (z_M 54 [.ref 3, .int 6] h2) (fun r3 h4 => some (0, h4))))) := by
  show z_X zc_Rd_readAll 12 (85, [(0, .ref 3)], [], h) = _
  refine (z_X_steps (s' := (89, [(0, .ref 3)], [.int (h.1 3 0)], h)) 2 rfl).trans ?_
  refine (z_X_br (c := ¬ h.1 3 0 = 0) (s1 := (105, [(0, .ref 3)], [], h)) (s2 := (92, [(0, .ref 3)], [], h)) rfl).trans (z_ite ?_ ?_)
  · exact z_X_ret rfl
  · refine (z_X_steps (s' := (93, [(0, .ref 3)], [.ref 3], h)) 1 rfl).trans ?_
    refine (z_X_call (id := 67) (a := [.ref 3]) (c := 1) (s' := (96, [(0, .ref 3)], [], h)) rfl ⟨Nat.le_of_ble_eq_true rfl, Nat.le_of_ble_eq_true rfl⟩).trans ?_
    refine z_bdc fun r1 h2 => ?_
    refine (z_X_br (c := r1 = 0) (s1 := (105, [(0, .ref 3)], [], h2)) (s2 := (99, [(0, .ref 3)], [], h2)) rfl).trans (z_ite ?_ ?_)
    · exact z_X_ret rfl
    · refine (z_X_steps (s' := (102, [(0, .ref 3)], [.int 6, .ref 3], h2)) 2 rfl).trans ?_
      refine (z_X_call (id := 54) (a := [.ref 3, .int 6]) (c := 0) (s' := (105, [(0, .ref 3)], [], h2)) rfl ⟨Nat.le_of_ble_eq_true rfl, Nat.le_of_ble_eq_true rfl⟩).trans ?_
      refine z_bdc fun r3 h4 => ?_
      exact z_X_ret rfl
set_option maxRecDepth 8000 in
set_option maxHeartbeats 2000000 in
theorem e_Rd_fail (x1 : Int32) (h : z_H) : z_M 54 [.ref 3, .int x1] h = some (0, (z_wI (z_wI h 3 0 x1) 3 1 ((z_wI h 3 0 x1).1 1 2))) := by
  refine (z_M_eq (by decide)).trans ?_
  show z_X zc_Rd_fail 1 (0, [(0, .ref 3), (1, .int x1)], [], h) = _
  refine (z_X_steps (s' := (16, [(0, .ref 3), (1, .int x1)], [], (z_wI (z_wI h 3 0 x1) 3 1 ((z_wI h 3 0 x1).1 1 2)))) 8 rfl).trans ?_
  exact z_X_ret rfl
set_option maxRecDepth 8000 in
set_option maxHeartbeats 2000000 in
theorem e_Rd_advance (h : z_H) : z_M 55 [.ref 3] h = z_bd (z_M 47 [.ref 1] h) (fun r1 h2 => (if ¬ h2.1 1 1 = 0 then some (0, h2) else z_bd (z_M 54 [.ref 3, .int 1] h2) (fun r3 h4 => some (0, h4)))) := by
  refine (z_M_eq (by decide)).trans ?_
  show z_X zc_Rd_advance 4 (0, [(0, .ref 3)], [], h) = _
  refine (z_X_steps (s' := (4, [(0, .ref 3)], [.ref 1], h)) 2 rfl).trans ?_
  refine (z_X_call (id := 47) (a := [.ref 1]) (c := 0) (s' := (7, [(0, .ref 3)], [], h)) rfl ⟨Nat.le_of_ble_eq_true rfl, Nat.le_of_ble_eq_true rfl⟩).trans ?_
  refine z_bdc fun r1 h2 => ?_
  refine (z_X_steps (s' := (14, [(0, .ref 3)], [.int (h2.1 1 1)], h2)) 3 rfl).trans ?_
  refine (z_X_br (c := ¬ h2.1 1 1 = 0) (s1 := (22, [(0, .ref 3)], [], h2)) (s2 := (17, [(0, .ref 3)], [], h2)) rfl).trans (z_ite ?_ ?_)
  · exact z_X_ret rfl
  · refine (z_X_steps (s' := (19, [(0, .ref 3)], [.int 1, .ref 3], h2)) 2 rfl).trans ?_
    refine (z_X_call (id := 54) (a := [.ref 3, .int 1]) (c := 0) (s' := (22, [(0, .ref 3)], [], h2)) rfl ⟨Nat.le_of_ble_eq_true rfl, Nat.le_of_ble_eq_true rfl⟩).trans ?_
    refine z_bdc fun r3 h4 => ?_
    exact z_X_ret rfl
set_option maxRecDepth 8000 in
set_option maxHeartbeats 2000000 in
theorem e_Rd_readLine (h : z_H) : z_M 56 [.ref 3] h = z_bd (z_M 57 [.ref 3] h) (fun r1 h2 => (if ¬ r1 = 6 then z_bd (z_M 59 [.ref 3, .int r1] h2) (fun r3 h4 => (if ¬ r3 = 0 then z_bd (z_M 60 [.ref 3, .int r1] h4) (fun r5 h6 => some (0, h6)) else z_bd (z_M 54 [.ref 3, .int 5] h4) (fun r7 h8 => some (0, h8)))) else z_bd (z_M 54 [.ref 3, .int 2] h2) (fun r9 h10 => some (0, h10)))) := by
  refine (z_M_eq (by decide)).trans ?_
  show z_X zc_Rd_readLine 11 (0, [(0, .ref 3)], [], h) = _
  refine (z_X_steps (s' := (1, [(0, .ref 3)], [.ref 3], h)) 1 rfl).trans ?_
  refine (z_X_call (id := 57) (a := [.ref 3]) (c := 1) (s' := (4, [(0, .ref 3)], [], h)) rfl ⟨Nat.le_of_ble_eq_true rfl, Nat.le_of_ble_eq_true rfl⟩).trans ?_
  refine z_bdc fun r1 h2 => ?_
  refine (z_X_steps (s' := (8, [(1, .int r1), (0, .ref 3)], [.int 6, .int r1], h2)) 3 rfl).trans ?_
  refine (z_X_br (c := ¬ r1 = 6) (s1 := (19, [(1, .int r1), (0, .ref 3)], [], h2)) (s2 := (11, [(1, .int r1), (0, .ref 3)], [], h2)) rfl).trans (z_ite ?_ ?_)
  · refine (z_X_steps (s' := (21, [(1, .int r1), (0, .ref 3)], [.int r1, .ref 3], h2)) 2 rfl).trans ?_
    refine (z_X_call (id := 59) (a := [.ref 3, .int r1]) (c := 1) (s' := (24, [(1, .int r1), (0, .ref 3)], [], h2)) rfl ⟨Nat.le_of_ble_eq_true rfl, Nat.le_of_ble_eq_true rfl⟩).trans ?_
    refine z_bdc fun r3 h4 => ?_
    refine (z_X_br (c := ¬ r3 = 0) (s1 := (35, [(1, .int r1), (0, .ref 3)], [], h4)) (s2 := (27, [(1, .int r1), (0, .ref 3)], [], h4)) rfl).trans (z_ite ?_ ?_)
    · refine (z_X_steps (s' := (37, [(1, .int r1), (0, .ref 3)], [.int r1, .ref 3], h4)) 2 rfl).trans ?_
      refine (z_X_call (id := 60) (a := [.ref 3, .int r1]) (c := 0) (s' := (40, [(1, .int r1), (0, .ref 3)], [], h4)) rfl ⟨Nat.le_of_ble_eq_true rfl, Nat.le_of_ble_eq_true rfl⟩).trans ?_
      refine z_bdc fun r5 h6 => ?_
      exact z_X_ret rfl
    · refine (z_X_steps (s' := (29, [(1, .int r1), (0, .ref 3)], [.int 5, .ref 3], h4)) 2 rfl).trans ?_
      refine (z_X_call (id := 54) (a := [.ref 3, .int 5]) (c := 0) (s' := (32, [(1, .int r1), (0, .ref 3)], [], h4)) rfl ⟨Nat.le_of_ble_eq_true rfl, Nat.le_of_ble_eq_true rfl⟩).trans ?_
      refine z_bdc fun r7 h8 => ?_
      refine (z_X_steps (s' := (40, [(1, .int r1), (0, .ref 3)], [], h8)) 1 rfl).trans ?_
      exact z_X_ret rfl
  · refine (z_X_steps (s' := (13, [(1, .int r1), (0, .ref 3)], [.int 2, .ref 3], h2)) 2 rfl).trans ?_
    refine (z_X_call (id := 54) (a := [.ref 3, .int 2]) (c := 0) (s' := (16, [(1, .int r1), (0, .ref 3)], [], h2)) rfl ⟨Nat.le_of_ble_eq_true rfl, Nat.le_of_ble_eq_true rfl⟩).trans ?_
    refine z_bdc fun r9 h10 => ?_
    refine (z_X_steps (s' := (40, [(1, .int r1), (0, .ref 3)], [], h10)) 1 rfl).trans ?_
    exact z_X_ret rfl
noncomputable def zl_Rd_lineOfWord_2 (x1 : Int32) (h : z_H) : Option z_A := z_X zc_Rd_lineOfWord 10 (2, [(0, .ref 3), (1, .int x1)], [], h)
set_option maxRecDepth 8000 in
set_option maxHeartbeats 2000000 in
theorem e_Rd_lineOfWord (h : z_H) : z_M 57 [.ref 3] h = zl_Rd_lineOfWord_2 0 h := by
  refine (z_M_eq (by decide)).trans ?_
  show z_X zc_Rd_lineOfWord 10 (0, [(0, .ref 3)], [], h) = _
  refine (z_X_steps (s' := (2, [(1, .int 0), (0, .ref 3)], [], h)) 2 rfl).trans ?_
  exact z_X_lab rfl
set_option maxRecDepth 8000 in
set_option maxHeartbeats 2000000 in
theorem e_Rd_lineOfWord_2 (x1 : Int32) (h : z_H) : zl_Rd_lineOfWord_2 x1 h = (if (6 : Int32) ≤ x1 then some (6, h) else (if x1 = 0 then z_bd (z_M 48 [.ref 1, .ref 1000] h) (fun r1 h2 => (if r1 = 0 then zl_Rd_lineOfWord_2 (x1 + 1) h2 else some (x1, h2))) else (if x1 = 1 then z_bd (z_M 48 [.ref 1, .ref 1001] h) (fun r3 h4 => (if r3 = 0 then zl_Rd_lineOfWord_2 (x1 + 1) h4 else some (x1, h4))) else (if x1 = 2 then z_bd (z_M 48 [.ref 1, .ref 1002] h) (fun r5 h6 => (if r5 = 0 then zl_Rd_lineOfWord_2 (x1 + 1) h6 else some (x1, h6))) else (if x1 = 3 then z_bd (z_M 48 [.ref 1, .ref 1003] h) (fun r7 h8 => (if r7 = 0 then zl_Rd_lineOfWord_2 (x1 + 1) h8 else some (x1, h8))) else (if x1 = 4 then z_bd (z_M 48 [.ref 1, .ref 1004] h) (fun r9 h10 => (if r9 = 0 then zl_Rd_lineOfWord_2 (x1 + 1) h10 else some (x1, h10))) else z_bd (z_M 48 [.ref 1, .ref 1005] h) (fun r11 h12 => (if r11 = 0 then zl_Rd_lineOfWord_2 (x1 + 1) h12 else some (x1, h12))))))))) := by
  show z_X zc_Rd_lineOfWord 10 (2, [(0, .ref 3), (1, .int x1)], [], h) = _
  refine (z_X_steps (s' := (5, [(0, .ref 3), (1, .int x1)], [.int 6, .int x1], h)) 2 rfl).trans ?_
  refine (z_X_br (c := (6 : Int32) ≤ x1) (s1 := (30, [(0, .ref 3), (1, .int x1)], [], h)) (s2 := (8, [(0, .ref 3), (1, .int x1)], [], h)) rfl).trans (z_ite ?_ ?_)
  · refine (z_X_steps (s' := (32, [(0, .ref 3), (1, .int x1)], [.int 6], h)) 1 rfl).trans ?_
    exact z_X_ret rfl
  · refine (z_X_steps (s' := (13, [(0, .ref 3), (1, .int x1)], [.int x1, .ref 1], h)) 3 rfl).trans ?_
    refine (z_X_call (id := 58) (a := [.int x1]) (c := 2) (s' := (16, [(0, .ref 3), (1, .int x1)], [.ref 1], h)) rfl ⟨Nat.le_of_ble_eq_true rfl, Nat.le_of_ble_eq_true rfl⟩).trans ?_
    rw [e_Rd_wordOf]
    rw [z_bd_ite]
    refine z_ite ?_ ?_
    · refine (z_X_call (id := 48) (a := [.ref 1, .ref 1000]) (c := 1) (s' := (19, [(0, .ref 3), (1, .int x1)], [], h)) rfl ⟨Nat.le_of_ble_eq_true rfl, Nat.le_of_ble_eq_true rfl⟩).trans ?_
      refine z_bdc fun r1 h2 => ?_
      refine (z_X_br (c := r1 = 0) (s1 := (24, [(0, .ref 3), (1, .int x1)], [], h2)) (s2 := (22, [(0, .ref 3), (1, .int x1)], [], h2)) rfl).trans (z_ite ?_ ?_)
      · refine (z_X_steps (s' := (2, [(1, .int (x1 + 1)), (0, .ref 3)], [], h2)) 2 rfl).trans ?_
        exact z_X_lab rfl
      · refine (z_X_steps (s' := (23, [(0, .ref 3), (1, .int x1)], [.int x1], h2)) 1 rfl).trans ?_
        exact z_X_ret rfl
    rw [z_bd_ite]
    refine z_ite ?_ ?_
    · refine (z_X_call (id := 48) (a := [.ref 1, .ref 1001]) (c := 1) (s' := (19, [(0, .ref 3), (1, .int x1)], [], h)) rfl ⟨Nat.le_of_ble_eq_true rfl, Nat.le_of_ble_eq_true rfl⟩).trans ?_
      refine z_bdc fun r3 h4 => ?_
      refine (z_X_br (c := r3 = 0) (s1 := (24, [(0, .ref 3), (1, .int x1)], [], h4)) (s2 := (22, [(0, .ref 3), (1, .int x1)], [], h4)) rfl).trans (z_ite ?_ ?_)
      · refine (z_X_steps (s' := (2, [(1, .int (x1 + 1)), (0, .ref 3)], [], h4)) 2 rfl).trans ?_
        exact z_X_lab rfl
      · refine (z_X_steps (s' := (23, [(0, .ref 3), (1, .int x1)], [.int x1], h4)) 1 rfl).trans ?_
        exact z_X_ret rfl
    rw [z_bd_ite]
    refine z_ite ?_ ?_
    · refine (z_X_call (id := 48) (a := [.ref 1, .ref 1002]) (c := 1) (s' := (19, [(0, .ref 3), (1, .int x1)], [], h)) rfl ⟨Nat.le_of_ble_eq_true rfl, Nat.le_of_ble_eq_true rfl⟩).trans ?_
      refine z_bdc fun r5 h6 => ?_
      refine (z_X_br (c := r5 = 0) (s1 := (24, [(0, .ref 3), (1, .int x1)], [], h6)) (s2 := (22, [(0, .ref 3), (1, .int x1)], [], h6)) rfl).trans (z_ite ?_ ?_)
      · refine (z_X_steps (s' := (2, [(1, .int (x1 + 1)), (0, .ref 3)], [], h6)) 2 rfl).trans ?_
        exact z_X_lab rfl
      · refine (z_X_steps (s' := (23, [(0, .ref 3), (1, .int x1)], [.int x1], h6)) 1 rfl).trans ?_
        exact z_X_ret rfl
    rw [z_bd_ite]
    refine z_ite ?_ ?_
    · refine (z_X_call (id := 48) (a := [.ref 1, .ref 1003]) (c := 1) (s' := (19, [(0, .ref 3), (1, .int x1)], [], h)) rfl ⟨Nat.le_of_ble_eq_true rfl, Nat.le_of_ble_eq_true rfl⟩).trans ?_
      refine z_bdc fun r7 h8 => ?_
      refine (z_X_br (c := r7 = 0) (s1 := (24, [(0, .ref 3), (1, .int x1)], [], h8)) (s2 := (22, [(0, .ref 3), (1, .int x1)], [], h8)) rfl).trans (z_ite ?_ ?_)
      · refine (z_X_steps (s' := (2, [(1, .int (x1 + 1)), (0, .ref 3)], [], h8)) 2 rfl).trans ?_
        exact z_X_lab rfl
      · refine (z_X_steps (s' := (23, [(0, .ref 3), (1, .int x1)], [.int x1], h8)) 1 rfl).trans ?_
        exact z_X_ret rfl
    rw [z_bd_ite]
    refine z_ite ?_ ?_
    · refine (z_X_call (id := 48) (a := [.ref 1, .ref 1004]) (c := 1) (s' := (19, [(0, .ref 3), (1, .int x1)], [], h)) rfl ⟨Nat.le_of_ble_eq_true rfl, Nat.le_of_ble_eq_true rfl⟩).trans ?_
      refine z_bdc fun r9 h10 => ?_
      refine (z_X_br (c := r9 = 0) (s1 := (24, [(0, .ref 3), (1, .int x1)], [], h10)) (s2 := (22, [(0, .ref 3), (1, .int x1)], [], h10)) rfl).trans (z_ite ?_ ?_)
      · refine (z_X_steps (s' := (2, [(1, .int (x1 + 1)), (0, .ref 3)], [], h10)) 2 rfl).trans ?_
        exact z_X_lab rfl
      · refine (z_X_steps (s' := (23, [(0, .ref 3), (1, .int x1)], [.int x1], h10)) 1 rfl).trans ?_
        exact z_X_ret rfl
    refine (z_X_call (id := 48) (a := [.ref 1, .ref 1005]) (c := 1) (s' := (19, [(0, .ref 3), (1, .int x1)], [], h)) rfl ⟨Nat.le_of_ble_eq_true rfl, Nat.le_of_ble_eq_true rfl⟩).trans ?_
    refine z_bdc fun r11 h12 => ?_
    refine (z_X_br (c := r11 = 0) (s1 := (24, [(0, .ref 3), (1, .int x1)], [], h12)) (s2 := (22, [(0, .ref 3), (1, .int x1)], [], h12)) rfl).trans (z_ite ?_ ?_)
    · refine (z_X_steps (s' := (2, [(1, .int (x1 + 1)), (0, .ref 3)], [], h12)) 2 rfl).trans ?_
      exact z_X_lab rfl
    · refine (z_X_steps (s' := (23, [(0, .ref 3), (1, .int x1)], [.int x1], h12)) 1 rfl).trans ?_
      exact z_X_ret rfl
set_option maxRecDepth 8000 in
set_option maxHeartbeats 2000000 in
theorem e_Rd_hasRoomFor (x1 : Int32) (h : z_H) : z_M 59 [.ref 3, .int x1] h = (if x1 = 0 then (if (6 : Int32) ≤ h.1 4 0 then some (0, h) else some (1, h)) else (if x1 = 1 then (if h.1 4 0 ≤ 0 then some (0, h) else (bif z_in ((h.1 4 0) - 1) 6 then (if (8 : Int32) ≤ h.1 5 (((h.1 4 0) - 1).toNatClampNeg) then some (0, h) else some (1, h)) else none)) else (if x1 = 2 then (if h.1 4 0 ≤ 0 then some (0, h) else (bif z_in ((h.1 4 0) - 1) 6 then (if (8 : Int32) ≤ h.1 5 (((h.1 4 0) - 1).toNatClampNeg) then some (0, h) else some (1, h)) else none)) else (if x1 = 3 then (if (4 : Int32) ≤ h.1 4 1 then some (0, h) else some (1, h)) else (if x1 = 4 then some (1, h) else (if x1 = 5 then z_bd (z_M 91 [.ref 12] h) (fun r1 h2 => (if ¬ r1 = 0 then some (0, h2) else some (1, h2))) else some (1, h))))))) := by
  refine (z_M_eq (by decide)).trans ?_
  show z_X zc_Rd_hasRoomFor 2 (0, [(0, .ref 3), (1, .int x1)], [], h) = _
  refine (z_X_steps (s' := (1, [(0, .ref 3), (1, .int x1)], [.int x1], h)) 1 rfl).trans ?_
  refine (z_X_sw (d := (129, [(0, .ref 3), (1, .int x1)], [], h)) (x := x1) (lo := [(0, .ref 3), (1, .int x1)]) (stk := []) (h := h) (sw := [(0, 40), (1, 58), (2, 58), (3, 96), (4, 129), (5, 113)]) rfl).trans ?_
  refine z_ite ?_ ?_
  · refine (z_X_steps (s' := (49, [(0, .ref 3), (1, .int x1)], [.int 6, .int (h.1 4 0)], h)) 4 rfl).trans ?_
    refine (z_X_br (c := (6 : Int32) ≤ h.1 4 0) (s1 := (56, [(0, .ref 3), (1, .int x1)], [], h)) (s2 := (52, [(0, .ref 3), (1, .int x1)], [], h)) rfl).trans (z_ite ?_ ?_)
    · refine (z_X_steps (s' := (57, [(0, .ref 3), (1, .int x1)], [.int 0], h)) 1 rfl).trans ?_
      exact z_X_ret rfl
    · refine (z_X_steps (s' := (57, [(0, .ref 3), (1, .int x1)], [.int 1], h)) 2 rfl).trans ?_
      exact z_X_ret rfl
  refine z_ite ?_ ?_
  · refine (z_X_steps (s' := (65, [(0, .ref 3), (1, .int x1)], [.int (h.1 4 0)], h)) 3 rfl).trans ?_
    refine (z_X_br (c := h.1 4 0 ≤ 0) (s1 := (94, [(0, .ref 3), (1, .int x1)], [], h)) (s2 := (68, [(0, .ref 3), (1, .int x1)], [], h)) rfl).trans (z_ite ?_ ?_)
    · refine (z_X_steps (s' := (95, [(0, .ref 3), (1, .int x1)], [.int 0], h)) 1 rfl).trans ?_
      exact z_X_ret rfl
    · refine (z_X_steps (s' := (84, [(0, .ref 3), (1, .int x1)], [.int ((h.1 4 0) - 1), .ref 5], h)) 8 rfl).trans ?_
      refine (z_X_if (g := z_in ((h.1 4 0) - 1) 6) (s' := (85, [(0, .ref 3), (1, .int x1)], [.int (h.1 5 (((h.1 4 0) - 1).toNatClampNeg))], h)) rfl).trans (z_bifA ?_)
      refine (z_X_steps (s' := (87, [(0, .ref 3), (1, .int x1)], [.int 8, .int (h.1 5 (((h.1 4 0) - 1).toNatClampNeg))], h)) 1 rfl).trans ?_
      refine (z_X_br (c := (8 : Int32) ≤ h.1 5 (((h.1 4 0) - 1).toNatClampNeg)) (s1 := (94, [(0, .ref 3), (1, .int x1)], [], h)) (s2 := (90, [(0, .ref 3), (1, .int x1)], [], h)) rfl).trans (z_ite ?_ ?_)
      · refine (z_X_steps (s' := (95, [(0, .ref 3), (1, .int x1)], [.int 0], h)) 1 rfl).trans ?_
        exact z_X_ret rfl
      · refine (z_X_steps (s' := (95, [(0, .ref 3), (1, .int x1)], [.int 1], h)) 2 rfl).trans ?_
        exact z_X_ret rfl
  refine z_ite ?_ ?_
  · refine (z_X_steps (s' := (65, [(0, .ref 3), (1, .int x1)], [.int (h.1 4 0)], h)) 3 rfl).trans ?_
    refine (z_X_br (c := h.1 4 0 ≤ 0) (s1 := (94, [(0, .ref 3), (1, .int x1)], [], h)) (s2 := (68, [(0, .ref 3), (1, .int x1)], [], h)) rfl).trans (z_ite ?_ ?_)
    · refine (z_X_steps (s' := (95, [(0, .ref 3), (1, .int x1)], [.int 0], h)) 1 rfl).trans ?_
      exact z_X_ret rfl
    · refine (z_X_steps (s' := (84, [(0, .ref 3), (1, .int x1)], [.int ((h.1 4 0) - 1), .ref 5], h)) 8 rfl).trans ?_
      refine (z_X_if (g := z_in ((h.1 4 0) - 1) 6) (s' := (85, [(0, .ref 3), (1, .int x1)], [.int (h.1 5 (((h.1 4 0) - 1).toNatClampNeg))], h)) rfl).trans (z_bifA ?_)
      refine (z_X_steps (s' := (87, [(0, .ref 3), (1, .int x1)], [.int 8, .int (h.1 5 (((h.1 4 0) - 1).toNatClampNeg))], h)) 1 rfl).trans ?_
      refine (z_X_br (c := (8 : Int32) ≤ h.1 5 (((h.1 4 0) - 1).toNatClampNeg)) (s1 := (94, [(0, .ref 3), (1, .int x1)], [], h)) (s2 := (90, [(0, .ref 3), (1, .int x1)], [], h)) rfl).trans (z_ite ?_ ?_)
      · refine (z_X_steps (s' := (95, [(0, .ref 3), (1, .int x1)], [.int 0], h)) 1 rfl).trans ?_
        exact z_X_ret rfl
      · refine (z_X_steps (s' := (95, [(0, .ref 3), (1, .int x1)], [.int 1], h)) 2 rfl).trans ?_
        exact z_X_ret rfl
  refine z_ite ?_ ?_
  · refine (z_X_steps (s' := (104, [(0, .ref 3), (1, .int x1)], [.int 4, .int (h.1 4 1)], h)) 4 rfl).trans ?_
    refine (z_X_br (c := (4 : Int32) ≤ h.1 4 1) (s1 := (111, [(0, .ref 3), (1, .int x1)], [], h)) (s2 := (107, [(0, .ref 3), (1, .int x1)], [], h)) rfl).trans (z_ite ?_ ?_)
    · refine (z_X_steps (s' := (112, [(0, .ref 3), (1, .int x1)], [.int 0], h)) 1 rfl).trans ?_
      exact z_X_ret rfl
    · refine (z_X_steps (s' := (112, [(0, .ref 3), (1, .int x1)], [.int 1], h)) 2 rfl).trans ?_
      exact z_X_ret rfl
  refine z_ite ?_ ?_
  · refine (z_X_steps (s' := (130, [(0, .ref 3), (1, .int x1)], [.int 1], h)) 1 rfl).trans ?_
    exact z_X_ret rfl
  refine z_ite ?_ ?_
  · refine (z_X_steps (s' := (117, [(0, .ref 3), (1, .int x1)], [.ref 12], h)) 2 rfl).trans ?_
    refine (z_X_call (id := 91) (a := [.ref 12]) (c := 1) (s' := (120, [(0, .ref 3), (1, .int x1)], [], h)) rfl ⟨Nat.le_of_ble_eq_true rfl, Nat.le_of_ble_eq_true rfl⟩).trans ?_
    refine z_bdc fun r1 h2 => ?_
    refine (z_X_br (c := ¬ r1 = 0) (s1 := (127, [(0, .ref 3), (1, .int x1)], [], h2)) (s2 := (123, [(0, .ref 3), (1, .int x1)], [], h2)) rfl).trans (z_ite ?_ ?_)
    · refine (z_X_steps (s' := (128, [(0, .ref 3), (1, .int x1)], [.int 0], h2)) 1 rfl).trans ?_
      exact z_X_ret rfl
    · refine (z_X_steps (s' := (128, [(0, .ref 3), (1, .int x1)], [.int 1], h2)) 2 rfl).trans ?_
      exact z_X_ret rfl
  refine (z_X_steps (s' := (130, [(0, .ref 3), (1, .int x1)], [.int 1], h)) 1 rfl).trans ?_
  exact z_X_ret rfl
noncomputable def zl_Rd_readRest_6 (x1 : Int32) (x2 : Int32) (h : z_H) : Option z_A := z_X zc_Rd_readRest 5 (6, [(0, .ref 3), (1, .int x1), (2, .int x2)], [], h)
noncomputable def zl_Rd_readRest_77 (x1 : Int32) (x2 : Int32) (h : z_H) : Option z_A := z_X zc_Rd_readRest 5 (77, [(0, .ref 3), (1, .int x1), (2, .int x2)], [], h)
noncomputable def zl_Rd_readRest_108 (x1 : Int32) (x2 : Int32) (h : z_H) : Option z_A := z_X zc_Rd_readRest 5 (108, [(0, .ref 3), (1, .int x1), (2, .int x2)], [], h)
set_option maxRecDepth 8000 in
set_option maxHeartbeats 2000000 in
theorem e_Rd_readRest (x1 : Int32) (h : z_H) : z_M 60 [.ref 3, .int x1] h = z_bd (z_M 55 [.ref 3] h) (fun r1 h2 => zl_Rd_readRest_6 x1 0 h2) := by
  refine (z_M_eq (by decide)).trans ?_
  show z_X zc_Rd_readRest 5 (0, [(0, .ref 3), (1, .int x1)], [], h) = _
  refine (z_X_steps (s' := (3, [(2, .int 0), (0, .ref 3), (1, .int x1)], [.ref 3], h)) 3 rfl).trans ?_
  refine (z_X_call (id := 55) (a := [.ref 3]) (c := 0) (s' := (6, [(2, .int 0), (0, .ref 3), (1, .int x1)], [], h)) rfl ⟨Nat.le_of_ble_eq_true rfl, Nat.le_of_ble_eq_true rfl⟩).trans ?_
  refine z_bdc fun r1 h2 => ?_
  exact z_X_lab rfl
set_option maxRecDepth 8000 in
set_option maxHeartbeats 2000000 in
theorem e_Rd_readRest_6 (x1 : Int32) (x2 : Int32) (h : z_H) : zl_Rd_readRest_6 x1 x2 h = (if ¬ h.1 3 0 = 0 then zl_Rd_readRest_77 x1 x2 h else z_bd (z_M 62 [.int x1] h) (fun r1 h2 => (if r1 ≤ x2 then zl_Rd_readRest_77 x1 x2 h2 else (if ¬ h2.1 1 1 = 2 then zl_Rd_readRest_77 x1 x2 h2 else z_bd (z_M 63 [.ref 3, .int x1, .int x2, .int (h2.1 1 3)] h2) (fun r3 h4 => (if ¬ r3 = 0 then (bif z_in x2 3 then z_bd (z_M 55 [.ref 3] (z_wI h4 16 (x2.toNatClampNeg) (h4.1 1 3))) (fun r5 h6 => zl_Rd_readRest_6 x1 (x2 + 1) h6) else none) else z_bd (z_M 54 [.ref 3, .int 3] h4) (fun r7 h8 => some (0, h8)))))))) := by
  show z_X zc_Rd_readRest 5 (6, [(0, .ref 3), (1, .int x1), (2, .int x2)], [], h) = _
  refine (z_X_steps (s' := (10, [(0, .ref 3), (1, .int x1), (2, .int x2)], [.int (h.1 3 0)], h)) 2 rfl).trans ?_
  refine (z_X_br (c := ¬ h.1 3 0 = 0) (s1 := (77, [(0, .ref 3), (1, .int x1), (2, .int x2)], [], h)) (s2 := (13, [(0, .ref 3), (1, .int x1), (2, .int x2)], [], h)) rfl).trans (z_ite ?_ ?_)
  · exact z_X_lab rfl
  · refine (z_X_steps (s' := (15, [(0, .ref 3), (1, .int x1), (2, .int x2)], [.int x1, .int x2], h)) 2 rfl).trans ?_
    refine (z_X_call (id := 62) (a := [.int x1]) (c := 1) (s' := (18, [(0, .ref 3), (1, .int x1), (2, .int x2)], [.int x2], h)) rfl ⟨Nat.le_of_ble_eq_true rfl, Nat.le_of_ble_eq_true rfl⟩).trans ?_
    refine z_bdc fun r1 h2 => ?_
    refine (z_X_br (c := r1 ≤ x2) (s1 := (77, [(0, .ref 3), (1, .int x1), (2, .int x2)], [], h2)) (s2 := (21, [(0, .ref 3), (1, .int x1), (2, .int x2)], [], h2)) rfl).trans (z_ite ?_ ?_)
    · exact z_X_lab rfl
    · refine (z_X_steps (s' := (29, [(0, .ref 3), (1, .int x1), (2, .int x2)], [.int 2, .int (h2.1 1 1)], h2)) 4 rfl).trans ?_
      refine (z_X_br (c := ¬ h2.1 1 1 = 2) (s1 := (77, [(0, .ref 3), (1, .int x1), (2, .int x2)], [], h2)) (s2 := (32, [(0, .ref 3), (1, .int x1), (2, .int x2)], [], h2)) rfl).trans (z_ite ?_ ?_)
      · exact z_X_lab rfl
      · refine (z_X_steps (s' := (42, [(0, .ref 3), (1, .int x1), (2, .int x2)], [.int (h2.1 1 3), .int x2, .int x1, .ref 3], h2)) 6 rfl).trans ?_
        refine (z_X_call (id := 63) (a := [.ref 3, .int x1, .int x2, .int (h2.1 1 3)]) (c := 1) (s' := (45, [(0, .ref 3), (1, .int x1), (2, .int x2)], [], h2)) rfl ⟨Nat.le_of_ble_eq_true rfl, Nat.le_of_ble_eq_true rfl⟩).trans ?_
        refine z_bdc fun r3 h4 => ?_
        refine (z_X_br (c := ¬ r3 = 0) (s1 := (54, [(0, .ref 3), (1, .int x1), (2, .int x2)], [], h4)) (s2 := (48, [(0, .ref 3), (1, .int x1), (2, .int x2)], [], h4)) rfl).trans (z_ite ?_ ?_)
        · refine (z_X_steps (s' := (66, [(0, .ref 3), (1, .int x1), (2, .int x2)], [.int (h4.1 1 3), .int x2, .ref 16], h4)) 6 rfl).trans ?_
          refine (z_X_if (g := z_in x2 3) (s' := (67, [(0, .ref 3), (1, .int x1), (2, .int x2)], [], (z_wI h4 16 (x2.toNatClampNeg) (h4.1 1 3)))) rfl).trans (z_bifA ?_)
          refine (z_X_steps (s' := (71, [(2, .int (x2 + 1)), (0, .ref 3), (1, .int x1)], [.ref 3], (z_wI h4 16 (x2.toNatClampNeg) (h4.1 1 3)))) 2 rfl).trans ?_
          refine (z_X_call (id := 55) (a := [.ref 3]) (c := 0) (s' := (74, [(2, .int (x2 + 1)), (0, .ref 3), (1, .int x1)], [], (z_wI h4 16 (x2.toNatClampNeg) (h4.1 1 3)))) rfl ⟨Nat.le_of_ble_eq_true rfl, Nat.le_of_ble_eq_true rfl⟩).trans ?_
          refine z_bdc fun r5 h6 => ?_
          refine (z_X_steps (s' := (6, [(2, .int (x2 + 1)), (0, .ref 3), (1, .int x1)], [], h6)) 1 rfl).trans ?_
          exact z_X_lab rfl
        · refine (z_X_steps (s' := (50, [(0, .ref 3), (1, .int x1), (2, .int x2)], [.int 3, .ref 3], h4)) 2 rfl).trans ?_
          refine (z_X_call (id := 54) (a := [.ref 3, .int 3]) (c := 0) (s' := (53, [(0, .ref 3), (1, .int x1), (2, .int x2)], [], h4)) rfl ⟨Nat.le_of_ble_eq_true rfl, Nat.le_of_ble_eq_true rfl⟩).trans ?_
          refine z_bdc fun r7 h8 => ?_
          exact z_X_ret rfl
set_option maxRecDepth 8000 in
set_option maxHeartbeats 2000000 in
theorem e_Rd_readRest_77 (x1 : Int32) (x2 : Int32) (h : z_H) : zl_Rd_readRest_77 x1 x2 h = (if ¬ h.1 3 0 = 0 then zl_Rd_readRest_108 x1 x2 h else z_bd (z_M 61 [.int x1] h) (fun r1 h2 => (if x2 < r1 then z_bd (z_M 54 [.ref 3, .int 2] h2) (fun r3 h4 => zl_Rd_readRest_108 x1 x2 h4) else (if h2.1 1 1 = 3 then zl_Rd_readRest_108 x1 x2 h2 else z_bd (z_M 54 [.ref 3, .int 2] h2) (fun r5 h6 => zl_Rd_readRest_108 x1 x2 h6))))) := by
  show z_X zc_Rd_readRest 5 (77, [(0, .ref 3), (1, .int x1), (2, .int x2)], [], h) = _
  refine (z_X_steps (s' := (81, [(0, .ref 3), (1, .int x1), (2, .int x2)], [.int (h.1 3 0)], h)) 2 rfl).trans ?_
  refine (z_X_br (c := ¬ h.1 3 0 = 0) (s1 := (108, [(0, .ref 3), (1, .int x1), (2, .int x2)], [], h)) (s2 := (84, [(0, .ref 3), (1, .int x1), (2, .int x2)], [], h)) rfl).trans (z_ite ?_ ?_)
  · exact z_X_lab rfl
  · refine (z_X_steps (s' := (86, [(0, .ref 3), (1, .int x1), (2, .int x2)], [.int x1, .int x2], h)) 2 rfl).trans ?_
    refine (z_X_call (id := 61) (a := [.int x1]) (c := 1) (s' := (89, [(0, .ref 3), (1, .int x1), (2, .int x2)], [.int x2], h)) rfl ⟨Nat.le_of_ble_eq_true rfl, Nat.le_of_ble_eq_true rfl⟩).trans ?_
    refine z_bdc fun r1 h2 => ?_
    refine (z_X_br (c := x2 < r1) (s1 := (103, [(0, .ref 3), (1, .int x1), (2, .int x2)], [], h2)) (s2 := (92, [(0, .ref 3), (1, .int x1), (2, .int x2)], [], h2)) rfl).trans (z_ite ?_ ?_)
    · refine (z_X_steps (s' := (105, [(0, .ref 3), (1, .int x1), (2, .int x2)], [.int 2, .ref 3], h2)) 2 rfl).trans ?_
      refine (z_X_call (id := 54) (a := [.ref 3, .int 2]) (c := 0) (s' := (108, [(0, .ref 3), (1, .int x1), (2, .int x2)], [], h2)) rfl ⟨Nat.le_of_ble_eq_true rfl, Nat.le_of_ble_eq_true rfl⟩).trans ?_
      refine z_bdc fun r3 h4 => ?_
      exact z_X_lab rfl
    · refine (z_X_steps (s' := (100, [(0, .ref 3), (1, .int x1), (2, .int x2)], [.int 3, .int (h2.1 1 1)], h2)) 4 rfl).trans ?_
      refine (z_X_br (c := h2.1 1 1 = 3) (s1 := (108, [(0, .ref 3), (1, .int x1), (2, .int x2)], [], h2)) (s2 := (103, [(0, .ref 3), (1, .int x1), (2, .int x2)], [], h2)) rfl).trans (z_ite ?_ ?_)
      · exact z_X_lab rfl
      · refine (z_X_steps (s' := (105, [(0, .ref 3), (1, .int x1), (2, .int x2)], [.int 2, .ref 3], h2)) 2 rfl).trans ?_
        refine (z_X_call (id := 54) (a := [.ref 3, .int 2]) (c := 0) (s' := (108, [(0, .ref 3), (1, .int x1), (2, .int x2)], [], h2)) rfl ⟨Nat.le_of_ble_eq_true rfl, Nat.le_of_ble_eq_true rfl⟩).trans ?_
        refine z_bdc fun r5 h6 => ?_
        exact z_X_lab rfl
set_option maxRecDepth 8000 in
set_option maxHeartbeats 2000000 in
theorem e_Rd_readRest_108 (x1 : Int32) (x2 : Int32) (h : z_H) : zl_Rd_readRest_108 x1 x2 h = (if ¬ h.1 3 0 = 0 then some (0, h) else z_bd (z_M 64 [.ref 3, .int x1, .int x2] h) (fun r1 h2 => z_bd (z_M 55 [.ref 3] (z_wI h2 3 2 ((h2.1 3 2) + 1))) (fun r3 h4 => some (0, h4)))) := by
  show z_X zc_Rd_readRest 5 (108, [(0, .ref 3), (1, .int x1), (2, .int x2)], [], h) = _
  refine (z_X_steps (s' := (112, [(0, .ref 3), (1, .int x1), (2, .int x2)], [.int (h.1 3 0)], h)) 2 rfl).trans ?_
  refine (z_X_br (c := ¬ h.1 3 0 = 0) (s1 := (135, [(0, .ref 3), (1, .int x1), (2, .int x2)], [], h)) (s2 := (115, [(0, .ref 3), (1, .int x1), (2, .int x2)], [], h)) rfl).trans (z_ite ?_ ?_)
  · exact z_X_ret rfl
  · refine (z_X_steps (s' := (118, [(0, .ref 3), (1, .int x1), (2, .int x2)], [.int x2, .int x1, .ref 3], h)) 3 rfl).trans ?_
    refine (z_X_call (id := 64) (a := [.ref 3, .int x1, .int x2]) (c := 0) (s' := (121, [(0, .ref 3), (1, .int x1), (2, .int x2)], [], h)) rfl ⟨Nat.le_of_ble_eq_true rfl, Nat.le_of_ble_eq_true rfl⟩).trans ?_
    refine z_bdc fun r1 h2 => ?_
    refine (z_X_steps (s' := (132, [(0, .ref 3), (1, .int x1), (2, .int x2)], [.ref 3], (z_wI h2 3 2 ((h2.1 3 2) + 1)))) 7 rfl).trans ?_
    refine (z_X_call (id := 55) (a := [.ref 3]) (c := 0) (s' := (135, [(0, .ref 3), (1, .int x1), (2, .int x2)], [], (z_wI h2 3 2 ((h2.1 3 2) + 1)))) rfl ⟨Nat.le_of_ble_eq_true rfl, Nat.le_of_ble_eq_true rfl⟩).trans ?_
    refine z_bdc fun r3 h4 => ?_
    exact z_X_ret rfl
set_option maxRecDepth 8000 in
set_option maxHeartbeats 2000000 in
theorem e_Rd_leastArguments (x0 : Int32) (h : z_H) : z_M 61 [.int x0] h = (if x0 = 0 then some (0, h) else (if x0 = 1 then some (1, h) else (if x0 = 2 then some (1, h) else (if x0 = 3 then some (1, h) else some (3, h))))) := by
  refine (z_M_eq (by decide)).trans ?_
  show z_X zc_Rd_leastArguments 1 (0, [(0, .int x0)], [], h) = _
  refine (z_X_steps (s' := (1, [(0, .int x0)], [.int x0], h)) 1 rfl).trans ?_
  refine (z_X_sw (d := (36, [(0, .int x0)], [], h)) (x := x0) (lo := [(0, .int x0)]) (stk := []) (h := h) (sw := [(0, 32), (1, 34), (2, 34), (3, 34)]) rfl).trans ?_
  refine z_ite ?_ ?_
  · refine (z_X_steps (s' := (33, [(0, .int x0)], [.int 0], h)) 1 rfl).trans ?_
    exact z_X_ret rfl
  refine z_ite ?_ ?_
  · refine (z_X_steps (s' := (35, [(0, .int x0)], [.int 1], h)) 1 rfl).trans ?_
    exact z_X_ret rfl
  refine z_ite ?_ ?_
  · refine (z_X_steps (s' := (35, [(0, .int x0)], [.int 1], h)) 1 rfl).trans ?_
    exact z_X_ret rfl
  refine z_ite ?_ ?_
  · refine (z_X_steps (s' := (35, [(0, .int x0)], [.int 1], h)) 1 rfl).trans ?_
    exact z_X_ret rfl
  refine (z_X_steps (s' := (37, [(0, .int x0)], [.int 3], h)) 1 rfl).trans ?_
  exact z_X_ret rfl
set_option maxRecDepth 8000 in
set_option maxHeartbeats 2000000 in
theorem e_Rd_mostArguments (x0 : Int32) (h : z_H) : z_M 62 [.int x0] h = (if x0 = 0 then some (0, h) else (if x0 = 3 then some (1, h) else some (3, h))) := by
  refine (z_M_eq (by decide)).trans ?_
  show z_X zc_Rd_mostArguments 1 (0, [(0, .int x0)], [], h) = _
  refine (z_X_steps (s' := (1, [(0, .int x0)], [.int x0], h)) 1 rfl).trans ?_
  refine (z_X_sw (d := (32, [(0, .int x0)], [], h)) (x := x0) (lo := [(0, .int x0)]) (stk := []) (h := h) (sw := [(0, 28), (3, 30)]) rfl).trans ?_
  refine z_ite ?_ ?_
  · refine (z_X_steps (s' := (29, [(0, .int x0)], [.int 0], h)) 1 rfl).trans ?_
    exact z_X_ret rfl
  refine z_ite ?_ ?_
  · refine (z_X_steps (s' := (31, [(0, .int x0)], [.int 1], h)) 1 rfl).trans ?_
    exact z_X_ret rfl
  refine (z_X_steps (s' := (33, [(0, .int x0)], [.int 3], h)) 1 rfl).trans ?_
  exact z_X_ret rfl
set_option maxRecDepth 8000 in
set_option maxHeartbeats 2000000 in
theorem e_Rd_isWithin (x1 : Int32) (x2 : Int32) (x3 : Int32) (h : z_H) : z_M 63 [.ref 3, .int x1, .int x2, .int x3] h = (if x1 = 1 then (if ¬ x2 = 0 then (if x3 < 8 then some (1, h) else (if ¬ x3 = 9 then some (0, h) else some (1, h))) else (if (9 : Int32) < x3 then some (0, h) else some (1, h))) else (if x1 = 2 then (if ¬ x2 = 0 then (if x3 < 8 then some (1, h) else (if ¬ x3 = 9 then some (0, h) else some (1, h))) else z_bd (z_M 37 [.int x3] h) (fun r1 h2 => some (r1 &&& 1, h2))) else (if x1 = 3 then (if x3 < h.1 4 1 then some (1, h) else (if ¬ x3 = 9 then some (0, h) else some (1, h))) else (if x1 = 4 then (if ¬ x2 = 0 then (if ¬ x2 = 1 then (if (6 : Int32) ≤ x3 then some (0, h) else some (1, h)) else z_bd (z_M 37 [.int x3] h) (fun r3 h4 => some (r3 &&& 1, h4))) else (if (4 : Int32) ≤ x3 then some (0, h) else some (1, h))) else (if ¬ x2 = 0 then (if ¬ x2 = 1 then (if x3 < 1 then some (0, h) else (if (9 : Int32) < x3 then some (0, h) else some (1, h))) else (if (255 : Int32) < x3 then some (0, h) else some (1, h))) else (if (4 : Int32) ≤ x3 then some (0, h) else some (1, h))))))) := by
  refine (z_M_eq (by decide)).trans ?_
  show z_X zc_Rd_isWithin 2 (0, [(0, .ref 3), (1, .int x1), (2, .int x2), (3, .int x3)], [], h) = _
  refine (z_X_steps (s' := (1, [(0, .ref 3), (1, .int x1), (2, .int x2), (3, .int x3)], [.int x1], h)) 1 rfl).trans ?_
  refine (z_X_sw (d := (161, [(0, .ref 3), (1, .int x1), (2, .int x2), (3, .int x3)], [], h)) (x := x1) (lo := [(0, .ref 3), (1, .int x1), (2, .int x2), (3, .int x3)]) (stk := []) (h := h) (sw := [(1, 32), (2, 68), (3, 97), (4, 120)]) rfl).trans ?_
  refine z_ite ?_ ?_
  · refine (z_X_steps (s' := (33, [(0, .ref 3), (1, .int x1), (2, .int x2), (3, .int x3)], [.int x2], h)) 1 rfl).trans ?_
    refine (z_X_br (c := ¬ x2 = 0) (s1 := (50, [(0, .ref 3), (1, .int x1), (2, .int x2), (3, .int x3)], [], h)) (s2 := (36, [(0, .ref 3), (1, .int x1), (2, .int x2), (3, .int x3)], [], h)) rfl).trans (z_ite ?_ ?_)
    · refine (z_X_steps (s' := (53, [(0, .ref 3), (1, .int x1), (2, .int x2), (3, .int x3)], [.int 8, .int x3], h)) 2 rfl).trans ?_
      refine (z_X_br (c := x3 < 8) (s1 := (62, [(0, .ref 3), (1, .int x1), (2, .int x2), (3, .int x3)], [], h)) (s2 := (56, [(0, .ref 3), (1, .int x1), (2, .int x2), (3, .int x3)], [], h)) rfl).trans (z_ite ?_ ?_)
      · refine (z_X_steps (s' := (67, [(0, .ref 3), (1, .int x1), (2, .int x2), (3, .int x3)], [.int 1], h)) 2 rfl).trans ?_
        exact z_X_ret rfl
      · refine (z_X_steps (s' := (59, [(0, .ref 3), (1, .int x1), (2, .int x2), (3, .int x3)], [.int 9, .int x3], h)) 2 rfl).trans ?_
        refine (z_X_br (c := ¬ x3 = 9) (s1 := (66, [(0, .ref 3), (1, .int x1), (2, .int x2), (3, .int x3)], [], h)) (s2 := (62, [(0, .ref 3), (1, .int x1), (2, .int x2), (3, .int x3)], [], h)) rfl).trans (z_ite ?_ ?_)
        · refine (z_X_steps (s' := (67, [(0, .ref 3), (1, .int x1), (2, .int x2), (3, .int x3)], [.int 0], h)) 1 rfl).trans ?_
          exact z_X_ret rfl
        · refine (z_X_steps (s' := (67, [(0, .ref 3), (1, .int x1), (2, .int x2), (3, .int x3)], [.int 1], h)) 2 rfl).trans ?_
          exact z_X_ret rfl
    · refine (z_X_steps (s' := (39, [(0, .ref 3), (1, .int x1), (2, .int x2), (3, .int x3)], [.int 9, .int x3], h)) 2 rfl).trans ?_
      refine (z_X_br (c := (9 : Int32) < x3) (s1 := (46, [(0, .ref 3), (1, .int x1), (2, .int x2), (3, .int x3)], [], h)) (s2 := (42, [(0, .ref 3), (1, .int x1), (2, .int x2), (3, .int x3)], [], h)) rfl).trans (z_ite ?_ ?_)
      · refine (z_X_steps (s' := (67, [(0, .ref 3), (1, .int x1), (2, .int x2), (3, .int x3)], [.int 0], h)) 2 rfl).trans ?_
        exact z_X_ret rfl
      · refine (z_X_steps (s' := (67, [(0, .ref 3), (1, .int x1), (2, .int x2), (3, .int x3)], [.int 1], h)) 2 rfl).trans ?_
        exact z_X_ret rfl
  refine z_ite ?_ ?_
  · refine (z_X_steps (s' := (69, [(0, .ref 3), (1, .int x1), (2, .int x2), (3, .int x3)], [.int x2], h)) 1 rfl).trans ?_
    refine (z_X_br (c := ¬ x2 = 0) (s1 := (79, [(0, .ref 3), (1, .int x1), (2, .int x2), (3, .int x3)], [], h)) (s2 := (72, [(0, .ref 3), (1, .int x1), (2, .int x2), (3, .int x3)], [], h)) rfl).trans (z_ite ?_ ?_)
    · refine (z_X_steps (s' := (82, [(0, .ref 3), (1, .int x1), (2, .int x2), (3, .int x3)], [.int 8, .int x3], h)) 2 rfl).trans ?_
      refine (z_X_br (c := x3 < 8) (s1 := (91, [(0, .ref 3), (1, .int x1), (2, .int x2), (3, .int x3)], [], h)) (s2 := (85, [(0, .ref 3), (1, .int x1), (2, .int x2), (3, .int x3)], [], h)) rfl).trans (z_ite ?_ ?_)
      · refine (z_X_steps (s' := (96, [(0, .ref 3), (1, .int x1), (2, .int x2), (3, .int x3)], [.int 1], h)) 2 rfl).trans ?_
        exact z_X_ret rfl
      · refine (z_X_steps (s' := (88, [(0, .ref 3), (1, .int x1), (2, .int x2), (3, .int x3)], [.int 9, .int x3], h)) 2 rfl).trans ?_
        refine (z_X_br (c := ¬ x3 = 9) (s1 := (95, [(0, .ref 3), (1, .int x1), (2, .int x2), (3, .int x3)], [], h)) (s2 := (91, [(0, .ref 3), (1, .int x1), (2, .int x2), (3, .int x3)], [], h)) rfl).trans (z_ite ?_ ?_)
        · refine (z_X_steps (s' := (96, [(0, .ref 3), (1, .int x1), (2, .int x2), (3, .int x3)], [.int 0], h)) 1 rfl).trans ?_
          exact z_X_ret rfl
        · refine (z_X_steps (s' := (96, [(0, .ref 3), (1, .int x1), (2, .int x2), (3, .int x3)], [.int 1], h)) 2 rfl).trans ?_
          exact z_X_ret rfl
    · refine (z_X_steps (s' := (73, [(0, .ref 3), (1, .int x1), (2, .int x2), (3, .int x3)], [.int x3], h)) 1 rfl).trans ?_
      refine (z_X_call (id := 37) (a := [.int x3]) (c := 1) (s' := (76, [(0, .ref 3), (1, .int x1), (2, .int x2), (3, .int x3)], [], h)) rfl ⟨Nat.le_of_ble_eq_true rfl, Nat.le_of_ble_eq_true rfl⟩).trans ?_
      refine z_bdc fun r1 h2 => ?_
      refine (z_X_steps (s' := (96, [(0, .ref 3), (1, .int x1), (2, .int x2), (3, .int x3)], [.int r1], h2)) 1 rfl).trans ?_
      exact z_X_ret rfl
  refine z_ite ?_ ?_
  · refine (z_X_steps (s' := (105, [(0, .ref 3), (1, .int x1), (2, .int x2), (3, .int x3)], [.int (h.1 4 1), .int x3], h)) 4 rfl).trans ?_
    refine (z_X_br (c := x3 < h.1 4 1) (s1 := (114, [(0, .ref 3), (1, .int x1), (2, .int x2), (3, .int x3)], [], h)) (s2 := (108, [(0, .ref 3), (1, .int x1), (2, .int x2), (3, .int x3)], [], h)) rfl).trans (z_ite ?_ ?_)
    · refine (z_X_steps (s' := (119, [(0, .ref 3), (1, .int x1), (2, .int x2), (3, .int x3)], [.int 1], h)) 2 rfl).trans ?_
      exact z_X_ret rfl
    · refine (z_X_steps (s' := (111, [(0, .ref 3), (1, .int x1), (2, .int x2), (3, .int x3)], [.int 9, .int x3], h)) 2 rfl).trans ?_
      refine (z_X_br (c := ¬ x3 = 9) (s1 := (118, [(0, .ref 3), (1, .int x1), (2, .int x2), (3, .int x3)], [], h)) (s2 := (114, [(0, .ref 3), (1, .int x1), (2, .int x2), (3, .int x3)], [], h)) rfl).trans (z_ite ?_ ?_)
      · refine (z_X_steps (s' := (119, [(0, .ref 3), (1, .int x1), (2, .int x2), (3, .int x3)], [.int 0], h)) 1 rfl).trans ?_
        exact z_X_ret rfl
      · refine (z_X_steps (s' := (119, [(0, .ref 3), (1, .int x1), (2, .int x2), (3, .int x3)], [.int 1], h)) 2 rfl).trans ?_
        exact z_X_ret rfl
  refine z_ite ?_ ?_
  · refine (z_X_steps (s' := (121, [(0, .ref 3), (1, .int x1), (2, .int x2), (3, .int x3)], [.int x2], h)) 1 rfl).trans ?_
    refine (z_X_br (c := ¬ x2 = 0) (s1 := (137, [(0, .ref 3), (1, .int x1), (2, .int x2), (3, .int x3)], [], h)) (s2 := (124, [(0, .ref 3), (1, .int x1), (2, .int x2), (3, .int x3)], [], h)) rfl).trans (z_ite ?_ ?_)
    · refine (z_X_steps (s' := (139, [(0, .ref 3), (1, .int x1), (2, .int x2), (3, .int x3)], [.int 1, .int x2], h)) 2 rfl).trans ?_
      refine (z_X_br (c := ¬ x2 = 1) (s1 := (149, [(0, .ref 3), (1, .int x1), (2, .int x2), (3, .int x3)], [], h)) (s2 := (142, [(0, .ref 3), (1, .int x1), (2, .int x2), (3, .int x3)], [], h)) rfl).trans (z_ite ?_ ?_)
      · refine (z_X_steps (s' := (152, [(0, .ref 3), (1, .int x1), (2, .int x2), (3, .int x3)], [.int 6, .int x3], h)) 2 rfl).trans ?_
        refine (z_X_br (c := (6 : Int32) ≤ x3) (s1 := (159, [(0, .ref 3), (1, .int x1), (2, .int x2), (3, .int x3)], [], h)) (s2 := (155, [(0, .ref 3), (1, .int x1), (2, .int x2), (3, .int x3)], [], h)) rfl).trans (z_ite ?_ ?_)
        · refine (z_X_steps (s' := (160, [(0, .ref 3), (1, .int x1), (2, .int x2), (3, .int x3)], [.int 0], h)) 1 rfl).trans ?_
          exact z_X_ret rfl
        · refine (z_X_steps (s' := (160, [(0, .ref 3), (1, .int x1), (2, .int x2), (3, .int x3)], [.int 1], h)) 2 rfl).trans ?_
          exact z_X_ret rfl
      · refine (z_X_steps (s' := (143, [(0, .ref 3), (1, .int x1), (2, .int x2), (3, .int x3)], [.int x3], h)) 1 rfl).trans ?_
        refine (z_X_call (id := 37) (a := [.int x3]) (c := 1) (s' := (146, [(0, .ref 3), (1, .int x1), (2, .int x2), (3, .int x3)], [], h)) rfl ⟨Nat.le_of_ble_eq_true rfl, Nat.le_of_ble_eq_true rfl⟩).trans ?_
        refine z_bdc fun r3 h4 => ?_
        refine (z_X_steps (s' := (160, [(0, .ref 3), (1, .int x1), (2, .int x2), (3, .int x3)], [.int r3], h4)) 1 rfl).trans ?_
        exact z_X_ret rfl
    · refine (z_X_steps (s' := (126, [(0, .ref 3), (1, .int x1), (2, .int x2), (3, .int x3)], [.int 4, .int x3], h)) 2 rfl).trans ?_
      refine (z_X_br (c := (4 : Int32) ≤ x3) (s1 := (133, [(0, .ref 3), (1, .int x1), (2, .int x2), (3, .int x3)], [], h)) (s2 := (129, [(0, .ref 3), (1, .int x1), (2, .int x2), (3, .int x3)], [], h)) rfl).trans (z_ite ?_ ?_)
      · refine (z_X_steps (s' := (160, [(0, .ref 3), (1, .int x1), (2, .int x2), (3, .int x3)], [.int 0], h)) 2 rfl).trans ?_
        exact z_X_ret rfl
      · refine (z_X_steps (s' := (160, [(0, .ref 3), (1, .int x1), (2, .int x2), (3, .int x3)], [.int 1], h)) 2 rfl).trans ?_
        exact z_X_ret rfl
  refine (z_X_steps (s' := (162, [(0, .ref 3), (1, .int x1), (2, .int x2), (3, .int x3)], [.int x2], h)) 1 rfl).trans ?_
  refine (z_X_br (c := ¬ x2 = 0) (s1 := (178, [(0, .ref 3), (1, .int x1), (2, .int x2), (3, .int x3)], [], h)) (s2 := (165, [(0, .ref 3), (1, .int x1), (2, .int x2), (3, .int x3)], [], h)) rfl).trans (z_ite ?_ ?_)
  · refine (z_X_steps (s' := (180, [(0, .ref 3), (1, .int x1), (2, .int x2), (3, .int x3)], [.int 1, .int x2], h)) 2 rfl).trans ?_
    refine (z_X_br (c := ¬ x2 = 1) (s1 := (198, [(0, .ref 3), (1, .int x1), (2, .int x2), (3, .int x3)], [], h)) (s2 := (183, [(0, .ref 3), (1, .int x1), (2, .int x2), (3, .int x3)], [], h)) rfl).trans (z_ite ?_ ?_)
    · refine (z_X_steps (s' := (200, [(0, .ref 3), (1, .int x1), (2, .int x2), (3, .int x3)], [.int 1, .int x3], h)) 2 rfl).trans ?_
      refine (z_X_br (c := x3 < 1) (s1 := (213, [(0, .ref 3), (1, .int x1), (2, .int x2), (3, .int x3)], [], h)) (s2 := (203, [(0, .ref 3), (1, .int x1), (2, .int x2), (3, .int x3)], [], h)) rfl).trans (z_ite ?_ ?_)
      · refine (z_X_steps (s' := (214, [(0, .ref 3), (1, .int x1), (2, .int x2), (3, .int x3)], [.int 0], h)) 1 rfl).trans ?_
        exact z_X_ret rfl
      · refine (z_X_steps (s' := (206, [(0, .ref 3), (1, .int x1), (2, .int x2), (3, .int x3)], [.int 9, .int x3], h)) 2 rfl).trans ?_
        refine (z_X_br (c := (9 : Int32) < x3) (s1 := (213, [(0, .ref 3), (1, .int x1), (2, .int x2), (3, .int x3)], [], h)) (s2 := (209, [(0, .ref 3), (1, .int x1), (2, .int x2), (3, .int x3)], [], h)) rfl).trans (z_ite ?_ ?_)
        · refine (z_X_steps (s' := (214, [(0, .ref 3), (1, .int x1), (2, .int x2), (3, .int x3)], [.int 0], h)) 1 rfl).trans ?_
          exact z_X_ret rfl
        · refine (z_X_steps (s' := (214, [(0, .ref 3), (1, .int x1), (2, .int x2), (3, .int x3)], [.int 1], h)) 2 rfl).trans ?_
          exact z_X_ret rfl
    · refine (z_X_steps (s' := (187, [(0, .ref 3), (1, .int x1), (2, .int x2), (3, .int x3)], [.int 255, .int x3], h)) 2 rfl).trans ?_
      refine (z_X_br (c := (255 : Int32) < x3) (s1 := (194, [(0, .ref 3), (1, .int x1), (2, .int x2), (3, .int x3)], [], h)) (s2 := (190, [(0, .ref 3), (1, .int x1), (2, .int x2), (3, .int x3)], [], h)) rfl).trans (z_ite ?_ ?_)
      · refine (z_X_steps (s' := (214, [(0, .ref 3), (1, .int x1), (2, .int x2), (3, .int x3)], [.int 0], h)) 2 rfl).trans ?_
        exact z_X_ret rfl
      · refine (z_X_steps (s' := (214, [(0, .ref 3), (1, .int x1), (2, .int x2), (3, .int x3)], [.int 1], h)) 2 rfl).trans ?_
        exact z_X_ret rfl
  · refine (z_X_steps (s' := (167, [(0, .ref 3), (1, .int x1), (2, .int x2), (3, .int x3)], [.int 4, .int x3], h)) 2 rfl).trans ?_
    refine (z_X_br (c := (4 : Int32) ≤ x3) (s1 := (174, [(0, .ref 3), (1, .int x1), (2, .int x2), (3, .int x3)], [], h)) (s2 := (170, [(0, .ref 3), (1, .int x1), (2, .int x2), (3, .int x3)], [], h)) rfl).trans (z_ite ?_ ?_)
    · refine (z_X_steps (s' := (214, [(0, .ref 3), (1, .int x1), (2, .int x2), (3, .int x3)], [.int 0], h)) 2 rfl).trans ?_
      exact z_X_ret rfl
    · refine (z_X_steps (s' := (214, [(0, .ref 3), (1, .int x1), (2, .int x2), (3, .int x3)], [.int 1], h)) 2 rfl).trans ?_
      exact z_X_ret rfl
set_option maxRecDepth 8000 in
set_option maxHeartbeats 2000000 in
theorem e_Rd_tell (x1 : Int32) (x2 : Int32) (h : z_H) : z_M 64 [.ref 3, .int x1, .int x2] h = (if x1 = 0 then z_bd (z_M 85 [.ref 4] h) (fun r1 h2 => some (0, h2)) else (if x1 = 1 then z_bd (z_M 65 [.ref 3, .int 0, .int x2] h) (fun r3 h4 => some (0, h4)) else (if x1 = 2 then z_bd (z_M 65 [.ref 3, .int 1, .int x2] h) (fun r5 h6 => some (0, h6)) else (if x1 = 3 then z_bd (z_M 88 [.ref 4, .int (h.1 16 0)] h) (fun r7 h8 => some (0, h8)) else (if x1 = 4 then z_bd (z_M 66 [.ref 3] h) (fun r9 h10 => some (0, h10)) else z_bd (z_M 93 [.ref 12, .int ((z_wI h 3 7 (if h.1 3 7 < h.1 16 0 then h.1 16 0 else h.1 3 7)).1 16 0), .int ((z_wI h 3 7 (if h.1 3 7 < h.1 16 0 then h.1 16 0 else h.1 3 7)).1 16 1), .int ((z_wI h 3 7 (if h.1 3 7 < h.1 16 0 then h.1 16 0 else h.1 3 7)).1 16 2)] (z_wI h 3 7 (if h.1 3 7 < h.1 16 0 then h.1 16 0 else h.1 3 7))) (fun r11 h12 => some (0, h12))))))) := by
  refine (z_M_eq (by decide)).trans ?_
  show z_X zc_Rd_tell 4 (0, [(0, .ref 3), (1, .int x1), (2, .int x2)], [], h) = _
  refine (z_X_steps (s' := (1, [(0, .ref 3), (1, .int x1), (2, .int x2)], [.int x1], h)) 1 rfl).trans ?_
  refine (z_X_sw (d := (87, [(0, .ref 3), (1, .int x1), (2, .int x2)], [], h)) (x := x1) (lo := [(0, .ref 3), (1, .int x1), (2, .int x2)]) (stk := []) (h := h) (sw := [(0, 36), (1, 46), (2, 55), (3, 64), (4, 80)]) rfl).trans ?_
  refine z_ite ?_ ?_
  · refine (z_X_steps (s' := (40, [(0, .ref 3), (1, .int x1), (2, .int x2)], [.ref 4], h)) 2 rfl).trans ?_
    refine (z_X_call (id := 85) (a := [.ref 4]) (c := 0) (s' := (43, [(0, .ref 3), (1, .int x1), (2, .int x2)], [], h)) rfl ⟨Nat.le_of_ble_eq_true rfl, Nat.le_of_ble_eq_true rfl⟩).trans ?_
    refine z_bdc fun r1 h2 => ?_
    refine (z_X_steps (s' := (129, [(0, .ref 3), (1, .int x1), (2, .int x2)], [], h2)) 1 rfl).trans ?_
    exact z_X_ret rfl
  refine z_ite ?_ ?_
  · refine (z_X_steps (s' := (49, [(0, .ref 3), (1, .int x1), (2, .int x2)], [.int x2, .int 0, .ref 3], h)) 3 rfl).trans ?_
    refine (z_X_call (id := 65) (a := [.ref 3, .int 0, .int x2]) (c := 0) (s' := (52, [(0, .ref 3), (1, .int x1), (2, .int x2)], [], h)) rfl ⟨Nat.le_of_ble_eq_true rfl, Nat.le_of_ble_eq_true rfl⟩).trans ?_
    refine z_bdc fun r3 h4 => ?_
    refine (z_X_steps (s' := (129, [(0, .ref 3), (1, .int x1), (2, .int x2)], [], h4)) 1 rfl).trans ?_
    exact z_X_ret rfl
  refine z_ite ?_ ?_
  · refine (z_X_steps (s' := (58, [(0, .ref 3), (1, .int x1), (2, .int x2)], [.int x2, .int 1, .ref 3], h)) 3 rfl).trans ?_
    refine (z_X_call (id := 65) (a := [.ref 3, .int 1, .int x2]) (c := 0) (s' := (61, [(0, .ref 3), (1, .int x1), (2, .int x2)], [], h)) rfl ⟨Nat.le_of_ble_eq_true rfl, Nat.le_of_ble_eq_true rfl⟩).trans ?_
    refine z_bdc fun r5 h6 => ?_
    refine (z_X_steps (s' := (129, [(0, .ref 3), (1, .int x1), (2, .int x2)], [], h6)) 1 rfl).trans ?_
    exact z_X_ret rfl
  refine z_ite ?_ ?_
  · refine (z_X_steps (s' := (74, [(0, .ref 3), (1, .int x1), (2, .int x2)], [.int (h.1 16 0), .ref 4], h)) 6 rfl).trans ?_
    refine (z_X_call (id := 88) (a := [.ref 4, .int (h.1 16 0)]) (c := 0) (s' := (77, [(0, .ref 3), (1, .int x1), (2, .int x2)], [], h)) rfl ⟨Nat.le_of_ble_eq_true rfl, Nat.le_of_ble_eq_true rfl⟩).trans ?_
    refine z_bdc fun r7 h8 => ?_
    refine (z_X_steps (s' := (129, [(0, .ref 3), (1, .int x1), (2, .int x2)], [], h8)) 1 rfl).trans ?_
    exact z_X_ret rfl
  refine z_ite ?_ ?_
  · refine (z_X_steps (s' := (81, [(0, .ref 3), (1, .int x1), (2, .int x2)], [.ref 3], h)) 1 rfl).trans ?_
    refine (z_X_call (id := 66) (a := [.ref 3]) (c := 0) (s' := (84, [(0, .ref 3), (1, .int x1), (2, .int x2)], [], h)) rfl ⟨Nat.le_of_ble_eq_true rfl, Nat.le_of_ble_eq_true rfl⟩).trans ?_
    refine z_bdc fun r9 h10 => ?_
    refine (z_X_steps (s' := (129, [(0, .ref 3), (1, .int x1), (2, .int x2)], [], h10)) 1 rfl).trans ?_
    exact z_X_ret rfl
  refine (z_X_steps (s' := (126, [(0, .ref 3), (1, .int x1), (2, .int x2)], [.int ((z_wI h 3 7 (if h.1 3 7 < h.1 16 0 then h.1 16 0 else h.1 3 7)).1 16 2), .int ((z_wI h 3 7 (if h.1 3 7 < h.1 16 0 then h.1 16 0 else h.1 3 7)).1 16 1), .int ((z_wI h 3 7 (if h.1 3 7 < h.1 16 0 then h.1 16 0 else h.1 3 7)).1 16 0), .ref 12], (z_wI h 3 7 (if h.1 3 7 < h.1 16 0 then h.1 16 0 else h.1 3 7)))) 23 rfl).trans ?_
  refine (z_X_call (id := 93) (a := [.ref 12, .int ((z_wI h 3 7 (if h.1 3 7 < h.1 16 0 then h.1 16 0 else h.1 3 7)).1 16 0), .int ((z_wI h 3 7 (if h.1 3 7 < h.1 16 0 then h.1 16 0 else h.1 3 7)).1 16 1), .int ((z_wI h 3 7 (if h.1 3 7 < h.1 16 0 then h.1 16 0 else h.1 3 7)).1 16 2)]) (c := 0) (s' := (129, [(0, .ref 3), (1, .int x1), (2, .int x2)], [], (z_wI h 3 7 (if h.1 3 7 < h.1 16 0 then h.1 16 0 else h.1 3 7)))) rfl ⟨Nat.le_of_ble_eq_true rfl, Nat.le_of_ble_eq_true rfl⟩).trans ?_
  refine z_bdc fun r11 h12 => ?_
  exact z_X_ret rfl
noncomputable def zl_Rd_tellNode_16 (x2 : Int32) (x3 : Int32) (h : z_H) : Option z_A := z_X zc_Rd_tellNode 3 (16, [(0, .ref 3), (2, .int x2), (3, .int x3)], [], h)
set_option maxRecDepth 8000 in
set_option maxHeartbeats 2000000 in
theorem e_Rd_tellNode (x1 : Int32) (x2 : Int32) (h : z_H) : z_M 65 [.ref 3, .int x1, .int x2] h = z_bd (z_M 86 [.ref 4, .int x1, .int (h.1 16 0)] h) (fun r1 h2 => zl_Rd_tellNode_16 x2 1 h2) := by
  refine (z_M_eq (by decide)).trans ?_
  show z_X zc_Rd_tellNode 3 (0, [(0, .ref 3), (1, .int x1), (2, .int x2)], [], h) = _
  refine (z_X_steps (s' := (11, [(0, .ref 3), (1, .int x1), (2, .int x2)], [.int (h.1 16 0), .int x1, .ref 4], h)) 7 rfl).trans ?_
  refine (z_X_call (id := 86) (a := [.ref 4, .int x1, .int (h.1 16 0)]) (c := 0) (s' := (14, [(0, .ref 3), (1, .int x1), (2, .int x2)], [], h)) rfl ⟨Nat.le_of_ble_eq_true rfl, Nat.le_of_ble_eq_true rfl⟩).trans ?_
  refine z_bdc fun r1 h2 => ?_
  refine (z_X_steps (s' := (16, [(3, .int 1), (0, .ref 3), (1, .int x1), (2, .int x2)], [], h2)) 2 rfl).trans ?_
  exact z_X_lab rfl
set_option maxRecDepth 8000 in
set_option maxHeartbeats 2000000 in
theorem e_Rd_tellNode_16 (x2 : Int32) (x3 : Int32) (h : z_H) : zl_Rd_tellNode_16 x2 x3 h = (if x2 ≤ x3 then some (0, h) else (bif z_in x3 3 then z_bd (z_M 87 [.ref 4, .int (h.1 16 (x3.toNatClampNeg))] h) (fun r1 h2 => zl_Rd_tellNode_16 x2 (x3 + 1) h2) else none)) := by
  show z_X zc_Rd_tellNode 3 (16, [(0, .ref 3), (2, .int x2), (3, .int x3)], [], h) = _
  refine (z_X_steps (s' := (18, [(0, .ref 3), (2, .int x2), (3, .int x3)], [.int x2, .int x3], h)) 2 rfl).trans ?_
  refine (z_X_br (c := x2 ≤ x3) (s1 := (40, [(0, .ref 3), (2, .int x2), (3, .int x3)], [], h)) (s2 := (21, [(0, .ref 3), (2, .int x2), (3, .int x3)], [], h)) rfl).trans (z_ite ?_ ?_)
  · exact z_X_ret rfl
  · refine (z_X_steps (s' := (30, [(0, .ref 3), (2, .int x2), (3, .int x3)], [.int x3, .ref 16, .ref 4], h)) 5 rfl).trans ?_
    refine (z_X_if (g := z_in x3 3) (s' := (31, [(0, .ref 3), (2, .int x2), (3, .int x3)], [.int (h.1 16 (x3.toNatClampNeg)), .ref 4], h)) rfl).trans (z_bifA ?_)
    refine (z_X_call (id := 87) (a := [.ref 4, .int (h.1 16 (x3.toNatClampNeg))]) (c := 0) (s' := (34, [(0, .ref 3), (2, .int x2), (3, .int x3)], [], h)) rfl ⟨Nat.le_of_ble_eq_true rfl, Nat.le_of_ble_eq_true rfl⟩).trans ?_
    refine z_bdc fun r1 h2 => ?_
    refine (z_X_steps (s' := (16, [(3, .int (x3 + 1)), (0, .ref 3), (2, .int x2)], [], h2)) 2 rfl).trans ?_
    exact z_X_lab rfl
set_option maxRecDepth 8000 in
set_option maxHeartbeats 2000000 in
theorem e_Rd_tellHas (h : z_H) : z_M 66 [.ref 3] h = (bif z_in ((4 * ((z_wI (z_wI h 3 7 (if h.1 3 7 < h.1 16 0 then h.1 16 0 else h.1 3 7)) 3 8 (if (z_wI h 3 7 (if h.1 3 7 < h.1 16 0 then h.1 16 0 else h.1 3 7)).1 3 8 < (z_wI h 3 7 (if h.1 3 7 < h.1 16 0 then h.1 16 0 else h.1 3 7)).1 16 2 then (z_wI h 3 7 (if h.1 3 7 < h.1 16 0 then h.1 16 0 else h.1 3 7)).1 16 2 else (z_wI h 3 7 (if h.1 3 7 < h.1 16 0 then h.1 16 0 else h.1 3 7)).1 3 8)).1 16 0)) + ((z_wI (z_wI h 3 7 (if h.1 3 7 < h.1 16 0 then h.1 16 0 else h.1 3 7)) 3 8 (if (z_wI h 3 7 (if h.1 3 7 < h.1 16 0 then h.1 16 0 else h.1 3 7)).1 3 8 < (z_wI h 3 7 (if h.1 3 7 < h.1 16 0 then h.1 16 0 else h.1 3 7)).1 16 2 then (z_wI h 3 7 (if h.1 3 7 < h.1 16 0 then h.1 16 0 else h.1 3 7)).1 16 2 else (z_wI h 3 7 (if h.1 3 7 < h.1 16 0 then h.1 16 0 else h.1 3 7)).1 3 8)).1 16 1)) 16 then some (0, (z_wI (z_wI (z_wI h 3 7 (if h.1 3 7 < h.1 16 0 then h.1 16 0 else h.1 3 7)) 3 8 (if (z_wI h 3 7 (if h.1 3 7 < h.1 16 0 then h.1 16 0 else h.1 3 7)).1 3 8 < (z_wI h 3 7 (if h.1 3 7 < h.1 16 0 then h.1 16 0 else h.1 3 7)).1 16 2 then (z_wI h 3 7 (if h.1 3 7 < h.1 16 0 then h.1 16 0 else h.1 3 7)).1 16 2 else (z_wI h 3 7 (if h.1 3 7 < h.1 16 0 then h.1 16 0 else h.1 3 7)).1 3 8)) 11 (((4 * ((z_wI (z_wI h 3 7 (if h.1 3 7 < h.1 16 0 then h.1 16 0 else h.1 3 7)) 3 8 (if (z_wI h 3 7 (if h.1 3 7 < h.1 16 0 then h.1 16 0 else h.1 3 7)).1 3 8 < (z_wI h 3 7 (if h.1 3 7 < h.1 16 0 then h.1 16 0 else h.1 3 7)).1 16 2 then (z_wI h 3 7 (if h.1 3 7 < h.1 16 0 then h.1 16 0 else h.1 3 7)).1 16 2 else (z_wI h 3 7 (if h.1 3 7 < h.1 16 0 then h.1 16 0 else h.1 3 7)).1 3 8)).1 16 0)) + ((z_wI (z_wI h 3 7 (if h.1 3 7 < h.1 16 0 then h.1 16 0 else h.1 3 7)) 3 8 (if (z_wI h 3 7 (if h.1 3 7 < h.1 16 0 then h.1 16 0 else h.1 3 7)).1 3 8 < (z_wI h 3 7 (if h.1 3 7 < h.1 16 0 then h.1 16 0 else h.1 3 7)).1 16 2 then (z_wI h 3 7 (if h.1 3 7 < h.1 16 0 then h.1 16 0 else h.1 3 7)).1 16 2 else (z_wI h 3 7 (if h.1 3 7 < h.1 16 0 then h.1 16 0 else h.1 3 7)).1 3 8)).1 16 1)).toNatClampNeg) ((z_wI (z_wI h 3 7 (if h.1 3 7 < h.1 16 0 then h.1 16 0 else h.1 3 7)) 3 8 (if (z_wI h 3 7 (if h.1 3 7 < h.1 16 0 then h.1 16 0 else h.1 3 7)).1 3 8 < (z_wI h 3 7 (if h.1 3 7 < h.1 16 0 then h.1 16 0 else h.1 3 7)).1 16 2 then (z_wI h 3 7 (if h.1 3 7 < h.1 16 0 then h.1 16 0 else h.1 3 7)).1 16 2 else (z_wI h 3 7 (if h.1 3 7 < h.1 16 0 then h.1 16 0 else h.1 3 7)).1 3 8)).1 16 2))) else none) := by
  refine (z_M_eq (by decide)).trans ?_
  show z_X zc_Rd_tellHas 3 (0, [(0, .ref 3)], [], h) = _
  refine (z_X_steps (s' := (62, [(0, .ref 3)], [.int ((z_wI (z_wI h 3 7 (if h.1 3 7 < h.1 16 0 then h.1 16 0 else h.1 3 7)) 3 8 (if (z_wI h 3 7 (if h.1 3 7 < h.1 16 0 then h.1 16 0 else h.1 3 7)).1 3 8 < (z_wI h 3 7 (if h.1 3 7 < h.1 16 0 then h.1 16 0 else h.1 3 7)).1 16 2 then (z_wI h 3 7 (if h.1 3 7 < h.1 16 0 then h.1 16 0 else h.1 3 7)).1 16 2 else (z_wI h 3 7 (if h.1 3 7 < h.1 16 0 then h.1 16 0 else h.1 3 7)).1 3 8)).1 16 2), .int ((4 * ((z_wI (z_wI h 3 7 (if h.1 3 7 < h.1 16 0 then h.1 16 0 else h.1 3 7)) 3 8 (if (z_wI h 3 7 (if h.1 3 7 < h.1 16 0 then h.1 16 0 else h.1 3 7)).1 3 8 < (z_wI h 3 7 (if h.1 3 7 < h.1 16 0 then h.1 16 0 else h.1 3 7)).1 16 2 then (z_wI h 3 7 (if h.1 3 7 < h.1 16 0 then h.1 16 0 else h.1 3 7)).1 16 2 else (z_wI h 3 7 (if h.1 3 7 < h.1 16 0 then h.1 16 0 else h.1 3 7)).1 3 8)).1 16 0)) + ((z_wI (z_wI h 3 7 (if h.1 3 7 < h.1 16 0 then h.1 16 0 else h.1 3 7)) 3 8 (if (z_wI h 3 7 (if h.1 3 7 < h.1 16 0 then h.1 16 0 else h.1 3 7)).1 3 8 < (z_wI h 3 7 (if h.1 3 7 < h.1 16 0 then h.1 16 0 else h.1 3 7)).1 16 2 then (z_wI h 3 7 (if h.1 3 7 < h.1 16 0 then h.1 16 0 else h.1 3 7)).1 16 2 else (z_wI h 3 7 (if h.1 3 7 < h.1 16 0 then h.1 16 0 else h.1 3 7)).1 3 8)).1 16 1)), .ref 11], (z_wI (z_wI h 3 7 (if h.1 3 7 < h.1 16 0 then h.1 16 0 else h.1 3 7)) 3 8 (if (z_wI h 3 7 (if h.1 3 7 < h.1 16 0 then h.1 16 0 else h.1 3 7)).1 3 8 < (z_wI h 3 7 (if h.1 3 7 < h.1 16 0 then h.1 16 0 else h.1 3 7)).1 16 2 then (z_wI h 3 7 (if h.1 3 7 < h.1 16 0 then h.1 16 0 else h.1 3 7)).1 16 2 else (z_wI h 3 7 (if h.1 3 7 < h.1 16 0 then h.1 16 0 else h.1 3 7)).1 3 8)))) 36 rfl).trans ?_
  refine (z_X_if (g := z_in ((4 * ((z_wI (z_wI h 3 7 (if h.1 3 7 < h.1 16 0 then h.1 16 0 else h.1 3 7)) 3 8 (if (z_wI h 3 7 (if h.1 3 7 < h.1 16 0 then h.1 16 0 else h.1 3 7)).1 3 8 < (z_wI h 3 7 (if h.1 3 7 < h.1 16 0 then h.1 16 0 else h.1 3 7)).1 16 2 then (z_wI h 3 7 (if h.1 3 7 < h.1 16 0 then h.1 16 0 else h.1 3 7)).1 16 2 else (z_wI h 3 7 (if h.1 3 7 < h.1 16 0 then h.1 16 0 else h.1 3 7)).1 3 8)).1 16 0)) + ((z_wI (z_wI h 3 7 (if h.1 3 7 < h.1 16 0 then h.1 16 0 else h.1 3 7)) 3 8 (if (z_wI h 3 7 (if h.1 3 7 < h.1 16 0 then h.1 16 0 else h.1 3 7)).1 3 8 < (z_wI h 3 7 (if h.1 3 7 < h.1 16 0 then h.1 16 0 else h.1 3 7)).1 16 2 then (z_wI h 3 7 (if h.1 3 7 < h.1 16 0 then h.1 16 0 else h.1 3 7)).1 16 2 else (z_wI h 3 7 (if h.1 3 7 < h.1 16 0 then h.1 16 0 else h.1 3 7)).1 3 8)).1 16 1)) 16) (s' := (63, [(0, .ref 3)], [], (z_wI (z_wI (z_wI h 3 7 (if h.1 3 7 < h.1 16 0 then h.1 16 0 else h.1 3 7)) 3 8 (if (z_wI h 3 7 (if h.1 3 7 < h.1 16 0 then h.1 16 0 else h.1 3 7)).1 3 8 < (z_wI h 3 7 (if h.1 3 7 < h.1 16 0 then h.1 16 0 else h.1 3 7)).1 16 2 then (z_wI h 3 7 (if h.1 3 7 < h.1 16 0 then h.1 16 0 else h.1 3 7)).1 16 2 else (z_wI h 3 7 (if h.1 3 7 < h.1 16 0 then h.1 16 0 else h.1 3 7)).1 3 8)) 11 (((4 * ((z_wI (z_wI h 3 7 (if h.1 3 7 < h.1 16 0 then h.1 16 0 else h.1 3 7)) 3 8 (if (z_wI h 3 7 (if h.1 3 7 < h.1 16 0 then h.1 16 0 else h.1 3 7)).1 3 8 < (z_wI h 3 7 (if h.1 3 7 < h.1 16 0 then h.1 16 0 else h.1 3 7)).1 16 2 then (z_wI h 3 7 (if h.1 3 7 < h.1 16 0 then h.1 16 0 else h.1 3 7)).1 16 2 else (z_wI h 3 7 (if h.1 3 7 < h.1 16 0 then h.1 16 0 else h.1 3 7)).1 3 8)).1 16 0)) + ((z_wI (z_wI h 3 7 (if h.1 3 7 < h.1 16 0 then h.1 16 0 else h.1 3 7)) 3 8 (if (z_wI h 3 7 (if h.1 3 7 < h.1 16 0 then h.1 16 0 else h.1 3 7)).1 3 8 < (z_wI h 3 7 (if h.1 3 7 < h.1 16 0 then h.1 16 0 else h.1 3 7)).1 16 2 then (z_wI h 3 7 (if h.1 3 7 < h.1 16 0 then h.1 16 0 else h.1 3 7)).1 16 2 else (z_wI h 3 7 (if h.1 3 7 < h.1 16 0 then h.1 16 0 else h.1 3 7)).1 3 8)).1 16 1)).toNatClampNeg) ((z_wI (z_wI h 3 7 (if h.1 3 7 < h.1 16 0 then h.1 16 0 else h.1 3 7)) 3 8 (if (z_wI h 3 7 (if h.1 3 7 < h.1 16 0 then h.1 16 0 else h.1 3 7)).1 3 8 < (z_wI h 3 7 (if h.1 3 7 < h.1 16 0 then h.1 16 0 else h.1 3 7)).1 16 2 then (z_wI h 3 7 (if h.1 3 7 < h.1 16 0 then h.1 16 0 else h.1 3 7)).1 16 2 else (z_wI h 3 7 (if h.1 3 7 < h.1 16 0 then h.1 16 0 else h.1 3 7)).1 3 8)).1 16 2)))) rfl).trans (z_bifA ?_)
  exact z_X_ret rfl
set_option maxRecDepth 8000 in
set_option maxHeartbeats 2000000 in
theorem e_Rd_tellsWhatIsNotThere (h : z_H) : z_M 67 [.ref 3] h = (if h.1 4 1 ≤ h.1 3 7 then some (1, h) else (if h.1 4 0 ≤ h.1 3 8 then some (1, h) else z_bd (z_M 89 [.ref 4] h) (fun r1 h2 => (if ¬ r1 = 0 then some (0, h2) else some (1, h2))))) := by
  refine (z_M_eq (by decide)).trans ?_
  show z_X zc_Rd_tellsWhatIsNotThere 4 (0, [(0, .ref 3)], [], h) = _
  refine (z_X_steps (s' := (11, [(0, .ref 3)], [.int (h.1 4 1), .int (h.1 3 7)], h)) 5 rfl).trans ?_
  refine (z_X_br (c := h.1 4 1 ≤ h.1 3 7) (s1 := (38, [(0, .ref 3)], [], h)) (s2 := (14, [(0, .ref 3)], [], h)) rfl).trans (z_ite ?_ ?_)
  · refine (z_X_steps (s' := (43, [(0, .ref 3)], [.int 1], h)) 2 rfl).trans ?_
    exact z_X_ret rfl
  · refine (z_X_steps (s' := (25, [(0, .ref 3)], [.int (h.1 4 0), .int (h.1 3 8)], h)) 5 rfl).trans ?_
    refine (z_X_br (c := h.1 4 0 ≤ h.1 3 8) (s1 := (38, [(0, .ref 3)], [], h)) (s2 := (28, [(0, .ref 3)], [], h)) rfl).trans (z_ite ?_ ?_)
    · refine (z_X_steps (s' := (43, [(0, .ref 3)], [.int 1], h)) 2 rfl).trans ?_
      exact z_X_ret rfl
    · refine (z_X_steps (s' := (32, [(0, .ref 3)], [.ref 4], h)) 2 rfl).trans ?_
      refine (z_X_call (id := 89) (a := [.ref 4]) (c := 1) (s' := (35, [(0, .ref 3)], [], h)) rfl ⟨Nat.le_of_ble_eq_true rfl, Nat.le_of_ble_eq_true rfl⟩).trans ?_
      refine z_bdc fun r1 h2 => ?_
      refine (z_X_br (c := ¬ r1 = 0) (s1 := (42, [(0, .ref 3)], [], h2)) (s2 := (38, [(0, .ref 3)], [], h2)) rfl).trans (z_ite ?_ ?_)
      · refine (z_X_steps (s' := (43, [(0, .ref 3)], [.int 0], h2)) 1 rfl).trans ?_
        exact z_X_ret rfl
      · refine (z_X_steps (s' := (43, [(0, .ref 3)], [.int 1], h2)) 2 rfl).trans ?_
        exact z_X_ret rfl
set_option maxRecDepth 8000 in
set_option maxHeartbeats 2000000 in
theorem e_Ts_isThere {o : Nat} (hi : o ∈ [12, 33, 89, 110]) (x1 : Int32) (h : z_H) : z_M 90 [.ref o, .int x1] h = (if x1 < 0 then some (0, h) else (if h.1 o 0 ≤ x1 then some (0, h) else some (1, h))) := by
  refine (z_M_eq (by decide)).trans ?_
  simp only [List.mem_cons, List.not_mem_nil, or_false, Prod.mk.injEq] at hi
  rcases hi with rfl | rfl | rfl | rfl
  · show z_X zc_Ts_isThere 1 (0, [(0, .ref 12), (1, .int x1)], [], h) = _
    refine (z_X_steps (s' := (1, [(0, .ref 12), (1, .int x1)], [.int x1], h)) 1 rfl).trans ?_
    refine (z_X_br (c := x1 < 0) (s1 := (16, [(0, .ref 12), (1, .int x1)], [], h)) (s2 := (4, [(0, .ref 12), (1, .int x1)], [], h)) rfl).trans (z_ite ?_ ?_)
    · refine (z_X_steps (s' := (17, [(0, .ref 12), (1, .int x1)], [.int 0], h)) 1 rfl).trans ?_
      exact z_X_ret rfl
    · refine (z_X_steps (s' := (9, [(0, .ref 12), (1, .int x1)], [.int (h.1 12 0), .int x1], h)) 3 rfl).trans ?_
      refine (z_X_br (c := h.1 12 0 ≤ x1) (s1 := (16, [(0, .ref 12), (1, .int x1)], [], h)) (s2 := (12, [(0, .ref 12), (1, .int x1)], [], h)) rfl).trans (z_ite ?_ ?_)
      · refine (z_X_steps (s' := (17, [(0, .ref 12), (1, .int x1)], [.int 0], h)) 1 rfl).trans ?_
        exact z_X_ret rfl
      · refine (z_X_steps (s' := (17, [(0, .ref 12), (1, .int x1)], [.int 1], h)) 2 rfl).trans ?_
        exact z_X_ret rfl
  · show z_X zc_Ts_isThere 1 (0, [(0, .ref 33), (1, .int x1)], [], h) = _
    refine (z_X_steps (s' := (1, [(0, .ref 33), (1, .int x1)], [.int x1], h)) 1 rfl).trans ?_
    refine (z_X_br (c := x1 < 0) (s1 := (16, [(0, .ref 33), (1, .int x1)], [], h)) (s2 := (4, [(0, .ref 33), (1, .int x1)], [], h)) rfl).trans (z_ite ?_ ?_)
    · refine (z_X_steps (s' := (17, [(0, .ref 33), (1, .int x1)], [.int 0], h)) 1 rfl).trans ?_
      exact z_X_ret rfl
    · refine (z_X_steps (s' := (9, [(0, .ref 33), (1, .int x1)], [.int (h.1 33 0), .int x1], h)) 3 rfl).trans ?_
      refine (z_X_br (c := h.1 33 0 ≤ x1) (s1 := (16, [(0, .ref 33), (1, .int x1)], [], h)) (s2 := (12, [(0, .ref 33), (1, .int x1)], [], h)) rfl).trans (z_ite ?_ ?_)
      · refine (z_X_steps (s' := (17, [(0, .ref 33), (1, .int x1)], [.int 0], h)) 1 rfl).trans ?_
        exact z_X_ret rfl
      · refine (z_X_steps (s' := (17, [(0, .ref 33), (1, .int x1)], [.int 1], h)) 2 rfl).trans ?_
        exact z_X_ret rfl
  · show z_X zc_Ts_isThere 1 (0, [(0, .ref 89), (1, .int x1)], [], h) = _
    refine (z_X_steps (s' := (1, [(0, .ref 89), (1, .int x1)], [.int x1], h)) 1 rfl).trans ?_
    refine (z_X_br (c := x1 < 0) (s1 := (16, [(0, .ref 89), (1, .int x1)], [], h)) (s2 := (4, [(0, .ref 89), (1, .int x1)], [], h)) rfl).trans (z_ite ?_ ?_)
    · refine (z_X_steps (s' := (17, [(0, .ref 89), (1, .int x1)], [.int 0], h)) 1 rfl).trans ?_
      exact z_X_ret rfl
    · refine (z_X_steps (s' := (9, [(0, .ref 89), (1, .int x1)], [.int (h.1 89 0), .int x1], h)) 3 rfl).trans ?_
      refine (z_X_br (c := h.1 89 0 ≤ x1) (s1 := (16, [(0, .ref 89), (1, .int x1)], [], h)) (s2 := (12, [(0, .ref 89), (1, .int x1)], [], h)) rfl).trans (z_ite ?_ ?_)
      · refine (z_X_steps (s' := (17, [(0, .ref 89), (1, .int x1)], [.int 0], h)) 1 rfl).trans ?_
        exact z_X_ret rfl
      · refine (z_X_steps (s' := (17, [(0, .ref 89), (1, .int x1)], [.int 1], h)) 2 rfl).trans ?_
        exact z_X_ret rfl
  · show z_X zc_Ts_isThere 1 (0, [(0, .ref 110), (1, .int x1)], [], h) = _
    refine (z_X_steps (s' := (1, [(0, .ref 110), (1, .int x1)], [.int x1], h)) 1 rfl).trans ?_
    refine (z_X_br (c := x1 < 0) (s1 := (16, [(0, .ref 110), (1, .int x1)], [], h)) (s2 := (4, [(0, .ref 110), (1, .int x1)], [], h)) rfl).trans (z_ite ?_ ?_)
    · refine (z_X_steps (s' := (17, [(0, .ref 110), (1, .int x1)], [.int 0], h)) 1 rfl).trans ?_
      exact z_X_ret rfl
    · refine (z_X_steps (s' := (9, [(0, .ref 110), (1, .int x1)], [.int (h.1 110 0), .int x1], h)) 3 rfl).trans ?_
      refine (z_X_br (c := h.1 110 0 ≤ x1) (s1 := (16, [(0, .ref 110), (1, .int x1)], [], h)) (s2 := (12, [(0, .ref 110), (1, .int x1)], [], h)) rfl).trans (z_ite ?_ ?_)
      · refine (z_X_steps (s' := (17, [(0, .ref 110), (1, .int x1)], [.int 0], h)) 1 rfl).trans ?_
        exact z_X_ret rfl
      · refine (z_X_steps (s' := (17, [(0, .ref 110), (1, .int x1)], [.int 1], h)) 2 rfl).trans ?_
        exact z_X_ret rfl
set_option maxRecDepth 8000 in
set_option maxHeartbeats 2000000 in
theorem e_Ts_isFull {o : Nat} (hi : o ∈ [12, 33, 89, 110]) (h : z_H) : z_M 91 [.ref o] h = (if h.1 o 0 < 8 then some (0, h) else some (1, h)) := by
  refine (z_M_eq (by decide)).trans ?_
  simp only [List.mem_cons, List.not_mem_nil, or_false, Prod.mk.injEq] at hi
  rcases hi with rfl | rfl | rfl | rfl
  · show z_X zc_Ts_isFull 1 (0, [(0, .ref 12)], [], h) = _
    refine (z_X_steps (s' := (6, [(0, .ref 12)], [.int 8, .int (h.1 12 0)], h)) 3 rfl).trans ?_
    refine (z_X_br (c := h.1 12 0 < 8) (s1 := (13, [(0, .ref 12)], [], h)) (s2 := (9, [(0, .ref 12)], [], h)) rfl).trans (z_ite ?_ ?_)
    · refine (z_X_steps (s' := (14, [(0, .ref 12)], [.int 0], h)) 1 rfl).trans ?_
      exact z_X_ret rfl
    · refine (z_X_steps (s' := (14, [(0, .ref 12)], [.int 1], h)) 2 rfl).trans ?_
      exact z_X_ret rfl
  · show z_X zc_Ts_isFull 1 (0, [(0, .ref 33)], [], h) = _
    refine (z_X_steps (s' := (6, [(0, .ref 33)], [.int 8, .int (h.1 33 0)], h)) 3 rfl).trans ?_
    refine (z_X_br (c := h.1 33 0 < 8) (s1 := (13, [(0, .ref 33)], [], h)) (s2 := (9, [(0, .ref 33)], [], h)) rfl).trans (z_ite ?_ ?_)
    · refine (z_X_steps (s' := (14, [(0, .ref 33)], [.int 0], h)) 1 rfl).trans ?_
      exact z_X_ret rfl
    · refine (z_X_steps (s' := (14, [(0, .ref 33)], [.int 1], h)) 2 rfl).trans ?_
      exact z_X_ret rfl
  · show z_X zc_Ts_isFull 1 (0, [(0, .ref 89)], [], h) = _
    refine (z_X_steps (s' := (6, [(0, .ref 89)], [.int 8, .int (h.1 89 0)], h)) 3 rfl).trans ?_
    refine (z_X_br (c := h.1 89 0 < 8) (s1 := (13, [(0, .ref 89)], [], h)) (s2 := (9, [(0, .ref 89)], [], h)) rfl).trans (z_ite ?_ ?_)
    · refine (z_X_steps (s' := (14, [(0, .ref 89)], [.int 0], h)) 1 rfl).trans ?_
      exact z_X_ret rfl
    · refine (z_X_steps (s' := (14, [(0, .ref 89)], [.int 1], h)) 2 rfl).trans ?_
      exact z_X_ret rfl
  · show z_X zc_Ts_isFull 1 (0, [(0, .ref 110)], [], h) = _
    refine (z_X_steps (s' := (6, [(0, .ref 110)], [.int 8, .int (h.1 110 0)], h)) 3 rfl).trans ?_
    refine (z_X_br (c := h.1 110 0 < 8) (s1 := (13, [(0, .ref 110)], [], h)) (s2 := (9, [(0, .ref 110)], [], h)) rfl).trans (z_ite ?_ ?_)
    · refine (z_X_steps (s' := (14, [(0, .ref 110)], [.int 0], h)) 1 rfl).trans ?_
      exact z_X_ret rfl
    · refine (z_X_steps (s' := (14, [(0, .ref 110)], [.int 1], h)) 2 rfl).trans ?_
      exact z_X_ret rfl
set_option maxRecDepth 8000 in
set_option maxHeartbeats 2000000 in
theorem e_Ts_becomeAs {o : Nat} {p : Nat} (hi : (o, p) ∈ [(33, 12), (89, 33), (110, 33), (33, 89), (33, 110)]) (h : z_H) : z_M 92 [.ref o, .ref p] h = some (0, (z_cpI (z_cpI (z_cpI (z_wI h o 0 (h.1 p 0)) (p + 1) 0 (o + 1) 0 8) (p + 2) 0 (o + 2) 0 8) (p + 3) 0 (o + 3) 0 8)) := by
  refine (z_M_eq (by decide)).trans ?_
  simp only [List.mem_cons, List.not_mem_nil, or_false, Prod.mk.injEq] at hi
  rcases hi with ⟨rfl, rfl⟩ | ⟨rfl, rfl⟩ | ⟨rfl, rfl⟩ | ⟨rfl, rfl⟩ | ⟨rfl, rfl⟩
  · show z_X zc_Ts_becomeAs 2 (0, [(0, .ref 33), (1, .ref 12)], [], h) = _
    refine (z_X_steps (s' := (53, [(0, .ref 33), (1, .ref 12)], [], (z_cpI (z_cpI (z_cpI (z_wI h 33 0 (h.1 12 0)) (12 + 1) 0 (33 + 1) 0 8) (12 + 2) 0 (33 + 2) 0 8) (12 + 3) 0 (33 + 3) 0 8))) 28 rfl).trans ?_
    exact z_X_ret rfl
  · show z_X zc_Ts_becomeAs 2 (0, [(0, .ref 89), (1, .ref 33)], [], h) = _
    refine (z_X_steps (s' := (53, [(0, .ref 89), (1, .ref 33)], [], (z_cpI (z_cpI (z_cpI (z_wI h 89 0 (h.1 33 0)) (33 + 1) 0 (89 + 1) 0 8) (33 + 2) 0 (89 + 2) 0 8) (33 + 3) 0 (89 + 3) 0 8))) 28 rfl).trans ?_
    exact z_X_ret rfl
  · show z_X zc_Ts_becomeAs 2 (0, [(0, .ref 110), (1, .ref 33)], [], h) = _
    refine (z_X_steps (s' := (53, [(0, .ref 110), (1, .ref 33)], [], (z_cpI (z_cpI (z_cpI (z_wI h 110 0 (h.1 33 0)) (33 + 1) 0 (110 + 1) 0 8) (33 + 2) 0 (110 + 2) 0 8) (33 + 3) 0 (110 + 3) 0 8))) 28 rfl).trans ?_
    exact z_X_ret rfl
  · show z_X zc_Ts_becomeAs 2 (0, [(0, .ref 33), (1, .ref 89)], [], h) = _
    refine (z_X_steps (s' := (53, [(0, .ref 33), (1, .ref 89)], [], (z_cpI (z_cpI (z_cpI (z_wI h 33 0 (h.1 89 0)) (89 + 1) 0 (33 + 1) 0 8) (89 + 2) 0 (33 + 2) 0 8) (89 + 3) 0 (33 + 3) 0 8))) 28 rfl).trans ?_
    exact z_X_ret rfl
  · show z_X zc_Ts_becomeAs 2 (0, [(0, .ref 33), (1, .ref 110)], [], h) = _
    refine (z_X_steps (s' := (53, [(0, .ref 33), (1, .ref 110)], [], (z_cpI (z_cpI (z_cpI (z_wI h 33 0 (h.1 110 0)) (110 + 1) 0 (33 + 1) 0 8) (110 + 2) 0 (33 + 2) 0 8) (110 + 3) 0 (33 + 3) 0 8))) 28 rfl).trans ?_
    exact z_X_ret rfl
set_option maxRecDepth 8000 in
set_option maxHeartbeats 2000000 in
theorem e_Ts_append {o : Nat} (hi : o ∈ [12, 33, 89, 110]) (x1 : Int32) (x2 : Int32) (x3 : Int32) (h : z_H) : z_M 93 [.ref o, .int x1, .int x2, .int x3] h = z_bd (z_M 91 [.ref o] h) (fun r1 h2 => (if ¬ r1 = 0 then some (0, h2) else (bif z_in (h2.1 o 0) 8 then (bif z_in ((z_wI h2 (o + 1) ((h2.1 o 0).toNatClampNeg) x1).1 o 0) 8 then (bif z_in ((z_wI (z_wI h2 (o + 1) ((h2.1 o 0).toNatClampNeg) x1) (o + 2) (((z_wI h2 (o + 1) ((h2.1 o 0).toNatClampNeg) x1).1 o 0).toNatClampNeg) x2).1 o 0) 8 then some (0, (z_wI (z_wI (z_wI (z_wI h2 (o + 1) ((h2.1 o 0).toNatClampNeg) x1) (o + 2) (((z_wI h2 (o + 1) ((h2.1 o 0).toNatClampNeg) x1).1 o 0).toNatClampNeg) x2) (o + 3) (((z_wI (z_wI h2 (o + 1) ((h2.1 o 0).toNatClampNeg) x1) (o + 2) (((z_wI h2 (o + 1) ((h2.1 o 0).toNatClampNeg) x1).1 o 0).toNatClampNeg) x2).1 o 0).toNatClampNeg) x3) o 0 (((z_wI (z_wI (z_wI h2 (o + 1) ((h2.1 o 0).toNatClampNeg) x1) (o + 2) (((z_wI h2 (o + 1) ((h2.1 o 0).toNatClampNeg) x1).1 o 0).toNatClampNeg) x2) (o + 3) (((z_wI (z_wI h2 (o + 1) ((h2.1 o 0).toNatClampNeg) x1) (o + 2) (((z_wI h2 (o + 1) ((h2.1 o 0).toNatClampNeg) x1).1 o 0).toNatClampNeg) x2).1 o 0).toNatClampNeg) x3).1 o 0) + 1))) else none) else none) else none))) := by
  refine (z_M_eq (by decide)).trans ?_
  simp only [List.mem_cons, List.not_mem_nil, or_false, Prod.mk.injEq] at hi
  rcases hi with rfl | rfl | rfl | rfl
  · show z_X zc_Ts_append 2 (0, [(0, .ref 12), (1, .int x1), (2, .int x2), (3, .int x3)], [], h) = _
    refine (z_X_steps (s' := (1, [(0, .ref 12), (1, .int x1), (2, .int x2), (3, .int x3)], [.ref 12], h)) 1 rfl).trans ?_
    refine (z_X_call (id := 91) (a := [.ref 12]) (c := 1) (s' := (4, [(0, .ref 12), (1, .int x1), (2, .int x2), (3, .int x3)], [], h)) rfl ⟨Nat.le_of_ble_eq_true rfl, Nat.le_of_ble_eq_true rfl⟩).trans ?_
    refine z_bdc fun r1 h2 => ?_
    refine (z_X_br (c := ¬ r1 = 0) (s1 := (47, [(0, .ref 12), (1, .int x1), (2, .int x2), (3, .int x3)], [], h2)) (s2 := (7, [(0, .ref 12), (1, .int x1), (2, .int x2), (3, .int x3)], [], h2)) rfl).trans (z_ite ?_ ?_)
    · exact z_X_ret rfl
    · refine (z_X_steps (s' := (16, [(0, .ref 12), (1, .int x1), (2, .int x2), (3, .int x3)], [.int x1, .int (h2.1 12 0), .ref (12 + 1)], h2)) 5 rfl).trans ?_
      refine (z_X_if (g := z_in (h2.1 12 0) 8) (s' := (17, [(0, .ref 12), (1, .int x1), (2, .int x2), (3, .int x3)], [], (z_wI h2 (12 + 1) ((h2.1 12 0).toNatClampNeg) x1))) rfl).trans (z_bifA ?_)
      refine (z_X_steps (s' := (26, [(0, .ref 12), (1, .int x1), (2, .int x2), (3, .int x3)], [.int x2, .int ((z_wI h2 (12 + 1) ((h2.1 12 0).toNatClampNeg) x1).1 12 0), .ref (12 + 2)], (z_wI h2 (12 + 1) ((h2.1 12 0).toNatClampNeg) x1))) 5 rfl).trans ?_
      refine (z_X_if (g := z_in ((z_wI h2 (12 + 1) ((h2.1 12 0).toNatClampNeg) x1).1 12 0) 8) (s' := (27, [(0, .ref 12), (1, .int x1), (2, .int x2), (3, .int x3)], [], (z_wI (z_wI h2 (12 + 1) ((h2.1 12 0).toNatClampNeg) x1) (12 + 2) (((z_wI h2 (12 + 1) ((h2.1 12 0).toNatClampNeg) x1).1 12 0).toNatClampNeg) x2))) rfl).trans (z_bifA ?_)
      refine (z_X_steps (s' := (36, [(0, .ref 12), (1, .int x1), (2, .int x2), (3, .int x3)], [.int x3, .int ((z_wI (z_wI h2 (12 + 1) ((h2.1 12 0).toNatClampNeg) x1) (12 + 2) (((z_wI h2 (12 + 1) ((h2.1 12 0).toNatClampNeg) x1).1 12 0).toNatClampNeg) x2).1 12 0), .ref (12 + 3)], (z_wI (z_wI h2 (12 + 1) ((h2.1 12 0).toNatClampNeg) x1) (12 + 2) (((z_wI h2 (12 + 1) ((h2.1 12 0).toNatClampNeg) x1).1 12 0).toNatClampNeg) x2))) 5 rfl).trans ?_
      refine (z_X_if (g := z_in ((z_wI (z_wI h2 (12 + 1) ((h2.1 12 0).toNatClampNeg) x1) (12 + 2) (((z_wI h2 (12 + 1) ((h2.1 12 0).toNatClampNeg) x1).1 12 0).toNatClampNeg) x2).1 12 0) 8) (s' := (37, [(0, .ref 12), (1, .int x1), (2, .int x2), (3, .int x3)], [], (z_wI (z_wI (z_wI h2 (12 + 1) ((h2.1 12 0).toNatClampNeg) x1) (12 + 2) (((z_wI h2 (12 + 1) ((h2.1 12 0).toNatClampNeg) x1).1 12 0).toNatClampNeg) x2) (12 + 3) (((z_wI (z_wI h2 (12 + 1) ((h2.1 12 0).toNatClampNeg) x1) (12 + 2) (((z_wI h2 (12 + 1) ((h2.1 12 0).toNatClampNeg) x1).1 12 0).toNatClampNeg) x2).1 12 0).toNatClampNeg) x3))) rfl).trans (z_bifA ?_)
      refine (z_X_steps (s' := (47, [(0, .ref 12), (1, .int x1), (2, .int x2), (3, .int x3)], [], (z_wI (z_wI (z_wI (z_wI h2 (12 + 1) ((h2.1 12 0).toNatClampNeg) x1) (12 + 2) (((z_wI h2 (12 + 1) ((h2.1 12 0).toNatClampNeg) x1).1 12 0).toNatClampNeg) x2) (12 + 3) (((z_wI (z_wI h2 (12 + 1) ((h2.1 12 0).toNatClampNeg) x1) (12 + 2) (((z_wI h2 (12 + 1) ((h2.1 12 0).toNatClampNeg) x1).1 12 0).toNatClampNeg) x2).1 12 0).toNatClampNeg) x3) 12 0 (((z_wI (z_wI (z_wI h2 (12 + 1) ((h2.1 12 0).toNatClampNeg) x1) (12 + 2) (((z_wI h2 (12 + 1) ((h2.1 12 0).toNatClampNeg) x1).1 12 0).toNatClampNeg) x2) (12 + 3) (((z_wI (z_wI h2 (12 + 1) ((h2.1 12 0).toNatClampNeg) x1) (12 + 2) (((z_wI h2 (12 + 1) ((h2.1 12 0).toNatClampNeg) x1).1 12 0).toNatClampNeg) x2).1 12 0).toNatClampNeg) x3).1 12 0) + 1)))) 6 rfl).trans ?_
      exact z_X_ret rfl
  · show z_X zc_Ts_append 2 (0, [(0, .ref 33), (1, .int x1), (2, .int x2), (3, .int x3)], [], h) = _
    refine (z_X_steps (s' := (1, [(0, .ref 33), (1, .int x1), (2, .int x2), (3, .int x3)], [.ref 33], h)) 1 rfl).trans ?_
    refine (z_X_call (id := 91) (a := [.ref 33]) (c := 1) (s' := (4, [(0, .ref 33), (1, .int x1), (2, .int x2), (3, .int x3)], [], h)) rfl ⟨Nat.le_of_ble_eq_true rfl, Nat.le_of_ble_eq_true rfl⟩).trans ?_
    refine z_bdc fun r1 h2 => ?_
    refine (z_X_br (c := ¬ r1 = 0) (s1 := (47, [(0, .ref 33), (1, .int x1), (2, .int x2), (3, .int x3)], [], h2)) (s2 := (7, [(0, .ref 33), (1, .int x1), (2, .int x2), (3, .int x3)], [], h2)) rfl).trans (z_ite ?_ ?_)
    · exact z_X_ret rfl
    · refine (z_X_steps (s' := (16, [(0, .ref 33), (1, .int x1), (2, .int x2), (3, .int x3)], [.int x1, .int (h2.1 33 0), .ref (33 + 1)], h2)) 5 rfl).trans ?_
      refine (z_X_if (g := z_in (h2.1 33 0) 8) (s' := (17, [(0, .ref 33), (1, .int x1), (2, .int x2), (3, .int x3)], [], (z_wI h2 (33 + 1) ((h2.1 33 0).toNatClampNeg) x1))) rfl).trans (z_bifA ?_)
      refine (z_X_steps (s' := (26, [(0, .ref 33), (1, .int x1), (2, .int x2), (3, .int x3)], [.int x2, .int ((z_wI h2 (33 + 1) ((h2.1 33 0).toNatClampNeg) x1).1 33 0), .ref (33 + 2)], (z_wI h2 (33 + 1) ((h2.1 33 0).toNatClampNeg) x1))) 5 rfl).trans ?_
      refine (z_X_if (g := z_in ((z_wI h2 (33 + 1) ((h2.1 33 0).toNatClampNeg) x1).1 33 0) 8) (s' := (27, [(0, .ref 33), (1, .int x1), (2, .int x2), (3, .int x3)], [], (z_wI (z_wI h2 (33 + 1) ((h2.1 33 0).toNatClampNeg) x1) (33 + 2) (((z_wI h2 (33 + 1) ((h2.1 33 0).toNatClampNeg) x1).1 33 0).toNatClampNeg) x2))) rfl).trans (z_bifA ?_)
      refine (z_X_steps (s' := (36, [(0, .ref 33), (1, .int x1), (2, .int x2), (3, .int x3)], [.int x3, .int ((z_wI (z_wI h2 (33 + 1) ((h2.1 33 0).toNatClampNeg) x1) (33 + 2) (((z_wI h2 (33 + 1) ((h2.1 33 0).toNatClampNeg) x1).1 33 0).toNatClampNeg) x2).1 33 0), .ref (33 + 3)], (z_wI (z_wI h2 (33 + 1) ((h2.1 33 0).toNatClampNeg) x1) (33 + 2) (((z_wI h2 (33 + 1) ((h2.1 33 0).toNatClampNeg) x1).1 33 0).toNatClampNeg) x2))) 5 rfl).trans ?_
      refine (z_X_if (g := z_in ((z_wI (z_wI h2 (33 + 1) ((h2.1 33 0).toNatClampNeg) x1) (33 + 2) (((z_wI h2 (33 + 1) ((h2.1 33 0).toNatClampNeg) x1).1 33 0).toNatClampNeg) x2).1 33 0) 8) (s' := (37, [(0, .ref 33), (1, .int x1), (2, .int x2), (3, .int x3)], [], (z_wI (z_wI (z_wI h2 (33 + 1) ((h2.1 33 0).toNatClampNeg) x1) (33 + 2) (((z_wI h2 (33 + 1) ((h2.1 33 0).toNatClampNeg) x1).1 33 0).toNatClampNeg) x2) (33 + 3) (((z_wI (z_wI h2 (33 + 1) ((h2.1 33 0).toNatClampNeg) x1) (33 + 2) (((z_wI h2 (33 + 1) ((h2.1 33 0).toNatClampNeg) x1).1 33 0).toNatClampNeg) x2).1 33 0).toNatClampNeg) x3))) rfl).trans (z_bifA ?_)
      refine (z_X_steps (s' := (47, [(0, .ref 33), (1, .int x1), (2, .int x2), (3, .int x3)], [], (z_wI (z_wI (z_wI (z_wI h2 (33 + 1) ((h2.1 33 0).toNatClampNeg) x1) (33 + 2) (((z_wI h2 (33 + 1) ((h2.1 33 0).toNatClampNeg) x1).1 33 0).toNatClampNeg) x2) (33 + 3) (((z_wI (z_wI h2 (33 + 1) ((h2.1 33 0).toNatClampNeg) x1) (33 + 2) (((z_wI h2 (33 + 1) ((h2.1 33 0).toNatClampNeg) x1).1 33 0).toNatClampNeg) x2).1 33 0).toNatClampNeg) x3) 33 0 (((z_wI (z_wI (z_wI h2 (33 + 1) ((h2.1 33 0).toNatClampNeg) x1) (33 + 2) (((z_wI h2 (33 + 1) ((h2.1 33 0).toNatClampNeg) x1).1 33 0).toNatClampNeg) x2) (33 + 3) (((z_wI (z_wI h2 (33 + 1) ((h2.1 33 0).toNatClampNeg) x1) (33 + 2) (((z_wI h2 (33 + 1) ((h2.1 33 0).toNatClampNeg) x1).1 33 0).toNatClampNeg) x2).1 33 0).toNatClampNeg) x3).1 33 0) + 1)))) 6 rfl).trans ?_
      exact z_X_ret rfl
  · show z_X zc_Ts_append 2 (0, [(0, .ref 89), (1, .int x1), (2, .int x2), (3, .int x3)], [], h) = _
    refine (z_X_steps (s' := (1, [(0, .ref 89), (1, .int x1), (2, .int x2), (3, .int x3)], [.ref 89], h)) 1 rfl).trans ?_
    refine (z_X_call (id := 91) (a := [.ref 89]) (c := 1) (s' := (4, [(0, .ref 89), (1, .int x1), (2, .int x2), (3, .int x3)], [], h)) rfl ⟨Nat.le_of_ble_eq_true rfl, Nat.le_of_ble_eq_true rfl⟩).trans ?_
    refine z_bdc fun r1 h2 => ?_
    refine (z_X_br (c := ¬ r1 = 0) (s1 := (47, [(0, .ref 89), (1, .int x1), (2, .int x2), (3, .int x3)], [], h2)) (s2 := (7, [(0, .ref 89), (1, .int x1), (2, .int x2), (3, .int x3)], [], h2)) rfl).trans (z_ite ?_ ?_)
    · exact z_X_ret rfl
    · refine (z_X_steps (s' := (16, [(0, .ref 89), (1, .int x1), (2, .int x2), (3, .int x3)], [.int x1, .int (h2.1 89 0), .ref (89 + 1)], h2)) 5 rfl).trans ?_
      refine (z_X_if (g := z_in (h2.1 89 0) 8) (s' := (17, [(0, .ref 89), (1, .int x1), (2, .int x2), (3, .int x3)], [], (z_wI h2 (89 + 1) ((h2.1 89 0).toNatClampNeg) x1))) rfl).trans (z_bifA ?_)
      refine (z_X_steps (s' := (26, [(0, .ref 89), (1, .int x1), (2, .int x2), (3, .int x3)], [.int x2, .int ((z_wI h2 (89 + 1) ((h2.1 89 0).toNatClampNeg) x1).1 89 0), .ref (89 + 2)], (z_wI h2 (89 + 1) ((h2.1 89 0).toNatClampNeg) x1))) 5 rfl).trans ?_
      refine (z_X_if (g := z_in ((z_wI h2 (89 + 1) ((h2.1 89 0).toNatClampNeg) x1).1 89 0) 8) (s' := (27, [(0, .ref 89), (1, .int x1), (2, .int x2), (3, .int x3)], [], (z_wI (z_wI h2 (89 + 1) ((h2.1 89 0).toNatClampNeg) x1) (89 + 2) (((z_wI h2 (89 + 1) ((h2.1 89 0).toNatClampNeg) x1).1 89 0).toNatClampNeg) x2))) rfl).trans (z_bifA ?_)
      refine (z_X_steps (s' := (36, [(0, .ref 89), (1, .int x1), (2, .int x2), (3, .int x3)], [.int x3, .int ((z_wI (z_wI h2 (89 + 1) ((h2.1 89 0).toNatClampNeg) x1) (89 + 2) (((z_wI h2 (89 + 1) ((h2.1 89 0).toNatClampNeg) x1).1 89 0).toNatClampNeg) x2).1 89 0), .ref (89 + 3)], (z_wI (z_wI h2 (89 + 1) ((h2.1 89 0).toNatClampNeg) x1) (89 + 2) (((z_wI h2 (89 + 1) ((h2.1 89 0).toNatClampNeg) x1).1 89 0).toNatClampNeg) x2))) 5 rfl).trans ?_
      refine (z_X_if (g := z_in ((z_wI (z_wI h2 (89 + 1) ((h2.1 89 0).toNatClampNeg) x1) (89 + 2) (((z_wI h2 (89 + 1) ((h2.1 89 0).toNatClampNeg) x1).1 89 0).toNatClampNeg) x2).1 89 0) 8) (s' := (37, [(0, .ref 89), (1, .int x1), (2, .int x2), (3, .int x3)], [], (z_wI (z_wI (z_wI h2 (89 + 1) ((h2.1 89 0).toNatClampNeg) x1) (89 + 2) (((z_wI h2 (89 + 1) ((h2.1 89 0).toNatClampNeg) x1).1 89 0).toNatClampNeg) x2) (89 + 3) (((z_wI (z_wI h2 (89 + 1) ((h2.1 89 0).toNatClampNeg) x1) (89 + 2) (((z_wI h2 (89 + 1) ((h2.1 89 0).toNatClampNeg) x1).1 89 0).toNatClampNeg) x2).1 89 0).toNatClampNeg) x3))) rfl).trans (z_bifA ?_)
      refine (z_X_steps (s' := (47, [(0, .ref 89), (1, .int x1), (2, .int x2), (3, .int x3)], [], (z_wI (z_wI (z_wI (z_wI h2 (89 + 1) ((h2.1 89 0).toNatClampNeg) x1) (89 + 2) (((z_wI h2 (89 + 1) ((h2.1 89 0).toNatClampNeg) x1).1 89 0).toNatClampNeg) x2) (89 + 3) (((z_wI (z_wI h2 (89 + 1) ((h2.1 89 0).toNatClampNeg) x1) (89 + 2) (((z_wI h2 (89 + 1) ((h2.1 89 0).toNatClampNeg) x1).1 89 0).toNatClampNeg) x2).1 89 0).toNatClampNeg) x3) 89 0 (((z_wI (z_wI (z_wI h2 (89 + 1) ((h2.1 89 0).toNatClampNeg) x1) (89 + 2) (((z_wI h2 (89 + 1) ((h2.1 89 0).toNatClampNeg) x1).1 89 0).toNatClampNeg) x2) (89 + 3) (((z_wI (z_wI h2 (89 + 1) ((h2.1 89 0).toNatClampNeg) x1) (89 + 2) (((z_wI h2 (89 + 1) ((h2.1 89 0).toNatClampNeg) x1).1 89 0).toNatClampNeg) x2).1 89 0).toNatClampNeg) x3).1 89 0) + 1)))) 6 rfl).trans ?_
      exact z_X_ret rfl
  · show z_X zc_Ts_append 2 (0, [(0, .ref 110), (1, .int x1), (2, .int x2), (3, .int x3)], [], h) = _
    refine (z_X_steps (s' := (1, [(0, .ref 110), (1, .int x1), (2, .int x2), (3, .int x3)], [.ref 110], h)) 1 rfl).trans ?_
    refine (z_X_call (id := 91) (a := [.ref 110]) (c := 1) (s' := (4, [(0, .ref 110), (1, .int x1), (2, .int x2), (3, .int x3)], [], h)) rfl ⟨Nat.le_of_ble_eq_true rfl, Nat.le_of_ble_eq_true rfl⟩).trans ?_
    refine z_bdc fun r1 h2 => ?_
    refine (z_X_br (c := ¬ r1 = 0) (s1 := (47, [(0, .ref 110), (1, .int x1), (2, .int x2), (3, .int x3)], [], h2)) (s2 := (7, [(0, .ref 110), (1, .int x1), (2, .int x2), (3, .int x3)], [], h2)) rfl).trans (z_ite ?_ ?_)
    · exact z_X_ret rfl
    · refine (z_X_steps (s' := (16, [(0, .ref 110), (1, .int x1), (2, .int x2), (3, .int x3)], [.int x1, .int (h2.1 110 0), .ref (110 + 1)], h2)) 5 rfl).trans ?_
      refine (z_X_if (g := z_in (h2.1 110 0) 8) (s' := (17, [(0, .ref 110), (1, .int x1), (2, .int x2), (3, .int x3)], [], (z_wI h2 (110 + 1) ((h2.1 110 0).toNatClampNeg) x1))) rfl).trans (z_bifA ?_)
      refine (z_X_steps (s' := (26, [(0, .ref 110), (1, .int x1), (2, .int x2), (3, .int x3)], [.int x2, .int ((z_wI h2 (110 + 1) ((h2.1 110 0).toNatClampNeg) x1).1 110 0), .ref (110 + 2)], (z_wI h2 (110 + 1) ((h2.1 110 0).toNatClampNeg) x1))) 5 rfl).trans ?_
      refine (z_X_if (g := z_in ((z_wI h2 (110 + 1) ((h2.1 110 0).toNatClampNeg) x1).1 110 0) 8) (s' := (27, [(0, .ref 110), (1, .int x1), (2, .int x2), (3, .int x3)], [], (z_wI (z_wI h2 (110 + 1) ((h2.1 110 0).toNatClampNeg) x1) (110 + 2) (((z_wI h2 (110 + 1) ((h2.1 110 0).toNatClampNeg) x1).1 110 0).toNatClampNeg) x2))) rfl).trans (z_bifA ?_)
      refine (z_X_steps (s' := (36, [(0, .ref 110), (1, .int x1), (2, .int x2), (3, .int x3)], [.int x3, .int ((z_wI (z_wI h2 (110 + 1) ((h2.1 110 0).toNatClampNeg) x1) (110 + 2) (((z_wI h2 (110 + 1) ((h2.1 110 0).toNatClampNeg) x1).1 110 0).toNatClampNeg) x2).1 110 0), .ref (110 + 3)], (z_wI (z_wI h2 (110 + 1) ((h2.1 110 0).toNatClampNeg) x1) (110 + 2) (((z_wI h2 (110 + 1) ((h2.1 110 0).toNatClampNeg) x1).1 110 0).toNatClampNeg) x2))) 5 rfl).trans ?_
      refine (z_X_if (g := z_in ((z_wI (z_wI h2 (110 + 1) ((h2.1 110 0).toNatClampNeg) x1) (110 + 2) (((z_wI h2 (110 + 1) ((h2.1 110 0).toNatClampNeg) x1).1 110 0).toNatClampNeg) x2).1 110 0) 8) (s' := (37, [(0, .ref 110), (1, .int x1), (2, .int x2), (3, .int x3)], [], (z_wI (z_wI (z_wI h2 (110 + 1) ((h2.1 110 0).toNatClampNeg) x1) (110 + 2) (((z_wI h2 (110 + 1) ((h2.1 110 0).toNatClampNeg) x1).1 110 0).toNatClampNeg) x2) (110 + 3) (((z_wI (z_wI h2 (110 + 1) ((h2.1 110 0).toNatClampNeg) x1) (110 + 2) (((z_wI h2 (110 + 1) ((h2.1 110 0).toNatClampNeg) x1).1 110 0).toNatClampNeg) x2).1 110 0).toNatClampNeg) x3))) rfl).trans (z_bifA ?_)
      refine (z_X_steps (s' := (47, [(0, .ref 110), (1, .int x1), (2, .int x2), (3, .int x3)], [], (z_wI (z_wI (z_wI (z_wI h2 (110 + 1) ((h2.1 110 0).toNatClampNeg) x1) (110 + 2) (((z_wI h2 (110 + 1) ((h2.1 110 0).toNatClampNeg) x1).1 110 0).toNatClampNeg) x2) (110 + 3) (((z_wI (z_wI h2 (110 + 1) ((h2.1 110 0).toNatClampNeg) x1) (110 + 2) (((z_wI h2 (110 + 1) ((h2.1 110 0).toNatClampNeg) x1).1 110 0).toNatClampNeg) x2).1 110 0).toNatClampNeg) x3) 110 0 (((z_wI (z_wI (z_wI h2 (110 + 1) ((h2.1 110 0).toNatClampNeg) x1) (110 + 2) (((z_wI h2 (110 + 1) ((h2.1 110 0).toNatClampNeg) x1).1 110 0).toNatClampNeg) x2) (110 + 3) (((z_wI (z_wI h2 (110 + 1) ((h2.1 110 0).toNatClampNeg) x1) (110 + 2) (((z_wI h2 (110 + 1) ((h2.1 110 0).toNatClampNeg) x1).1 110 0).toNatClampNeg) x2).1 110 0).toNatClampNeg) x3).1 110 0) + 1)))) 6 rfl).trans ?_
      exact z_X_ret rfl
noncomputable def zl_Ts_remove_2 (o : Nat) (x2 : Int32) (h : z_H) : Option z_A := z_X zc_Ts_remove 1 (2, [(0, .ref o), (2, .int x2)], [], h)
set_option maxRecDepth 8000 in
set_option maxHeartbeats 2000000 in
theorem e_Ts_remove {o : Nat} (hi : o ∈ [12, 33, 89, 110]) (x1 : Int32) (h : z_H) : z_M 94 [.ref o, .int x1] h = zl_Ts_remove_2 o x1 h := by
  refine (z_M_eq (by decide)).trans ?_
  simp only [List.mem_cons, List.not_mem_nil, or_false, Prod.mk.injEq] at hi
  rcases hi with rfl | rfl | rfl | rfl
  · show z_X zc_Ts_remove 1 (0, [(0, .ref 12), (1, .int x1)], [], h) = _
    refine (z_X_steps (s' := (2, [(2, .int x1), (0, .ref 12), (1, .int x1)], [], h)) 2 rfl).trans ?_
    exact z_X_lab rfl
  · show z_X zc_Ts_remove 1 (0, [(0, .ref 33), (1, .int x1)], [], h) = _
    refine (z_X_steps (s' := (2, [(2, .int x1), (0, .ref 33), (1, .int x1)], [], h)) 2 rfl).trans ?_
    exact z_X_lab rfl
  · show z_X zc_Ts_remove 1 (0, [(0, .ref 89), (1, .int x1)], [], h) = _
    refine (z_X_steps (s' := (2, [(2, .int x1), (0, .ref 89), (1, .int x1)], [], h)) 2 rfl).trans ?_
    exact z_X_lab rfl
  · show z_X zc_Ts_remove 1 (0, [(0, .ref 110), (1, .int x1)], [], h) = _
    refine (z_X_steps (s' := (2, [(2, .int x1), (0, .ref 110), (1, .int x1)], [], h)) 2 rfl).trans ?_
    exact z_X_lab rfl
set_option maxRecDepth 8000 in
set_option maxHeartbeats 2000000 in
theorem e_Ts_remove_2 {o : Nat} (hi : o ∈ [12, 33, 89, 110]) (x2 : Int32) (h : z_H) : zl_Ts_remove_2 o x2 h = (if h.1 o 0 ≤ x2 + 1 then some (0, (z_wI h o 0 ((h.1 o 0) - 1))) else (bif z_in (x2 + 1) 8 then (bif z_in x2 8 then (bif z_in (x2 + 1) 8 then (bif z_in x2 8 then (bif z_in (x2 + 1) 8 then (bif z_in x2 8 then zl_Ts_remove_2 o (x2 + 1) (z_wI (z_wI (z_wI h (o + 1) (x2.toNatClampNeg) (h.1 (o + 1) ((x2 + 1).toNatClampNeg))) (o + 2) (x2.toNatClampNeg) ((z_wI h (o + 1) (x2.toNatClampNeg) (h.1 (o + 1) ((x2 + 1).toNatClampNeg))).1 (o + 2) ((x2 + 1).toNatClampNeg))) (o + 3) (x2.toNatClampNeg) ((z_wI (z_wI h (o + 1) (x2.toNatClampNeg) (h.1 (o + 1) ((x2 + 1).toNatClampNeg))) (o + 2) (x2.toNatClampNeg) ((z_wI h (o + 1) (x2.toNatClampNeg) (h.1 (o + 1) ((x2 + 1).toNatClampNeg))).1 (o + 2) ((x2 + 1).toNatClampNeg))).1 (o + 3) ((x2 + 1).toNatClampNeg))) else none) else none) else none) else none) else none) else none)) := by
  simp only [List.mem_cons, List.not_mem_nil, or_false, Prod.mk.injEq] at hi
  rcases hi with rfl | rfl | rfl | rfl
  · show z_X zc_Ts_remove 1 (2, [(0, .ref 12), (2, .int x2)], [], h) = _
    refine (z_X_steps (s' := (9, [(0, .ref 12), (2, .int x2)], [.int (h.1 12 0), .int (x2 + 1)], h)) 5 rfl).trans ?_
    refine (z_X_br (c := h.1 12 0 ≤ x2 + 1) (s1 := (60, [(0, .ref 12), (2, .int x2)], [], h)) (s2 := (12, [(0, .ref 12), (2, .int x2)], [], h)) rfl).trans (z_ite ?_ ?_)
    · refine (z_X_steps (s' := (70, [(0, .ref 12), (2, .int x2)], [], (z_wI h 12 0 ((h.1 12 0) - 1)))) 6 rfl).trans ?_
      exact z_X_ret rfl
    · refine (z_X_steps (s' := (24, [(0, .ref 12), (2, .int x2)], [.int (x2 + 1), .ref (12 + 1), .int x2, .ref (12 + 1)], h)) 8 rfl).trans ?_
      refine (z_X_if (g := z_in (x2 + 1) 8) (s' := (25, [(0, .ref 12), (2, .int x2)], [.int (h.1 (12 + 1) ((x2 + 1).toNatClampNeg)), .int x2, .ref (12 + 1)], h)) rfl).trans (z_bifA ?_)
      refine (z_X_if (g := z_in x2 8) (s' := (26, [(0, .ref 12), (2, .int x2)], [], (z_wI h (12 + 1) (x2.toNatClampNeg) (h.1 (12 + 1) ((x2 + 1).toNatClampNeg))))) rfl).trans (z_bifA ?_)
      refine (z_X_steps (s' := (38, [(0, .ref 12), (2, .int x2)], [.int (x2 + 1), .ref (12 + 2), .int x2, .ref (12 + 2)], (z_wI h (12 + 1) (x2.toNatClampNeg) (h.1 (12 + 1) ((x2 + 1).toNatClampNeg))))) 8 rfl).trans ?_
      refine (z_X_if (g := z_in (x2 + 1) 8) (s' := (39, [(0, .ref 12), (2, .int x2)], [.int ((z_wI h (12 + 1) (x2.toNatClampNeg) (h.1 (12 + 1) ((x2 + 1).toNatClampNeg))).1 (12 + 2) ((x2 + 1).toNatClampNeg)), .int x2, .ref (12 + 2)], (z_wI h (12 + 1) (x2.toNatClampNeg) (h.1 (12 + 1) ((x2 + 1).toNatClampNeg))))) rfl).trans (z_bifA ?_)
      refine (z_X_if (g := z_in x2 8) (s' := (40, [(0, .ref 12), (2, .int x2)], [], (z_wI (z_wI h (12 + 1) (x2.toNatClampNeg) (h.1 (12 + 1) ((x2 + 1).toNatClampNeg))) (12 + 2) (x2.toNatClampNeg) ((z_wI h (12 + 1) (x2.toNatClampNeg) (h.1 (12 + 1) ((x2 + 1).toNatClampNeg))).1 (12 + 2) ((x2 + 1).toNatClampNeg))))) rfl).trans (z_bifA ?_)
      refine (z_X_steps (s' := (52, [(0, .ref 12), (2, .int x2)], [.int (x2 + 1), .ref (12 + 3), .int x2, .ref (12 + 3)], (z_wI (z_wI h (12 + 1) (x2.toNatClampNeg) (h.1 (12 + 1) ((x2 + 1).toNatClampNeg))) (12 + 2) (x2.toNatClampNeg) ((z_wI h (12 + 1) (x2.toNatClampNeg) (h.1 (12 + 1) ((x2 + 1).toNatClampNeg))).1 (12 + 2) ((x2 + 1).toNatClampNeg))))) 8 rfl).trans ?_
      refine (z_X_if (g := z_in (x2 + 1) 8) (s' := (53, [(0, .ref 12), (2, .int x2)], [.int ((z_wI (z_wI h (12 + 1) (x2.toNatClampNeg) (h.1 (12 + 1) ((x2 + 1).toNatClampNeg))) (12 + 2) (x2.toNatClampNeg) ((z_wI h (12 + 1) (x2.toNatClampNeg) (h.1 (12 + 1) ((x2 + 1).toNatClampNeg))).1 (12 + 2) ((x2 + 1).toNatClampNeg))).1 (12 + 3) ((x2 + 1).toNatClampNeg)), .int x2, .ref (12 + 3)], (z_wI (z_wI h (12 + 1) (x2.toNatClampNeg) (h.1 (12 + 1) ((x2 + 1).toNatClampNeg))) (12 + 2) (x2.toNatClampNeg) ((z_wI h (12 + 1) (x2.toNatClampNeg) (h.1 (12 + 1) ((x2 + 1).toNatClampNeg))).1 (12 + 2) ((x2 + 1).toNatClampNeg))))) rfl).trans (z_bifA ?_)
      refine (z_X_if (g := z_in x2 8) (s' := (54, [(0, .ref 12), (2, .int x2)], [], (z_wI (z_wI (z_wI h (12 + 1) (x2.toNatClampNeg) (h.1 (12 + 1) ((x2 + 1).toNatClampNeg))) (12 + 2) (x2.toNatClampNeg) ((z_wI h (12 + 1) (x2.toNatClampNeg) (h.1 (12 + 1) ((x2 + 1).toNatClampNeg))).1 (12 + 2) ((x2 + 1).toNatClampNeg))) (12 + 3) (x2.toNatClampNeg) ((z_wI (z_wI h (12 + 1) (x2.toNatClampNeg) (h.1 (12 + 1) ((x2 + 1).toNatClampNeg))) (12 + 2) (x2.toNatClampNeg) ((z_wI h (12 + 1) (x2.toNatClampNeg) (h.1 (12 + 1) ((x2 + 1).toNatClampNeg))).1 (12 + 2) ((x2 + 1).toNatClampNeg))).1 (12 + 3) ((x2 + 1).toNatClampNeg))))) rfl).trans (z_bifA ?_)
      refine (z_X_steps (s' := (2, [(2, .int (x2 + 1)), (0, .ref 12)], [], (z_wI (z_wI (z_wI h (12 + 1) (x2.toNatClampNeg) (h.1 (12 + 1) ((x2 + 1).toNatClampNeg))) (12 + 2) (x2.toNatClampNeg) ((z_wI h (12 + 1) (x2.toNatClampNeg) (h.1 (12 + 1) ((x2 + 1).toNatClampNeg))).1 (12 + 2) ((x2 + 1).toNatClampNeg))) (12 + 3) (x2.toNatClampNeg) ((z_wI (z_wI h (12 + 1) (x2.toNatClampNeg) (h.1 (12 + 1) ((x2 + 1).toNatClampNeg))) (12 + 2) (x2.toNatClampNeg) ((z_wI h (12 + 1) (x2.toNatClampNeg) (h.1 (12 + 1) ((x2 + 1).toNatClampNeg))).1 (12 + 2) ((x2 + 1).toNatClampNeg))).1 (12 + 3) ((x2 + 1).toNatClampNeg))))) 2 rfl).trans ?_
      exact z_X_lab rfl
  · show z_X zc_Ts_remove 1 (2, [(0, .ref 33), (2, .int x2)], [], h) = _
    refine (z_X_steps (s' := (9, [(0, .ref 33), (2, .int x2)], [.int (h.1 33 0), .int (x2 + 1)], h)) 5 rfl).trans ?_
    refine (z_X_br (c := h.1 33 0 ≤ x2 + 1) (s1 := (60, [(0, .ref 33), (2, .int x2)], [], h)) (s2 := (12, [(0, .ref 33), (2, .int x2)], [], h)) rfl).trans (z_ite ?_ ?_)
    · refine (z_X_steps (s' := (70, [(0, .ref 33), (2, .int x2)], [], (z_wI h 33 0 ((h.1 33 0) - 1)))) 6 rfl).trans ?_
      exact z_X_ret rfl
    · refine (z_X_steps (s' := (24, [(0, .ref 33), (2, .int x2)], [.int (x2 + 1), .ref (33 + 1), .int x2, .ref (33 + 1)], h)) 8 rfl).trans ?_
      refine (z_X_if (g := z_in (x2 + 1) 8) (s' := (25, [(0, .ref 33), (2, .int x2)], [.int (h.1 (33 + 1) ((x2 + 1).toNatClampNeg)), .int x2, .ref (33 + 1)], h)) rfl).trans (z_bifA ?_)
      refine (z_X_if (g := z_in x2 8) (s' := (26, [(0, .ref 33), (2, .int x2)], [], (z_wI h (33 + 1) (x2.toNatClampNeg) (h.1 (33 + 1) ((x2 + 1).toNatClampNeg))))) rfl).trans (z_bifA ?_)
      refine (z_X_steps (s' := (38, [(0, .ref 33), (2, .int x2)], [.int (x2 + 1), .ref (33 + 2), .int x2, .ref (33 + 2)], (z_wI h (33 + 1) (x2.toNatClampNeg) (h.1 (33 + 1) ((x2 + 1).toNatClampNeg))))) 8 rfl).trans ?_
      refine (z_X_if (g := z_in (x2 + 1) 8) (s' := (39, [(0, .ref 33), (2, .int x2)], [.int ((z_wI h (33 + 1) (x2.toNatClampNeg) (h.1 (33 + 1) ((x2 + 1).toNatClampNeg))).1 (33 + 2) ((x2 + 1).toNatClampNeg)), .int x2, .ref (33 + 2)], (z_wI h (33 + 1) (x2.toNatClampNeg) (h.1 (33 + 1) ((x2 + 1).toNatClampNeg))))) rfl).trans (z_bifA ?_)
      refine (z_X_if (g := z_in x2 8) (s' := (40, [(0, .ref 33), (2, .int x2)], [], (z_wI (z_wI h (33 + 1) (x2.toNatClampNeg) (h.1 (33 + 1) ((x2 + 1).toNatClampNeg))) (33 + 2) (x2.toNatClampNeg) ((z_wI h (33 + 1) (x2.toNatClampNeg) (h.1 (33 + 1) ((x2 + 1).toNatClampNeg))).1 (33 + 2) ((x2 + 1).toNatClampNeg))))) rfl).trans (z_bifA ?_)
      refine (z_X_steps (s' := (52, [(0, .ref 33), (2, .int x2)], [.int (x2 + 1), .ref (33 + 3), .int x2, .ref (33 + 3)], (z_wI (z_wI h (33 + 1) (x2.toNatClampNeg) (h.1 (33 + 1) ((x2 + 1).toNatClampNeg))) (33 + 2) (x2.toNatClampNeg) ((z_wI h (33 + 1) (x2.toNatClampNeg) (h.1 (33 + 1) ((x2 + 1).toNatClampNeg))).1 (33 + 2) ((x2 + 1).toNatClampNeg))))) 8 rfl).trans ?_
      refine (z_X_if (g := z_in (x2 + 1) 8) (s' := (53, [(0, .ref 33), (2, .int x2)], [.int ((z_wI (z_wI h (33 + 1) (x2.toNatClampNeg) (h.1 (33 + 1) ((x2 + 1).toNatClampNeg))) (33 + 2) (x2.toNatClampNeg) ((z_wI h (33 + 1) (x2.toNatClampNeg) (h.1 (33 + 1) ((x2 + 1).toNatClampNeg))).1 (33 + 2) ((x2 + 1).toNatClampNeg))).1 (33 + 3) ((x2 + 1).toNatClampNeg)), .int x2, .ref (33 + 3)], (z_wI (z_wI h (33 + 1) (x2.toNatClampNeg) (h.1 (33 + 1) ((x2 + 1).toNatClampNeg))) (33 + 2) (x2.toNatClampNeg) ((z_wI h (33 + 1) (x2.toNatClampNeg) (h.1 (33 + 1) ((x2 + 1).toNatClampNeg))).1 (33 + 2) ((x2 + 1).toNatClampNeg))))) rfl).trans (z_bifA ?_)
      refine (z_X_if (g := z_in x2 8) (s' := (54, [(0, .ref 33), (2, .int x2)], [], (z_wI (z_wI (z_wI h (33 + 1) (x2.toNatClampNeg) (h.1 (33 + 1) ((x2 + 1).toNatClampNeg))) (33 + 2) (x2.toNatClampNeg) ((z_wI h (33 + 1) (x2.toNatClampNeg) (h.1 (33 + 1) ((x2 + 1).toNatClampNeg))).1 (33 + 2) ((x2 + 1).toNatClampNeg))) (33 + 3) (x2.toNatClampNeg) ((z_wI (z_wI h (33 + 1) (x2.toNatClampNeg) (h.1 (33 + 1) ((x2 + 1).toNatClampNeg))) (33 + 2) (x2.toNatClampNeg) ((z_wI h (33 + 1) (x2.toNatClampNeg) (h.1 (33 + 1) ((x2 + 1).toNatClampNeg))).1 (33 + 2) ((x2 + 1).toNatClampNeg))).1 (33 + 3) ((x2 + 1).toNatClampNeg))))) rfl).trans (z_bifA ?_)
      refine (z_X_steps (s' := (2, [(2, .int (x2 + 1)), (0, .ref 33)], [], (z_wI (z_wI (z_wI h (33 + 1) (x2.toNatClampNeg) (h.1 (33 + 1) ((x2 + 1).toNatClampNeg))) (33 + 2) (x2.toNatClampNeg) ((z_wI h (33 + 1) (x2.toNatClampNeg) (h.1 (33 + 1) ((x2 + 1).toNatClampNeg))).1 (33 + 2) ((x2 + 1).toNatClampNeg))) (33 + 3) (x2.toNatClampNeg) ((z_wI (z_wI h (33 + 1) (x2.toNatClampNeg) (h.1 (33 + 1) ((x2 + 1).toNatClampNeg))) (33 + 2) (x2.toNatClampNeg) ((z_wI h (33 + 1) (x2.toNatClampNeg) (h.1 (33 + 1) ((x2 + 1).toNatClampNeg))).1 (33 + 2) ((x2 + 1).toNatClampNeg))).1 (33 + 3) ((x2 + 1).toNatClampNeg))))) 2 rfl).trans ?_
      exact z_X_lab rfl
  · show z_X zc_Ts_remove 1 (2, [(0, .ref 89), (2, .int x2)], [], h) = _
    refine (z_X_steps (s' := (9, [(0, .ref 89), (2, .int x2)], [.int (h.1 89 0), .int (x2 + 1)], h)) 5 rfl).trans ?_
    refine (z_X_br (c := h.1 89 0 ≤ x2 + 1) (s1 := (60, [(0, .ref 89), (2, .int x2)], [], h)) (s2 := (12, [(0, .ref 89), (2, .int x2)], [], h)) rfl).trans (z_ite ?_ ?_)
    · refine (z_X_steps (s' := (70, [(0, .ref 89), (2, .int x2)], [], (z_wI h 89 0 ((h.1 89 0) - 1)))) 6 rfl).trans ?_
      exact z_X_ret rfl
    · refine (z_X_steps (s' := (24, [(0, .ref 89), (2, .int x2)], [.int (x2 + 1), .ref (89 + 1), .int x2, .ref (89 + 1)], h)) 8 rfl).trans ?_
      refine (z_X_if (g := z_in (x2 + 1) 8) (s' := (25, [(0, .ref 89), (2, .int x2)], [.int (h.1 (89 + 1) ((x2 + 1).toNatClampNeg)), .int x2, .ref (89 + 1)], h)) rfl).trans (z_bifA ?_)
      refine (z_X_if (g := z_in x2 8) (s' := (26, [(0, .ref 89), (2, .int x2)], [], (z_wI h (89 + 1) (x2.toNatClampNeg) (h.1 (89 + 1) ((x2 + 1).toNatClampNeg))))) rfl).trans (z_bifA ?_)
      refine (z_X_steps (s' := (38, [(0, .ref 89), (2, .int x2)], [.int (x2 + 1), .ref (89 + 2), .int x2, .ref (89 + 2)], (z_wI h (89 + 1) (x2.toNatClampNeg) (h.1 (89 + 1) ((x2 + 1).toNatClampNeg))))) 8 rfl).trans ?_
      refine (z_X_if (g := z_in (x2 + 1) 8) (s' := (39, [(0, .ref 89), (2, .int x2)], [.int ((z_wI h (89 + 1) (x2.toNatClampNeg) (h.1 (89 + 1) ((x2 + 1).toNatClampNeg))).1 (89 + 2) ((x2 + 1).toNatClampNeg)), .int x2, .ref (89 + 2)], (z_wI h (89 + 1) (x2.toNatClampNeg) (h.1 (89 + 1) ((x2 + 1).toNatClampNeg))))) rfl).trans (z_bifA ?_)
      refine (z_X_if (g := z_in x2 8) (s' := (40, [(0, .ref 89), (2, .int x2)], [], (z_wI (z_wI h (89 + 1) (x2.toNatClampNeg) (h.1 (89 + 1) ((x2 + 1).toNatClampNeg))) (89 + 2) (x2.toNatClampNeg) ((z_wI h (89 + 1) (x2.toNatClampNeg) (h.1 (89 + 1) ((x2 + 1).toNatClampNeg))).1 (89 + 2) ((x2 + 1).toNatClampNeg))))) rfl).trans (z_bifA ?_)
      refine (z_X_steps (s' := (52, [(0, .ref 89), (2, .int x2)], [.int (x2 + 1), .ref (89 + 3), .int x2, .ref (89 + 3)], (z_wI (z_wI h (89 + 1) (x2.toNatClampNeg) (h.1 (89 + 1) ((x2 + 1).toNatClampNeg))) (89 + 2) (x2.toNatClampNeg) ((z_wI h (89 + 1) (x2.toNatClampNeg) (h.1 (89 + 1) ((x2 + 1).toNatClampNeg))).1 (89 + 2) ((x2 + 1).toNatClampNeg))))) 8 rfl).trans ?_
      refine (z_X_if (g := z_in (x2 + 1) 8) (s' := (53, [(0, .ref 89), (2, .int x2)], [.int ((z_wI (z_wI h (89 + 1) (x2.toNatClampNeg) (h.1 (89 + 1) ((x2 + 1).toNatClampNeg))) (89 + 2) (x2.toNatClampNeg) ((z_wI h (89 + 1) (x2.toNatClampNeg) (h.1 (89 + 1) ((x2 + 1).toNatClampNeg))).1 (89 + 2) ((x2 + 1).toNatClampNeg))).1 (89 + 3) ((x2 + 1).toNatClampNeg)), .int x2, .ref (89 + 3)], (z_wI (z_wI h (89 + 1) (x2.toNatClampNeg) (h.1 (89 + 1) ((x2 + 1).toNatClampNeg))) (89 + 2) (x2.toNatClampNeg) ((z_wI h (89 + 1) (x2.toNatClampNeg) (h.1 (89 + 1) ((x2 + 1).toNatClampNeg))).1 (89 + 2) ((x2 + 1).toNatClampNeg))))) rfl).trans (z_bifA ?_)
      refine (z_X_if (g := z_in x2 8) (s' := (54, [(0, .ref 89), (2, .int x2)], [], (z_wI (z_wI (z_wI h (89 + 1) (x2.toNatClampNeg) (h.1 (89 + 1) ((x2 + 1).toNatClampNeg))) (89 + 2) (x2.toNatClampNeg) ((z_wI h (89 + 1) (x2.toNatClampNeg) (h.1 (89 + 1) ((x2 + 1).toNatClampNeg))).1 (89 + 2) ((x2 + 1).toNatClampNeg))) (89 + 3) (x2.toNatClampNeg) ((z_wI (z_wI h (89 + 1) (x2.toNatClampNeg) (h.1 (89 + 1) ((x2 + 1).toNatClampNeg))) (89 + 2) (x2.toNatClampNeg) ((z_wI h (89 + 1) (x2.toNatClampNeg) (h.1 (89 + 1) ((x2 + 1).toNatClampNeg))).1 (89 + 2) ((x2 + 1).toNatClampNeg))).1 (89 + 3) ((x2 + 1).toNatClampNeg))))) rfl).trans (z_bifA ?_)
      refine (z_X_steps (s' := (2, [(2, .int (x2 + 1)), (0, .ref 89)], [], (z_wI (z_wI (z_wI h (89 + 1) (x2.toNatClampNeg) (h.1 (89 + 1) ((x2 + 1).toNatClampNeg))) (89 + 2) (x2.toNatClampNeg) ((z_wI h (89 + 1) (x2.toNatClampNeg) (h.1 (89 + 1) ((x2 + 1).toNatClampNeg))).1 (89 + 2) ((x2 + 1).toNatClampNeg))) (89 + 3) (x2.toNatClampNeg) ((z_wI (z_wI h (89 + 1) (x2.toNatClampNeg) (h.1 (89 + 1) ((x2 + 1).toNatClampNeg))) (89 + 2) (x2.toNatClampNeg) ((z_wI h (89 + 1) (x2.toNatClampNeg) (h.1 (89 + 1) ((x2 + 1).toNatClampNeg))).1 (89 + 2) ((x2 + 1).toNatClampNeg))).1 (89 + 3) ((x2 + 1).toNatClampNeg))))) 2 rfl).trans ?_
      exact z_X_lab rfl
  · show z_X zc_Ts_remove 1 (2, [(0, .ref 110), (2, .int x2)], [], h) = _
    refine (z_X_steps (s' := (9, [(0, .ref 110), (2, .int x2)], [.int (h.1 110 0), .int (x2 + 1)], h)) 5 rfl).trans ?_
    refine (z_X_br (c := h.1 110 0 ≤ x2 + 1) (s1 := (60, [(0, .ref 110), (2, .int x2)], [], h)) (s2 := (12, [(0, .ref 110), (2, .int x2)], [], h)) rfl).trans (z_ite ?_ ?_)
    · refine (z_X_steps (s' := (70, [(0, .ref 110), (2, .int x2)], [], (z_wI h 110 0 ((h.1 110 0) - 1)))) 6 rfl).trans ?_
      exact z_X_ret rfl
    · refine (z_X_steps (s' := (24, [(0, .ref 110), (2, .int x2)], [.int (x2 + 1), .ref (110 + 1), .int x2, .ref (110 + 1)], h)) 8 rfl).trans ?_
      refine (z_X_if (g := z_in (x2 + 1) 8) (s' := (25, [(0, .ref 110), (2, .int x2)], [.int (h.1 (110 + 1) ((x2 + 1).toNatClampNeg)), .int x2, .ref (110 + 1)], h)) rfl).trans (z_bifA ?_)
      refine (z_X_if (g := z_in x2 8) (s' := (26, [(0, .ref 110), (2, .int x2)], [], (z_wI h (110 + 1) (x2.toNatClampNeg) (h.1 (110 + 1) ((x2 + 1).toNatClampNeg))))) rfl).trans (z_bifA ?_)
      refine (z_X_steps (s' := (38, [(0, .ref 110), (2, .int x2)], [.int (x2 + 1), .ref (110 + 2), .int x2, .ref (110 + 2)], (z_wI h (110 + 1) (x2.toNatClampNeg) (h.1 (110 + 1) ((x2 + 1).toNatClampNeg))))) 8 rfl).trans ?_
      refine (z_X_if (g := z_in (x2 + 1) 8) (s' := (39, [(0, .ref 110), (2, .int x2)], [.int ((z_wI h (110 + 1) (x2.toNatClampNeg) (h.1 (110 + 1) ((x2 + 1).toNatClampNeg))).1 (110 + 2) ((x2 + 1).toNatClampNeg)), .int x2, .ref (110 + 2)], (z_wI h (110 + 1) (x2.toNatClampNeg) (h.1 (110 + 1) ((x2 + 1).toNatClampNeg))))) rfl).trans (z_bifA ?_)
      refine (z_X_if (g := z_in x2 8) (s' := (40, [(0, .ref 110), (2, .int x2)], [], (z_wI (z_wI h (110 + 1) (x2.toNatClampNeg) (h.1 (110 + 1) ((x2 + 1).toNatClampNeg))) (110 + 2) (x2.toNatClampNeg) ((z_wI h (110 + 1) (x2.toNatClampNeg) (h.1 (110 + 1) ((x2 + 1).toNatClampNeg))).1 (110 + 2) ((x2 + 1).toNatClampNeg))))) rfl).trans (z_bifA ?_)
      refine (z_X_steps (s' := (52, [(0, .ref 110), (2, .int x2)], [.int (x2 + 1), .ref (110 + 3), .int x2, .ref (110 + 3)], (z_wI (z_wI h (110 + 1) (x2.toNatClampNeg) (h.1 (110 + 1) ((x2 + 1).toNatClampNeg))) (110 + 2) (x2.toNatClampNeg) ((z_wI h (110 + 1) (x2.toNatClampNeg) (h.1 (110 + 1) ((x2 + 1).toNatClampNeg))).1 (110 + 2) ((x2 + 1).toNatClampNeg))))) 8 rfl).trans ?_
      refine (z_X_if (g := z_in (x2 + 1) 8) (s' := (53, [(0, .ref 110), (2, .int x2)], [.int ((z_wI (z_wI h (110 + 1) (x2.toNatClampNeg) (h.1 (110 + 1) ((x2 + 1).toNatClampNeg))) (110 + 2) (x2.toNatClampNeg) ((z_wI h (110 + 1) (x2.toNatClampNeg) (h.1 (110 + 1) ((x2 + 1).toNatClampNeg))).1 (110 + 2) ((x2 + 1).toNatClampNeg))).1 (110 + 3) ((x2 + 1).toNatClampNeg)), .int x2, .ref (110 + 3)], (z_wI (z_wI h (110 + 1) (x2.toNatClampNeg) (h.1 (110 + 1) ((x2 + 1).toNatClampNeg))) (110 + 2) (x2.toNatClampNeg) ((z_wI h (110 + 1) (x2.toNatClampNeg) (h.1 (110 + 1) ((x2 + 1).toNatClampNeg))).1 (110 + 2) ((x2 + 1).toNatClampNeg))))) rfl).trans (z_bifA ?_)
      refine (z_X_if (g := z_in x2 8) (s' := (54, [(0, .ref 110), (2, .int x2)], [], (z_wI (z_wI (z_wI h (110 + 1) (x2.toNatClampNeg) (h.1 (110 + 1) ((x2 + 1).toNatClampNeg))) (110 + 2) (x2.toNatClampNeg) ((z_wI h (110 + 1) (x2.toNatClampNeg) (h.1 (110 + 1) ((x2 + 1).toNatClampNeg))).1 (110 + 2) ((x2 + 1).toNatClampNeg))) (110 + 3) (x2.toNatClampNeg) ((z_wI (z_wI h (110 + 1) (x2.toNatClampNeg) (h.1 (110 + 1) ((x2 + 1).toNatClampNeg))) (110 + 2) (x2.toNatClampNeg) ((z_wI h (110 + 1) (x2.toNatClampNeg) (h.1 (110 + 1) ((x2 + 1).toNatClampNeg))).1 (110 + 2) ((x2 + 1).toNatClampNeg))).1 (110 + 3) ((x2 + 1).toNatClampNeg))))) rfl).trans (z_bifA ?_)
      refine (z_X_steps (s' := (2, [(2, .int (x2 + 1)), (0, .ref 110)], [], (z_wI (z_wI (z_wI h (110 + 1) (x2.toNatClampNeg) (h.1 (110 + 1) ((x2 + 1).toNatClampNeg))) (110 + 2) (x2.toNatClampNeg) ((z_wI h (110 + 1) (x2.toNatClampNeg) (h.1 (110 + 1) ((x2 + 1).toNatClampNeg))).1 (110 + 2) ((x2 + 1).toNatClampNeg))) (110 + 3) (x2.toNatClampNeg) ((z_wI (z_wI h (110 + 1) (x2.toNatClampNeg) (h.1 (110 + 1) ((x2 + 1).toNatClampNeg))) (110 + 2) (x2.toNatClampNeg) ((z_wI h (110 + 1) (x2.toNatClampNeg) (h.1 (110 + 1) ((x2 + 1).toNatClampNeg))).1 (110 + 2) ((x2 + 1).toNatClampNeg))).1 (110 + 3) ((x2 + 1).toNatClampNeg))))) 2 rfl).trans ?_
      exact z_X_lab rfl
set_option maxRecDepth 8000 in
set_option maxHeartbeats 2000000 in
theorem e_Es_clear {o : Nat} (hi : o ∈ [38, 41, 50, 52, 54, 56, 58, 60, 62, 64, 66, 68]) (h : z_H) : z_M 101 [.ref o] h = z_bd (z_M 903 [.ref (o + 1), .long ((0 : Int32).toInt64)] h) (fun r1 h2 => some (0, h2)) := by
  refine (z_M_eq (by decide)).trans ?_
  simp only [List.mem_cons, List.not_mem_nil, or_false, Prod.mk.injEq] at hi
  rcases hi with rfl | rfl | rfl | rfl | rfl | rfl | rfl | rfl | rfl | rfl | rfl | rfl
  · show z_X zc_Es_clear 3 (0, [(0, .ref 38)], [], h) = _
    refine (z_X_steps (s' := (5, [(0, .ref 38)], [.long ((0 : Int32).toInt64), .ref (38 + 1)], h)) 3 rfl).trans ?_
    refine (z_X_call (id := 903) (a := [.ref (38 + 1), .long ((0 : Int32).toInt64)]) (c := 0) (s' := (8, [(0, .ref 38)], [], h)) rfl ⟨Nat.le_of_ble_eq_true rfl, Nat.le_of_ble_eq_true rfl⟩).trans ?_
    refine z_bdc fun r1 h2 => ?_
    exact z_X_ret rfl
  · show z_X zc_Es_clear 3 (0, [(0, .ref 41)], [], h) = _
    refine (z_X_steps (s' := (5, [(0, .ref 41)], [.long ((0 : Int32).toInt64), .ref (41 + 1)], h)) 3 rfl).trans ?_
    refine (z_X_call (id := 903) (a := [.ref (41 + 1), .long ((0 : Int32).toInt64)]) (c := 0) (s' := (8, [(0, .ref 41)], [], h)) rfl ⟨Nat.le_of_ble_eq_true rfl, Nat.le_of_ble_eq_true rfl⟩).trans ?_
    refine z_bdc fun r1 h2 => ?_
    exact z_X_ret rfl
  · show z_X zc_Es_clear 3 (0, [(0, .ref 50)], [], h) = _
    refine (z_X_steps (s' := (5, [(0, .ref 50)], [.long ((0 : Int32).toInt64), .ref (50 + 1)], h)) 3 rfl).trans ?_
    refine (z_X_call (id := 903) (a := [.ref (50 + 1), .long ((0 : Int32).toInt64)]) (c := 0) (s' := (8, [(0, .ref 50)], [], h)) rfl ⟨Nat.le_of_ble_eq_true rfl, Nat.le_of_ble_eq_true rfl⟩).trans ?_
    refine z_bdc fun r1 h2 => ?_
    exact z_X_ret rfl
  · show z_X zc_Es_clear 3 (0, [(0, .ref 52)], [], h) = _
    refine (z_X_steps (s' := (5, [(0, .ref 52)], [.long ((0 : Int32).toInt64), .ref (52 + 1)], h)) 3 rfl).trans ?_
    refine (z_X_call (id := 903) (a := [.ref (52 + 1), .long ((0 : Int32).toInt64)]) (c := 0) (s' := (8, [(0, .ref 52)], [], h)) rfl ⟨Nat.le_of_ble_eq_true rfl, Nat.le_of_ble_eq_true rfl⟩).trans ?_
    refine z_bdc fun r1 h2 => ?_
    exact z_X_ret rfl
  · show z_X zc_Es_clear 3 (0, [(0, .ref 54)], [], h) = _
    refine (z_X_steps (s' := (5, [(0, .ref 54)], [.long ((0 : Int32).toInt64), .ref (54 + 1)], h)) 3 rfl).trans ?_
    refine (z_X_call (id := 903) (a := [.ref (54 + 1), .long ((0 : Int32).toInt64)]) (c := 0) (s' := (8, [(0, .ref 54)], [], h)) rfl ⟨Nat.le_of_ble_eq_true rfl, Nat.le_of_ble_eq_true rfl⟩).trans ?_
    refine z_bdc fun r1 h2 => ?_
    exact z_X_ret rfl
  · show z_X zc_Es_clear 3 (0, [(0, .ref 56)], [], h) = _
    refine (z_X_steps (s' := (5, [(0, .ref 56)], [.long ((0 : Int32).toInt64), .ref (56 + 1)], h)) 3 rfl).trans ?_
    refine (z_X_call (id := 903) (a := [.ref (56 + 1), .long ((0 : Int32).toInt64)]) (c := 0) (s' := (8, [(0, .ref 56)], [], h)) rfl ⟨Nat.le_of_ble_eq_true rfl, Nat.le_of_ble_eq_true rfl⟩).trans ?_
    refine z_bdc fun r1 h2 => ?_
    exact z_X_ret rfl
  · show z_X zc_Es_clear 3 (0, [(0, .ref 58)], [], h) = _
    refine (z_X_steps (s' := (5, [(0, .ref 58)], [.long ((0 : Int32).toInt64), .ref (58 + 1)], h)) 3 rfl).trans ?_
    refine (z_X_call (id := 903) (a := [.ref (58 + 1), .long ((0 : Int32).toInt64)]) (c := 0) (s' := (8, [(0, .ref 58)], [], h)) rfl ⟨Nat.le_of_ble_eq_true rfl, Nat.le_of_ble_eq_true rfl⟩).trans ?_
    refine z_bdc fun r1 h2 => ?_
    exact z_X_ret rfl
  · show z_X zc_Es_clear 3 (0, [(0, .ref 60)], [], h) = _
    refine (z_X_steps (s' := (5, [(0, .ref 60)], [.long ((0 : Int32).toInt64), .ref (60 + 1)], h)) 3 rfl).trans ?_
    refine (z_X_call (id := 903) (a := [.ref (60 + 1), .long ((0 : Int32).toInt64)]) (c := 0) (s' := (8, [(0, .ref 60)], [], h)) rfl ⟨Nat.le_of_ble_eq_true rfl, Nat.le_of_ble_eq_true rfl⟩).trans ?_
    refine z_bdc fun r1 h2 => ?_
    exact z_X_ret rfl
  · show z_X zc_Es_clear 3 (0, [(0, .ref 62)], [], h) = _
    refine (z_X_steps (s' := (5, [(0, .ref 62)], [.long ((0 : Int32).toInt64), .ref (62 + 1)], h)) 3 rfl).trans ?_
    refine (z_X_call (id := 903) (a := [.ref (62 + 1), .long ((0 : Int32).toInt64)]) (c := 0) (s' := (8, [(0, .ref 62)], [], h)) rfl ⟨Nat.le_of_ble_eq_true rfl, Nat.le_of_ble_eq_true rfl⟩).trans ?_
    refine z_bdc fun r1 h2 => ?_
    exact z_X_ret rfl
  · show z_X zc_Es_clear 3 (0, [(0, .ref 64)], [], h) = _
    refine (z_X_steps (s' := (5, [(0, .ref 64)], [.long ((0 : Int32).toInt64), .ref (64 + 1)], h)) 3 rfl).trans ?_
    refine (z_X_call (id := 903) (a := [.ref (64 + 1), .long ((0 : Int32).toInt64)]) (c := 0) (s' := (8, [(0, .ref 64)], [], h)) rfl ⟨Nat.le_of_ble_eq_true rfl, Nat.le_of_ble_eq_true rfl⟩).trans ?_
    refine z_bdc fun r1 h2 => ?_
    exact z_X_ret rfl
  · show z_X zc_Es_clear 3 (0, [(0, .ref 66)], [], h) = _
    refine (z_X_steps (s' := (5, [(0, .ref 66)], [.long ((0 : Int32).toInt64), .ref (66 + 1)], h)) 3 rfl).trans ?_
    refine (z_X_call (id := 903) (a := [.ref (66 + 1), .long ((0 : Int32).toInt64)]) (c := 0) (s' := (8, [(0, .ref 66)], [], h)) rfl ⟨Nat.le_of_ble_eq_true rfl, Nat.le_of_ble_eq_true rfl⟩).trans ?_
    refine z_bdc fun r1 h2 => ?_
    exact z_X_ret rfl
  · show z_X zc_Es_clear 3 (0, [(0, .ref 68)], [], h) = _
    refine (z_X_steps (s' := (5, [(0, .ref 68)], [.long ((0 : Int32).toInt64), .ref (68 + 1)], h)) 3 rfl).trans ?_
    refine (z_X_call (id := 903) (a := [.ref (68 + 1), .long ((0 : Int32).toInt64)]) (c := 0) (s' := (8, [(0, .ref 68)], [], h)) rfl ⟨Nat.le_of_ble_eq_true rfl, Nat.le_of_ble_eq_true rfl⟩).trans ?_
    refine z_bdc fun r1 h2 => ?_
    exact z_X_ret rfl
set_option maxRecDepth 8000 in
set_option maxHeartbeats 2000000 in
theorem e_Es_becomeAs {o : Nat} {p : Nat} (hi : (o, p) ∈ [(50, 41), (54, 38), (56, 38), (58, 38), (60, 38), (62, 38), (64, 38), (66, 38), (68, 38)]) (h : z_H) : z_M 102 [.ref o, .ref p] h = some (0, (z_cpL h (p + 1) 0 (o + 1) 0 4)) := by
  refine (z_M_eq (by decide)).trans ?_
  simp only [List.mem_cons, List.not_mem_nil, or_false, Prod.mk.injEq] at hi
  rcases hi with ⟨rfl, rfl⟩ | ⟨rfl, rfl⟩ | ⟨rfl, rfl⟩ | ⟨rfl, rfl⟩ | ⟨rfl, rfl⟩ | ⟨rfl, rfl⟩ | ⟨rfl, rfl⟩ | ⟨rfl, rfl⟩ | ⟨rfl, rfl⟩
  · show z_X zc_Es_becomeAs 2 (0, [(0, .ref 50), (1, .ref 41)], [], h) = _
    refine (z_X_steps (s' := (14, [(0, .ref 50), (1, .ref 41)], [], (z_cpL h (41 + 1) 0 (50 + 1) 0 4))) 8 rfl).trans ?_
    exact z_X_ret rfl
  · show z_X zc_Es_becomeAs 2 (0, [(0, .ref 54), (1, .ref 38)], [], h) = _
    refine (z_X_steps (s' := (14, [(0, .ref 54), (1, .ref 38)], [], (z_cpL h (38 + 1) 0 (54 + 1) 0 4))) 8 rfl).trans ?_
    exact z_X_ret rfl
  · show z_X zc_Es_becomeAs 2 (0, [(0, .ref 56), (1, .ref 38)], [], h) = _
    refine (z_X_steps (s' := (14, [(0, .ref 56), (1, .ref 38)], [], (z_cpL h (38 + 1) 0 (56 + 1) 0 4))) 8 rfl).trans ?_
    exact z_X_ret rfl
  · show z_X zc_Es_becomeAs 2 (0, [(0, .ref 58), (1, .ref 38)], [], h) = _
    refine (z_X_steps (s' := (14, [(0, .ref 58), (1, .ref 38)], [], (z_cpL h (38 + 1) 0 (58 + 1) 0 4))) 8 rfl).trans ?_
    exact z_X_ret rfl
  · show z_X zc_Es_becomeAs 2 (0, [(0, .ref 60), (1, .ref 38)], [], h) = _
    refine (z_X_steps (s' := (14, [(0, .ref 60), (1, .ref 38)], [], (z_cpL h (38 + 1) 0 (60 + 1) 0 4))) 8 rfl).trans ?_
    exact z_X_ret rfl
  · show z_X zc_Es_becomeAs 2 (0, [(0, .ref 62), (1, .ref 38)], [], h) = _
    refine (z_X_steps (s' := (14, [(0, .ref 62), (1, .ref 38)], [], (z_cpL h (38 + 1) 0 (62 + 1) 0 4))) 8 rfl).trans ?_
    exact z_X_ret rfl
  · show z_X zc_Es_becomeAs 2 (0, [(0, .ref 64), (1, .ref 38)], [], h) = _
    refine (z_X_steps (s' := (14, [(0, .ref 64), (1, .ref 38)], [], (z_cpL h (38 + 1) 0 (64 + 1) 0 4))) 8 rfl).trans ?_
    exact z_X_ret rfl
  · show z_X zc_Es_becomeAs 2 (0, [(0, .ref 66), (1, .ref 38)], [], h) = _
    refine (z_X_steps (s' := (14, [(0, .ref 66), (1, .ref 38)], [], (z_cpL h (38 + 1) 0 (66 + 1) 0 4))) 8 rfl).trans ?_
    exact z_X_ret rfl
  · show z_X zc_Es_becomeAs 2 (0, [(0, .ref 68), (1, .ref 38)], [], h) = _
    refine (z_X_steps (s' := (14, [(0, .ref 68), (1, .ref 38)], [], (z_cpL h (38 + 1) 0 (68 + 1) 0 4))) 8 rfl).trans ?_
    exact z_X_ret rfl
set_option maxRecDepth 8000 in
set_option maxHeartbeats 2000000 in
theorem e_Es_put {o : Nat} (hi : o ∈ [38, 41, 50, 52, 54, 56, 58, 60, 62, 64, 66, 68]) (x1 : Int32) (h : z_H) : z_M 103 [.ref o, .int x1] h = (if x1 < 0 then some (0, h) else (if (216 : Int32) ≤ x1 then some (0, h) else (bif z_in (x1 / 64) 4 then (bif z_in (x1 / 64) 4 then some (0, (z_wL h (o + 1) ((x1 / 64).toNatClampNeg) ((h.2.1 (o + 1) ((x1 / 64).toNatClampNeg)) ||| (((1 : Int32).toInt64) <<< ((x1 - x1 / 64 * 64).toInt64 &&& 63))))) else none) else none))) := by
  refine (z_M_eq (by decide)).trans ?_
  simp only [List.mem_cons, List.not_mem_nil, or_false, Prod.mk.injEq] at hi
  rcases hi with rfl | rfl | rfl | rfl | rfl | rfl | rfl | rfl | rfl | rfl | rfl | rfl
  · show z_X zc_Es_put 1 (0, [(0, .ref 38), (1, .int x1)], [], h) = _
    refine (z_X_steps (s' := (1, [(0, .ref 38), (1, .int x1)], [.int x1], h)) 1 rfl).trans ?_
    refine (z_X_br (c := x1 < 0) (s1 := (29, [(0, .ref 38), (1, .int x1)], [], h)) (s2 := (4, [(0, .ref 38), (1, .int x1)], [], h)) rfl).trans (z_ite ?_ ?_)
    · exact z_X_ret rfl
    · refine (z_X_steps (s' := (8, [(0, .ref 38), (1, .int x1)], [.int 216, .int x1], h)) 2 rfl).trans ?_
      refine (z_X_br (c := (216 : Int32) ≤ x1) (s1 := (29, [(0, .ref 38), (1, .int x1)], [], h)) (s2 := (11, [(0, .ref 38), (1, .int x1)], [], h)) rfl).trans (z_ite ?_ ?_)
      · exact z_X_ret rfl
      · refine (z_X_steps (s' := (20, [(0, .ref 38), (1, .int x1)], [.int (x1 / 64), .ref (38 + 1), .int (x1 / 64), .ref (38 + 1)], h)) 6 rfl).trans ?_
        refine (z_X_if (g := z_in (x1 / 64) 4) (s' := (21, [(0, .ref 38), (1, .int x1)], [.long (h.2.1 (38 + 1) ((x1 / 64).toNatClampNeg)), .int (x1 / 64), .ref (38 + 1)], h)) rfl).trans (z_bifA ?_)
        refine (z_X_steps (s' := (28, [(0, .ref 38), (1, .int x1)], [.long ((h.2.1 (38 + 1) ((x1 / 64).toNatClampNeg)) ||| (((1 : Int32).toInt64) <<< ((x1 - x1 / 64 * 64).toInt64 &&& 63))), .int (x1 / 64), .ref (38 + 1)], h)) 6 rfl).trans ?_
        refine (z_X_if (g := z_in (x1 / 64) 4) (s' := (29, [(0, .ref 38), (1, .int x1)], [], (z_wL h (38 + 1) ((x1 / 64).toNatClampNeg) ((h.2.1 (38 + 1) ((x1 / 64).toNatClampNeg)) ||| (((1 : Int32).toInt64) <<< ((x1 - x1 / 64 * 64).toInt64 &&& 63)))))) rfl).trans (z_bifA ?_)
        exact z_X_ret rfl
  · show z_X zc_Es_put 1 (0, [(0, .ref 41), (1, .int x1)], [], h) = _
    refine (z_X_steps (s' := (1, [(0, .ref 41), (1, .int x1)], [.int x1], h)) 1 rfl).trans ?_
    refine (z_X_br (c := x1 < 0) (s1 := (29, [(0, .ref 41), (1, .int x1)], [], h)) (s2 := (4, [(0, .ref 41), (1, .int x1)], [], h)) rfl).trans (z_ite ?_ ?_)
    · exact z_X_ret rfl
    · refine (z_X_steps (s' := (8, [(0, .ref 41), (1, .int x1)], [.int 216, .int x1], h)) 2 rfl).trans ?_
      refine (z_X_br (c := (216 : Int32) ≤ x1) (s1 := (29, [(0, .ref 41), (1, .int x1)], [], h)) (s2 := (11, [(0, .ref 41), (1, .int x1)], [], h)) rfl).trans (z_ite ?_ ?_)
      · exact z_X_ret rfl
      · refine (z_X_steps (s' := (20, [(0, .ref 41), (1, .int x1)], [.int (x1 / 64), .ref (41 + 1), .int (x1 / 64), .ref (41 + 1)], h)) 6 rfl).trans ?_
        refine (z_X_if (g := z_in (x1 / 64) 4) (s' := (21, [(0, .ref 41), (1, .int x1)], [.long (h.2.1 (41 + 1) ((x1 / 64).toNatClampNeg)), .int (x1 / 64), .ref (41 + 1)], h)) rfl).trans (z_bifA ?_)
        refine (z_X_steps (s' := (28, [(0, .ref 41), (1, .int x1)], [.long ((h.2.1 (41 + 1) ((x1 / 64).toNatClampNeg)) ||| (((1 : Int32).toInt64) <<< ((x1 - x1 / 64 * 64).toInt64 &&& 63))), .int (x1 / 64), .ref (41 + 1)], h)) 6 rfl).trans ?_
        refine (z_X_if (g := z_in (x1 / 64) 4) (s' := (29, [(0, .ref 41), (1, .int x1)], [], (z_wL h (41 + 1) ((x1 / 64).toNatClampNeg) ((h.2.1 (41 + 1) ((x1 / 64).toNatClampNeg)) ||| (((1 : Int32).toInt64) <<< ((x1 - x1 / 64 * 64).toInt64 &&& 63)))))) rfl).trans (z_bifA ?_)
        exact z_X_ret rfl
  · show z_X zc_Es_put 1 (0, [(0, .ref 50), (1, .int x1)], [], h) = _
    refine (z_X_steps (s' := (1, [(0, .ref 50), (1, .int x1)], [.int x1], h)) 1 rfl).trans ?_
    refine (z_X_br (c := x1 < 0) (s1 := (29, [(0, .ref 50), (1, .int x1)], [], h)) (s2 := (4, [(0, .ref 50), (1, .int x1)], [], h)) rfl).trans (z_ite ?_ ?_)
    · exact z_X_ret rfl
    · refine (z_X_steps (s' := (8, [(0, .ref 50), (1, .int x1)], [.int 216, .int x1], h)) 2 rfl).trans ?_
      refine (z_X_br (c := (216 : Int32) ≤ x1) (s1 := (29, [(0, .ref 50), (1, .int x1)], [], h)) (s2 := (11, [(0, .ref 50), (1, .int x1)], [], h)) rfl).trans (z_ite ?_ ?_)
      · exact z_X_ret rfl
      · refine (z_X_steps (s' := (20, [(0, .ref 50), (1, .int x1)], [.int (x1 / 64), .ref (50 + 1), .int (x1 / 64), .ref (50 + 1)], h)) 6 rfl).trans ?_
        refine (z_X_if (g := z_in (x1 / 64) 4) (s' := (21, [(0, .ref 50), (1, .int x1)], [.long (h.2.1 (50 + 1) ((x1 / 64).toNatClampNeg)), .int (x1 / 64), .ref (50 + 1)], h)) rfl).trans (z_bifA ?_)
        refine (z_X_steps (s' := (28, [(0, .ref 50), (1, .int x1)], [.long ((h.2.1 (50 + 1) ((x1 / 64).toNatClampNeg)) ||| (((1 : Int32).toInt64) <<< ((x1 - x1 / 64 * 64).toInt64 &&& 63))), .int (x1 / 64), .ref (50 + 1)], h)) 6 rfl).trans ?_
        refine (z_X_if (g := z_in (x1 / 64) 4) (s' := (29, [(0, .ref 50), (1, .int x1)], [], (z_wL h (50 + 1) ((x1 / 64).toNatClampNeg) ((h.2.1 (50 + 1) ((x1 / 64).toNatClampNeg)) ||| (((1 : Int32).toInt64) <<< ((x1 - x1 / 64 * 64).toInt64 &&& 63)))))) rfl).trans (z_bifA ?_)
        exact z_X_ret rfl
  · show z_X zc_Es_put 1 (0, [(0, .ref 52), (1, .int x1)], [], h) = _
    refine (z_X_steps (s' := (1, [(0, .ref 52), (1, .int x1)], [.int x1], h)) 1 rfl).trans ?_
    refine (z_X_br (c := x1 < 0) (s1 := (29, [(0, .ref 52), (1, .int x1)], [], h)) (s2 := (4, [(0, .ref 52), (1, .int x1)], [], h)) rfl).trans (z_ite ?_ ?_)
    · exact z_X_ret rfl
    · refine (z_X_steps (s' := (8, [(0, .ref 52), (1, .int x1)], [.int 216, .int x1], h)) 2 rfl).trans ?_
      refine (z_X_br (c := (216 : Int32) ≤ x1) (s1 := (29, [(0, .ref 52), (1, .int x1)], [], h)) (s2 := (11, [(0, .ref 52), (1, .int x1)], [], h)) rfl).trans (z_ite ?_ ?_)
      · exact z_X_ret rfl
      · refine (z_X_steps (s' := (20, [(0, .ref 52), (1, .int x1)], [.int (x1 / 64), .ref (52 + 1), .int (x1 / 64), .ref (52 + 1)], h)) 6 rfl).trans ?_
        refine (z_X_if (g := z_in (x1 / 64) 4) (s' := (21, [(0, .ref 52), (1, .int x1)], [.long (h.2.1 (52 + 1) ((x1 / 64).toNatClampNeg)), .int (x1 / 64), .ref (52 + 1)], h)) rfl).trans (z_bifA ?_)
        refine (z_X_steps (s' := (28, [(0, .ref 52), (1, .int x1)], [.long ((h.2.1 (52 + 1) ((x1 / 64).toNatClampNeg)) ||| (((1 : Int32).toInt64) <<< ((x1 - x1 / 64 * 64).toInt64 &&& 63))), .int (x1 / 64), .ref (52 + 1)], h)) 6 rfl).trans ?_
        refine (z_X_if (g := z_in (x1 / 64) 4) (s' := (29, [(0, .ref 52), (1, .int x1)], [], (z_wL h (52 + 1) ((x1 / 64).toNatClampNeg) ((h.2.1 (52 + 1) ((x1 / 64).toNatClampNeg)) ||| (((1 : Int32).toInt64) <<< ((x1 - x1 / 64 * 64).toInt64 &&& 63)))))) rfl).trans (z_bifA ?_)
        exact z_X_ret rfl
  · show z_X zc_Es_put 1 (0, [(0, .ref 54), (1, .int x1)], [], h) = _
    refine (z_X_steps (s' := (1, [(0, .ref 54), (1, .int x1)], [.int x1], h)) 1 rfl).trans ?_
    refine (z_X_br (c := x1 < 0) (s1 := (29, [(0, .ref 54), (1, .int x1)], [], h)) (s2 := (4, [(0, .ref 54), (1, .int x1)], [], h)) rfl).trans (z_ite ?_ ?_)
    · exact z_X_ret rfl
    · refine (z_X_steps (s' := (8, [(0, .ref 54), (1, .int x1)], [.int 216, .int x1], h)) 2 rfl).trans ?_
      refine (z_X_br (c := (216 : Int32) ≤ x1) (s1 := (29, [(0, .ref 54), (1, .int x1)], [], h)) (s2 := (11, [(0, .ref 54), (1, .int x1)], [], h)) rfl).trans (z_ite ?_ ?_)
      · exact z_X_ret rfl
      · refine (z_X_steps (s' := (20, [(0, .ref 54), (1, .int x1)], [.int (x1 / 64), .ref (54 + 1), .int (x1 / 64), .ref (54 + 1)], h)) 6 rfl).trans ?_
        refine (z_X_if (g := z_in (x1 / 64) 4) (s' := (21, [(0, .ref 54), (1, .int x1)], [.long (h.2.1 (54 + 1) ((x1 / 64).toNatClampNeg)), .int (x1 / 64), .ref (54 + 1)], h)) rfl).trans (z_bifA ?_)
        refine (z_X_steps (s' := (28, [(0, .ref 54), (1, .int x1)], [.long ((h.2.1 (54 + 1) ((x1 / 64).toNatClampNeg)) ||| (((1 : Int32).toInt64) <<< ((x1 - x1 / 64 * 64).toInt64 &&& 63))), .int (x1 / 64), .ref (54 + 1)], h)) 6 rfl).trans ?_
        refine (z_X_if (g := z_in (x1 / 64) 4) (s' := (29, [(0, .ref 54), (1, .int x1)], [], (z_wL h (54 + 1) ((x1 / 64).toNatClampNeg) ((h.2.1 (54 + 1) ((x1 / 64).toNatClampNeg)) ||| (((1 : Int32).toInt64) <<< ((x1 - x1 / 64 * 64).toInt64 &&& 63)))))) rfl).trans (z_bifA ?_)
        exact z_X_ret rfl
  · show z_X zc_Es_put 1 (0, [(0, .ref 56), (1, .int x1)], [], h) = _
    refine (z_X_steps (s' := (1, [(0, .ref 56), (1, .int x1)], [.int x1], h)) 1 rfl).trans ?_
    refine (z_X_br (c := x1 < 0) (s1 := (29, [(0, .ref 56), (1, .int x1)], [], h)) (s2 := (4, [(0, .ref 56), (1, .int x1)], [], h)) rfl).trans (z_ite ?_ ?_)
    · exact z_X_ret rfl
    · refine (z_X_steps (s' := (8, [(0, .ref 56), (1, .int x1)], [.int 216, .int x1], h)) 2 rfl).trans ?_
      refine (z_X_br (c := (216 : Int32) ≤ x1) (s1 := (29, [(0, .ref 56), (1, .int x1)], [], h)) (s2 := (11, [(0, .ref 56), (1, .int x1)], [], h)) rfl).trans (z_ite ?_ ?_)
      · exact z_X_ret rfl
      · refine (z_X_steps (s' := (20, [(0, .ref 56), (1, .int x1)], [.int (x1 / 64), .ref (56 + 1), .int (x1 / 64), .ref (56 + 1)], h)) 6 rfl).trans ?_
        refine (z_X_if (g := z_in (x1 / 64) 4) (s' := (21, [(0, .ref 56), (1, .int x1)], [.long (h.2.1 (56 + 1) ((x1 / 64).toNatClampNeg)), .int (x1 / 64), .ref (56 + 1)], h)) rfl).trans (z_bifA ?_)
        refine (z_X_steps (s' := (28, [(0, .ref 56), (1, .int x1)], [.long ((h.2.1 (56 + 1) ((x1 / 64).toNatClampNeg)) ||| (((1 : Int32).toInt64) <<< ((x1 - x1 / 64 * 64).toInt64 &&& 63))), .int (x1 / 64), .ref (56 + 1)], h)) 6 rfl).trans ?_
        refine (z_X_if (g := z_in (x1 / 64) 4) (s' := (29, [(0, .ref 56), (1, .int x1)], [], (z_wL h (56 + 1) ((x1 / 64).toNatClampNeg) ((h.2.1 (56 + 1) ((x1 / 64).toNatClampNeg)) ||| (((1 : Int32).toInt64) <<< ((x1 - x1 / 64 * 64).toInt64 &&& 63)))))) rfl).trans (z_bifA ?_)
        exact z_X_ret rfl
  · show z_X zc_Es_put 1 (0, [(0, .ref 58), (1, .int x1)], [], h) = _
    refine (z_X_steps (s' := (1, [(0, .ref 58), (1, .int x1)], [.int x1], h)) 1 rfl).trans ?_
    refine (z_X_br (c := x1 < 0) (s1 := (29, [(0, .ref 58), (1, .int x1)], [], h)) (s2 := (4, [(0, .ref 58), (1, .int x1)], [], h)) rfl).trans (z_ite ?_ ?_)
    · exact z_X_ret rfl
    · refine (z_X_steps (s' := (8, [(0, .ref 58), (1, .int x1)], [.int 216, .int x1], h)) 2 rfl).trans ?_
      refine (z_X_br (c := (216 : Int32) ≤ x1) (s1 := (29, [(0, .ref 58), (1, .int x1)], [], h)) (s2 := (11, [(0, .ref 58), (1, .int x1)], [], h)) rfl).trans (z_ite ?_ ?_)
      · exact z_X_ret rfl
      · refine (z_X_steps (s' := (20, [(0, .ref 58), (1, .int x1)], [.int (x1 / 64), .ref (58 + 1), .int (x1 / 64), .ref (58 + 1)], h)) 6 rfl).trans ?_
        refine (z_X_if (g := z_in (x1 / 64) 4) (s' := (21, [(0, .ref 58), (1, .int x1)], [.long (h.2.1 (58 + 1) ((x1 / 64).toNatClampNeg)), .int (x1 / 64), .ref (58 + 1)], h)) rfl).trans (z_bifA ?_)
        refine (z_X_steps (s' := (28, [(0, .ref 58), (1, .int x1)], [.long ((h.2.1 (58 + 1) ((x1 / 64).toNatClampNeg)) ||| (((1 : Int32).toInt64) <<< ((x1 - x1 / 64 * 64).toInt64 &&& 63))), .int (x1 / 64), .ref (58 + 1)], h)) 6 rfl).trans ?_
        refine (z_X_if (g := z_in (x1 / 64) 4) (s' := (29, [(0, .ref 58), (1, .int x1)], [], (z_wL h (58 + 1) ((x1 / 64).toNatClampNeg) ((h.2.1 (58 + 1) ((x1 / 64).toNatClampNeg)) ||| (((1 : Int32).toInt64) <<< ((x1 - x1 / 64 * 64).toInt64 &&& 63)))))) rfl).trans (z_bifA ?_)
        exact z_X_ret rfl
  · show z_X zc_Es_put 1 (0, [(0, .ref 60), (1, .int x1)], [], h) = _
    refine (z_X_steps (s' := (1, [(0, .ref 60), (1, .int x1)], [.int x1], h)) 1 rfl).trans ?_
    refine (z_X_br (c := x1 < 0) (s1 := (29, [(0, .ref 60), (1, .int x1)], [], h)) (s2 := (4, [(0, .ref 60), (1, .int x1)], [], h)) rfl).trans (z_ite ?_ ?_)
    · exact z_X_ret rfl
    · refine (z_X_steps (s' := (8, [(0, .ref 60), (1, .int x1)], [.int 216, .int x1], h)) 2 rfl).trans ?_
      refine (z_X_br (c := (216 : Int32) ≤ x1) (s1 := (29, [(0, .ref 60), (1, .int x1)], [], h)) (s2 := (11, [(0, .ref 60), (1, .int x1)], [], h)) rfl).trans (z_ite ?_ ?_)
      · exact z_X_ret rfl
      · refine (z_X_steps (s' := (20, [(0, .ref 60), (1, .int x1)], [.int (x1 / 64), .ref (60 + 1), .int (x1 / 64), .ref (60 + 1)], h)) 6 rfl).trans ?_
        refine (z_X_if (g := z_in (x1 / 64) 4) (s' := (21, [(0, .ref 60), (1, .int x1)], [.long (h.2.1 (60 + 1) ((x1 / 64).toNatClampNeg)), .int (x1 / 64), .ref (60 + 1)], h)) rfl).trans (z_bifA ?_)
        refine (z_X_steps (s' := (28, [(0, .ref 60), (1, .int x1)], [.long ((h.2.1 (60 + 1) ((x1 / 64).toNatClampNeg)) ||| (((1 : Int32).toInt64) <<< ((x1 - x1 / 64 * 64).toInt64 &&& 63))), .int (x1 / 64), .ref (60 + 1)], h)) 6 rfl).trans ?_
        refine (z_X_if (g := z_in (x1 / 64) 4) (s' := (29, [(0, .ref 60), (1, .int x1)], [], (z_wL h (60 + 1) ((x1 / 64).toNatClampNeg) ((h.2.1 (60 + 1) ((x1 / 64).toNatClampNeg)) ||| (((1 : Int32).toInt64) <<< ((x1 - x1 / 64 * 64).toInt64 &&& 63)))))) rfl).trans (z_bifA ?_)
        exact z_X_ret rfl
  · show z_X zc_Es_put 1 (0, [(0, .ref 62), (1, .int x1)], [], h) = _
    refine (z_X_steps (s' := (1, [(0, .ref 62), (1, .int x1)], [.int x1], h)) 1 rfl).trans ?_
    refine (z_X_br (c := x1 < 0) (s1 := (29, [(0, .ref 62), (1, .int x1)], [], h)) (s2 := (4, [(0, .ref 62), (1, .int x1)], [], h)) rfl).trans (z_ite ?_ ?_)
    · exact z_X_ret rfl
    · refine (z_X_steps (s' := (8, [(0, .ref 62), (1, .int x1)], [.int 216, .int x1], h)) 2 rfl).trans ?_
      refine (z_X_br (c := (216 : Int32) ≤ x1) (s1 := (29, [(0, .ref 62), (1, .int x1)], [], h)) (s2 := (11, [(0, .ref 62), (1, .int x1)], [], h)) rfl).trans (z_ite ?_ ?_)
      · exact z_X_ret rfl
      · refine (z_X_steps (s' := (20, [(0, .ref 62), (1, .int x1)], [.int (x1 / 64), .ref (62 + 1), .int (x1 / 64), .ref (62 + 1)], h)) 6 rfl).trans ?_
        refine (z_X_if (g := z_in (x1 / 64) 4) (s' := (21, [(0, .ref 62), (1, .int x1)], [.long (h.2.1 (62 + 1) ((x1 / 64).toNatClampNeg)), .int (x1 / 64), .ref (62 + 1)], h)) rfl).trans (z_bifA ?_)
        refine (z_X_steps (s' := (28, [(0, .ref 62), (1, .int x1)], [.long ((h.2.1 (62 + 1) ((x1 / 64).toNatClampNeg)) ||| (((1 : Int32).toInt64) <<< ((x1 - x1 / 64 * 64).toInt64 &&& 63))), .int (x1 / 64), .ref (62 + 1)], h)) 6 rfl).trans ?_
        refine (z_X_if (g := z_in (x1 / 64) 4) (s' := (29, [(0, .ref 62), (1, .int x1)], [], (z_wL h (62 + 1) ((x1 / 64).toNatClampNeg) ((h.2.1 (62 + 1) ((x1 / 64).toNatClampNeg)) ||| (((1 : Int32).toInt64) <<< ((x1 - x1 / 64 * 64).toInt64 &&& 63)))))) rfl).trans (z_bifA ?_)
        exact z_X_ret rfl
  · show z_X zc_Es_put 1 (0, [(0, .ref 64), (1, .int x1)], [], h) = _
    refine (z_X_steps (s' := (1, [(0, .ref 64), (1, .int x1)], [.int x1], h)) 1 rfl).trans ?_
    refine (z_X_br (c := x1 < 0) (s1 := (29, [(0, .ref 64), (1, .int x1)], [], h)) (s2 := (4, [(0, .ref 64), (1, .int x1)], [], h)) rfl).trans (z_ite ?_ ?_)
    · exact z_X_ret rfl
    · refine (z_X_steps (s' := (8, [(0, .ref 64), (1, .int x1)], [.int 216, .int x1], h)) 2 rfl).trans ?_
      refine (z_X_br (c := (216 : Int32) ≤ x1) (s1 := (29, [(0, .ref 64), (1, .int x1)], [], h)) (s2 := (11, [(0, .ref 64), (1, .int x1)], [], h)) rfl).trans (z_ite ?_ ?_)
      · exact z_X_ret rfl
      · refine (z_X_steps (s' := (20, [(0, .ref 64), (1, .int x1)], [.int (x1 / 64), .ref (64 + 1), .int (x1 / 64), .ref (64 + 1)], h)) 6 rfl).trans ?_
        refine (z_X_if (g := z_in (x1 / 64) 4) (s' := (21, [(0, .ref 64), (1, .int x1)], [.long (h.2.1 (64 + 1) ((x1 / 64).toNatClampNeg)), .int (x1 / 64), .ref (64 + 1)], h)) rfl).trans (z_bifA ?_)
        refine (z_X_steps (s' := (28, [(0, .ref 64), (1, .int x1)], [.long ((h.2.1 (64 + 1) ((x1 / 64).toNatClampNeg)) ||| (((1 : Int32).toInt64) <<< ((x1 - x1 / 64 * 64).toInt64 &&& 63))), .int (x1 / 64), .ref (64 + 1)], h)) 6 rfl).trans ?_
        refine (z_X_if (g := z_in (x1 / 64) 4) (s' := (29, [(0, .ref 64), (1, .int x1)], [], (z_wL h (64 + 1) ((x1 / 64).toNatClampNeg) ((h.2.1 (64 + 1) ((x1 / 64).toNatClampNeg)) ||| (((1 : Int32).toInt64) <<< ((x1 - x1 / 64 * 64).toInt64 &&& 63)))))) rfl).trans (z_bifA ?_)
        exact z_X_ret rfl
  · show z_X zc_Es_put 1 (0, [(0, .ref 66), (1, .int x1)], [], h) = _
    refine (z_X_steps (s' := (1, [(0, .ref 66), (1, .int x1)], [.int x1], h)) 1 rfl).trans ?_
    refine (z_X_br (c := x1 < 0) (s1 := (29, [(0, .ref 66), (1, .int x1)], [], h)) (s2 := (4, [(0, .ref 66), (1, .int x1)], [], h)) rfl).trans (z_ite ?_ ?_)
    · exact z_X_ret rfl
    · refine (z_X_steps (s' := (8, [(0, .ref 66), (1, .int x1)], [.int 216, .int x1], h)) 2 rfl).trans ?_
      refine (z_X_br (c := (216 : Int32) ≤ x1) (s1 := (29, [(0, .ref 66), (1, .int x1)], [], h)) (s2 := (11, [(0, .ref 66), (1, .int x1)], [], h)) rfl).trans (z_ite ?_ ?_)
      · exact z_X_ret rfl
      · refine (z_X_steps (s' := (20, [(0, .ref 66), (1, .int x1)], [.int (x1 / 64), .ref (66 + 1), .int (x1 / 64), .ref (66 + 1)], h)) 6 rfl).trans ?_
        refine (z_X_if (g := z_in (x1 / 64) 4) (s' := (21, [(0, .ref 66), (1, .int x1)], [.long (h.2.1 (66 + 1) ((x1 / 64).toNatClampNeg)), .int (x1 / 64), .ref (66 + 1)], h)) rfl).trans (z_bifA ?_)
        refine (z_X_steps (s' := (28, [(0, .ref 66), (1, .int x1)], [.long ((h.2.1 (66 + 1) ((x1 / 64).toNatClampNeg)) ||| (((1 : Int32).toInt64) <<< ((x1 - x1 / 64 * 64).toInt64 &&& 63))), .int (x1 / 64), .ref (66 + 1)], h)) 6 rfl).trans ?_
        refine (z_X_if (g := z_in (x1 / 64) 4) (s' := (29, [(0, .ref 66), (1, .int x1)], [], (z_wL h (66 + 1) ((x1 / 64).toNatClampNeg) ((h.2.1 (66 + 1) ((x1 / 64).toNatClampNeg)) ||| (((1 : Int32).toInt64) <<< ((x1 - x1 / 64 * 64).toInt64 &&& 63)))))) rfl).trans (z_bifA ?_)
        exact z_X_ret rfl
  · show z_X zc_Es_put 1 (0, [(0, .ref 68), (1, .int x1)], [], h) = _
    refine (z_X_steps (s' := (1, [(0, .ref 68), (1, .int x1)], [.int x1], h)) 1 rfl).trans ?_
    refine (z_X_br (c := x1 < 0) (s1 := (29, [(0, .ref 68), (1, .int x1)], [], h)) (s2 := (4, [(0, .ref 68), (1, .int x1)], [], h)) rfl).trans (z_ite ?_ ?_)
    · exact z_X_ret rfl
    · refine (z_X_steps (s' := (8, [(0, .ref 68), (1, .int x1)], [.int 216, .int x1], h)) 2 rfl).trans ?_
      refine (z_X_br (c := (216 : Int32) ≤ x1) (s1 := (29, [(0, .ref 68), (1, .int x1)], [], h)) (s2 := (11, [(0, .ref 68), (1, .int x1)], [], h)) rfl).trans (z_ite ?_ ?_)
      · exact z_X_ret rfl
      · refine (z_X_steps (s' := (20, [(0, .ref 68), (1, .int x1)], [.int (x1 / 64), .ref (68 + 1), .int (x1 / 64), .ref (68 + 1)], h)) 6 rfl).trans ?_
        refine (z_X_if (g := z_in (x1 / 64) 4) (s' := (21, [(0, .ref 68), (1, .int x1)], [.long (h.2.1 (68 + 1) ((x1 / 64).toNatClampNeg)), .int (x1 / 64), .ref (68 + 1)], h)) rfl).trans (z_bifA ?_)
        refine (z_X_steps (s' := (28, [(0, .ref 68), (1, .int x1)], [.long ((h.2.1 (68 + 1) ((x1 / 64).toNatClampNeg)) ||| (((1 : Int32).toInt64) <<< ((x1 - x1 / 64 * 64).toInt64 &&& 63))), .int (x1 / 64), .ref (68 + 1)], h)) 6 rfl).trans ?_
        refine (z_X_if (g := z_in (x1 / 64) 4) (s' := (29, [(0, .ref 68), (1, .int x1)], [], (z_wL h (68 + 1) ((x1 / 64).toNatClampNeg) ((h.2.1 (68 + 1) ((x1 / 64).toNatClampNeg)) ||| (((1 : Int32).toInt64) <<< ((x1 - x1 / 64 * 64).toInt64 &&& 63)))))) rfl).trans (z_bifA ?_)
        exact z_X_ret rfl
noncomputable def zl_Es_putAll_2 (o : Nat) (p : Nat) (x2 : Int32) (h : z_H) : Option z_A := z_X zc_Es_putAll 1 (2, [(0, .ref o), (1, .ref p), (2, .int x2)], [], h)
set_option maxRecDepth 8000 in
set_option maxHeartbeats 2000000 in
theorem e_Es_putAll {o : Nat} {p : Nat} (hi : (o, p) ∈ [(52, 54), (52, 56), (52, 58), (52, 60), (52, 62), (52, 64), (52, 66), (52, 68)]) (h : z_H) : z_M 104 [.ref o, .ref p] h = zl_Es_putAll_2 o p 0 h := by
  refine (z_M_eq (by decide)).trans ?_
  simp only [List.mem_cons, List.not_mem_nil, or_false, Prod.mk.injEq] at hi
  rcases hi with ⟨rfl, rfl⟩ | ⟨rfl, rfl⟩ | ⟨rfl, rfl⟩ | ⟨rfl, rfl⟩ | ⟨rfl, rfl⟩ | ⟨rfl, rfl⟩ | ⟨rfl, rfl⟩ | ⟨rfl, rfl⟩
  · show z_X zc_Es_putAll 1 (0, [(0, .ref 52), (1, .ref 54)], [], h) = _
    refine (z_X_steps (s' := (2, [(2, .int 0), (0, .ref 52), (1, .ref 54)], [], h)) 2 rfl).trans ?_
    exact z_X_lab rfl
  · show z_X zc_Es_putAll 1 (0, [(0, .ref 52), (1, .ref 56)], [], h) = _
    refine (z_X_steps (s' := (2, [(2, .int 0), (0, .ref 52), (1, .ref 56)], [], h)) 2 rfl).trans ?_
    exact z_X_lab rfl
  · show z_X zc_Es_putAll 1 (0, [(0, .ref 52), (1, .ref 58)], [], h) = _
    refine (z_X_steps (s' := (2, [(2, .int 0), (0, .ref 52), (1, .ref 58)], [], h)) 2 rfl).trans ?_
    exact z_X_lab rfl
  · show z_X zc_Es_putAll 1 (0, [(0, .ref 52), (1, .ref 60)], [], h) = _
    refine (z_X_steps (s' := (2, [(2, .int 0), (0, .ref 52), (1, .ref 60)], [], h)) 2 rfl).trans ?_
    exact z_X_lab rfl
  · show z_X zc_Es_putAll 1 (0, [(0, .ref 52), (1, .ref 62)], [], h) = _
    refine (z_X_steps (s' := (2, [(2, .int 0), (0, .ref 52), (1, .ref 62)], [], h)) 2 rfl).trans ?_
    exact z_X_lab rfl
  · show z_X zc_Es_putAll 1 (0, [(0, .ref 52), (1, .ref 64)], [], h) = _
    refine (z_X_steps (s' := (2, [(2, .int 0), (0, .ref 52), (1, .ref 64)], [], h)) 2 rfl).trans ?_
    exact z_X_lab rfl
  · show z_X zc_Es_putAll 1 (0, [(0, .ref 52), (1, .ref 66)], [], h) = _
    refine (z_X_steps (s' := (2, [(2, .int 0), (0, .ref 52), (1, .ref 66)], [], h)) 2 rfl).trans ?_
    exact z_X_lab rfl
  · show z_X zc_Es_putAll 1 (0, [(0, .ref 52), (1, .ref 68)], [], h) = _
    refine (z_X_steps (s' := (2, [(2, .int 0), (0, .ref 52), (1, .ref 68)], [], h)) 2 rfl).trans ?_
    exact z_X_lab rfl
set_option maxRecDepth 8000 in
set_option maxHeartbeats 2000000 in
theorem e_Es_putAll_2 {o : Nat} {p : Nat} (hi : (o, p) ∈ [(52, 54), (52, 56), (52, 58), (52, 60), (52, 62), (52, 64), (52, 66), (52, 68)]) (x2 : Int32) (h : z_H) : zl_Es_putAll_2 o p x2 h = (if (4 : Int32) ≤ x2 then some (0, h) else (bif z_in x2 4 then (bif z_in x2 4 then (bif z_in x2 4 then zl_Es_putAll_2 o p (x2 + 1) (z_wL h (o + 1) (x2.toNatClampNeg) ((h.2.1 (o + 1) (x2.toNatClampNeg)) ||| (h.2.1 (p + 1) (x2.toNatClampNeg)))) else none) else none) else none)) := by
  simp only [List.mem_cons, List.not_mem_nil, or_false, Prod.mk.injEq] at hi
  rcases hi with ⟨rfl, rfl⟩ | ⟨rfl, rfl⟩ | ⟨rfl, rfl⟩ | ⟨rfl, rfl⟩ | ⟨rfl, rfl⟩ | ⟨rfl, rfl⟩ | ⟨rfl, rfl⟩ | ⟨rfl, rfl⟩
  · show z_X zc_Es_putAll 1 (2, [(0, .ref 52), (1, .ref 54), (2, .int x2)], [], h) = _
    refine (z_X_steps (s' := (4, [(0, .ref 52), (1, .ref 54), (2, .int x2)], [.int 4, .int x2], h)) 2 rfl).trans ?_
    refine (z_X_br (c := (4 : Int32) ≤ x2) (s1 := (28, [(0, .ref 52), (1, .ref 54), (2, .int x2)], [], h)) (s2 := (7, [(0, .ref 52), (1, .ref 54), (2, .int x2)], [], h)) rfl).trans (z_ite ?_ ?_)
    · exact z_X_ret rfl
    · refine (z_X_steps (s' := (13, [(0, .ref 52), (1, .ref 54), (2, .int x2)], [.int x2, .ref (52 + 1), .int x2, .ref (52 + 1)], h)) 4 rfl).trans ?_
      refine (z_X_if (g := z_in x2 4) (s' := (14, [(0, .ref 52), (1, .ref 54), (2, .int x2)], [.long (h.2.1 (52 + 1) (x2.toNatClampNeg)), .int x2, .ref (52 + 1)], h)) rfl).trans (z_bifA ?_)
      refine (z_X_steps (s' := (19, [(0, .ref 52), (1, .ref 54), (2, .int x2)], [.int x2, .ref (54 + 1), .long (h.2.1 (52 + 1) (x2.toNatClampNeg)), .int x2, .ref (52 + 1)], h)) 3 rfl).trans ?_
      refine (z_X_if (g := z_in x2 4) (s' := (20, [(0, .ref 52), (1, .ref 54), (2, .int x2)], [.long (h.2.1 (54 + 1) (x2.toNatClampNeg)), .long (h.2.1 (52 + 1) (x2.toNatClampNeg)), .int x2, .ref (52 + 1)], h)) rfl).trans (z_bifA ?_)
      refine (z_X_steps (s' := (21, [(0, .ref 52), (1, .ref 54), (2, .int x2)], [.long ((h.2.1 (52 + 1) (x2.toNatClampNeg)) ||| (h.2.1 (54 + 1) (x2.toNatClampNeg))), .int x2, .ref (52 + 1)], h)) 1 rfl).trans ?_
      refine (z_X_if (g := z_in x2 4) (s' := (22, [(0, .ref 52), (1, .ref 54), (2, .int x2)], [], (z_wL h (52 + 1) (x2.toNatClampNeg) ((h.2.1 (52 + 1) (x2.toNatClampNeg)) ||| (h.2.1 (54 + 1) (x2.toNatClampNeg)))))) rfl).trans (z_bifA ?_)
      refine (z_X_steps (s' := (2, [(2, .int (x2 + 1)), (0, .ref 52), (1, .ref 54)], [], (z_wL h (52 + 1) (x2.toNatClampNeg) ((h.2.1 (52 + 1) (x2.toNatClampNeg)) ||| (h.2.1 (54 + 1) (x2.toNatClampNeg)))))) 2 rfl).trans ?_
      exact z_X_lab rfl
  · show z_X zc_Es_putAll 1 (2, [(0, .ref 52), (1, .ref 56), (2, .int x2)], [], h) = _
    refine (z_X_steps (s' := (4, [(0, .ref 52), (1, .ref 56), (2, .int x2)], [.int 4, .int x2], h)) 2 rfl).trans ?_
    refine (z_X_br (c := (4 : Int32) ≤ x2) (s1 := (28, [(0, .ref 52), (1, .ref 56), (2, .int x2)], [], h)) (s2 := (7, [(0, .ref 52), (1, .ref 56), (2, .int x2)], [], h)) rfl).trans (z_ite ?_ ?_)
    · exact z_X_ret rfl
    · refine (z_X_steps (s' := (13, [(0, .ref 52), (1, .ref 56), (2, .int x2)], [.int x2, .ref (52 + 1), .int x2, .ref (52 + 1)], h)) 4 rfl).trans ?_
      refine (z_X_if (g := z_in x2 4) (s' := (14, [(0, .ref 52), (1, .ref 56), (2, .int x2)], [.long (h.2.1 (52 + 1) (x2.toNatClampNeg)), .int x2, .ref (52 + 1)], h)) rfl).trans (z_bifA ?_)
      refine (z_X_steps (s' := (19, [(0, .ref 52), (1, .ref 56), (2, .int x2)], [.int x2, .ref (56 + 1), .long (h.2.1 (52 + 1) (x2.toNatClampNeg)), .int x2, .ref (52 + 1)], h)) 3 rfl).trans ?_
      refine (z_X_if (g := z_in x2 4) (s' := (20, [(0, .ref 52), (1, .ref 56), (2, .int x2)], [.long (h.2.1 (56 + 1) (x2.toNatClampNeg)), .long (h.2.1 (52 + 1) (x2.toNatClampNeg)), .int x2, .ref (52 + 1)], h)) rfl).trans (z_bifA ?_)
      refine (z_X_steps (s' := (21, [(0, .ref 52), (1, .ref 56), (2, .int x2)], [.long ((h.2.1 (52 + 1) (x2.toNatClampNeg)) ||| (h.2.1 (56 + 1) (x2.toNatClampNeg))), .int x2, .ref (52 + 1)], h)) 1 rfl).trans ?_
      refine (z_X_if (g := z_in x2 4) (s' := (22, [(0, .ref 52), (1, .ref 56), (2, .int x2)], [], (z_wL h (52 + 1) (x2.toNatClampNeg) ((h.2.1 (52 + 1) (x2.toNatClampNeg)) ||| (h.2.1 (56 + 1) (x2.toNatClampNeg)))))) rfl).trans (z_bifA ?_)
      refine (z_X_steps (s' := (2, [(2, .int (x2 + 1)), (0, .ref 52), (1, .ref 56)], [], (z_wL h (52 + 1) (x2.toNatClampNeg) ((h.2.1 (52 + 1) (x2.toNatClampNeg)) ||| (h.2.1 (56 + 1) (x2.toNatClampNeg)))))) 2 rfl).trans ?_
      exact z_X_lab rfl
  · show z_X zc_Es_putAll 1 (2, [(0, .ref 52), (1, .ref 58), (2, .int x2)], [], h) = _
    refine (z_X_steps (s' := (4, [(0, .ref 52), (1, .ref 58), (2, .int x2)], [.int 4, .int x2], h)) 2 rfl).trans ?_
    refine (z_X_br (c := (4 : Int32) ≤ x2) (s1 := (28, [(0, .ref 52), (1, .ref 58), (2, .int x2)], [], h)) (s2 := (7, [(0, .ref 52), (1, .ref 58), (2, .int x2)], [], h)) rfl).trans (z_ite ?_ ?_)
    · exact z_X_ret rfl
    · refine (z_X_steps (s' := (13, [(0, .ref 52), (1, .ref 58), (2, .int x2)], [.int x2, .ref (52 + 1), .int x2, .ref (52 + 1)], h)) 4 rfl).trans ?_
      refine (z_X_if (g := z_in x2 4) (s' := (14, [(0, .ref 52), (1, .ref 58), (2, .int x2)], [.long (h.2.1 (52 + 1) (x2.toNatClampNeg)), .int x2, .ref (52 + 1)], h)) rfl).trans (z_bifA ?_)
      refine (z_X_steps (s' := (19, [(0, .ref 52), (1, .ref 58), (2, .int x2)], [.int x2, .ref (58 + 1), .long (h.2.1 (52 + 1) (x2.toNatClampNeg)), .int x2, .ref (52 + 1)], h)) 3 rfl).trans ?_
      refine (z_X_if (g := z_in x2 4) (s' := (20, [(0, .ref 52), (1, .ref 58), (2, .int x2)], [.long (h.2.1 (58 + 1) (x2.toNatClampNeg)), .long (h.2.1 (52 + 1) (x2.toNatClampNeg)), .int x2, .ref (52 + 1)], h)) rfl).trans (z_bifA ?_)
      refine (z_X_steps (s' := (21, [(0, .ref 52), (1, .ref 58), (2, .int x2)], [.long ((h.2.1 (52 + 1) (x2.toNatClampNeg)) ||| (h.2.1 (58 + 1) (x2.toNatClampNeg))), .int x2, .ref (52 + 1)], h)) 1 rfl).trans ?_
      refine (z_X_if (g := z_in x2 4) (s' := (22, [(0, .ref 52), (1, .ref 58), (2, .int x2)], [], (z_wL h (52 + 1) (x2.toNatClampNeg) ((h.2.1 (52 + 1) (x2.toNatClampNeg)) ||| (h.2.1 (58 + 1) (x2.toNatClampNeg)))))) rfl).trans (z_bifA ?_)
      refine (z_X_steps (s' := (2, [(2, .int (x2 + 1)), (0, .ref 52), (1, .ref 58)], [], (z_wL h (52 + 1) (x2.toNatClampNeg) ((h.2.1 (52 + 1) (x2.toNatClampNeg)) ||| (h.2.1 (58 + 1) (x2.toNatClampNeg)))))) 2 rfl).trans ?_
      exact z_X_lab rfl
  · show z_X zc_Es_putAll 1 (2, [(0, .ref 52), (1, .ref 60), (2, .int x2)], [], h) = _
    refine (z_X_steps (s' := (4, [(0, .ref 52), (1, .ref 60), (2, .int x2)], [.int 4, .int x2], h)) 2 rfl).trans ?_
    refine (z_X_br (c := (4 : Int32) ≤ x2) (s1 := (28, [(0, .ref 52), (1, .ref 60), (2, .int x2)], [], h)) (s2 := (7, [(0, .ref 52), (1, .ref 60), (2, .int x2)], [], h)) rfl).trans (z_ite ?_ ?_)
    · exact z_X_ret rfl
    · refine (z_X_steps (s' := (13, [(0, .ref 52), (1, .ref 60), (2, .int x2)], [.int x2, .ref (52 + 1), .int x2, .ref (52 + 1)], h)) 4 rfl).trans ?_
      refine (z_X_if (g := z_in x2 4) (s' := (14, [(0, .ref 52), (1, .ref 60), (2, .int x2)], [.long (h.2.1 (52 + 1) (x2.toNatClampNeg)), .int x2, .ref (52 + 1)], h)) rfl).trans (z_bifA ?_)
      refine (z_X_steps (s' := (19, [(0, .ref 52), (1, .ref 60), (2, .int x2)], [.int x2, .ref (60 + 1), .long (h.2.1 (52 + 1) (x2.toNatClampNeg)), .int x2, .ref (52 + 1)], h)) 3 rfl).trans ?_
      refine (z_X_if (g := z_in x2 4) (s' := (20, [(0, .ref 52), (1, .ref 60), (2, .int x2)], [.long (h.2.1 (60 + 1) (x2.toNatClampNeg)), .long (h.2.1 (52 + 1) (x2.toNatClampNeg)), .int x2, .ref (52 + 1)], h)) rfl).trans (z_bifA ?_)
      refine (z_X_steps (s' := (21, [(0, .ref 52), (1, .ref 60), (2, .int x2)], [.long ((h.2.1 (52 + 1) (x2.toNatClampNeg)) ||| (h.2.1 (60 + 1) (x2.toNatClampNeg))), .int x2, .ref (52 + 1)], h)) 1 rfl).trans ?_
      refine (z_X_if (g := z_in x2 4) (s' := (22, [(0, .ref 52), (1, .ref 60), (2, .int x2)], [], (z_wL h (52 + 1) (x2.toNatClampNeg) ((h.2.1 (52 + 1) (x2.toNatClampNeg)) ||| (h.2.1 (60 + 1) (x2.toNatClampNeg)))))) rfl).trans (z_bifA ?_)
      refine (z_X_steps (s' := (2, [(2, .int (x2 + 1)), (0, .ref 52), (1, .ref 60)], [], (z_wL h (52 + 1) (x2.toNatClampNeg) ((h.2.1 (52 + 1) (x2.toNatClampNeg)) ||| (h.2.1 (60 + 1) (x2.toNatClampNeg)))))) 2 rfl).trans ?_
      exact z_X_lab rfl
  · show z_X zc_Es_putAll 1 (2, [(0, .ref 52), (1, .ref 62), (2, .int x2)], [], h) = _
    refine (z_X_steps (s' := (4, [(0, .ref 52), (1, .ref 62), (2, .int x2)], [.int 4, .int x2], h)) 2 rfl).trans ?_
    refine (z_X_br (c := (4 : Int32) ≤ x2) (s1 := (28, [(0, .ref 52), (1, .ref 62), (2, .int x2)], [], h)) (s2 := (7, [(0, .ref 52), (1, .ref 62), (2, .int x2)], [], h)) rfl).trans (z_ite ?_ ?_)
    · exact z_X_ret rfl
    · refine (z_X_steps (s' := (13, [(0, .ref 52), (1, .ref 62), (2, .int x2)], [.int x2, .ref (52 + 1), .int x2, .ref (52 + 1)], h)) 4 rfl).trans ?_
      refine (z_X_if (g := z_in x2 4) (s' := (14, [(0, .ref 52), (1, .ref 62), (2, .int x2)], [.long (h.2.1 (52 + 1) (x2.toNatClampNeg)), .int x2, .ref (52 + 1)], h)) rfl).trans (z_bifA ?_)
      refine (z_X_steps (s' := (19, [(0, .ref 52), (1, .ref 62), (2, .int x2)], [.int x2, .ref (62 + 1), .long (h.2.1 (52 + 1) (x2.toNatClampNeg)), .int x2, .ref (52 + 1)], h)) 3 rfl).trans ?_
      refine (z_X_if (g := z_in x2 4) (s' := (20, [(0, .ref 52), (1, .ref 62), (2, .int x2)], [.long (h.2.1 (62 + 1) (x2.toNatClampNeg)), .long (h.2.1 (52 + 1) (x2.toNatClampNeg)), .int x2, .ref (52 + 1)], h)) rfl).trans (z_bifA ?_)
      refine (z_X_steps (s' := (21, [(0, .ref 52), (1, .ref 62), (2, .int x2)], [.long ((h.2.1 (52 + 1) (x2.toNatClampNeg)) ||| (h.2.1 (62 + 1) (x2.toNatClampNeg))), .int x2, .ref (52 + 1)], h)) 1 rfl).trans ?_
      refine (z_X_if (g := z_in x2 4) (s' := (22, [(0, .ref 52), (1, .ref 62), (2, .int x2)], [], (z_wL h (52 + 1) (x2.toNatClampNeg) ((h.2.1 (52 + 1) (x2.toNatClampNeg)) ||| (h.2.1 (62 + 1) (x2.toNatClampNeg)))))) rfl).trans (z_bifA ?_)
      refine (z_X_steps (s' := (2, [(2, .int (x2 + 1)), (0, .ref 52), (1, .ref 62)], [], (z_wL h (52 + 1) (x2.toNatClampNeg) ((h.2.1 (52 + 1) (x2.toNatClampNeg)) ||| (h.2.1 (62 + 1) (x2.toNatClampNeg)))))) 2 rfl).trans ?_
      exact z_X_lab rfl
  · show z_X zc_Es_putAll 1 (2, [(0, .ref 52), (1, .ref 64), (2, .int x2)], [], h) = _
    refine (z_X_steps (s' := (4, [(0, .ref 52), (1, .ref 64), (2, .int x2)], [.int 4, .int x2], h)) 2 rfl).trans ?_
    refine (z_X_br (c := (4 : Int32) ≤ x2) (s1 := (28, [(0, .ref 52), (1, .ref 64), (2, .int x2)], [], h)) (s2 := (7, [(0, .ref 52), (1, .ref 64), (2, .int x2)], [], h)) rfl).trans (z_ite ?_ ?_)
    · exact z_X_ret rfl
    · refine (z_X_steps (s' := (13, [(0, .ref 52), (1, .ref 64), (2, .int x2)], [.int x2, .ref (52 + 1), .int x2, .ref (52 + 1)], h)) 4 rfl).trans ?_
      refine (z_X_if (g := z_in x2 4) (s' := (14, [(0, .ref 52), (1, .ref 64), (2, .int x2)], [.long (h.2.1 (52 + 1) (x2.toNatClampNeg)), .int x2, .ref (52 + 1)], h)) rfl).trans (z_bifA ?_)
      refine (z_X_steps (s' := (19, [(0, .ref 52), (1, .ref 64), (2, .int x2)], [.int x2, .ref (64 + 1), .long (h.2.1 (52 + 1) (x2.toNatClampNeg)), .int x2, .ref (52 + 1)], h)) 3 rfl).trans ?_
      refine (z_X_if (g := z_in x2 4) (s' := (20, [(0, .ref 52), (1, .ref 64), (2, .int x2)], [.long (h.2.1 (64 + 1) (x2.toNatClampNeg)), .long (h.2.1 (52 + 1) (x2.toNatClampNeg)), .int x2, .ref (52 + 1)], h)) rfl).trans (z_bifA ?_)
      refine (z_X_steps (s' := (21, [(0, .ref 52), (1, .ref 64), (2, .int x2)], [.long ((h.2.1 (52 + 1) (x2.toNatClampNeg)) ||| (h.2.1 (64 + 1) (x2.toNatClampNeg))), .int x2, .ref (52 + 1)], h)) 1 rfl).trans ?_
      refine (z_X_if (g := z_in x2 4) (s' := (22, [(0, .ref 52), (1, .ref 64), (2, .int x2)], [], (z_wL h (52 + 1) (x2.toNatClampNeg) ((h.2.1 (52 + 1) (x2.toNatClampNeg)) ||| (h.2.1 (64 + 1) (x2.toNatClampNeg)))))) rfl).trans (z_bifA ?_)
      refine (z_X_steps (s' := (2, [(2, .int (x2 + 1)), (0, .ref 52), (1, .ref 64)], [], (z_wL h (52 + 1) (x2.toNatClampNeg) ((h.2.1 (52 + 1) (x2.toNatClampNeg)) ||| (h.2.1 (64 + 1) (x2.toNatClampNeg)))))) 2 rfl).trans ?_
      exact z_X_lab rfl
  · show z_X zc_Es_putAll 1 (2, [(0, .ref 52), (1, .ref 66), (2, .int x2)], [], h) = _
    refine (z_X_steps (s' := (4, [(0, .ref 52), (1, .ref 66), (2, .int x2)], [.int 4, .int x2], h)) 2 rfl).trans ?_
    refine (z_X_br (c := (4 : Int32) ≤ x2) (s1 := (28, [(0, .ref 52), (1, .ref 66), (2, .int x2)], [], h)) (s2 := (7, [(0, .ref 52), (1, .ref 66), (2, .int x2)], [], h)) rfl).trans (z_ite ?_ ?_)
    · exact z_X_ret rfl
    · refine (z_X_steps (s' := (13, [(0, .ref 52), (1, .ref 66), (2, .int x2)], [.int x2, .ref (52 + 1), .int x2, .ref (52 + 1)], h)) 4 rfl).trans ?_
      refine (z_X_if (g := z_in x2 4) (s' := (14, [(0, .ref 52), (1, .ref 66), (2, .int x2)], [.long (h.2.1 (52 + 1) (x2.toNatClampNeg)), .int x2, .ref (52 + 1)], h)) rfl).trans (z_bifA ?_)
      refine (z_X_steps (s' := (19, [(0, .ref 52), (1, .ref 66), (2, .int x2)], [.int x2, .ref (66 + 1), .long (h.2.1 (52 + 1) (x2.toNatClampNeg)), .int x2, .ref (52 + 1)], h)) 3 rfl).trans ?_
      refine (z_X_if (g := z_in x2 4) (s' := (20, [(0, .ref 52), (1, .ref 66), (2, .int x2)], [.long (h.2.1 (66 + 1) (x2.toNatClampNeg)), .long (h.2.1 (52 + 1) (x2.toNatClampNeg)), .int x2, .ref (52 + 1)], h)) rfl).trans (z_bifA ?_)
      refine (z_X_steps (s' := (21, [(0, .ref 52), (1, .ref 66), (2, .int x2)], [.long ((h.2.1 (52 + 1) (x2.toNatClampNeg)) ||| (h.2.1 (66 + 1) (x2.toNatClampNeg))), .int x2, .ref (52 + 1)], h)) 1 rfl).trans ?_
      refine (z_X_if (g := z_in x2 4) (s' := (22, [(0, .ref 52), (1, .ref 66), (2, .int x2)], [], (z_wL h (52 + 1) (x2.toNatClampNeg) ((h.2.1 (52 + 1) (x2.toNatClampNeg)) ||| (h.2.1 (66 + 1) (x2.toNatClampNeg)))))) rfl).trans (z_bifA ?_)
      refine (z_X_steps (s' := (2, [(2, .int (x2 + 1)), (0, .ref 52), (1, .ref 66)], [], (z_wL h (52 + 1) (x2.toNatClampNeg) ((h.2.1 (52 + 1) (x2.toNatClampNeg)) ||| (h.2.1 (66 + 1) (x2.toNatClampNeg)))))) 2 rfl).trans ?_
      exact z_X_lab rfl
  · show z_X zc_Es_putAll 1 (2, [(0, .ref 52), (1, .ref 68), (2, .int x2)], [], h) = _
    refine (z_X_steps (s' := (4, [(0, .ref 52), (1, .ref 68), (2, .int x2)], [.int 4, .int x2], h)) 2 rfl).trans ?_
    refine (z_X_br (c := (4 : Int32) ≤ x2) (s1 := (28, [(0, .ref 52), (1, .ref 68), (2, .int x2)], [], h)) (s2 := (7, [(0, .ref 52), (1, .ref 68), (2, .int x2)], [], h)) rfl).trans (z_ite ?_ ?_)
    · exact z_X_ret rfl
    · refine (z_X_steps (s' := (13, [(0, .ref 52), (1, .ref 68), (2, .int x2)], [.int x2, .ref (52 + 1), .int x2, .ref (52 + 1)], h)) 4 rfl).trans ?_
      refine (z_X_if (g := z_in x2 4) (s' := (14, [(0, .ref 52), (1, .ref 68), (2, .int x2)], [.long (h.2.1 (52 + 1) (x2.toNatClampNeg)), .int x2, .ref (52 + 1)], h)) rfl).trans (z_bifA ?_)
      refine (z_X_steps (s' := (19, [(0, .ref 52), (1, .ref 68), (2, .int x2)], [.int x2, .ref (68 + 1), .long (h.2.1 (52 + 1) (x2.toNatClampNeg)), .int x2, .ref (52 + 1)], h)) 3 rfl).trans ?_
      refine (z_X_if (g := z_in x2 4) (s' := (20, [(0, .ref 52), (1, .ref 68), (2, .int x2)], [.long (h.2.1 (68 + 1) (x2.toNatClampNeg)), .long (h.2.1 (52 + 1) (x2.toNatClampNeg)), .int x2, .ref (52 + 1)], h)) rfl).trans (z_bifA ?_)
      refine (z_X_steps (s' := (21, [(0, .ref 52), (1, .ref 68), (2, .int x2)], [.long ((h.2.1 (52 + 1) (x2.toNatClampNeg)) ||| (h.2.1 (68 + 1) (x2.toNatClampNeg))), .int x2, .ref (52 + 1)], h)) 1 rfl).trans ?_
      refine (z_X_if (g := z_in x2 4) (s' := (22, [(0, .ref 52), (1, .ref 68), (2, .int x2)], [], (z_wL h (52 + 1) (x2.toNatClampNeg) ((h.2.1 (52 + 1) (x2.toNatClampNeg)) ||| (h.2.1 (68 + 1) (x2.toNatClampNeg)))))) rfl).trans (z_bifA ?_)
      refine (z_X_steps (s' := (2, [(2, .int (x2 + 1)), (0, .ref 52), (1, .ref 68)], [], (z_wL h (52 + 1) (x2.toNatClampNeg) ((h.2.1 (52 + 1) (x2.toNatClampNeg)) ||| (h.2.1 (68 + 1) (x2.toNatClampNeg)))))) 2 rfl).trans ?_
      exact z_X_lab rfl
noncomputable def zl_Es_takeOut_2 (o : Nat) (p : Nat) (x2 : Int32) (h : z_H) : Option z_A := z_X zc_Es_takeOut 1 (2, [(0, .ref o), (1, .ref p), (2, .int x2)], [], h)
set_option maxRecDepth 8000 in
set_option maxHeartbeats 2000000 in
theorem e_Es_takeOut {o : Nat} {p : Nat} (hi : (o, p) ∈ [(50, 54), (50, 56), (50, 58), (50, 60), (50, 62), (50, 64), (50, 66), (50, 68)]) (h : z_H) : z_M 105 [.ref o, .ref p] h = zl_Es_takeOut_2 o p 0 h := by
  refine (z_M_eq (by decide)).trans ?_
  simp only [List.mem_cons, List.not_mem_nil, or_false, Prod.mk.injEq] at hi
  rcases hi with ⟨rfl, rfl⟩ | ⟨rfl, rfl⟩ | ⟨rfl, rfl⟩ | ⟨rfl, rfl⟩ | ⟨rfl, rfl⟩ | ⟨rfl, rfl⟩ | ⟨rfl, rfl⟩ | ⟨rfl, rfl⟩
  · show z_X zc_Es_takeOut 1 (0, [(0, .ref 50), (1, .ref 54)], [], h) = _
    refine (z_X_steps (s' := (2, [(2, .int 0), (0, .ref 50), (1, .ref 54)], [], h)) 2 rfl).trans ?_
    exact z_X_lab rfl
  · show z_X zc_Es_takeOut 1 (0, [(0, .ref 50), (1, .ref 56)], [], h) = _
    refine (z_X_steps (s' := (2, [(2, .int 0), (0, .ref 50), (1, .ref 56)], [], h)) 2 rfl).trans ?_
    exact z_X_lab rfl
  · show z_X zc_Es_takeOut 1 (0, [(0, .ref 50), (1, .ref 58)], [], h) = _
    refine (z_X_steps (s' := (2, [(2, .int 0), (0, .ref 50), (1, .ref 58)], [], h)) 2 rfl).trans ?_
    exact z_X_lab rfl
  · show z_X zc_Es_takeOut 1 (0, [(0, .ref 50), (1, .ref 60)], [], h) = _
    refine (z_X_steps (s' := (2, [(2, .int 0), (0, .ref 50), (1, .ref 60)], [], h)) 2 rfl).trans ?_
    exact z_X_lab rfl
  · show z_X zc_Es_takeOut 1 (0, [(0, .ref 50), (1, .ref 62)], [], h) = _
    refine (z_X_steps (s' := (2, [(2, .int 0), (0, .ref 50), (1, .ref 62)], [], h)) 2 rfl).trans ?_
    exact z_X_lab rfl
  · show z_X zc_Es_takeOut 1 (0, [(0, .ref 50), (1, .ref 64)], [], h) = _
    refine (z_X_steps (s' := (2, [(2, .int 0), (0, .ref 50), (1, .ref 64)], [], h)) 2 rfl).trans ?_
    exact z_X_lab rfl
  · show z_X zc_Es_takeOut 1 (0, [(0, .ref 50), (1, .ref 66)], [], h) = _
    refine (z_X_steps (s' := (2, [(2, .int 0), (0, .ref 50), (1, .ref 66)], [], h)) 2 rfl).trans ?_
    exact z_X_lab rfl
  · show z_X zc_Es_takeOut 1 (0, [(0, .ref 50), (1, .ref 68)], [], h) = _
    refine (z_X_steps (s' := (2, [(2, .int 0), (0, .ref 50), (1, .ref 68)], [], h)) 2 rfl).trans ?_
    exact z_X_lab rfl
set_option maxRecDepth 8000 in
set_option maxHeartbeats 2000000 in
theorem e_Es_takeOut_2 {o : Nat} {p : Nat} (hi : (o, p) ∈ [(50, 54), (50, 56), (50, 58), (50, 60), (50, 62), (50, 64), (50, 66), (50, 68)]) (x2 : Int32) (h : z_H) : zl_Es_takeOut_2 o p x2 h = (if (4 : Int32) ≤ x2 then some (0, h) else (bif z_in x2 4 then (bif z_in x2 4 then (bif z_in x2 4 then zl_Es_takeOut_2 o p (x2 + 1) (z_wL h (o + 1) (x2.toNatClampNeg) ((h.2.1 (o + 1) (x2.toNatClampNeg)) &&& ((h.2.1 (p + 1) (x2.toNatClampNeg)) ^^^ (((-1) : Int32).toInt64)))) else none) else none) else none)) := by
  simp only [List.mem_cons, List.not_mem_nil, or_false, Prod.mk.injEq] at hi
  rcases hi with ⟨rfl, rfl⟩ | ⟨rfl, rfl⟩ | ⟨rfl, rfl⟩ | ⟨rfl, rfl⟩ | ⟨rfl, rfl⟩ | ⟨rfl, rfl⟩ | ⟨rfl, rfl⟩ | ⟨rfl, rfl⟩
  · show z_X zc_Es_takeOut 1 (2, [(0, .ref 50), (1, .ref 54), (2, .int x2)], [], h) = _
    refine (z_X_steps (s' := (4, [(0, .ref 50), (1, .ref 54), (2, .int x2)], [.int 4, .int x2], h)) 2 rfl).trans ?_
    refine (z_X_br (c := (4 : Int32) ≤ x2) (s1 := (32, [(0, .ref 50), (1, .ref 54), (2, .int x2)], [], h)) (s2 := (7, [(0, .ref 50), (1, .ref 54), (2, .int x2)], [], h)) rfl).trans (z_ite ?_ ?_)
    · exact z_X_ret rfl
    · refine (z_X_steps (s' := (13, [(0, .ref 50), (1, .ref 54), (2, .int x2)], [.int x2, .ref (50 + 1), .int x2, .ref (50 + 1)], h)) 4 rfl).trans ?_
      refine (z_X_if (g := z_in x2 4) (s' := (14, [(0, .ref 50), (1, .ref 54), (2, .int x2)], [.long (h.2.1 (50 + 1) (x2.toNatClampNeg)), .int x2, .ref (50 + 1)], h)) rfl).trans (z_bifA ?_)
      refine (z_X_steps (s' := (19, [(0, .ref 50), (1, .ref 54), (2, .int x2)], [.int x2, .ref (54 + 1), .long (h.2.1 (50 + 1) (x2.toNatClampNeg)), .int x2, .ref (50 + 1)], h)) 3 rfl).trans ?_
      refine (z_X_if (g := z_in x2 4) (s' := (20, [(0, .ref 50), (1, .ref 54), (2, .int x2)], [.long (h.2.1 (54 + 1) (x2.toNatClampNeg)), .long (h.2.1 (50 + 1) (x2.toNatClampNeg)), .int x2, .ref (50 + 1)], h)) rfl).trans (z_bifA ?_)
      refine (z_X_steps (s' := (25, [(0, .ref 50), (1, .ref 54), (2, .int x2)], [.long ((h.2.1 (50 + 1) (x2.toNatClampNeg)) &&& ((h.2.1 (54 + 1) (x2.toNatClampNeg)) ^^^ (((-1) : Int32).toInt64))), .int x2, .ref (50 + 1)], h)) 3 rfl).trans ?_
      refine (z_X_if (g := z_in x2 4) (s' := (26, [(0, .ref 50), (1, .ref 54), (2, .int x2)], [], (z_wL h (50 + 1) (x2.toNatClampNeg) ((h.2.1 (50 + 1) (x2.toNatClampNeg)) &&& ((h.2.1 (54 + 1) (x2.toNatClampNeg)) ^^^ (((-1) : Int32).toInt64)))))) rfl).trans (z_bifA ?_)
      refine (z_X_steps (s' := (2, [(2, .int (x2 + 1)), (0, .ref 50), (1, .ref 54)], [], (z_wL h (50 + 1) (x2.toNatClampNeg) ((h.2.1 (50 + 1) (x2.toNatClampNeg)) &&& ((h.2.1 (54 + 1) (x2.toNatClampNeg)) ^^^ (((-1) : Int32).toInt64)))))) 2 rfl).trans ?_
      exact z_X_lab rfl
  · show z_X zc_Es_takeOut 1 (2, [(0, .ref 50), (1, .ref 56), (2, .int x2)], [], h) = _
    refine (z_X_steps (s' := (4, [(0, .ref 50), (1, .ref 56), (2, .int x2)], [.int 4, .int x2], h)) 2 rfl).trans ?_
    refine (z_X_br (c := (4 : Int32) ≤ x2) (s1 := (32, [(0, .ref 50), (1, .ref 56), (2, .int x2)], [], h)) (s2 := (7, [(0, .ref 50), (1, .ref 56), (2, .int x2)], [], h)) rfl).trans (z_ite ?_ ?_)
    · exact z_X_ret rfl
    · refine (z_X_steps (s' := (13, [(0, .ref 50), (1, .ref 56), (2, .int x2)], [.int x2, .ref (50 + 1), .int x2, .ref (50 + 1)], h)) 4 rfl).trans ?_
      refine (z_X_if (g := z_in x2 4) (s' := (14, [(0, .ref 50), (1, .ref 56), (2, .int x2)], [.long (h.2.1 (50 + 1) (x2.toNatClampNeg)), .int x2, .ref (50 + 1)], h)) rfl).trans (z_bifA ?_)
      refine (z_X_steps (s' := (19, [(0, .ref 50), (1, .ref 56), (2, .int x2)], [.int x2, .ref (56 + 1), .long (h.2.1 (50 + 1) (x2.toNatClampNeg)), .int x2, .ref (50 + 1)], h)) 3 rfl).trans ?_
      refine (z_X_if (g := z_in x2 4) (s' := (20, [(0, .ref 50), (1, .ref 56), (2, .int x2)], [.long (h.2.1 (56 + 1) (x2.toNatClampNeg)), .long (h.2.1 (50 + 1) (x2.toNatClampNeg)), .int x2, .ref (50 + 1)], h)) rfl).trans (z_bifA ?_)
      refine (z_X_steps (s' := (25, [(0, .ref 50), (1, .ref 56), (2, .int x2)], [.long ((h.2.1 (50 + 1) (x2.toNatClampNeg)) &&& ((h.2.1 (56 + 1) (x2.toNatClampNeg)) ^^^ (((-1) : Int32).toInt64))), .int x2, .ref (50 + 1)], h)) 3 rfl).trans ?_
      refine (z_X_if (g := z_in x2 4) (s' := (26, [(0, .ref 50), (1, .ref 56), (2, .int x2)], [], (z_wL h (50 + 1) (x2.toNatClampNeg) ((h.2.1 (50 + 1) (x2.toNatClampNeg)) &&& ((h.2.1 (56 + 1) (x2.toNatClampNeg)) ^^^ (((-1) : Int32).toInt64)))))) rfl).trans (z_bifA ?_)
      refine (z_X_steps (s' := (2, [(2, .int (x2 + 1)), (0, .ref 50), (1, .ref 56)], [], (z_wL h (50 + 1) (x2.toNatClampNeg) ((h.2.1 (50 + 1) (x2.toNatClampNeg)) &&& ((h.2.1 (56 + 1) (x2.toNatClampNeg)) ^^^ (((-1) : Int32).toInt64)))))) 2 rfl).trans ?_
      exact z_X_lab rfl
  · show z_X zc_Es_takeOut 1 (2, [(0, .ref 50), (1, .ref 58), (2, .int x2)], [], h) = _
    refine (z_X_steps (s' := (4, [(0, .ref 50), (1, .ref 58), (2, .int x2)], [.int 4, .int x2], h)) 2 rfl).trans ?_
    refine (z_X_br (c := (4 : Int32) ≤ x2) (s1 := (32, [(0, .ref 50), (1, .ref 58), (2, .int x2)], [], h)) (s2 := (7, [(0, .ref 50), (1, .ref 58), (2, .int x2)], [], h)) rfl).trans (z_ite ?_ ?_)
    · exact z_X_ret rfl
    · refine (z_X_steps (s' := (13, [(0, .ref 50), (1, .ref 58), (2, .int x2)], [.int x2, .ref (50 + 1), .int x2, .ref (50 + 1)], h)) 4 rfl).trans ?_
      refine (z_X_if (g := z_in x2 4) (s' := (14, [(0, .ref 50), (1, .ref 58), (2, .int x2)], [.long (h.2.1 (50 + 1) (x2.toNatClampNeg)), .int x2, .ref (50 + 1)], h)) rfl).trans (z_bifA ?_)
      refine (z_X_steps (s' := (19, [(0, .ref 50), (1, .ref 58), (2, .int x2)], [.int x2, .ref (58 + 1), .long (h.2.1 (50 + 1) (x2.toNatClampNeg)), .int x2, .ref (50 + 1)], h)) 3 rfl).trans ?_
      refine (z_X_if (g := z_in x2 4) (s' := (20, [(0, .ref 50), (1, .ref 58), (2, .int x2)], [.long (h.2.1 (58 + 1) (x2.toNatClampNeg)), .long (h.2.1 (50 + 1) (x2.toNatClampNeg)), .int x2, .ref (50 + 1)], h)) rfl).trans (z_bifA ?_)
      refine (z_X_steps (s' := (25, [(0, .ref 50), (1, .ref 58), (2, .int x2)], [.long ((h.2.1 (50 + 1) (x2.toNatClampNeg)) &&& ((h.2.1 (58 + 1) (x2.toNatClampNeg)) ^^^ (((-1) : Int32).toInt64))), .int x2, .ref (50 + 1)], h)) 3 rfl).trans ?_
      refine (z_X_if (g := z_in x2 4) (s' := (26, [(0, .ref 50), (1, .ref 58), (2, .int x2)], [], (z_wL h (50 + 1) (x2.toNatClampNeg) ((h.2.1 (50 + 1) (x2.toNatClampNeg)) &&& ((h.2.1 (58 + 1) (x2.toNatClampNeg)) ^^^ (((-1) : Int32).toInt64)))))) rfl).trans (z_bifA ?_)
      refine (z_X_steps (s' := (2, [(2, .int (x2 + 1)), (0, .ref 50), (1, .ref 58)], [], (z_wL h (50 + 1) (x2.toNatClampNeg) ((h.2.1 (50 + 1) (x2.toNatClampNeg)) &&& ((h.2.1 (58 + 1) (x2.toNatClampNeg)) ^^^ (((-1) : Int32).toInt64)))))) 2 rfl).trans ?_
      exact z_X_lab rfl
  · show z_X zc_Es_takeOut 1 (2, [(0, .ref 50), (1, .ref 60), (2, .int x2)], [], h) = _
    refine (z_X_steps (s' := (4, [(0, .ref 50), (1, .ref 60), (2, .int x2)], [.int 4, .int x2], h)) 2 rfl).trans ?_
    refine (z_X_br (c := (4 : Int32) ≤ x2) (s1 := (32, [(0, .ref 50), (1, .ref 60), (2, .int x2)], [], h)) (s2 := (7, [(0, .ref 50), (1, .ref 60), (2, .int x2)], [], h)) rfl).trans (z_ite ?_ ?_)
    · exact z_X_ret rfl
    · refine (z_X_steps (s' := (13, [(0, .ref 50), (1, .ref 60), (2, .int x2)], [.int x2, .ref (50 + 1), .int x2, .ref (50 + 1)], h)) 4 rfl).trans ?_
      refine (z_X_if (g := z_in x2 4) (s' := (14, [(0, .ref 50), (1, .ref 60), (2, .int x2)], [.long (h.2.1 (50 + 1) (x2.toNatClampNeg)), .int x2, .ref (50 + 1)], h)) rfl).trans (z_bifA ?_)
      refine (z_X_steps (s' := (19, [(0, .ref 50), (1, .ref 60), (2, .int x2)], [.int x2, .ref (60 + 1), .long (h.2.1 (50 + 1) (x2.toNatClampNeg)), .int x2, .ref (50 + 1)], h)) 3 rfl).trans ?_
      refine (z_X_if (g := z_in x2 4) (s' := (20, [(0, .ref 50), (1, .ref 60), (2, .int x2)], [.long (h.2.1 (60 + 1) (x2.toNatClampNeg)), .long (h.2.1 (50 + 1) (x2.toNatClampNeg)), .int x2, .ref (50 + 1)], h)) rfl).trans (z_bifA ?_)
      refine (z_X_steps (s' := (25, [(0, .ref 50), (1, .ref 60), (2, .int x2)], [.long ((h.2.1 (50 + 1) (x2.toNatClampNeg)) &&& ((h.2.1 (60 + 1) (x2.toNatClampNeg)) ^^^ (((-1) : Int32).toInt64))), .int x2, .ref (50 + 1)], h)) 3 rfl).trans ?_
      refine (z_X_if (g := z_in x2 4) (s' := (26, [(0, .ref 50), (1, .ref 60), (2, .int x2)], [], (z_wL h (50 + 1) (x2.toNatClampNeg) ((h.2.1 (50 + 1) (x2.toNatClampNeg)) &&& ((h.2.1 (60 + 1) (x2.toNatClampNeg)) ^^^ (((-1) : Int32).toInt64)))))) rfl).trans (z_bifA ?_)
      refine (z_X_steps (s' := (2, [(2, .int (x2 + 1)), (0, .ref 50), (1, .ref 60)], [], (z_wL h (50 + 1) (x2.toNatClampNeg) ((h.2.1 (50 + 1) (x2.toNatClampNeg)) &&& ((h.2.1 (60 + 1) (x2.toNatClampNeg)) ^^^ (((-1) : Int32).toInt64)))))) 2 rfl).trans ?_
      exact z_X_lab rfl
  · show z_X zc_Es_takeOut 1 (2, [(0, .ref 50), (1, .ref 62), (2, .int x2)], [], h) = _
    refine (z_X_steps (s' := (4, [(0, .ref 50), (1, .ref 62), (2, .int x2)], [.int 4, .int x2], h)) 2 rfl).trans ?_
    refine (z_X_br (c := (4 : Int32) ≤ x2) (s1 := (32, [(0, .ref 50), (1, .ref 62), (2, .int x2)], [], h)) (s2 := (7, [(0, .ref 50), (1, .ref 62), (2, .int x2)], [], h)) rfl).trans (z_ite ?_ ?_)
    · exact z_X_ret rfl
    · refine (z_X_steps (s' := (13, [(0, .ref 50), (1, .ref 62), (2, .int x2)], [.int x2, .ref (50 + 1), .int x2, .ref (50 + 1)], h)) 4 rfl).trans ?_
      refine (z_X_if (g := z_in x2 4) (s' := (14, [(0, .ref 50), (1, .ref 62), (2, .int x2)], [.long (h.2.1 (50 + 1) (x2.toNatClampNeg)), .int x2, .ref (50 + 1)], h)) rfl).trans (z_bifA ?_)
      refine (z_X_steps (s' := (19, [(0, .ref 50), (1, .ref 62), (2, .int x2)], [.int x2, .ref (62 + 1), .long (h.2.1 (50 + 1) (x2.toNatClampNeg)), .int x2, .ref (50 + 1)], h)) 3 rfl).trans ?_
      refine (z_X_if (g := z_in x2 4) (s' := (20, [(0, .ref 50), (1, .ref 62), (2, .int x2)], [.long (h.2.1 (62 + 1) (x2.toNatClampNeg)), .long (h.2.1 (50 + 1) (x2.toNatClampNeg)), .int x2, .ref (50 + 1)], h)) rfl).trans (z_bifA ?_)
      refine (z_X_steps (s' := (25, [(0, .ref 50), (1, .ref 62), (2, .int x2)], [.long ((h.2.1 (50 + 1) (x2.toNatClampNeg)) &&& ((h.2.1 (62 + 1) (x2.toNatClampNeg)) ^^^ (((-1) : Int32).toInt64))), .int x2, .ref (50 + 1)], h)) 3 rfl).trans ?_
      refine (z_X_if (g := z_in x2 4) (s' := (26, [(0, .ref 50), (1, .ref 62), (2, .int x2)], [], (z_wL h (50 + 1) (x2.toNatClampNeg) ((h.2.1 (50 + 1) (x2.toNatClampNeg)) &&& ((h.2.1 (62 + 1) (x2.toNatClampNeg)) ^^^ (((-1) : Int32).toInt64)))))) rfl).trans (z_bifA ?_)
      refine (z_X_steps (s' := (2, [(2, .int (x2 + 1)), (0, .ref 50), (1, .ref 62)], [], (z_wL h (50 + 1) (x2.toNatClampNeg) ((h.2.1 (50 + 1) (x2.toNatClampNeg)) &&& ((h.2.1 (62 + 1) (x2.toNatClampNeg)) ^^^ (((-1) : Int32).toInt64)))))) 2 rfl).trans ?_
      exact z_X_lab rfl
  · show z_X zc_Es_takeOut 1 (2, [(0, .ref 50), (1, .ref 64), (2, .int x2)], [], h) = _
    refine (z_X_steps (s' := (4, [(0, .ref 50), (1, .ref 64), (2, .int x2)], [.int 4, .int x2], h)) 2 rfl).trans ?_
    refine (z_X_br (c := (4 : Int32) ≤ x2) (s1 := (32, [(0, .ref 50), (1, .ref 64), (2, .int x2)], [], h)) (s2 := (7, [(0, .ref 50), (1, .ref 64), (2, .int x2)], [], h)) rfl).trans (z_ite ?_ ?_)
    · exact z_X_ret rfl
    · refine (z_X_steps (s' := (13, [(0, .ref 50), (1, .ref 64), (2, .int x2)], [.int x2, .ref (50 + 1), .int x2, .ref (50 + 1)], h)) 4 rfl).trans ?_
      refine (z_X_if (g := z_in x2 4) (s' := (14, [(0, .ref 50), (1, .ref 64), (2, .int x2)], [.long (h.2.1 (50 + 1) (x2.toNatClampNeg)), .int x2, .ref (50 + 1)], h)) rfl).trans (z_bifA ?_)
      refine (z_X_steps (s' := (19, [(0, .ref 50), (1, .ref 64), (2, .int x2)], [.int x2, .ref (64 + 1), .long (h.2.1 (50 + 1) (x2.toNatClampNeg)), .int x2, .ref (50 + 1)], h)) 3 rfl).trans ?_
      refine (z_X_if (g := z_in x2 4) (s' := (20, [(0, .ref 50), (1, .ref 64), (2, .int x2)], [.long (h.2.1 (64 + 1) (x2.toNatClampNeg)), .long (h.2.1 (50 + 1) (x2.toNatClampNeg)), .int x2, .ref (50 + 1)], h)) rfl).trans (z_bifA ?_)
      refine (z_X_steps (s' := (25, [(0, .ref 50), (1, .ref 64), (2, .int x2)], [.long ((h.2.1 (50 + 1) (x2.toNatClampNeg)) &&& ((h.2.1 (64 + 1) (x2.toNatClampNeg)) ^^^ (((-1) : Int32).toInt64))), .int x2, .ref (50 + 1)], h)) 3 rfl).trans ?_
      refine (z_X_if (g := z_in x2 4) (s' := (26, [(0, .ref 50), (1, .ref 64), (2, .int x2)], [], (z_wL h (50 + 1) (x2.toNatClampNeg) ((h.2.1 (50 + 1) (x2.toNatClampNeg)) &&& ((h.2.1 (64 + 1) (x2.toNatClampNeg)) ^^^ (((-1) : Int32).toInt64)))))) rfl).trans (z_bifA ?_)
      refine (z_X_steps (s' := (2, [(2, .int (x2 + 1)), (0, .ref 50), (1, .ref 64)], [], (z_wL h (50 + 1) (x2.toNatClampNeg) ((h.2.1 (50 + 1) (x2.toNatClampNeg)) &&& ((h.2.1 (64 + 1) (x2.toNatClampNeg)) ^^^ (((-1) : Int32).toInt64)))))) 2 rfl).trans ?_
      exact z_X_lab rfl
  · show z_X zc_Es_takeOut 1 (2, [(0, .ref 50), (1, .ref 66), (2, .int x2)], [], h) = _
    refine (z_X_steps (s' := (4, [(0, .ref 50), (1, .ref 66), (2, .int x2)], [.int 4, .int x2], h)) 2 rfl).trans ?_
    refine (z_X_br (c := (4 : Int32) ≤ x2) (s1 := (32, [(0, .ref 50), (1, .ref 66), (2, .int x2)], [], h)) (s2 := (7, [(0, .ref 50), (1, .ref 66), (2, .int x2)], [], h)) rfl).trans (z_ite ?_ ?_)
    · exact z_X_ret rfl
    · refine (z_X_steps (s' := (13, [(0, .ref 50), (1, .ref 66), (2, .int x2)], [.int x2, .ref (50 + 1), .int x2, .ref (50 + 1)], h)) 4 rfl).trans ?_
      refine (z_X_if (g := z_in x2 4) (s' := (14, [(0, .ref 50), (1, .ref 66), (2, .int x2)], [.long (h.2.1 (50 + 1) (x2.toNatClampNeg)), .int x2, .ref (50 + 1)], h)) rfl).trans (z_bifA ?_)
      refine (z_X_steps (s' := (19, [(0, .ref 50), (1, .ref 66), (2, .int x2)], [.int x2, .ref (66 + 1), .long (h.2.1 (50 + 1) (x2.toNatClampNeg)), .int x2, .ref (50 + 1)], h)) 3 rfl).trans ?_
      refine (z_X_if (g := z_in x2 4) (s' := (20, [(0, .ref 50), (1, .ref 66), (2, .int x2)], [.long (h.2.1 (66 + 1) (x2.toNatClampNeg)), .long (h.2.1 (50 + 1) (x2.toNatClampNeg)), .int x2, .ref (50 + 1)], h)) rfl).trans (z_bifA ?_)
      refine (z_X_steps (s' := (25, [(0, .ref 50), (1, .ref 66), (2, .int x2)], [.long ((h.2.1 (50 + 1) (x2.toNatClampNeg)) &&& ((h.2.1 (66 + 1) (x2.toNatClampNeg)) ^^^ (((-1) : Int32).toInt64))), .int x2, .ref (50 + 1)], h)) 3 rfl).trans ?_
      refine (z_X_if (g := z_in x2 4) (s' := (26, [(0, .ref 50), (1, .ref 66), (2, .int x2)], [], (z_wL h (50 + 1) (x2.toNatClampNeg) ((h.2.1 (50 + 1) (x2.toNatClampNeg)) &&& ((h.2.1 (66 + 1) (x2.toNatClampNeg)) ^^^ (((-1) : Int32).toInt64)))))) rfl).trans (z_bifA ?_)
      refine (z_X_steps (s' := (2, [(2, .int (x2 + 1)), (0, .ref 50), (1, .ref 66)], [], (z_wL h (50 + 1) (x2.toNatClampNeg) ((h.2.1 (50 + 1) (x2.toNatClampNeg)) &&& ((h.2.1 (66 + 1) (x2.toNatClampNeg)) ^^^ (((-1) : Int32).toInt64)))))) 2 rfl).trans ?_
      exact z_X_lab rfl
  · show z_X zc_Es_takeOut 1 (2, [(0, .ref 50), (1, .ref 68), (2, .int x2)], [], h) = _
    refine (z_X_steps (s' := (4, [(0, .ref 50), (1, .ref 68), (2, .int x2)], [.int 4, .int x2], h)) 2 rfl).trans ?_
    refine (z_X_br (c := (4 : Int32) ≤ x2) (s1 := (32, [(0, .ref 50), (1, .ref 68), (2, .int x2)], [], h)) (s2 := (7, [(0, .ref 50), (1, .ref 68), (2, .int x2)], [], h)) rfl).trans (z_ite ?_ ?_)
    · exact z_X_ret rfl
    · refine (z_X_steps (s' := (13, [(0, .ref 50), (1, .ref 68), (2, .int x2)], [.int x2, .ref (50 + 1), .int x2, .ref (50 + 1)], h)) 4 rfl).trans ?_
      refine (z_X_if (g := z_in x2 4) (s' := (14, [(0, .ref 50), (1, .ref 68), (2, .int x2)], [.long (h.2.1 (50 + 1) (x2.toNatClampNeg)), .int x2, .ref (50 + 1)], h)) rfl).trans (z_bifA ?_)
      refine (z_X_steps (s' := (19, [(0, .ref 50), (1, .ref 68), (2, .int x2)], [.int x2, .ref (68 + 1), .long (h.2.1 (50 + 1) (x2.toNatClampNeg)), .int x2, .ref (50 + 1)], h)) 3 rfl).trans ?_
      refine (z_X_if (g := z_in x2 4) (s' := (20, [(0, .ref 50), (1, .ref 68), (2, .int x2)], [.long (h.2.1 (68 + 1) (x2.toNatClampNeg)), .long (h.2.1 (50 + 1) (x2.toNatClampNeg)), .int x2, .ref (50 + 1)], h)) rfl).trans (z_bifA ?_)
      refine (z_X_steps (s' := (25, [(0, .ref 50), (1, .ref 68), (2, .int x2)], [.long ((h.2.1 (50 + 1) (x2.toNatClampNeg)) &&& ((h.2.1 (68 + 1) (x2.toNatClampNeg)) ^^^ (((-1) : Int32).toInt64))), .int x2, .ref (50 + 1)], h)) 3 rfl).trans ?_
      refine (z_X_if (g := z_in x2 4) (s' := (26, [(0, .ref 50), (1, .ref 68), (2, .int x2)], [], (z_wL h (50 + 1) (x2.toNatClampNeg) ((h.2.1 (50 + 1) (x2.toNatClampNeg)) &&& ((h.2.1 (68 + 1) (x2.toNatClampNeg)) ^^^ (((-1) : Int32).toInt64)))))) rfl).trans (z_bifA ?_)
      refine (z_X_steps (s' := (2, [(2, .int (x2 + 1)), (0, .ref 50), (1, .ref 68)], [], (z_wL h (50 + 1) (x2.toNatClampNeg) ((h.2.1 (50 + 1) (x2.toNatClampNeg)) &&& ((h.2.1 (68 + 1) (x2.toNatClampNeg)) ^^^ (((-1) : Int32).toInt64)))))) 2 rfl).trans ?_
      exact z_X_lab rfl
set_option maxRecDepth 8000 in
set_option maxHeartbeats 2000000 in
theorem e_Es_holds {o : Nat} (hi : o ∈ [38, 41, 50, 52, 54, 56, 58, 60, 62, 64, 66, 68]) (x1 : Int32) (h : z_H) : z_M 106 [.ref o, .int x1] h = (if x1 < 0 then some (0, h) else (if (216 : Int32) ≤ x1 then some (0, h) else (bif z_in (x1 / 64) 4 then some (((((h.2.1 (o + 1) ((x1 / 64).toNatClampNeg)).toUInt64 >>> ((x1 - x1 / 64 * 64).toInt64.toUInt64 &&& Int64.toUInt64 63)).toInt64) &&& ((1 : Int32).toInt64)).toInt32, h) else none))) := by
  refine (z_M_eq (by decide)).trans ?_
  simp only [List.mem_cons, List.not_mem_nil, or_false, Prod.mk.injEq] at hi
  rcases hi with rfl | rfl | rfl | rfl | rfl | rfl | rfl | rfl | rfl | rfl | rfl | rfl
  · show z_X zc_Es_holds 1 (0, [(0, .ref 38), (1, .int x1)], [], h) = _
    refine (z_X_steps (s' := (1, [(0, .ref 38), (1, .int x1)], [.int x1], h)) 1 rfl).trans ?_
    refine (z_X_br (c := x1 < 0) (s1 := (31, [(0, .ref 38), (1, .int x1)], [], h)) (s2 := (4, [(0, .ref 38), (1, .int x1)], [], h)) rfl).trans (z_ite ?_ ?_)
    · refine (z_X_steps (s' := (32, [(0, .ref 38), (1, .int x1)], [.int 0], h)) 1 rfl).trans ?_
      exact z_X_ret rfl
    · refine (z_X_steps (s' := (8, [(0, .ref 38), (1, .int x1)], [.int 216, .int x1], h)) 2 rfl).trans ?_
      refine (z_X_br (c := (216 : Int32) ≤ x1) (s1 := (31, [(0, .ref 38), (1, .int x1)], [], h)) (s2 := (11, [(0, .ref 38), (1, .int x1)], [], h)) rfl).trans (z_ite ?_ ?_)
      · refine (z_X_steps (s' := (32, [(0, .ref 38), (1, .int x1)], [.int 0], h)) 1 rfl).trans ?_
        exact z_X_ret rfl
      · refine (z_X_steps (s' := (19, [(0, .ref 38), (1, .int x1)], [.int (x1 / 64), .ref (38 + 1)], h)) 5 rfl).trans ?_
        refine (z_X_if (g := z_in (x1 / 64) 4) (s' := (20, [(0, .ref 38), (1, .int x1)], [.long (h.2.1 (38 + 1) ((x1 / 64).toNatClampNeg))], h)) rfl).trans (z_bifA ?_)
        refine (z_X_steps (s' := (32, [(0, .ref 38), (1, .int x1)], [.int (((((h.2.1 (38 + 1) ((x1 / 64).toNatClampNeg)).toUInt64 >>> ((x1 - x1 / 64 * 64).toInt64.toUInt64 &&& Int64.toUInt64 63)).toInt64) &&& ((1 : Int32).toInt64)).toInt32)], h)) 8 rfl).trans ?_
        exact z_X_ret rfl
  · show z_X zc_Es_holds 1 (0, [(0, .ref 41), (1, .int x1)], [], h) = _
    refine (z_X_steps (s' := (1, [(0, .ref 41), (1, .int x1)], [.int x1], h)) 1 rfl).trans ?_
    refine (z_X_br (c := x1 < 0) (s1 := (31, [(0, .ref 41), (1, .int x1)], [], h)) (s2 := (4, [(0, .ref 41), (1, .int x1)], [], h)) rfl).trans (z_ite ?_ ?_)
    · refine (z_X_steps (s' := (32, [(0, .ref 41), (1, .int x1)], [.int 0], h)) 1 rfl).trans ?_
      exact z_X_ret rfl
    · refine (z_X_steps (s' := (8, [(0, .ref 41), (1, .int x1)], [.int 216, .int x1], h)) 2 rfl).trans ?_
      refine (z_X_br (c := (216 : Int32) ≤ x1) (s1 := (31, [(0, .ref 41), (1, .int x1)], [], h)) (s2 := (11, [(0, .ref 41), (1, .int x1)], [], h)) rfl).trans (z_ite ?_ ?_)
      · refine (z_X_steps (s' := (32, [(0, .ref 41), (1, .int x1)], [.int 0], h)) 1 rfl).trans ?_
        exact z_X_ret rfl
      · refine (z_X_steps (s' := (19, [(0, .ref 41), (1, .int x1)], [.int (x1 / 64), .ref (41 + 1)], h)) 5 rfl).trans ?_
        refine (z_X_if (g := z_in (x1 / 64) 4) (s' := (20, [(0, .ref 41), (1, .int x1)], [.long (h.2.1 (41 + 1) ((x1 / 64).toNatClampNeg))], h)) rfl).trans (z_bifA ?_)
        refine (z_X_steps (s' := (32, [(0, .ref 41), (1, .int x1)], [.int (((((h.2.1 (41 + 1) ((x1 / 64).toNatClampNeg)).toUInt64 >>> ((x1 - x1 / 64 * 64).toInt64.toUInt64 &&& Int64.toUInt64 63)).toInt64) &&& ((1 : Int32).toInt64)).toInt32)], h)) 8 rfl).trans ?_
        exact z_X_ret rfl
  · show z_X zc_Es_holds 1 (0, [(0, .ref 50), (1, .int x1)], [], h) = _
    refine (z_X_steps (s' := (1, [(0, .ref 50), (1, .int x1)], [.int x1], h)) 1 rfl).trans ?_
    refine (z_X_br (c := x1 < 0) (s1 := (31, [(0, .ref 50), (1, .int x1)], [], h)) (s2 := (4, [(0, .ref 50), (1, .int x1)], [], h)) rfl).trans (z_ite ?_ ?_)
    · refine (z_X_steps (s' := (32, [(0, .ref 50), (1, .int x1)], [.int 0], h)) 1 rfl).trans ?_
      exact z_X_ret rfl
    · refine (z_X_steps (s' := (8, [(0, .ref 50), (1, .int x1)], [.int 216, .int x1], h)) 2 rfl).trans ?_
      refine (z_X_br (c := (216 : Int32) ≤ x1) (s1 := (31, [(0, .ref 50), (1, .int x1)], [], h)) (s2 := (11, [(0, .ref 50), (1, .int x1)], [], h)) rfl).trans (z_ite ?_ ?_)
      · refine (z_X_steps (s' := (32, [(0, .ref 50), (1, .int x1)], [.int 0], h)) 1 rfl).trans ?_
        exact z_X_ret rfl
      · refine (z_X_steps (s' := (19, [(0, .ref 50), (1, .int x1)], [.int (x1 / 64), .ref (50 + 1)], h)) 5 rfl).trans ?_
        refine (z_X_if (g := z_in (x1 / 64) 4) (s' := (20, [(0, .ref 50), (1, .int x1)], [.long (h.2.1 (50 + 1) ((x1 / 64).toNatClampNeg))], h)) rfl).trans (z_bifA ?_)
        refine (z_X_steps (s' := (32, [(0, .ref 50), (1, .int x1)], [.int (((((h.2.1 (50 + 1) ((x1 / 64).toNatClampNeg)).toUInt64 >>> ((x1 - x1 / 64 * 64).toInt64.toUInt64 &&& Int64.toUInt64 63)).toInt64) &&& ((1 : Int32).toInt64)).toInt32)], h)) 8 rfl).trans ?_
        exact z_X_ret rfl
  · show z_X zc_Es_holds 1 (0, [(0, .ref 52), (1, .int x1)], [], h) = _
    refine (z_X_steps (s' := (1, [(0, .ref 52), (1, .int x1)], [.int x1], h)) 1 rfl).trans ?_
    refine (z_X_br (c := x1 < 0) (s1 := (31, [(0, .ref 52), (1, .int x1)], [], h)) (s2 := (4, [(0, .ref 52), (1, .int x1)], [], h)) rfl).trans (z_ite ?_ ?_)
    · refine (z_X_steps (s' := (32, [(0, .ref 52), (1, .int x1)], [.int 0], h)) 1 rfl).trans ?_
      exact z_X_ret rfl
    · refine (z_X_steps (s' := (8, [(0, .ref 52), (1, .int x1)], [.int 216, .int x1], h)) 2 rfl).trans ?_
      refine (z_X_br (c := (216 : Int32) ≤ x1) (s1 := (31, [(0, .ref 52), (1, .int x1)], [], h)) (s2 := (11, [(0, .ref 52), (1, .int x1)], [], h)) rfl).trans (z_ite ?_ ?_)
      · refine (z_X_steps (s' := (32, [(0, .ref 52), (1, .int x1)], [.int 0], h)) 1 rfl).trans ?_
        exact z_X_ret rfl
      · refine (z_X_steps (s' := (19, [(0, .ref 52), (1, .int x1)], [.int (x1 / 64), .ref (52 + 1)], h)) 5 rfl).trans ?_
        refine (z_X_if (g := z_in (x1 / 64) 4) (s' := (20, [(0, .ref 52), (1, .int x1)], [.long (h.2.1 (52 + 1) ((x1 / 64).toNatClampNeg))], h)) rfl).trans (z_bifA ?_)
        refine (z_X_steps (s' := (32, [(0, .ref 52), (1, .int x1)], [.int (((((h.2.1 (52 + 1) ((x1 / 64).toNatClampNeg)).toUInt64 >>> ((x1 - x1 / 64 * 64).toInt64.toUInt64 &&& Int64.toUInt64 63)).toInt64) &&& ((1 : Int32).toInt64)).toInt32)], h)) 8 rfl).trans ?_
        exact z_X_ret rfl
  · show z_X zc_Es_holds 1 (0, [(0, .ref 54), (1, .int x1)], [], h) = _
    refine (z_X_steps (s' := (1, [(0, .ref 54), (1, .int x1)], [.int x1], h)) 1 rfl).trans ?_
    refine (z_X_br (c := x1 < 0) (s1 := (31, [(0, .ref 54), (1, .int x1)], [], h)) (s2 := (4, [(0, .ref 54), (1, .int x1)], [], h)) rfl).trans (z_ite ?_ ?_)
    · refine (z_X_steps (s' := (32, [(0, .ref 54), (1, .int x1)], [.int 0], h)) 1 rfl).trans ?_
      exact z_X_ret rfl
    · refine (z_X_steps (s' := (8, [(0, .ref 54), (1, .int x1)], [.int 216, .int x1], h)) 2 rfl).trans ?_
      refine (z_X_br (c := (216 : Int32) ≤ x1) (s1 := (31, [(0, .ref 54), (1, .int x1)], [], h)) (s2 := (11, [(0, .ref 54), (1, .int x1)], [], h)) rfl).trans (z_ite ?_ ?_)
      · refine (z_X_steps (s' := (32, [(0, .ref 54), (1, .int x1)], [.int 0], h)) 1 rfl).trans ?_
        exact z_X_ret rfl
      · refine (z_X_steps (s' := (19, [(0, .ref 54), (1, .int x1)], [.int (x1 / 64), .ref (54 + 1)], h)) 5 rfl).trans ?_
        refine (z_X_if (g := z_in (x1 / 64) 4) (s' := (20, [(0, .ref 54), (1, .int x1)], [.long (h.2.1 (54 + 1) ((x1 / 64).toNatClampNeg))], h)) rfl).trans (z_bifA ?_)
        refine (z_X_steps (s' := (32, [(0, .ref 54), (1, .int x1)], [.int (((((h.2.1 (54 + 1) ((x1 / 64).toNatClampNeg)).toUInt64 >>> ((x1 - x1 / 64 * 64).toInt64.toUInt64 &&& Int64.toUInt64 63)).toInt64) &&& ((1 : Int32).toInt64)).toInt32)], h)) 8 rfl).trans ?_
        exact z_X_ret rfl
  · show z_X zc_Es_holds 1 (0, [(0, .ref 56), (1, .int x1)], [], h) = _
    refine (z_X_steps (s' := (1, [(0, .ref 56), (1, .int x1)], [.int x1], h)) 1 rfl).trans ?_
    refine (z_X_br (c := x1 < 0) (s1 := (31, [(0, .ref 56), (1, .int x1)], [], h)) (s2 := (4, [(0, .ref 56), (1, .int x1)], [], h)) rfl).trans (z_ite ?_ ?_)
    · refine (z_X_steps (s' := (32, [(0, .ref 56), (1, .int x1)], [.int 0], h)) 1 rfl).trans ?_
      exact z_X_ret rfl
    · refine (z_X_steps (s' := (8, [(0, .ref 56), (1, .int x1)], [.int 216, .int x1], h)) 2 rfl).trans ?_
      refine (z_X_br (c := (216 : Int32) ≤ x1) (s1 := (31, [(0, .ref 56), (1, .int x1)], [], h)) (s2 := (11, [(0, .ref 56), (1, .int x1)], [], h)) rfl).trans (z_ite ?_ ?_)
      · refine (z_X_steps (s' := (32, [(0, .ref 56), (1, .int x1)], [.int 0], h)) 1 rfl).trans ?_
        exact z_X_ret rfl
      · refine (z_X_steps (s' := (19, [(0, .ref 56), (1, .int x1)], [.int (x1 / 64), .ref (56 + 1)], h)) 5 rfl).trans ?_
        refine (z_X_if (g := z_in (x1 / 64) 4) (s' := (20, [(0, .ref 56), (1, .int x1)], [.long (h.2.1 (56 + 1) ((x1 / 64).toNatClampNeg))], h)) rfl).trans (z_bifA ?_)
        refine (z_X_steps (s' := (32, [(0, .ref 56), (1, .int x1)], [.int (((((h.2.1 (56 + 1) ((x1 / 64).toNatClampNeg)).toUInt64 >>> ((x1 - x1 / 64 * 64).toInt64.toUInt64 &&& Int64.toUInt64 63)).toInt64) &&& ((1 : Int32).toInt64)).toInt32)], h)) 8 rfl).trans ?_
        exact z_X_ret rfl
  · show z_X zc_Es_holds 1 (0, [(0, .ref 58), (1, .int x1)], [], h) = _
    refine (z_X_steps (s' := (1, [(0, .ref 58), (1, .int x1)], [.int x1], h)) 1 rfl).trans ?_
    refine (z_X_br (c := x1 < 0) (s1 := (31, [(0, .ref 58), (1, .int x1)], [], h)) (s2 := (4, [(0, .ref 58), (1, .int x1)], [], h)) rfl).trans (z_ite ?_ ?_)
    · refine (z_X_steps (s' := (32, [(0, .ref 58), (1, .int x1)], [.int 0], h)) 1 rfl).trans ?_
      exact z_X_ret rfl
    · refine (z_X_steps (s' := (8, [(0, .ref 58), (1, .int x1)], [.int 216, .int x1], h)) 2 rfl).trans ?_
      refine (z_X_br (c := (216 : Int32) ≤ x1) (s1 := (31, [(0, .ref 58), (1, .int x1)], [], h)) (s2 := (11, [(0, .ref 58), (1, .int x1)], [], h)) rfl).trans (z_ite ?_ ?_)
      · refine (z_X_steps (s' := (32, [(0, .ref 58), (1, .int x1)], [.int 0], h)) 1 rfl).trans ?_
        exact z_X_ret rfl
      · refine (z_X_steps (s' := (19, [(0, .ref 58), (1, .int x1)], [.int (x1 / 64), .ref (58 + 1)], h)) 5 rfl).trans ?_
        refine (z_X_if (g := z_in (x1 / 64) 4) (s' := (20, [(0, .ref 58), (1, .int x1)], [.long (h.2.1 (58 + 1) ((x1 / 64).toNatClampNeg))], h)) rfl).trans (z_bifA ?_)
        refine (z_X_steps (s' := (32, [(0, .ref 58), (1, .int x1)], [.int (((((h.2.1 (58 + 1) ((x1 / 64).toNatClampNeg)).toUInt64 >>> ((x1 - x1 / 64 * 64).toInt64.toUInt64 &&& Int64.toUInt64 63)).toInt64) &&& ((1 : Int32).toInt64)).toInt32)], h)) 8 rfl).trans ?_
        exact z_X_ret rfl
  · show z_X zc_Es_holds 1 (0, [(0, .ref 60), (1, .int x1)], [], h) = _
    refine (z_X_steps (s' := (1, [(0, .ref 60), (1, .int x1)], [.int x1], h)) 1 rfl).trans ?_
    refine (z_X_br (c := x1 < 0) (s1 := (31, [(0, .ref 60), (1, .int x1)], [], h)) (s2 := (4, [(0, .ref 60), (1, .int x1)], [], h)) rfl).trans (z_ite ?_ ?_)
    · refine (z_X_steps (s' := (32, [(0, .ref 60), (1, .int x1)], [.int 0], h)) 1 rfl).trans ?_
      exact z_X_ret rfl
    · refine (z_X_steps (s' := (8, [(0, .ref 60), (1, .int x1)], [.int 216, .int x1], h)) 2 rfl).trans ?_
      refine (z_X_br (c := (216 : Int32) ≤ x1) (s1 := (31, [(0, .ref 60), (1, .int x1)], [], h)) (s2 := (11, [(0, .ref 60), (1, .int x1)], [], h)) rfl).trans (z_ite ?_ ?_)
      · refine (z_X_steps (s' := (32, [(0, .ref 60), (1, .int x1)], [.int 0], h)) 1 rfl).trans ?_
        exact z_X_ret rfl
      · refine (z_X_steps (s' := (19, [(0, .ref 60), (1, .int x1)], [.int (x1 / 64), .ref (60 + 1)], h)) 5 rfl).trans ?_
        refine (z_X_if (g := z_in (x1 / 64) 4) (s' := (20, [(0, .ref 60), (1, .int x1)], [.long (h.2.1 (60 + 1) ((x1 / 64).toNatClampNeg))], h)) rfl).trans (z_bifA ?_)
        refine (z_X_steps (s' := (32, [(0, .ref 60), (1, .int x1)], [.int (((((h.2.1 (60 + 1) ((x1 / 64).toNatClampNeg)).toUInt64 >>> ((x1 - x1 / 64 * 64).toInt64.toUInt64 &&& Int64.toUInt64 63)).toInt64) &&& ((1 : Int32).toInt64)).toInt32)], h)) 8 rfl).trans ?_
        exact z_X_ret rfl
  · show z_X zc_Es_holds 1 (0, [(0, .ref 62), (1, .int x1)], [], h) = _
    refine (z_X_steps (s' := (1, [(0, .ref 62), (1, .int x1)], [.int x1], h)) 1 rfl).trans ?_
    refine (z_X_br (c := x1 < 0) (s1 := (31, [(0, .ref 62), (1, .int x1)], [], h)) (s2 := (4, [(0, .ref 62), (1, .int x1)], [], h)) rfl).trans (z_ite ?_ ?_)
    · refine (z_X_steps (s' := (32, [(0, .ref 62), (1, .int x1)], [.int 0], h)) 1 rfl).trans ?_
      exact z_X_ret rfl
    · refine (z_X_steps (s' := (8, [(0, .ref 62), (1, .int x1)], [.int 216, .int x1], h)) 2 rfl).trans ?_
      refine (z_X_br (c := (216 : Int32) ≤ x1) (s1 := (31, [(0, .ref 62), (1, .int x1)], [], h)) (s2 := (11, [(0, .ref 62), (1, .int x1)], [], h)) rfl).trans (z_ite ?_ ?_)
      · refine (z_X_steps (s' := (32, [(0, .ref 62), (1, .int x1)], [.int 0], h)) 1 rfl).trans ?_
        exact z_X_ret rfl
      · refine (z_X_steps (s' := (19, [(0, .ref 62), (1, .int x1)], [.int (x1 / 64), .ref (62 + 1)], h)) 5 rfl).trans ?_
        refine (z_X_if (g := z_in (x1 / 64) 4) (s' := (20, [(0, .ref 62), (1, .int x1)], [.long (h.2.1 (62 + 1) ((x1 / 64).toNatClampNeg))], h)) rfl).trans (z_bifA ?_)
        refine (z_X_steps (s' := (32, [(0, .ref 62), (1, .int x1)], [.int (((((h.2.1 (62 + 1) ((x1 / 64).toNatClampNeg)).toUInt64 >>> ((x1 - x1 / 64 * 64).toInt64.toUInt64 &&& Int64.toUInt64 63)).toInt64) &&& ((1 : Int32).toInt64)).toInt32)], h)) 8 rfl).trans ?_
        exact z_X_ret rfl
  · show z_X zc_Es_holds 1 (0, [(0, .ref 64), (1, .int x1)], [], h) = _
    refine (z_X_steps (s' := (1, [(0, .ref 64), (1, .int x1)], [.int x1], h)) 1 rfl).trans ?_
    refine (z_X_br (c := x1 < 0) (s1 := (31, [(0, .ref 64), (1, .int x1)], [], h)) (s2 := (4, [(0, .ref 64), (1, .int x1)], [], h)) rfl).trans (z_ite ?_ ?_)
    · refine (z_X_steps (s' := (32, [(0, .ref 64), (1, .int x1)], [.int 0], h)) 1 rfl).trans ?_
      exact z_X_ret rfl
    · refine (z_X_steps (s' := (8, [(0, .ref 64), (1, .int x1)], [.int 216, .int x1], h)) 2 rfl).trans ?_
      refine (z_X_br (c := (216 : Int32) ≤ x1) (s1 := (31, [(0, .ref 64), (1, .int x1)], [], h)) (s2 := (11, [(0, .ref 64), (1, .int x1)], [], h)) rfl).trans (z_ite ?_ ?_)
      · refine (z_X_steps (s' := (32, [(0, .ref 64), (1, .int x1)], [.int 0], h)) 1 rfl).trans ?_
        exact z_X_ret rfl
      · refine (z_X_steps (s' := (19, [(0, .ref 64), (1, .int x1)], [.int (x1 / 64), .ref (64 + 1)], h)) 5 rfl).trans ?_
        refine (z_X_if (g := z_in (x1 / 64) 4) (s' := (20, [(0, .ref 64), (1, .int x1)], [.long (h.2.1 (64 + 1) ((x1 / 64).toNatClampNeg))], h)) rfl).trans (z_bifA ?_)
        refine (z_X_steps (s' := (32, [(0, .ref 64), (1, .int x1)], [.int (((((h.2.1 (64 + 1) ((x1 / 64).toNatClampNeg)).toUInt64 >>> ((x1 - x1 / 64 * 64).toInt64.toUInt64 &&& Int64.toUInt64 63)).toInt64) &&& ((1 : Int32).toInt64)).toInt32)], h)) 8 rfl).trans ?_
        exact z_X_ret rfl
  · show z_X zc_Es_holds 1 (0, [(0, .ref 66), (1, .int x1)], [], h) = _
    refine (z_X_steps (s' := (1, [(0, .ref 66), (1, .int x1)], [.int x1], h)) 1 rfl).trans ?_
    refine (z_X_br (c := x1 < 0) (s1 := (31, [(0, .ref 66), (1, .int x1)], [], h)) (s2 := (4, [(0, .ref 66), (1, .int x1)], [], h)) rfl).trans (z_ite ?_ ?_)
    · refine (z_X_steps (s' := (32, [(0, .ref 66), (1, .int x1)], [.int 0], h)) 1 rfl).trans ?_
      exact z_X_ret rfl
    · refine (z_X_steps (s' := (8, [(0, .ref 66), (1, .int x1)], [.int 216, .int x1], h)) 2 rfl).trans ?_
      refine (z_X_br (c := (216 : Int32) ≤ x1) (s1 := (31, [(0, .ref 66), (1, .int x1)], [], h)) (s2 := (11, [(0, .ref 66), (1, .int x1)], [], h)) rfl).trans (z_ite ?_ ?_)
      · refine (z_X_steps (s' := (32, [(0, .ref 66), (1, .int x1)], [.int 0], h)) 1 rfl).trans ?_
        exact z_X_ret rfl
      · refine (z_X_steps (s' := (19, [(0, .ref 66), (1, .int x1)], [.int (x1 / 64), .ref (66 + 1)], h)) 5 rfl).trans ?_
        refine (z_X_if (g := z_in (x1 / 64) 4) (s' := (20, [(0, .ref 66), (1, .int x1)], [.long (h.2.1 (66 + 1) ((x1 / 64).toNatClampNeg))], h)) rfl).trans (z_bifA ?_)
        refine (z_X_steps (s' := (32, [(0, .ref 66), (1, .int x1)], [.int (((((h.2.1 (66 + 1) ((x1 / 64).toNatClampNeg)).toUInt64 >>> ((x1 - x1 / 64 * 64).toInt64.toUInt64 &&& Int64.toUInt64 63)).toInt64) &&& ((1 : Int32).toInt64)).toInt32)], h)) 8 rfl).trans ?_
        exact z_X_ret rfl
  · show z_X zc_Es_holds 1 (0, [(0, .ref 68), (1, .int x1)], [], h) = _
    refine (z_X_steps (s' := (1, [(0, .ref 68), (1, .int x1)], [.int x1], h)) 1 rfl).trans ?_
    refine (z_X_br (c := x1 < 0) (s1 := (31, [(0, .ref 68), (1, .int x1)], [], h)) (s2 := (4, [(0, .ref 68), (1, .int x1)], [], h)) rfl).trans (z_ite ?_ ?_)
    · refine (z_X_steps (s' := (32, [(0, .ref 68), (1, .int x1)], [.int 0], h)) 1 rfl).trans ?_
      exact z_X_ret rfl
    · refine (z_X_steps (s' := (8, [(0, .ref 68), (1, .int x1)], [.int 216, .int x1], h)) 2 rfl).trans ?_
      refine (z_X_br (c := (216 : Int32) ≤ x1) (s1 := (31, [(0, .ref 68), (1, .int x1)], [], h)) (s2 := (11, [(0, .ref 68), (1, .int x1)], [], h)) rfl).trans (z_ite ?_ ?_)
      · refine (z_X_steps (s' := (32, [(0, .ref 68), (1, .int x1)], [.int 0], h)) 1 rfl).trans ?_
        exact z_X_ret rfl
      · refine (z_X_steps (s' := (19, [(0, .ref 68), (1, .int x1)], [.int (x1 / 64), .ref (68 + 1)], h)) 5 rfl).trans ?_
        refine (z_X_if (g := z_in (x1 / 64) 4) (s' := (20, [(0, .ref 68), (1, .int x1)], [.long (h.2.1 (68 + 1) ((x1 / 64).toNatClampNeg))], h)) rfl).trans (z_bifA ?_)
        refine (z_X_steps (s' := (32, [(0, .ref 68), (1, .int x1)], [.int (((((h.2.1 (68 + 1) ((x1 / 64).toNatClampNeg)).toUInt64 >>> ((x1 - x1 / 64 * 64).toInt64.toUInt64 &&& Int64.toUInt64 63)).toInt64) &&& ((1 : Int32).toInt64)).toInt32)], h)) 8 rfl).trans ?_
        exact z_X_ret rfl
set_option maxRecDepth 8000 in
set_option maxHeartbeats 2000000 in
theorem e_Es_size {o : Nat} (hi : o ∈ [41, 52, 54, 56, 58, 60, 62, 64, 66, 68]) (h : z_H) : z_M 107 [.ref o] h = z_bd (z_M 108 [.ref o, .ref o] h) (fun r1 h2 => some (r1, h2)) := by
  refine (z_M_eq (by decide)).trans ?_
  simp only [List.mem_cons, List.not_mem_nil, or_false, Prod.mk.injEq] at hi
  rcases hi with rfl | rfl | rfl | rfl | rfl | rfl | rfl | rfl | rfl | rfl
  · show z_X zc_Es_size 4 (0, [(0, .ref 41)], [], h) = _
    refine (z_X_steps (s' := (2, [(0, .ref 41)], [.ref 41, .ref 41], h)) 2 rfl).trans ?_
    refine (z_X_call (id := 108) (a := [.ref 41, .ref 41]) (c := 1) (s' := (5, [(0, .ref 41)], [], h)) rfl ⟨Nat.le_of_ble_eq_true rfl, Nat.le_of_ble_eq_true rfl⟩).trans ?_
    refine z_bdc fun r1 h2 => ?_
    exact z_X_ret rfl
  · show z_X zc_Es_size 4 (0, [(0, .ref 52)], [], h) = _
    refine (z_X_steps (s' := (2, [(0, .ref 52)], [.ref 52, .ref 52], h)) 2 rfl).trans ?_
    refine (z_X_call (id := 108) (a := [.ref 52, .ref 52]) (c := 1) (s' := (5, [(0, .ref 52)], [], h)) rfl ⟨Nat.le_of_ble_eq_true rfl, Nat.le_of_ble_eq_true rfl⟩).trans ?_
    refine z_bdc fun r1 h2 => ?_
    exact z_X_ret rfl
  · show z_X zc_Es_size 4 (0, [(0, .ref 54)], [], h) = _
    refine (z_X_steps (s' := (2, [(0, .ref 54)], [.ref 54, .ref 54], h)) 2 rfl).trans ?_
    refine (z_X_call (id := 108) (a := [.ref 54, .ref 54]) (c := 1) (s' := (5, [(0, .ref 54)], [], h)) rfl ⟨Nat.le_of_ble_eq_true rfl, Nat.le_of_ble_eq_true rfl⟩).trans ?_
    refine z_bdc fun r1 h2 => ?_
    exact z_X_ret rfl
  · show z_X zc_Es_size 4 (0, [(0, .ref 56)], [], h) = _
    refine (z_X_steps (s' := (2, [(0, .ref 56)], [.ref 56, .ref 56], h)) 2 rfl).trans ?_
    refine (z_X_call (id := 108) (a := [.ref 56, .ref 56]) (c := 1) (s' := (5, [(0, .ref 56)], [], h)) rfl ⟨Nat.le_of_ble_eq_true rfl, Nat.le_of_ble_eq_true rfl⟩).trans ?_
    refine z_bdc fun r1 h2 => ?_
    exact z_X_ret rfl
  · show z_X zc_Es_size 4 (0, [(0, .ref 58)], [], h) = _
    refine (z_X_steps (s' := (2, [(0, .ref 58)], [.ref 58, .ref 58], h)) 2 rfl).trans ?_
    refine (z_X_call (id := 108) (a := [.ref 58, .ref 58]) (c := 1) (s' := (5, [(0, .ref 58)], [], h)) rfl ⟨Nat.le_of_ble_eq_true rfl, Nat.le_of_ble_eq_true rfl⟩).trans ?_
    refine z_bdc fun r1 h2 => ?_
    exact z_X_ret rfl
  · show z_X zc_Es_size 4 (0, [(0, .ref 60)], [], h) = _
    refine (z_X_steps (s' := (2, [(0, .ref 60)], [.ref 60, .ref 60], h)) 2 rfl).trans ?_
    refine (z_X_call (id := 108) (a := [.ref 60, .ref 60]) (c := 1) (s' := (5, [(0, .ref 60)], [], h)) rfl ⟨Nat.le_of_ble_eq_true rfl, Nat.le_of_ble_eq_true rfl⟩).trans ?_
    refine z_bdc fun r1 h2 => ?_
    exact z_X_ret rfl
  · show z_X zc_Es_size 4 (0, [(0, .ref 62)], [], h) = _
    refine (z_X_steps (s' := (2, [(0, .ref 62)], [.ref 62, .ref 62], h)) 2 rfl).trans ?_
    refine (z_X_call (id := 108) (a := [.ref 62, .ref 62]) (c := 1) (s' := (5, [(0, .ref 62)], [], h)) rfl ⟨Nat.le_of_ble_eq_true rfl, Nat.le_of_ble_eq_true rfl⟩).trans ?_
    refine z_bdc fun r1 h2 => ?_
    exact z_X_ret rfl
  · show z_X zc_Es_size 4 (0, [(0, .ref 64)], [], h) = _
    refine (z_X_steps (s' := (2, [(0, .ref 64)], [.ref 64, .ref 64], h)) 2 rfl).trans ?_
    refine (z_X_call (id := 108) (a := [.ref 64, .ref 64]) (c := 1) (s' := (5, [(0, .ref 64)], [], h)) rfl ⟨Nat.le_of_ble_eq_true rfl, Nat.le_of_ble_eq_true rfl⟩).trans ?_
    refine z_bdc fun r1 h2 => ?_
    exact z_X_ret rfl
  · show z_X zc_Es_size 4 (0, [(0, .ref 66)], [], h) = _
    refine (z_X_steps (s' := (2, [(0, .ref 66)], [.ref 66, .ref 66], h)) 2 rfl).trans ?_
    refine (z_X_call (id := 108) (a := [.ref 66, .ref 66]) (c := 1) (s' := (5, [(0, .ref 66)], [], h)) rfl ⟨Nat.le_of_ble_eq_true rfl, Nat.le_of_ble_eq_true rfl⟩).trans ?_
    refine z_bdc fun r1 h2 => ?_
    exact z_X_ret rfl
  · show z_X zc_Es_size 4 (0, [(0, .ref 68)], [], h) = _
    refine (z_X_steps (s' := (2, [(0, .ref 68)], [.ref 68, .ref 68], h)) 2 rfl).trans ?_
    refine (z_X_call (id := 108) (a := [.ref 68, .ref 68]) (c := 1) (s' := (5, [(0, .ref 68)], [], h)) rfl ⟨Nat.le_of_ble_eq_true rfl, Nat.le_of_ble_eq_true rfl⟩).trans ?_
    refine z_bdc fun r1 h2 => ?_
    exact z_X_ret rfl
noncomputable def zl_Es_sizeWithin_4 (o : Nat) (p : Nat) (x2 : Int32) (x3 : Int32) (h : z_H) : Option z_A := z_X zc_Es_sizeWithin 3 (4, [(0, .ref o), (1, .ref p), (2, .int x2), (3, .int x3)], [], h)
set_option maxRecDepth 8000 in
set_option maxHeartbeats 2000000 in
theorem e_Es_sizeWithin {o : Nat} {p : Nat} (hi : (o, p) ∈ [(41, 41), (52, 52), (54, 54), (56, 56), (58, 58), (60, 60), (62, 62), (64, 64), (66, 66), (68, 68), (54, 41), (56, 41), (58, 41), (60, 41), (62, 41), (64, 41), (66, 41), (68, 41), (54, 50), (56, 50), (58, 50), (60, 50), (62, 50), (64, 50), (66, 50), (68, 50)]) (h : z_H) : z_M 108 [.ref o, .ref p] h = zl_Es_sizeWithin_4 o p 0 0 h := by
  refine (z_M_eq (by decide)).trans ?_
  simp only [List.mem_cons, List.not_mem_nil, or_false, Prod.mk.injEq] at hi
  rcases hi with ⟨rfl, rfl⟩ | ⟨rfl, rfl⟩ | ⟨rfl, rfl⟩ | ⟨rfl, rfl⟩ | ⟨rfl, rfl⟩ | ⟨rfl, rfl⟩ | ⟨rfl, rfl⟩ | ⟨rfl, rfl⟩ | ⟨rfl, rfl⟩ | ⟨rfl, rfl⟩ | ⟨rfl, rfl⟩ | ⟨rfl, rfl⟩ | ⟨rfl, rfl⟩ | ⟨rfl, rfl⟩ | ⟨rfl, rfl⟩ | ⟨rfl, rfl⟩ | ⟨rfl, rfl⟩ | ⟨rfl, rfl⟩ | ⟨rfl, rfl⟩ | ⟨rfl, rfl⟩ | ⟨rfl, rfl⟩ | ⟨rfl, rfl⟩ | ⟨rfl, rfl⟩ | ⟨rfl, rfl⟩ | ⟨rfl, rfl⟩ | ⟨rfl, rfl⟩
  · show z_X zc_Es_sizeWithin 3 (0, [(0, .ref 41), (1, .ref 41)], [], h) = _
    refine (z_X_steps (s' := (4, [(3, .int 0), (2, .int 0), (0, .ref 41), (1, .ref 41)], [], h)) 4 rfl).trans ?_
    exact z_X_lab rfl
  · show z_X zc_Es_sizeWithin 3 (0, [(0, .ref 52), (1, .ref 52)], [], h) = _
    refine (z_X_steps (s' := (4, [(3, .int 0), (2, .int 0), (0, .ref 52), (1, .ref 52)], [], h)) 4 rfl).trans ?_
    exact z_X_lab rfl
  · show z_X zc_Es_sizeWithin 3 (0, [(0, .ref 54), (1, .ref 54)], [], h) = _
    refine (z_X_steps (s' := (4, [(3, .int 0), (2, .int 0), (0, .ref 54), (1, .ref 54)], [], h)) 4 rfl).trans ?_
    exact z_X_lab rfl
  · show z_X zc_Es_sizeWithin 3 (0, [(0, .ref 56), (1, .ref 56)], [], h) = _
    refine (z_X_steps (s' := (4, [(3, .int 0), (2, .int 0), (0, .ref 56), (1, .ref 56)], [], h)) 4 rfl).trans ?_
    exact z_X_lab rfl
  · show z_X zc_Es_sizeWithin 3 (0, [(0, .ref 58), (1, .ref 58)], [], h) = _
    refine (z_X_steps (s' := (4, [(3, .int 0), (2, .int 0), (0, .ref 58), (1, .ref 58)], [], h)) 4 rfl).trans ?_
    exact z_X_lab rfl
  · show z_X zc_Es_sizeWithin 3 (0, [(0, .ref 60), (1, .ref 60)], [], h) = _
    refine (z_X_steps (s' := (4, [(3, .int 0), (2, .int 0), (0, .ref 60), (1, .ref 60)], [], h)) 4 rfl).trans ?_
    exact z_X_lab rfl
  · show z_X zc_Es_sizeWithin 3 (0, [(0, .ref 62), (1, .ref 62)], [], h) = _
    refine (z_X_steps (s' := (4, [(3, .int 0), (2, .int 0), (0, .ref 62), (1, .ref 62)], [], h)) 4 rfl).trans ?_
    exact z_X_lab rfl
  · show z_X zc_Es_sizeWithin 3 (0, [(0, .ref 64), (1, .ref 64)], [], h) = _
    refine (z_X_steps (s' := (4, [(3, .int 0), (2, .int 0), (0, .ref 64), (1, .ref 64)], [], h)) 4 rfl).trans ?_
    exact z_X_lab rfl
  · show z_X zc_Es_sizeWithin 3 (0, [(0, .ref 66), (1, .ref 66)], [], h) = _
    refine (z_X_steps (s' := (4, [(3, .int 0), (2, .int 0), (0, .ref 66), (1, .ref 66)], [], h)) 4 rfl).trans ?_
    exact z_X_lab rfl
  · show z_X zc_Es_sizeWithin 3 (0, [(0, .ref 68), (1, .ref 68)], [], h) = _
    refine (z_X_steps (s' := (4, [(3, .int 0), (2, .int 0), (0, .ref 68), (1, .ref 68)], [], h)) 4 rfl).trans ?_
    exact z_X_lab rfl
  · show z_X zc_Es_sizeWithin 3 (0, [(0, .ref 54), (1, .ref 41)], [], h) = _
    refine (z_X_steps (s' := (4, [(3, .int 0), (2, .int 0), (0, .ref 54), (1, .ref 41)], [], h)) 4 rfl).trans ?_
    exact z_X_lab rfl
  · show z_X zc_Es_sizeWithin 3 (0, [(0, .ref 56), (1, .ref 41)], [], h) = _
    refine (z_X_steps (s' := (4, [(3, .int 0), (2, .int 0), (0, .ref 56), (1, .ref 41)], [], h)) 4 rfl).trans ?_
    exact z_X_lab rfl
  · show z_X zc_Es_sizeWithin 3 (0, [(0, .ref 58), (1, .ref 41)], [], h) = _
    refine (z_X_steps (s' := (4, [(3, .int 0), (2, .int 0), (0, .ref 58), (1, .ref 41)], [], h)) 4 rfl).trans ?_
    exact z_X_lab rfl
  · show z_X zc_Es_sizeWithin 3 (0, [(0, .ref 60), (1, .ref 41)], [], h) = _
    refine (z_X_steps (s' := (4, [(3, .int 0), (2, .int 0), (0, .ref 60), (1, .ref 41)], [], h)) 4 rfl).trans ?_
    exact z_X_lab rfl
  · show z_X zc_Es_sizeWithin 3 (0, [(0, .ref 62), (1, .ref 41)], [], h) = _
    refine (z_X_steps (s' := (4, [(3, .int 0), (2, .int 0), (0, .ref 62), (1, .ref 41)], [], h)) 4 rfl).trans ?_
    exact z_X_lab rfl
  · show z_X zc_Es_sizeWithin 3 (0, [(0, .ref 64), (1, .ref 41)], [], h) = _
    refine (z_X_steps (s' := (4, [(3, .int 0), (2, .int 0), (0, .ref 64), (1, .ref 41)], [], h)) 4 rfl).trans ?_
    exact z_X_lab rfl
  · show z_X zc_Es_sizeWithin 3 (0, [(0, .ref 66), (1, .ref 41)], [], h) = _
    refine (z_X_steps (s' := (4, [(3, .int 0), (2, .int 0), (0, .ref 66), (1, .ref 41)], [], h)) 4 rfl).trans ?_
    exact z_X_lab rfl
  · show z_X zc_Es_sizeWithin 3 (0, [(0, .ref 68), (1, .ref 41)], [], h) = _
    refine (z_X_steps (s' := (4, [(3, .int 0), (2, .int 0), (0, .ref 68), (1, .ref 41)], [], h)) 4 rfl).trans ?_
    exact z_X_lab rfl
  · show z_X zc_Es_sizeWithin 3 (0, [(0, .ref 54), (1, .ref 50)], [], h) = _
    refine (z_X_steps (s' := (4, [(3, .int 0), (2, .int 0), (0, .ref 54), (1, .ref 50)], [], h)) 4 rfl).trans ?_
    exact z_X_lab rfl
  · show z_X zc_Es_sizeWithin 3 (0, [(0, .ref 56), (1, .ref 50)], [], h) = _
    refine (z_X_steps (s' := (4, [(3, .int 0), (2, .int 0), (0, .ref 56), (1, .ref 50)], [], h)) 4 rfl).trans ?_
    exact z_X_lab rfl
  · show z_X zc_Es_sizeWithin 3 (0, [(0, .ref 58), (1, .ref 50)], [], h) = _
    refine (z_X_steps (s' := (4, [(3, .int 0), (2, .int 0), (0, .ref 58), (1, .ref 50)], [], h)) 4 rfl).trans ?_
    exact z_X_lab rfl
  · show z_X zc_Es_sizeWithin 3 (0, [(0, .ref 60), (1, .ref 50)], [], h) = _
    refine (z_X_steps (s' := (4, [(3, .int 0), (2, .int 0), (0, .ref 60), (1, .ref 50)], [], h)) 4 rfl).trans ?_
    exact z_X_lab rfl
  · show z_X zc_Es_sizeWithin 3 (0, [(0, .ref 62), (1, .ref 50)], [], h) = _
    refine (z_X_steps (s' := (4, [(3, .int 0), (2, .int 0), (0, .ref 62), (1, .ref 50)], [], h)) 4 rfl).trans ?_
    exact z_X_lab rfl
  · show z_X zc_Es_sizeWithin 3 (0, [(0, .ref 64), (1, .ref 50)], [], h) = _
    refine (z_X_steps (s' := (4, [(3, .int 0), (2, .int 0), (0, .ref 64), (1, .ref 50)], [], h)) 4 rfl).trans ?_
    exact z_X_lab rfl
  · show z_X zc_Es_sizeWithin 3 (0, [(0, .ref 66), (1, .ref 50)], [], h) = _
    refine (z_X_steps (s' := (4, [(3, .int 0), (2, .int 0), (0, .ref 66), (1, .ref 50)], [], h)) 4 rfl).trans ?_
    exact z_X_lab rfl
  · show z_X zc_Es_sizeWithin 3 (0, [(0, .ref 68), (1, .ref 50)], [], h) = _
    refine (z_X_steps (s' := (4, [(3, .int 0), (2, .int 0), (0, .ref 68), (1, .ref 50)], [], h)) 4 rfl).trans ?_
    exact z_X_lab rfl
set_option maxRecDepth 8000 in
set_option maxHeartbeats 2000000 in
theorem e_Es_sizeWithin_4 {o : Nat} {p : Nat} (hi : (o, p) ∈ [(41, 41), (52, 52), (54, 54), (56, 56), (58, 58), (60, 60), (62, 62), (64, 64), (66, 66), (68, 68), (54, 41), (56, 41), (58, 41), (60, 41), (62, 41), (64, 41), (66, 41), (68, 41), (54, 50), (56, 50), (58, 50), (60, 50), (62, 50), (64, 50), (66, 50), (68, 50)]) (x2 : Int32) (x3 : Int32) (h : z_H) : zl_Es_sizeWithin_4 o p x2 x3 h = (if (4 : Int32) ≤ x3 then some (x2, h) else (bif z_in x3 4 then (bif z_in x3 4 then z_bd (z_M 906 [.long ((h.2.1 (o + 1) (x3.toNatClampNeg)) &&& (h.2.1 (p + 1) (x3.toNatClampNeg)))] h) (fun r1 h2 => zl_Es_sizeWithin_4 o p (x2 + r1) (x3 + 1) h2) else none) else none)) := by
  simp only [List.mem_cons, List.not_mem_nil, or_false, Prod.mk.injEq] at hi
  rcases hi with ⟨rfl, rfl⟩ | ⟨rfl, rfl⟩ | ⟨rfl, rfl⟩ | ⟨rfl, rfl⟩ | ⟨rfl, rfl⟩ | ⟨rfl, rfl⟩ | ⟨rfl, rfl⟩ | ⟨rfl, rfl⟩ | ⟨rfl, rfl⟩ | ⟨rfl, rfl⟩ | ⟨rfl, rfl⟩ | ⟨rfl, rfl⟩ | ⟨rfl, rfl⟩ | ⟨rfl, rfl⟩ | ⟨rfl, rfl⟩ | ⟨rfl, rfl⟩ | ⟨rfl, rfl⟩ | ⟨rfl, rfl⟩ | ⟨rfl, rfl⟩ | ⟨rfl, rfl⟩ | ⟨rfl, rfl⟩ | ⟨rfl, rfl⟩ | ⟨rfl, rfl⟩ | ⟨rfl, rfl⟩ | ⟨rfl, rfl⟩ | ⟨rfl, rfl⟩
  · show z_X zc_Es_sizeWithin 3 (4, [(0, .ref 41), (1, .ref 41), (2, .int x2), (3, .int x3)], [], h) = _
    refine (z_X_steps (s' := (6, [(0, .ref 41), (1, .ref 41), (2, .int x2), (3, .int x3)], [.int 4, .int x3], h)) 2 rfl).trans ?_
    refine (z_X_br (c := (4 : Int32) ≤ x3) (s1 := (34, [(0, .ref 41), (1, .ref 41), (2, .int x2), (3, .int x3)], [], h)) (s2 := (9, [(0, .ref 41), (1, .ref 41), (2, .int x2), (3, .int x3)], [], h)) rfl).trans (z_ite ?_ ?_)
    · refine (z_X_steps (s' := (35, [(0, .ref 41), (1, .ref 41), (2, .int x2), (3, .int x3)], [.int x2], h)) 1 rfl).trans ?_
      exact z_X_ret rfl
    · refine (z_X_steps (s' := (15, [(0, .ref 41), (1, .ref 41), (2, .int x2), (3, .int x3)], [.int x3, .ref (41 + 1), .int x2], h)) 4 rfl).trans ?_
      refine (z_X_if (g := z_in x3 4) (s' := (16, [(0, .ref 41), (1, .ref 41), (2, .int x2), (3, .int x3)], [.long (h.2.1 (41 + 1) (x3.toNatClampNeg)), .int x2], h)) rfl).trans (z_bifA ?_)
      refine (z_X_steps (s' := (21, [(0, .ref 41), (1, .ref 41), (2, .int x2), (3, .int x3)], [.int x3, .ref (41 + 1), .long (h.2.1 (41 + 1) (x3.toNatClampNeg)), .int x2], h)) 3 rfl).trans ?_
      refine (z_X_if (g := z_in x3 4) (s' := (22, [(0, .ref 41), (1, .ref 41), (2, .int x2), (3, .int x3)], [.long (h.2.1 (41 + 1) (x3.toNatClampNeg)), .long (h.2.1 (41 + 1) (x3.toNatClampNeg)), .int x2], h)) rfl).trans (z_bifA ?_)
      refine (z_X_steps (s' := (23, [(0, .ref 41), (1, .ref 41), (2, .int x2), (3, .int x3)], [.long ((h.2.1 (41 + 1) (x3.toNatClampNeg)) &&& (h.2.1 (41 + 1) (x3.toNatClampNeg))), .int x2], h)) 1 rfl).trans ?_
      refine (z_X_call (id := 906) (a := [.long ((h.2.1 (41 + 1) (x3.toNatClampNeg)) &&& (h.2.1 (41 + 1) (x3.toNatClampNeg)))]) (c := 1) (s' := (26, [(0, .ref 41), (1, .ref 41), (2, .int x2), (3, .int x3)], [.int x2], h)) rfl ⟨Nat.le_of_ble_eq_true rfl, Nat.le_of_ble_eq_true rfl⟩).trans ?_
      refine z_bdc fun r1 h2 => ?_
      refine (z_X_steps (s' := (4, [(3, .int (x3 + 1)), (2, .int (x2 + r1)), (0, .ref 41), (1, .ref 41)], [], h2)) 4 rfl).trans ?_
      exact z_X_lab rfl
  · show z_X zc_Es_sizeWithin 3 (4, [(0, .ref 52), (1, .ref 52), (2, .int x2), (3, .int x3)], [], h) = _
    refine (z_X_steps (s' := (6, [(0, .ref 52), (1, .ref 52), (2, .int x2), (3, .int x3)], [.int 4, .int x3], h)) 2 rfl).trans ?_
    refine (z_X_br (c := (4 : Int32) ≤ x3) (s1 := (34, [(0, .ref 52), (1, .ref 52), (2, .int x2), (3, .int x3)], [], h)) (s2 := (9, [(0, .ref 52), (1, .ref 52), (2, .int x2), (3, .int x3)], [], h)) rfl).trans (z_ite ?_ ?_)
    · refine (z_X_steps (s' := (35, [(0, .ref 52), (1, .ref 52), (2, .int x2), (3, .int x3)], [.int x2], h)) 1 rfl).trans ?_
      exact z_X_ret rfl
    · refine (z_X_steps (s' := (15, [(0, .ref 52), (1, .ref 52), (2, .int x2), (3, .int x3)], [.int x3, .ref (52 + 1), .int x2], h)) 4 rfl).trans ?_
      refine (z_X_if (g := z_in x3 4) (s' := (16, [(0, .ref 52), (1, .ref 52), (2, .int x2), (3, .int x3)], [.long (h.2.1 (52 + 1) (x3.toNatClampNeg)), .int x2], h)) rfl).trans (z_bifA ?_)
      refine (z_X_steps (s' := (21, [(0, .ref 52), (1, .ref 52), (2, .int x2), (3, .int x3)], [.int x3, .ref (52 + 1), .long (h.2.1 (52 + 1) (x3.toNatClampNeg)), .int x2], h)) 3 rfl).trans ?_
      refine (z_X_if (g := z_in x3 4) (s' := (22, [(0, .ref 52), (1, .ref 52), (2, .int x2), (3, .int x3)], [.long (h.2.1 (52 + 1) (x3.toNatClampNeg)), .long (h.2.1 (52 + 1) (x3.toNatClampNeg)), .int x2], h)) rfl).trans (z_bifA ?_)
      refine (z_X_steps (s' := (23, [(0, .ref 52), (1, .ref 52), (2, .int x2), (3, .int x3)], [.long ((h.2.1 (52 + 1) (x3.toNatClampNeg)) &&& (h.2.1 (52 + 1) (x3.toNatClampNeg))), .int x2], h)) 1 rfl).trans ?_
      refine (z_X_call (id := 906) (a := [.long ((h.2.1 (52 + 1) (x3.toNatClampNeg)) &&& (h.2.1 (52 + 1) (x3.toNatClampNeg)))]) (c := 1) (s' := (26, [(0, .ref 52), (1, .ref 52), (2, .int x2), (3, .int x3)], [.int x2], h)) rfl ⟨Nat.le_of_ble_eq_true rfl, Nat.le_of_ble_eq_true rfl⟩).trans ?_
      refine z_bdc fun r1 h2 => ?_
      refine (z_X_steps (s' := (4, [(3, .int (x3 + 1)), (2, .int (x2 + r1)), (0, .ref 52), (1, .ref 52)], [], h2)) 4 rfl).trans ?_
      exact z_X_lab rfl
  · show z_X zc_Es_sizeWithin 3 (4, [(0, .ref 54), (1, .ref 54), (2, .int x2), (3, .int x3)], [], h) = _
    refine (z_X_steps (s' := (6, [(0, .ref 54), (1, .ref 54), (2, .int x2), (3, .int x3)], [.int 4, .int x3], h)) 2 rfl).trans ?_
    refine (z_X_br (c := (4 : Int32) ≤ x3) (s1 := (34, [(0, .ref 54), (1, .ref 54), (2, .int x2), (3, .int x3)], [], h)) (s2 := (9, [(0, .ref 54), (1, .ref 54), (2, .int x2), (3, .int x3)], [], h)) rfl).trans (z_ite ?_ ?_)
    · refine (z_X_steps (s' := (35, [(0, .ref 54), (1, .ref 54), (2, .int x2), (3, .int x3)], [.int x2], h)) 1 rfl).trans ?_
      exact z_X_ret rfl
    · refine (z_X_steps (s' := (15, [(0, .ref 54), (1, .ref 54), (2, .int x2), (3, .int x3)], [.int x3, .ref (54 + 1), .int x2], h)) 4 rfl).trans ?_
      refine (z_X_if (g := z_in x3 4) (s' := (16, [(0, .ref 54), (1, .ref 54), (2, .int x2), (3, .int x3)], [.long (h.2.1 (54 + 1) (x3.toNatClampNeg)), .int x2], h)) rfl).trans (z_bifA ?_)
      refine (z_X_steps (s' := (21, [(0, .ref 54), (1, .ref 54), (2, .int x2), (3, .int x3)], [.int x3, .ref (54 + 1), .long (h.2.1 (54 + 1) (x3.toNatClampNeg)), .int x2], h)) 3 rfl).trans ?_
      refine (z_X_if (g := z_in x3 4) (s' := (22, [(0, .ref 54), (1, .ref 54), (2, .int x2), (3, .int x3)], [.long (h.2.1 (54 + 1) (x3.toNatClampNeg)), .long (h.2.1 (54 + 1) (x3.toNatClampNeg)), .int x2], h)) rfl).trans (z_bifA ?_)
      refine (z_X_steps (s' := (23, [(0, .ref 54), (1, .ref 54), (2, .int x2), (3, .int x3)], [.long ((h.2.1 (54 + 1) (x3.toNatClampNeg)) &&& (h.2.1 (54 + 1) (x3.toNatClampNeg))), .int x2], h)) 1 rfl).trans ?_
      refine (z_X_call (id := 906) (a := [.long ((h.2.1 (54 + 1) (x3.toNatClampNeg)) &&& (h.2.1 (54 + 1) (x3.toNatClampNeg)))]) (c := 1) (s' := (26, [(0, .ref 54), (1, .ref 54), (2, .int x2), (3, .int x3)], [.int x2], h)) rfl ⟨Nat.le_of_ble_eq_true rfl, Nat.le_of_ble_eq_true rfl⟩).trans ?_
      refine z_bdc fun r1 h2 => ?_
      refine (z_X_steps (s' := (4, [(3, .int (x3 + 1)), (2, .int (x2 + r1)), (0, .ref 54), (1, .ref 54)], [], h2)) 4 rfl).trans ?_
      exact z_X_lab rfl
  · show z_X zc_Es_sizeWithin 3 (4, [(0, .ref 56), (1, .ref 56), (2, .int x2), (3, .int x3)], [], h) = _
    refine (z_X_steps (s' := (6, [(0, .ref 56), (1, .ref 56), (2, .int x2), (3, .int x3)], [.int 4, .int x3], h)) 2 rfl).trans ?_
    refine (z_X_br (c := (4 : Int32) ≤ x3) (s1 := (34, [(0, .ref 56), (1, .ref 56), (2, .int x2), (3, .int x3)], [], h)) (s2 := (9, [(0, .ref 56), (1, .ref 56), (2, .int x2), (3, .int x3)], [], h)) rfl).trans (z_ite ?_ ?_)
    · refine (z_X_steps (s' := (35, [(0, .ref 56), (1, .ref 56), (2, .int x2), (3, .int x3)], [.int x2], h)) 1 rfl).trans ?_
      exact z_X_ret rfl
    · refine (z_X_steps (s' := (15, [(0, .ref 56), (1, .ref 56), (2, .int x2), (3, .int x3)], [.int x3, .ref (56 + 1), .int x2], h)) 4 rfl).trans ?_
      refine (z_X_if (g := z_in x3 4) (s' := (16, [(0, .ref 56), (1, .ref 56), (2, .int x2), (3, .int x3)], [.long (h.2.1 (56 + 1) (x3.toNatClampNeg)), .int x2], h)) rfl).trans (z_bifA ?_)
      refine (z_X_steps (s' := (21, [(0, .ref 56), (1, .ref 56), (2, .int x2), (3, .int x3)], [.int x3, .ref (56 + 1), .long (h.2.1 (56 + 1) (x3.toNatClampNeg)), .int x2], h)) 3 rfl).trans ?_
      refine (z_X_if (g := z_in x3 4) (s' := (22, [(0, .ref 56), (1, .ref 56), (2, .int x2), (3, .int x3)], [.long (h.2.1 (56 + 1) (x3.toNatClampNeg)), .long (h.2.1 (56 + 1) (x3.toNatClampNeg)), .int x2], h)) rfl).trans (z_bifA ?_)
      refine (z_X_steps (s' := (23, [(0, .ref 56), (1, .ref 56), (2, .int x2), (3, .int x3)], [.long ((h.2.1 (56 + 1) (x3.toNatClampNeg)) &&& (h.2.1 (56 + 1) (x3.toNatClampNeg))), .int x2], h)) 1 rfl).trans ?_
      refine (z_X_call (id := 906) (a := [.long ((h.2.1 (56 + 1) (x3.toNatClampNeg)) &&& (h.2.1 (56 + 1) (x3.toNatClampNeg)))]) (c := 1) (s' := (26, [(0, .ref 56), (1, .ref 56), (2, .int x2), (3, .int x3)], [.int x2], h)) rfl ⟨Nat.le_of_ble_eq_true rfl, Nat.le_of_ble_eq_true rfl⟩).trans ?_
      refine z_bdc fun r1 h2 => ?_
      refine (z_X_steps (s' := (4, [(3, .int (x3 + 1)), (2, .int (x2 + r1)), (0, .ref 56), (1, .ref 56)], [], h2)) 4 rfl).trans ?_
      exact z_X_lab rfl
  · show z_X zc_Es_sizeWithin 3 (4, [(0, .ref 58), (1, .ref 58), (2, .int x2), (3, .int x3)], [], h) = _
    refine (z_X_steps (s' := (6, [(0, .ref 58), (1, .ref 58), (2, .int x2), (3, .int x3)], [.int 4, .int x3], h)) 2 rfl).trans ?_
    refine (z_X_br (c := (4 : Int32) ≤ x3) (s1 := (34, [(0, .ref 58), (1, .ref 58), (2, .int x2), (3, .int x3)], [], h)) (s2 := (9, [(0, .ref 58), (1, .ref 58), (2, .int x2), (3, .int x3)], [], h)) rfl).trans (z_ite ?_ ?_)
    · refine (z_X_steps (s' := (35, [(0, .ref 58), (1, .ref 58), (2, .int x2), (3, .int x3)], [.int x2], h)) 1 rfl).trans ?_
      exact z_X_ret rfl
    · refine (z_X_steps (s' := (15, [(0, .ref 58), (1, .ref 58), (2, .int x2), (3, .int x3)], [.int x3, .ref (58 + 1), .int x2], h)) 4 rfl).trans ?_
      refine (z_X_if (g := z_in x3 4) (s' := (16, [(0, .ref 58), (1, .ref 58), (2, .int x2), (3, .int x3)], [.long (h.2.1 (58 + 1) (x3.toNatClampNeg)), .int x2], h)) rfl).trans (z_bifA ?_)
      refine (z_X_steps (s' := (21, [(0, .ref 58), (1, .ref 58), (2, .int x2), (3, .int x3)], [.int x3, .ref (58 + 1), .long (h.2.1 (58 + 1) (x3.toNatClampNeg)), .int x2], h)) 3 rfl).trans ?_
      refine (z_X_if (g := z_in x3 4) (s' := (22, [(0, .ref 58), (1, .ref 58), (2, .int x2), (3, .int x3)], [.long (h.2.1 (58 + 1) (x3.toNatClampNeg)), .long (h.2.1 (58 + 1) (x3.toNatClampNeg)), .int x2], h)) rfl).trans (z_bifA ?_)
      refine (z_X_steps (s' := (23, [(0, .ref 58), (1, .ref 58), (2, .int x2), (3, .int x3)], [.long ((h.2.1 (58 + 1) (x3.toNatClampNeg)) &&& (h.2.1 (58 + 1) (x3.toNatClampNeg))), .int x2], h)) 1 rfl).trans ?_
      refine (z_X_call (id := 906) (a := [.long ((h.2.1 (58 + 1) (x3.toNatClampNeg)) &&& (h.2.1 (58 + 1) (x3.toNatClampNeg)))]) (c := 1) (s' := (26, [(0, .ref 58), (1, .ref 58), (2, .int x2), (3, .int x3)], [.int x2], h)) rfl ⟨Nat.le_of_ble_eq_true rfl, Nat.le_of_ble_eq_true rfl⟩).trans ?_
      refine z_bdc fun r1 h2 => ?_
      refine (z_X_steps (s' := (4, [(3, .int (x3 + 1)), (2, .int (x2 + r1)), (0, .ref 58), (1, .ref 58)], [], h2)) 4 rfl).trans ?_
      exact z_X_lab rfl
  · show z_X zc_Es_sizeWithin 3 (4, [(0, .ref 60), (1, .ref 60), (2, .int x2), (3, .int x3)], [], h) = _
    refine (z_X_steps (s' := (6, [(0, .ref 60), (1, .ref 60), (2, .int x2), (3, .int x3)], [.int 4, .int x3], h)) 2 rfl).trans ?_
    refine (z_X_br (c := (4 : Int32) ≤ x3) (s1 := (34, [(0, .ref 60), (1, .ref 60), (2, .int x2), (3, .int x3)], [], h)) (s2 := (9, [(0, .ref 60), (1, .ref 60), (2, .int x2), (3, .int x3)], [], h)) rfl).trans (z_ite ?_ ?_)
    · refine (z_X_steps (s' := (35, [(0, .ref 60), (1, .ref 60), (2, .int x2), (3, .int x3)], [.int x2], h)) 1 rfl).trans ?_
      exact z_X_ret rfl
    · refine (z_X_steps (s' := (15, [(0, .ref 60), (1, .ref 60), (2, .int x2), (3, .int x3)], [.int x3, .ref (60 + 1), .int x2], h)) 4 rfl).trans ?_
      refine (z_X_if (g := z_in x3 4) (s' := (16, [(0, .ref 60), (1, .ref 60), (2, .int x2), (3, .int x3)], [.long (h.2.1 (60 + 1) (x3.toNatClampNeg)), .int x2], h)) rfl).trans (z_bifA ?_)
      refine (z_X_steps (s' := (21, [(0, .ref 60), (1, .ref 60), (2, .int x2), (3, .int x3)], [.int x3, .ref (60 + 1), .long (h.2.1 (60 + 1) (x3.toNatClampNeg)), .int x2], h)) 3 rfl).trans ?_
      refine (z_X_if (g := z_in x3 4) (s' := (22, [(0, .ref 60), (1, .ref 60), (2, .int x2), (3, .int x3)], [.long (h.2.1 (60 + 1) (x3.toNatClampNeg)), .long (h.2.1 (60 + 1) (x3.toNatClampNeg)), .int x2], h)) rfl).trans (z_bifA ?_)
      refine (z_X_steps (s' := (23, [(0, .ref 60), (1, .ref 60), (2, .int x2), (3, .int x3)], [.long ((h.2.1 (60 + 1) (x3.toNatClampNeg)) &&& (h.2.1 (60 + 1) (x3.toNatClampNeg))), .int x2], h)) 1 rfl).trans ?_
      refine (z_X_call (id := 906) (a := [.long ((h.2.1 (60 + 1) (x3.toNatClampNeg)) &&& (h.2.1 (60 + 1) (x3.toNatClampNeg)))]) (c := 1) (s' := (26, [(0, .ref 60), (1, .ref 60), (2, .int x2), (3, .int x3)], [.int x2], h)) rfl ⟨Nat.le_of_ble_eq_true rfl, Nat.le_of_ble_eq_true rfl⟩).trans ?_
      refine z_bdc fun r1 h2 => ?_
      refine (z_X_steps (s' := (4, [(3, .int (x3 + 1)), (2, .int (x2 + r1)), (0, .ref 60), (1, .ref 60)], [], h2)) 4 rfl).trans ?_
      exact z_X_lab rfl
  · show z_X zc_Es_sizeWithin 3 (4, [(0, .ref 62), (1, .ref 62), (2, .int x2), (3, .int x3)], [], h) = _
    refine (z_X_steps (s' := (6, [(0, .ref 62), (1, .ref 62), (2, .int x2), (3, .int x3)], [.int 4, .int x3], h)) 2 rfl).trans ?_
    refine (z_X_br (c := (4 : Int32) ≤ x3) (s1 := (34, [(0, .ref 62), (1, .ref 62), (2, .int x2), (3, .int x3)], [], h)) (s2 := (9, [(0, .ref 62), (1, .ref 62), (2, .int x2), (3, .int x3)], [], h)) rfl).trans (z_ite ?_ ?_)
    · refine (z_X_steps (s' := (35, [(0, .ref 62), (1, .ref 62), (2, .int x2), (3, .int x3)], [.int x2], h)) 1 rfl).trans ?_
      exact z_X_ret rfl
    · refine (z_X_steps (s' := (15, [(0, .ref 62), (1, .ref 62), (2, .int x2), (3, .int x3)], [.int x3, .ref (62 + 1), .int x2], h)) 4 rfl).trans ?_
      refine (z_X_if (g := z_in x3 4) (s' := (16, [(0, .ref 62), (1, .ref 62), (2, .int x2), (3, .int x3)], [.long (h.2.1 (62 + 1) (x3.toNatClampNeg)), .int x2], h)) rfl).trans (z_bifA ?_)
      refine (z_X_steps (s' := (21, [(0, .ref 62), (1, .ref 62), (2, .int x2), (3, .int x3)], [.int x3, .ref (62 + 1), .long (h.2.1 (62 + 1) (x3.toNatClampNeg)), .int x2], h)) 3 rfl).trans ?_
      refine (z_X_if (g := z_in x3 4) (s' := (22, [(0, .ref 62), (1, .ref 62), (2, .int x2), (3, .int x3)], [.long (h.2.1 (62 + 1) (x3.toNatClampNeg)), .long (h.2.1 (62 + 1) (x3.toNatClampNeg)), .int x2], h)) rfl).trans (z_bifA ?_)
      refine (z_X_steps (s' := (23, [(0, .ref 62), (1, .ref 62), (2, .int x2), (3, .int x3)], [.long ((h.2.1 (62 + 1) (x3.toNatClampNeg)) &&& (h.2.1 (62 + 1) (x3.toNatClampNeg))), .int x2], h)) 1 rfl).trans ?_
      refine (z_X_call (id := 906) (a := [.long ((h.2.1 (62 + 1) (x3.toNatClampNeg)) &&& (h.2.1 (62 + 1) (x3.toNatClampNeg)))]) (c := 1) (s' := (26, [(0, .ref 62), (1, .ref 62), (2, .int x2), (3, .int x3)], [.int x2], h)) rfl ⟨Nat.le_of_ble_eq_true rfl, Nat.le_of_ble_eq_true rfl⟩).trans ?_
      refine z_bdc fun r1 h2 => ?_
      refine (z_X_steps (s' := (4, [(3, .int (x3 + 1)), (2, .int (x2 + r1)), (0, .ref 62), (1, .ref 62)], [], h2)) 4 rfl).trans ?_
      exact z_X_lab rfl
  · show z_X zc_Es_sizeWithin 3 (4, [(0, .ref 64), (1, .ref 64), (2, .int x2), (3, .int x3)], [], h) = _
    refine (z_X_steps (s' := (6, [(0, .ref 64), (1, .ref 64), (2, .int x2), (3, .int x3)], [.int 4, .int x3], h)) 2 rfl).trans ?_
    refine (z_X_br (c := (4 : Int32) ≤ x3) (s1 := (34, [(0, .ref 64), (1, .ref 64), (2, .int x2), (3, .int x3)], [], h)) (s2 := (9, [(0, .ref 64), (1, .ref 64), (2, .int x2), (3, .int x3)], [], h)) rfl).trans (z_ite ?_ ?_)
    · refine (z_X_steps (s' := (35, [(0, .ref 64), (1, .ref 64), (2, .int x2), (3, .int x3)], [.int x2], h)) 1 rfl).trans ?_
      exact z_X_ret rfl
    · refine (z_X_steps (s' := (15, [(0, .ref 64), (1, .ref 64), (2, .int x2), (3, .int x3)], [.int x3, .ref (64 + 1), .int x2], h)) 4 rfl).trans ?_
      refine (z_X_if (g := z_in x3 4) (s' := (16, [(0, .ref 64), (1, .ref 64), (2, .int x2), (3, .int x3)], [.long (h.2.1 (64 + 1) (x3.toNatClampNeg)), .int x2], h)) rfl).trans (z_bifA ?_)
      refine (z_X_steps (s' := (21, [(0, .ref 64), (1, .ref 64), (2, .int x2), (3, .int x3)], [.int x3, .ref (64 + 1), .long (h.2.1 (64 + 1) (x3.toNatClampNeg)), .int x2], h)) 3 rfl).trans ?_
      refine (z_X_if (g := z_in x3 4) (s' := (22, [(0, .ref 64), (1, .ref 64), (2, .int x2), (3, .int x3)], [.long (h.2.1 (64 + 1) (x3.toNatClampNeg)), .long (h.2.1 (64 + 1) (x3.toNatClampNeg)), .int x2], h)) rfl).trans (z_bifA ?_)
      refine (z_X_steps (s' := (23, [(0, .ref 64), (1, .ref 64), (2, .int x2), (3, .int x3)], [.long ((h.2.1 (64 + 1) (x3.toNatClampNeg)) &&& (h.2.1 (64 + 1) (x3.toNatClampNeg))), .int x2], h)) 1 rfl).trans ?_
      refine (z_X_call (id := 906) (a := [.long ((h.2.1 (64 + 1) (x3.toNatClampNeg)) &&& (h.2.1 (64 + 1) (x3.toNatClampNeg)))]) (c := 1) (s' := (26, [(0, .ref 64), (1, .ref 64), (2, .int x2), (3, .int x3)], [.int x2], h)) rfl ⟨Nat.le_of_ble_eq_true rfl, Nat.le_of_ble_eq_true rfl⟩).trans ?_
      refine z_bdc fun r1 h2 => ?_
      refine (z_X_steps (s' := (4, [(3, .int (x3 + 1)), (2, .int (x2 + r1)), (0, .ref 64), (1, .ref 64)], [], h2)) 4 rfl).trans ?_
      exact z_X_lab rfl
  · show z_X zc_Es_sizeWithin 3 (4, [(0, .ref 66), (1, .ref 66), (2, .int x2), (3, .int x3)], [], h) = _
    refine (z_X_steps (s' := (6, [(0, .ref 66), (1, .ref 66), (2, .int x2), (3, .int x3)], [.int 4, .int x3], h)) 2 rfl).trans ?_
    refine (z_X_br (c := (4 : Int32) ≤ x3) (s1 := (34, [(0, .ref 66), (1, .ref 66), (2, .int x2), (3, .int x3)], [], h)) (s2 := (9, [(0, .ref 66), (1, .ref 66), (2, .int x2), (3, .int x3)], [], h)) rfl).trans (z_ite ?_ ?_)
    · refine (z_X_steps (s' := (35, [(0, .ref 66), (1, .ref 66), (2, .int x2), (3, .int x3)], [.int x2], h)) 1 rfl).trans ?_
      exact z_X_ret rfl
    · refine (z_X_steps (s' := (15, [(0, .ref 66), (1, .ref 66), (2, .int x2), (3, .int x3)], [.int x3, .ref (66 + 1), .int x2], h)) 4 rfl).trans ?_
      refine (z_X_if (g := z_in x3 4) (s' := (16, [(0, .ref 66), (1, .ref 66), (2, .int x2), (3, .int x3)], [.long (h.2.1 (66 + 1) (x3.toNatClampNeg)), .int x2], h)) rfl).trans (z_bifA ?_)
      refine (z_X_steps (s' := (21, [(0, .ref 66), (1, .ref 66), (2, .int x2), (3, .int x3)], [.int x3, .ref (66 + 1), .long (h.2.1 (66 + 1) (x3.toNatClampNeg)), .int x2], h)) 3 rfl).trans ?_
      refine (z_X_if (g := z_in x3 4) (s' := (22, [(0, .ref 66), (1, .ref 66), (2, .int x2), (3, .int x3)], [.long (h.2.1 (66 + 1) (x3.toNatClampNeg)), .long (h.2.1 (66 + 1) (x3.toNatClampNeg)), .int x2], h)) rfl).trans (z_bifA ?_)
      refine (z_X_steps (s' := (23, [(0, .ref 66), (1, .ref 66), (2, .int x2), (3, .int x3)], [.long ((h.2.1 (66 + 1) (x3.toNatClampNeg)) &&& (h.2.1 (66 + 1) (x3.toNatClampNeg))), .int x2], h)) 1 rfl).trans ?_
      refine (z_X_call (id := 906) (a := [.long ((h.2.1 (66 + 1) (x3.toNatClampNeg)) &&& (h.2.1 (66 + 1) (x3.toNatClampNeg)))]) (c := 1) (s' := (26, [(0, .ref 66), (1, .ref 66), (2, .int x2), (3, .int x3)], [.int x2], h)) rfl ⟨Nat.le_of_ble_eq_true rfl, Nat.le_of_ble_eq_true rfl⟩).trans ?_
      refine z_bdc fun r1 h2 => ?_
      refine (z_X_steps (s' := (4, [(3, .int (x3 + 1)), (2, .int (x2 + r1)), (0, .ref 66), (1, .ref 66)], [], h2)) 4 rfl).trans ?_
      exact z_X_lab rfl
  · show z_X zc_Es_sizeWithin 3 (4, [(0, .ref 68), (1, .ref 68), (2, .int x2), (3, .int x3)], [], h) = _
    refine (z_X_steps (s' := (6, [(0, .ref 68), (1, .ref 68), (2, .int x2), (3, .int x3)], [.int 4, .int x3], h)) 2 rfl).trans ?_
    refine (z_X_br (c := (4 : Int32) ≤ x3) (s1 := (34, [(0, .ref 68), (1, .ref 68), (2, .int x2), (3, .int x3)], [], h)) (s2 := (9, [(0, .ref 68), (1, .ref 68), (2, .int x2), (3, .int x3)], [], h)) rfl).trans (z_ite ?_ ?_)
    · refine (z_X_steps (s' := (35, [(0, .ref 68), (1, .ref 68), (2, .int x2), (3, .int x3)], [.int x2], h)) 1 rfl).trans ?_
      exact z_X_ret rfl
    · refine (z_X_steps (s' := (15, [(0, .ref 68), (1, .ref 68), (2, .int x2), (3, .int x3)], [.int x3, .ref (68 + 1), .int x2], h)) 4 rfl).trans ?_
      refine (z_X_if (g := z_in x3 4) (s' := (16, [(0, .ref 68), (1, .ref 68), (2, .int x2), (3, .int x3)], [.long (h.2.1 (68 + 1) (x3.toNatClampNeg)), .int x2], h)) rfl).trans (z_bifA ?_)
      refine (z_X_steps (s' := (21, [(0, .ref 68), (1, .ref 68), (2, .int x2), (3, .int x3)], [.int x3, .ref (68 + 1), .long (h.2.1 (68 + 1) (x3.toNatClampNeg)), .int x2], h)) 3 rfl).trans ?_
      refine (z_X_if (g := z_in x3 4) (s' := (22, [(0, .ref 68), (1, .ref 68), (2, .int x2), (3, .int x3)], [.long (h.2.1 (68 + 1) (x3.toNatClampNeg)), .long (h.2.1 (68 + 1) (x3.toNatClampNeg)), .int x2], h)) rfl).trans (z_bifA ?_)
      refine (z_X_steps (s' := (23, [(0, .ref 68), (1, .ref 68), (2, .int x2), (3, .int x3)], [.long ((h.2.1 (68 + 1) (x3.toNatClampNeg)) &&& (h.2.1 (68 + 1) (x3.toNatClampNeg))), .int x2], h)) 1 rfl).trans ?_
      refine (z_X_call (id := 906) (a := [.long ((h.2.1 (68 + 1) (x3.toNatClampNeg)) &&& (h.2.1 (68 + 1) (x3.toNatClampNeg)))]) (c := 1) (s' := (26, [(0, .ref 68), (1, .ref 68), (2, .int x2), (3, .int x3)], [.int x2], h)) rfl ⟨Nat.le_of_ble_eq_true rfl, Nat.le_of_ble_eq_true rfl⟩).trans ?_
      refine z_bdc fun r1 h2 => ?_
      refine (z_X_steps (s' := (4, [(3, .int (x3 + 1)), (2, .int (x2 + r1)), (0, .ref 68), (1, .ref 68)], [], h2)) 4 rfl).trans ?_
      exact z_X_lab rfl
  · show z_X zc_Es_sizeWithin 3 (4, [(0, .ref 54), (1, .ref 41), (2, .int x2), (3, .int x3)], [], h) = _
    refine (z_X_steps (s' := (6, [(0, .ref 54), (1, .ref 41), (2, .int x2), (3, .int x3)], [.int 4, .int x3], h)) 2 rfl).trans ?_
    refine (z_X_br (c := (4 : Int32) ≤ x3) (s1 := (34, [(0, .ref 54), (1, .ref 41), (2, .int x2), (3, .int x3)], [], h)) (s2 := (9, [(0, .ref 54), (1, .ref 41), (2, .int x2), (3, .int x3)], [], h)) rfl).trans (z_ite ?_ ?_)
    · refine (z_X_steps (s' := (35, [(0, .ref 54), (1, .ref 41), (2, .int x2), (3, .int x3)], [.int x2], h)) 1 rfl).trans ?_
      exact z_X_ret rfl
    · refine (z_X_steps (s' := (15, [(0, .ref 54), (1, .ref 41), (2, .int x2), (3, .int x3)], [.int x3, .ref (54 + 1), .int x2], h)) 4 rfl).trans ?_
      refine (z_X_if (g := z_in x3 4) (s' := (16, [(0, .ref 54), (1, .ref 41), (2, .int x2), (3, .int x3)], [.long (h.2.1 (54 + 1) (x3.toNatClampNeg)), .int x2], h)) rfl).trans (z_bifA ?_)
      refine (z_X_steps (s' := (21, [(0, .ref 54), (1, .ref 41), (2, .int x2), (3, .int x3)], [.int x3, .ref (41 + 1), .long (h.2.1 (54 + 1) (x3.toNatClampNeg)), .int x2], h)) 3 rfl).trans ?_
      refine (z_X_if (g := z_in x3 4) (s' := (22, [(0, .ref 54), (1, .ref 41), (2, .int x2), (3, .int x3)], [.long (h.2.1 (41 + 1) (x3.toNatClampNeg)), .long (h.2.1 (54 + 1) (x3.toNatClampNeg)), .int x2], h)) rfl).trans (z_bifA ?_)
      refine (z_X_steps (s' := (23, [(0, .ref 54), (1, .ref 41), (2, .int x2), (3, .int x3)], [.long ((h.2.1 (54 + 1) (x3.toNatClampNeg)) &&& (h.2.1 (41 + 1) (x3.toNatClampNeg))), .int x2], h)) 1 rfl).trans ?_
      refine (z_X_call (id := 906) (a := [.long ((h.2.1 (54 + 1) (x3.toNatClampNeg)) &&& (h.2.1 (41 + 1) (x3.toNatClampNeg)))]) (c := 1) (s' := (26, [(0, .ref 54), (1, .ref 41), (2, .int x2), (3, .int x3)], [.int x2], h)) rfl ⟨Nat.le_of_ble_eq_true rfl, Nat.le_of_ble_eq_true rfl⟩).trans ?_
      refine z_bdc fun r1 h2 => ?_
      refine (z_X_steps (s' := (4, [(3, .int (x3 + 1)), (2, .int (x2 + r1)), (0, .ref 54), (1, .ref 41)], [], h2)) 4 rfl).trans ?_
      exact z_X_lab rfl
  · show z_X zc_Es_sizeWithin 3 (4, [(0, .ref 56), (1, .ref 41), (2, .int x2), (3, .int x3)], [], h) = _
    refine (z_X_steps (s' := (6, [(0, .ref 56), (1, .ref 41), (2, .int x2), (3, .int x3)], [.int 4, .int x3], h)) 2 rfl).trans ?_
    refine (z_X_br (c := (4 : Int32) ≤ x3) (s1 := (34, [(0, .ref 56), (1, .ref 41), (2, .int x2), (3, .int x3)], [], h)) (s2 := (9, [(0, .ref 56), (1, .ref 41), (2, .int x2), (3, .int x3)], [], h)) rfl).trans (z_ite ?_ ?_)
    · refine (z_X_steps (s' := (35, [(0, .ref 56), (1, .ref 41), (2, .int x2), (3, .int x3)], [.int x2], h)) 1 rfl).trans ?_
      exact z_X_ret rfl
    · refine (z_X_steps (s' := (15, [(0, .ref 56), (1, .ref 41), (2, .int x2), (3, .int x3)], [.int x3, .ref (56 + 1), .int x2], h)) 4 rfl).trans ?_
      refine (z_X_if (g := z_in x3 4) (s' := (16, [(0, .ref 56), (1, .ref 41), (2, .int x2), (3, .int x3)], [.long (h.2.1 (56 + 1) (x3.toNatClampNeg)), .int x2], h)) rfl).trans (z_bifA ?_)
      refine (z_X_steps (s' := (21, [(0, .ref 56), (1, .ref 41), (2, .int x2), (3, .int x3)], [.int x3, .ref (41 + 1), .long (h.2.1 (56 + 1) (x3.toNatClampNeg)), .int x2], h)) 3 rfl).trans ?_
      refine (z_X_if (g := z_in x3 4) (s' := (22, [(0, .ref 56), (1, .ref 41), (2, .int x2), (3, .int x3)], [.long (h.2.1 (41 + 1) (x3.toNatClampNeg)), .long (h.2.1 (56 + 1) (x3.toNatClampNeg)), .int x2], h)) rfl).trans (z_bifA ?_)
      refine (z_X_steps (s' := (23, [(0, .ref 56), (1, .ref 41), (2, .int x2), (3, .int x3)], [.long ((h.2.1 (56 + 1) (x3.toNatClampNeg)) &&& (h.2.1 (41 + 1) (x3.toNatClampNeg))), .int x2], h)) 1 rfl).trans ?_
      refine (z_X_call (id := 906) (a := [.long ((h.2.1 (56 + 1) (x3.toNatClampNeg)) &&& (h.2.1 (41 + 1) (x3.toNatClampNeg)))]) (c := 1) (s' := (26, [(0, .ref 56), (1, .ref 41), (2, .int x2), (3, .int x3)], [.int x2], h)) rfl ⟨Nat.le_of_ble_eq_true rfl, Nat.le_of_ble_eq_true rfl⟩).trans ?_
      refine z_bdc fun r1 h2 => ?_
      refine (z_X_steps (s' := (4, [(3, .int (x3 + 1)), (2, .int (x2 + r1)), (0, .ref 56), (1, .ref 41)], [], h2)) 4 rfl).trans ?_
      exact z_X_lab rfl
  · show z_X zc_Es_sizeWithin 3 (4, [(0, .ref 58), (1, .ref 41), (2, .int x2), (3, .int x3)], [], h) = _
    refine (z_X_steps (s' := (6, [(0, .ref 58), (1, .ref 41), (2, .int x2), (3, .int x3)], [.int 4, .int x3], h)) 2 rfl).trans ?_
    refine (z_X_br (c := (4 : Int32) ≤ x3) (s1 := (34, [(0, .ref 58), (1, .ref 41), (2, .int x2), (3, .int x3)], [], h)) (s2 := (9, [(0, .ref 58), (1, .ref 41), (2, .int x2), (3, .int x3)], [], h)) rfl).trans (z_ite ?_ ?_)
    · refine (z_X_steps (s' := (35, [(0, .ref 58), (1, .ref 41), (2, .int x2), (3, .int x3)], [.int x2], h)) 1 rfl).trans ?_
      exact z_X_ret rfl
    · refine (z_X_steps (s' := (15, [(0, .ref 58), (1, .ref 41), (2, .int x2), (3, .int x3)], [.int x3, .ref (58 + 1), .int x2], h)) 4 rfl).trans ?_
      refine (z_X_if (g := z_in x3 4) (s' := (16, [(0, .ref 58), (1, .ref 41), (2, .int x2), (3, .int x3)], [.long (h.2.1 (58 + 1) (x3.toNatClampNeg)), .int x2], h)) rfl).trans (z_bifA ?_)
      refine (z_X_steps (s' := (21, [(0, .ref 58), (1, .ref 41), (2, .int x2), (3, .int x3)], [.int x3, .ref (41 + 1), .long (h.2.1 (58 + 1) (x3.toNatClampNeg)), .int x2], h)) 3 rfl).trans ?_
      refine (z_X_if (g := z_in x3 4) (s' := (22, [(0, .ref 58), (1, .ref 41), (2, .int x2), (3, .int x3)], [.long (h.2.1 (41 + 1) (x3.toNatClampNeg)), .long (h.2.1 (58 + 1) (x3.toNatClampNeg)), .int x2], h)) rfl).trans (z_bifA ?_)
      refine (z_X_steps (s' := (23, [(0, .ref 58), (1, .ref 41), (2, .int x2), (3, .int x3)], [.long ((h.2.1 (58 + 1) (x3.toNatClampNeg)) &&& (h.2.1 (41 + 1) (x3.toNatClampNeg))), .int x2], h)) 1 rfl).trans ?_
      refine (z_X_call (id := 906) (a := [.long ((h.2.1 (58 + 1) (x3.toNatClampNeg)) &&& (h.2.1 (41 + 1) (x3.toNatClampNeg)))]) (c := 1) (s' := (26, [(0, .ref 58), (1, .ref 41), (2, .int x2), (3, .int x3)], [.int x2], h)) rfl ⟨Nat.le_of_ble_eq_true rfl, Nat.le_of_ble_eq_true rfl⟩).trans ?_
      refine z_bdc fun r1 h2 => ?_
      refine (z_X_steps (s' := (4, [(3, .int (x3 + 1)), (2, .int (x2 + r1)), (0, .ref 58), (1, .ref 41)], [], h2)) 4 rfl).trans ?_
      exact z_X_lab rfl
  · show z_X zc_Es_sizeWithin 3 (4, [(0, .ref 60), (1, .ref 41), (2, .int x2), (3, .int x3)], [], h) = _
    refine (z_X_steps (s' := (6, [(0, .ref 60), (1, .ref 41), (2, .int x2), (3, .int x3)], [.int 4, .int x3], h)) 2 rfl).trans ?_
    refine (z_X_br (c := (4 : Int32) ≤ x3) (s1 := (34, [(0, .ref 60), (1, .ref 41), (2, .int x2), (3, .int x3)], [], h)) (s2 := (9, [(0, .ref 60), (1, .ref 41), (2, .int x2), (3, .int x3)], [], h)) rfl).trans (z_ite ?_ ?_)
    · refine (z_X_steps (s' := (35, [(0, .ref 60), (1, .ref 41), (2, .int x2), (3, .int x3)], [.int x2], h)) 1 rfl).trans ?_
      exact z_X_ret rfl
    · refine (z_X_steps (s' := (15, [(0, .ref 60), (1, .ref 41), (2, .int x2), (3, .int x3)], [.int x3, .ref (60 + 1), .int x2], h)) 4 rfl).trans ?_
      refine (z_X_if (g := z_in x3 4) (s' := (16, [(0, .ref 60), (1, .ref 41), (2, .int x2), (3, .int x3)], [.long (h.2.1 (60 + 1) (x3.toNatClampNeg)), .int x2], h)) rfl).trans (z_bifA ?_)
      refine (z_X_steps (s' := (21, [(0, .ref 60), (1, .ref 41), (2, .int x2), (3, .int x3)], [.int x3, .ref (41 + 1), .long (h.2.1 (60 + 1) (x3.toNatClampNeg)), .int x2], h)) 3 rfl).trans ?_
      refine (z_X_if (g := z_in x3 4) (s' := (22, [(0, .ref 60), (1, .ref 41), (2, .int x2), (3, .int x3)], [.long (h.2.1 (41 + 1) (x3.toNatClampNeg)), .long (h.2.1 (60 + 1) (x3.toNatClampNeg)), .int x2], h)) rfl).trans (z_bifA ?_)
      refine (z_X_steps (s' := (23, [(0, .ref 60), (1, .ref 41), (2, .int x2), (3, .int x3)], [.long ((h.2.1 (60 + 1) (x3.toNatClampNeg)) &&& (h.2.1 (41 + 1) (x3.toNatClampNeg))), .int x2], h)) 1 rfl).trans ?_
      refine (z_X_call (id := 906) (a := [.long ((h.2.1 (60 + 1) (x3.toNatClampNeg)) &&& (h.2.1 (41 + 1) (x3.toNatClampNeg)))]) (c := 1) (s' := (26, [(0, .ref 60), (1, .ref 41), (2, .int x2), (3, .int x3)], [.int x2], h)) rfl ⟨Nat.le_of_ble_eq_true rfl, Nat.le_of_ble_eq_true rfl⟩).trans ?_
      refine z_bdc fun r1 h2 => ?_
      refine (z_X_steps (s' := (4, [(3, .int (x3 + 1)), (2, .int (x2 + r1)), (0, .ref 60), (1, .ref 41)], [], h2)) 4 rfl).trans ?_
      exact z_X_lab rfl
  · show z_X zc_Es_sizeWithin 3 (4, [(0, .ref 62), (1, .ref 41), (2, .int x2), (3, .int x3)], [], h) = _
    refine (z_X_steps (s' := (6, [(0, .ref 62), (1, .ref 41), (2, .int x2), (3, .int x3)], [.int 4, .int x3], h)) 2 rfl).trans ?_
    refine (z_X_br (c := (4 : Int32) ≤ x3) (s1 := (34, [(0, .ref 62), (1, .ref 41), (2, .int x2), (3, .int x3)], [], h)) (s2 := (9, [(0, .ref 62), (1, .ref 41), (2, .int x2), (3, .int x3)], [], h)) rfl).trans (z_ite ?_ ?_)
    · refine (z_X_steps (s' := (35, [(0, .ref 62), (1, .ref 41), (2, .int x2), (3, .int x3)], [.int x2], h)) 1 rfl).trans ?_
      exact z_X_ret rfl
    · refine (z_X_steps (s' := (15, [(0, .ref 62), (1, .ref 41), (2, .int x2), (3, .int x3)], [.int x3, .ref (62 + 1), .int x2], h)) 4 rfl).trans ?_
      refine (z_X_if (g := z_in x3 4) (s' := (16, [(0, .ref 62), (1, .ref 41), (2, .int x2), (3, .int x3)], [.long (h.2.1 (62 + 1) (x3.toNatClampNeg)), .int x2], h)) rfl).trans (z_bifA ?_)
      refine (z_X_steps (s' := (21, [(0, .ref 62), (1, .ref 41), (2, .int x2), (3, .int x3)], [.int x3, .ref (41 + 1), .long (h.2.1 (62 + 1) (x3.toNatClampNeg)), .int x2], h)) 3 rfl).trans ?_
      refine (z_X_if (g := z_in x3 4) (s' := (22, [(0, .ref 62), (1, .ref 41), (2, .int x2), (3, .int x3)], [.long (h.2.1 (41 + 1) (x3.toNatClampNeg)), .long (h.2.1 (62 + 1) (x3.toNatClampNeg)), .int x2], h)) rfl).trans (z_bifA ?_)
      refine (z_X_steps (s' := (23, [(0, .ref 62), (1, .ref 41), (2, .int x2), (3, .int x3)], [.long ((h.2.1 (62 + 1) (x3.toNatClampNeg)) &&& (h.2.1 (41 + 1) (x3.toNatClampNeg))), .int x2], h)) 1 rfl).trans ?_
      refine (z_X_call (id := 906) (a := [.long ((h.2.1 (62 + 1) (x3.toNatClampNeg)) &&& (h.2.1 (41 + 1) (x3.toNatClampNeg)))]) (c := 1) (s' := (26, [(0, .ref 62), (1, .ref 41), (2, .int x2), (3, .int x3)], [.int x2], h)) rfl ⟨Nat.le_of_ble_eq_true rfl, Nat.le_of_ble_eq_true rfl⟩).trans ?_
      refine z_bdc fun r1 h2 => ?_
      refine (z_X_steps (s' := (4, [(3, .int (x3 + 1)), (2, .int (x2 + r1)), (0, .ref 62), (1, .ref 41)], [], h2)) 4 rfl).trans ?_
      exact z_X_lab rfl
  · show z_X zc_Es_sizeWithin 3 (4, [(0, .ref 64), (1, .ref 41), (2, .int x2), (3, .int x3)], [], h) = _
    refine (z_X_steps (s' := (6, [(0, .ref 64), (1, .ref 41), (2, .int x2), (3, .int x3)], [.int 4, .int x3], h)) 2 rfl).trans ?_
    refine (z_X_br (c := (4 : Int32) ≤ x3) (s1 := (34, [(0, .ref 64), (1, .ref 41), (2, .int x2), (3, .int x3)], [], h)) (s2 := (9, [(0, .ref 64), (1, .ref 41), (2, .int x2), (3, .int x3)], [], h)) rfl).trans (z_ite ?_ ?_)
    · refine (z_X_steps (s' := (35, [(0, .ref 64), (1, .ref 41), (2, .int x2), (3, .int x3)], [.int x2], h)) 1 rfl).trans ?_
      exact z_X_ret rfl
    · refine (z_X_steps (s' := (15, [(0, .ref 64), (1, .ref 41), (2, .int x2), (3, .int x3)], [.int x3, .ref (64 + 1), .int x2], h)) 4 rfl).trans ?_
      refine (z_X_if (g := z_in x3 4) (s' := (16, [(0, .ref 64), (1, .ref 41), (2, .int x2), (3, .int x3)], [.long (h.2.1 (64 + 1) (x3.toNatClampNeg)), .int x2], h)) rfl).trans (z_bifA ?_)
      refine (z_X_steps (s' := (21, [(0, .ref 64), (1, .ref 41), (2, .int x2), (3, .int x3)], [.int x3, .ref (41 + 1), .long (h.2.1 (64 + 1) (x3.toNatClampNeg)), .int x2], h)) 3 rfl).trans ?_
      refine (z_X_if (g := z_in x3 4) (s' := (22, [(0, .ref 64), (1, .ref 41), (2, .int x2), (3, .int x3)], [.long (h.2.1 (41 + 1) (x3.toNatClampNeg)), .long (h.2.1 (64 + 1) (x3.toNatClampNeg)), .int x2], h)) rfl).trans (z_bifA ?_)
      refine (z_X_steps (s' := (23, [(0, .ref 64), (1, .ref 41), (2, .int x2), (3, .int x3)], [.long ((h.2.1 (64 + 1) (x3.toNatClampNeg)) &&& (h.2.1 (41 + 1) (x3.toNatClampNeg))), .int x2], h)) 1 rfl).trans ?_
      refine (z_X_call (id := 906) (a := [.long ((h.2.1 (64 + 1) (x3.toNatClampNeg)) &&& (h.2.1 (41 + 1) (x3.toNatClampNeg)))]) (c := 1) (s' := (26, [(0, .ref 64), (1, .ref 41), (2, .int x2), (3, .int x3)], [.int x2], h)) rfl ⟨Nat.le_of_ble_eq_true rfl, Nat.le_of_ble_eq_true rfl⟩).trans ?_
      refine z_bdc fun r1 h2 => ?_
      refine (z_X_steps (s' := (4, [(3, .int (x3 + 1)), (2, .int (x2 + r1)), (0, .ref 64), (1, .ref 41)], [], h2)) 4 rfl).trans ?_
      exact z_X_lab rfl
  · show z_X zc_Es_sizeWithin 3 (4, [(0, .ref 66), (1, .ref 41), (2, .int x2), (3, .int x3)], [], h) = _
    refine (z_X_steps (s' := (6, [(0, .ref 66), (1, .ref 41), (2, .int x2), (3, .int x3)], [.int 4, .int x3], h)) 2 rfl).trans ?_
    refine (z_X_br (c := (4 : Int32) ≤ x3) (s1 := (34, [(0, .ref 66), (1, .ref 41), (2, .int x2), (3, .int x3)], [], h)) (s2 := (9, [(0, .ref 66), (1, .ref 41), (2, .int x2), (3, .int x3)], [], h)) rfl).trans (z_ite ?_ ?_)
    · refine (z_X_steps (s' := (35, [(0, .ref 66), (1, .ref 41), (2, .int x2), (3, .int x3)], [.int x2], h)) 1 rfl).trans ?_
      exact z_X_ret rfl
    · refine (z_X_steps (s' := (15, [(0, .ref 66), (1, .ref 41), (2, .int x2), (3, .int x3)], [.int x3, .ref (66 + 1), .int x2], h)) 4 rfl).trans ?_
      refine (z_X_if (g := z_in x3 4) (s' := (16, [(0, .ref 66), (1, .ref 41), (2, .int x2), (3, .int x3)], [.long (h.2.1 (66 + 1) (x3.toNatClampNeg)), .int x2], h)) rfl).trans (z_bifA ?_)
      refine (z_X_steps (s' := (21, [(0, .ref 66), (1, .ref 41), (2, .int x2), (3, .int x3)], [.int x3, .ref (41 + 1), .long (h.2.1 (66 + 1) (x3.toNatClampNeg)), .int x2], h)) 3 rfl).trans ?_
      refine (z_X_if (g := z_in x3 4) (s' := (22, [(0, .ref 66), (1, .ref 41), (2, .int x2), (3, .int x3)], [.long (h.2.1 (41 + 1) (x3.toNatClampNeg)), .long (h.2.1 (66 + 1) (x3.toNatClampNeg)), .int x2], h)) rfl).trans (z_bifA ?_)
      refine (z_X_steps (s' := (23, [(0, .ref 66), (1, .ref 41), (2, .int x2), (3, .int x3)], [.long ((h.2.1 (66 + 1) (x3.toNatClampNeg)) &&& (h.2.1 (41 + 1) (x3.toNatClampNeg))), .int x2], h)) 1 rfl).trans ?_
      refine (z_X_call (id := 906) (a := [.long ((h.2.1 (66 + 1) (x3.toNatClampNeg)) &&& (h.2.1 (41 + 1) (x3.toNatClampNeg)))]) (c := 1) (s' := (26, [(0, .ref 66), (1, .ref 41), (2, .int x2), (3, .int x3)], [.int x2], h)) rfl ⟨Nat.le_of_ble_eq_true rfl, Nat.le_of_ble_eq_true rfl⟩).trans ?_
      refine z_bdc fun r1 h2 => ?_
      refine (z_X_steps (s' := (4, [(3, .int (x3 + 1)), (2, .int (x2 + r1)), (0, .ref 66), (1, .ref 41)], [], h2)) 4 rfl).trans ?_
      exact z_X_lab rfl
  · show z_X zc_Es_sizeWithin 3 (4, [(0, .ref 68), (1, .ref 41), (2, .int x2), (3, .int x3)], [], h) = _
    refine (z_X_steps (s' := (6, [(0, .ref 68), (1, .ref 41), (2, .int x2), (3, .int x3)], [.int 4, .int x3], h)) 2 rfl).trans ?_
    refine (z_X_br (c := (4 : Int32) ≤ x3) (s1 := (34, [(0, .ref 68), (1, .ref 41), (2, .int x2), (3, .int x3)], [], h)) (s2 := (9, [(0, .ref 68), (1, .ref 41), (2, .int x2), (3, .int x3)], [], h)) rfl).trans (z_ite ?_ ?_)
    · refine (z_X_steps (s' := (35, [(0, .ref 68), (1, .ref 41), (2, .int x2), (3, .int x3)], [.int x2], h)) 1 rfl).trans ?_
      exact z_X_ret rfl
    · refine (z_X_steps (s' := (15, [(0, .ref 68), (1, .ref 41), (2, .int x2), (3, .int x3)], [.int x3, .ref (68 + 1), .int x2], h)) 4 rfl).trans ?_
      refine (z_X_if (g := z_in x3 4) (s' := (16, [(0, .ref 68), (1, .ref 41), (2, .int x2), (3, .int x3)], [.long (h.2.1 (68 + 1) (x3.toNatClampNeg)), .int x2], h)) rfl).trans (z_bifA ?_)
      refine (z_X_steps (s' := (21, [(0, .ref 68), (1, .ref 41), (2, .int x2), (3, .int x3)], [.int x3, .ref (41 + 1), .long (h.2.1 (68 + 1) (x3.toNatClampNeg)), .int x2], h)) 3 rfl).trans ?_
      refine (z_X_if (g := z_in x3 4) (s' := (22, [(0, .ref 68), (1, .ref 41), (2, .int x2), (3, .int x3)], [.long (h.2.1 (41 + 1) (x3.toNatClampNeg)), .long (h.2.1 (68 + 1) (x3.toNatClampNeg)), .int x2], h)) rfl).trans (z_bifA ?_)
      refine (z_X_steps (s' := (23, [(0, .ref 68), (1, .ref 41), (2, .int x2), (3, .int x3)], [.long ((h.2.1 (68 + 1) (x3.toNatClampNeg)) &&& (h.2.1 (41 + 1) (x3.toNatClampNeg))), .int x2], h)) 1 rfl).trans ?_
      refine (z_X_call (id := 906) (a := [.long ((h.2.1 (68 + 1) (x3.toNatClampNeg)) &&& (h.2.1 (41 + 1) (x3.toNatClampNeg)))]) (c := 1) (s' := (26, [(0, .ref 68), (1, .ref 41), (2, .int x2), (3, .int x3)], [.int x2], h)) rfl ⟨Nat.le_of_ble_eq_true rfl, Nat.le_of_ble_eq_true rfl⟩).trans ?_
      refine z_bdc fun r1 h2 => ?_
      refine (z_X_steps (s' := (4, [(3, .int (x3 + 1)), (2, .int (x2 + r1)), (0, .ref 68), (1, .ref 41)], [], h2)) 4 rfl).trans ?_
      exact z_X_lab rfl
  · show z_X zc_Es_sizeWithin 3 (4, [(0, .ref 54), (1, .ref 50), (2, .int x2), (3, .int x3)], [], h) = _
    refine (z_X_steps (s' := (6, [(0, .ref 54), (1, .ref 50), (2, .int x2), (3, .int x3)], [.int 4, .int x3], h)) 2 rfl).trans ?_
    refine (z_X_br (c := (4 : Int32) ≤ x3) (s1 := (34, [(0, .ref 54), (1, .ref 50), (2, .int x2), (3, .int x3)], [], h)) (s2 := (9, [(0, .ref 54), (1, .ref 50), (2, .int x2), (3, .int x3)], [], h)) rfl).trans (z_ite ?_ ?_)
    · refine (z_X_steps (s' := (35, [(0, .ref 54), (1, .ref 50), (2, .int x2), (3, .int x3)], [.int x2], h)) 1 rfl).trans ?_
      exact z_X_ret rfl
    · refine (z_X_steps (s' := (15, [(0, .ref 54), (1, .ref 50), (2, .int x2), (3, .int x3)], [.int x3, .ref (54 + 1), .int x2], h)) 4 rfl).trans ?_
      refine (z_X_if (g := z_in x3 4) (s' := (16, [(0, .ref 54), (1, .ref 50), (2, .int x2), (3, .int x3)], [.long (h.2.1 (54 + 1) (x3.toNatClampNeg)), .int x2], h)) rfl).trans (z_bifA ?_)
      refine (z_X_steps (s' := (21, [(0, .ref 54), (1, .ref 50), (2, .int x2), (3, .int x3)], [.int x3, .ref (50 + 1), .long (h.2.1 (54 + 1) (x3.toNatClampNeg)), .int x2], h)) 3 rfl).trans ?_
      refine (z_X_if (g := z_in x3 4) (s' := (22, [(0, .ref 54), (1, .ref 50), (2, .int x2), (3, .int x3)], [.long (h.2.1 (50 + 1) (x3.toNatClampNeg)), .long (h.2.1 (54 + 1) (x3.toNatClampNeg)), .int x2], h)) rfl).trans (z_bifA ?_)
      refine (z_X_steps (s' := (23, [(0, .ref 54), (1, .ref 50), (2, .int x2), (3, .int x3)], [.long ((h.2.1 (54 + 1) (x3.toNatClampNeg)) &&& (h.2.1 (50 + 1) (x3.toNatClampNeg))), .int x2], h)) 1 rfl).trans ?_
      refine (z_X_call (id := 906) (a := [.long ((h.2.1 (54 + 1) (x3.toNatClampNeg)) &&& (h.2.1 (50 + 1) (x3.toNatClampNeg)))]) (c := 1) (s' := (26, [(0, .ref 54), (1, .ref 50), (2, .int x2), (3, .int x3)], [.int x2], h)) rfl ⟨Nat.le_of_ble_eq_true rfl, Nat.le_of_ble_eq_true rfl⟩).trans ?_
      refine z_bdc fun r1 h2 => ?_
      refine (z_X_steps (s' := (4, [(3, .int (x3 + 1)), (2, .int (x2 + r1)), (0, .ref 54), (1, .ref 50)], [], h2)) 4 rfl).trans ?_
      exact z_X_lab rfl
  · show z_X zc_Es_sizeWithin 3 (4, [(0, .ref 56), (1, .ref 50), (2, .int x2), (3, .int x3)], [], h) = _
    refine (z_X_steps (s' := (6, [(0, .ref 56), (1, .ref 50), (2, .int x2), (3, .int x3)], [.int 4, .int x3], h)) 2 rfl).trans ?_
    refine (z_X_br (c := (4 : Int32) ≤ x3) (s1 := (34, [(0, .ref 56), (1, .ref 50), (2, .int x2), (3, .int x3)], [], h)) (s2 := (9, [(0, .ref 56), (1, .ref 50), (2, .int x2), (3, .int x3)], [], h)) rfl).trans (z_ite ?_ ?_)
    · refine (z_X_steps (s' := (35, [(0, .ref 56), (1, .ref 50), (2, .int x2), (3, .int x3)], [.int x2], h)) 1 rfl).trans ?_
      exact z_X_ret rfl
    · refine (z_X_steps (s' := (15, [(0, .ref 56), (1, .ref 50), (2, .int x2), (3, .int x3)], [.int x3, .ref (56 + 1), .int x2], h)) 4 rfl).trans ?_
      refine (z_X_if (g := z_in x3 4) (s' := (16, [(0, .ref 56), (1, .ref 50), (2, .int x2), (3, .int x3)], [.long (h.2.1 (56 + 1) (x3.toNatClampNeg)), .int x2], h)) rfl).trans (z_bifA ?_)
      refine (z_X_steps (s' := (21, [(0, .ref 56), (1, .ref 50), (2, .int x2), (3, .int x3)], [.int x3, .ref (50 + 1), .long (h.2.1 (56 + 1) (x3.toNatClampNeg)), .int x2], h)) 3 rfl).trans ?_
      refine (z_X_if (g := z_in x3 4) (s' := (22, [(0, .ref 56), (1, .ref 50), (2, .int x2), (3, .int x3)], [.long (h.2.1 (50 + 1) (x3.toNatClampNeg)), .long (h.2.1 (56 + 1) (x3.toNatClampNeg)), .int x2], h)) rfl).trans (z_bifA ?_)
      refine (z_X_steps (s' := (23, [(0, .ref 56), (1, .ref 50), (2, .int x2), (3, .int x3)], [.long ((h.2.1 (56 + 1) (x3.toNatClampNeg)) &&& (h.2.1 (50 + 1) (x3.toNatClampNeg))), .int x2], h)) 1 rfl).trans ?_
      refine (z_X_call (id := 906) (a := [.long ((h.2.1 (56 + 1) (x3.toNatClampNeg)) &&& (h.2.1 (50 + 1) (x3.toNatClampNeg)))]) (c := 1) (s' := (26, [(0, .ref 56), (1, .ref 50), (2, .int x2), (3, .int x3)], [.int x2], h)) rfl ⟨Nat.le_of_ble_eq_true rfl, Nat.le_of_ble_eq_true rfl⟩).trans ?_
      refine z_bdc fun r1 h2 => ?_
      refine (z_X_steps (s' := (4, [(3, .int (x3 + 1)), (2, .int (x2 + r1)), (0, .ref 56), (1, .ref 50)], [], h2)) 4 rfl).trans ?_
      exact z_X_lab rfl
  · show z_X zc_Es_sizeWithin 3 (4, [(0, .ref 58), (1, .ref 50), (2, .int x2), (3, .int x3)], [], h) = _
    refine (z_X_steps (s' := (6, [(0, .ref 58), (1, .ref 50), (2, .int x2), (3, .int x3)], [.int 4, .int x3], h)) 2 rfl).trans ?_
    refine (z_X_br (c := (4 : Int32) ≤ x3) (s1 := (34, [(0, .ref 58), (1, .ref 50), (2, .int x2), (3, .int x3)], [], h)) (s2 := (9, [(0, .ref 58), (1, .ref 50), (2, .int x2), (3, .int x3)], [], h)) rfl).trans (z_ite ?_ ?_)
    · refine (z_X_steps (s' := (35, [(0, .ref 58), (1, .ref 50), (2, .int x2), (3, .int x3)], [.int x2], h)) 1 rfl).trans ?_
      exact z_X_ret rfl
    · refine (z_X_steps (s' := (15, [(0, .ref 58), (1, .ref 50), (2, .int x2), (3, .int x3)], [.int x3, .ref (58 + 1), .int x2], h)) 4 rfl).trans ?_
      refine (z_X_if (g := z_in x3 4) (s' := (16, [(0, .ref 58), (1, .ref 50), (2, .int x2), (3, .int x3)], [.long (h.2.1 (58 + 1) (x3.toNatClampNeg)), .int x2], h)) rfl).trans (z_bifA ?_)
      refine (z_X_steps (s' := (21, [(0, .ref 58), (1, .ref 50), (2, .int x2), (3, .int x3)], [.int x3, .ref (50 + 1), .long (h.2.1 (58 + 1) (x3.toNatClampNeg)), .int x2], h)) 3 rfl).trans ?_
      refine (z_X_if (g := z_in x3 4) (s' := (22, [(0, .ref 58), (1, .ref 50), (2, .int x2), (3, .int x3)], [.long (h.2.1 (50 + 1) (x3.toNatClampNeg)), .long (h.2.1 (58 + 1) (x3.toNatClampNeg)), .int x2], h)) rfl).trans (z_bifA ?_)
      refine (z_X_steps (s' := (23, [(0, .ref 58), (1, .ref 50), (2, .int x2), (3, .int x3)], [.long ((h.2.1 (58 + 1) (x3.toNatClampNeg)) &&& (h.2.1 (50 + 1) (x3.toNatClampNeg))), .int x2], h)) 1 rfl).trans ?_
      refine (z_X_call (id := 906) (a := [.long ((h.2.1 (58 + 1) (x3.toNatClampNeg)) &&& (h.2.1 (50 + 1) (x3.toNatClampNeg)))]) (c := 1) (s' := (26, [(0, .ref 58), (1, .ref 50), (2, .int x2), (3, .int x3)], [.int x2], h)) rfl ⟨Nat.le_of_ble_eq_true rfl, Nat.le_of_ble_eq_true rfl⟩).trans ?_
      refine z_bdc fun r1 h2 => ?_
      refine (z_X_steps (s' := (4, [(3, .int (x3 + 1)), (2, .int (x2 + r1)), (0, .ref 58), (1, .ref 50)], [], h2)) 4 rfl).trans ?_
      exact z_X_lab rfl
  · show z_X zc_Es_sizeWithin 3 (4, [(0, .ref 60), (1, .ref 50), (2, .int x2), (3, .int x3)], [], h) = _
    refine (z_X_steps (s' := (6, [(0, .ref 60), (1, .ref 50), (2, .int x2), (3, .int x3)], [.int 4, .int x3], h)) 2 rfl).trans ?_
    refine (z_X_br (c := (4 : Int32) ≤ x3) (s1 := (34, [(0, .ref 60), (1, .ref 50), (2, .int x2), (3, .int x3)], [], h)) (s2 := (9, [(0, .ref 60), (1, .ref 50), (2, .int x2), (3, .int x3)], [], h)) rfl).trans (z_ite ?_ ?_)
    · refine (z_X_steps (s' := (35, [(0, .ref 60), (1, .ref 50), (2, .int x2), (3, .int x3)], [.int x2], h)) 1 rfl).trans ?_
      exact z_X_ret rfl
    · refine (z_X_steps (s' := (15, [(0, .ref 60), (1, .ref 50), (2, .int x2), (3, .int x3)], [.int x3, .ref (60 + 1), .int x2], h)) 4 rfl).trans ?_
      refine (z_X_if (g := z_in x3 4) (s' := (16, [(0, .ref 60), (1, .ref 50), (2, .int x2), (3, .int x3)], [.long (h.2.1 (60 + 1) (x3.toNatClampNeg)), .int x2], h)) rfl).trans (z_bifA ?_)
      refine (z_X_steps (s' := (21, [(0, .ref 60), (1, .ref 50), (2, .int x2), (3, .int x3)], [.int x3, .ref (50 + 1), .long (h.2.1 (60 + 1) (x3.toNatClampNeg)), .int x2], h)) 3 rfl).trans ?_
      refine (z_X_if (g := z_in x3 4) (s' := (22, [(0, .ref 60), (1, .ref 50), (2, .int x2), (3, .int x3)], [.long (h.2.1 (50 + 1) (x3.toNatClampNeg)), .long (h.2.1 (60 + 1) (x3.toNatClampNeg)), .int x2], h)) rfl).trans (z_bifA ?_)
      refine (z_X_steps (s' := (23, [(0, .ref 60), (1, .ref 50), (2, .int x2), (3, .int x3)], [.long ((h.2.1 (60 + 1) (x3.toNatClampNeg)) &&& (h.2.1 (50 + 1) (x3.toNatClampNeg))), .int x2], h)) 1 rfl).trans ?_
      refine (z_X_call (id := 906) (a := [.long ((h.2.1 (60 + 1) (x3.toNatClampNeg)) &&& (h.2.1 (50 + 1) (x3.toNatClampNeg)))]) (c := 1) (s' := (26, [(0, .ref 60), (1, .ref 50), (2, .int x2), (3, .int x3)], [.int x2], h)) rfl ⟨Nat.le_of_ble_eq_true rfl, Nat.le_of_ble_eq_true rfl⟩).trans ?_
      refine z_bdc fun r1 h2 => ?_
      refine (z_X_steps (s' := (4, [(3, .int (x3 + 1)), (2, .int (x2 + r1)), (0, .ref 60), (1, .ref 50)], [], h2)) 4 rfl).trans ?_
      exact z_X_lab rfl
  · show z_X zc_Es_sizeWithin 3 (4, [(0, .ref 62), (1, .ref 50), (2, .int x2), (3, .int x3)], [], h) = _
    refine (z_X_steps (s' := (6, [(0, .ref 62), (1, .ref 50), (2, .int x2), (3, .int x3)], [.int 4, .int x3], h)) 2 rfl).trans ?_
    refine (z_X_br (c := (4 : Int32) ≤ x3) (s1 := (34, [(0, .ref 62), (1, .ref 50), (2, .int x2), (3, .int x3)], [], h)) (s2 := (9, [(0, .ref 62), (1, .ref 50), (2, .int x2), (3, .int x3)], [], h)) rfl).trans (z_ite ?_ ?_)
    · refine (z_X_steps (s' := (35, [(0, .ref 62), (1, .ref 50), (2, .int x2), (3, .int x3)], [.int x2], h)) 1 rfl).trans ?_
      exact z_X_ret rfl
    · refine (z_X_steps (s' := (15, [(0, .ref 62), (1, .ref 50), (2, .int x2), (3, .int x3)], [.int x3, .ref (62 + 1), .int x2], h)) 4 rfl).trans ?_
      refine (z_X_if (g := z_in x3 4) (s' := (16, [(0, .ref 62), (1, .ref 50), (2, .int x2), (3, .int x3)], [.long (h.2.1 (62 + 1) (x3.toNatClampNeg)), .int x2], h)) rfl).trans (z_bifA ?_)
      refine (z_X_steps (s' := (21, [(0, .ref 62), (1, .ref 50), (2, .int x2), (3, .int x3)], [.int x3, .ref (50 + 1), .long (h.2.1 (62 + 1) (x3.toNatClampNeg)), .int x2], h)) 3 rfl).trans ?_
      refine (z_X_if (g := z_in x3 4) (s' := (22, [(0, .ref 62), (1, .ref 50), (2, .int x2), (3, .int x3)], [.long (h.2.1 (50 + 1) (x3.toNatClampNeg)), .long (h.2.1 (62 + 1) (x3.toNatClampNeg)), .int x2], h)) rfl).trans (z_bifA ?_)
      refine (z_X_steps (s' := (23, [(0, .ref 62), (1, .ref 50), (2, .int x2), (3, .int x3)], [.long ((h.2.1 (62 + 1) (x3.toNatClampNeg)) &&& (h.2.1 (50 + 1) (x3.toNatClampNeg))), .int x2], h)) 1 rfl).trans ?_
      refine (z_X_call (id := 906) (a := [.long ((h.2.1 (62 + 1) (x3.toNatClampNeg)) &&& (h.2.1 (50 + 1) (x3.toNatClampNeg)))]) (c := 1) (s' := (26, [(0, .ref 62), (1, .ref 50), (2, .int x2), (3, .int x3)], [.int x2], h)) rfl ⟨Nat.le_of_ble_eq_true rfl, Nat.le_of_ble_eq_true rfl⟩).trans ?_
      refine z_bdc fun r1 h2 => ?_
      refine (z_X_steps (s' := (4, [(3, .int (x3 + 1)), (2, .int (x2 + r1)), (0, .ref 62), (1, .ref 50)], [], h2)) 4 rfl).trans ?_
      exact z_X_lab rfl
  · show z_X zc_Es_sizeWithin 3 (4, [(0, .ref 64), (1, .ref 50), (2, .int x2), (3, .int x3)], [], h) = _
    refine (z_X_steps (s' := (6, [(0, .ref 64), (1, .ref 50), (2, .int x2), (3, .int x3)], [.int 4, .int x3], h)) 2 rfl).trans ?_
    refine (z_X_br (c := (4 : Int32) ≤ x3) (s1 := (34, [(0, .ref 64), (1, .ref 50), (2, .int x2), (3, .int x3)], [], h)) (s2 := (9, [(0, .ref 64), (1, .ref 50), (2, .int x2), (3, .int x3)], [], h)) rfl).trans (z_ite ?_ ?_)
    · refine (z_X_steps (s' := (35, [(0, .ref 64), (1, .ref 50), (2, .int x2), (3, .int x3)], [.int x2], h)) 1 rfl).trans ?_
      exact z_X_ret rfl
    · refine (z_X_steps (s' := (15, [(0, .ref 64), (1, .ref 50), (2, .int x2), (3, .int x3)], [.int x3, .ref (64 + 1), .int x2], h)) 4 rfl).trans ?_
      refine (z_X_if (g := z_in x3 4) (s' := (16, [(0, .ref 64), (1, .ref 50), (2, .int x2), (3, .int x3)], [.long (h.2.1 (64 + 1) (x3.toNatClampNeg)), .int x2], h)) rfl).trans (z_bifA ?_)
      refine (z_X_steps (s' := (21, [(0, .ref 64), (1, .ref 50), (2, .int x2), (3, .int x3)], [.int x3, .ref (50 + 1), .long (h.2.1 (64 + 1) (x3.toNatClampNeg)), .int x2], h)) 3 rfl).trans ?_
      refine (z_X_if (g := z_in x3 4) (s' := (22, [(0, .ref 64), (1, .ref 50), (2, .int x2), (3, .int x3)], [.long (h.2.1 (50 + 1) (x3.toNatClampNeg)), .long (h.2.1 (64 + 1) (x3.toNatClampNeg)), .int x2], h)) rfl).trans (z_bifA ?_)
      refine (z_X_steps (s' := (23, [(0, .ref 64), (1, .ref 50), (2, .int x2), (3, .int x3)], [.long ((h.2.1 (64 + 1) (x3.toNatClampNeg)) &&& (h.2.1 (50 + 1) (x3.toNatClampNeg))), .int x2], h)) 1 rfl).trans ?_
      refine (z_X_call (id := 906) (a := [.long ((h.2.1 (64 + 1) (x3.toNatClampNeg)) &&& (h.2.1 (50 + 1) (x3.toNatClampNeg)))]) (c := 1) (s' := (26, [(0, .ref 64), (1, .ref 50), (2, .int x2), (3, .int x3)], [.int x2], h)) rfl ⟨Nat.le_of_ble_eq_true rfl, Nat.le_of_ble_eq_true rfl⟩).trans ?_
      refine z_bdc fun r1 h2 => ?_
      refine (z_X_steps (s' := (4, [(3, .int (x3 + 1)), (2, .int (x2 + r1)), (0, .ref 64), (1, .ref 50)], [], h2)) 4 rfl).trans ?_
      exact z_X_lab rfl
  · show z_X zc_Es_sizeWithin 3 (4, [(0, .ref 66), (1, .ref 50), (2, .int x2), (3, .int x3)], [], h) = _
    refine (z_X_steps (s' := (6, [(0, .ref 66), (1, .ref 50), (2, .int x2), (3, .int x3)], [.int 4, .int x3], h)) 2 rfl).trans ?_
    refine (z_X_br (c := (4 : Int32) ≤ x3) (s1 := (34, [(0, .ref 66), (1, .ref 50), (2, .int x2), (3, .int x3)], [], h)) (s2 := (9, [(0, .ref 66), (1, .ref 50), (2, .int x2), (3, .int x3)], [], h)) rfl).trans (z_ite ?_ ?_)
    · refine (z_X_steps (s' := (35, [(0, .ref 66), (1, .ref 50), (2, .int x2), (3, .int x3)], [.int x2], h)) 1 rfl).trans ?_
      exact z_X_ret rfl
    · refine (z_X_steps (s' := (15, [(0, .ref 66), (1, .ref 50), (2, .int x2), (3, .int x3)], [.int x3, .ref (66 + 1), .int x2], h)) 4 rfl).trans ?_
      refine (z_X_if (g := z_in x3 4) (s' := (16, [(0, .ref 66), (1, .ref 50), (2, .int x2), (3, .int x3)], [.long (h.2.1 (66 + 1) (x3.toNatClampNeg)), .int x2], h)) rfl).trans (z_bifA ?_)
      refine (z_X_steps (s' := (21, [(0, .ref 66), (1, .ref 50), (2, .int x2), (3, .int x3)], [.int x3, .ref (50 + 1), .long (h.2.1 (66 + 1) (x3.toNatClampNeg)), .int x2], h)) 3 rfl).trans ?_
      refine (z_X_if (g := z_in x3 4) (s' := (22, [(0, .ref 66), (1, .ref 50), (2, .int x2), (3, .int x3)], [.long (h.2.1 (50 + 1) (x3.toNatClampNeg)), .long (h.2.1 (66 + 1) (x3.toNatClampNeg)), .int x2], h)) rfl).trans (z_bifA ?_)
      refine (z_X_steps (s' := (23, [(0, .ref 66), (1, .ref 50), (2, .int x2), (3, .int x3)], [.long ((h.2.1 (66 + 1) (x3.toNatClampNeg)) &&& (h.2.1 (50 + 1) (x3.toNatClampNeg))), .int x2], h)) 1 rfl).trans ?_
      refine (z_X_call (id := 906) (a := [.long ((h.2.1 (66 + 1) (x3.toNatClampNeg)) &&& (h.2.1 (50 + 1) (x3.toNatClampNeg)))]) (c := 1) (s' := (26, [(0, .ref 66), (1, .ref 50), (2, .int x2), (3, .int x3)], [.int x2], h)) rfl ⟨Nat.le_of_ble_eq_true rfl, Nat.le_of_ble_eq_true rfl⟩).trans ?_
      refine z_bdc fun r1 h2 => ?_
      refine (z_X_steps (s' := (4, [(3, .int (x3 + 1)), (2, .int (x2 + r1)), (0, .ref 66), (1, .ref 50)], [], h2)) 4 rfl).trans ?_
      exact z_X_lab rfl
  · show z_X zc_Es_sizeWithin 3 (4, [(0, .ref 68), (1, .ref 50), (2, .int x2), (3, .int x3)], [], h) = _
    refine (z_X_steps (s' := (6, [(0, .ref 68), (1, .ref 50), (2, .int x2), (3, .int x3)], [.int 4, .int x3], h)) 2 rfl).trans ?_
    refine (z_X_br (c := (4 : Int32) ≤ x3) (s1 := (34, [(0, .ref 68), (1, .ref 50), (2, .int x2), (3, .int x3)], [], h)) (s2 := (9, [(0, .ref 68), (1, .ref 50), (2, .int x2), (3, .int x3)], [], h)) rfl).trans (z_ite ?_ ?_)
    · refine (z_X_steps (s' := (35, [(0, .ref 68), (1, .ref 50), (2, .int x2), (3, .int x3)], [.int x2], h)) 1 rfl).trans ?_
      exact z_X_ret rfl
    · refine (z_X_steps (s' := (15, [(0, .ref 68), (1, .ref 50), (2, .int x2), (3, .int x3)], [.int x3, .ref (68 + 1), .int x2], h)) 4 rfl).trans ?_
      refine (z_X_if (g := z_in x3 4) (s' := (16, [(0, .ref 68), (1, .ref 50), (2, .int x2), (3, .int x3)], [.long (h.2.1 (68 + 1) (x3.toNatClampNeg)), .int x2], h)) rfl).trans (z_bifA ?_)
      refine (z_X_steps (s' := (21, [(0, .ref 68), (1, .ref 50), (2, .int x2), (3, .int x3)], [.int x3, .ref (50 + 1), .long (h.2.1 (68 + 1) (x3.toNatClampNeg)), .int x2], h)) 3 rfl).trans ?_
      refine (z_X_if (g := z_in x3 4) (s' := (22, [(0, .ref 68), (1, .ref 50), (2, .int x2), (3, .int x3)], [.long (h.2.1 (50 + 1) (x3.toNatClampNeg)), .long (h.2.1 (68 + 1) (x3.toNatClampNeg)), .int x2], h)) rfl).trans (z_bifA ?_)
      refine (z_X_steps (s' := (23, [(0, .ref 68), (1, .ref 50), (2, .int x2), (3, .int x3)], [.long ((h.2.1 (68 + 1) (x3.toNatClampNeg)) &&& (h.2.1 (50 + 1) (x3.toNatClampNeg))), .int x2], h)) 1 rfl).trans ?_
      refine (z_X_call (id := 906) (a := [.long ((h.2.1 (68 + 1) (x3.toNatClampNeg)) &&& (h.2.1 (50 + 1) (x3.toNatClampNeg)))]) (c := 1) (s' := (26, [(0, .ref 68), (1, .ref 50), (2, .int x2), (3, .int x3)], [.int x2], h)) rfl ⟨Nat.le_of_ble_eq_true rfl, Nat.le_of_ble_eq_true rfl⟩).trans ?_
      refine z_bdc fun r1 h2 => ?_
      refine (z_X_steps (s' := (4, [(3, .int (x3 + 1)), (2, .int (x2 + r1)), (0, .ref 68), (1, .ref 50)], [], h2)) 4 rfl).trans ?_
      exact z_X_lab rfl
set_option maxRecDepth 8000 in
set_option maxHeartbeats 2000000 in
theorem e_Sh_renew {o : Nat} (hi : o ∈ [114, 116, 118, 120]) (x1 : Int32) (x2 : Int32) (h : z_H) : z_M 122 [.ref o, .int x1, .int x2] h = z_bd (z_M 902 [.ref (o + 1), .int 0] (z_wI (z_wI (z_wI h o 0 1) o 2 x1) o 1 x2)) (fun r1 h2 => some (0, h2)) := by
  refine (z_M_eq (by decide)).trans ?_
  simp only [List.mem_cons, List.not_mem_nil, or_false, Prod.mk.injEq] at hi
  rcases hi with rfl | rfl | rfl | rfl
  · show z_X zc_Sh_renew 3 (0, [(0, .ref 114), (1, .int x1), (2, .int x2)], [], h) = _
    refine (z_X_steps (s' := (20, [(0, .ref 114), (1, .int x1), (2, .int x2)], [.int 0, .ref (114 + 1)], (z_wI (z_wI (z_wI h 114 0 1) 114 2 x1) 114 1 x2))) 12 rfl).trans ?_
    refine (z_X_call (id := 902) (a := [.ref (114 + 1), .int 0]) (c := 0) (s' := (23, [(0, .ref 114), (1, .int x1), (2, .int x2)], [], (z_wI (z_wI (z_wI h 114 0 1) 114 2 x1) 114 1 x2))) rfl ⟨Nat.le_of_ble_eq_true rfl, Nat.le_of_ble_eq_true rfl⟩).trans ?_
    refine z_bdc fun r1 h2 => ?_
    exact z_X_ret rfl
  · show z_X zc_Sh_renew 3 (0, [(0, .ref 116), (1, .int x1), (2, .int x2)], [], h) = _
    refine (z_X_steps (s' := (20, [(0, .ref 116), (1, .int x1), (2, .int x2)], [.int 0, .ref (116 + 1)], (z_wI (z_wI (z_wI h 116 0 1) 116 2 x1) 116 1 x2))) 12 rfl).trans ?_
    refine (z_X_call (id := 902) (a := [.ref (116 + 1), .int 0]) (c := 0) (s' := (23, [(0, .ref 116), (1, .int x1), (2, .int x2)], [], (z_wI (z_wI (z_wI h 116 0 1) 116 2 x1) 116 1 x2))) rfl ⟨Nat.le_of_ble_eq_true rfl, Nat.le_of_ble_eq_true rfl⟩).trans ?_
    refine z_bdc fun r1 h2 => ?_
    exact z_X_ret rfl
  · show z_X zc_Sh_renew 3 (0, [(0, .ref 118), (1, .int x1), (2, .int x2)], [], h) = _
    refine (z_X_steps (s' := (20, [(0, .ref 118), (1, .int x1), (2, .int x2)], [.int 0, .ref (118 + 1)], (z_wI (z_wI (z_wI h 118 0 1) 118 2 x1) 118 1 x2))) 12 rfl).trans ?_
    refine (z_X_call (id := 902) (a := [.ref (118 + 1), .int 0]) (c := 0) (s' := (23, [(0, .ref 118), (1, .int x1), (2, .int x2)], [], (z_wI (z_wI (z_wI h 118 0 1) 118 2 x1) 118 1 x2))) rfl ⟨Nat.le_of_ble_eq_true rfl, Nat.le_of_ble_eq_true rfl⟩).trans ?_
    refine z_bdc fun r1 h2 => ?_
    exact z_X_ret rfl
  · show z_X zc_Sh_renew 3 (0, [(0, .ref 120), (1, .int x1), (2, .int x2)], [], h) = _
    refine (z_X_steps (s' := (20, [(0, .ref 120), (1, .int x1), (2, .int x2)], [.int 0, .ref (120 + 1)], (z_wI (z_wI (z_wI h 120 0 1) 120 2 x1) 120 1 x2))) 12 rfl).trans ?_
    refine (z_X_call (id := 902) (a := [.ref (120 + 1), .int 0]) (c := 0) (s' := (23, [(0, .ref 120), (1, .int x1), (2, .int x2)], [], (z_wI (z_wI (z_wI h 120 0 1) 120 2 x1) 120 1 x2))) rfl ⟨Nat.le_of_ble_eq_true rfl, Nat.le_of_ble_eq_true rfl⟩).trans ?_
    refine z_bdc fun r1 h2 => ?_
    exact z_X_ret rfl
set_option maxRecDepth 8000 in
set_option maxHeartbeats 2000000 in
theorem e_Sh_put {o : Nat} (hi : o ∈ [114, 116, 118, 120]) (x1 : Int32) (x2 : Int32) (h : z_H) : z_M 123 [.ref o, .int x1, .int x2] h = (if ¬ h.1 o 2 = 0 then (if ¬ h.1 o 2 = 1 then (bif z_in x1 40 then some (0, (z_wI h (o + 1) (x1.toNatClampNeg) x2)) else none) else (bif z_in x1 40 then some (0, (z_wI h (o + 1) (x1.toNatClampNeg) (x2.toInt16.toInt32))) else none)) else (bif z_in x1 40 then some (0, (z_wI h (o + 1) (x1.toNatClampNeg) (x2.toInt8.toInt32))) else none)) := by
  refine (z_M_eq (by decide)).trans ?_
  simp only [List.mem_cons, List.not_mem_nil, or_false, Prod.mk.injEq] at hi
  rcases hi with rfl | rfl | rfl | rfl
  · show z_X zc_Sh_put 1 (0, [(0, .ref 114), (1, .int x1), (2, .int x2)], [], h) = _
    refine (z_X_steps (s' := (4, [(0, .ref 114), (1, .int x1), (2, .int x2)], [.int (h.1 114 2)], h)) 2 rfl).trans ?_
    refine (z_X_br (c := ¬ h.1 114 2 = 0) (s1 := (18, [(0, .ref 114), (1, .int x1), (2, .int x2)], [], h)) (s2 := (7, [(0, .ref 114), (1, .int x1), (2, .int x2)], [], h)) rfl).trans (z_ite ?_ ?_)
    · refine (z_X_steps (s' := (23, [(0, .ref 114), (1, .int x1), (2, .int x2)], [.int 1, .int (h.1 114 2)], h)) 3 rfl).trans ?_
      refine (z_X_br (c := ¬ h.1 114 2 = 1) (s1 := (37, [(0, .ref 114), (1, .int x1), (2, .int x2)], [], h)) (s2 := (26, [(0, .ref 114), (1, .int x1), (2, .int x2)], [], h)) rfl).trans (z_ite ?_ ?_)
      · refine (z_X_steps (s' := (43, [(0, .ref 114), (1, .int x1), (2, .int x2)], [.int x2, .int x1, .ref (114 + 1)], h)) 4 rfl).trans ?_
        refine (z_X_if (g := z_in x1 40) (s' := (44, [(0, .ref 114), (1, .int x1), (2, .int x2)], [], (z_wI h (114 + 1) (x1.toNatClampNeg) x2))) rfl).trans (z_bifA ?_)
        exact z_X_ret rfl
      · refine (z_X_steps (s' := (33, [(0, .ref 114), (1, .int x1), (2, .int x2)], [.int (x2.toInt16.toInt32), .int x1, .ref (114 + 1)], h)) 5 rfl).trans ?_
        refine (z_X_if (g := z_in x1 40) (s' := (34, [(0, .ref 114), (1, .int x1), (2, .int x2)], [], (z_wI h (114 + 1) (x1.toNatClampNeg) (x2.toInt16.toInt32)))) rfl).trans (z_bifA ?_)
        refine (z_X_steps (s' := (44, [(0, .ref 114), (1, .int x1), (2, .int x2)], [], (z_wI h (114 + 1) (x1.toNatClampNeg) (x2.toInt16.toInt32)))) 1 rfl).trans ?_
        exact z_X_ret rfl
    · refine (z_X_steps (s' := (14, [(0, .ref 114), (1, .int x1), (2, .int x2)], [.int (x2.toInt8.toInt32), .int x1, .ref (114 + 1)], h)) 5 rfl).trans ?_
      refine (z_X_if (g := z_in x1 40) (s' := (15, [(0, .ref 114), (1, .int x1), (2, .int x2)], [], (z_wI h (114 + 1) (x1.toNatClampNeg) (x2.toInt8.toInt32)))) rfl).trans (z_bifA ?_)
      refine (z_X_steps (s' := (44, [(0, .ref 114), (1, .int x1), (2, .int x2)], [], (z_wI h (114 + 1) (x1.toNatClampNeg) (x2.toInt8.toInt32)))) 1 rfl).trans ?_
      exact z_X_ret rfl
  · show z_X zc_Sh_put 1 (0, [(0, .ref 116), (1, .int x1), (2, .int x2)], [], h) = _
    refine (z_X_steps (s' := (4, [(0, .ref 116), (1, .int x1), (2, .int x2)], [.int (h.1 116 2)], h)) 2 rfl).trans ?_
    refine (z_X_br (c := ¬ h.1 116 2 = 0) (s1 := (18, [(0, .ref 116), (1, .int x1), (2, .int x2)], [], h)) (s2 := (7, [(0, .ref 116), (1, .int x1), (2, .int x2)], [], h)) rfl).trans (z_ite ?_ ?_)
    · refine (z_X_steps (s' := (23, [(0, .ref 116), (1, .int x1), (2, .int x2)], [.int 1, .int (h.1 116 2)], h)) 3 rfl).trans ?_
      refine (z_X_br (c := ¬ h.1 116 2 = 1) (s1 := (37, [(0, .ref 116), (1, .int x1), (2, .int x2)], [], h)) (s2 := (26, [(0, .ref 116), (1, .int x1), (2, .int x2)], [], h)) rfl).trans (z_ite ?_ ?_)
      · refine (z_X_steps (s' := (43, [(0, .ref 116), (1, .int x1), (2, .int x2)], [.int x2, .int x1, .ref (116 + 1)], h)) 4 rfl).trans ?_
        refine (z_X_if (g := z_in x1 40) (s' := (44, [(0, .ref 116), (1, .int x1), (2, .int x2)], [], (z_wI h (116 + 1) (x1.toNatClampNeg) x2))) rfl).trans (z_bifA ?_)
        exact z_X_ret rfl
      · refine (z_X_steps (s' := (33, [(0, .ref 116), (1, .int x1), (2, .int x2)], [.int (x2.toInt16.toInt32), .int x1, .ref (116 + 1)], h)) 5 rfl).trans ?_
        refine (z_X_if (g := z_in x1 40) (s' := (34, [(0, .ref 116), (1, .int x1), (2, .int x2)], [], (z_wI h (116 + 1) (x1.toNatClampNeg) (x2.toInt16.toInt32)))) rfl).trans (z_bifA ?_)
        refine (z_X_steps (s' := (44, [(0, .ref 116), (1, .int x1), (2, .int x2)], [], (z_wI h (116 + 1) (x1.toNatClampNeg) (x2.toInt16.toInt32)))) 1 rfl).trans ?_
        exact z_X_ret rfl
    · refine (z_X_steps (s' := (14, [(0, .ref 116), (1, .int x1), (2, .int x2)], [.int (x2.toInt8.toInt32), .int x1, .ref (116 + 1)], h)) 5 rfl).trans ?_
      refine (z_X_if (g := z_in x1 40) (s' := (15, [(0, .ref 116), (1, .int x1), (2, .int x2)], [], (z_wI h (116 + 1) (x1.toNatClampNeg) (x2.toInt8.toInt32)))) rfl).trans (z_bifA ?_)
      refine (z_X_steps (s' := (44, [(0, .ref 116), (1, .int x1), (2, .int x2)], [], (z_wI h (116 + 1) (x1.toNatClampNeg) (x2.toInt8.toInt32)))) 1 rfl).trans ?_
      exact z_X_ret rfl
  · show z_X zc_Sh_put 1 (0, [(0, .ref 118), (1, .int x1), (2, .int x2)], [], h) = _
    refine (z_X_steps (s' := (4, [(0, .ref 118), (1, .int x1), (2, .int x2)], [.int (h.1 118 2)], h)) 2 rfl).trans ?_
    refine (z_X_br (c := ¬ h.1 118 2 = 0) (s1 := (18, [(0, .ref 118), (1, .int x1), (2, .int x2)], [], h)) (s2 := (7, [(0, .ref 118), (1, .int x1), (2, .int x2)], [], h)) rfl).trans (z_ite ?_ ?_)
    · refine (z_X_steps (s' := (23, [(0, .ref 118), (1, .int x1), (2, .int x2)], [.int 1, .int (h.1 118 2)], h)) 3 rfl).trans ?_
      refine (z_X_br (c := ¬ h.1 118 2 = 1) (s1 := (37, [(0, .ref 118), (1, .int x1), (2, .int x2)], [], h)) (s2 := (26, [(0, .ref 118), (1, .int x1), (2, .int x2)], [], h)) rfl).trans (z_ite ?_ ?_)
      · refine (z_X_steps (s' := (43, [(0, .ref 118), (1, .int x1), (2, .int x2)], [.int x2, .int x1, .ref (118 + 1)], h)) 4 rfl).trans ?_
        refine (z_X_if (g := z_in x1 40) (s' := (44, [(0, .ref 118), (1, .int x1), (2, .int x2)], [], (z_wI h (118 + 1) (x1.toNatClampNeg) x2))) rfl).trans (z_bifA ?_)
        exact z_X_ret rfl
      · refine (z_X_steps (s' := (33, [(0, .ref 118), (1, .int x1), (2, .int x2)], [.int (x2.toInt16.toInt32), .int x1, .ref (118 + 1)], h)) 5 rfl).trans ?_
        refine (z_X_if (g := z_in x1 40) (s' := (34, [(0, .ref 118), (1, .int x1), (2, .int x2)], [], (z_wI h (118 + 1) (x1.toNatClampNeg) (x2.toInt16.toInt32)))) rfl).trans (z_bifA ?_)
        refine (z_X_steps (s' := (44, [(0, .ref 118), (1, .int x1), (2, .int x2)], [], (z_wI h (118 + 1) (x1.toNatClampNeg) (x2.toInt16.toInt32)))) 1 rfl).trans ?_
        exact z_X_ret rfl
    · refine (z_X_steps (s' := (14, [(0, .ref 118), (1, .int x1), (2, .int x2)], [.int (x2.toInt8.toInt32), .int x1, .ref (118 + 1)], h)) 5 rfl).trans ?_
      refine (z_X_if (g := z_in x1 40) (s' := (15, [(0, .ref 118), (1, .int x1), (2, .int x2)], [], (z_wI h (118 + 1) (x1.toNatClampNeg) (x2.toInt8.toInt32)))) rfl).trans (z_bifA ?_)
      refine (z_X_steps (s' := (44, [(0, .ref 118), (1, .int x1), (2, .int x2)], [], (z_wI h (118 + 1) (x1.toNatClampNeg) (x2.toInt8.toInt32)))) 1 rfl).trans ?_
      exact z_X_ret rfl
  · show z_X zc_Sh_put 1 (0, [(0, .ref 120), (1, .int x1), (2, .int x2)], [], h) = _
    refine (z_X_steps (s' := (4, [(0, .ref 120), (1, .int x1), (2, .int x2)], [.int (h.1 120 2)], h)) 2 rfl).trans ?_
    refine (z_X_br (c := ¬ h.1 120 2 = 0) (s1 := (18, [(0, .ref 120), (1, .int x1), (2, .int x2)], [], h)) (s2 := (7, [(0, .ref 120), (1, .int x1), (2, .int x2)], [], h)) rfl).trans (z_ite ?_ ?_)
    · refine (z_X_steps (s' := (23, [(0, .ref 120), (1, .int x1), (2, .int x2)], [.int 1, .int (h.1 120 2)], h)) 3 rfl).trans ?_
      refine (z_X_br (c := ¬ h.1 120 2 = 1) (s1 := (37, [(0, .ref 120), (1, .int x1), (2, .int x2)], [], h)) (s2 := (26, [(0, .ref 120), (1, .int x1), (2, .int x2)], [], h)) rfl).trans (z_ite ?_ ?_)
      · refine (z_X_steps (s' := (43, [(0, .ref 120), (1, .int x1), (2, .int x2)], [.int x2, .int x1, .ref (120 + 1)], h)) 4 rfl).trans ?_
        refine (z_X_if (g := z_in x1 40) (s' := (44, [(0, .ref 120), (1, .int x1), (2, .int x2)], [], (z_wI h (120 + 1) (x1.toNatClampNeg) x2))) rfl).trans (z_bifA ?_)
        exact z_X_ret rfl
      · refine (z_X_steps (s' := (33, [(0, .ref 120), (1, .int x1), (2, .int x2)], [.int (x2.toInt16.toInt32), .int x1, .ref (120 + 1)], h)) 5 rfl).trans ?_
        refine (z_X_if (g := z_in x1 40) (s' := (34, [(0, .ref 120), (1, .int x1), (2, .int x2)], [], (z_wI h (120 + 1) (x1.toNatClampNeg) (x2.toInt16.toInt32)))) rfl).trans (z_bifA ?_)
        refine (z_X_steps (s' := (44, [(0, .ref 120), (1, .int x1), (2, .int x2)], [], (z_wI h (120 + 1) (x1.toNatClampNeg) (x2.toInt16.toInt32)))) 1 rfl).trans ?_
        exact z_X_ret rfl
    · refine (z_X_steps (s' := (14, [(0, .ref 120), (1, .int x1), (2, .int x2)], [.int (x2.toInt8.toInt32), .int x1, .ref (120 + 1)], h)) 5 rfl).trans ?_
      refine (z_X_if (g := z_in x1 40) (s' := (15, [(0, .ref 120), (1, .int x1), (2, .int x2)], [], (z_wI h (120 + 1) (x1.toNatClampNeg) (x2.toInt8.toInt32)))) rfl).trans (z_bifA ?_)
      refine (z_X_steps (s' := (44, [(0, .ref 120), (1, .int x1), (2, .int x2)], [], (z_wI h (120 + 1) (x1.toNatClampNeg) (x2.toInt8.toInt32)))) 1 rfl).trans ?_
      exact z_X_ret rfl
set_option maxRecDepth 8000 in
set_option maxHeartbeats 2000000 in
theorem e_Sh_cellAt {o : Nat} (hi : o ∈ [114, 116, 118, 120]) (x1 : Int32) (h : z_H) : z_M 124 [.ref o, .int x1] h = (if x1 < 0 then some (0, h) else (if h.1 o 1 ≤ x1 then some (0, h) else (bif z_in x1 40 then some (h.1 (o + 1) (x1.toNatClampNeg), h) else none))) := by
  refine (z_M_eq (by decide)).trans ?_
  simp only [List.mem_cons, List.not_mem_nil, or_false, Prod.mk.injEq] at hi
  rcases hi with rfl | rfl | rfl | rfl
  · show z_X zc_Sh_cellAt 1 (0, [(0, .ref 114), (1, .int x1)], [], h) = _
    refine (z_X_steps (s' := (1, [(0, .ref 114), (1, .int x1)], [.int x1], h)) 1 rfl).trans ?_
    refine (z_X_br (c := x1 < 0) (s1 := (21, [(0, .ref 114), (1, .int x1)], [], h)) (s2 := (4, [(0, .ref 114), (1, .int x1)], [], h)) rfl).trans (z_ite ?_ ?_)
    · refine (z_X_steps (s' := (22, [(0, .ref 114), (1, .int x1)], [.int 0], h)) 1 rfl).trans ?_
      exact z_X_ret rfl
    · refine (z_X_steps (s' := (9, [(0, .ref 114), (1, .int x1)], [.int (h.1 114 1), .int x1], h)) 3 rfl).trans ?_
      refine (z_X_br (c := h.1 114 1 ≤ x1) (s1 := (21, [(0, .ref 114), (1, .int x1)], [], h)) (s2 := (12, [(0, .ref 114), (1, .int x1)], [], h)) rfl).trans (z_ite ?_ ?_)
      · refine (z_X_steps (s' := (22, [(0, .ref 114), (1, .int x1)], [.int 0], h)) 1 rfl).trans ?_
        exact z_X_ret rfl
      · refine (z_X_steps (s' := (17, [(0, .ref 114), (1, .int x1)], [.int x1, .ref (114 + 1)], h)) 3 rfl).trans ?_
        refine (z_X_if (g := z_in x1 40) (s' := (18, [(0, .ref 114), (1, .int x1)], [.int (h.1 (114 + 1) (x1.toNatClampNeg))], h)) rfl).trans (z_bifA ?_)
        refine (z_X_steps (s' := (22, [(0, .ref 114), (1, .int x1)], [.int (h.1 (114 + 1) (x1.toNatClampNeg))], h)) 1 rfl).trans ?_
        exact z_X_ret rfl
  · show z_X zc_Sh_cellAt 1 (0, [(0, .ref 116), (1, .int x1)], [], h) = _
    refine (z_X_steps (s' := (1, [(0, .ref 116), (1, .int x1)], [.int x1], h)) 1 rfl).trans ?_
    refine (z_X_br (c := x1 < 0) (s1 := (21, [(0, .ref 116), (1, .int x1)], [], h)) (s2 := (4, [(0, .ref 116), (1, .int x1)], [], h)) rfl).trans (z_ite ?_ ?_)
    · refine (z_X_steps (s' := (22, [(0, .ref 116), (1, .int x1)], [.int 0], h)) 1 rfl).trans ?_
      exact z_X_ret rfl
    · refine (z_X_steps (s' := (9, [(0, .ref 116), (1, .int x1)], [.int (h.1 116 1), .int x1], h)) 3 rfl).trans ?_
      refine (z_X_br (c := h.1 116 1 ≤ x1) (s1 := (21, [(0, .ref 116), (1, .int x1)], [], h)) (s2 := (12, [(0, .ref 116), (1, .int x1)], [], h)) rfl).trans (z_ite ?_ ?_)
      · refine (z_X_steps (s' := (22, [(0, .ref 116), (1, .int x1)], [.int 0], h)) 1 rfl).trans ?_
        exact z_X_ret rfl
      · refine (z_X_steps (s' := (17, [(0, .ref 116), (1, .int x1)], [.int x1, .ref (116 + 1)], h)) 3 rfl).trans ?_
        refine (z_X_if (g := z_in x1 40) (s' := (18, [(0, .ref 116), (1, .int x1)], [.int (h.1 (116 + 1) (x1.toNatClampNeg))], h)) rfl).trans (z_bifA ?_)
        refine (z_X_steps (s' := (22, [(0, .ref 116), (1, .int x1)], [.int (h.1 (116 + 1) (x1.toNatClampNeg))], h)) 1 rfl).trans ?_
        exact z_X_ret rfl
  · show z_X zc_Sh_cellAt 1 (0, [(0, .ref 118), (1, .int x1)], [], h) = _
    refine (z_X_steps (s' := (1, [(0, .ref 118), (1, .int x1)], [.int x1], h)) 1 rfl).trans ?_
    refine (z_X_br (c := x1 < 0) (s1 := (21, [(0, .ref 118), (1, .int x1)], [], h)) (s2 := (4, [(0, .ref 118), (1, .int x1)], [], h)) rfl).trans (z_ite ?_ ?_)
    · refine (z_X_steps (s' := (22, [(0, .ref 118), (1, .int x1)], [.int 0], h)) 1 rfl).trans ?_
      exact z_X_ret rfl
    · refine (z_X_steps (s' := (9, [(0, .ref 118), (1, .int x1)], [.int (h.1 118 1), .int x1], h)) 3 rfl).trans ?_
      refine (z_X_br (c := h.1 118 1 ≤ x1) (s1 := (21, [(0, .ref 118), (1, .int x1)], [], h)) (s2 := (12, [(0, .ref 118), (1, .int x1)], [], h)) rfl).trans (z_ite ?_ ?_)
      · refine (z_X_steps (s' := (22, [(0, .ref 118), (1, .int x1)], [.int 0], h)) 1 rfl).trans ?_
        exact z_X_ret rfl
      · refine (z_X_steps (s' := (17, [(0, .ref 118), (1, .int x1)], [.int x1, .ref (118 + 1)], h)) 3 rfl).trans ?_
        refine (z_X_if (g := z_in x1 40) (s' := (18, [(0, .ref 118), (1, .int x1)], [.int (h.1 (118 + 1) (x1.toNatClampNeg))], h)) rfl).trans (z_bifA ?_)
        refine (z_X_steps (s' := (22, [(0, .ref 118), (1, .int x1)], [.int (h.1 (118 + 1) (x1.toNatClampNeg))], h)) 1 rfl).trans ?_
        exact z_X_ret rfl
  · show z_X zc_Sh_cellAt 1 (0, [(0, .ref 120), (1, .int x1)], [], h) = _
    refine (z_X_steps (s' := (1, [(0, .ref 120), (1, .int x1)], [.int x1], h)) 1 rfl).trans ?_
    refine (z_X_br (c := x1 < 0) (s1 := (21, [(0, .ref 120), (1, .int x1)], [], h)) (s2 := (4, [(0, .ref 120), (1, .int x1)], [], h)) rfl).trans (z_ite ?_ ?_)
    · refine (z_X_steps (s' := (22, [(0, .ref 120), (1, .int x1)], [.int 0], h)) 1 rfl).trans ?_
      exact z_X_ret rfl
    · refine (z_X_steps (s' := (9, [(0, .ref 120), (1, .int x1)], [.int (h.1 120 1), .int x1], h)) 3 rfl).trans ?_
      refine (z_X_br (c := h.1 120 1 ≤ x1) (s1 := (21, [(0, .ref 120), (1, .int x1)], [], h)) (s2 := (12, [(0, .ref 120), (1, .int x1)], [], h)) rfl).trans (z_ite ?_ ?_)
      · refine (z_X_steps (s' := (22, [(0, .ref 120), (1, .int x1)], [.int 0], h)) 1 rfl).trans ?_
        exact z_X_ret rfl
      · refine (z_X_steps (s' := (17, [(0, .ref 120), (1, .int x1)], [.int x1, .ref (120 + 1)], h)) 3 rfl).trans ?_
        refine (z_X_if (g := z_in x1 40) (s' := (18, [(0, .ref 120), (1, .int x1)], [.int (h.1 (120 + 1) (x1.toNatClampNeg))], h)) rfl).trans (z_bifA ?_)
        refine (z_X_steps (s' := (22, [(0, .ref 120), (1, .int x1)], [.int (h.1 (120 + 1) (x1.toNatClampNeg))], h)) 1 rfl).trans ?_
        exact z_X_ret rfl
set_option maxRecDepth 8000 in
set_option maxHeartbeats 2000000 in
theorem e_Sh_faultAs {o : Nat} (hi : o ∈ [114, 116, 118, 120]) (x1 : Int32) (h : z_H) : z_M 125 [.ref o, .int x1] h = (if ¬ h.1 o 0 = 0 then (if h.1 o 2 = x1 then some (0, h) else some (3, h)) else some (1, h)) := by
  refine (z_M_eq (by decide)).trans ?_
  simp only [List.mem_cons, List.not_mem_nil, or_false, Prod.mk.injEq] at hi
  rcases hi with rfl | rfl | rfl | rfl
  · show z_X zc_Sh_faultAs 1 (0, [(0, .ref 114), (1, .int x1)], [], h) = _
    refine (z_X_steps (s' := (4, [(0, .ref 114), (1, .int x1)], [.int (h.1 114 0)], h)) 2 rfl).trans ?_
    refine (z_X_br (c := ¬ h.1 114 0 = 0) (s1 := (9, [(0, .ref 114), (1, .int x1)], [], h)) (s2 := (7, [(0, .ref 114), (1, .int x1)], [], h)) rfl).trans (z_ite ?_ ?_)
    · refine (z_X_steps (s' := (14, [(0, .ref 114), (1, .int x1)], [.int x1, .int (h.1 114 2)], h)) 3 rfl).trans ?_
      refine (z_X_br (c := h.1 114 2 = x1) (s1 := (21, [(0, .ref 114), (1, .int x1)], [], h)) (s2 := (17, [(0, .ref 114), (1, .int x1)], [], h)) rfl).trans (z_ite ?_ ?_)
      · refine (z_X_steps (s' := (22, [(0, .ref 114), (1, .int x1)], [.int 0], h)) 1 rfl).trans ?_
        exact z_X_ret rfl
      · refine (z_X_steps (s' := (22, [(0, .ref 114), (1, .int x1)], [.int 3], h)) 2 rfl).trans ?_
        exact z_X_ret rfl
    · refine (z_X_steps (s' := (8, [(0, .ref 114), (1, .int x1)], [.int 1], h)) 1 rfl).trans ?_
      exact z_X_ret rfl
  · show z_X zc_Sh_faultAs 1 (0, [(0, .ref 116), (1, .int x1)], [], h) = _
    refine (z_X_steps (s' := (4, [(0, .ref 116), (1, .int x1)], [.int (h.1 116 0)], h)) 2 rfl).trans ?_
    refine (z_X_br (c := ¬ h.1 116 0 = 0) (s1 := (9, [(0, .ref 116), (1, .int x1)], [], h)) (s2 := (7, [(0, .ref 116), (1, .int x1)], [], h)) rfl).trans (z_ite ?_ ?_)
    · refine (z_X_steps (s' := (14, [(0, .ref 116), (1, .int x1)], [.int x1, .int (h.1 116 2)], h)) 3 rfl).trans ?_
      refine (z_X_br (c := h.1 116 2 = x1) (s1 := (21, [(0, .ref 116), (1, .int x1)], [], h)) (s2 := (17, [(0, .ref 116), (1, .int x1)], [], h)) rfl).trans (z_ite ?_ ?_)
      · refine (z_X_steps (s' := (22, [(0, .ref 116), (1, .int x1)], [.int 0], h)) 1 rfl).trans ?_
        exact z_X_ret rfl
      · refine (z_X_steps (s' := (22, [(0, .ref 116), (1, .int x1)], [.int 3], h)) 2 rfl).trans ?_
        exact z_X_ret rfl
    · refine (z_X_steps (s' := (8, [(0, .ref 116), (1, .int x1)], [.int 1], h)) 1 rfl).trans ?_
      exact z_X_ret rfl
  · show z_X zc_Sh_faultAs 1 (0, [(0, .ref 118), (1, .int x1)], [], h) = _
    refine (z_X_steps (s' := (4, [(0, .ref 118), (1, .int x1)], [.int (h.1 118 0)], h)) 2 rfl).trans ?_
    refine (z_X_br (c := ¬ h.1 118 0 = 0) (s1 := (9, [(0, .ref 118), (1, .int x1)], [], h)) (s2 := (7, [(0, .ref 118), (1, .int x1)], [], h)) rfl).trans (z_ite ?_ ?_)
    · refine (z_X_steps (s' := (14, [(0, .ref 118), (1, .int x1)], [.int x1, .int (h.1 118 2)], h)) 3 rfl).trans ?_
      refine (z_X_br (c := h.1 118 2 = x1) (s1 := (21, [(0, .ref 118), (1, .int x1)], [], h)) (s2 := (17, [(0, .ref 118), (1, .int x1)], [], h)) rfl).trans (z_ite ?_ ?_)
      · refine (z_X_steps (s' := (22, [(0, .ref 118), (1, .int x1)], [.int 0], h)) 1 rfl).trans ?_
        exact z_X_ret rfl
      · refine (z_X_steps (s' := (22, [(0, .ref 118), (1, .int x1)], [.int 3], h)) 2 rfl).trans ?_
        exact z_X_ret rfl
    · refine (z_X_steps (s' := (8, [(0, .ref 118), (1, .int x1)], [.int 1], h)) 1 rfl).trans ?_
      exact z_X_ret rfl
  · show z_X zc_Sh_faultAs 1 (0, [(0, .ref 120), (1, .int x1)], [], h) = _
    refine (z_X_steps (s' := (4, [(0, .ref 120), (1, .int x1)], [.int (h.1 120 0)], h)) 2 rfl).trans ?_
    refine (z_X_br (c := ¬ h.1 120 0 = 0) (s1 := (9, [(0, .ref 120), (1, .int x1)], [], h)) (s2 := (7, [(0, .ref 120), (1, .int x1)], [], h)) rfl).trans (z_ite ?_ ?_)
    · refine (z_X_steps (s' := (14, [(0, .ref 120), (1, .int x1)], [.int x1, .int (h.1 120 2)], h)) 3 rfl).trans ?_
      refine (z_X_br (c := h.1 120 2 = x1) (s1 := (21, [(0, .ref 120), (1, .int x1)], [], h)) (s2 := (17, [(0, .ref 120), (1, .int x1)], [], h)) rfl).trans (z_ite ?_ ?_)
      · refine (z_X_steps (s' := (22, [(0, .ref 120), (1, .int x1)], [.int 0], h)) 1 rfl).trans ?_
        exact z_X_ret rfl
      · refine (z_X_steps (s' := (22, [(0, .ref 120), (1, .int x1)], [.int 3], h)) 2 rfl).trans ?_
        exact z_X_ret rfl
    · refine (z_X_steps (s' := (8, [(0, .ref 120), (1, .int x1)], [.int 1], h)) 1 rfl).trans ?_
      exact z_X_ret rfl
set_option maxRecDepth 8000 in
set_option maxHeartbeats 2000000 in
theorem e_Sh_wholeFrom {o : Nat} (hi : o ∈ [114, 116, 118, 120]) (x1 : Int32) (x2 : Int32) (h : z_H) : z_M 126 [.ref o, .int x1, .int x2] h = (if x1 < 0 then some (0, h) else (if x1 ≤ h.1 o 1 then some ((if ((h.1 o 1) - x1) / 4 < x2 then ((h.1 o 1) - x1) / 4 else x2), h) else some (0, h))) := by
  refine (z_M_eq (by decide)).trans ?_
  simp only [List.mem_cons, List.not_mem_nil, or_false, Prod.mk.injEq] at hi
  rcases hi with rfl | rfl | rfl | rfl
  · show z_X zc_Sh_wholeFrom 3 (0, [(0, .ref 114), (1, .int x1), (2, .int x2)], [], h) = _
    refine (z_X_steps (s' := (1, [(0, .ref 114), (1, .int x1), (2, .int x2)], [.int x1], h)) 1 rfl).trans ?_
    refine (z_X_br (c := x1 < 0) (s1 := (12, [(0, .ref 114), (1, .int x1), (2, .int x2)], [], h)) (s2 := (4, [(0, .ref 114), (1, .int x1), (2, .int x2)], [], h)) rfl).trans (z_ite ?_ ?_)
    · refine (z_X_steps (s' := (13, [(0, .ref 114), (1, .int x1), (2, .int x2)], [.int 0], h)) 1 rfl).trans ?_
      exact z_X_ret rfl
    · refine (z_X_steps (s' := (9, [(0, .ref 114), (1, .int x1), (2, .int x2)], [.int (h.1 114 1), .int x1], h)) 3 rfl).trans ?_
      refine (z_X_br (c := x1 ≤ h.1 114 1) (s1 := (14, [(0, .ref 114), (1, .int x1), (2, .int x2)], [], h)) (s2 := (12, [(0, .ref 114), (1, .int x1), (2, .int x2)], [], h)) rfl).trans (z_ite ?_ ?_)
      · refine (z_X_steps (s' := (26, [(0, .ref 114), (1, .int x1), (2, .int x2)], [.int (if ((h.1 114 1) - x1) / 4 < x2 then ((h.1 114 1) - x1) / 4 else x2)], h)) 8 rfl).trans ?_
        exact z_X_ret rfl
      · refine (z_X_steps (s' := (13, [(0, .ref 114), (1, .int x1), (2, .int x2)], [.int 0], h)) 1 rfl).trans ?_
        exact z_X_ret rfl
  · show z_X zc_Sh_wholeFrom 3 (0, [(0, .ref 116), (1, .int x1), (2, .int x2)], [], h) = _
    refine (z_X_steps (s' := (1, [(0, .ref 116), (1, .int x1), (2, .int x2)], [.int x1], h)) 1 rfl).trans ?_
    refine (z_X_br (c := x1 < 0) (s1 := (12, [(0, .ref 116), (1, .int x1), (2, .int x2)], [], h)) (s2 := (4, [(0, .ref 116), (1, .int x1), (2, .int x2)], [], h)) rfl).trans (z_ite ?_ ?_)
    · refine (z_X_steps (s' := (13, [(0, .ref 116), (1, .int x1), (2, .int x2)], [.int 0], h)) 1 rfl).trans ?_
      exact z_X_ret rfl
    · refine (z_X_steps (s' := (9, [(0, .ref 116), (1, .int x1), (2, .int x2)], [.int (h.1 116 1), .int x1], h)) 3 rfl).trans ?_
      refine (z_X_br (c := x1 ≤ h.1 116 1) (s1 := (14, [(0, .ref 116), (1, .int x1), (2, .int x2)], [], h)) (s2 := (12, [(0, .ref 116), (1, .int x1), (2, .int x2)], [], h)) rfl).trans (z_ite ?_ ?_)
      · refine (z_X_steps (s' := (26, [(0, .ref 116), (1, .int x1), (2, .int x2)], [.int (if ((h.1 116 1) - x1) / 4 < x2 then ((h.1 116 1) - x1) / 4 else x2)], h)) 8 rfl).trans ?_
        exact z_X_ret rfl
      · refine (z_X_steps (s' := (13, [(0, .ref 116), (1, .int x1), (2, .int x2)], [.int 0], h)) 1 rfl).trans ?_
        exact z_X_ret rfl
  · show z_X zc_Sh_wholeFrom 3 (0, [(0, .ref 118), (1, .int x1), (2, .int x2)], [], h) = _
    refine (z_X_steps (s' := (1, [(0, .ref 118), (1, .int x1), (2, .int x2)], [.int x1], h)) 1 rfl).trans ?_
    refine (z_X_br (c := x1 < 0) (s1 := (12, [(0, .ref 118), (1, .int x1), (2, .int x2)], [], h)) (s2 := (4, [(0, .ref 118), (1, .int x1), (2, .int x2)], [], h)) rfl).trans (z_ite ?_ ?_)
    · refine (z_X_steps (s' := (13, [(0, .ref 118), (1, .int x1), (2, .int x2)], [.int 0], h)) 1 rfl).trans ?_
      exact z_X_ret rfl
    · refine (z_X_steps (s' := (9, [(0, .ref 118), (1, .int x1), (2, .int x2)], [.int (h.1 118 1), .int x1], h)) 3 rfl).trans ?_
      refine (z_X_br (c := x1 ≤ h.1 118 1) (s1 := (14, [(0, .ref 118), (1, .int x1), (2, .int x2)], [], h)) (s2 := (12, [(0, .ref 118), (1, .int x1), (2, .int x2)], [], h)) rfl).trans (z_ite ?_ ?_)
      · refine (z_X_steps (s' := (26, [(0, .ref 118), (1, .int x1), (2, .int x2)], [.int (if ((h.1 118 1) - x1) / 4 < x2 then ((h.1 118 1) - x1) / 4 else x2)], h)) 8 rfl).trans ?_
        exact z_X_ret rfl
      · refine (z_X_steps (s' := (13, [(0, .ref 118), (1, .int x1), (2, .int x2)], [.int 0], h)) 1 rfl).trans ?_
        exact z_X_ret rfl
  · show z_X zc_Sh_wholeFrom 3 (0, [(0, .ref 120), (1, .int x1), (2, .int x2)], [], h) = _
    refine (z_X_steps (s' := (1, [(0, .ref 120), (1, .int x1), (2, .int x2)], [.int x1], h)) 1 rfl).trans ?_
    refine (z_X_br (c := x1 < 0) (s1 := (12, [(0, .ref 120), (1, .int x1), (2, .int x2)], [], h)) (s2 := (4, [(0, .ref 120), (1, .int x1), (2, .int x2)], [], h)) rfl).trans (z_ite ?_ ?_)
    · refine (z_X_steps (s' := (13, [(0, .ref 120), (1, .int x1), (2, .int x2)], [.int 0], h)) 1 rfl).trans ?_
      exact z_X_ret rfl
    · refine (z_X_steps (s' := (9, [(0, .ref 120), (1, .int x1), (2, .int x2)], [.int (h.1 120 1), .int x1], h)) 3 rfl).trans ?_
      refine (z_X_br (c := x1 ≤ h.1 120 1) (s1 := (14, [(0, .ref 120), (1, .int x1), (2, .int x2)], [], h)) (s2 := (12, [(0, .ref 120), (1, .int x1), (2, .int x2)], [], h)) rfl).trans (z_ite ?_ ?_)
      · refine (z_X_steps (s' := (26, [(0, .ref 120), (1, .int x1), (2, .int x2)], [.int (if ((h.1 120 1) - x1) / 4 < x2 then ((h.1 120 1) - x1) / 4 else x2)], h)) 8 rfl).trans ?_
        exact z_X_ret rfl
      · refine (z_X_steps (s' := (13, [(0, .ref 120), (1, .int x1), (2, .int x2)], [.int 0], h)) 1 rfl).trans ?_
        exact z_X_ret rfl
