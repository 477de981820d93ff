/-! printed: what the methods come to -/
set_option maxRecDepth 8000 in
set_option maxHeartbeats 2000000 in
theorem e_M_in (y0 : Int64) (y2 : Int64) (y4 : Int64) (h : z_H) : z_M 127 [.long y0, .long y2, .long y4] h = (if lg_cmp y0 y2 < 0 then some (0, h) else (if (0 : Int32) < lg_cmp y0 y4 then some (0, h) else some (1, h))) := by
  refine (z_M_eq (by decide)).trans ?_
  show z_X zc_M_in 1 (0, [(0, .long y0), (2, .long y2), (4, .long y4)], [], h) = _
  refine (z_X_steps (s' := (3, [(0, .long y0), (2, .long y2), (4, .long y4)], [.int (lg_cmp y0 y2)], h)) 3 rfl).trans ?_
  refine (z_X_br (c := lg_cmp y0 y2 < 0) (s1 := (17, [(0, .long y0), (2, .long y2), (4, .long y4)], [], h)) (s2 := (6, [(0, .long y0), (2, .long y2), (4, .long y4)], [], h)) rfl).trans (z_ite ?_ ?_)
  · refine (z_X_steps (s' := (18, [(0, .long y0), (2, .long y2), (4, .long y4)], [.int 0], h)) 1 rfl).trans ?_
    exact z_X_ret rfl
  · refine (z_X_steps (s' := (10, [(0, .long y0), (2, .long y2), (4, .long y4)], [.int (lg_cmp y0 y4)], h)) 3 rfl).trans ?_
    refine (z_X_br (c := (0 : Int32) < lg_cmp y0 y4) (s1 := (17, [(0, .long y0), (2, .long y2), (4, .long y4)], [], h)) (s2 := (13, [(0, .long y0), (2, .long y2), (4, .long y4)], [], h)) rfl).trans (z_ite ?_ ?_)
    · refine (z_X_steps (s' := (18, [(0, .long y0), (2, .long y2), (4, .long y4)], [.int 0], h)) 1 rfl).trans ?_
      exact z_X_ret rfl
    · refine (z_X_steps (s' := (18, [(0, .long y0), (2, .long y2), (4, .long y4)], [.int 1], h)) 2 rfl).trans ?_
      exact z_X_ret rfl
set_option maxRecDepth 8000 in
set_option maxHeartbeats 2000000 in
theorem e_M_flag (x0 : Int32) (h : z_H) : z_M 128 [.int x0] h = (if x0 = 0 then some (0, h) else some (1, h)) := by
  refine (z_M_eq (by decide)).trans ?_
  show z_X zc_M_flag 1 (0, [(0, .int x0)], [], h) = _
  refine (z_X_steps (s' := (1, [(0, .int x0)], [.int x0], h)) 1 rfl).trans ?_
  refine (z_X_br (c := x0 = 0) (s1 := (8, [(0, .int x0)], [], h)) (s2 := (4, [(0, .int x0)], [], h)) rfl).trans (z_ite ?_ ?_)
  · refine (z_X_steps (s' := (9, [(0, .int x0)], [.int 0], h)) 1 rfl).trans ?_
    exact z_X_ret rfl
  · refine (z_X_steps (s' := (9, [(0, .int x0)], [.int 1], h)) 2 rfl).trans ?_
    exact z_X_ret rfl
set_option maxRecDepth 8000 in
set_option maxHeartbeats 2000000 in
theorem e_M_nodeAt (x0 : Int32) (x1 : Int32) (x2 : Int32) (h : z_H) : z_M 129 [.int x0, .int x1, .int x2] h = some ((13 + (256 * x0)) + (5 * ((8 * x1) + x2)), h) := by
  refine (z_M_eq (by decide)).trans ?_
  show z_X zc_M_nodeAt 1 (0, [(0, .int x0), (1, .int x1), (2, .int x2)], [], h) = _
  refine (z_X_steps (s' := (17, [(0, .int x0), (1, .int x1), (2, .int x2)], [.int ((13 + (256 * x0)) + (5 * ((8 * x1) + x2)))], h)) 13 rfl).trans ?_
  exact z_X_ret rfl
set_option maxRecDepth 8000 in
set_option maxHeartbeats 2000000 in
theorem e_M_hasAt (x0 : Int32) (x1 : Int32) (x2 : Int32) (h : z_H) : z_M 130 [.int x0, .int x1, .int x2] h = some ((((13 + (256 * x0)) + 240) + (4 * x1)) + x2, h) := by
  refine (z_M_eq (by decide)).trans ?_
  show z_X zc_M_hasAt 1 (0, [(0, .int x0), (1, .int x1), (2, .int x2)], [], h) = _
  refine (z_X_steps (s' := (18, [(0, .int x0), (1, .int x1), (2, .int x2)], [.int ((((13 + (256 * x0)) + 240) + (4 * x1)) + x2)], h)) 13 rfl).trans ?_
  exact z_X_ret rfl
noncomputable def zl_M_firstDraft_2 (x1 : Int32) (h : z_H) : Option z_A := z_X zc_M_firstDraft 2 (2, [(0, .ref 122), (1, .int x1)], [], h)
noncomputable def zl_M_firstDraft_24 (x1 : Int32) (h : z_H) : Option z_A := z_X zc_M_firstDraft 2 (24, [(0, .ref 122), (1, .int x1)], [], h)
noncomputable def zl_M_firstDraft_31 (x1 : Int32) (x2 : Int32) (h : z_H) : Option z_A := z_X zc_M_firstDraft 2 (31, [(0, .ref 122), (1, .int x1), (2, .int x2)], [], h)
noncomputable def zl_M_firstDraft_38 (x1 : Int32) (x2 : Int32) (x3 : Int32) (h : z_H) : Option z_A := z_X zc_M_firstDraft 2 (38, [(0, .ref 122), (1, .int x1), (2, .int x2), (3, .int x3)], [], h)
set_option maxRecDepth 8000 in
set_option maxHeartbeats 2000000 in
theorem e_M_firstDraft (h : z_H) : z_M 131 [.ref 122] h = zl_M_firstDraft_2 0 h := by
  refine (z_M_eq (by decide)).trans ?_
  show z_X zc_M_firstDraft 2 (0, [(0, .ref 122)], [], h) = _
  refine (z_X_steps (s' := (2, [(1, .int 0), (0, .ref 122)], [], h)) 2 rfl).trans ?_
  exact z_X_lab rfl
set_option maxRecDepth 8000 in
set_option maxHeartbeats 2000000 in
theorem e_M_firstDraft_2 (x1 : Int32) (h : z_H) : zl_M_firstDraft_2 x1 h = (if (549 : Int32) ≤ x1 then zl_M_firstDraft_24 0 h else (bif z_in x1 549 then zl_M_firstDraft_2 (x1 + 1) (z_wI h 126 (x1.toNatClampNeg) 0) else none)) := by
  show z_X zc_M_firstDraft 2 (2, [(0, .ref 122), (1, .int x1)], [], h) = _
  refine (z_X_steps (s' := (6, [(0, .ref 122), (1, .int x1)], [.int 549, .int x1], h)) 2 rfl).trans ?_
  refine (z_X_br (c := (549 : Int32) ≤ x1) (s1 := (22, [(0, .ref 122), (1, .int x1)], [], h)) (s2 := (9, [(0, .ref 122), (1, .int x1)], [], h)) rfl).trans (z_ite ?_ ?_)
  · refine (z_X_steps (s' := (24, [(1, .int 0), (0, .ref 122)], [], h)) 2 rfl).trans ?_
    exact z_X_lab rfl
  · refine (z_X_steps (s' := (15, [(0, .ref 122), (1, .int x1)], [.int 0, .int x1, .ref 126], h)) 4 rfl).trans ?_
    refine (z_X_if (g := z_in x1 549) (s' := (16, [(0, .ref 122), (1, .int x1)], [], (z_wI h 126 (x1.toNatClampNeg) 0))) rfl).trans (z_bifA ?_)
    refine (z_X_steps (s' := (2, [(1, .int (x1 + 1)), (0, .ref 122)], [], (z_wI h 126 (x1.toNatClampNeg) 0))) 2 rfl).trans ?_
    exact z_X_lab rfl
set_option maxRecDepth 8000 in
set_option maxHeartbeats 2000000 in
theorem e_M_firstDraft_24 (x1 : Int32) (h : z_H) : zl_M_firstDraft_24 x1 h = (if (2 : Int32) ≤ x1 then some (0, (z_wI (z_wI h 122 4 (-1)) 122 5 (-1))) else zl_M_firstDraft_31 x1 0 h) := by
  show z_X zc_M_firstDraft 2 (24, [(0, .ref 122), (1, .int x1)], [], h) = _
  refine (z_X_steps (s' := (26, [(0, .ref 122), (1, .int x1)], [.int 2, .int x1], h)) 2 rfl).trans ?_
  refine (z_X_br (c := (2 : Int32) ≤ x1) (s1 := (74, [(0, .ref 122), (1, .int x1)], [], h)) (s2 := (29, [(0, .ref 122), (1, .int x1)], [], h)) rfl).trans (z_ite ?_ ?_)
  · refine (z_X_steps (s' := (84, [(0, .ref 122), (1, .int x1)], [], (z_wI (z_wI h 122 4 (-1)) 122 5 (-1)))) 6 rfl).trans ?_
    exact z_X_ret rfl
  · refine (z_X_steps (s' := (31, [(2, .int 0), (0, .ref 122), (1, .int x1)], [], h)) 2 rfl).trans ?_
    exact z_X_lab rfl
set_option maxRecDepth 8000 in
set_option maxHeartbeats 2000000 in
theorem e_M_firstDraft_31 (x1 : Int32) (x2 : Int32) (h : z_H) : zl_M_firstDraft_31 x1 x2 h = (if (4 : Int32) ≤ x2 then zl_M_firstDraft_24 (x1 + 1) h else zl_M_firstDraft_38 x1 x2 0 h) := by
  show z_X zc_M_firstDraft 2 (31, [(0, .ref 122), (1, .int x1), (2, .int x2)], [], h) = _
  refine (z_X_steps (s' := (33, [(0, .ref 122), (1, .int x1), (2, .int x2)], [.int 4, .int x2], h)) 2 rfl).trans ?_
  refine (z_X_br (c := (4 : Int32) ≤ x2) (s1 := (68, [(0, .ref 122), (1, .int x1), (2, .int x2)], [], h)) (s2 := (36, [(0, .ref 122), (1, .int x1), (2, .int x2)], [], h)) rfl).trans (z_ite ?_ ?_)
  · refine (z_X_steps (s' := (24, [(1, .int (x1 + 1)), (0, .ref 122), (2, .int x2)], [], h)) 2 rfl).trans ?_
    exact z_X_lab rfl
  · refine (z_X_steps (s' := (38, [(3, .int 0), (0, .ref 122), (1, .int x1), (2, .int x2)], [], h)) 2 rfl).trans ?_
    exact z_X_lab rfl
set_option maxRecDepth 8000 in
set_option maxHeartbeats 2000000 in
theorem e_M_firstDraft_38 (x1 : Int32) (x2 : Int32) (x3 : Int32) (h : z_H) : zl_M_firstDraft_38 x1 x2 x3 h = (if (4 : Int32) ≤ x3 then zl_M_firstDraft_31 x1 (x2 + 1) h else z_bd (z_M 130 [.int x1, .int x2, .int x3] h) (fun r1 h2 => (bif z_in r1 549 then zl_M_firstDraft_38 x1 x2 (x3 + 1) (z_wI h2 126 (r1.toNatClampNeg) (-4)) else none))) := by
  show z_X zc_M_firstDraft 2 (38, [(0, .ref 122), (1, .int x1), (2, .int x2), (3, .int x3)], [], h) = _
  refine (z_X_steps (s' := (40, [(0, .ref 122), (1, .int x1), (2, .int x2), (3, .int x3)], [.int 4, .int x3], h)) 2 rfl).trans ?_
  refine (z_X_br (c := (4 : Int32) ≤ x3) (s1 := (62, [(0, .ref 122), (1, .int x1), (2, .int x2), (3, .int x3)], [], h)) (s2 := (43, [(0, .ref 122), (1, .int x1), (2, .int x2), (3, .int x3)], [], h)) rfl).trans (z_ite ?_ ?_)
  · refine (z_X_steps (s' := (31, [(2, .int (x2 + 1)), (0, .ref 122), (1, .int x1), (3, .int x3)], [], h)) 2 rfl).trans ?_
    exact z_X_lab rfl
  · refine (z_X_steps (s' := (50, [(0, .ref 122), (1, .int x1), (2, .int x2), (3, .int x3)], [.int x3, .int x2, .int x1, .ref 126], h)) 5 rfl).trans ?_
    refine (z_X_call (id := 130) (a := [.int x1, .int x2, .int x3]) (c := 1) (s' := (53, [(0, .ref 122), (1, .int x1), (2, .int x2), (3, .int x3)], [.ref 126], h)) rfl ⟨Nat.le_of_ble_eq_true rfl, Nat.le_of_ble_eq_true rfl⟩).trans ?_
    refine z_bdc fun r1 h2 => ?_
    refine (z_X_steps (s' := (55, [(0, .ref 122), (1, .int x1), (2, .int x2), (3, .int x3)], [.int (-4), .int r1, .ref 126], h2)) 1 rfl).trans ?_
    refine (z_X_if (g := z_in r1 549) (s' := (56, [(0, .ref 122), (1, .int x1), (2, .int x2), (3, .int x3)], [], (z_wI h2 126 (r1.toNatClampNeg) (-4)))) rfl).trans (z_bifA ?_)
    refine (z_X_steps (s' := (38, [(3, .int (x3 + 1)), (0, .ref 122), (1, .int x1), (2, .int x2)], [], (z_wI h2 126 (r1.toNatClampNeg) (-4)))) 2 rfl).trans ?_
    exact z_X_lab rfl
noncomputable def zl_M_keepDraft_2 (x1 : Int32) (h : z_H) : Option z_A := z_X zc_M_keepDraft 1 (2, [(0, .ref 122), (1, .int x1)], [], h)
set_option maxRecDepth 8000 in
set_option maxHeartbeats 2000000 in
theorem e_M_keepDraft (h : z_H) : z_M 132 [.ref 122] h = zl_M_keepDraft_2 0 h := by
  refine (z_M_eq (by decide)).trans ?_
  show z_X zc_M_keepDraft 1 (0, [(0, .ref 122)], [], h) = _
  refine (z_X_steps (s' := (2, [(1, .int 0), (0, .ref 122)], [], h)) 2 rfl).trans ?_
  exact z_X_lab rfl
set_option maxRecDepth 8000 in
set_option maxHeartbeats 2000000 in
theorem e_M_keepDraft_2 (x1 : Int32) (h : z_H) : zl_M_keepDraft_2 x1 h = (if (549 : Int32) ≤ x1 then some (0, (z_wI (z_wI h 125 0 0) 125 1 0)) else (bif z_in x1 549 then (bif z_in x1 549 then zl_M_keepDraft_2 (x1 + 1) (z_wI h 123 (x1.toNatClampNeg) (h.1 126 (x1.toNatClampNeg))) else none) else none)) := by
  show z_X zc_M_keepDraft 1 (2, [(0, .ref 122), (1, .int x1)], [], h) = _
  refine (z_X_steps (s' := (6, [(0, .ref 122), (1, .int x1)], [.int 549, .int x1], h)) 2 rfl).trans ?_
  refine (z_X_br (c := (549 : Int32) ≤ x1) (s1 := (27, [(0, .ref 122), (1, .int x1)], [], h)) (s2 := (9, [(0, .ref 122), (1, .int x1)], [], h)) rfl).trans (z_ite ?_ ?_)
  · refine (z_X_steps (s' := (41, [(0, .ref 122), (1, .int x1)], [], (z_wI (z_wI h 125 0 0) 125 1 0))) 10 rfl).trans ?_
    exact z_X_ret rfl
  · refine (z_X_steps (s' := (19, [(0, .ref 122), (1, .int x1)], [.int x1, .ref 126, .int x1, .ref 123], h)) 6 rfl).trans ?_
    refine (z_X_if (g := z_in x1 549) (s' := (20, [(0, .ref 122), (1, .int x1)], [.int (h.1 126 (x1.toNatClampNeg)), .int x1, .ref 123], h)) rfl).trans (z_bifA ?_)
    refine (z_X_if (g := z_in x1 549) (s' := (21, [(0, .ref 122), (1, .int x1)], [], (z_wI h 123 (x1.toNatClampNeg) (h.1 126 (x1.toNatClampNeg))))) rfl).trans (z_bifA ?_)
    refine (z_X_steps (s' := (2, [(1, .int (x1 + 1)), (0, .ref 122)], [], (z_wI h 123 (x1.toNatClampNeg) (h.1 126 (x1.toNatClampNeg))))) 2 rfl).trans ?_
    exact z_X_lab rfl
set_option maxRecDepth 8000 in
set_option maxHeartbeats 2000000 in
theorem e_M_feed (x1 : Int32) (h : z_H) : z_M 133 [.ref 122, .int x1] h = z_bd (z_M 127 [.long (x1.toInt64), .long ((0 : Int32).toInt64), .long ((127 : Int32).toInt64)] h) (fun r1 h2 => (if ¬ r1 = 0 then (if ¬ h2.1 122 7 = 320 then (bif z_in (h2.1 122 7) 320 then some ((z_wI (z_wI h2 127 ((h2.1 122 7).toNatClampNeg) x1) 122 7 (((z_wI h2 127 ((h2.1 122 7).toNatClampNeg) x1).1 122 7) + 1)).1 122 7, (z_wI (z_wI h2 127 ((h2.1 122 7).toNatClampNeg) x1) 122 7 (((z_wI h2 127 ((h2.1 122 7).toNatClampNeg) x1).1 122 7) + 1))) else none) else some ((-3), h2)) else some ((-1), h2))) := by
  refine (z_M_eq (by decide)).trans ?_
  show z_X zc_M_feed 2 (0, [(0, .ref 122), (1, .int x1)], [], h) = _
  refine (z_X_steps (s' := (6, [(0, .ref 122), (1, .int x1)], [.long ((127 : Int32).toInt64), .long ((0 : Int32).toInt64), .long (x1.toInt64)], h)) 4 rfl).trans ?_
  refine (z_X_call (id := 127) (a := [.long (x1.toInt64), .long ((0 : Int32).toInt64), .long ((127 : Int32).toInt64)]) (c := 1) (s' := (9, [(0, .ref 122), (1, .int x1)], [], h)) rfl ⟨Nat.le_of_ble_eq_true rfl, Nat.le_of_ble_eq_true rfl⟩).trans ?_
  refine z_bdc fun r1 h2 => ?_
  refine (z_X_br (c := ¬ r1 = 0) (s1 := (14, [(0, .ref 122), (1, .int x1)], [], h2)) (s2 := (12, [(0, .ref 122), (1, .int x1)], [], h2)) rfl).trans (z_ite ?_ ?_)
  · refine (z_X_steps (s' := (21, [(0, .ref 122), (1, .int x1)], [.int 320, .int (h2.1 122 7)], h2)) 3 rfl).trans ?_
    refine (z_X_br (c := ¬ h2.1 122 7 = 320) (s1 := (27, [(0, .ref 122), (1, .int x1)], [], h2)) (s2 := (24, [(0, .ref 122), (1, .int x1)], [], h2)) rfl).trans (z_ite ?_ ?_)
    · refine (z_X_steps (s' := (36, [(0, .ref 122), (1, .int x1)], [.int x1, .int (h2.1 122 7), .ref 127], h2)) 5 rfl).trans ?_
      refine (z_X_if (g := z_in (h2.1 122 7) 320) (s' := (37, [(0, .ref 122), (1, .int x1)], [], (z_wI h2 127 ((h2.1 122 7).toNatClampNeg) x1))) rfl).trans (z_bifA ?_)
      refine (z_X_steps (s' := (51, [(0, .ref 122), (1, .int x1)], [.int ((z_wI (z_wI h2 127 ((h2.1 122 7).toNatClampNeg) x1) 122 7 (((z_wI h2 127 ((h2.1 122 7).toNatClampNeg) x1).1 122 7) + 1)).1 122 7)], (z_wI (z_wI h2 127 ((h2.1 122 7).toNatClampNeg) x1) 122 7 (((z_wI h2 127 ((h2.1 122 7).toNatClampNeg) x1).1 122 7) + 1)))) 8 rfl).trans ?_
      exact z_X_ret rfl
    · refine (z_X_steps (s' := (26, [(0, .ref 122), (1, .int x1)], [.int (-3)], h2)) 1 rfl).trans ?_
      exact z_X_ret rfl
  · refine (z_X_steps (s' := (13, [(0, .ref 122), (1, .int x1)], [.int (-1)], h2)) 1 rfl).trans ?_
    exact z_X_ret rfl
set_option maxRecDepth 8000 in
set_option maxHeartbeats 2000000 in
theorem e_M_end (x1 : Int32) (h : z_H) : z_M 134 [.ref 122, .int x1] h = z_bd (z_M 127 [.long (x1.toInt64), .long ((0 : Int32).toInt64), .long ((h.1 122 7).toInt64)] h) (fun r1 h2 => (if ¬ r1 = 0 then some (h2.1 122 7, (z_wI h2 122 7 x1)) else some ((-1), h2))) := by
  refine (z_M_eq (by decide)).trans ?_
  show z_X zc_M_end 2 (0, [(0, .ref 122), (1, .int x1)], [], h) = _
  refine (z_X_steps (s' := (8, [(0, .ref 122), (1, .int x1)], [.long ((h.1 122 7).toInt64), .long ((0 : Int32).toInt64), .long (x1.toInt64)], h)) 6 rfl).trans ?_
  refine (z_X_call (id := 127) (a := [.long (x1.toInt64), .long ((0 : Int32).toInt64), .long ((h.1 122 7).toInt64)]) (c := 1) (s' := (11, [(0, .ref 122), (1, .int x1)], [], h)) rfl ⟨Nat.le_of_ble_eq_true rfl, Nat.le_of_ble_eq_true rfl⟩).trans ?_
  refine z_bdc fun r1 h2 => ?_
  refine (z_X_br (c := ¬ r1 = 0) (s1 := (16, [(0, .ref 122), (1, .int x1)], [], h2)) (s2 := (14, [(0, .ref 122), (1, .int x1)], [], h2)) rfl).trans (z_ite ?_ ?_)
  · refine (z_X_steps (s' := (27, [(2, .int (h2.1 122 7)), (0, .ref 122), (1, .int x1)], [.int (h2.1 122 7)], (z_wI h2 122 7 x1))) 7 rfl).trans ?_
    exact z_X_ret rfl
  · refine (z_X_steps (s' := (15, [(0, .ref 122), (1, .int x1)], [.int (-1)], h2)) 1 rfl).trans ?_
    exact z_X_ret rfl
set_option maxRecDepth 8000 in
set_option maxHeartbeats 2000000 in
theorem e_M_requires (x1 : Int32) (x2 : Int32) (h : z_H) : z_M 135 [.ref 122, .int x1, .int x2] h = (if ¬ x1 = 0 then some (0, h) else (if ¬ h.1 122 12 = 0 then some (0, h) else some (0, (z_wI (z_wI h 122 12 x2) 122 13 ((z_wI h 122 12 x2).1 122 9))))) := by
  refine (z_M_eq (by decide)).trans ?_
  show z_X zc_M_requires 1 (0, [(0, .ref 122), (1, .int x1), (2, .int x2)], [], h) = _
  refine (z_X_steps (s' := (1, [(0, .ref 122), (1, .int x1), (2, .int x2)], [.int x1], h)) 1 rfl).trans ?_
  refine (z_X_br (c := ¬ x1 = 0) (s1 := (24, [(0, .ref 122), (1, .int x1), (2, .int x2)], [], h)) (s2 := (4, [(0, .ref 122), (1, .int x1), (2, .int x2)], [], h)) rfl).trans (z_ite ?_ ?_)
  · exact z_X_ret rfl
  · refine (z_X_steps (s' := (8, [(0, .ref 122), (1, .int x1), (2, .int x2)], [.int (h.1 122 12)], h)) 2 rfl).trans ?_
    refine (z_X_br (c := ¬ h.1 122 12 = 0) (s1 := (24, [(0, .ref 122), (1, .int x1), (2, .int x2)], [], h)) (s2 := (11, [(0, .ref 122), (1, .int x1), (2, .int x2)], [], h)) rfl).trans (z_ite ?_ ?_)
    · exact z_X_ret rfl
    · refine (z_X_steps (s' := (24, [(0, .ref 122), (1, .int x1), (2, .int x2)], [], (z_wI (z_wI h 122 12 x2) 122 13 ((z_wI h 122 12 x2).1 122 9)))) 7 rfl).trans ?_
      exact z_X_ret rfl
set_option maxRecDepth 8000 in
set_option maxHeartbeats 2000000 in
theorem e_M_byteAt (x1 : Int32) (h : z_H) : z_M 136 [.ref 122, .int x1] h = (if h.1 122 7 ≤ x1 then some ((-1), h) else (bif z_in x1 320 then some (h.1 127 (x1.toNatClampNeg), h) else none)) := by
  refine (z_M_eq (by decide)).trans ?_
  show z_X zc_M_byteAt 1 (0, [(0, .ref 122), (1, .int x1)], [], h) = _
  refine (z_X_steps (s' := (5, [(0, .ref 122), (1, .int x1)], [.int (h.1 122 7), .int x1], h)) 3 rfl).trans ?_
  refine (z_X_br (c := h.1 122 7 ≤ x1) (s1 := (17, [(0, .ref 122), (1, .int x1)], [], h)) (s2 := (8, [(0, .ref 122), (1, .int x1)], [], h)) rfl).trans (z_ite ?_ ?_)
  · refine (z_X_steps (s' := (18, [(0, .ref 122), (1, .int x1)], [.int (-1)], h)) 1 rfl).trans ?_
    exact z_X_ret rfl
  · refine (z_X_steps (s' := (13, [(0, .ref 122), (1, .int x1)], [.int x1, .ref 127], h)) 3 rfl).trans ?_
    refine (z_X_if (g := z_in x1 320) (s' := (14, [(0, .ref 122), (1, .int x1)], [.int (h.1 127 (x1.toNatClampNeg))], h)) rfl).trans (z_bifA ?_)
    refine (z_X_steps (s' := (18, [(0, .ref 122), (1, .int x1)], [.int (h.1 127 (x1.toNatClampNeg))], h)) 1 rfl).trans ?_
    exact z_X_ret rfl
set_option maxRecDepth 8000 in
set_option maxHeartbeats 2000000 in
theorem e_M_is (x1 : Int32) (x2 : Int32) (x3 : Int32) (x4 : Int32) (x5 : Int32) (h : z_H) : z_M 137 [.ref 122, .int x1, .int x2, .int x3, .int x4, .int x5] h = (if ¬ h.1 122 10 = 1 then some (0, h) else (if ¬ (h.1 122 8) - (h.1 122 9) = x1 then some (0, h) else z_bd (z_M 136 [.ref 122, .int ((h.1 122 9) + x2)] h) (fun r1 h2 => (if ¬ r1 = x3 then some (0, h2) else z_bd (z_M 136 [.ref 122, .int (((h2.1 122 9) + x2) + 1)] h2) (fun r3 h4 => (if ¬ r3 = x4 then some (0, h4) else z_bd (z_M 136 [.ref 122, .int (((h4.1 122 9) + x2) + 2)] h4) (fun r5 h6 => (if ¬ r5 = x5 then some (0, h6) else some (1, h6))))))))) := by
  refine (z_M_eq (by decide)).trans ?_
  show z_X zc_M_is 2 (0, [(0, .ref 122), (1, .int x1), (2, .int x2), (3, .int x3), (4, .int x4), (5, .int x5)], [], h) = _
  refine (z_X_steps (s' := (5, [(0, .ref 122), (1, .int x1), (2, .int x2), (3, .int x3), (4, .int x4), (5, .int x5)], [.int 1, .int (h.1 122 10)], h)) 3 rfl).trans ?_
  refine (z_X_br (c := ¬ h.1 122 10 = 1) (s1 := (73, [(0, .ref 122), (1, .int x1), (2, .int x2), (3, .int x3), (4, .int x4), (5, .int x5)], [], h)) (s2 := (8, [(0, .ref 122), (1, .int x1), (2, .int x2), (3, .int x3), (4, .int x4), (5, .int x5)], [], h)) rfl).trans (z_ite ?_ ?_)
  · refine (z_X_steps (s' := (74, [(0, .ref 122), (1, .int x1), (2, .int x2), (3, .int x3), (4, .int x4), (5, .int x5)], [.int 0], h)) 1 rfl).trans ?_
    exact z_X_ret rfl
  · refine (z_X_steps (s' := (18, [(0, .ref 122), (1, .int x1), (2, .int x2), (3, .int x3), (4, .int x4), (5, .int x5)], [.int x1, .int ((h.1 122 8) - (h.1 122 9))], h)) 6 rfl).trans ?_
    refine (z_X_br (c := ¬ (h.1 122 8) - (h.1 122 9) = x1) (s1 := (73, [(0, .ref 122), (1, .int x1), (2, .int x2), (3, .int x3), (4, .int x4), (5, .int x5)], [], h)) (s2 := (21, [(0, .ref 122), (1, .int x1), (2, .int x2), (3, .int x3), (4, .int x4), (5, .int x5)], [], h)) rfl).trans (z_ite ?_ ?_)
    · refine (z_X_steps (s' := (74, [(0, .ref 122), (1, .int x1), (2, .int x2), (3, .int x3), (4, .int x4), (5, .int x5)], [.int 0], h)) 1 rfl).trans ?_
      exact z_X_ret rfl
    · refine (z_X_steps (s' := (28, [(0, .ref 122), (1, .int x1), (2, .int x2), (3, .int x3), (4, .int x4), (5, .int x5)], [.int ((h.1 122 9) + x2), .ref 122], h)) 5 rfl).trans ?_
      refine (z_X_call (id := 136) (a := [.ref 122, .int ((h.1 122 9) + x2)]) (c := 1) (s' := (31, [(0, .ref 122), (1, .int x1), (2, .int x2), (3, .int x3), (4, .int x4), (5, .int x5)], [], h)) rfl ⟨Nat.le_of_ble_eq_true rfl, Nat.le_of_ble_eq_true rfl⟩).trans ?_
      refine z_bdc fun r1 h2 => ?_
      refine (z_X_steps (s' := (32, [(0, .ref 122), (1, .int x1), (2, .int x2), (3, .int x3), (4, .int x4), (5, .int x5)], [.int x3, .int r1], h2)) 1 rfl).trans ?_
      refine (z_X_br (c := ¬ r1 = x3) (s1 := (73, [(0, .ref 122), (1, .int x1), (2, .int x2), (3, .int x3), (4, .int x4), (5, .int x5)], [], h2)) (s2 := (35, [(0, .ref 122), (1, .int x1), (2, .int x2), (3, .int x3), (4, .int x4), (5, .int x5)], [], h2)) rfl).trans (z_ite ?_ ?_)
      · refine (z_X_steps (s' := (74, [(0, .ref 122), (1, .int x1), (2, .int x2), (3, .int x3), (4, .int x4), (5, .int x5)], [.int 0], h2)) 1 rfl).trans ?_
        exact z_X_ret rfl
      · refine (z_X_steps (s' := (44, [(0, .ref 122), (1, .int x1), (2, .int x2), (3, .int x3), (4, .int x4), (5, .int x5)], [.int (((h2.1 122 9) + x2) + 1), .ref 122], h2)) 7 rfl).trans ?_
        refine (z_X_call (id := 136) (a := [.ref 122, .int (((h2.1 122 9) + x2) + 1)]) (c := 1) (s' := (47, [(0, .ref 122), (1, .int x1), (2, .int x2), (3, .int x3), (4, .int x4), (5, .int x5)], [], h2)) rfl ⟨Nat.le_of_ble_eq_true rfl, Nat.le_of_ble_eq_true rfl⟩).trans ?_
        refine z_bdc fun r3 h4 => ?_
        refine (z_X_steps (s' := (49, [(0, .ref 122), (1, .int x1), (2, .int x2), (3, .int x3), (4, .int x4), (5, .int x5)], [.int x4, .int r3], h4)) 1 rfl).trans ?_
        refine (z_X_br (c := ¬ r3 = x4) (s1 := (73, [(0, .ref 122), (1, .int x1), (2, .int x2), (3, .int x3), (4, .int x4), (5, .int x5)], [], h4)) (s2 := (52, [(0, .ref 122), (1, .int x1), (2, .int x2), (3, .int x3), (4, .int x4), (5, .int x5)], [], h4)) rfl).trans (z_ite ?_ ?_)
        · refine (z_X_steps (s' := (74, [(0, .ref 122), (1, .int x1), (2, .int x2), (3, .int x3), (4, .int x4), (5, .int x5)], [.int 0], h4)) 1 rfl).trans ?_
          exact z_X_ret rfl
        · refine (z_X_steps (s' := (61, [(0, .ref 122), (1, .int x1), (2, .int x2), (3, .int x3), (4, .int x4), (5, .int x5)], [.int (((h4.1 122 9) + x2) + 2), .ref 122], h4)) 7 rfl).trans ?_
          refine (z_X_call (id := 136) (a := [.ref 122, .int (((h4.1 122 9) + x2) + 2)]) (c := 1) (s' := (64, [(0, .ref 122), (1, .int x1), (2, .int x2), (3, .int x3), (4, .int x4), (5, .int x5)], [], h4)) rfl ⟨Nat.le_of_ble_eq_true rfl, Nat.le_of_ble_eq_true rfl⟩).trans ?_
          refine z_bdc fun r5 h6 => ?_
          refine (z_X_steps (s' := (66, [(0, .ref 122), (1, .int x1), (2, .int x2), (3, .int x3), (4, .int x4), (5, .int x5)], [.int x5, .int r5], h6)) 1 rfl).trans ?_
          refine (z_X_br (c := ¬ r5 = x5) (s1 := (73, [(0, .ref 122), (1, .int x1), (2, .int x2), (3, .int x3), (4, .int x4), (5, .int x5)], [], h6)) (s2 := (69, [(0, .ref 122), (1, .int x1), (2, .int x2), (3, .int x3), (4, .int x4), (5, .int x5)], [], h6)) rfl).trans (z_ite ?_ ?_)
          · refine (z_X_steps (s' := (74, [(0, .ref 122), (1, .int x1), (2, .int x2), (3, .int x3), (4, .int x4), (5, .int x5)], [.int 0], h6)) 1 rfl).trans ?_
            exact z_X_ret rfl
          · refine (z_X_steps (s' := (74, [(0, .ref 122), (1, .int x1), (2, .int x2), (3, .int x3), (4, .int x4), (5, .int x5)], [.int 1], h6)) 2 rfl).trans ?_
            exact z_X_ret rfl
noncomputable def zl_M_lineNow_34 (h : z_H) : Option z_A := z_X zc_M_lineNow 3 (34, [(0, .ref 122)], [], h)
noncomputable def zl_M_lineNow_83 (h : z_H) : Option z_A := z_X zc_M_lineNow 3 (83, [(0, .ref 122)], [], h)
noncomputable def zl_M_lineNow_130 (h : z_H) : Option z_A := z_X zc_M_lineNow 3 (130, [(0, .ref 122)], [], h)
set_option maxRecDepth 8000 in
set_option maxHeartbeats 2000000 in
theorem e_M_lineNow (h : z_H) : z_M 138 [.ref 122] h = z_bd (z_M 137 [.ref 122, .int 6, .int 0, .int 109, .int 101, .int 116] h) (fun r1 h2 => (if r1 = 0 then zl_M_lineNow_34 h2 else z_bd (z_M 137 [.ref 122, .int 6, .int 3, .int 104, .int 111, .int 100] h2) (fun r3 h4 => (if r3 = 0 then zl_M_lineNow_34 h4 else some (0, h4))))) := by
  refine (z_M_eq (by decide)).trans ?_
  show z_X zc_M_lineNow 3 (0, [(0, .ref 122)], [], h) = _
  refine (z_X_steps (s' := (10, [(0, .ref 122)], [.int 116, .int 101, .int 109, .int 0, .int 6, .ref 122], h)) 6 rfl).trans ?_
  refine (z_X_call (id := 137) (a := [.ref 122, .int 6, .int 0, .int 109, .int 101, .int 116]) (c := 1) (s' := (13, [(0, .ref 122)], [], h)) rfl ⟨Nat.le_of_ble_eq_true rfl, Nat.le_of_ble_eq_true rfl⟩).trans ?_
  refine z_bdc fun r1 h2 => ?_
  refine (z_X_br (c := r1 = 0) (s1 := (34, [(0, .ref 122)], [], h2)) (s2 := (16, [(0, .ref 122)], [], h2)) rfl).trans (z_ite ?_ ?_)
  · exact z_X_lab rfl
  · refine (z_X_steps (s' := (26, [(0, .ref 122)], [.int 100, .int 111, .int 104, .int 3, .int 6, .ref 122], h2)) 6 rfl).trans ?_
    refine (z_X_call (id := 137) (a := [.ref 122, .int 6, .int 3, .int 104, .int 111, .int 100]) (c := 1) (s' := (29, [(0, .ref 122)], [], h2)) rfl ⟨Nat.le_of_ble_eq_true rfl, Nat.le_of_ble_eq_true rfl⟩).trans ?_
    refine z_bdc fun r3 h4 => ?_
    refine (z_X_br (c := r3 = 0) (s1 := (34, [(0, .ref 122)], [], h4)) (s2 := (32, [(0, .ref 122)], [], h4)) rfl).trans (z_ite ?_ ?_)
    · exact z_X_lab rfl
    · refine (z_X_steps (s' := (33, [(0, .ref 122)], [.int 0], h4)) 1 rfl).trans ?_
      exact z_X_ret rfl
set_option maxRecDepth 8000 in
set_option maxHeartbeats 2000000 in
theorem e_M_lineNow_34 (h : z_H) : zl_M_lineNow_34 h = z_bd (z_M 137 [.ref 122, .int 3, .int 0, .int 115, .int 97, .int 121] h) (fun r1 h2 => (if r1 = 0 then z_bd (z_M 137 [.ref 122, .int 4, .int 0, .int 99, .int 97, .int 108] h2) (fun r3 h4 => (if r3 = 0 then zl_M_lineNow_83 h4 else z_bd (z_M 136 [.ref 122, .int ((h4.1 122 9) + 3)] h4) (fun r5 h6 => (if ¬ r5 = 108 then zl_M_lineNow_83 h6 else some (2, h6))))) else some (1, h2))) := by
  show z_X zc_M_lineNow 3 (34, [(0, .ref 122)], [], h) = _
  refine (z_X_steps (s' := (43, [(0, .ref 122)], [.int 121, .int 97, .int 115, .int 0, .int 3, .ref 122], h)) 6 rfl).trans ?_
  refine (z_X_call (id := 137) (a := [.ref 122, .int 3, .int 0, .int 115, .int 97, .int 121]) (c := 1) (s' := (46, [(0, .ref 122)], [], h)) rfl ⟨Nat.le_of_ble_eq_true rfl, Nat.le_of_ble_eq_true rfl⟩).trans ?_
  refine z_bdc fun r1 h2 => ?_
  refine (z_X_br (c := r1 = 0) (s1 := (51, [(0, .ref 122)], [], h2)) (s2 := (49, [(0, .ref 122)], [], h2)) rfl).trans (z_ite ?_ ?_)
  · refine (z_X_steps (s' := (60, [(0, .ref 122)], [.int 108, .int 97, .int 99, .int 0, .int 4, .ref 122], h2)) 6 rfl).trans ?_
    refine (z_X_call (id := 137) (a := [.ref 122, .int 4, .int 0, .int 99, .int 97, .int 108]) (c := 1) (s' := (63, [(0, .ref 122)], [], h2)) rfl ⟨Nat.le_of_ble_eq_true rfl, Nat.le_of_ble_eq_true rfl⟩).trans ?_
    refine z_bdc fun r3 h4 => ?_
    refine (z_X_br (c := r3 = 0) (s1 := (83, [(0, .ref 122)], [], h4)) (s2 := (66, [(0, .ref 122)], [], h4)) rfl).trans (z_ite ?_ ?_)
    · exact z_X_lab rfl
    · refine (z_X_steps (s' := (73, [(0, .ref 122)], [.int ((h4.1 122 9) + 3), .ref 122], h4)) 5 rfl).trans ?_
      refine (z_X_call (id := 136) (a := [.ref 122, .int ((h4.1 122 9) + 3)]) (c := 1) (s' := (76, [(0, .ref 122)], [], h4)) rfl ⟨Nat.le_of_ble_eq_true rfl, Nat.le_of_ble_eq_true rfl⟩).trans ?_
      refine z_bdc fun r5 h6 => ?_
      refine (z_X_steps (s' := (78, [(0, .ref 122)], [.int 108, .int r5], h6)) 1 rfl).trans ?_
      refine (z_X_br (c := ¬ r5 = 108) (s1 := (83, [(0, .ref 122)], [], h6)) (s2 := (81, [(0, .ref 122)], [], h6)) rfl).trans (z_ite ?_ ?_)
      · exact z_X_lab rfl
      · refine (z_X_steps (s' := (82, [(0, .ref 122)], [.int 2], h6)) 1 rfl).trans ?_
        exact z_X_ret rfl
  · refine (z_X_steps (s' := (50, [(0, .ref 122)], [.int 1], h2)) 1 rfl).trans ?_
    exact z_X_ret rfl
set_option maxRecDepth 8000 in
set_option maxHeartbeats 2000000 in
theorem e_M_lineNow_83 (h : z_H) : zl_M_lineNow_83 h = z_bd (z_M 137 [.ref 122, .int 5, .int 0, .int 99, .int 108, .int 97] h) (fun r1 h2 => (if r1 = 0 then zl_M_lineNow_130 h2 else z_bd (z_M 136 [.ref 122, .int ((h2.1 122 9) + 3)] h2) (fun r3 h4 => (if ¬ r3 = 115 then zl_M_lineNow_130 h4 else z_bd (z_M 136 [.ref 122, .int ((h4.1 122 9) + 4)] h4) (fun r5 h6 => (if ¬ r5 = 115 then zl_M_lineNow_130 h6 else some (3, h6))))))) := by
  show z_X zc_M_lineNow 3 (83, [(0, .ref 122)], [], h) = _
  refine (z_X_steps (s' := (92, [(0, .ref 122)], [.int 97, .int 108, .int 99, .int 0, .int 5, .ref 122], h)) 6 rfl).trans ?_
  refine (z_X_call (id := 137) (a := [.ref 122, .int 5, .int 0, .int 99, .int 108, .int 97]) (c := 1) (s' := (95, [(0, .ref 122)], [], h)) rfl ⟨Nat.le_of_ble_eq_true rfl, Nat.le_of_ble_eq_true rfl⟩).trans ?_
  refine z_bdc fun r1 h2 => ?_
  refine (z_X_br (c := r1 = 0) (s1 := (130, [(0, .ref 122)], [], h2)) (s2 := (98, [(0, .ref 122)], [], h2)) rfl).trans (z_ite ?_ ?_)
  · exact z_X_lab rfl
  · refine (z_X_steps (s' := (105, [(0, .ref 122)], [.int ((h2.1 122 9) + 3), .ref 122], h2)) 5 rfl).trans ?_
    refine (z_X_call (id := 136) (a := [.ref 122, .int ((h2.1 122 9) + 3)]) (c := 1) (s' := (108, [(0, .ref 122)], [], h2)) rfl ⟨Nat.le_of_ble_eq_true rfl, Nat.le_of_ble_eq_true rfl⟩).trans ?_
    refine z_bdc fun r3 h4 => ?_
    refine (z_X_steps (s' := (110, [(0, .ref 122)], [.int 115, .int r3], h4)) 1 rfl).trans ?_
    refine (z_X_br (c := ¬ r3 = 115) (s1 := (130, [(0, .ref 122)], [], h4)) (s2 := (113, [(0, .ref 122)], [], h4)) rfl).trans (z_ite ?_ ?_)
    · exact z_X_lab rfl
    · refine (z_X_steps (s' := (120, [(0, .ref 122)], [.int ((h4.1 122 9) + 4), .ref 122], h4)) 5 rfl).trans ?_
      refine (z_X_call (id := 136) (a := [.ref 122, .int ((h4.1 122 9) + 4)]) (c := 1) (s' := (123, [(0, .ref 122)], [], h4)) rfl ⟨Nat.le_of_ble_eq_true rfl, Nat.le_of_ble_eq_true rfl⟩).trans ?_
      refine z_bdc fun r5 h6 => ?_
      refine (z_X_steps (s' := (125, [(0, .ref 122)], [.int 115, .int r5], h6)) 1 rfl).trans ?_
      refine (z_X_br (c := ¬ r5 = 115) (s1 := (130, [(0, .ref 122)], [], h6)) (s2 := (128, [(0, .ref 122)], [], h6)) rfl).trans (z_ite ?_ ?_)
      · exact z_X_lab rfl
      · refine (z_X_steps (s' := (129, [(0, .ref 122)], [.int 3], h6)) 1 rfl).trans ?_
        exact z_X_ret rfl
set_option maxRecDepth 8000 in
set_option maxHeartbeats 2000000 in
theorem e_M_lineNow_130 (h : z_H) : zl_M_lineNow_130 h = z_bd (z_M 137 [.ref 122, .int 3, .int 0, .int 104, .int 97, .int 115] h) (fun r1 h2 => (if r1 = 0 then z_bd (z_M 137 [.ref 122, .int 4, .int 0, .int 116, .int 101, .int 115] h2) (fun r3 h4 => (if r3 = 0 then some ((-4), h4) else z_bd (z_M 136 [.ref 122, .int ((h4.1 122 9) + 3)] h4) (fun r5 h6 => (if ¬ r5 = 116 then some ((-4), h6) else some (5, h6))))) else some (4, h2))) := by
  show z_X zc_M_lineNow 3 (130, [(0, .ref 122)], [], h) = _
  refine (z_X_steps (s' := (139, [(0, .ref 122)], [.int 115, .int 97, .int 104, .int 0, .int 3, .ref 122], h)) 6 rfl).trans ?_
  refine (z_X_call (id := 137) (a := [.ref 122, .int 3, .int 0, .int 104, .int 97, .int 115]) (c := 1) (s' := (142, [(0, .ref 122)], [], h)) rfl ⟨Nat.le_of_ble_eq_true rfl, Nat.le_of_ble_eq_true rfl⟩).trans ?_
  refine z_bdc fun r1 h2 => ?_
  refine (z_X_br (c := r1 = 0) (s1 := (149, [(0, .ref 122)], [], h2)) (s2 := (145, [(0, .ref 122)], [], h2)) rfl).trans (z_ite ?_ ?_)
  · refine (z_X_steps (s' := (158, [(0, .ref 122)], [.int 115, .int 101, .int 116, .int 0, .int 4, .ref 122], h2)) 6 rfl).trans ?_
    refine (z_X_call (id := 137) (a := [.ref 122, .int 4, .int 0, .int 116, .int 101, .int 115]) (c := 1) (s' := (161, [(0, .ref 122)], [], h2)) rfl ⟨Nat.le_of_ble_eq_true rfl, Nat.le_of_ble_eq_true rfl⟩).trans ?_
    refine z_bdc fun r3 h4 => ?_
    refine (z_X_br (c := r3 = 0) (s1 := (183, [(0, .ref 122)], [], h4)) (s2 := (164, [(0, .ref 122)], [], h4)) rfl).trans (z_ite ?_ ?_)
    · refine (z_X_steps (s' := (185, [(0, .ref 122)], [.int (-4)], h4)) 1 rfl).trans ?_
      exact z_X_ret rfl
    · refine (z_X_steps (s' := (171, [(0, .ref 122)], [.int ((h4.1 122 9) + 3), .ref 122], h4)) 5 rfl).trans ?_
      refine (z_X_call (id := 136) (a := [.ref 122, .int ((h4.1 122 9) + 3)]) (c := 1) (s' := (174, [(0, .ref 122)], [], h4)) rfl ⟨Nat.le_of_ble_eq_true rfl, Nat.le_of_ble_eq_true rfl⟩).trans ?_
      refine z_bdc fun r5 h6 => ?_
      refine (z_X_steps (s' := (176, [(0, .ref 122)], [.int 116, .int r5], h6)) 1 rfl).trans ?_
      refine (z_X_br (c := ¬ r5 = 116) (s1 := (183, [(0, .ref 122)], [], h6)) (s2 := (179, [(0, .ref 122)], [], h6)) rfl).trans (z_ite ?_ ?_)
      · refine (z_X_steps (s' := (185, [(0, .ref 122)], [.int (-4)], h6)) 1 rfl).trans ?_
        exact z_X_ret rfl
      · refine (z_X_steps (s' := (185, [(0, .ref 122)], [.int 5], h6)) 2 rfl).trans ?_
        exact z_X_ret rfl
  · refine (z_X_steps (s' := (185, [(0, .ref 122)], [.int 4], h2)) 2 rfl).trans ?_
    exact z_X_ret rfl
noncomputable def zl_M_reads_8 (h : z_H) : Option z_A := z_X zc_M_reads 2 (8, [(0, .ref 122)], [], h)
noncomputable def zl_M_reads_140 (h : z_H) : Option z_A := z_X zc_M_reads 2 (140, [(0, .ref 122)], [], h)
noncomputable def zl_M_reads_82 (h : z_H) : Option z_A := z_X zc_M_reads 2 (82, [(0, .ref 122)], [], h)
set_option maxRecDepth 8000 in
set_option maxHeartbeats 2000000 in
theorem e_M_reads (h : z_H) : z_M 139 [.ref 122] h = (if h.1 122 12 ≤ 0 then zl_M_reads_8 h else some (0, h)) := by
  refine (z_M_eq (by decide)).trans ?_
  show z_X zc_M_reads 2 (0, [(0, .ref 122)], [], h) = _
  refine (z_X_steps (s' := (4, [(0, .ref 122)], [.int (h.1 122 12)], h)) 2 rfl).trans ?_
  refine (z_X_br (c := h.1 122 12 ≤ 0) (s1 := (8, [(0, .ref 122)], [], h)) (s2 := (7, [(0, .ref 122)], [], h)) rfl).trans (z_ite ?_ ?_)
  · exact z_X_lab rfl
  · exact z_X_ret rfl
set_option maxRecDepth 8000 in
set_option maxHeartbeats 2000000 in
theorem e_M_reads_8 (h : z_H) : zl_M_reads_8 h = z_bd (z_M 136 [.ref 122, .int (h.1 122 8)] h) (fun r1 h2 => (if ¬ r1 = 32 then z_bd (z_M 136 [.ref 122, .int ((z_wI h2 122 9 (h2.1 122 8)).1 122 8)] (z_wI h2 122 9 (h2.1 122 8))) (fun r3 h4 => (if (0 : Int32) ≤ r3 then z_bd (z_M 127 [.long (r3.toInt64), .long ((97 : Int32).toInt64), .long ((122 : Int32).toInt64)] h4) (fun r5 h6 => (if r5 = 0 then z_bd (z_M 127 [.long (r3.toInt64), .long ((48 : Int32).toInt64), .long ((57 : Int32).toInt64)] h6) (fun r7 h8 => (if r7 = 0 then (if ¬ r3 = 59 then z_bd (z_M 135 [.ref 122, .int 0, .int 1] (z_wI h8 122 10 3)) (fun r9 h10 => some (0, (z_wI h10 122 8 ((h10.1 122 8) + 1)))) else z_bd (z_M 135 [.ref 122, .int 1, .int 1] (z_wI h8 122 10 3)) (fun r11 h12 => some (0, (z_wI h12 122 8 ((h12.1 122 8) + 1))))) else zl_M_reads_140 (z_wI (z_wI h8 122 10 2) 122 11 0))) else zl_M_reads_82 (z_wI h6 122 10 1))) else some (0, (z_wI h4 122 10 0)))) else zl_M_reads_8 (z_wI h2 122 8 ((h2.1 122 8) + 1)))) := by
  show z_X zc_M_reads 2 (8, [(0, .ref 122)], [], h) = _
  refine (z_X_steps (s' := (13, [(0, .ref 122)], [.int (h.1 122 8), .ref 122], h)) 3 rfl).trans ?_
  refine (z_X_call (id := 136) (a := [.ref 122, .int (h.1 122 8)]) (c := 1) (s' := (16, [(0, .ref 122)], [], h)) rfl ⟨Nat.le_of_ble_eq_true rfl, Nat.le_of_ble_eq_true rfl⟩).trans ?_
  refine z_bdc fun r1 h2 => ?_
  refine (z_X_steps (s' := (18, [(0, .ref 122)], [.int 32, .int r1], h2)) 1 rfl).trans ?_
  refine (z_X_br (c := ¬ r1 = 32) (s1 := (34, [(0, .ref 122)], [], h2)) (s2 := (21, [(0, .ref 122)], [], h2)) rfl).trans (z_ite ?_ ?_)
  · refine (z_X_steps (s' := (47, [(0, .ref 122)], [.int ((z_wI h2 122 9 (h2.1 122 8)).1 122 8), .ref 122], (z_wI h2 122 9 (h2.1 122 8)))) 7 rfl).trans ?_
    refine (z_X_call (id := 136) (a := [.ref 122, .int ((z_wI h2 122 9 (h2.1 122 8)).1 122 8)]) (c := 1) (s' := (50, [(0, .ref 122)], [], (z_wI h2 122 9 (h2.1 122 8)))) rfl ⟨Nat.le_of_ble_eq_true rfl, Nat.le_of_ble_eq_true rfl⟩).trans ?_
    refine z_bdc fun r3 h4 => ?_
    refine (z_X_steps (s' := (52, [(1, .int r3), (0, .ref 122)], [.int r3], h4)) 2 rfl).trans ?_
    refine (z_X_br (c := (0 : Int32) ≤ r3) (s1 := (63, [(1, .int r3), (0, .ref 122)], [], h4)) (s2 := (55, [(1, .int r3), (0, .ref 122)], [], h4)) rfl).trans (z_ite ?_ ?_)
    · refine (z_X_steps (s' := (71, [(1, .int r3), (0, .ref 122)], [.long ((122 : Int32).toInt64), .long ((97 : Int32).toInt64), .long (r3.toInt64)], h4)) 4 rfl).trans ?_
      refine (z_X_call (id := 127) (a := [.long (r3.toInt64), .long ((97 : Int32).toInt64), .long ((122 : Int32).toInt64)]) (c := 1) (s' := (74, [(1, .int r3), (0, .ref 122)], [], h4)) rfl ⟨Nat.le_of_ble_eq_true rfl, Nat.le_of_ble_eq_true rfl⟩).trans ?_
      refine z_bdc fun r5 h6 => ?_
      refine (z_X_br (c := r5 = 0) (s1 := (116, [(1, .int r3), (0, .ref 122)], [], h6)) (s2 := (77, [(1, .int r3), (0, .ref 122)], [], h6)) rfl).trans (z_ite ?_ ?_)
      · refine (z_X_steps (s' := (124, [(1, .int r3), (0, .ref 122)], [.long ((57 : Int32).toInt64), .long ((48 : Int32).toInt64), .long (r3.toInt64)], h6)) 4 rfl).trans ?_
        refine (z_X_call (id := 127) (a := [.long (r3.toInt64), .long ((48 : Int32).toInt64), .long ((57 : Int32).toInt64)]) (c := 1) (s' := (127, [(1, .int r3), (0, .ref 122)], [], h6)) rfl ⟨Nat.le_of_ble_eq_true rfl, Nat.le_of_ble_eq_true rfl⟩).trans ?_
        refine z_bdc fun r7 h8 => ?_
        refine (z_X_br (c := r7 = 0) (s1 := (243, [(1, .int r3), (0, .ref 122)], [], h8)) (s2 := (130, [(1, .int r3), (0, .ref 122)], [], h8)) rfl).trans (z_ite ?_ ?_)
        · refine (z_X_steps (s' := (252, [(1, .int r3), (0, .ref 122)], [.int 59, .int r3, .ref 122], (z_wI h8 122 10 3))) 6 rfl).trans ?_
          refine (z_X_br (c := ¬ r3 = 59) (s1 := (259, [(1, .int r3), (0, .ref 122)], [.ref 122], (z_wI h8 122 10 3))) (s2 := (255, [(1, .int r3), (0, .ref 122)], [.ref 122], (z_wI h8 122 10 3))) rfl).trans (z_ite ?_ ?_)
          · refine (z_X_steps (s' := (261, [(1, .int r3), (0, .ref 122)], [.int 1, .int 0, .ref 122], (z_wI h8 122 10 3))) 2 rfl).trans ?_
            refine (z_X_call (id := 135) (a := [.ref 122, .int 0, .int 1]) (c := 0) (s' := (264, [(1, .int r3), (0, .ref 122)], [], (z_wI h8 122 10 3))) rfl ⟨Nat.le_of_ble_eq_true rfl, Nat.le_of_ble_eq_true rfl⟩).trans ?_
            refine z_bdc fun r9 h10 => ?_
            refine (z_X_steps (s' := (274, [(1, .int r3), (0, .ref 122)], [], (z_wI h10 122 8 ((h10.1 122 8) + 1)))) 6 rfl).trans ?_
            exact z_X_ret rfl
          · refine (z_X_steps (s' := (261, [(1, .int r3), (0, .ref 122)], [.int 1, .int 1, .ref 122], (z_wI h8 122 10 3))) 3 rfl).trans ?_
            refine (z_X_call (id := 135) (a := [.ref 122, .int 1, .int 1]) (c := 0) (s' := (264, [(1, .int r3), (0, .ref 122)], [], (z_wI h8 122 10 3))) rfl ⟨Nat.le_of_ble_eq_true rfl, Nat.le_of_ble_eq_true rfl⟩).trans ?_
            refine z_bdc fun r11 h12 => ?_
            refine (z_X_steps (s' := (274, [(1, .int r3), (0, .ref 122)], [], (z_wI h12 122 8 ((h12.1 122 8) + 1)))) 6 rfl).trans ?_
            exact z_X_ret rfl
        · refine (z_X_steps (s' := (140, [(1, .int r3), (0, .ref 122)], [], (z_wI (z_wI h8 122 10 2) 122 11 0))) 6 rfl).trans ?_
          exact z_X_lab rfl
      · refine (z_X_steps (s' := (82, [(1, .int r3), (0, .ref 122)], [], (z_wI h6 122 10 1))) 3 rfl).trans ?_
        exact z_X_lab rfl
    · refine (z_X_steps (s' := (274, [(1, .int r3), (0, .ref 122)], [], (z_wI h4 122 10 0))) 4 rfl).trans ?_
      exact z_X_ret rfl
  · refine (z_X_steps (s' := (8, [(0, .ref 122)], [], (z_wI h2 122 8 ((h2.1 122 8) + 1)))) 7 rfl).trans ?_
    exact z_X_lab rfl
set_option maxRecDepth 8000 in
set_option maxHeartbeats 2000000 in
theorem e_M_reads_140 (h : z_H) : zl_M_reads_140 h = z_bd (z_M 136 [.ref 122, .int (h.1 122 8)] h) (fun r1 h2 => z_bd (z_M 127 [.long (r1.toInt64), .long ((48 : Int32).toInt64), .long ((57 : Int32).toInt64)] h2) (fun r3 h4 => (if r3 = 0 then (if (3 : Int32) < (h4.1 122 8) - (h4.1 122 9) then z_bd (z_M 135 [.ref 122, .int 0, .int 1] h4) (fun r5 h6 => some (0, h6)) else z_bd (z_M 135 [.ref 122, .int 1, .int 1] h4) (fun r7 h8 => some (0, h8))) else (if (3 : Int32) ≤ (h4.1 122 8) - (h4.1 122 9) then zl_M_reads_140 (z_wI (z_wI h4 122 11 (h4.1 122 11)) 122 8 (((z_wI h4 122 11 (h4.1 122 11)).1 122 8) + 1)) else z_bd (z_M 136 [.ref 122, .int (h4.1 122 8)] h4) (fun r9 h10 => zl_M_reads_140 (z_wI (z_wI h10 122 11 (((10 * (h4.1 122 11)) + r9) - 48)) 122 8 (((z_wI h10 122 11 (((10 * (h4.1 122 11)) + r9) - 48)).1 122 8) + 1))))))) := by
  show z_X zc_M_reads 2 (140, [(0, .ref 122)], [], h) = _
  refine (z_X_steps (s' := (145, [(0, .ref 122)], [.int (h.1 122 8), .ref 122], h)) 3 rfl).trans ?_
  refine (z_X_call (id := 136) (a := [.ref 122, .int (h.1 122 8)]) (c := 1) (s' := (148, [(0, .ref 122)], [], h)) rfl ⟨Nat.le_of_ble_eq_true rfl, Nat.le_of_ble_eq_true rfl⟩).trans ?_
  refine z_bdc fun r1 h2 => ?_
  refine (z_X_steps (s' := (155, [(0, .ref 122)], [.long ((57 : Int32).toInt64), .long ((48 : Int32).toInt64), .long (r1.toInt64)], h2)) 3 rfl).trans ?_
  refine (z_X_call (id := 127) (a := [.long (r1.toInt64), .long ((48 : Int32).toInt64), .long ((57 : Int32).toInt64)]) (c := 1) (s' := (158, [(0, .ref 122)], [], h2)) rfl ⟨Nat.le_of_ble_eq_true rfl, Nat.le_of_ble_eq_true rfl⟩).trans ?_
  refine z_bdc fun r3 h4 => ?_
  refine (z_X_br (c := r3 = 0) (s1 := (217, [(0, .ref 122)], [], h4)) (s2 := (161, [(0, .ref 122)], [], h4)) rfl).trans (z_ite ?_ ?_)
  · refine (z_X_steps (s' := (228, [(0, .ref 122)], [.int 3, .int ((h4.1 122 8) - (h4.1 122 9)), .ref 122], h4)) 7 rfl).trans ?_
    refine (z_X_br (c := (3 : Int32) < (h4.1 122 8) - (h4.1 122 9)) (s1 := (235, [(0, .ref 122)], [.ref 122], h4)) (s2 := (231, [(0, .ref 122)], [.ref 122], h4)) rfl).trans (z_ite ?_ ?_)
    · refine (z_X_steps (s' := (237, [(0, .ref 122)], [.int 1, .int 0, .ref 122], h4)) 2 rfl).trans ?_
      refine (z_X_call (id := 135) (a := [.ref 122, .int 0, .int 1]) (c := 0) (s' := (240, [(0, .ref 122)], [], h4)) rfl ⟨Nat.le_of_ble_eq_true rfl, Nat.le_of_ble_eq_true rfl⟩).trans ?_
      refine z_bdc fun r5 h6 => ?_
      refine (z_X_steps (s' := (274, [(0, .ref 122)], [], h6)) 1 rfl).trans ?_
      exact z_X_ret rfl
    · refine (z_X_steps (s' := (237, [(0, .ref 122)], [.int 1, .int 1, .ref 122], h4)) 3 rfl).trans ?_
      refine (z_X_call (id := 135) (a := [.ref 122, .int 1, .int 1]) (c := 0) (s' := (240, [(0, .ref 122)], [], h4)) rfl ⟨Nat.le_of_ble_eq_true rfl, Nat.le_of_ble_eq_true rfl⟩).trans ?_
      refine z_bdc fun r7 h8 => ?_
      refine (z_X_steps (s' := (274, [(0, .ref 122)], [], h8)) 1 rfl).trans ?_
      exact z_X_ret rfl
  · refine (z_X_steps (s' := (172, [(0, .ref 122)], [.int 3, .int ((h4.1 122 8) - (h4.1 122 9)), .ref 122], h4)) 7 rfl).trans ?_
    refine (z_X_br (c := (3 : Int32) ≤ (h4.1 122 8) - (h4.1 122 9)) (s1 := (197, [(0, .ref 122)], [.ref 122], h4)) (s2 := (175, [(0, .ref 122)], [.ref 122], h4)) rfl).trans (z_ite ?_ ?_)
    · refine (z_X_steps (s' := (140, [(0, .ref 122)], [], (z_wI (z_wI h4 122 11 (h4.1 122 11)) 122 8 (((z_wI h4 122 11 (h4.1 122 11)).1 122 8) + 1)))) 10 rfl).trans ?_
      exact z_X_lab rfl
    · refine (z_X_steps (s' := (187, [(0, .ref 122)], [.int (h4.1 122 8), .ref 122, .int (10 * (h4.1 122 11)), .ref 122], h4)) 7 rfl).trans ?_
      refine (z_X_call (id := 136) (a := [.ref 122, .int (h4.1 122 8)]) (c := 1) (s' := (190, [(0, .ref 122)], [.int (10 * (h4.1 122 11)), .ref 122], h4)) rfl ⟨Nat.le_of_ble_eq_true rfl, Nat.le_of_ble_eq_true rfl⟩).trans ?_
      refine z_bdc fun r9 h10 => ?_
      refine (z_X_steps (s' := (140, [(0, .ref 122)], [], (z_wI (z_wI h10 122 11 (((10 * (h4.1 122 11)) + r9) - 48)) 122 8 (((z_wI h10 122 11 (((10 * (h4.1 122 11)) + r9) - 48)).1 122 8) + 1)))) 12 rfl).trans ?_
      exact z_X_lab rfl
set_option maxRecDepth 8000 in
set_option maxHeartbeats 2000000 in
theorem e_M_reads_82 (h : z_H) : zl_M_reads_82 h = z_bd (z_M 136 [.ref 122, .int (h.1 122 8)] h) (fun r1 h2 => z_bd (z_M 127 [.long (r1.toInt64), .long ((97 : Int32).toInt64), .long ((122 : Int32).toInt64)] h2) (fun r3 h4 => (if r3 = 0 then some (0, h4) else zl_M_reads_82 (z_wI h4 122 8 ((h4.1 122 8) + 1))))) := by
  show z_X zc_M_reads 2 (82, [(0, .ref 122)], [], h) = _
  refine (z_X_steps (s' := (87, [(0, .ref 122)], [.int (h.1 122 8), .ref 122], h)) 3 rfl).trans ?_
  refine (z_X_call (id := 136) (a := [.ref 122, .int (h.1 122 8)]) (c := 1) (s' := (90, [(0, .ref 122)], [], h)) rfl ⟨Nat.le_of_ble_eq_true rfl, Nat.le_of_ble_eq_true rfl⟩).trans ?_
  refine z_bdc fun r1 h2 => ?_
  refine (z_X_steps (s' := (97, [(0, .ref 122)], [.long ((122 : Int32).toInt64), .long ((97 : Int32).toInt64), .long (r1.toInt64)], h2)) 3 rfl).trans ?_
  refine (z_X_call (id := 127) (a := [.long (r1.toInt64), .long ((97 : Int32).toInt64), .long ((122 : Int32).toInt64)]) (c := 1) (s' := (100, [(0, .ref 122)], [], h2)) rfl ⟨Nat.le_of_ble_eq_true rfl, Nat.le_of_ble_eq_true rfl⟩).trans ?_
  refine z_bdc fun r3 h4 => ?_
  refine (z_X_br (c := r3 = 0) (s1 := (274, [(0, .ref 122)], [], h4)) (s2 := (103, [(0, .ref 122)], [], h4)) rfl).trans (z_ite ?_ ?_)
  · exact z_X_ret rfl
  · refine (z_X_steps (s' := (82, [(0, .ref 122)], [], (z_wI h4 122 8 ((h4.1 122 8) + 1)))) 7 rfl).trans ?_
    exact z_X_lab rfl
noncomputable def zl_M_readNumber_25 (x1 : Int32) (x2 : Int32) (x3 : Int32) (h : z_H) : Option z_A := z_X zc_M_readNumber 3 (25, [(0, .ref 122), (1, .int x1), (2, .int x2), (3, .int x3)], [], h)
noncomputable def zl_M_readNumber_65 (h : z_H) : Option z_A := z_X zc_M_readNumber 3 (65, [(0, .ref 122)], [], h)
set_option maxRecDepth 8000 in
set_option maxHeartbeats 2000000 in
theorem e_M_readNumber (x1 : Int32) (x2 : Int32) (x3 : Int32) (h : z_H) : z_M 140 [.ref 122, .int x1, .int x2, .int x3] h = (if ¬ h.1 122 12 = 0 then zl_M_readNumber_25 x1 x2 x3 h else (if ¬ h.1 122 10 = 2 then z_bd (z_M 135 [.ref 122, .int 0, .int 2] h) (fun r1 h2 => zl_M_readNumber_25 x1 x2 x3 h2) else z_bd (z_M 135 [.ref 122, .int 1, .int 2] h) (fun r3 h4 => zl_M_readNumber_25 x1 x2 x3 h4))) := by
  refine (z_M_eq (by decide)).trans ?_
  show z_X zc_M_readNumber 3 (0, [(0, .ref 122), (1, .int x1), (2, .int x2), (3, .int x3)], [], h) = _
  refine (z_X_steps (s' := (4, [(0, .ref 122), (1, .int x1), (2, .int x2), (3, .int x3)], [.int (h.1 122 12)], h)) 2 rfl).trans ?_
  refine (z_X_br (c := ¬ h.1 122 12 = 0) (s1 := (25, [(0, .ref 122), (1, .int x1), (2, .int x2), (3, .int x3)], [], h)) (s2 := (7, [(0, .ref 122), (1, .int x1), (2, .int x2), (3, .int x3)], [], h)) rfl).trans (z_ite ?_ ?_)
  · exact z_X_lab rfl
  · refine (z_X_steps (s' := (13, [(0, .ref 122), (1, .int x1), (2, .int x2), (3, .int x3)], [.int 2, .int (h.1 122 10), .ref 122], h)) 4 rfl).trans ?_
    refine (z_X_br (c := ¬ h.1 122 10 = 2) (s1 := (20, [(0, .ref 122), (1, .int x1), (2, .int x2), (3, .int x3)], [.ref 122], h)) (s2 := (16, [(0, .ref 122), (1, .int x1), (2, .int x2), (3, .int x3)], [.ref 122], h)) rfl).trans (z_ite ?_ ?_)
    · refine (z_X_steps (s' := (22, [(0, .ref 122), (1, .int x1), (2, .int x2), (3, .int x3)], [.int 2, .int 0, .ref 122], h)) 2 rfl).trans ?_
      refine (z_X_call (id := 135) (a := [.ref 122, .int 0, .int 2]) (c := 0) (s' := (25, [(0, .ref 122), (1, .int x1), (2, .int x2), (3, .int x3)], [], h)) rfl ⟨Nat.le_of_ble_eq_true rfl, Nat.le_of_ble_eq_true rfl⟩).trans ?_
      refine z_bdc fun r1 h2 => ?_
      exact z_X_lab rfl
    · refine (z_X_steps (s' := (22, [(0, .ref 122), (1, .int x1), (2, .int x2), (3, .int x3)], [.int 2, .int 1, .ref 122], h)) 3 rfl).trans ?_
      refine (z_X_call (id := 135) (a := [.ref 122, .int 1, .int 2]) (c := 0) (s' := (25, [(0, .ref 122), (1, .int x1), (2, .int x2), (3, .int x3)], [], h)) rfl ⟨Nat.le_of_ble_eq_true rfl, Nat.le_of_ble_eq_true rfl⟩).trans ?_
      refine z_bdc fun r3 h4 => ?_
      exact z_X_lab rfl
set_option maxRecDepth 8000 in
set_option maxHeartbeats 2000000 in
theorem e_M_readNumber_25 (x1 : Int32) (x2 : Int32) (x3 : Int32) (h : z_H) : zl_M_readNumber_25 x1 x2 x3 h = (if ¬ h.1 122 12 = 0 then zl_M_readNumber_65 h else z_bd (z_M 127 [.long ((h.1 122 11).toInt64), .long (x1.toInt64), .long (x2.toInt64)] h) (fun r1 h2 => (if ¬ r1 = 0 then z_bd (z_M 135 [.ref 122, .int 1, .int 3] h2) (fun r3 h4 => zl_M_readNumber_65 h4) else (if ¬ h2.1 122 11 = x3 then z_bd (z_M 135 [.ref 122, .int 0, .int 3] h2) (fun r5 h6 => zl_M_readNumber_65 h6) else z_bd (z_M 135 [.ref 122, .int 1, .int 3] h2) (fun r7 h8 => zl_M_readNumber_65 h8))))) := by
  show z_X zc_M_readNumber 3 (25, [(0, .ref 122), (1, .int x1), (2, .int x2), (3, .int x3)], [], h) = _
  refine (z_X_steps (s' := (29, [(0, .ref 122), (1, .int x1), (2, .int x2), (3, .int x3)], [.int (h.1 122 12)], h)) 2 rfl).trans ?_
  refine (z_X_br (c := ¬ h.1 122 12 = 0) (s1 := (65, [(0, .ref 122), (1, .int x1), (2, .int x2), (3, .int x3)], [], h)) (s2 := (32, [(0, .ref 122), (1, .int x1), (2, .int x2), (3, .int x3)], [], h)) rfl).trans (z_ite ?_ ?_)
  · exact z_X_lab rfl
  · refine (z_X_steps (s' := (42, [(0, .ref 122), (1, .int x1), (2, .int x2), (3, .int x3)], [.long (x2.toInt64), .long (x1.toInt64), .long ((h.1 122 11).toInt64), .ref 122], h)) 8 rfl).trans ?_
    refine (z_X_call (id := 127) (a := [.long ((h.1 122 11).toInt64), .long (x1.toInt64), .long (x2.toInt64)]) (c := 1) (s' := (45, [(0, .ref 122), (1, .int x1), (2, .int x2), (3, .int x3)], [.ref 122], h)) rfl ⟨Nat.le_of_ble_eq_true rfl, Nat.le_of_ble_eq_true rfl⟩).trans ?_
    refine z_bdc fun r1 h2 => ?_
    refine (z_X_br (c := ¬ r1 = 0) (s1 := (56, [(0, .ref 122), (1, .int x1), (2, .int x2), (3, .int x3)], [.ref 122], h2)) (s2 := (48, [(0, .ref 122), (1, .int x1), (2, .int x2), (3, .int x3)], [.ref 122], h2)) rfl).trans (z_ite ?_ ?_)
    · refine (z_X_steps (s' := (62, [(0, .ref 122), (1, .int x1), (2, .int x2), (3, .int x3)], [.int 3, .int 1, .ref 122], h2)) 3 rfl).trans ?_
      refine (z_X_call (id := 135) (a := [.ref 122, .int 1, .int 3]) (c := 0) (s' := (65, [(0, .ref 122), (1, .int x1), (2, .int x2), (3, .int x3)], [], h2)) rfl ⟨Nat.le_of_ble_eq_true rfl, Nat.le_of_ble_eq_true rfl⟩).trans ?_
      refine z_bdc fun r3 h4 => ?_
      exact z_X_lab rfl
    · refine (z_X_steps (s' := (53, [(0, .ref 122), (1, .int x1), (2, .int x2), (3, .int x3)], [.int x3, .int (h2.1 122 11), .ref 122], h2)) 3 rfl).trans ?_
      refine (z_X_br (c := ¬ h2.1 122 11 = x3) (s1 := (60, [(0, .ref 122), (1, .int x1), (2, .int x2), (3, .int x3)], [.ref 122], h2)) (s2 := (56, [(0, .ref 122), (1, .int x1), (2, .int x2), (3, .int x3)], [.ref 122], h2)) rfl).trans (z_ite ?_ ?_)
      · refine (z_X_steps (s' := (62, [(0, .ref 122), (1, .int x1), (2, .int x2), (3, .int x3)], [.int 3, .int 0, .ref 122], h2)) 2 rfl).trans ?_
        refine (z_X_call (id := 135) (a := [.ref 122, .int 0, .int 3]) (c := 0) (s' := (65, [(0, .ref 122), (1, .int x1), (2, .int x2), (3, .int x3)], [], h2)) rfl ⟨Nat.le_of_ble_eq_true rfl, Nat.le_of_ble_eq_true rfl⟩).trans ?_
        refine z_bdc fun r5 h6 => ?_
        exact z_X_lab rfl
      · refine (z_X_steps (s' := (62, [(0, .ref 122), (1, .int x1), (2, .int x2), (3, .int x3)], [.int 3, .int 1, .ref 122], h2)) 3 rfl).trans ?_
        refine (z_X_call (id := 135) (a := [.ref 122, .int 1, .int 3]) (c := 0) (s' := (65, [(0, .ref 122), (1, .int x1), (2, .int x2), (3, .int x3)], [], h2)) rfl ⟨Nat.le_of_ble_eq_true rfl, Nat.le_of_ble_eq_true rfl⟩).trans ?_
        refine z_bdc fun r7 h8 => ?_
        exact z_X_lab rfl
set_option maxRecDepth 8000 in
set_option maxHeartbeats 2000000 in
theorem e_M_readNumber_65 (h : z_H) : zl_M_readNumber_65 h = (if ¬ h.1 122 12 = 0 then z_bd (z_M 139 [.ref 122] h) (fun r1 h2 => some (0, h2)) else z_bd (z_M 139 [.ref 122] h) (fun r3 h4 => some (h.1 122 11, h4))) := by
  show z_X zc_M_readNumber 3 (65, [(0, .ref 122)], [], h) = _
  refine (z_X_steps (s' := (69, [(0, .ref 122)], [.int (h.1 122 12)], h)) 2 rfl).trans ?_
  refine (z_X_br (c := ¬ h.1 122 12 = 0) (s1 := (79, [(0, .ref 122)], [], h)) (s2 := (72, [(0, .ref 122)], [], h)) rfl).trans (z_ite ?_ ?_)
  · refine (z_X_steps (s' := (83, [(4, .int 0), (0, .ref 122)], [.ref 122], h)) 3 rfl).trans ?_
    refine (z_X_call (id := 139) (a := [.ref 122]) (c := 0) (s' := (86, [(4, .int 0), (0, .ref 122)], [], h)) rfl ⟨Nat.le_of_ble_eq_true rfl, Nat.le_of_ble_eq_true rfl⟩).trans ?_
    refine z_bdc fun r1 h2 => ?_
    refine (z_X_steps (s' := (88, [(4, .int 0), (0, .ref 122)], [.int 0], h2)) 1 rfl).trans ?_
    exact z_X_ret rfl
  · refine (z_X_steps (s' := (83, [(4, .int (h.1 122 11)), (0, .ref 122)], [.ref 122], h)) 5 rfl).trans ?_
    refine (z_X_call (id := 139) (a := [.ref 122]) (c := 0) (s' := (86, [(4, .int (h.1 122 11)), (0, .ref 122)], [], h)) rfl ⟨Nat.le_of_ble_eq_true rfl, Nat.le_of_ble_eq_true rfl⟩).trans ?_
    refine z_bdc fun r3 h4 => ?_
    refine (z_X_steps (s' := (88, [(4, .int (h.1 122 11)), (0, .ref 122)], [.int (h.1 122 11)], h4)) 1 rfl).trans ?_
    exact z_X_ret rfl
set_option maxRecDepth 8000 in
set_option maxHeartbeats 2000000 in
theorem e_M_methodNow (h : z_H) : z_M 141 [.ref 122] h = some ((h.1 126 0) - 1, h) := by
  refine (z_M_eq (by decide)).trans ?_
  show z_X zc_M_methodNow 1 (0, [(0, .ref 122)], [], h) = _
  refine (z_X_steps (s' := (8, [(0, .ref 122)], [.int ((h.1 126 0) - 1)], h)) 6 rfl).trans ?_
  exact z_X_ret rfl
noncomputable def zl_M_readNode_70 (x3 : Int32) (x4 : Int32) (h : z_H) : Option z_A := z_X zc_M_readNode 4 (70, [(0, .ref 122), (3, .int x3), (4, .int x4)], [], h)
set_option maxRecDepth 8000 in
set_option maxHeartbeats 2000000 in
theorem e_M_readNode (x1 : Int32) (h : z_H) : z_M 142 [.ref 122, .int x1] h = z_bd (z_M 141 [.ref 122] h) (fun r1 h2 => (bif z_in (7 + r1) 549 then z_bd (z_M 129 [.int 0, .int r1, .int (h2.1 126 ((7 + r1).toNatClampNeg))] h2) (fun r3 h4 => (bif z_in (7 + r1) 549 then (bif z_in (7 + r1) 549 then (bif z_in (r3 + 0) 549 then (if ¬ x1 = 0 then z_bd (z_M 140 [.ref 122, .int 0, .int 3, .int (-4)] (z_wI (z_wI h4 126 ((7 + r1).toNatClampNeg) ((h4.1 126 ((7 + r1).toNatClampNeg)) + 1)) 126 ((r3 + 0).toNatClampNeg) x1)) (fun r5 h6 => (bif z_in (r3 + 1) 549 then zl_M_readNode_70 r3 0 (z_wI h6 126 ((r3 + 1).toNatClampNeg) r5) else none)) else z_bd (z_M 140 [.ref 122, .int 0, .int 9, .int (-4)] (z_wI (z_wI h4 126 ((7 + r1).toNatClampNeg) ((h4.1 126 ((7 + r1).toNatClampNeg)) + 1)) 126 ((r3 + 0).toNatClampNeg) x1)) (fun r7 h8 => (bif z_in (r3 + 1) 549 then zl_M_readNode_70 r3 0 (z_wI h8 126 ((r3 + 1).toNatClampNeg) r7) else none))) else none) else none) else none)) else none)) := by
  refine (z_M_eq (by decide)).trans ?_
  show z_X zc_M_readNode 4 (0, [(0, .ref 122), (1, .int x1)], [], h) = _
  refine (z_X_steps (s' := (1, [(0, .ref 122), (1, .int x1)], [.ref 122], h)) 1 rfl).trans ?_
  refine (z_X_call (id := 141) (a := [.ref 122]) (c := 1) (s' := (4, [(0, .ref 122), (1, .int x1)], [], h)) rfl ⟨Nat.le_of_ble_eq_true rfl, Nat.le_of_ble_eq_true rfl⟩).trans ?_
  refine z_bdc fun r1 h2 => ?_
  refine (z_X_steps (s' := (15, [(2, .int r1), (0, .ref 122), (1, .int x1)], [.int (7 + r1), .ref 126, .int r1, .int 0], h2)) 8 rfl).trans ?_
  refine (z_X_if (g := z_in (7 + r1) 549) (s' := (16, [(2, .int r1), (0, .ref 122), (1, .int x1)], [.int (h2.1 126 ((7 + r1).toNatClampNeg)), .int r1, .int 0], h2)) rfl).trans (z_bifA ?_)
  refine (z_X_call (id := 129) (a := [.int 0, .int r1, .int (h2.1 126 ((7 + r1).toNatClampNeg))]) (c := 1) (s' := (19, [(2, .int r1), (0, .ref 122), (1, .int x1)], [], h2)) rfl ⟨Nat.le_of_ble_eq_true rfl, Nat.le_of_ble_eq_true rfl⟩).trans ?_
  refine z_bdc fun r3 h4 => ?_
  refine (z_X_steps (s' := (29, [(3, .int r3), (2, .int r1), (0, .ref 122), (1, .int x1)], [.int (7 + r1), .ref 126, .int (7 + r1), .ref 126], h4)) 7 rfl).trans ?_
  refine (z_X_if (g := z_in (7 + r1) 549) (s' := (30, [(3, .int r3), (2, .int r1), (0, .ref 122), (1, .int x1)], [.int (h4.1 126 ((7 + r1).toNatClampNeg)), .int (7 + r1), .ref 126], h4)) rfl).trans (z_bifA ?_)
  refine (z_X_steps (s' := (32, [(3, .int r3), (2, .int r1), (0, .ref 122), (1, .int x1)], [.int ((h4.1 126 ((7 + r1).toNatClampNeg)) + 1), .int (7 + r1), .ref 126], h4)) 2 rfl).trans ?_
  refine (z_X_if (g := z_in (7 + r1) 549) (s' := (33, [(3, .int r3), (2, .int r1), (0, .ref 122), (1, .int x1)], [], (z_wI h4 126 ((7 + r1).toNatClampNeg) ((h4.1 126 ((7 + r1).toNatClampNeg)) + 1)))) rfl).trans (z_bifA ?_)
  refine (z_X_steps (s' := (41, [(3, .int r3), (2, .int r1), (0, .ref 122), (1, .int x1)], [.int x1, .int (r3 + 0), .ref 126], (z_wI h4 126 ((7 + r1).toNatClampNeg) ((h4.1 126 ((7 + r1).toNatClampNeg)) + 1)))) 6 rfl).trans ?_
  refine (z_X_if (g := z_in (r3 + 0) 549) (s' := (42, [(3, .int r3), (2, .int r1), (0, .ref 122), (1, .int x1)], [], (z_wI (z_wI h4 126 ((7 + r1).toNatClampNeg) ((h4.1 126 ((7 + r1).toNatClampNeg)) + 1)) 126 ((r3 + 0).toNatClampNeg) x1))) rfl).trans (z_bifA ?_)
  refine (z_X_steps (s' := (52, [(3, .int r3), (2, .int r1), (0, .ref 122), (1, .int x1)], [.int x1, .int 0, .ref 122, .int (r3 + 1), .ref 126], (z_wI (z_wI h4 126 ((7 + r1).toNatClampNeg) ((h4.1 126 ((7 + r1).toNatClampNeg)) + 1)) 126 ((r3 + 0).toNatClampNeg) x1))) 8 rfl).trans ?_
  refine (z_X_br (c := ¬ x1 = 0) (s1 := (60, [(3, .int r3), (2, .int r1), (0, .ref 122), (1, .int x1)], [.int 0, .ref 122, .int (r3 + 1), .ref 126], (z_wI (z_wI h4 126 ((7 + r1).toNatClampNeg) ((h4.1 126 ((7 + r1).toNatClampNeg)) + 1)) 126 ((r3 + 0).toNatClampNeg) x1))) (s2 := (55, [(3, .int r3), (2, .int r1), (0, .ref 122), (1, .int x1)], [.int 0, .ref 122, .int (r3 + 1), .ref 126], (z_wI (z_wI h4 126 ((7 + r1).toNatClampNeg) ((h4.1 126 ((7 + r1).toNatClampNeg)) + 1)) 126 ((r3 + 0).toNatClampNeg) x1))) rfl).trans (z_ite ?_ ?_)
  · refine (z_X_steps (s' := (63, [(3, .int r3), (2, .int r1), (0, .ref 122), (1, .int x1)], [.int (-4), .int 3, .int 0, .ref 122, .int (r3 + 1), .ref 126], (z_wI (z_wI h4 126 ((7 + r1).toNatClampNeg) ((h4.1 126 ((7 + r1).toNatClampNeg)) + 1)) 126 ((r3 + 0).toNatClampNeg) x1))) 2 rfl).trans ?_
    refine (z_X_call (id := 140) (a := [.ref 122, .int 0, .int 3, .int (-4)]) (c := 1) (s' := (66, [(3, .int r3), (2, .int r1), (0, .ref 122), (1, .int x1)], [.int (r3 + 1), .ref 126], (z_wI (z_wI h4 126 ((7 + r1).toNatClampNeg) ((h4.1 126 ((7 + r1).toNatClampNeg)) + 1)) 126 ((r3 + 0).toNatClampNeg) x1))) rfl ⟨Nat.le_of_ble_eq_true rfl, Nat.le_of_ble_eq_true rfl⟩).trans ?_
    refine z_bdc fun r5 h6 => ?_
    refine (z_X_if (g := z_in (r3 + 1) 549) (s' := (67, [(3, .int r3), (2, .int r1), (0, .ref 122), (1, .int x1)], [], (z_wI h6 126 ((r3 + 1).toNatClampNeg) r5))) rfl).trans (z_bifA ?_)
    refine (z_X_steps (s' := (70, [(4, .int 0), (3, .int r3), (2, .int r1), (0, .ref 122), (1, .int x1)], [], (z_wI h6 126 ((r3 + 1).toNatClampNeg) r5))) 2 rfl).trans ?_
    exact z_X_lab rfl
  · refine (z_X_steps (s' := (63, [(3, .int r3), (2, .int r1), (0, .ref 122), (1, .int x1)], [.int (-4), .int 9, .int 0, .ref 122, .int (r3 + 1), .ref 126], (z_wI (z_wI h4 126 ((7 + r1).toNatClampNeg) ((h4.1 126 ((7 + r1).toNatClampNeg)) + 1)) 126 ((r3 + 0).toNatClampNeg) x1))) 3 rfl).trans ?_
    refine (z_X_call (id := 140) (a := [.ref 122, .int 0, .int 9, .int (-4)]) (c := 1) (s' := (66, [(3, .int r3), (2, .int r1), (0, .ref 122), (1, .int x1)], [.int (r3 + 1), .ref 126], (z_wI (z_wI h4 126 ((7 + r1).toNatClampNeg) ((h4.1 126 ((7 + r1).toNatClampNeg)) + 1)) 126 ((r3 + 0).toNatClampNeg) x1))) rfl ⟨Nat.le_of_ble_eq_true rfl, Nat.le_of_ble_eq_true rfl⟩).trans ?_
    refine z_bdc fun r7 h8 => ?_
    refine (z_X_if (g := z_in (r3 + 1) 549) (s' := (67, [(3, .int r3), (2, .int r1), (0, .ref 122), (1, .int x1)], [], (z_wI h8 126 ((r3 + 1).toNatClampNeg) r7))) rfl).trans (z_bifA ?_)
    refine (z_X_steps (s' := (70, [(4, .int 0), (3, .int r3), (2, .int r1), (0, .ref 122), (1, .int x1)], [], (z_wI h8 126 ((r3 + 1).toNatClampNeg) r7))) 2 rfl).trans ?_
    exact z_X_lab rfl
set_option maxRecDepth 8000 in
set_option maxHeartbeats 2000000 in
theorem e_M_readNode_70 (x3 : Int32) (x4 : Int32) (h : z_H) : zl_M_readNode_70 x3 x4 h = (if (2 : Int32) ≤ x4 then some (0, h) else (if ¬ h.1 122 12 = 0 then some (0, h) else (if ¬ h.1 122 10 = 2 then some (0, h) else z_bd (z_M 140 [.ref 122, .int 0, .int 7, .int 9] h) (fun r1 h2 => (bif z_in ((x3 + 3) + x4) 549 then (bif z_in (x3 + 2) 549 then (bif z_in (x3 + 2) 549 then zl_M_readNode_70 x3 (x4 + 1) (z_wI (z_wI h2 126 (((x3 + 3) + x4).toNatClampNeg) r1) 126 ((x3 + 2).toNatClampNeg) (((z_wI h2 126 (((x3 + 3) + x4).toNatClampNeg) r1).1 126 ((x3 + 2).toNatClampNeg)) + 1)) else none) else none) else none))))) := by
  show z_X zc_M_readNode 4 (70, [(0, .ref 122), (3, .int x3), (4, .int x4)], [], h) = _
  refine (z_X_steps (s' := (73, [(0, .ref 122), (3, .int x3), (4, .int x4)], [.int 2, .int x4], h)) 2 rfl).trans ?_
  refine (z_X_br (c := (2 : Int32) ≤ x4) (s1 := (129, [(0, .ref 122), (3, .int x3), (4, .int x4)], [], h)) (s2 := (76, [(0, .ref 122), (3, .int x3), (4, .int x4)], [], h)) rfl).trans (z_ite ?_ ?_)
  · exact z_X_ret rfl
  · refine (z_X_steps (s' := (80, [(0, .ref 122), (3, .int x3), (4, .int x4)], [.int (h.1 122 12)], h)) 2 rfl).trans ?_
    refine (z_X_br (c := ¬ h.1 122 12 = 0) (s1 := (129, [(0, .ref 122), (3, .int x3), (4, .int x4)], [], h)) (s2 := (83, [(0, .ref 122), (3, .int x3), (4, .int x4)], [], h)) rfl).trans (z_ite ?_ ?_)
    · exact z_X_ret rfl
    · refine (z_X_steps (s' := (88, [(0, .ref 122), (3, .int x3), (4, .int x4)], [.int 2, .int (h.1 122 10)], h)) 3 rfl).trans ?_
      refine (z_X_br (c := ¬ h.1 122 10 = 2) (s1 := (129, [(0, .ref 122), (3, .int x3), (4, .int x4)], [], h)) (s2 := (91, [(0, .ref 122), (3, .int x3), (4, .int x4)], [], h)) rfl).trans (z_ite ?_ ?_)
      · exact z_X_ret rfl
      · refine (z_X_steps (s' := (107, [(0, .ref 122), (3, .int x3), (4, .int x4)], [.int 9, .int 7, .int 0, .ref 122, .int ((x3 + 3) + x4), .ref 126], h)) 11 rfl).trans ?_
        refine (z_X_call (id := 140) (a := [.ref 122, .int 0, .int 7, .int 9]) (c := 1) (s' := (110, [(0, .ref 122), (3, .int x3), (4, .int x4)], [.int ((x3 + 3) + x4), .ref 126], h)) rfl ⟨Nat.le_of_ble_eq_true rfl, Nat.le_of_ble_eq_true rfl⟩).trans ?_
        refine z_bdc fun r1 h2 => ?_
        refine (z_X_if (g := z_in ((x3 + 3) + x4) 549) (s' := (111, [(0, .ref 122), (3, .int x3), (4, .int x4)], [], (z_wI h2 126 (((x3 + 3) + x4).toNatClampNeg) r1))) rfl).trans (z_bifA ?_)
        refine (z_X_steps (s' := (119, [(0, .ref 122), (3, .int x3), (4, .int x4)], [.int (x3 + 2), .ref 126, .int (x3 + 2), .ref 126], (z_wI h2 126 (((x3 + 3) + x4).toNatClampNeg) r1))) 6 rfl).trans ?_
        refine (z_X_if (g := z_in (x3 + 2) 549) (s' := (120, [(0, .ref 122), (3, .int x3), (4, .int x4)], [.int ((z_wI h2 126 (((x3 + 3) + x4).toNatClampNeg) r1).1 126 ((x3 + 2).toNatClampNeg)), .int (x3 + 2), .ref 126], (z_wI h2 126 (((x3 + 3) + x4).toNatClampNeg) r1))) rfl).trans (z_bifA ?_)
        refine (z_X_steps (s' := (122, [(0, .ref 122), (3, .int x3), (4, .int x4)], [.int (((z_wI h2 126 (((x3 + 3) + x4).toNatClampNeg) r1).1 126 ((x3 + 2).toNatClampNeg)) + 1), .int (x3 + 2), .ref 126], (z_wI h2 126 (((x3 + 3) + x4).toNatClampNeg) r1))) 2 rfl).trans ?_
        refine (z_X_if (g := z_in (x3 + 2) 549) (s' := (123, [(0, .ref 122), (3, .int x3), (4, .int x4)], [], (z_wI (z_wI h2 126 (((x3 + 3) + x4).toNatClampNeg) r1) 126 ((x3 + 2).toNatClampNeg) (((z_wI h2 126 (((x3 + 3) + x4).toNatClampNeg) r1).1 126 ((x3 + 2).toNatClampNeg)) + 1)))) rfl).trans (z_bifA ?_)
        refine (z_X_steps (s' := (70, [(4, .int (x4 + 1)), (0, .ref 122), (3, .int x3)], [], (z_wI (z_wI h2 126 (((x3 + 3) + x4).toNatClampNeg) r1) 126 ((x3 + 2).toNatClampNeg) (((z_wI h2 126 (((x3 + 3) + x4).toNatClampNeg) r1).1 126 ((x3 + 2).toNatClampNeg)) + 1)))) 2 rfl).trans ?_
        exact z_X_lab rfl
set_option maxRecDepth 8000 in
set_option maxHeartbeats 2000000 in
theorem e_M_readClass (h : z_H) : z_M 143 [.ref 122] h = z_bd (z_M 140 [.ref 122, .int 0, .int 3, .int (-4)] h) (fun r1 h2 => (if r1 ≤ h2.1 122 4 then some (r1, (z_wI h2 122 4 (h2.1 122 4))) else some (r1, (z_wI h2 122 4 r1)))) := by
  refine (z_M_eq (by decide)).trans ?_
  show z_X zc_M_readClass 4 (0, [(0, .ref 122)], [], h) = _
  refine (z_X_steps (s' := (5, [(0, .ref 122)], [.int (-4), .int 3, .int 0, .ref 122], h)) 4 rfl).trans ?_
  refine (z_X_call (id := 140) (a := [.ref 122, .int 0, .int 3, .int (-4)]) (c := 1) (s' := (8, [(0, .ref 122)], [], h)) rfl ⟨Nat.le_of_ble_eq_true rfl, Nat.le_of_ble_eq_true rfl⟩).trans ?_
  refine z_bdc fun r1 h2 => ?_
  refine (z_X_steps (s' := (15, [(1, .int r1), (0, .ref 122)], [.int (h2.1 122 4), .int r1, .ref 122], h2)) 5 rfl).trans ?_
  refine (z_X_br (c := r1 ≤ h2.1 122 4) (s1 := (22, [(1, .int r1), (0, .ref 122)], [.ref 122], h2)) (s2 := (18, [(1, .int r1), (0, .ref 122)], [.ref 122], h2)) rfl).trans (z_ite ?_ ?_)
  · refine (z_X_steps (s' := (30, [(1, .int r1), (0, .ref 122)], [.int r1], (z_wI h2 122 4 (h2.1 122 4)))) 4 rfl).trans ?_
    exact z_X_ret rfl
  · refine (z_X_steps (s' := (30, [(1, .int r1), (0, .ref 122)], [.int r1], (z_wI h2 122 4 r1))) 4 rfl).trans ?_
    exact z_X_ret rfl
noncomputable def zl_M_readHas_40 (x1 : Int32) (x2 : Int32) (x3 : Int32) (s1 : Int32) (h : z_H) : Option z_A := z_X zc_M_readHas 5 (40, [(0, .ref 122), (1, .int x1), (2, .int x2), (3, .int x3)], [.int s1, .ref 122], h)
set_option maxRecDepth 8000 in
set_option maxHeartbeats 2000000 in
theorem e_M_readHas (h : z_H) : z_M 144 [.ref 122] h = z_bd (z_M 143 [.ref 122] h) (fun r1 h2 => z_bd (z_M 140 [.ref 122, .int 0, .int 3, .int (-4)] h2) (fun r3 h4 => z_bd (z_M 140 [.ref 122, .int 0, .int 5, .int (-4)] h4) (fun r5 h6 => (if r5 ≤ h6.1 122 5 then zl_M_readHas_40 r1 r3 r5 (h6.1 122 5) h6 else zl_M_readHas_40 r1 r3 r5 r5 h6)))) := by
  refine (z_M_eq (by decide)).trans ?_
  show z_X zc_M_readHas 5 (0, [(0, .ref 122)], [], h) = _
  refine (z_X_steps (s' := (1, [(0, .ref 122)], [.ref 122], h)) 1 rfl).trans ?_
  refine (z_X_call (id := 143) (a := [.ref 122]) (c := 1) (s' := (4, [(0, .ref 122)], [], h)) rfl ⟨Nat.le_of_ble_eq_true rfl, Nat.le_of_ble_eq_true rfl⟩).trans ?_
  refine z_bdc fun r1 h2 => ?_
  refine (z_X_steps (s' := (10, [(1, .int r1), (0, .ref 122)], [.int (-4), .int 3, .int 0, .ref 122], h2)) 5 rfl).trans ?_
  refine (z_X_call (id := 140) (a := [.ref 122, .int 0, .int 3, .int (-4)]) (c := 1) (s' := (13, [(1, .int r1), (0, .ref 122)], [], h2)) rfl ⟨Nat.le_of_ble_eq_true rfl, Nat.le_of_ble_eq_true rfl⟩).trans ?_
  refine z_bdc fun r3 h4 => ?_
  refine (z_X_steps (s' := (19, [(2, .int r3), (1, .int r1), (0, .ref 122)], [.int (-4), .int 5, .int 0, .ref 122], h4)) 5 rfl).trans ?_
  refine (z_X_call (id := 140) (a := [.ref 122, .int 0, .int 5, .int (-4)]) (c := 1) (s' := (22, [(2, .int r3), (1, .int r1), (0, .ref 122)], [], h4)) rfl ⟨Nat.le_of_ble_eq_true rfl, Nat.le_of_ble_eq_true rfl⟩).trans ?_
  refine z_bdc fun r5 h6 => ?_
  refine (z_X_steps (s' := (29, [(3, .int r5), (2, .int r3), (1, .int r1), (0, .ref 122)], [.int (h6.1 122 5), .int r5, .ref 122], h6)) 5 rfl).trans ?_
  refine (z_X_br (c := r5 ≤ h6.1 122 5) (s1 := (36, [(3, .int r5), (2, .int r3), (1, .int r1), (0, .ref 122)], [.ref 122], h6)) (s2 := (32, [(3, .int r5), (2, .int r3), (1, .int r1), (0, .ref 122)], [.ref 122], h6)) rfl).trans (z_ite ?_ ?_)
  · refine (z_X_steps (s' := (40, [(3, .int r5), (2, .int r3), (1, .int r1), (0, .ref 122)], [.int (h6.1 122 5), .ref 122], h6)) 2 rfl).trans ?_
    exact z_X_lab rfl
  · refine (z_X_steps (s' := (40, [(3, .int r5), (2, .int r3), (1, .int r1), (0, .ref 122)], [.int r5, .ref 122], h6)) 2 rfl).trans ?_
    exact z_X_lab rfl
set_option maxRecDepth 8000 in
set_option maxHeartbeats 2000000 in
theorem e_M_readHas_40 (x1 : Int32) (x2 : Int32) (x3 : Int32) (s1 : Int32) (h : z_H) : zl_M_readHas_40 x1 x2 x3 s1 h = z_bd (z_M 130 [.int 0, .int x1, .int x2] (z_wI h 122 5 s1)) (fun r1 h2 => (bif z_in r1 549 then some (0, (z_wI h2 126 (r1.toNatClampNeg) x3)) else none)) := by
  show z_X zc_M_readHas 5 (40, [(0, .ref 122), (1, .int x1), (2, .int x2), (3, .int x3)], [.int s1, .ref 122], h) = _
  refine (z_X_steps (s' := (50, [(0, .ref 122), (1, .int x1), (2, .int x2), (3, .int x3)], [.int x2, .int x1, .int 0, .ref 126], (z_wI h 122 5 s1))) 6 rfl).trans ?_
  refine (z_X_call (id := 130) (a := [.int 0, .int x1, .int x2]) (c := 1) (s' := (53, [(0, .ref 122), (1, .int x1), (2, .int x2), (3, .int x3)], [.ref 126], (z_wI h 122 5 s1))) rfl ⟨Nat.le_of_ble_eq_true rfl, Nat.le_of_ble_eq_true rfl⟩).trans ?_
  refine z_bdc fun r1 h2 => ?_
  refine (z_X_steps (s' := (54, [(0, .ref 122), (1, .int x1), (2, .int x2), (3, .int x3)], [.int x3, .int r1, .ref 126], h2)) 1 rfl).trans ?_
  refine (z_X_if (g := z_in r1 549) (s' := (55, [(0, .ref 122), (1, .int x1), (2, .int x2), (3, .int x3)], [], (z_wI h2 126 (r1.toNatClampNeg) x3))) rfl).trans (z_bifA ?_)
  exact z_X_ret rfl
set_option maxRecDepth 8000 in
set_option maxHeartbeats 2000000 in
theorem e_M_readTest (h : z_H) : z_M 145 [.ref 122] h = z_bd (z_M 143 [.ref 122] (z_wI h 126 2 ((h.1 126 2) + 1))) (fun r1 h2 => (bif z_in (525 + (3 * (h.1 126 2))) 549 then z_bd (z_M 140 [.ref 122, .int 0, .int 255, .int (-4)] (z_wI h2 126 ((525 + (3 * (h.1 126 2))).toNatClampNeg) r1)) (fun r3 h4 => (bif z_in ((525 + (3 * (h.1 126 2))) + 1) 549 then z_bd (z_M 140 [.ref 122, .int 1, .int 9, .int (-4)] (z_wI h4 126 (((525 + (3 * (h.1 126 2))) + 1).toNatClampNeg) r3)) (fun r5 h6 => (bif z_in ((525 + (3 * (h.1 126 2))) + 2) 549 then some (0, (z_wI h6 126 (((525 + (3 * (h.1 126 2))) + 2).toNatClampNeg) r5)) else none)) else none)) else none)) := by
  refine (z_M_eq (by decide)).trans ?_
  show z_X zc_M_readTest 5 (0, [(0, .ref 122)], [], h) = _
  refine (z_X_steps (s' := (29, [(1, .int (525 + (3 * (h.1 126 2)))), (0, .ref 122)], [.ref 122, .int (525 + (3 * (h.1 126 2))), .ref 126], (z_wI h 126 2 ((h.1 126 2) + 1)))) 21 rfl).trans ?_
  refine (z_X_call (id := 143) (a := [.ref 122]) (c := 1) (s' := (32, [(1, .int (525 + (3 * (h.1 126 2)))), (0, .ref 122)], [.int (525 + (3 * (h.1 126 2))), .ref 126], (z_wI h 126 2 ((h.1 126 2) + 1)))) rfl ⟨Nat.le_of_ble_eq_true rfl, Nat.le_of_ble_eq_true rfl⟩).trans ?_
  refine z_bdc fun r1 h2 => ?_
  refine (z_X_if (g := z_in (525 + (3 * (h.1 126 2))) 549) (s' := (33, [(1, .int (525 + (3 * (h.1 126 2)))), (0, .ref 122)], [], (z_wI h2 126 ((525 + (3 * (h.1 126 2))).toNatClampNeg) r1))) rfl).trans (z_bifA ?_)
  refine (z_X_steps (s' := (47, [(1, .int (525 + (3 * (h.1 126 2)))), (0, .ref 122)], [.int (-4), .int 255, .int 0, .ref 122, .int ((525 + (3 * (h.1 126 2))) + 1), .ref 126], (z_wI h2 126 ((525 + (3 * (h.1 126 2))).toNatClampNeg) r1))) 9 rfl).trans ?_
  refine (z_X_call (id := 140) (a := [.ref 122, .int 0, .int 255, .int (-4)]) (c := 1) (s' := (50, [(1, .int (525 + (3 * (h.1 126 2)))), (0, .ref 122)], [.int ((525 + (3 * (h.1 126 2))) + 1), .ref 126], (z_wI h2 126 ((525 + (3 * (h.1 126 2))).toNatClampNeg) r1))) rfl ⟨Nat.le_of_ble_eq_true rfl, Nat.le_of_ble_eq_true rfl⟩).trans ?_
  refine z_bdc fun r3 h4 => ?_
  refine (z_X_if (g := z_in ((525 + (3 * (h.1 126 2))) + 1) 549) (s' := (51, [(1, .int (525 + (3 * (h.1 126 2)))), (0, .ref 122)], [], (z_wI h4 126 (((525 + (3 * (h.1 126 2))) + 1).toNatClampNeg) r3))) rfl).trans (z_bifA ?_)
  refine (z_X_steps (s' := (64, [(1, .int (525 + (3 * (h.1 126 2)))), (0, .ref 122)], [.int (-4), .int 9, .int 1, .ref 122, .int ((525 + (3 * (h.1 126 2))) + 2), .ref 126], (z_wI h4 126 (((525 + (3 * (h.1 126 2))) + 1).toNatClampNeg) r3))) 9 rfl).trans ?_
  refine (z_X_call (id := 140) (a := [.ref 122, .int 1, .int 9, .int (-4)]) (c := 1) (s' := (67, [(1, .int (525 + (3 * (h.1 126 2)))), (0, .ref 122)], [.int ((525 + (3 * (h.1 126 2))) + 2), .ref 126], (z_wI h4 126 (((525 + (3 * (h.1 126 2))) + 1).toNatClampNeg) r3))) rfl ⟨Nat.le_of_ble_eq_true rfl, Nat.le_of_ble_eq_true rfl⟩).trans ?_
  refine z_bdc fun r5 h6 => ?_
  refine (z_X_if (g := z_in ((525 + (3 * (h.1 126 2))) + 2) 549) (s' := (68, [(1, .int (525 + (3 * (h.1 126 2)))), (0, .ref 122)], [], (z_wI h6 126 (((525 + (3 * (h.1 126 2))) + 2).toNatClampNeg) r5))) rfl).trans (z_bifA ?_)
  exact z_X_ret rfl
set_option maxRecDepth 8000 in
set_option maxHeartbeats 2000000 in
theorem e_M_hasRoom (x1 : Int32) (h : z_H) : z_M 146 [.ref 122, .int x1] h = (if x1 = 0 then (if (6 : Int32) ≤ h.1 126 0 then some (0, h) else some (1, h)) else (if x1 = 1 then (if h.1 126 0 ≤ 0 then some (0, h) else z_bd (z_M 141 [.ref 122] h) (fun r1 h2 => (bif z_in (7 + r1) 549 then (if (8 : Int32) ≤ h2.1 126 ((7 + r1).toNatClampNeg) then some (0, h2) else some (1, h2)) else none))) else (if x1 = 2 then (if h.1 126 0 ≤ 0 then some (0, h) else z_bd (z_M 141 [.ref 122] h) (fun r3 h4 => (bif z_in (7 + r3) 549 then (if (8 : Int32) ≤ h4.1 126 ((7 + r3).toNatClampNeg) then some (0, h4) else some (1, h4)) else none))) else (if x1 = 3 then (if (4 : Int32) ≤ h.1 126 1 then some (0, h) else some (1, h)) else (if x1 = 4 then some (1, h) else (if x1 = 5 then (if (8 : Int32) ≤ h.1 126 2 then some (0, h) else some (1, h)) else some (1, h))))))) := by
  refine (z_M_eq (by decide)).trans ?_
  show z_X zc_M_hasRoom 2 (0, [(0, .ref 122), (1, .int x1)], [], h) = _
  refine (z_X_steps (s' := (1, [(0, .ref 122), (1, .int x1)], [.int x1], h)) 1 rfl).trans ?_
  refine (z_X_sw (d := (122, [(0, .ref 122), (1, .int x1)], [], h)) (x := x1) (lo := [(0, .ref 122), (1, .int x1)]) (stk := []) (h := h) (sw := [(0, 40), (1, 57), (2, 57), (3, 89), (4, 122), (5, 105)]) rfl).trans ?_
  refine z_ite ?_ ?_
  · refine (z_X_steps (s' := (48, [(0, .ref 122), (1, .int x1)], [.int 6, .int (h.1 126 0)], h)) 5 rfl).trans ?_
    refine (z_X_br (c := (6 : Int32) ≤ h.1 126 0) (s1 := (55, [(0, .ref 122), (1, .int x1)], [], h)) (s2 := (51, [(0, .ref 122), (1, .int x1)], [], h)) rfl).trans (z_ite ?_ ?_)
    · refine (z_X_steps (s' := (56, [(0, .ref 122), (1, .int x1)], [.int 0], h)) 1 rfl).trans ?_
      exact z_X_ret rfl
    · refine (z_X_steps (s' := (56, [(0, .ref 122), (1, .int x1)], [.int 1], h)) 2 rfl).trans ?_
      exact z_X_ret rfl
  refine z_ite ?_ ?_
  · refine (z_X_steps (s' := (63, [(0, .ref 122), (1, .int x1)], [.int (h.1 126 0)], h)) 4 rfl).trans ?_
    refine (z_X_br (c := h.1 126 0 ≤ 0) (s1 := (87, [(0, .ref 122), (1, .int x1)], [], h)) (s2 := (66, [(0, .ref 122), (1, .int x1)], [], h)) rfl).trans (z_ite ?_ ?_)
    · refine (z_X_steps (s' := (88, [(0, .ref 122), (1, .int x1)], [.int 0], h)) 1 rfl).trans ?_
      exact z_X_ret rfl
    · refine (z_X_steps (s' := (73, [(0, .ref 122), (1, .int x1)], [.ref 122, .int 7, .ref 126], h)) 4 rfl).trans ?_
      refine (z_X_call (id := 141) (a := [.ref 122]) (c := 1) (s' := (76, [(0, .ref 122), (1, .int x1)], [.int 7, .ref 126], h)) rfl ⟨Nat.le_of_ble_eq_true rfl, Nat.le_of_ble_eq_true rfl⟩).trans ?_
      refine z_bdc fun r1 h2 => ?_
      refine (z_X_steps (s' := (77, [(0, .ref 122), (1, .int x1)], [.int (7 + r1), .ref 126], h2)) 1 rfl).trans ?_
      refine (z_X_if (g := z_in (7 + r1) 549) (s' := (78, [(0, .ref 122), (1, .int x1)], [.int (h2.1 126 ((7 + r1).toNatClampNeg))], h2)) rfl).trans (z_bifA ?_)
      refine (z_X_steps (s' := (80, [(0, .ref 122), (1, .int x1)], [.int 8, .int (h2.1 126 ((7 + r1).toNatClampNeg))], h2)) 1 rfl).trans ?_
      refine (z_X_br (c := (8 : Int32) ≤ h2.1 126 ((7 + r1).toNatClampNeg)) (s1 := (87, [(0, .ref 122), (1, .int x1)], [], h2)) (s2 := (83, [(0, .ref 122), (1, .int x1)], [], h2)) rfl).trans (z_ite ?_ ?_)
      · refine (z_X_steps (s' := (88, [(0, .ref 122), (1, .int x1)], [.int 0], h2)) 1 rfl).trans ?_
        exact z_X_ret rfl
      · refine (z_X_steps (s' := (88, [(0, .ref 122), (1, .int x1)], [.int 1], h2)) 2 rfl).trans ?_
        exact z_X_ret rfl
  refine z_ite ?_ ?_
  · refine (z_X_steps (s' := (63, [(0, .ref 122), (1, .int x1)], [.int (h.1 126 0)], h)) 4 rfl).trans ?_
    refine (z_X_br (c := h.1 126 0 ≤ 0) (s1 := (87, [(0, .ref 122), (1, .int x1)], [], h)) (s2 := (66, [(0, .ref 122), (1, .int x1)], [], h)) rfl).trans (z_ite ?_ ?_)
    · refine (z_X_steps (s' := (88, [(0, .ref 122), (1, .int x1)], [.int 0], h)) 1 rfl).trans ?_
      exact z_X_ret rfl
    · refine (z_X_steps (s' := (73, [(0, .ref 122), (1, .int x1)], [.ref 122, .int 7, .ref 126], h)) 4 rfl).trans ?_
      refine (z_X_call (id := 141) (a := [.ref 122]) (c := 1) (s' := (76, [(0, .ref 122), (1, .int x1)], [.int 7, .ref 126], h)) rfl ⟨Nat.le_of_ble_eq_true rfl, Nat.le_of_ble_eq_true rfl⟩).trans ?_
      refine z_bdc fun r3 h4 => ?_
      refine (z_X_steps (s' := (77, [(0, .ref 122), (1, .int x1)], [.int (7 + r3), .ref 126], h4)) 1 rfl).trans ?_
      refine (z_X_if (g := z_in (7 + r3) 549) (s' := (78, [(0, .ref 122), (1, .int x1)], [.int (h4.1 126 ((7 + r3).toNatClampNeg))], h4)) rfl).trans (z_bifA ?_)
      refine (z_X_steps (s' := (80, [(0, .ref 122), (1, .int x1)], [.int 8, .int (h4.1 126 ((7 + r3).toNatClampNeg))], h4)) 1 rfl).trans ?_
      refine (z_X_br (c := (8 : Int32) ≤ h4.1 126 ((7 + r3).toNatClampNeg)) (s1 := (87, [(0, .ref 122), (1, .int x1)], [], h4)) (s2 := (83, [(0, .ref 122), (1, .int x1)], [], h4)) rfl).trans (z_ite ?_ ?_)
      · refine (z_X_steps (s' := (88, [(0, .ref 122), (1, .int x1)], [.int 0], h4)) 1 rfl).trans ?_
        exact z_X_ret rfl
      · refine (z_X_steps (s' := (88, [(0, .ref 122), (1, .int x1)], [.int 1], h4)) 2 rfl).trans ?_
        exact z_X_ret rfl
  refine z_ite ?_ ?_
  · refine (z_X_steps (s' := (96, [(0, .ref 122), (1, .int x1)], [.int 4, .int (h.1 126 1)], h)) 5 rfl).trans ?_
    refine (z_X_br (c := (4 : Int32) ≤ h.1 126 1) (s1 := (103, [(0, .ref 122), (1, .int x1)], [], h)) (s2 := (99, [(0, .ref 122), (1, .int x1)], [], h)) rfl).trans (z_ite ?_ ?_)
    · refine (z_X_steps (s' := (104, [(0, .ref 122), (1, .int x1)], [.int 0], h)) 1 rfl).trans ?_
      exact z_X_ret rfl
    · refine (z_X_steps (s' := (104, [(0, .ref 122), (1, .int x1)], [.int 1], h)) 2 rfl).trans ?_
      exact z_X_ret rfl
  refine z_ite ?_ ?_
  · refine (z_X_steps (s' := (123, [(0, .ref 122), (1, .int x1)], [.int 1], h)) 1 rfl).trans ?_
    exact z_X_ret rfl
  refine z_ite ?_ ?_
  · refine (z_X_steps (s' := (113, [(0, .ref 122), (1, .int x1)], [.int 8, .int (h.1 126 2)], h)) 5 rfl).trans ?_
    refine (z_X_br (c := (8 : Int32) ≤ h.1 126 2) (s1 := (120, [(0, .ref 122), (1, .int x1)], [], h)) (s2 := (116, [(0, .ref 122), (1, .int x1)], [], h)) rfl).trans (z_ite ?_ ?_)
    · refine (z_X_steps (s' := (121, [(0, .ref 122), (1, .int x1)], [.int 0], h)) 1 rfl).trans ?_
      exact z_X_ret rfl
    · refine (z_X_steps (s' := (121, [(0, .ref 122), (1, .int x1)], [.int 1], h)) 2 rfl).trans ?_
      exact z_X_ret rfl
  refine (z_X_steps (s' := (123, [(0, .ref 122), (1, .int x1)], [.int 1], h)) 1 rfl).trans ?_
  exact z_X_ret rfl
set_option maxRecDepth 8000 in
set_option maxHeartbeats 2000000 in
theorem e_M_readLineOf (x1 : Int32) (h : z_H) : z_M 147 [.ref 122, .int x1] h = (if x1 = 0 then some (0, (z_wI h 126 0 ((h.1 126 0) + 1))) else (if x1 = 1 then z_bd (z_M 142 [.ref 122, .int (x1 - 1)] h) (fun r1 h2 => some (0, h2)) else (if x1 = 2 then z_bd (z_M 142 [.ref 122, .int (x1 - 1)] h) (fun r3 h4 => some (0, h4)) else (if x1 = 3 then z_bd (z_M 140 [.ref 122, .int 0, .int ((h.1 126 1) - 1), .int 9] h) (fun r5 h6 => (bif z_in (3 + (h.1 126 1)) 549 then some (0, (z_wI (z_wI h6 126 ((3 + (h.1 126 1)).toNatClampNeg) r5) 126 1 (((z_wI h6 126 ((3 + (h.1 126 1)).toNatClampNeg) r5).1 126 1) + 1))) else none)) else (if x1 = 4 then z_bd (z_M 144 [.ref 122] h) (fun r7 h8 => some (0, h8)) else z_bd (z_M 145 [.ref 122] h) (fun r9 h10 => some (0, h10))))))) := by
  refine (z_M_eq (by decide)).trans ?_
  show z_X zc_M_readLineOf 6 (0, [(0, .ref 122), (1, .int x1)], [], h) = _
  refine (z_X_steps (s' := (1, [(0, .ref 122), (1, .int x1)], [.int x1], h)) 1 rfl).trans ?_
  refine (z_X_sw (d := (107, [(0, .ref 122), (1, .int x1)], [], h)) (x := x1) (lo := [(0, .ref 122), (1, .int x1)]) (stk := []) (h := h) (sw := [(0, 36), (1, 49), (2, 49), (3, 59), (4, 100)]) rfl).trans ?_
  refine z_ite ?_ ?_
  · refine (z_X_steps (s' := (111, [(0, .ref 122), (1, .int x1)], [], (z_wI h 126 0 ((h.1 126 0) + 1)))) 9 rfl).trans ?_
    exact z_X_ret rfl
  refine z_ite ?_ ?_
  · refine (z_X_steps (s' := (53, [(0, .ref 122), (1, .int x1)], [.int (x1 - 1), .ref 122], h)) 4 rfl).trans ?_
    refine (z_X_call (id := 142) (a := [.ref 122, .int (x1 - 1)]) (c := 0) (s' := (56, [(0, .ref 122), (1, .int x1)], [], h)) rfl ⟨Nat.le_of_ble_eq_true rfl, Nat.le_of_ble_eq_true rfl⟩).trans ?_
    refine z_bdc fun r1 h2 => ?_
    refine (z_X_steps (s' := (111, [(0, .ref 122), (1, .int x1)], [], h2)) 1 rfl).trans ?_
    exact z_X_ret rfl
  refine z_ite ?_ ?_
  · refine (z_X_steps (s' := (53, [(0, .ref 122), (1, .int x1)], [.int (x1 - 1), .ref 122], h)) 4 rfl).trans ?_
    refine (z_X_call (id := 142) (a := [.ref 122, .int (x1 - 1)]) (c := 0) (s' := (56, [(0, .ref 122), (1, .int x1)], [], h)) rfl ⟨Nat.le_of_ble_eq_true rfl, Nat.le_of_ble_eq_true rfl⟩).trans ?_
    refine z_bdc fun r3 h4 => ?_
    refine (z_X_steps (s' := (111, [(0, .ref 122), (1, .int x1)], [], h4)) 1 rfl).trans ?_
    exact z_X_ret rfl
  refine z_ite ?_ ?_
  · refine (z_X_steps (s' := (83, [(0, .ref 122), (1, .int x1)], [.int 9, .int ((h.1 126 1) - 1), .int 0, .ref 122, .int (3 + (h.1 126 1)), .ref 126], h)) 17 rfl).trans ?_
    refine (z_X_call (id := 140) (a := [.ref 122, .int 0, .int ((h.1 126 1) - 1), .int 9]) (c := 1) (s' := (86, [(0, .ref 122), (1, .int x1)], [.int (3 + (h.1 126 1)), .ref 126], h)) rfl ⟨Nat.le_of_ble_eq_true rfl, Nat.le_of_ble_eq_true rfl⟩).trans ?_
    refine z_bdc fun r5 h6 => ?_
    refine (z_X_if (g := z_in (3 + (h.1 126 1)) 549) (s' := (87, [(0, .ref 122), (1, .int x1)], [], (z_wI h6 126 ((3 + (h.1 126 1)).toNatClampNeg) r5))) rfl).trans (z_bifA ?_)
    refine (z_X_steps (s' := (111, [(0, .ref 122), (1, .int x1)], [], (z_wI (z_wI h6 126 ((3 + (h.1 126 1)).toNatClampNeg) r5) 126 1 (((z_wI h6 126 ((3 + (h.1 126 1)).toNatClampNeg) r5).1 126 1) + 1)))) 9 rfl).trans ?_
    exact z_X_ret rfl
  refine z_ite ?_ ?_
  · refine (z_X_steps (s' := (101, [(0, .ref 122), (1, .int x1)], [.ref 122], h)) 1 rfl).trans ?_
    refine (z_X_call (id := 144) (a := [.ref 122]) (c := 0) (s' := (104, [(0, .ref 122), (1, .int x1)], [], h)) rfl ⟨Nat.le_of_ble_eq_true rfl, Nat.le_of_ble_eq_true rfl⟩).trans ?_
    refine z_bdc fun r7 h8 => ?_
    refine (z_X_steps (s' := (111, [(0, .ref 122), (1, .int x1)], [], h8)) 1 rfl).trans ?_
    exact z_X_ret rfl
  refine (z_X_steps (s' := (108, [(0, .ref 122), (1, .int x1)], [.ref 122], h)) 1 rfl).trans ?_
  refine (z_X_call (id := 145) (a := [.ref 122]) (c := 0) (s' := (111, [(0, .ref 122), (1, .int x1)], [], h)) rfl ⟨Nat.le_of_ble_eq_true rfl, Nat.le_of_ble_eq_true rfl⟩).trans ?_
  refine z_bdc fun r9 h10 => ?_
  exact z_X_ret rfl
noncomputable def zl_M_readLine_17 (x1 : Int32) (s1 : Int32) (h : z_H) : Option z_A := z_X zc_M_readLine 7 (17, [(0, .ref 122), (1, .int x1)], [.int s1, .ref 122], h)
noncomputable def zl_M_readLine_41 (x1 : Int32) (s1 : Int32) (h : z_H) : Option z_A := z_X zc_M_readLine 7 (41, [(0, .ref 122), (1, .int x1)], [.int s1, .ref 122], h)
noncomputable def zl_M_readLine_83 (s1 : Int32) (h : z_H) : Option z_A := z_X zc_M_readLine 7 (83, [(0, .ref 122)], [.int s1, .ref 122], h)
set_option maxRecDepth 8000 in
set_option maxHeartbeats 2000000 in
theorem e_M_readLine (h : z_H) : z_M 148 [.ref 122] h = z_bd (z_M 138 [.ref 122] h) (fun r1 h2 => (if r1 = (-4) then zl_M_readLine_17 r1 0 h2 else zl_M_readLine_17 r1 1 h2)) := by
  refine (z_M_eq (by decide)).trans ?_
  show z_X zc_M_readLine 7 (0, [(0, .ref 122)], [], h) = _
  refine (z_X_steps (s' := (1, [(0, .ref 122)], [.ref 122], h)) 1 rfl).trans ?_
  refine (z_X_call (id := 138) (a := [.ref 122]) (c := 1) (s' := (4, [(0, .ref 122)], [], h)) rfl ⟨Nat.le_of_ble_eq_true rfl, Nat.le_of_ble_eq_true rfl⟩).trans ?_
  refine z_bdc fun r1 h2 => ?_
  refine (z_X_steps (s' := (9, [(1, .int r1), (0, .ref 122)], [.int (-4), .int r1, .ref 122], h2)) 4 rfl).trans ?_
  refine (z_X_br (c := r1 = (-4)) (s1 := (16, [(1, .int r1), (0, .ref 122)], [.ref 122], h2)) (s2 := (12, [(1, .int r1), (0, .ref 122)], [.ref 122], h2)) rfl).trans (z_ite ?_ ?_)
  · refine (z_X_steps (s' := (17, [(1, .int r1), (0, .ref 122)], [.int 0, .ref 122], h2)) 1 rfl).trans ?_
    exact z_X_lab rfl
  · refine (z_X_steps (s' := (17, [(1, .int r1), (0, .ref 122)], [.int 1, .ref 122], h2)) 2 rfl).trans ?_
    exact z_X_lab rfl
set_option maxRecDepth 8000 in
set_option maxHeartbeats 2000000 in
theorem e_M_readLine_17 (x1 : Int32) (s1 : Int32) (h : z_H) : zl_M_readLine_17 x1 s1 h = z_bd (z_M 135 [.ref 122, .int s1, .int 2] h) (fun r1 h2 => (if x1 = (-4) then zl_M_readLine_41 x1 1 h2 else z_bd (z_M 146 [.ref 122, .int x1] h2) (fun r3 h4 => (if r3 = 0 then zl_M_readLine_41 x1 0 h4 else zl_M_readLine_41 x1 1 h4)))) := by
  show z_X zc_M_readLine 7 (17, [(0, .ref 122), (1, .int x1)], [.int s1, .ref 122], h) = _
  refine (z_X_steps (s' := (18, [(0, .ref 122), (1, .int x1)], [.int 2, .int s1, .ref 122], h)) 1 rfl).trans ?_
  refine (z_X_call (id := 135) (a := [.ref 122, .int s1, .int 2]) (c := 0) (s' := (21, [(0, .ref 122), (1, .int x1)], [], h)) rfl ⟨Nat.le_of_ble_eq_true rfl, Nat.le_of_ble_eq_true rfl⟩).trans ?_
  refine z_bdc fun r1 h2 => ?_
  refine (z_X_steps (s' := (25, [(0, .ref 122), (1, .int x1)], [.int (-4), .int x1, .ref 122], h2)) 3 rfl).trans ?_
  refine (z_X_br (c := x1 = (-4)) (s1 := (36, [(0, .ref 122), (1, .int x1)], [.ref 122], h2)) (s2 := (28, [(0, .ref 122), (1, .int x1)], [.ref 122], h2)) rfl).trans (z_ite ?_ ?_)
  · refine (z_X_steps (s' := (41, [(0, .ref 122), (1, .int x1)], [.int 1, .ref 122], h2)) 2 rfl).trans ?_
    exact z_X_lab rfl
  · refine (z_X_steps (s' := (30, [(0, .ref 122), (1, .int x1)], [.int x1, .ref 122, .ref 122], h2)) 2 rfl).trans ?_
    refine (z_X_call (id := 146) (a := [.ref 122, .int x1]) (c := 1) (s' := (33, [(0, .ref 122), (1, .int x1)], [.ref 122], h2)) rfl ⟨Nat.le_of_ble_eq_true rfl, Nat.le_of_ble_eq_true rfl⟩).trans ?_
    refine z_bdc fun r3 h4 => ?_
    refine (z_X_br (c := r3 = 0) (s1 := (40, [(0, .ref 122), (1, .int x1)], [.ref 122], h4)) (s2 := (36, [(0, .ref 122), (1, .int x1)], [.ref 122], h4)) rfl).trans (z_ite ?_ ?_)
    · refine (z_X_steps (s' := (41, [(0, .ref 122), (1, .int x1)], [.int 0, .ref 122], h4)) 1 rfl).trans ?_
      exact z_X_lab rfl
    · refine (z_X_steps (s' := (41, [(0, .ref 122), (1, .int x1)], [.int 1, .ref 122], h4)) 2 rfl).trans ?_
      exact z_X_lab rfl
set_option maxRecDepth 8000 in
set_option maxHeartbeats 2000000 in
theorem e_M_readLine_41 (x1 : Int32) (s1 : Int32) (h : z_H) : zl_M_readLine_41 x1 s1 h = z_bd (z_M 135 [.ref 122, .int s1, .int 5] h) (fun r1 h2 => z_bd (z_M 139 [.ref 122] h2) (fun r3 h4 => (if h4.1 122 12 ≤ 0 then z_bd (z_M 147 [.ref 122, .int x1] h4) (fun r5 h6 => (if ¬ h6.1 122 12 = 0 then z_bd (z_M 139 [.ref 122] h6) (fun r7 h8 => some (0, h8)) else (if ¬ h6.1 122 10 = 3 then zl_M_readLine_83 0 h6 else zl_M_readLine_83 1 h6))) else some (0, h4)))) := by
  show z_X zc_M_readLine 7 (41, [(0, .ref 122), (1, .int x1)], [.int s1, .ref 122], h) = _
  refine (z_X_steps (s' := (42, [(0, .ref 122), (1, .int x1)], [.int 5, .int s1, .ref 122], h)) 1 rfl).trans ?_
  refine (z_X_call (id := 135) (a := [.ref 122, .int s1, .int 5]) (c := 0) (s' := (45, [(0, .ref 122), (1, .int x1)], [], h)) rfl ⟨Nat.le_of_ble_eq_true rfl, Nat.le_of_ble_eq_true rfl⟩).trans ?_
  refine z_bdc fun r1 h2 => ?_
  refine (z_X_steps (s' := (46, [(0, .ref 122), (1, .int x1)], [.ref 122], h2)) 1 rfl).trans ?_
  refine (z_X_call (id := 139) (a := [.ref 122]) (c := 0) (s' := (49, [(0, .ref 122), (1, .int x1)], [], h2)) rfl ⟨Nat.le_of_ble_eq_true rfl, Nat.le_of_ble_eq_true rfl⟩).trans ?_
  refine z_bdc fun r3 h4 => ?_
  refine (z_X_steps (s' := (53, [(0, .ref 122), (1, .int x1)], [.int (h4.1 122 12)], h4)) 2 rfl).trans ?_
  refine (z_X_br (c := h4.1 122 12 ≤ 0) (s1 := (57, [(0, .ref 122), (1, .int x1)], [], h4)) (s2 := (56, [(0, .ref 122), (1, .int x1)], [], h4)) rfl).trans (z_ite ?_ ?_)
  · refine (z_X_steps (s' := (59, [(0, .ref 122), (1, .int x1)], [.int x1, .ref 122], h4)) 2 rfl).trans ?_
    refine (z_X_call (id := 147) (a := [.ref 122, .int x1]) (c := 0) (s' := (62, [(0, .ref 122), (1, .int x1)], [], h4)) rfl ⟨Nat.le_of_ble_eq_true rfl, Nat.le_of_ble_eq_true rfl⟩).trans ?_
    refine z_bdc fun r5 h6 => ?_
    refine (z_X_steps (s' := (66, [(0, .ref 122), (1, .int x1)], [.int (h6.1 122 12)], h6)) 2 rfl).trans ?_
    refine (z_X_br (c := ¬ h6.1 122 12 = 0) (s1 := (87, [(0, .ref 122), (1, .int x1)], [], h6)) (s2 := (69, [(0, .ref 122), (1, .int x1)], [], h6)) rfl).trans (z_ite ?_ ?_)
    · refine (z_X_steps (s' := (88, [(0, .ref 122), (1, .int x1)], [.ref 122], h6)) 1 rfl).trans ?_
      refine (z_X_call (id := 139) (a := [.ref 122]) (c := 0) (s' := (91, [(0, .ref 122), (1, .int x1)], [], h6)) rfl ⟨Nat.le_of_ble_eq_true rfl, Nat.le_of_ble_eq_true rfl⟩).trans ?_
      refine z_bdc fun r7 h8 => ?_
      exact z_X_ret rfl
    · refine (z_X_steps (s' := (75, [(0, .ref 122), (1, .int x1)], [.int 3, .int (h6.1 122 10), .ref 122], h6)) 4 rfl).trans ?_
      refine (z_X_br (c := ¬ h6.1 122 10 = 3) (s1 := (82, [(0, .ref 122), (1, .int x1)], [.ref 122], h6)) (s2 := (78, [(0, .ref 122), (1, .int x1)], [.ref 122], h6)) rfl).trans (z_ite ?_ ?_)
      · refine (z_X_steps (s' := (83, [(0, .ref 122), (1, .int x1)], [.int 0, .ref 122], h6)) 1 rfl).trans ?_
        exact z_X_lab rfl
      · refine (z_X_steps (s' := (83, [(0, .ref 122), (1, .int x1)], [.int 1, .ref 122], h6)) 2 rfl).trans ?_
        exact z_X_lab rfl
  · exact z_X_ret rfl
set_option maxRecDepth 8000 in
set_option maxHeartbeats 2000000 in
theorem e_M_readLine_83 (s1 : Int32) (h : z_H) : zl_M_readLine_83 s1 h = z_bd (z_M 135 [.ref 122, .int s1, .int 2] h) (fun r1 h2 => z_bd (z_M 139 [.ref 122] h2) (fun r3 h4 => some (0, h4))) := by
  show z_X zc_M_readLine 7 (83, [(0, .ref 122)], [.int s1, .ref 122], h) = _
  refine (z_X_steps (s' := (84, [(0, .ref 122)], [.int 2, .int s1, .ref 122], h)) 1 rfl).trans ?_
  refine (z_X_call (id := 135) (a := [.ref 122, .int s1, .int 2]) (c := 0) (s' := (87, [(0, .ref 122)], [], h)) rfl ⟨Nat.le_of_ble_eq_true rfl, Nat.le_of_ble_eq_true rfl⟩).trans ?_
  refine z_bdc fun r1 h2 => ?_
  refine (z_X_steps (s' := (88, [(0, .ref 122)], [.ref 122], h2)) 1 rfl).trans ?_
  refine (z_X_call (id := 139) (a := [.ref 122]) (c := 0) (s' := (91, [(0, .ref 122)], [], h2)) rfl ⟨Nat.le_of_ble_eq_true rfl, Nat.le_of_ble_eq_true rfl⟩).trans ?_
  refine z_bdc fun r3 h4 => ?_
  exact z_X_ret rfl
noncomputable def zl_M_isWhole_34 (x1 : Int32) (x2 : Int32) (h : z_H) : Option z_A := z_X zc_M_isWhole 2 (34, [(0, .ref 122), (1, .int x1), (2, .int x2)], [], h)
noncomputable def zl_M_isWhole_46 (x1 : Int32) (x2 : Int32) (x3 : Int32) (h : z_H) : Option z_A := z_X zc_M_isWhole 2 (46, [(0, .ref 122), (1, .int x1), (2, .int x2), (3, .int x3)], [], h)
noncomputable def zl_M_isWhole_70 (x1 : Int32) (x2 : Int32) (x3 : Int32) (x4 : Int32) (x5 : Int32) (h : z_H) : Option z_A := z_X zc_M_isWhole 2 (70, [(0, .ref 122), (1, .int x1), (2, .int x2), (3, .int x3), (4, .int x4), (5, .int x5)], [], h)
set_option maxRecDepth 8000 in
set_option maxHeartbeats 2000000 in
theorem e_M_isWhole (h : z_H) : z_M 149 [.ref 122] h = (if h.1 126 1 ≤ h.1 122 4 then zl_M_isWhole_34 0 0 h else (if h.1 126 0 ≤ h.1 122 5 then zl_M_isWhole_34 0 0 h else zl_M_isWhole_34 1 0 h)) := by
  refine (z_M_eq (by decide)).trans ?_
  show z_X zc_M_isWhole 2 (0, [(0, .ref 122)], [], h) = _
  refine (z_X_steps (s' := (10, [(0, .ref 122)], [.int (h.1 126 1), .int (h.1 122 4)], h)) 6 rfl).trans ?_
  refine (z_X_br (c := h.1 126 1 ≤ h.1 122 4) (s1 := (30, [(0, .ref 122)], [], h)) (s2 := (13, [(0, .ref 122)], [], h)) rfl).trans (z_ite ?_ ?_)
  · refine (z_X_steps (s' := (34, [(2, .int 0), (1, .int 0), (0, .ref 122)], [], h)) 4 rfl).trans ?_
    exact z_X_lab rfl
  · refine (z_X_steps (s' := (23, [(0, .ref 122)], [.int (h.1 126 0), .int (h.1 122 5)], h)) 6 rfl).trans ?_
    refine (z_X_br (c := h.1 126 0 ≤ h.1 122 5) (s1 := (30, [(0, .ref 122)], [], h)) (s2 := (26, [(0, .ref 122)], [], h)) rfl).trans (z_ite ?_ ?_)
    · refine (z_X_steps (s' := (34, [(2, .int 0), (1, .int 0), (0, .ref 122)], [], h)) 4 rfl).trans ?_
      exact z_X_lab rfl
    · refine (z_X_steps (s' := (34, [(2, .int 0), (1, .int 1), (0, .ref 122)], [], h)) 5 rfl).trans ?_
      exact z_X_lab rfl
set_option maxRecDepth 8000 in
set_option maxHeartbeats 2000000 in
theorem e_M_isWhole_34 (x1 : Int32) (x2 : Int32) (h : z_H) : zl_M_isWhole_34 x1 x2 h = (if h.1 126 0 ≤ x2 then some (x1 &&& 1, h) else zl_M_isWhole_46 x1 x2 0 h) := by
  show z_X zc_M_isWhole 2 (34, [(0, .ref 122), (1, .int x1), (2, .int x2)], [], h) = _
  refine (z_X_steps (s' := (41, [(0, .ref 122), (1, .int x1), (2, .int x2)], [.int (h.1 126 0), .int x2], h)) 5 rfl).trans ?_
  refine (z_X_br (c := h.1 126 0 ≤ x2) (s1 := (153, [(0, .ref 122), (1, .int x1), (2, .int x2)], [], h)) (s2 := (44, [(0, .ref 122), (1, .int x1), (2, .int x2)], [], h)) rfl).trans (z_ite ?_ ?_)
  · refine (z_X_steps (s' := (154, [(0, .ref 122), (1, .int x1), (2, .int x2)], [.int x1], h)) 1 rfl).trans ?_
    exact z_X_ret rfl
  · refine (z_X_steps (s' := (46, [(3, .int 0), (0, .ref 122), (1, .int x1), (2, .int x2)], [], h)) 2 rfl).trans ?_
    exact z_X_lab rfl
set_option maxRecDepth 8000 in
set_option maxHeartbeats 2000000 in
theorem e_M_isWhole_46 (x1 : Int32) (x2 : Int32) (x3 : Int32) (h : z_H) : zl_M_isWhole_46 x1 x2 x3 h = (bif z_in (7 + x2) 549 then (if h.1 126 ((7 + x2).toNatClampNeg) ≤ x3 then zl_M_isWhole_34 x1 (x2 + 1) h else z_bd (z_M 129 [.int 0, .int x2, .int x3] h) (fun r1 h2 => zl_M_isWhole_70 x1 x2 x3 r1 0 h2)) else none) := by
  show z_X zc_M_isWhole 2 (46, [(0, .ref 122), (1, .int x1), (2, .int x2), (3, .int x3)], [], h) = _
  refine (z_X_steps (s' := (55, [(0, .ref 122), (1, .int x1), (2, .int x2), (3, .int x3)], [.int (7 + x2), .ref 126, .int x3], h)) 6 rfl).trans ?_
  refine (z_X_if (g := z_in (7 + x2) 549) (s' := (56, [(0, .ref 122), (1, .int x1), (2, .int x2), (3, .int x3)], [.int (h.1 126 ((7 + x2).toNatClampNeg)), .int x3], h)) rfl).trans (z_bifA ?_)
  refine (z_X_br (c := h.1 126 ((7 + x2).toNatClampNeg) ≤ x3) (s1 := (147, [(0, .ref 122), (1, .int x1), (2, .int x2), (3, .int x3)], [], h)) (s2 := (59, [(0, .ref 122), (1, .int x1), (2, .int x2), (3, .int x3)], [], h)) rfl).trans (z_ite ?_ ?_)
  · refine (z_X_steps (s' := (34, [(2, .int (x2 + 1)), (0, .ref 122), (1, .int x1), (3, .int x3)], [], h)) 2 rfl).trans ?_
    exact z_X_lab rfl
  · refine (z_X_steps (s' := (62, [(0, .ref 122), (1, .int x1), (2, .int x2), (3, .int x3)], [.int x3, .int x2, .int 0], h)) 3 rfl).trans ?_
    refine (z_X_call (id := 129) (a := [.int 0, .int x2, .int x3]) (c := 1) (s' := (65, [(0, .ref 122), (1, .int x1), (2, .int x2), (3, .int x3)], [], h)) rfl ⟨Nat.le_of_ble_eq_true rfl, Nat.le_of_ble_eq_true rfl⟩).trans ?_
    refine z_bdc fun r1 h2 => ?_
    refine (z_X_steps (s' := (70, [(5, .int 0), (4, .int r1), (0, .ref 122), (1, .int x1), (2, .int x2), (3, .int x3)], [], h2)) 3 rfl).trans ?_
    exact z_X_lab rfl
set_option maxRecDepth 8000 in
set_option maxHeartbeats 2000000 in
theorem e_M_isWhole_70 (x1 : Int32) (x2 : Int32) (x3 : Int32) (x4 : Int32) (x5 : Int32) (h : z_H) : zl_M_isWhole_70 x1 x2 x3 x4 x5 h = (bif z_in (x4 + 2) 549 then (if h.1 126 ((x4 + 2).toNatClampNeg) ≤ x5 then zl_M_isWhole_46 x1 x2 (x3 + 1) h else (if x1 = 0 then zl_M_isWhole_70 0 x2 x3 x4 (x5 + 1) h else (bif z_in ((x4 + 3) + x5) 549 then (if h.1 126 (((x4 + 3) + x5).toNatClampNeg) = 9 then zl_M_isWhole_70 1 x2 x3 x4 (x5 + 1) h else (bif z_in ((x4 + 3) + x5) 549 then (bif z_in (7 + x2) 549 then (if h.1 126 ((7 + x2).toNatClampNeg) ≤ h.1 126 (((x4 + 3) + x5).toNatClampNeg) then zl_M_isWhole_70 0 x2 x3 x4 (x5 + 1) h else zl_M_isWhole_70 1 x2 x3 x4 (x5 + 1) h) else none) else none)) else none))) else none) := by
  show z_X zc_M_isWhole 2 (70, [(0, .ref 122), (1, .int x1), (2, .int x2), (3, .int x3), (4, .int x4), (5, .int x5)], [], h) = _
  refine (z_X_steps (s' := (80, [(0, .ref 122), (1, .int x1), (2, .int x2), (3, .int x3), (4, .int x4), (5, .int x5)], [.int (x4 + 2), .ref 126, .int x5], h)) 6 rfl).trans ?_
  refine (z_X_if (g := z_in (x4 + 2) 549) (s' := (81, [(0, .ref 122), (1, .int x1), (2, .int x2), (3, .int x3), (4, .int x4), (5, .int x5)], [.int (h.1 126 ((x4 + 2).toNatClampNeg)), .int x5], h)) rfl).trans (z_bifA ?_)
  refine (z_X_br (c := h.1 126 ((x4 + 2).toNatClampNeg) ≤ x5) (s1 := (141, [(0, .ref 122), (1, .int x1), (2, .int x2), (3, .int x3), (4, .int x4), (5, .int x5)], [], h)) (s2 := (84, [(0, .ref 122), (1, .int x1), (2, .int x2), (3, .int x3), (4, .int x4), (5, .int x5)], [], h)) rfl).trans (z_ite ?_ ?_)
  · refine (z_X_steps (s' := (46, [(3, .int (x3 + 1)), (0, .ref 122), (1, .int x1), (2, .int x2), (4, .int x4), (5, .int x5)], [], h)) 2 rfl).trans ?_
    exact z_X_lab rfl
  · refine (z_X_steps (s' := (85, [(0, .ref 122), (1, .int x1), (2, .int x2), (3, .int x3), (4, .int x4), (5, .int x5)], [.int x1], h)) 1 rfl).trans ?_
    refine (z_X_br (c := x1 = 0) (s1 := (133, [(0, .ref 122), (1, .int x1), (2, .int x2), (3, .int x3), (4, .int x4), (5, .int x5)], [], h)) (s2 := (88, [(0, .ref 122), (1, .int x1), (2, .int x2), (3, .int x3), (4, .int x4), (5, .int x5)], [], h)) rfl).trans (z_ite ?_ ?_)
    · refine (z_X_steps (s' := (70, [(5, .int (x5 + 1)), (1, .int 0), (0, .ref 122), (2, .int x2), (3, .int x3), (4, .int x4)], [], h)) 4 rfl).trans ?_
      exact z_X_lab rfl
    · refine (z_X_steps (s' := (99, [(0, .ref 122), (1, .int x1), (2, .int x2), (3, .int x3), (4, .int x4), (5, .int x5)], [.int ((x4 + 3) + x5), .ref 126], h)) 7 rfl).trans ?_
      refine (z_X_if (g := z_in ((x4 + 3) + x5) 549) (s' := (100, [(0, .ref 122), (1, .int x1), (2, .int x2), (3, .int x3), (4, .int x4), (5, .int x5)], [.int (h.1 126 (((x4 + 3) + x5).toNatClampNeg))], h)) rfl).trans (z_bifA ?_)
      refine (z_X_steps (s' := (102, [(0, .ref 122), (1, .int x1), (2, .int x2), (3, .int x3), (4, .int x4), (5, .int x5)], [.int 9, .int (h.1 126 (((x4 + 3) + x5).toNatClampNeg))], h)) 1 rfl).trans ?_
      refine (z_X_br (c := h.1 126 (((x4 + 3) + x5).toNatClampNeg) = 9) (s1 := (129, [(0, .ref 122), (1, .int x1), (2, .int x2), (3, .int x3), (4, .int x4), (5, .int x5)], [], h)) (s2 := (105, [(0, .ref 122), (1, .int x1), (2, .int x2), (3, .int x3), (4, .int x4), (5, .int x5)], [], h)) rfl).trans (z_ite ?_ ?_)
      · refine (z_X_steps (s' := (70, [(5, .int (x5 + 1)), (1, .int 1), (0, .ref 122), (2, .int x2), (3, .int x3), (4, .int x4)], [], h)) 5 rfl).trans ?_
        exact z_X_lab rfl
      · refine (z_X_steps (s' := (116, [(0, .ref 122), (1, .int x1), (2, .int x2), (3, .int x3), (4, .int x4), (5, .int x5)], [.int ((x4 + 3) + x5), .ref 126], h)) 7 rfl).trans ?_
        refine (z_X_if (g := z_in ((x4 + 3) + x5) 549) (s' := (117, [(0, .ref 122), (1, .int x1), (2, .int x2), (3, .int x3), (4, .int x4), (5, .int x5)], [.int (h.1 126 (((x4 + 3) + x5).toNatClampNeg))], h)) rfl).trans (z_bifA ?_)
        refine (z_X_steps (s' := (125, [(0, .ref 122), (1, .int x1), (2, .int x2), (3, .int x3), (4, .int x4), (5, .int x5)], [.int (7 + x2), .ref 126, .int (h.1 126 (((x4 + 3) + x5).toNatClampNeg))], h)) 5 rfl).trans ?_
        refine (z_X_if (g := z_in (7 + x2) 549) (s' := (126, [(0, .ref 122), (1, .int x1), (2, .int x2), (3, .int x3), (4, .int x4), (5, .int x5)], [.int (h.1 126 ((7 + x2).toNatClampNeg)), .int (h.1 126 (((x4 + 3) + x5).toNatClampNeg))], h)) rfl).trans (z_bifA ?_)
        refine (z_X_br (c := h.1 126 ((7 + x2).toNatClampNeg) ≤ h.1 126 (((x4 + 3) + x5).toNatClampNeg)) (s1 := (133, [(0, .ref 122), (1, .int x1), (2, .int x2), (3, .int x3), (4, .int x4), (5, .int x5)], [], h)) (s2 := (129, [(0, .ref 122), (1, .int x1), (2, .int x2), (3, .int x3), (4, .int x4), (5, .int x5)], [], h)) rfl).trans (z_ite ?_ ?_)
        · refine (z_X_steps (s' := (70, [(5, .int (x5 + 1)), (1, .int 0), (0, .ref 122), (2, .int x2), (3, .int x3), (4, .int x4)], [], h)) 4 rfl).trans ?_
          exact z_X_lab rfl
        · refine (z_X_steps (s' := (70, [(5, .int (x5 + 1)), (1, .int 1), (0, .ref 122), (2, .int x2), (3, .int x3), (4, .int x4)], [], h)) 5 rfl).trans ?_
          exact z_X_lab rfl
noncomputable def zl_M_text_20 (x1 : Int32) (h : z_H) : Option z_A := z_X zc_M_text 8 (20, [(0, .ref 122), (1, .int x1)], [], h)
noncomputable def zl_M_text_44 (x1 : Int32) (h : z_H) : Option z_A := z_X zc_M_text 8 (44, [(0, .ref 122), (1, .int x1)], [], h)
noncomputable def zl_M_text_61 (x1 : Int32) (h : z_H) : Option z_A := z_X zc_M_text 8 (61, [(0, .ref 122), (1, .int x1)], [], h)
noncomputable def zl_M_text_83 (x1 : Int32) (x2 : Int32) (h : z_H) : Option z_A := z_X zc_M_text 8 (83, [(0, .ref 122), (1, .int x1), (2, .int x2)], [], h)
set_option maxRecDepth 8000 in
set_option maxHeartbeats 2000000 in
theorem e_M_text (h : z_H) : z_M 150 [.ref 122] h = z_bd (z_M 131 [.ref 122] (z_wI (z_wI h 122 12 0) 122 8 0)) (fun r1 h2 => z_bd (z_M 139 [.ref 122] h2) (fun r3 h4 => zl_M_text_20 0 h4)) := by
  refine (z_M_eq (by decide)).trans ?_
  show z_X zc_M_text 8 (0, [(0, .ref 122)], [], h) = _
  refine (z_X_steps (s' := (13, [(1, .int 0), (0, .ref 122)], [.ref 122], (z_wI (z_wI h 122 12 0) 122 8 0))) 9 rfl).trans ?_
  refine (z_X_call (id := 131) (a := [.ref 122]) (c := 0) (s' := (16, [(1, .int 0), (0, .ref 122)], [], (z_wI (z_wI h 122 12 0) 122 8 0))) rfl ⟨Nat.le_of_ble_eq_true rfl, Nat.le_of_ble_eq_true rfl⟩).trans ?_
  refine z_bdc fun r1 h2 => ?_
  refine (z_X_steps (s' := (17, [(1, .int 0), (0, .ref 122)], [.ref 122], h2)) 1 rfl).trans ?_
  refine (z_X_call (id := 139) (a := [.ref 122]) (c := 0) (s' := (20, [(1, .int 0), (0, .ref 122)], [], h2)) rfl ⟨Nat.le_of_ble_eq_true rfl, Nat.le_of_ble_eq_true rfl⟩).trans ?_
  refine z_bdc fun r3 h4 => ?_
  exact z_X_lab rfl
set_option maxRecDepth 8000 in
set_option maxHeartbeats 2000000 in
theorem e_M_text_20 (x1 : Int32) (h : z_H) : zl_M_text_20 x1 h = (if ¬ h.1 122 12 = 0 then zl_M_text_44 x1 h else (if h.1 122 10 = 0 then zl_M_text_44 x1 h else z_bd (z_M 148 [.ref 122] h) (fun r1 h2 => zl_M_text_20 (x1 + 1) h2))) := by
  show z_X zc_M_text 8 (20, [(0, .ref 122), (1, .int x1)], [], h) = _
  refine (z_X_steps (s' := (24, [(0, .ref 122), (1, .int x1)], [.int (h.1 122 12)], h)) 2 rfl).trans ?_
  refine (z_X_br (c := ¬ h.1 122 12 = 0) (s1 := (44, [(0, .ref 122), (1, .int x1)], [], h)) (s2 := (27, [(0, .ref 122), (1, .int x1)], [], h)) rfl).trans (z_ite ?_ ?_)
  · exact z_X_lab rfl
  · refine (z_X_steps (s' := (31, [(0, .ref 122), (1, .int x1)], [.int (h.1 122 10)], h)) 2 rfl).trans ?_
    refine (z_X_br (c := h.1 122 10 = 0) (s1 := (44, [(0, .ref 122), (1, .int x1)], [], h)) (s2 := (34, [(0, .ref 122), (1, .int x1)], [], h)) rfl).trans (z_ite ?_ ?_)
    · exact z_X_lab rfl
    · refine (z_X_steps (s' := (35, [(0, .ref 122), (1, .int x1)], [.ref 122], h)) 1 rfl).trans ?_
      refine (z_X_call (id := 148) (a := [.ref 122]) (c := 0) (s' := (38, [(0, .ref 122), (1, .int x1)], [], h)) rfl ⟨Nat.le_of_ble_eq_true rfl, Nat.le_of_ble_eq_true rfl⟩).trans ?_
      refine z_bdc fun r1 h2 => ?_
      refine (z_X_steps (s' := (20, [(1, .int (x1 + 1)), (0, .ref 122)], [], h2)) 2 rfl).trans ?_
      exact z_X_lab rfl
set_option maxRecDepth 8000 in
set_option maxHeartbeats 2000000 in
theorem e_M_text_44 (x1 : Int32) (h : z_H) : zl_M_text_44 x1 h = (if ¬ h.1 122 12 = 0 then zl_M_text_61 x1 h else z_bd (z_M 149 [.ref 122] h) (fun r1 h2 => z_bd (z_M 135 [.ref 122, .int r1, .int 6] h2) (fun r3 h4 => zl_M_text_61 x1 h4))) := by
  show z_X zc_M_text 8 (44, [(0, .ref 122), (1, .int x1)], [], h) = _
  refine (z_X_steps (s' := (48, [(0, .ref 122), (1, .int x1)], [.int (h.1 122 12)], h)) 2 rfl).trans ?_
  refine (z_X_br (c := ¬ h.1 122 12 = 0) (s1 := (61, [(0, .ref 122), (1, .int x1)], [], h)) (s2 := (51, [(0, .ref 122), (1, .int x1)], [], h)) rfl).trans (z_ite ?_ ?_)
  · exact z_X_lab rfl
  · refine (z_X_steps (s' := (53, [(0, .ref 122), (1, .int x1)], [.ref 122, .ref 122], h)) 2 rfl).trans ?_
    refine (z_X_call (id := 149) (a := [.ref 122]) (c := 1) (s' := (56, [(0, .ref 122), (1, .int x1)], [.ref 122], h)) rfl ⟨Nat.le_of_ble_eq_true rfl, Nat.le_of_ble_eq_true rfl⟩).trans ?_
    refine z_bdc fun r1 h2 => ?_
    refine (z_X_steps (s' := (58, [(0, .ref 122), (1, .int x1)], [.int 6, .int r1, .ref 122], h2)) 1 rfl).trans ?_
    refine (z_X_call (id := 135) (a := [.ref 122, .int r1, .int 6]) (c := 0) (s' := (61, [(0, .ref 122), (1, .int x1)], [], h2)) rfl ⟨Nat.le_of_ble_eq_true rfl, Nat.le_of_ble_eq_true rfl⟩).trans ?_
    refine z_bdc fun r3 h4 => ?_
    exact z_X_lab rfl
set_option maxRecDepth 8000 in
set_option maxHeartbeats 2000000 in
theorem e_M_text_61 (x1 : Int32) (h : z_H) : zl_M_text_61 x1 h = (if (z_wI h 122 7 0).1 122 12 ≤ 0 then zl_M_text_83 x1 0 (z_wI h 122 7 0) else some ((-10) - ((z_wI h 122 7 0).1 122 13), (z_wI h 122 7 0))) := by
  show z_X zc_M_text 8 (61, [(0, .ref 122), (1, .int x1)], [], h) = _
  refine (z_X_steps (s' := (70, [(0, .ref 122), (1, .int x1)], [.int ((z_wI h 122 7 0).1 122 12)], (z_wI h 122 7 0))) 5 rfl).trans ?_
  refine (z_X_br (c := (z_wI h 122 7 0).1 122 12 ≤ 0) (s1 := (81, [(0, .ref 122), (1, .int x1)], [], (z_wI h 122 7 0))) (s2 := (73, [(0, .ref 122), (1, .int x1)], [], (z_wI h 122 7 0))) rfl).trans (z_ite ?_ ?_)
  · refine (z_X_steps (s' := (83, [(2, .int 0), (0, .ref 122), (1, .int x1)], [], (z_wI h 122 7 0))) 2 rfl).trans ?_
    exact z_X_lab rfl
  · refine (z_X_steps (s' := (80, [(0, .ref 122), (1, .int x1)], [.int ((-10) - ((z_wI h 122 7 0).1 122 13))], (z_wI h 122 7 0))) 4 rfl).trans ?_
    exact z_X_ret rfl
set_option maxRecDepth 8000 in
set_option maxHeartbeats 2000000 in
theorem e_M_text_83 (x1 : Int32) (x2 : Int32) (h : z_H) : zl_M_text_83 x1 x2 h = (if (256 : Int32) ≤ x2 then z_bd (z_M 132 [.ref 122] h) (fun r1 h2 => some (x1, h2)) else (bif z_in (13 + x2) 549 then (bif z_in (269 + x2) 549 then zl_M_text_83 x1 (x2 + 1) (z_wI h 126 ((269 + x2).toNatClampNeg) (h.1 126 ((13 + x2).toNatClampNeg))) else none) else none)) := by
  show z_X zc_M_text 8 (83, [(0, .ref 122), (1, .int x1), (2, .int x2)], [], h) = _
  refine (z_X_steps (s' := (87, [(0, .ref 122), (1, .int x1), (2, .int x2)], [.int 256, .int x2], h)) 2 rfl).trans ?_
  refine (z_X_br (c := (256 : Int32) ≤ x2) (s1 := (115, [(0, .ref 122), (1, .int x1), (2, .int x2)], [], h)) (s2 := (90, [(0, .ref 122), (1, .int x1), (2, .int x2)], [], h)) rfl).trans (z_ite ?_ ?_)
  · refine (z_X_steps (s' := (116, [(0, .ref 122), (1, .int x1), (2, .int x2)], [.ref 122], h)) 1 rfl).trans ?_
    refine (z_X_call (id := 132) (a := [.ref 122]) (c := 0) (s' := (119, [(0, .ref 122), (1, .int x1), (2, .int x2)], [], h)) rfl ⟨Nat.le_of_ble_eq_true rfl, Nat.le_of_ble_eq_true rfl⟩).trans ?_
    refine z_bdc fun r1 h2 => ?_
    refine (z_X_steps (s' := (120, [(0, .ref 122), (1, .int x1), (2, .int x2)], [.int x1], h2)) 1 rfl).trans ?_
    exact z_X_ret rfl
  · refine (z_X_steps (s' := (107, [(0, .ref 122), (1, .int x1), (2, .int x2)], [.int (13 + x2), .ref 126, .int (269 + x2), .ref 126], h)) 10 rfl).trans ?_
    refine (z_X_if (g := z_in (13 + x2) 549) (s' := (108, [(0, .ref 122), (1, .int x1), (2, .int x2)], [.int (h.1 126 ((13 + x2).toNatClampNeg)), .int (269 + x2), .ref 126], h)) rfl).trans (z_bifA ?_)
    refine (z_X_if (g := z_in (269 + x2) 549) (s' := (109, [(0, .ref 122), (1, .int x1), (2, .int x2)], [], (z_wI h 126 ((269 + x2).toNatClampNeg) (h.1 126 ((13 + x2).toNatClampNeg))))) rfl).trans (z_bifA ?_)
    refine (z_X_steps (s' := (83, [(2, .int (x2 + 1)), (0, .ref 122), (1, .int x1)], [], (z_wI h 126 ((269 + x2).toNatClampNeg) (h.1 126 ((13 + x2).toNatClampNeg))))) 2 rfl).trans ?_
    exact z_X_lab rfl
set_option maxRecDepth 8000 in
set_option maxHeartbeats 2000000 in
theorem e_M_fault (h : z_H) : z_M 151 [.ref 122] h = some (h.1 122 12, h) := by
  refine (z_M_eq (by decide)).trans ?_
  show z_X zc_M_fault 1 (0, [(0, .ref 122)], [], h) = _
  refine (z_X_steps (s' := (4, [(0, .ref 122)], [.int (h.1 122 12)], h)) 2 rfl).trans ?_
  exact z_X_ret rfl
set_option maxRecDepth 8000 in
set_option maxHeartbeats 2000000 in
theorem e_M_isMethod (x1 : Int32) (h : z_H) : z_M 152 [.ref 122, .int x1] h = z_bd (z_M 127 [.long (x1.toInt64), .long ((0 : Int32).toInt64), .long (((h.1 123 0) - 1).toInt64)] h) (fun r1 h2 => some (r1 &&& 1, h2)) := by
  refine (z_M_eq (by decide)).trans ?_
  show z_X zc_M_isMethod 2 (0, [(0, .ref 122), (1, .int x1)], [], h) = _
  refine (z_X_steps (s' := (12, [(0, .ref 122), (1, .int x1)], [.long (((h.1 123 0) - 1).toInt64), .long ((0 : Int32).toInt64), .long (x1.toInt64)], h)) 10 rfl).trans ?_
  refine (z_X_call (id := 127) (a := [.long (x1.toInt64), .long ((0 : Int32).toInt64), .long (((h.1 123 0) - 1).toInt64)]) (c := 1) (s' := (15, [(0, .ref 122), (1, .int x1)], [], h)) rfl ⟨Nat.le_of_ble_eq_true rfl, Nat.le_of_ble_eq_true rfl⟩).trans ?_
  refine z_bdc fun r1 h2 => ?_
  exact z_X_ret rfl
set_option maxRecDepth 8000 in
set_option maxHeartbeats 2000000 in
theorem e_M_isNode (x1 : Int32) (x2 : Int32) (h : z_H) : z_M 153 [.ref 122, .int x1, .int x2] h = z_bd (z_M 152 [.ref 122, .int x1] h) (fun r1 h2 => (if r1 = 0 then some (0, h2) else (bif z_in (7 + x1) 549 then z_bd (z_M 127 [.long (x2.toInt64), .long ((0 : Int32).toInt64), .long (((h2.1 123 ((7 + x1).toNatClampNeg)) - 1).toInt64)] h2) (fun r3 h4 => (if r3 = 0 then some (0, h4) else some (1, h4))) else none))) := by
  refine (z_M_eq (by decide)).trans ?_
  show z_X zc_M_isNode 3 (0, [(0, .ref 122), (1, .int x1), (2, .int x2)], [], h) = _
  refine (z_X_steps (s' := (2, [(0, .ref 122), (1, .int x1), (2, .int x2)], [.int x1, .ref 122], h)) 2 rfl).trans ?_
  refine (z_X_call (id := 152) (a := [.ref 122, .int x1]) (c := 1) (s' := (5, [(0, .ref 122), (1, .int x1), (2, .int x2)], [], h)) rfl ⟨Nat.le_of_ble_eq_true rfl, Nat.le_of_ble_eq_true rfl⟩).trans ?_
  refine z_bdc fun r1 h2 => ?_
  refine (z_X_br (c := r1 = 0) (s1 := (33, [(0, .ref 122), (1, .int x1), (2, .int x2)], [], h2)) (s2 := (8, [(0, .ref 122), (1, .int x1), (2, .int x2)], [], h2)) rfl).trans (z_ite ?_ ?_)
  · refine (z_X_steps (s' := (34, [(0, .ref 122), (1, .int x1), (2, .int x2)], [.int 0], h2)) 1 rfl).trans ?_
    exact z_X_ret rfl
  · refine (z_X_steps (s' := (19, [(0, .ref 122), (1, .int x1), (2, .int x2)], [.int (7 + x1), .ref 123, .long ((0 : Int32).toInt64), .long (x2.toInt64)], h2)) 8 rfl).trans ?_
    refine (z_X_if (g := z_in (7 + x1) 549) (s' := (20, [(0, .ref 122), (1, .int x1), (2, .int x2)], [.int (h2.1 123 ((7 + x1).toNatClampNeg)), .long ((0 : Int32).toInt64), .long (x2.toInt64)], h2)) rfl).trans (z_bifA ?_)
    refine (z_X_steps (s' := (23, [(0, .ref 122), (1, .int x1), (2, .int x2)], [.long (((h2.1 123 ((7 + x1).toNatClampNeg)) - 1).toInt64), .long ((0 : Int32).toInt64), .long (x2.toInt64)], h2)) 3 rfl).trans ?_
    refine (z_X_call (id := 127) (a := [.long (x2.toInt64), .long ((0 : Int32).toInt64), .long (((h2.1 123 ((7 + x1).toNatClampNeg)) - 1).toInt64)]) (c := 1) (s' := (26, [(0, .ref 122), (1, .int x1), (2, .int x2)], [], h2)) rfl ⟨Nat.le_of_ble_eq_true rfl, Nat.le_of_ble_eq_true rfl⟩).trans ?_
    refine z_bdc fun r3 h4 => ?_
    refine (z_X_br (c := r3 = 0) (s1 := (33, [(0, .ref 122), (1, .int x1), (2, .int x2)], [], h4)) (s2 := (29, [(0, .ref 122), (1, .int x1), (2, .int x2)], [], h4)) rfl).trans (z_ite ?_ ?_)
    · refine (z_X_steps (s' := (34, [(0, .ref 122), (1, .int x1), (2, .int x2)], [.int 0], h4)) 1 rfl).trans ?_
      exact z_X_ret rfl
    · refine (z_X_steps (s' := (34, [(0, .ref 122), (1, .int x1), (2, .int x2)], [.int 1], h4)) 2 rfl).trans ?_
      exact z_X_ret rfl
set_option maxRecDepth 8000 in
set_option maxHeartbeats 2000000 in
theorem e_M_isClass (x1 : Int32) (h : z_H) : z_M 154 [.ref 122, .int x1] h = z_bd (z_M 127 [.long (x1.toInt64), .long ((0 : Int32).toInt64), .long (((h.1 123 1) - 1).toInt64)] h) (fun r1 h2 => some (r1 &&& 1, h2)) := by
  refine (z_M_eq (by decide)).trans ?_
  show z_X zc_M_isClass 2 (0, [(0, .ref 122), (1, .int x1)], [], h) = _
  refine (z_X_steps (s' := (12, [(0, .ref 122), (1, .int x1)], [.long (((h.1 123 1) - 1).toInt64), .long ((0 : Int32).toInt64), .long (x1.toInt64)], h)) 10 rfl).trans ?_
  refine (z_X_call (id := 127) (a := [.long (x1.toInt64), .long ((0 : Int32).toInt64), .long (((h.1 123 1) - 1).toInt64)]) (c := 1) (s' := (15, [(0, .ref 122), (1, .int x1)], [], h)) rfl ⟨Nat.le_of_ble_eq_true rfl, Nat.le_of_ble_eq_true rfl⟩).trans ?_
  refine z_bdc fun r1 h2 => ?_
  exact z_X_ret rfl
set_option maxRecDepth 8000 in
set_option maxHeartbeats 2000000 in
theorem e_M_isName (x0 : Int32) (h : z_H) : z_M 155 [.int x0] h = z_bd (z_M 127 [.long (x0.toInt64), .long ((0 : Int32).toInt64), .long ((3 : Int32).toInt64)] h) (fun r1 h2 => some (r1 &&& 1, h2)) := by
  refine (z_M_eq (by decide)).trans ?_
  show z_X zc_M_isName 2 (0, [(0, .int x0)], [], h) = _
  refine (z_X_steps (s' := (6, [(0, .int x0)], [.long ((3 : Int32).toInt64), .long ((0 : Int32).toInt64), .long (x0.toInt64)], h)) 4 rfl).trans ?_
  refine (z_X_call (id := 127) (a := [.long (x0.toInt64), .long ((0 : Int32).toInt64), .long ((3 : Int32).toInt64)]) (c := 1) (s' := (9, [(0, .int x0)], [], h)) rfl ⟨Nat.le_of_ble_eq_true rfl, Nat.le_of_ble_eq_true rfl⟩).trans ?_
  refine z_bdc fun r1 h2 => ?_
  exact z_X_ret rfl
set_option maxRecDepth 8000 in
set_option maxHeartbeats 2000000 in
theorem e_M_isTest (x1 : Int32) (h : z_H) : z_M 156 [.ref 122, .int x1] h = z_bd (z_M 127 [.long (x1.toInt64), .long ((0 : Int32).toInt64), .long (((h.1 123 2) - 1).toInt64)] h) (fun r1 h2 => some (r1 &&& 1, h2)) := by
  refine (z_M_eq (by decide)).trans ?_
  show z_X zc_M_isTest 2 (0, [(0, .ref 122), (1, .int x1)], [], h) = _
  refine (z_X_steps (s' := (12, [(0, .ref 122), (1, .int x1)], [.long (((h.1 123 2) - 1).toInt64), .long ((0 : Int32).toInt64), .long (x1.toInt64)], h)) 10 rfl).trans ?_
  refine (z_X_call (id := 127) (a := [.long (x1.toInt64), .long ((0 : Int32).toInt64), .long (((h.1 123 2) - 1).toInt64)]) (c := 1) (s' := (15, [(0, .ref 122), (1, .int x1)], [], h)) rfl ⟨Nat.le_of_ble_eq_true rfl, Nat.le_of_ble_eq_true rfl⟩).trans ?_
  refine z_bdc fun r1 h2 => ?_
  exact z_X_ret rfl
set_option maxRecDepth 8000 in
set_option maxHeartbeats 2000000 in
theorem e_M_isPart (x0 : Int32) (h : z_H) : z_M 157 [.int x0] h = z_bd (z_M 127 [.long (x0.toInt64), .long ((0 : Int32).toInt64), .long ((1 : Int32).toInt64)] h) (fun r1 h2 => some (r1 &&& 1, h2)) := by
  refine (z_M_eq (by decide)).trans ?_
  show z_X zc_M_isPart 2 (0, [(0, .int x0)], [], h) = _
  refine (z_X_steps (s' := (4, [(0, .int x0)], [.long ((1 : Int32).toInt64), .long ((0 : Int32).toInt64), .long (x0.toInt64)], h)) 4 rfl).trans ?_
  refine (z_X_call (id := 127) (a := [.long (x0.toInt64), .long ((0 : Int32).toInt64), .long ((1 : Int32).toInt64)]) (c := 1) (s' := (7, [(0, .int x0)], [], h)) rfl ⟨Nat.le_of_ble_eq_true rfl, Nat.le_of_ble_eq_true rfl⟩).trans ?_
  refine z_bdc fun r1 h2 => ?_
  exact z_X_ret rfl
set_option maxRecDepth 8000 in
set_option maxHeartbeats 2000000 in
theorem e_M_ofNode (x1 : Int32) (x2 : Int32) (x3 : Int32) (x4 : Int32) (h : z_H) : z_M 158 [.ref 122, .int x1, .int x2, .int x3, .int x4] h = z_bd (z_M 129 [.int x1, .int x2, .int x3] h) (fun r1 h2 => (bif z_in (r1 + x4) 549 then some (h2.1 123 ((r1 + x4).toNatClampNeg), h2) else none)) := by
  refine (z_M_eq (by decide)).trans ?_
  show z_X zc_M_ofNode 2 (0, [(0, .ref 122), (1, .int x1), (2, .int x2), (3, .int x3), (4, .int x4)], [], h) = _
  refine (z_X_steps (s' := (7, [(0, .ref 122), (1, .int x1), (2, .int x2), (3, .int x3), (4, .int x4)], [.int x3, .int x2, .int x1, .ref 123], h)) 5 rfl).trans ?_
  refine (z_X_call (id := 129) (a := [.int x1, .int x2, .int x3]) (c := 1) (s' := (10, [(0, .ref 122), (1, .int x1), (2, .int x2), (3, .int x3), (4, .int x4)], [.ref 123], h)) rfl ⟨Nat.le_of_ble_eq_true rfl, Nat.le_of_ble_eq_true rfl⟩).trans ?_
  refine z_bdc fun r1 h2 => ?_
  refine (z_X_steps (s' := (13, [(0, .ref 122), (1, .int x1), (2, .int x2), (3, .int x3), (4, .int x4)], [.int (r1 + x4), .ref 123], h2)) 2 rfl).trans ?_
  refine (z_X_if (g := z_in (r1 + x4) 549) (s' := (14, [(0, .ref 122), (1, .int x1), (2, .int x2), (3, .int x3), (4, .int x4)], [.int (h2.1 123 ((r1 + x4).toNatClampNeg))], h2)) rfl).trans (z_bifA ?_)
  exact z_X_ret rfl
noncomputable def zl_M_meantBy_3 (x1 : Int32) (x3 : Int32) (x4 : Int32) (h : z_H) : Option z_A := z_X zc_M_meantBy 2 (3, [(0, .ref 122), (1, .int x1), (3, .int x3), (4, .int x4)], [], h)
noncomputable def zl_M_meantBy_41 (x1 : Int32) (x3 : Int32) (x4 : Int32) (h : z_H) : Option z_A := z_X zc_M_meantBy 2 (41, [(0, .ref 122), (1, .int x1), (3, .int x3), (4, .int x4)], [], h)
set_option maxRecDepth 8000 in
set_option maxHeartbeats 2000000 in
theorem e_M_meantBy (x1 : Int32) (x2 : Int32) (x3 : Int32) (h : z_H) : z_M 159 [.ref 122, .int x1, .int x2, .int x3] h = zl_M_meantBy_3 x1 x3 x2 h := by
  refine (z_M_eq (by decide)).trans ?_
  show z_X zc_M_meantBy 2 (0, [(0, .ref 122), (1, .int x1), (2, .int x2), (3, .int x3)], [], h) = _
  refine (z_X_steps (s' := (3, [(4, .int x2), (0, .ref 122), (1, .int x1), (2, .int x2), (3, .int x3)], [], h)) 2 rfl).trans ?_
  exact z_X_lab rfl
set_option maxRecDepth 8000 in
set_option maxHeartbeats 2000000 in
theorem e_M_meantBy_3 (x1 : Int32) (x3 : Int32) (x4 : Int32) (h : z_H) : zl_M_meantBy_3 x1 x3 x4 h = (if x4 = 9 then zl_M_meantBy_41 x1 x3 x4 h else z_bd (z_M 130 [.int x1, .int x4, .int x3] h) (fun r1 h2 => (bif z_in r1 549 then (if ¬ h2.1 123 (r1.toNatClampNeg) = (-4) then zl_M_meantBy_41 x1 x3 x4 h2 else (bif z_in (3 + x4) 549 then zl_M_meantBy_3 x1 x3 (h2.1 123 ((3 + x4).toNatClampNeg)) h2 else none)) else none))) := by
  show z_X zc_M_meantBy 2 (3, [(0, .ref 122), (1, .int x1), (3, .int x3), (4, .int x4)], [], h) = _
  refine (z_X_steps (s' := (7, [(0, .ref 122), (1, .int x1), (3, .int x3), (4, .int x4)], [.int 9, .int x4], h)) 2 rfl).trans ?_
  refine (z_X_br (c := x4 = 9) (s1 := (41, [(0, .ref 122), (1, .int x1), (3, .int x3), (4, .int x4)], [], h)) (s2 := (10, [(0, .ref 122), (1, .int x1), (3, .int x3), (4, .int x4)], [], h)) rfl).trans (z_ite ?_ ?_)
  · exact z_X_lab rfl
  · refine (z_X_steps (s' := (18, [(0, .ref 122), (1, .int x1), (3, .int x3), (4, .int x4)], [.int x3, .int x4, .int x1, .ref 123], h)) 5 rfl).trans ?_
    refine (z_X_call (id := 130) (a := [.int x1, .int x4, .int x3]) (c := 1) (s' := (21, [(0, .ref 122), (1, .int x1), (3, .int x3), (4, .int x4)], [.ref 123], h)) rfl ⟨Nat.le_of_ble_eq_true rfl, Nat.le_of_ble_eq_true rfl⟩).trans ?_
    refine z_bdc fun r1 h2 => ?_
    refine (z_X_if (g := z_in r1 549) (s' := (22, [(0, .ref 122), (1, .int x1), (3, .int x3), (4, .int x4)], [.int (h2.1 123 (r1.toNatClampNeg))], h2)) rfl).trans (z_bifA ?_)
    refine (z_X_steps (s' := (24, [(0, .ref 122), (1, .int x1), (3, .int x3), (4, .int x4)], [.int (-4), .int (h2.1 123 (r1.toNatClampNeg))], h2)) 1 rfl).trans ?_
    refine (z_X_br (c := ¬ h2.1 123 (r1.toNatClampNeg) = (-4)) (s1 := (41, [(0, .ref 122), (1, .int x1), (3, .int x3), (4, .int x4)], [], h2)) (s2 := (27, [(0, .ref 122), (1, .int x1), (3, .int x3), (4, .int x4)], [], h2)) rfl).trans (z_ite ?_ ?_)
    · exact z_X_lab rfl
    · refine (z_X_steps (s' := (35, [(0, .ref 122), (1, .int x1), (3, .int x3), (4, .int x4)], [.int (3 + x4), .ref 123], h2)) 5 rfl).trans ?_
      refine (z_X_if (g := z_in (3 + x4) 549) (s' := (36, [(0, .ref 122), (1, .int x1), (3, .int x3), (4, .int x4)], [.int (h2.1 123 ((3 + x4).toNatClampNeg))], h2)) rfl).trans (z_bifA ?_)
      refine (z_X_steps (s' := (3, [(4, .int (h2.1 123 ((3 + x4).toNatClampNeg))), (0, .ref 122), (1, .int x1), (3, .int x3)], [], h2)) 2 rfl).trans ?_
      exact z_X_lab rfl
set_option maxRecDepth 8000 in
set_option maxHeartbeats 2000000 in
theorem e_M_meantBy_41 (x1 : Int32) (x3 : Int32) (x4 : Int32) (h : z_H) : zl_M_meantBy_41 x1 x3 x4 h = (if ¬ x4 = 9 then z_bd (z_M 130 [.int x1, .int x4, .int x3] h) (fun r1 h2 => (bif z_in r1 549 then some (h2.1 123 (r1.toNatClampNeg), h2) else none)) else some ((-4), h)) := by
  show z_X zc_M_meantBy 2 (41, [(0, .ref 122), (1, .int x1), (3, .int x3), (4, .int x4)], [], h) = _
  refine (z_X_steps (s' := (45, [(0, .ref 122), (1, .int x1), (3, .int x3), (4, .int x4)], [.int 9, .int x4], h)) 2 rfl).trans ?_
  refine (z_X_br (c := ¬ x4 = 9) (s1 := (53, [(0, .ref 122), (1, .int x1), (3, .int x3), (4, .int x4)], [], h)) (s2 := (48, [(0, .ref 122), (1, .int x1), (3, .int x3), (4, .int x4)], [], h)) rfl).trans (z_ite ?_ ?_)
  · refine (z_X_steps (s' := (61, [(0, .ref 122), (1, .int x1), (3, .int x3), (4, .int x4)], [.int x3, .int x4, .int x1, .ref 123], h)) 5 rfl).trans ?_
    refine (z_X_call (id := 130) (a := [.int x1, .int x4, .int x3]) (c := 1) (s' := (64, [(0, .ref 122), (1, .int x1), (3, .int x3), (4, .int x4)], [.ref 123], h)) rfl ⟨Nat.le_of_ble_eq_true rfl, Nat.le_of_ble_eq_true rfl⟩).trans ?_
    refine z_bdc fun r1 h2 => ?_
    refine (z_X_if (g := z_in r1 549) (s' := (65, [(0, .ref 122), (1, .int x1), (3, .int x3), (4, .int x4)], [.int (h2.1 123 (r1.toNatClampNeg))], h2)) rfl).trans (z_bifA ?_)
    exact z_X_ret rfl
  · refine (z_X_steps (s' := (65, [(0, .ref 122), (1, .int x1), (3, .int x3), (4, .int x4)], [.int (-4)], h)) 2 rfl).trans ?_
    exact z_X_ret rfl
set_option maxRecDepth 8000 in
set_option maxHeartbeats 2000000 in
theorem e_M_says (x1 : Int32) (h : z_H) : z_M 160 [.ref 122, .int x1] h = some (0, (z_wI h 122 19 ((31 * (h.1 122 19)) + x1))) := by
  refine (z_M_eq (by decide)).trans ?_
  show z_X zc_M_says 1 (0, [(0, .ref 122), (1, .int x1)], [], h) = _
  refine (z_X_steps (s' := (13, [(0, .ref 122), (1, .int x1)], [], (z_wI h 122 19 ((31 * (h.1 122 19)) + x1)))) 8 rfl).trans ?_
  exact z_X_ret rfl
set_option maxRecDepth 8000 in
set_option maxHeartbeats 2000000 in
theorem e_M_goesTo (x1 : Int32) (x2 : Int32) (h : z_H) : z_M 161 [.ref 122, .int x1, .int x2] h = (if ¬ h.1 122 18 = 60 then (bif z_in ((h.1 122 17) - 1) 5 then (bif z_in (((z_wI h 122 18 ((h.1 122 18) + 1)).1 122 17) - 1) 5 then z_bd (z_M 158 [.ref 122, .int x1, .int (h.1 128 (((h.1 122 17) - 1).toNatClampNeg)), .int x2, .int 1] (z_wI (z_wI h 122 18 ((h.1 122 18) + 1)) 129 ((((z_wI h 122 18 ((h.1 122 18) + 1)).1 122 17) - 1).toNatClampNeg) x2)) (fun r1 h2 => z_bd (z_M 158 [.ref 122, .int x1, .int (h.1 128 (((h.1 122 17) - 1).toNatClampNeg)), .int x2, .int 0] h2) (fun r3 h4 => (if ¬ r3 = 0 then z_bd (z_M 160 [.ref 122, .int (r1 + 11)] h4) (fun r5 h6 => some (0, h6)) else z_bd (z_M 160 [.ref 122, .int (r1 + 1)] h4) (fun r7 h8 => some (0, h8))))) else none) else none) else some (0, (z_wI h 122 21 1))) := by
  refine (z_M_eq (by decide)).trans ?_
  show z_X zc_M_goesTo 3 (0, [(0, .ref 122), (1, .int x1), (2, .int x2)], [], h) = _
  refine (z_X_steps (s' := (6, [(0, .ref 122), (1, .int x1), (2, .int x2)], [.int 60, .int (h.1 122 18)], h)) 3 rfl).trans ?_
  refine (z_X_br (c := ¬ h.1 122 18 = 60) (s1 := (15, [(0, .ref 122), (1, .int x1), (2, .int x2)], [], h)) (s2 := (9, [(0, .ref 122), (1, .int x1), (2, .int x2)], [], h)) rfl).trans (z_ite ?_ ?_)
  · refine (z_X_steps (s' := (25, [(0, .ref 122), (1, .int x1), (2, .int x2)], [.int ((h.1 122 17) - 1), .ref 128], h)) 6 rfl).trans ?_
    refine (z_X_if (g := z_in ((h.1 122 17) - 1) 5) (s' := (26, [(0, .ref 122), (1, .int x1), (2, .int x2)], [.int (h.1 128 (((h.1 122 17) - 1).toNatClampNeg))], h)) rfl).trans (z_bifA ?_)
    refine (z_X_steps (s' := (48, [(3, .int (h.1 128 (((h.1 122 17) - 1).toNatClampNeg))), (0, .ref 122), (1, .int x1), (2, .int x2)], [.int x2, .int (((z_wI h 122 18 ((h.1 122 18) + 1)).1 122 17) - 1), .ref 129], (z_wI h 122 18 ((h.1 122 18) + 1)))) 14 rfl).trans ?_
    refine (z_X_if (g := z_in (((z_wI h 122 18 ((h.1 122 18) + 1)).1 122 17) - 1) 5) (s' := (49, [(3, .int (h.1 128 (((h.1 122 17) - 1).toNatClampNeg))), (0, .ref 122), (1, .int x1), (2, .int x2)], [], (z_wI (z_wI h 122 18 ((h.1 122 18) + 1)) 129 ((((z_wI h 122 18 ((h.1 122 18) + 1)).1 122 17) - 1).toNatClampNeg) x2))) rfl).trans (z_bifA ?_)
    refine (z_X_steps (s' := (55, [(3, .int (h.1 128 (((h.1 122 17) - 1).toNatClampNeg))), (0, .ref 122), (1, .int x1), (2, .int x2)], [.int 1, .int x2, .int (h.1 128 (((h.1 122 17) - 1).toNatClampNeg)), .int x1, .ref 122, .ref 122], (z_wI (z_wI h 122 18 ((h.1 122 18) + 1)) 129 ((((z_wI h 122 18 ((h.1 122 18) + 1)).1 122 17) - 1).toNatClampNeg) x2))) 6 rfl).trans ?_
    refine (z_X_call (id := 158) (a := [.ref 122, .int x1, .int (h.1 128 (((h.1 122 17) - 1).toNatClampNeg)), .int x2, .int 1]) (c := 1) (s' := (58, [(3, .int (h.1 128 (((h.1 122 17) - 1).toNatClampNeg))), (0, .ref 122), (1, .int x1), (2, .int x2)], [.ref 122], (z_wI (z_wI h 122 18 ((h.1 122 18) + 1)) 129 ((((z_wI h 122 18 ((h.1 122 18) + 1)).1 122 17) - 1).toNatClampNeg) x2))) rfl ⟨Nat.le_of_ble_eq_true rfl, Nat.le_of_ble_eq_true rfl⟩).trans ?_
    refine z_bdc fun r1 h2 => ?_
    refine (z_X_steps (s' := (63, [(3, .int (h.1 128 (((h.1 122 17) - 1).toNatClampNeg))), (0, .ref 122), (1, .int x1), (2, .int x2)], [.int 0, .int x2, .int (h.1 128 (((h.1 122 17) - 1).toNatClampNeg)), .int x1, .ref 122, .int r1, .ref 122], h2)) 5 rfl).trans ?_
    refine (z_X_call (id := 158) (a := [.ref 122, .int x1, .int (h.1 128 (((h.1 122 17) - 1).toNatClampNeg)), .int x2, .int 0]) (c := 1) (s' := (66, [(3, .int (h.1 128 (((h.1 122 17) - 1).toNatClampNeg))), (0, .ref 122), (1, .int x1), (2, .int x2)], [.int r1, .ref 122], h2)) rfl ⟨Nat.le_of_ble_eq_true rfl, Nat.le_of_ble_eq_true rfl⟩).trans ?_
    refine z_bdc fun r3 h4 => ?_
    refine (z_X_br (c := ¬ r3 = 0) (s1 := (73, [(3, .int (h.1 128 (((h.1 122 17) - 1).toNatClampNeg))), (0, .ref 122), (1, .int x1), (2, .int x2)], [.int r1, .ref 122], h4)) (s2 := (69, [(3, .int (h.1 128 (((h.1 122 17) - 1).toNatClampNeg))), (0, .ref 122), (1, .int x1), (2, .int x2)], [.int r1, .ref 122], h4)) rfl).trans (z_ite ?_ ?_)
    · refine (z_X_steps (s' := (76, [(3, .int (h.1 128 (((h.1 122 17) - 1).toNatClampNeg))), (0, .ref 122), (1, .int x1), (2, .int x2)], [.int (r1 + 11), .ref 122], h4)) 2 rfl).trans ?_
      refine (z_X_call (id := 160) (a := [.ref 122, .int (r1 + 11)]) (c := 0) (s' := (79, [(3, .int (h.1 128 (((h.1 122 17) - 1).toNatClampNeg))), (0, .ref 122), (1, .int x1), (2, .int x2)], [], h4)) rfl ⟨Nat.le_of_ble_eq_true rfl, Nat.le_of_ble_eq_true rfl⟩).trans ?_
      refine z_bdc fun r5 h6 => ?_
      exact z_X_ret rfl
    · refine (z_X_steps (s' := (76, [(3, .int (h.1 128 (((h.1 122 17) - 1).toNatClampNeg))), (0, .ref 122), (1, .int x1), (2, .int x2)], [.int (r1 + 1), .ref 122], h4)) 3 rfl).trans ?_
      refine (z_X_call (id := 160) (a := [.ref 122, .int (r1 + 1)]) (c := 0) (s' := (79, [(3, .int (h.1 128 (((h.1 122 17) - 1).toNatClampNeg))), (0, .ref 122), (1, .int x1), (2, .int x2)], [], h4)) rfl ⟨Nat.le_of_ble_eq_true rfl, Nat.le_of_ble_eq_true rfl⟩).trans ?_
      refine z_bdc fun r7 h8 => ?_
      exact z_X_ret rfl
  · refine (z_X_steps (s' := (14, [(0, .ref 122), (1, .int x1), (2, .int x2)], [], (z_wI h 122 21 1))) 3 rfl).trans ?_
    exact z_X_ret rfl
set_option maxRecDepth 8000 in
set_option maxHeartbeats 2000000 in
theorem e_M_comesBack (h : z_H) : z_M 162 [.ref 122] h = (if ¬ (z_wI h 122 17 ((h.1 122 17) - 1)).1 122 17 = 0 then some (0, (z_wI (z_wI h 122 17 ((h.1 122 17) - 1)) 122 21 0)) else some (0, (z_wI (z_wI h 122 17 ((h.1 122 17) - 1)) 122 21 1))) := by
  refine (z_M_eq (by decide)).trans ?_
  show z_X zc_M_comesBack 1 (0, [(0, .ref 122)], [], h) = _
  refine (z_X_steps (s' := (15, [(0, .ref 122)], [.int ((z_wI h 122 17 ((h.1 122 17) - 1)).1 122 17), .ref 122], (z_wI h 122 17 ((h.1 122 17) - 1)))) 9 rfl).trans ?_
  refine (z_X_br (c := ¬ (z_wI h 122 17 ((h.1 122 17) - 1)).1 122 17 = 0) (s1 := (22, [(0, .ref 122)], [.ref 122], (z_wI h 122 17 ((h.1 122 17) - 1)))) (s2 := (18, [(0, .ref 122)], [.ref 122], (z_wI h 122 17 ((h.1 122 17) - 1)))) rfl).trans (z_ite ?_ ?_)
  · refine (z_X_steps (s' := (26, [(0, .ref 122)], [], (z_wI (z_wI h 122 17 ((h.1 122 17) - 1)) 122 21 0))) 2 rfl).trans ?_
    exact z_X_ret rfl
  · refine (z_X_steps (s' := (26, [(0, .ref 122)], [], (z_wI (z_wI h 122 17 ((h.1 122 17) - 1)) 122 21 1))) 3 rfl).trans ?_
    exact z_X_ret rfl
set_option maxRecDepth 8000 in
set_option maxHeartbeats 2000000 in
theorem e_M_enters (x1 : Int32) (x2 : Int32) (h : z_H) : z_M 163 [.ref 122, .int x1, .int x2] h = (bif z_in (100 + x2) 216 then z_bd (z_M 160 [.ref 122, .int (x2 + 101)] (z_wI h 130 ((100 + x2).toNatClampNeg) 1)) (fun r1 h2 => (bif z_in (h2.1 122 17) 5 then (bif z_in (7 + x2) 549 then (if ¬ (z_wI (z_wI h2 128 ((h2.1 122 17).toNatClampNeg) x2) 122 17 (((z_wI h2 128 ((h2.1 122 17).toNatClampNeg) x2).1 122 17) + 1)).1 123 ((7 + x2).toNatClampNeg) = 0 then z_bd (z_M 161 [.ref 122, .int x1, .int 0] (z_wI (z_wI h2 128 ((h2.1 122 17).toNatClampNeg) x2) 122 17 (((z_wI h2 128 ((h2.1 122 17).toNatClampNeg) x2).1 122 17) + 1))) (fun r3 h4 => some (1, h4)) else z_bd (z_M 162 [.ref 122] (z_wI (z_wI h2 128 ((h2.1 122 17).toNatClampNeg) x2) 122 17 (((z_wI h2 128 ((h2.1 122 17).toNatClampNeg) x2).1 122 17) + 1))) (fun r5 h6 => some (0, h6))) else none) else none)) else none) := by
  refine (z_M_eq (by decide)).trans ?_
  show z_X zc_M_enters 4 (0, [(0, .ref 122), (1, .int x1), (2, .int x2)], [], h) = _
  refine (z_X_steps (s' := (9, [(0, .ref 122), (1, .int x1), (2, .int x2)], [.int 1, .int (100 + x2), .ref 130], h)) 6 rfl).trans ?_
  refine (z_X_if (g := z_in (100 + x2) 216) (s' := (10, [(0, .ref 122), (1, .int x1), (2, .int x2)], [], (z_wI h 130 ((100 + x2).toNatClampNeg) 1))) rfl).trans (z_bifA ?_)
  refine (z_X_steps (s' := (15, [(0, .ref 122), (1, .int x1), (2, .int x2)], [.int (x2 + 101), .ref 122], (z_wI h 130 ((100 + x2).toNatClampNeg) 1))) 4 rfl).trans ?_
  refine (z_X_call (id := 160) (a := [.ref 122, .int (x2 + 101)]) (c := 0) (s' := (18, [(0, .ref 122), (1, .int x1), (2, .int x2)], [], (z_wI h 130 ((100 + x2).toNatClampNeg) 1))) rfl ⟨Nat.le_of_ble_eq_true rfl, Nat.le_of_ble_eq_true rfl⟩).trans ?_
  refine z_bdc fun r1 h2 => ?_
  refine (z_X_steps (s' := (27, [(0, .ref 122), (1, .int x1), (2, .int x2)], [.int x2, .int (h2.1 122 17), .ref 128], h2)) 5 rfl).trans ?_
  refine (z_X_if (g := z_in (h2.1 122 17) 5) (s' := (28, [(0, .ref 122), (1, .int x1), (2, .int x2)], [], (z_wI h2 128 ((h2.1 122 17).toNatClampNeg) x2))) rfl).trans (z_bifA ?_)
  refine (z_X_steps (s' := (46, [(0, .ref 122), (1, .int x1), (2, .int x2)], [.int (7 + x2), .ref 123], (z_wI (z_wI h2 128 ((h2.1 122 17).toNatClampNeg) x2) 122 17 (((z_wI h2 128 ((h2.1 122 17).toNatClampNeg) x2).1 122 17) + 1)))) 11 rfl).trans ?_
  refine (z_X_if (g := z_in (7 + x2) 549) (s' := (47, [(0, .ref 122), (1, .int x1), (2, .int x2)], [.int ((z_wI (z_wI h2 128 ((h2.1 122 17).toNatClampNeg) x2) 122 17 (((z_wI h2 128 ((h2.1 122 17).toNatClampNeg) x2).1 122 17) + 1)).1 123 ((7 + x2).toNatClampNeg))], (z_wI (z_wI h2 128 ((h2.1 122 17).toNatClampNeg) x2) 122 17 (((z_wI h2 128 ((h2.1 122 17).toNatClampNeg) x2).1 122 17) + 1)))) rfl).trans (z_bifA ?_)
  refine (z_X_br (c := ¬ (z_wI (z_wI h2 128 ((h2.1 122 17).toNatClampNeg) x2) 122 17 (((z_wI h2 128 ((h2.1 122 17).toNatClampNeg) x2).1 122 17) + 1)).1 123 ((7 + x2).toNatClampNeg) = 0) (s1 := (56, [(0, .ref 122), (1, .int x1), (2, .int x2)], [], (z_wI (z_wI h2 128 ((h2.1 122 17).toNatClampNeg) x2) 122 17 (((z_wI h2 128 ((h2.1 122 17).toNatClampNeg) x2).1 122 17) + 1)))) (s2 := (50, [(0, .ref 122), (1, .int x1), (2, .int x2)], [], (z_wI (z_wI h2 128 ((h2.1 122 17).toNatClampNeg) x2) 122 17 (((z_wI h2 128 ((h2.1 122 17).toNatClampNeg) x2).1 122 17) + 1)))) rfl).trans (z_ite ?_ ?_)
  · refine (z_X_steps (s' := (59, [(0, .ref 122), (1, .int x1), (2, .int x2)], [.int 0, .int x1, .ref 122], (z_wI (z_wI h2 128 ((h2.1 122 17).toNatClampNeg) x2) 122 17 (((z_wI h2 128 ((h2.1 122 17).toNatClampNeg) x2).1 122 17) + 1)))) 3 rfl).trans ?_
    refine (z_X_call (id := 161) (a := [.ref 122, .int x1, .int 0]) (c := 0) (s' := (62, [(0, .ref 122), (1, .int x1), (2, .int x2)], [], (z_wI (z_wI h2 128 ((h2.1 122 17).toNatClampNeg) x2) 122 17 (((z_wI h2 128 ((h2.1 122 17).toNatClampNeg) x2).1 122 17) + 1)))) rfl ⟨Nat.le_of_ble_eq_true rfl, Nat.le_of_ble_eq_true rfl⟩).trans ?_
    refine z_bdc fun r3 h4 => ?_
    refine (z_X_steps (s' := (63, [(0, .ref 122), (1, .int x1), (2, .int x2)], [.int 1], h4)) 1 rfl).trans ?_
    exact z_X_ret rfl
  · refine (z_X_steps (s' := (51, [(0, .ref 122), (1, .int x1), (2, .int x2)], [.ref 122], (z_wI (z_wI h2 128 ((h2.1 122 17).toNatClampNeg) x2) 122 17 (((z_wI h2 128 ((h2.1 122 17).toNatClampNeg) x2).1 122 17) + 1)))) 1 rfl).trans ?_
    refine (z_X_call (id := 162) (a := [.ref 122]) (c := 0) (s' := (54, [(0, .ref 122), (1, .int x1), (2, .int x2)], [], (z_wI (z_wI h2 128 ((h2.1 122 17).toNatClampNeg) x2) 122 17 (((z_wI h2 128 ((h2.1 122 17).toNatClampNeg) x2).1 122 17) + 1)))) rfl ⟨Nat.le_of_ble_eq_true rfl, Nat.le_of_ble_eq_true rfl⟩).trans ?_
    refine z_bdc fun r5 h6 => ?_
    refine (z_X_steps (s' := (55, [(0, .ref 122), (1, .int x1), (2, .int x2)], [.int 0], h6)) 1 rfl).trans ?_
    exact z_X_ret rfl
noncomputable def zl_M_goesOn_2 (x1 : Int32) (x2 : Int32) (x3 : Int32) (h : z_H) : Option z_A := z_X zc_M_goesOn 4 (2, [(0, .ref 122), (1, .int x1), (2, .int x2), (3, .int x3)], [], h)
noncomputable def zl_M_goesOn_140 (x1 : Int32) (x2 : Int32) (x7 : Int32) (h : z_H) : Option z_A := z_X zc_M_goesOn 4 (140, [(0, .ref 122), (1, .int x1), (2, .int x2), (7, .int x7)], [], h)
noncomputable def zl_M_goesOn_81 (x1 : Int32) (x2 : Int32) (x4 : Int32) (x5 : Int32) (x6 : Int32) (s0 : Int32) (h : z_H) : Option z_A := z_X zc_M_goesOn 4 (81, [(0, .ref 122), (1, .int x1), (2, .int x2), (4, .int x4), (5, .int x5), (6, .int x6)], [.int s0], h)
noncomputable def zl_M_goesOn_152 (x1 : Int32) (x2 : Int32) (x7 : Int32) (s0 : Int32) (h : z_H) : Option z_A := z_X zc_M_goesOn 4 (152, [(0, .ref 122), (1, .int x1), (2, .int x2), (7, .int x7)], [.int s0], h)
noncomputable def zl_M_goesOn_99 (x1 : Int32) (x2 : Int32) (x4 : Int32) (x5 : Int32) (x8 : Int32) (s1 : Int32) (s2 : Int32) (h : z_H) : Option z_A := z_X zc_M_goesOn 4 (99, [(0, .ref 122), (1, .int x1), (2, .int x2), (4, .int x4), (5, .int x5), (8, .int x8)], [.int s2, .int s1, .ref 122], h)
set_option maxRecDepth 8000 in
set_option maxHeartbeats 2000000 in
theorem e_M_goesOn (x1 : Int32) (x2 : Int32) (h : z_H) : z_M 164 [.ref 122, .int x1, .int x2] h = zl_M_goesOn_2 x1 x2 1 h := by
  refine (z_M_eq (by decide)).trans ?_
  show z_X zc_M_goesOn 4 (0, [(0, .ref 122), (1, .int x1), (2, .int x2)], [], h) = _
  refine (z_X_steps (s' := (2, [(3, .int 1), (0, .ref 122), (1, .int x1), (2, .int x2)], [], h)) 2 rfl).trans ?_
  exact z_X_lab rfl
set_option maxRecDepth 8000 in
set_option maxHeartbeats 2000000 in
theorem e_M_goesOn_2 (x1 : Int32) (x2 : Int32) (x3 : Int32) (h : z_H) : zl_M_goesOn_2 x1 x2 x3 h = (if x3 = 0 then some (0, h) else (if ¬ h.1 122 21 = 0 then some (0, h) else (bif z_in ((h.1 122 17) - 1) 5 then (bif z_in ((h.1 122 17) - 1) 5 then z_bd (z_M 158 [.ref 122, .int x1, .int (h.1 128 (((h.1 122 17) - 1).toNatClampNeg)), .int (h.1 129 (((h.1 122 17) - 1).toNatClampNeg)), .int 2] h) (fun r1 h2 => (if r1 ≤ 0 then zl_M_goesOn_140 x1 x2 9 h2 else (if ¬ r1 = 1 then zl_M_goesOn_81 x1 x2 (h.1 128 (((h.1 122 17) - 1).toNatClampNeg)) (h.1 129 (((h.1 122 17) - 1).toNatClampNeg)) r1 ((x2 >>> (((h2.1 122 20) - (h2.1 122 20) / 8 * 8) &&& 31)) &&& 1) h2 else zl_M_goesOn_81 x1 x2 (h.1 128 (((h.1 122 17) - 1).toNatClampNeg)) (h.1 129 (((h.1 122 17) - 1).toNatClampNeg)) r1 0 h2))) else none) else none))) := by
  show z_X zc_M_goesOn 4 (2, [(0, .ref 122), (1, .int x1), (2, .int x2), (3, .int x3)], [], h) = _
  refine (z_X_steps (s' := (3, [(0, .ref 122), (1, .int x1), (2, .int x2), (3, .int x3)], [.int x3], h)) 1 rfl).trans ?_
  refine (z_X_br (c := x3 = 0) (s1 := (174, [(0, .ref 122), (1, .int x1), (2, .int x2), (3, .int x3)], [], h)) (s2 := (6, [(0, .ref 122), (1, .int x1), (2, .int x2), (3, .int x3)], [], h)) rfl).trans (z_ite ?_ ?_)
  · exact z_X_ret rfl
  · refine (z_X_steps (s' := (10, [(0, .ref 122), (1, .int x1), (2, .int x2), (3, .int x3)], [.int (h.1 122 21)], h)) 2 rfl).trans ?_
    refine (z_X_br (c := ¬ h.1 122 21 = 0) (s1 := (174, [(0, .ref 122), (1, .int x1), (2, .int x2), (3, .int x3)], [], h)) (s2 := (13, [(0, .ref 122), (1, .int x1), (2, .int x2), (3, .int x3)], [], h)) rfl).trans (z_ite ?_ ?_)
    · exact z_X_ret rfl
    · refine (z_X_steps (s' := (23, [(0, .ref 122), (1, .int x1), (2, .int x2), (3, .int x3)], [.int ((h.1 122 17) - 1), .ref 128], h)) 6 rfl).trans ?_
      refine (z_X_if (g := z_in ((h.1 122 17) - 1) 5) (s' := (24, [(0, .ref 122), (1, .int x1), (2, .int x2), (3, .int x3)], [.int (h.1 128 (((h.1 122 17) - 1).toNatClampNeg))], h)) rfl).trans (z_bifA ?_)
      refine (z_X_steps (s' := (36, [(4, .int (h.1 128 (((h.1 122 17) - 1).toNatClampNeg))), (0, .ref 122), (1, .int x1), (2, .int x2), (3, .int x3)], [.int ((h.1 122 17) - 1), .ref 129], h)) 7 rfl).trans ?_
      refine (z_X_if (g := z_in ((h.1 122 17) - 1) 5) (s' := (37, [(4, .int (h.1 128 (((h.1 122 17) - 1).toNatClampNeg))), (0, .ref 122), (1, .int x1), (2, .int x2), (3, .int x3)], [.int (h.1 129 (((h.1 122 17) - 1).toNatClampNeg))], h)) rfl).trans (z_bifA ?_)
      refine (z_X_steps (s' := (46, [(5, .int (h.1 129 (((h.1 122 17) - 1).toNatClampNeg))), (4, .int (h.1 128 (((h.1 122 17) - 1).toNatClampNeg))), (0, .ref 122), (1, .int x1), (2, .int x2), (3, .int x3)], [.int 2, .int (h.1 129 (((h.1 122 17) - 1).toNatClampNeg)), .int (h.1 128 (((h.1 122 17) - 1).toNatClampNeg)), .int x1, .ref 122], h)) 6 rfl).trans ?_
      refine (z_X_call (id := 158) (a := [.ref 122, .int x1, .int (h.1 128 (((h.1 122 17) - 1).toNatClampNeg)), .int (h.1 129 (((h.1 122 17) - 1).toNatClampNeg)), .int 2]) (c := 1) (s' := (49, [(5, .int (h.1 129 (((h.1 122 17) - 1).toNatClampNeg))), (4, .int (h.1 128 (((h.1 122 17) - 1).toNatClampNeg))), (0, .ref 122), (1, .int x1), (2, .int x2), (3, .int x3)], [], h)) rfl ⟨Nat.le_of_ble_eq_true rfl, Nat.le_of_ble_eq_true rfl⟩).trans ?_
      refine z_bdc fun r1 h2 => ?_
      refine (z_X_steps (s' := (57, [(7, .int 9), (6, .int r1), (5, .int (h.1 129 (((h.1 122 17) - 1).toNatClampNeg))), (4, .int (h.1 128 (((h.1 122 17) - 1).toNatClampNeg))), (0, .ref 122), (1, .int x1), (2, .int x2), (3, .int x3)], [.int r1], h2)) 4 rfl).trans ?_
      refine (z_X_br (c := r1 ≤ 0) (s1 := (140, [(7, .int 9), (6, .int r1), (5, .int (h.1 129 (((h.1 122 17) - 1).toNatClampNeg))), (4, .int (h.1 128 (((h.1 122 17) - 1).toNatClampNeg))), (0, .ref 122), (1, .int x1), (2, .int x2), (3, .int x3)], [], h2)) (s2 := (60, [(7, .int 9), (6, .int r1), (5, .int (h.1 129 (((h.1 122 17) - 1).toNatClampNeg))), (4, .int (h.1 128 (((h.1 122 17) - 1).toNatClampNeg))), (0, .ref 122), (1, .int x1), (2, .int x2), (3, .int x3)], [], h2)) rfl).trans (z_ite ?_ ?_)
      · exact z_X_lab rfl
      · refine (z_X_steps (s' := (63, [(7, .int 9), (6, .int r1), (5, .int (h.1 129 (((h.1 122 17) - 1).toNatClampNeg))), (4, .int (h.1 128 (((h.1 122 17) - 1).toNatClampNeg))), (0, .ref 122), (1, .int x1), (2, .int x2), (3, .int x3)], [.int 1, .int r1], h2)) 2 rfl).trans ?_
        refine (z_X_br (c := ¬ r1 = 1) (s1 := (70, [(7, .int 9), (6, .int r1), (5, .int (h.1 129 (((h.1 122 17) - 1).toNatClampNeg))), (4, .int (h.1 128 (((h.1 122 17) - 1).toNatClampNeg))), (0, .ref 122), (1, .int x1), (2, .int x2), (3, .int x3)], [], h2)) (s2 := (66, [(7, .int 9), (6, .int r1), (5, .int (h.1 129 (((h.1 122 17) - 1).toNatClampNeg))), (4, .int (h.1 128 (((h.1 122 17) - 1).toNatClampNeg))), (0, .ref 122), (1, .int x1), (2, .int x2), (3, .int x3)], [], h2)) rfl).trans (z_ite ?_ ?_)
        · refine (z_X_steps (s' := (81, [(7, .int 9), (6, .int r1), (5, .int (h.1 129 (((h.1 122 17) - 1).toNatClampNeg))), (4, .int (h.1 128 (((h.1 122 17) - 1).toNatClampNeg))), (0, .ref 122), (1, .int x1), (2, .int x2), (3, .int x3)], [.int ((x2 >>> (((h2.1 122 20) - (h2.1 122 20) / 8 * 8) &&& 31)) &&& 1)], h2)) 8 rfl).trans ?_
          exact z_X_lab rfl
        · refine (z_X_steps (s' := (81, [(7, .int 9), (6, .int r1), (5, .int (h.1 129 (((h.1 122 17) - 1).toNatClampNeg))), (4, .int (h.1 128 (((h.1 122 17) - 1).toNatClampNeg))), (0, .ref 122), (1, .int x1), (2, .int x2), (3, .int x3)], [.int 0], h2)) 2 rfl).trans ?_
          exact z_X_lab rfl
set_option maxRecDepth 8000 in
set_option maxHeartbeats 2000000 in
theorem e_M_goesOn_140 (x1 : Int32) (x2 : Int32) (x7 : Int32) (h : z_H) : zl_M_goesOn_140 x1 x2 x7 h = (if ¬ x7 = 9 then zl_M_goesOn_152 x1 x2 x7 0 h else zl_M_goesOn_152 x1 x2 x7 1 h) := by
  show z_X zc_M_goesOn 4 (140, [(0, .ref 122), (1, .int x1), (2, .int x2), (7, .int x7)], [], h) = _
  refine (z_X_steps (s' := (144, [(0, .ref 122), (1, .int x1), (2, .int x2), (7, .int x7)], [.int 9, .int x7], h)) 2 rfl).trans ?_
  refine (z_X_br (c := ¬ x7 = 9) (s1 := (151, [(0, .ref 122), (1, .int x1), (2, .int x2), (7, .int x7)], [], h)) (s2 := (147, [(0, .ref 122), (1, .int x1), (2, .int x2), (7, .int x7)], [], h)) rfl).trans (z_ite ?_ ?_)
  · refine (z_X_steps (s' := (152, [(0, .ref 122), (1, .int x1), (2, .int x2), (7, .int x7)], [.int 0], h)) 1 rfl).trans ?_
    exact z_X_lab rfl
  · refine (z_X_steps (s' := (152, [(0, .ref 122), (1, .int x1), (2, .int x2), (7, .int x7)], [.int 1], h)) 2 rfl).trans ?_
    exact z_X_lab rfl
set_option maxRecDepth 8000 in
set_option maxHeartbeats 2000000 in
theorem e_M_goesOn_81 (x1 : Int32) (x2 : Int32) (x4 : Int32) (x5 : Int32) (x6 : Int32) (s0 : Int32) (h : z_H) : zl_M_goesOn_81 x1 x2 x4 x5 x6 s0 h = (if ¬ x6 = 2 then zl_M_goesOn_99 x1 x2 x4 x5 s0 (h.1 122 20) 0 h else zl_M_goesOn_99 x1 x2 x4 x5 s0 (h.1 122 20) 1 h) := by
  show z_X zc_M_goesOn 4 (81, [(0, .ref 122), (1, .int x1), (2, .int x2), (4, .int x4), (5, .int x5), (6, .int x6)], [.int s0], h) = _
  refine (z_X_steps (s' := (91, [(8, .int s0), (0, .ref 122), (1, .int x1), (2, .int x2), (4, .int x4), (5, .int x5), (6, .int x6)], [.int 2, .int x6, .int (h.1 122 20), .ref 122], h)) 6 rfl).trans ?_
  refine (z_X_br (c := ¬ x6 = 2) (s1 := (98, [(8, .int s0), (0, .ref 122), (1, .int x1), (2, .int x2), (4, .int x4), (5, .int x5), (6, .int x6)], [.int (h.1 122 20), .ref 122], h)) (s2 := (94, [(8, .int s0), (0, .ref 122), (1, .int x1), (2, .int x2), (4, .int x4), (5, .int x5), (6, .int x6)], [.int (h.1 122 20), .ref 122], h)) rfl).trans (z_ite ?_ ?_)
  · refine (z_X_steps (s' := (99, [(8, .int s0), (0, .ref 122), (1, .int x1), (2, .int x2), (4, .int x4), (5, .int x5), (6, .int x6)], [.int 0, .int (h.1 122 20), .ref 122], h)) 1 rfl).trans ?_
    exact z_X_lab rfl
  · refine (z_X_steps (s' := (99, [(8, .int s0), (0, .ref 122), (1, .int x1), (2, .int x2), (4, .int x4), (5, .int x5), (6, .int x6)], [.int 1, .int (h.1 122 20), .ref 122], h)) 2 rfl).trans ?_
    exact z_X_lab rfl
set_option maxRecDepth 8000 in
set_option maxHeartbeats 2000000 in
theorem e_M_goesOn_152 (x1 : Int32) (x2 : Int32) (x7 : Int32) (s0 : Int32) (h : z_H) : zl_M_goesOn_152 x1 x2 x7 s0 h = (if s0 = 0 then z_bd (z_M 161 [.ref 122, .int x1, .int x7] h) (fun r1 h2 => zl_M_goesOn_2 x1 x2 s0 h2) else z_bd (z_M 162 [.ref 122] h) (fun r3 h4 => zl_M_goesOn_2 x1 x2 s0 h4)) := by
  show z_X zc_M_goesOn 4 (152, [(0, .ref 122), (1, .int x1), (2, .int x2), (7, .int x7)], [.int s0], h) = _
  refine (z_X_steps (s' := (154, [(3, .int s0), (0, .ref 122), (1, .int x1), (2, .int x2), (7, .int x7)], [.int s0], h)) 2 rfl).trans ?_
  refine (z_X_br (c := s0 = 0) (s1 := (164, [(3, .int s0), (0, .ref 122), (1, .int x1), (2, .int x2), (7, .int x7)], [], h)) (s2 := (157, [(3, .int s0), (0, .ref 122), (1, .int x1), (2, .int x2), (7, .int x7)], [], h)) rfl).trans (z_ite ?_ ?_)
  · refine (z_X_steps (s' := (168, [(3, .int s0), (0, .ref 122), (1, .int x1), (2, .int x2), (7, .int x7)], [.int x7, .int x1, .ref 122], h)) 3 rfl).trans ?_
    refine (z_X_call (id := 161) (a := [.ref 122, .int x1, .int x7]) (c := 0) (s' := (171, [(3, .int s0), (0, .ref 122), (1, .int x1), (2, .int x2), (7, .int x7)], [], h)) rfl ⟨Nat.le_of_ble_eq_true rfl, Nat.le_of_ble_eq_true rfl⟩).trans ?_
    refine z_bdc fun r1 h2 => ?_
    refine (z_X_steps (s' := (2, [(3, .int s0), (0, .ref 122), (1, .int x1), (2, .int x2), (7, .int x7)], [], h2)) 1 rfl).trans ?_
    exact z_X_lab rfl
  · refine (z_X_steps (s' := (158, [(3, .int s0), (0, .ref 122), (1, .int x1), (2, .int x2), (7, .int x7)], [.ref 122], h)) 1 rfl).trans ?_
    refine (z_X_call (id := 162) (a := [.ref 122]) (c := 0) (s' := (161, [(3, .int s0), (0, .ref 122), (1, .int x1), (2, .int x2), (7, .int x7)], [], h)) rfl ⟨Nat.le_of_ble_eq_true rfl, Nat.le_of_ble_eq_true rfl⟩).trans ?_
    refine z_bdc fun r3 h4 => ?_
    refine (z_X_steps (s' := (2, [(3, .int s0), (0, .ref 122), (1, .int x1), (2, .int x2), (7, .int x7)], [], h4)) 2 rfl).trans ?_
    exact z_X_lab rfl
set_option maxRecDepth 8000 in
set_option maxHeartbeats 2000000 in
theorem e_M_goesOn_99 (x1 : Int32) (x2 : Int32) (x4 : Int32) (x5 : Int32) (x8 : Int32) (s1 : Int32) (s2 : Int32) (h : z_H) : zl_M_goesOn_99 x1 x2 x4 x5 x8 s1 s2 h = z_bd (z_M 128 [.int s2] h) (fun r1 h2 => z_bd (z_M 158 [.ref 122, .int x1, .int x4, .int x5, .int (3 + x8)] (z_wI h2 122 20 (s1 + r1))) (fun r3 h4 => (bif z_in (((16 * x4) + (2 * x5)) + x8) 216 then zl_M_goesOn_140 x1 x2 r3 (z_wI h4 130 ((((16 * x4) + (2 * x5)) + x8).toNatClampNeg) 1) else none))) := by
  show z_X zc_M_goesOn 4 (99, [(0, .ref 122), (1, .int x1), (2, .int x2), (4, .int x4), (5, .int x5), (8, .int x8)], [.int s2, .int s1, .ref 122], h) = _
  refine (z_X_call (id := 128) (a := [.int s2]) (c := 1) (s' := (102, [(0, .ref 122), (1, .int x1), (2, .int x2), (4, .int x4), (5, .int x5), (8, .int x8)], [.int s1, .ref 122], h)) rfl ⟨Nat.le_of_ble_eq_true rfl, Nat.le_of_ble_eq_true rfl⟩).trans ?_
  refine z_bdc fun r1 h2 => ?_
  refine (z_X_steps (s' := (116, [(0, .ref 122), (1, .int x1), (2, .int x2), (4, .int x4), (5, .int x5), (8, .int x8)], [.int (3 + x8), .int x5, .int x4, .int x1, .ref 122], (z_wI h2 122 20 (s1 + r1)))) 9 rfl).trans ?_
  refine (z_X_call (id := 158) (a := [.ref 122, .int x1, .int x4, .int x5, .int (3 + x8)]) (c := 1) (s' := (119, [(0, .ref 122), (1, .int x1), (2, .int x2), (4, .int x4), (5, .int x5), (8, .int x8)], [], (z_wI h2 122 20 (s1 + r1)))) rfl ⟨Nat.le_of_ble_eq_true rfl, Nat.le_of_ble_eq_true rfl⟩).trans ?_
  refine z_bdc fun r3 h4 => ?_
  refine (z_X_steps (s' := (139, [(7, .int r3), (0, .ref 122), (1, .int x1), (2, .int x2), (4, .int x4), (5, .int x5), (8, .int x8)], [.int 1, .int (((16 * x4) + (2 * x5)) + x8), .ref 130], h4)) 13 rfl).trans ?_
  refine (z_X_if (g := z_in (((16 * x4) + (2 * x5)) + x8) 216) (s' := (140, [(7, .int r3), (0, .ref 122), (1, .int x1), (2, .int x2), (4, .int x4), (5, .int x5), (8, .int x8)], [], (z_wI h4 130 ((((16 * x4) + (2 * x5)) + x8).toNatClampNeg) 1))) rfl).trans (z_bifA ?_)
  exact z_X_lab rfl
set_option maxRecDepth 8000 in
set_option maxHeartbeats 2000000 in
theorem e_M_callsIn (x1 : Int32) (x2 : Int32) (h : z_H) : z_M 165 [.ref 122, .int x1, .int x2] h = (bif z_in ((h.1 122 17) - 1) 5 then (bif z_in ((h.1 122 17) - 1) 5 then z_bd (z_M 158 [.ref 122, .int x1, .int (h.1 128 (((h.1 122 17) - 1).toNatClampNeg)), .int (h.1 129 (((h.1 122 17) - 1).toNatClampNeg)), .int 0] h) (fun r1 h2 => (if ¬ r1 = 0 then z_bd (z_M 158 [.ref 122, .int x1, .int (h.1 128 (((h.1 122 17) - 1).toNatClampNeg)), .int (h.1 129 (((h.1 122 17) - 1).toNatClampNeg)), .int 1] h2) (fun r3 h4 => (bif z_in ((200 + (4 * x2)) + r3) 216 then z_bd (z_M 159 [.ref 122, .int x1, .int x2, .int r3] (z_wI h4 130 (((200 + (4 * x2)) + r3).toNatClampNeg) 1)) (fun r5 h6 => (if r5 = (-4) then some (0, h6) else (if (4 : Int32) < h6.1 122 17 then some (0, h6) else z_bd (z_M 163 [.ref 122, .int x1, .int r5] h6) (fun r7 h8 => (if r7 = 0 then some (0, h8) else some (1, h8)))))) else none)) else some (0, h2))) else none) else none) := by
  refine (z_M_eq (by decide)).trans ?_
  show z_X zc_M_callsIn 5 (0, [(0, .ref 122), (1, .int x1), (2, .int x2)], [], h) = _
  refine (z_X_steps (s' := (10, [(0, .ref 122), (1, .int x1), (2, .int x2)], [.int ((h.1 122 17) - 1), .ref 128], h)) 6 rfl).trans ?_
  refine (z_X_if (g := z_in ((h.1 122 17) - 1) 5) (s' := (11, [(0, .ref 122), (1, .int x1), (2, .int x2)], [.int (h.1 128 (((h.1 122 17) - 1).toNatClampNeg))], h)) rfl).trans (z_bifA ?_)
  refine (z_X_steps (s' := (22, [(3, .int (h.1 128 (((h.1 122 17) - 1).toNatClampNeg))), (0, .ref 122), (1, .int x1), (2, .int x2)], [.int ((h.1 122 17) - 1), .ref 129], h)) 7 rfl).trans ?_
  refine (z_X_if (g := z_in ((h.1 122 17) - 1) 5) (s' := (23, [(3, .int (h.1 128 (((h.1 122 17) - 1).toNatClampNeg))), (0, .ref 122), (1, .int x1), (2, .int x2)], [.int (h.1 129 (((h.1 122 17) - 1).toNatClampNeg))], h)) rfl).trans (z_bifA ?_)
  refine (z_X_steps (s' := (31, [(4, .int (h.1 129 (((h.1 122 17) - 1).toNatClampNeg))), (3, .int (h.1 128 (((h.1 122 17) - 1).toNatClampNeg))), (0, .ref 122), (1, .int x1), (2, .int x2)], [.int 0, .int (h.1 129 (((h.1 122 17) - 1).toNatClampNeg)), .int (h.1 128 (((h.1 122 17) - 1).toNatClampNeg)), .int x1, .ref 122], h)) 6 rfl).trans ?_
  refine (z_X_call (id := 158) (a := [.ref 122, .int x1, .int (h.1 128 (((h.1 122 17) - 1).toNatClampNeg)), .int (h.1 129 (((h.1 122 17) - 1).toNatClampNeg)), .int 0]) (c := 1) (s' := (34, [(4, .int (h.1 129 (((h.1 122 17) - 1).toNatClampNeg))), (3, .int (h.1 128 (((h.1 122 17) - 1).toNatClampNeg))), (0, .ref 122), (1, .int x1), (2, .int x2)], [], h)) rfl ⟨Nat.le_of_ble_eq_true rfl, Nat.le_of_ble_eq_true rfl⟩).trans ?_
  refine z_bdc fun r1 h2 => ?_
  refine (z_X_br (c := ¬ r1 = 0) (s1 := (39, [(4, .int (h.1 129 (((h.1 122 17) - 1).toNatClampNeg))), (3, .int (h.1 128 (((h.1 122 17) - 1).toNatClampNeg))), (0, .ref 122), (1, .int x1), (2, .int x2)], [], h2)) (s2 := (37, [(4, .int (h.1 129 (((h.1 122 17) - 1).toNatClampNeg))), (3, .int (h.1 128 (((h.1 122 17) - 1).toNatClampNeg))), (0, .ref 122), (1, .int x1), (2, .int x2)], [], h2)) rfl).trans (z_ite ?_ ?_)
  · refine (z_X_steps (s' := (45, [(4, .int (h.1 129 (((h.1 122 17) - 1).toNatClampNeg))), (3, .int (h.1 128 (((h.1 122 17) - 1).toNatClampNeg))), (0, .ref 122), (1, .int x1), (2, .int x2)], [.int 1, .int (h.1 129 (((h.1 122 17) - 1).toNatClampNeg)), .int (h.1 128 (((h.1 122 17) - 1).toNatClampNeg)), .int x1, .ref 122], h2)) 5 rfl).trans ?_
    refine (z_X_call (id := 158) (a := [.ref 122, .int x1, .int (h.1 128 (((h.1 122 17) - 1).toNatClampNeg)), .int (h.1 129 (((h.1 122 17) - 1).toNatClampNeg)), .int 1]) (c := 1) (s' := (48, [(4, .int (h.1 129 (((h.1 122 17) - 1).toNatClampNeg))), (3, .int (h.1 128 (((h.1 122 17) - 1).toNatClampNeg))), (0, .ref 122), (1, .int x1), (2, .int x2)], [], h2)) rfl ⟨Nat.le_of_ble_eq_true rfl, Nat.le_of_ble_eq_true rfl⟩).trans ?_
    refine z_bdc fun r3 h4 => ?_
    refine (z_X_steps (s' := (65, [(5, .int r3), (4, .int (h.1 129 (((h.1 122 17) - 1).toNatClampNeg))), (3, .int (h.1 128 (((h.1 122 17) - 1).toNatClampNeg))), (0, .ref 122), (1, .int x1), (2, .int x2)], [.int 1, .int ((200 + (4 * x2)) + r3), .ref 130], h4)) 11 rfl).trans ?_
    refine (z_X_if (g := z_in ((200 + (4 * x2)) + r3) 216) (s' := (66, [(5, .int r3), (4, .int (h.1 129 (((h.1 122 17) - 1).toNatClampNeg))), (3, .int (h.1 128 (((h.1 122 17) - 1).toNatClampNeg))), (0, .ref 122), (1, .int x1), (2, .int x2)], [], (z_wI h4 130 (((200 + (4 * x2)) + r3).toNatClampNeg) 1))) rfl).trans (z_bifA ?_)
    refine (z_X_steps (s' := (71, [(5, .int r3), (4, .int (h.1 129 (((h.1 122 17) - 1).toNatClampNeg))), (3, .int (h.1 128 (((h.1 122 17) - 1).toNatClampNeg))), (0, .ref 122), (1, .int x1), (2, .int x2)], [.int r3, .int x2, .int x1, .ref 122], (z_wI h4 130 (((200 + (4 * x2)) + r3).toNatClampNeg) 1))) 4 rfl).trans ?_
    refine (z_X_call (id := 159) (a := [.ref 122, .int x1, .int x2, .int r3]) (c := 1) (s' := (74, [(5, .int r3), (4, .int (h.1 129 (((h.1 122 17) - 1).toNatClampNeg))), (3, .int (h.1 128 (((h.1 122 17) - 1).toNatClampNeg))), (0, .ref 122), (1, .int x1), (2, .int x2)], [], (z_wI h4 130 (((200 + (4 * x2)) + r3).toNatClampNeg) 1))) rfl ⟨Nat.le_of_ble_eq_true rfl, Nat.le_of_ble_eq_true rfl⟩).trans ?_
    refine z_bdc fun r5 h6 => ?_
    refine (z_X_steps (s' := (80, [(6, .int r5), (5, .int r3), (4, .int (h.1 129 (((h.1 122 17) - 1).toNatClampNeg))), (3, .int (h.1 128 (((h.1 122 17) - 1).toNatClampNeg))), (0, .ref 122), (1, .int x1), (2, .int x2)], [.int (-4), .int r5], h6)) 3 rfl).trans ?_
    refine (z_X_br (c := r5 = (-4)) (s1 := (105, [(6, .int r5), (5, .int r3), (4, .int (h.1 129 (((h.1 122 17) - 1).toNatClampNeg))), (3, .int (h.1 128 (((h.1 122 17) - 1).toNatClampNeg))), (0, .ref 122), (1, .int x1), (2, .int x2)], [], h6)) (s2 := (83, [(6, .int r5), (5, .int r3), (4, .int (h.1 129 (((h.1 122 17) - 1).toNatClampNeg))), (3, .int (h.1 128 (((h.1 122 17) - 1).toNatClampNeg))), (0, .ref 122), (1, .int x1), (2, .int x2)], [], h6)) rfl).trans (z_ite ?_ ?_)
    · refine (z_X_steps (s' := (106, [(6, .int r5), (5, .int r3), (4, .int (h.1 129 (((h.1 122 17) - 1).toNatClampNeg))), (3, .int (h.1 128 (((h.1 122 17) - 1).toNatClampNeg))), (0, .ref 122), (1, .int x1), (2, .int x2)], [.int 0], h6)) 1 rfl).trans ?_
      exact z_X_ret rfl
    · refine (z_X_steps (s' := (88, [(6, .int r5), (5, .int r3), (4, .int (h.1 129 (((h.1 122 17) - 1).toNatClampNeg))), (3, .int (h.1 128 (((h.1 122 17) - 1).toNatClampNeg))), (0, .ref 122), (1, .int x1), (2, .int x2)], [.int 4, .int (h6.1 122 17)], h6)) 3 rfl).trans ?_
      refine (z_X_br (c := (4 : Int32) < h6.1 122 17) (s1 := (105, [(6, .int r5), (5, .int r3), (4, .int (h.1 129 (((h.1 122 17) - 1).toNatClampNeg))), (3, .int (h.1 128 (((h.1 122 17) - 1).toNatClampNeg))), (0, .ref 122), (1, .int x1), (2, .int x2)], [], h6)) (s2 := (91, [(6, .int r5), (5, .int r3), (4, .int (h.1 129 (((h.1 122 17) - 1).toNatClampNeg))), (3, .int (h.1 128 (((h.1 122 17) - 1).toNatClampNeg))), (0, .ref 122), (1, .int x1), (2, .int x2)], [], h6)) rfl).trans (z_ite ?_ ?_)
      · refine (z_X_steps (s' := (106, [(6, .int r5), (5, .int r3), (4, .int (h.1 129 (((h.1 122 17) - 1).toNatClampNeg))), (3, .int (h.1 128 (((h.1 122 17) - 1).toNatClampNeg))), (0, .ref 122), (1, .int x1), (2, .int x2)], [.int 0], h6)) 1 rfl).trans ?_
        exact z_X_ret rfl
      · refine (z_X_steps (s' := (95, [(6, .int r5), (5, .int r3), (4, .int (h.1 129 (((h.1 122 17) - 1).toNatClampNeg))), (3, .int (h.1 128 (((h.1 122 17) - 1).toNatClampNeg))), (0, .ref 122), (1, .int x1), (2, .int x2)], [.int r5, .int x1, .ref 122], h6)) 3 rfl).trans ?_
        refine (z_X_call (id := 163) (a := [.ref 122, .int x1, .int r5]) (c := 1) (s' := (98, [(6, .int r5), (5, .int r3), (4, .int (h.1 129 (((h.1 122 17) - 1).toNatClampNeg))), (3, .int (h.1 128 (((h.1 122 17) - 1).toNatClampNeg))), (0, .ref 122), (1, .int x1), (2, .int x2)], [], h6)) rfl ⟨Nat.le_of_ble_eq_true rfl, Nat.le_of_ble_eq_true rfl⟩).trans ?_
        refine z_bdc fun r7 h8 => ?_
        refine (z_X_br (c := r7 = 0) (s1 := (105, [(6, .int r5), (5, .int r3), (4, .int (h.1 129 (((h.1 122 17) - 1).toNatClampNeg))), (3, .int (h.1 128 (((h.1 122 17) - 1).toNatClampNeg))), (0, .ref 122), (1, .int x1), (2, .int x2)], [], h8)) (s2 := (101, [(6, .int r5), (5, .int r3), (4, .int (h.1 129 (((h.1 122 17) - 1).toNatClampNeg))), (3, .int (h.1 128 (((h.1 122 17) - 1).toNatClampNeg))), (0, .ref 122), (1, .int x1), (2, .int x2)], [], h8)) rfl).trans (z_ite ?_ ?_)
        · refine (z_X_steps (s' := (106, [(6, .int r5), (5, .int r3), (4, .int (h.1 129 (((h.1 122 17) - 1).toNatClampNeg))), (3, .int (h.1 128 (((h.1 122 17) - 1).toNatClampNeg))), (0, .ref 122), (1, .int x1), (2, .int x2)], [.int 0], h8)) 1 rfl).trans ?_
          exact z_X_ret rfl
        · refine (z_X_steps (s' := (106, [(6, .int r5), (5, .int r3), (4, .int (h.1 129 (((h.1 122 17) - 1).toNatClampNeg))), (3, .int (h.1 128 (((h.1 122 17) - 1).toNatClampNeg))), (0, .ref 122), (1, .int x1), (2, .int x2)], [.int 1], h8)) 2 rfl).trans ?_
          exact z_X_ret rfl
  · refine (z_X_steps (s' := (38, [(4, .int (h.1 129 (((h.1 122 17) - 1).toNatClampNeg))), (3, .int (h.1 128 (((h.1 122 17) - 1).toNatClampNeg))), (0, .ref 122), (1, .int x1), (2, .int x2)], [.int 0], h2)) 1 rfl).trans ?_
    exact z_X_ret rfl
noncomputable def zl_M_runs_3 (x1 : Int32) (x2 : Int32) (x3 : Int32) (x4 : Int32) (h : z_H) : Option z_A := z_X zc_M_runs 6 (3, [(0, .ref 122), (1, .int x1), (2, .int x2), (3, .int x3), (4, .int x4)], [], h)
noncomputable def zl_M_runs_60 (x1 : Int32) (x2 : Int32) (x3 : Int32) (s1 : Int32) (h : z_H) : Option z_A := z_X zc_M_runs 6 (60, [(0, .ref 122), (1, .int x1), (2, .int x2), (3, .int x3)], [.int s1, .ref 122], h)
noncomputable def zl_M_runs_77 (x1 : Int32) (x2 : Int32) (x3 : Int32) (h : z_H) : Option z_A := z_X zc_M_runs 6 (77, [(0, .ref 122), (1, .int x1), (2, .int x2), (3, .int x3)], [], h)
set_option maxRecDepth 8000 in
set_option maxHeartbeats 2000000 in
theorem e_M_runs (x1 : Int32) (x2 : Int32) (x3 : Int32) (h : z_H) : z_M 166 [.ref 122, .int x1, .int x2, .int x3] h = zl_M_runs_3 x1 x2 x3 0 h := by
  refine (z_M_eq (by decide)).trans ?_
  show z_X zc_M_runs 6 (0, [(0, .ref 122), (1, .int x1), (2, .int x2), (3, .int x3)], [], h) = _
  refine (z_X_steps (s' := (3, [(4, .int 0), (0, .ref 122), (1, .int x1), (2, .int x2), (3, .int x3)], [], h)) 2 rfl).trans ?_
  exact z_X_lab rfl
set_option maxRecDepth 8000 in
set_option maxHeartbeats 2000000 in
theorem e_M_runs_3 (x1 : Int32) (x2 : Int32) (x3 : Int32) (x4 : Int32) (h : z_H) : zl_M_runs_3 x1 x2 x3 x4 h = (if (216 : Int32) ≤ x4 then (if ¬ (z_wI (z_wI (z_wI (z_wI h 122 17 0) 122 18 0) 122 19 0) 122 20 0).1 123 0 = 0 then zl_M_runs_60 x1 x2 x3 0 (z_wI (z_wI (z_wI (z_wI h 122 17 0) 122 18 0) 122 19 0) 122 20 0) else zl_M_runs_60 x1 x2 x3 1 (z_wI (z_wI (z_wI (z_wI h 122 17 0) 122 18 0) 122 19 0) 122 20 0)) else (bif z_in x4 216 then zl_M_runs_3 x1 x2 x3 (x4 + 1) (z_wI h 130 (x4.toNatClampNeg) 0) else none)) := by
  show z_X zc_M_runs 6 (3, [(0, .ref 122), (1, .int x1), (2, .int x2), (3, .int x3), (4, .int x4)], [], h) = _
  refine (z_X_steps (s' := (8, [(0, .ref 122), (1, .int x1), (2, .int x2), (3, .int x3), (4, .int x4)], [.int 216, .int x4], h)) 2 rfl).trans ?_
  refine (z_X_br (c := (216 : Int32) ≤ x4) (s1 := (25, [(0, .ref 122), (1, .int x1), (2, .int x2), (3, .int x3), (4, .int x4)], [], h)) (s2 := (11, [(0, .ref 122), (1, .int x1), (2, .int x2), (3, .int x3), (4, .int x4)], [], h)) rfl).trans (z_ite ?_ ?_)
  · refine (z_X_steps (s' := (52, [(0, .ref 122), (1, .int x1), (2, .int x2), (3, .int x3), (4, .int x4)], [.int ((z_wI (z_wI (z_wI (z_wI h 122 17 0) 122 18 0) 122 19 0) 122 20 0).1 123 0), .ref 122], (z_wI (z_wI (z_wI (z_wI h 122 17 0) 122 18 0) 122 19 0) 122 20 0))) 17 rfl).trans ?_
    refine (z_X_br (c := ¬ (z_wI (z_wI (z_wI (z_wI h 122 17 0) 122 18 0) 122 19 0) 122 20 0).1 123 0 = 0) (s1 := (59, [(0, .ref 122), (1, .int x1), (2, .int x2), (3, .int x3), (4, .int x4)], [.ref 122], (z_wI (z_wI (z_wI (z_wI h 122 17 0) 122 18 0) 122 19 0) 122 20 0))) (s2 := (55, [(0, .ref 122), (1, .int x1), (2, .int x2), (3, .int x3), (4, .int x4)], [.ref 122], (z_wI (z_wI (z_wI (z_wI h 122 17 0) 122 18 0) 122 19 0) 122 20 0))) rfl).trans (z_ite ?_ ?_)
    · refine (z_X_steps (s' := (60, [(0, .ref 122), (1, .int x1), (2, .int x2), (3, .int x3), (4, .int x4)], [.int 0, .ref 122], (z_wI (z_wI (z_wI (z_wI h 122 17 0) 122 18 0) 122 19 0) 122 20 0))) 1 rfl).trans ?_
      exact z_X_lab rfl
    · refine (z_X_steps (s' := (60, [(0, .ref 122), (1, .int x1), (2, .int x2), (3, .int x3), (4, .int x4)], [.int 1, .ref 122], (z_wI (z_wI (z_wI (z_wI h 122 17 0) 122 18 0) 122 19 0) 122 20 0))) 2 rfl).trans ?_
      exact z_X_lab rfl
  · refine (z_X_steps (s' := (18, [(0, .ref 122), (1, .int x1), (2, .int x2), (3, .int x3), (4, .int x4)], [.int 0, .int x4, .ref 130], h)) 4 rfl).trans ?_
    refine (z_X_if (g := z_in x4 216) (s' := (19, [(0, .ref 122), (1, .int x1), (2, .int x2), (3, .int x3), (4, .int x4)], [], (z_wI h 130 (x4.toNatClampNeg) 0))) rfl).trans (z_bifA ?_)
    refine (z_X_steps (s' := (3, [(4, .int (x4 + 1)), (0, .ref 122), (1, .int x1), (2, .int x2), (3, .int x3)], [], (z_wI h 130 (x4.toNatClampNeg) 0))) 2 rfl).trans ?_
    exact z_X_lab rfl
set_option maxRecDepth 8000 in
set_option maxHeartbeats 2000000 in
theorem e_M_runs_60 (x1 : Int32) (x2 : Int32) (x3 : Int32) (s1 : Int32) (h : z_H) : zl_M_runs_60 x1 x2 x3 s1 h = (bif (true && (decide (s1 = 0) || decide (s1 = 1))) then (if ¬ (z_wI h 122 21 s1).1 122 21 = 0 then zl_M_runs_77 x1 x2 x3 (z_wI h 122 21 s1) else z_bd (z_M 163 [.ref 122, .int x1, .int 0] (z_wI h 122 21 s1)) (fun r1 h2 => zl_M_runs_77 x1 x2 x3 h2)) else none) := by
  show z_X zc_M_runs 6 (60, [(0, .ref 122), (1, .int x1), (2, .int x2), (3, .int x3)], [.int s1, .ref 122], h) = _
  refine (z_X_if (g := (true && (decide (s1 = 0) || decide (s1 = 1)))) (s' := (63, [(0, .ref 122), (1, .int x1), (2, .int x2), (3, .int x3)], [], (z_wI h 122 21 s1))) rfl).trans (z_bifA ?_)
  refine (z_X_steps (s' := (67, [(0, .ref 122), (1, .int x1), (2, .int x2), (3, .int x3)], [.int ((z_wI h 122 21 s1).1 122 21)], (z_wI h 122 21 s1))) 2 rfl).trans ?_
  refine (z_X_br (c := ¬ (z_wI h 122 21 s1).1 122 21 = 0) (s1 := (77, [(0, .ref 122), (1, .int x1), (2, .int x2), (3, .int x3)], [], (z_wI h 122 21 s1))) (s2 := (70, [(0, .ref 122), (1, .int x1), (2, .int x2), (3, .int x3)], [], (z_wI h 122 21 s1))) rfl).trans (z_ite ?_ ?_)
  · exact z_X_lab rfl
  · refine (z_X_steps (s' := (73, [(0, .ref 122), (1, .int x1), (2, .int x2), (3, .int x3)], [.int 0, .int x1, .ref 122], (z_wI h 122 21 s1))) 3 rfl).trans ?_
    refine (z_X_call (id := 163) (a := [.ref 122, .int x1, .int 0]) (c := 1) (s' := (76, [(0, .ref 122), (1, .int x1), (2, .int x2), (3, .int x3)], [], (z_wI h 122 21 s1))) rfl ⟨Nat.le_of_ble_eq_true rfl, Nat.le_of_ble_eq_true rfl⟩).trans ?_
    refine z_bdc fun r1 h2 => ?_
    refine (z_X_steps (s' := (77, [(0, .ref 122), (1, .int x1), (2, .int x2), (3, .int x3)], [], h2)) 1 rfl).trans ?_
    exact z_X_lab rfl
set_option maxRecDepth 8000 in
set_option maxHeartbeats 2000000 in
theorem e_M_runs_77 (x1 : Int32) (x2 : Int32) (x3 : Int32) (h : z_H) : zl_M_runs_77 x1 x2 x3 h = (if ¬ h.1 122 21 = 0 then some (0, h) else z_bd (z_M 165 [.ref 122, .int x1, .int x2] h) (fun r1 h2 => (if ¬ r1 = 0 then zl_M_runs_77 x1 x2 x3 h2 else z_bd (z_M 164 [.ref 122, .int x1, .int x3] h2) (fun r3 h4 => zl_M_runs_77 x1 x2 x3 h4)))) := by
  show z_X zc_M_runs 6 (77, [(0, .ref 122), (1, .int x1), (2, .int x2), (3, .int x3)], [], h) = _
  refine (z_X_steps (s' := (81, [(0, .ref 122), (1, .int x1), (2, .int x2), (3, .int x3)], [.int (h.1 122 21)], h)) 2 rfl).trans ?_
  refine (z_X_br (c := ¬ h.1 122 21 = 0) (s1 := (102, [(0, .ref 122), (1, .int x1), (2, .int x2), (3, .int x3)], [], h)) (s2 := (84, [(0, .ref 122), (1, .int x1), (2, .int x2), (3, .int x3)], [], h)) rfl).trans (z_ite ?_ ?_)
  · exact z_X_ret rfl
  · refine (z_X_steps (s' := (87, [(0, .ref 122), (1, .int x1), (2, .int x2), (3, .int x3)], [.int x2, .int x1, .ref 122], h)) 3 rfl).trans ?_
    refine (z_X_call (id := 165) (a := [.ref 122, .int x1, .int x2]) (c := 1) (s' := (90, [(0, .ref 122), (1, .int x1), (2, .int x2), (3, .int x3)], [], h)) rfl ⟨Nat.le_of_ble_eq_true rfl, Nat.le_of_ble_eq_true rfl⟩).trans ?_
    refine z_bdc fun r1 h2 => ?_
    refine (z_X_br (c := ¬ r1 = 0) (s1 := (77, [(0, .ref 122), (1, .int x1), (2, .int x2), (3, .int x3)], [], h2)) (s2 := (93, [(0, .ref 122), (1, .int x1), (2, .int x2), (3, .int x3)], [], h2)) rfl).trans (z_ite ?_ ?_)
    · exact z_X_lab rfl
    · refine (z_X_steps (s' := (96, [(0, .ref 122), (1, .int x1), (2, .int x2), (3, .int x3)], [.int x3, .int x1, .ref 122], h2)) 3 rfl).trans ?_
      refine (z_X_call (id := 164) (a := [.ref 122, .int x1, .int x3]) (c := 0) (s' := (99, [(0, .ref 122), (1, .int x1), (2, .int x2), (3, .int x3)], [], h2)) rfl ⟨Nat.le_of_ble_eq_true rfl, Nat.le_of_ble_eq_true rfl⟩).trans ?_
      refine z_bdc fun r3 h4 => ?_
      refine (z_X_steps (s' := (77, [(0, .ref 122), (1, .int x1), (2, .int x2), (3, .int x3)], [], h4)) 1 rfl).trans ?_
      exact z_X_lab rfl
set_option maxRecDepth 8000 in
set_option maxHeartbeats 2000000 in
theorem e_M_ofTest (x1 : Int32) (x2 : Int32) (h : z_H) : z_M 167 [.ref 122, .int x1, .int x2] h = (bif z_in ((525 + (3 * x1)) + x2) 549 then some (h.1 123 (((525 + (3 * x1)) + x2).toNatClampNeg), h) else none) := by
  refine (z_M_eq (by decide)).trans ?_
  show z_X zc_M_ofTest 1 (0, [(0, .ref 122), (1, .int x1), (2, .int x2)], [], h) = _
  refine (z_X_steps (s' := (13, [(0, .ref 122), (1, .int x1), (2, .int x2)], [.int ((525 + (3 * x1)) + x2), .ref 123], h)) 9 rfl).trans ?_
  refine (z_X_if (g := z_in ((525 + (3 * x1)) + x2) 549) (s' := (14, [(0, .ref 122), (1, .int x1), (2, .int x2)], [.int (h.1 123 (((525 + (3 * x1)) + x2).toNatClampNeg))], h)) rfl).trans (z_bifA ?_)
  exact z_X_ret rfl
set_option maxRecDepth 8000 in
set_option maxHeartbeats 2000000 in
theorem e_M_runsTest (x1 : Int32) (x2 : Int32) (h : z_H) : z_M 168 [.ref 122, .int x1, .int x2] h = z_bd (z_M 167 [.ref 122, .int x2, .int 0] h) (fun r1 h2 => z_bd (z_M 167 [.ref 122, .int x2, .int 1] h2) (fun r3 h4 => z_bd (z_M 166 [.ref 122, .int x1, .int r1, .int r3] h4) (fun r5 h6 => some (0, h6)))) := by
  refine (z_M_eq (by decide)).trans ?_
  show z_X zc_M_runsTest 7 (0, [(0, .ref 122), (1, .int x1), (2, .int x2)], [], h) = _
  refine (z_X_steps (s' := (5, [(0, .ref 122), (1, .int x1), (2, .int x2)], [.int 0, .int x2, .ref 122, .int x1, .ref 122], h)) 5 rfl).trans ?_
  refine (z_X_call (id := 167) (a := [.ref 122, .int x2, .int 0]) (c := 1) (s' := (8, [(0, .ref 122), (1, .int x1), (2, .int x2)], [.int x1, .ref 122], h)) rfl ⟨Nat.le_of_ble_eq_true rfl, Nat.le_of_ble_eq_true rfl⟩).trans ?_
  refine z_bdc fun r1 h2 => ?_
  refine (z_X_steps (s' := (11, [(0, .ref 122), (1, .int x1), (2, .int x2)], [.int 1, .int x2, .ref 122, .int r1, .int x1, .ref 122], h2)) 3 rfl).trans ?_
  refine (z_X_call (id := 167) (a := [.ref 122, .int x2, .int 1]) (c := 1) (s' := (14, [(0, .ref 122), (1, .int x1), (2, .int x2)], [.int r1, .int x1, .ref 122], h2)) rfl ⟨Nat.le_of_ble_eq_true rfl, Nat.le_of_ble_eq_true rfl⟩).trans ?_
  refine z_bdc fun r3 h4 => ?_
  refine (z_X_call (id := 166) (a := [.ref 122, .int x1, .int r1, .int r3]) (c := 0) (s' := (17, [(0, .ref 122), (1, .int x1), (2, .int x2)], [], h4)) rfl ⟨Nat.le_of_ble_eq_true rfl, Nat.le_of_ble_eq_true rfl⟩).trans ?_
  refine z_bdc fun r5 h6 => ?_
  exact z_X_ret rfl
noncomputable def zl_M_areAlike_6 (x1 : Int32) (x2 : Int32) (x3 : Int32) (x4 : Int32) (x5 : Int32) (h : z_H) : Option z_A := z_X zc_M_areAlike 3 (6, [(0, .ref 122), (1, .int x1), (2, .int x2), (3, .int x3), (4, .int x4), (5, .int x5)], [], h)
set_option maxRecDepth 8000 in
set_option maxHeartbeats 2000000 in
theorem e_M_areAlike (x1 : Int32) (x2 : Int32) (x3 : Int32) (h : z_H) : z_M 169 [.ref 122, .int x1, .int x2, .int x3] h = zl_M_areAlike_6 x1 x2 x3 1 0 h := by
  refine (z_M_eq (by decide)).trans ?_
  show z_X zc_M_areAlike 3 (0, [(0, .ref 122), (1, .int x1), (2, .int x2), (3, .int x3)], [], h) = _
  refine (z_X_steps (s' := (6, [(5, .int 0), (4, .int 1), (0, .ref 122), (1, .int x1), (2, .int x2), (3, .int x3)], [], h)) 4 rfl).trans ?_
  exact z_X_lab rfl
set_option maxRecDepth 8000 in
set_option maxHeartbeats 2000000 in
theorem e_M_areAlike_6 (x1 : Int32) (x2 : Int32) (x3 : Int32) (x4 : Int32) (x5 : Int32) (h : z_H) : zl_M_areAlike_6 x1 x2 x3 x4 x5 h = (if (2 : Int32) < x5 then some (x4 &&& 1, h) else (if x4 = 0 then zl_M_areAlike_6 x1 x2 x3 0 (x5 + 1) h else z_bd (z_M 158 [.ref 122, .int 0, .int x1, .int x2, .int x5] h) (fun r1 h2 => z_bd (z_M 158 [.ref 122, .int 1, .int x1, .int x3, .int x5] h2) (fun r3 h4 => (if ¬ r1 = r3 then zl_M_areAlike_6 x1 x2 x3 0 (x5 + 1) h4 else zl_M_areAlike_6 x1 x2 x3 1 (x5 + 1) h4))))) := by
  show z_X zc_M_areAlike 3 (6, [(0, .ref 122), (1, .int x1), (2, .int x2), (3, .int x3), (4, .int x4), (5, .int x5)], [], h) = _
  refine (z_X_steps (s' := (9, [(0, .ref 122), (1, .int x1), (2, .int x2), (3, .int x3), (4, .int x4), (5, .int x5)], [.int 2, .int x5], h)) 2 rfl).trans ?_
  refine (z_X_br (c := (2 : Int32) < x5) (s1 := (51, [(0, .ref 122), (1, .int x1), (2, .int x2), (3, .int x3), (4, .int x4), (5, .int x5)], [], h)) (s2 := (12, [(0, .ref 122), (1, .int x1), (2, .int x2), (3, .int x3), (4, .int x4), (5, .int x5)], [], h)) rfl).trans (z_ite ?_ ?_)
  · refine (z_X_steps (s' := (53, [(0, .ref 122), (1, .int x1), (2, .int x2), (3, .int x3), (4, .int x4), (5, .int x5)], [.int x4], h)) 1 rfl).trans ?_
    exact z_X_ret rfl
  · refine (z_X_steps (s' := (14, [(0, .ref 122), (1, .int x1), (2, .int x2), (3, .int x3), (4, .int x4), (5, .int x5)], [.int x4], h)) 1 rfl).trans ?_
    refine (z_X_br (c := x4 = 0) (s1 := (42, [(0, .ref 122), (1, .int x1), (2, .int x2), (3, .int x3), (4, .int x4), (5, .int x5)], [], h)) (s2 := (17, [(0, .ref 122), (1, .int x1), (2, .int x2), (3, .int x3), (4, .int x4), (5, .int x5)], [], h)) rfl).trans (z_ite ?_ ?_)
    · refine (z_X_steps (s' := (6, [(5, .int (x5 + 1)), (4, .int 0), (0, .ref 122), (1, .int x1), (2, .int x2), (3, .int x3)], [], h)) 4 rfl).trans ?_
      exact z_X_lab rfl
    · refine (z_X_steps (s' := (23, [(0, .ref 122), (1, .int x1), (2, .int x2), (3, .int x3), (4, .int x4), (5, .int x5)], [.int x5, .int x2, .int x1, .int 0, .ref 122], h)) 5 rfl).trans ?_
      refine (z_X_call (id := 158) (a := [.ref 122, .int 0, .int x1, .int x2, .int x5]) (c := 1) (s' := (26, [(0, .ref 122), (1, .int x1), (2, .int x2), (3, .int x3), (4, .int x4), (5, .int x5)], [], h)) rfl ⟨Nat.le_of_ble_eq_true rfl, Nat.le_of_ble_eq_true rfl⟩).trans ?_
      refine z_bdc fun r1 h2 => ?_
      refine (z_X_steps (s' := (32, [(0, .ref 122), (1, .int x1), (2, .int x2), (3, .int x3), (4, .int x4), (5, .int x5)], [.int x5, .int x3, .int x1, .int 1, .ref 122, .int r1], h2)) 5 rfl).trans ?_
      refine (z_X_call (id := 158) (a := [.ref 122, .int 1, .int x1, .int x3, .int x5]) (c := 1) (s' := (35, [(0, .ref 122), (1, .int x1), (2, .int x2), (3, .int x3), (4, .int x4), (5, .int x5)], [.int r1], h2)) rfl ⟨Nat.le_of_ble_eq_true rfl, Nat.le_of_ble_eq_true rfl⟩).trans ?_
      refine z_bdc fun r3 h4 => ?_
      refine (z_X_br (c := ¬ r1 = r3) (s1 := (42, [(0, .ref 122), (1, .int x1), (2, .int x2), (3, .int x3), (4, .int x4), (5, .int x5)], [], h4)) (s2 := (38, [(0, .ref 122), (1, .int x1), (2, .int x2), (3, .int x3), (4, .int x4), (5, .int x5)], [], h4)) rfl).trans (z_ite ?_ ?_)
      · refine (z_X_steps (s' := (6, [(5, .int (x5 + 1)), (4, .int 0), (0, .ref 122), (1, .int x1), (2, .int x2), (3, .int x3)], [], h4)) 4 rfl).trans ?_
        exact z_X_lab rfl
      · refine (z_X_steps (s' := (6, [(5, .int (x5 + 1)), (4, .int 1), (0, .ref 122), (1, .int x1), (2, .int x2), (3, .int x3)], [], h4)) 5 rfl).trans ?_
        exact z_X_lab rfl
noncomputable def zl_M_pairsOn_6 (x1 : Int32) (x2 : Int32) (x3 : Int32) (x4 : Int32) (x5 : Int32) (h : z_H) : Option z_A := z_X zc_M_pairsOn 4 (6, [(0, .ref 122), (1, .int x1), (2, .int x2), (3, .int x3), (4, .int x4), (5, .int x5)], [], h)
noncomputable def zl_M_pairsOn_64 (x1 : Int32) (x2 : Int32) (x3 : Int32) (x4 : Int32) (x5 : Int32) (x6 : Int32) (x7 : Int32) (s0 : Int32) (h : z_H) : Option z_A := z_X zc_M_pairsOn 4 (64, [(0, .ref 122), (1, .int x1), (2, .int x2), (3, .int x3), (4, .int x4), (5, .int x5), (6, .int x6), (7, .int x7)], [.int s0], h)
noncomputable def zl_M_pairsOn_128 (x1 : Int32) (x2 : Int32) (x3 : Int32) (x4 : Int32) (x5 : Int32) (x6 : Int32) (x7 : Int32) (x8 : Int32) (h : z_H) : Option z_A := z_X zc_M_pairsOn 4 (128, [(0, .ref 122), (1, .int x1), (2, .int x2), (3, .int x3), (4, .int x4), (5, .int x5), (6, .int x6), (7, .int x7), (8, .int x8)], [], h)
noncomputable def zl_M_pairsOn_109 (x1 : Int32) (x2 : Int32) (x3 : Int32) (x5 : Int32) (x6 : Int32) (x7 : Int32) (s0 : Int32) (h : z_H) : Option z_A := z_X zc_M_pairsOn 4 (109, [(0, .ref 122), (1, .int x1), (2, .int x2), (3, .int x3), (5, .int x5), (6, .int x6), (7, .int x7)], [.int s0], h)
noncomputable def zl_M_pairsOn_140 (x1 : Int32) (x2 : Int32) (x3 : Int32) (x4 : Int32) (x5 : Int32) (h : z_H) : Option z_A := z_X zc_M_pairsOn 4 (140, [(0, .ref 122), (1, .int x1), (2, .int x2), (3, .int x3), (4, .int x4), (5, .int x5)], [], h)
set_option maxRecDepth 8000 in
set_option maxHeartbeats 2000000 in
theorem e_M_pairsOn (x1 : Int32) (x2 : Int32) (x3 : Int32) (h : z_H) : z_M 170 [.ref 122, .int x1, .int x2, .int x3] h = zl_M_pairsOn_6 x1 x2 x3 0 0 h := by
  refine (z_M_eq (by decide)).trans ?_
  show z_X zc_M_pairsOn 4 (0, [(0, .ref 122), (1, .int x1), (2, .int x2), (3, .int x3)], [], h) = _
  refine (z_X_steps (s' := (6, [(5, .int 0), (4, .int 0), (0, .ref 122), (1, .int x1), (2, .int x2), (3, .int x3)], [], h)) 4 rfl).trans ?_
  exact z_X_lab rfl
set_option maxRecDepth 8000 in
set_option maxHeartbeats 2000000 in
theorem e_M_pairsOn_6 (x1 : Int32) (x2 : Int32) (x3 : Int32) (x4 : Int32) (x5 : Int32) (h : z_H) : zl_M_pairsOn_6 x1 x2 x3 x4 x5 h = z_bd (z_M 158 [.ref 122, .int 0, .int x1, .int x2, .int 2] h) (fun r1 h2 => (if r1 ≤ x5 then some (x4 &&& 1, h2) else z_bd (z_M 158 [.ref 122, .int 0, .int x1, .int x2, .int (3 + x5)] h2) (fun r3 h4 => z_bd (z_M 158 [.ref 122, .int 1, .int x1, .int x3, .int (3 + x5)] h4) (fun r5 h6 => (if r3 = 9 then zl_M_pairsOn_64 x1 x2 x3 x4 x5 r3 r5 0 h6 else (if r5 = 9 then zl_M_pairsOn_64 x1 x2 x3 x4 x5 r3 r5 0 h6 else zl_M_pairsOn_64 x1 x2 x3 x4 x5 r3 r5 1 h6)))))) := by
  show z_X zc_M_pairsOn 4 (6, [(0, .ref 122), (1, .int x1), (2, .int x2), (3, .int x3), (4, .int x4), (5, .int x5)], [], h) = _
  refine (z_X_steps (s' := (13, [(0, .ref 122), (1, .int x1), (2, .int x2), (3, .int x3), (4, .int x4), (5, .int x5)], [.int 2, .int x2, .int x1, .int 0, .ref 122, .int x5], h)) 6 rfl).trans ?_
  refine (z_X_call (id := 158) (a := [.ref 122, .int 0, .int x1, .int x2, .int 2]) (c := 1) (s' := (16, [(0, .ref 122), (1, .int x1), (2, .int x2), (3, .int x3), (4, .int x4), (5, .int x5)], [.int x5], h)) rfl ⟨Nat.le_of_ble_eq_true rfl, Nat.le_of_ble_eq_true rfl⟩).trans ?_
  refine z_bdc fun r1 h2 => ?_
  refine (z_X_br (c := r1 ≤ x5) (s1 := (163, [(0, .ref 122), (1, .int x1), (2, .int x2), (3, .int x3), (4, .int x4), (5, .int x5)], [], h2)) (s2 := (19, [(0, .ref 122), (1, .int x1), (2, .int x2), (3, .int x3), (4, .int x4), (5, .int x5)], [], h2)) rfl).trans (z_ite ?_ ?_)
  · refine (z_X_steps (s' := (165, [(0, .ref 122), (1, .int x1), (2, .int x2), (3, .int x3), (4, .int x4), (5, .int x5)], [.int x4], h2)) 1 rfl).trans ?_
    exact z_X_ret rfl
  · refine (z_X_steps (s' := (27, [(0, .ref 122), (1, .int x1), (2, .int x2), (3, .int x3), (4, .int x4), (5, .int x5)], [.int (3 + x5), .int x2, .int x1, .int 0, .ref 122], h2)) 7 rfl).trans ?_
    refine (z_X_call (id := 158) (a := [.ref 122, .int 0, .int x1, .int x2, .int (3 + x5)]) (c := 1) (s' := (30, [(0, .ref 122), (1, .int x1), (2, .int x2), (3, .int x3), (4, .int x4), (5, .int x5)], [], h2)) rfl ⟨Nat.le_of_ble_eq_true rfl, Nat.le_of_ble_eq_true rfl⟩).trans ?_
    refine z_bdc fun r3 h4 => ?_
    refine (z_X_steps (s' := (40, [(6, .int r3), (0, .ref 122), (1, .int x1), (2, .int x2), (3, .int x3), (4, .int x4), (5, .int x5)], [.int (3 + x5), .int x3, .int x1, .int 1, .ref 122], h4)) 8 rfl).trans ?_
    refine (z_X_call (id := 158) (a := [.ref 122, .int 1, .int x1, .int x3, .int (3 + x5)]) (c := 1) (s' := (43, [(6, .int r3), (0, .ref 122), (1, .int x1), (2, .int x2), (3, .int x3), (4, .int x4), (5, .int x5)], [], h4)) rfl ⟨Nat.le_of_ble_eq_true rfl, Nat.le_of_ble_eq_true rfl⟩).trans ?_
    refine z_bdc fun r5 h6 => ?_
    refine (z_X_steps (s' := (49, [(7, .int r5), (6, .int r3), (0, .ref 122), (1, .int x1), (2, .int x2), (3, .int x3), (4, .int x4), (5, .int x5)], [.int 9, .int r3], h6)) 3 rfl).trans ?_
    refine (z_X_br (c := r3 = 9) (s1 := (63, [(7, .int r5), (6, .int r3), (0, .ref 122), (1, .int x1), (2, .int x2), (3, .int x3), (4, .int x4), (5, .int x5)], [], h6)) (s2 := (52, [(7, .int r5), (6, .int r3), (0, .ref 122), (1, .int x1), (2, .int x2), (3, .int x3), (4, .int x4), (5, .int x5)], [], h6)) rfl).trans (z_ite ?_ ?_)
    · refine (z_X_steps (s' := (64, [(7, .int r5), (6, .int r3), (0, .ref 122), (1, .int x1), (2, .int x2), (3, .int x3), (4, .int x4), (5, .int x5)], [.int 0], h6)) 1 rfl).trans ?_
      exact z_X_lab rfl
    · refine (z_X_steps (s' := (56, [(7, .int r5), (6, .int r3), (0, .ref 122), (1, .int x1), (2, .int x2), (3, .int x3), (4, .int x4), (5, .int x5)], [.int 9, .int r5], h6)) 2 rfl).trans ?_
      refine (z_X_br (c := r5 = 9) (s1 := (63, [(7, .int r5), (6, .int r3), (0, .ref 122), (1, .int x1), (2, .int x2), (3, .int x3), (4, .int x4), (5, .int x5)], [], h6)) (s2 := (59, [(7, .int r5), (6, .int r3), (0, .ref 122), (1, .int x1), (2, .int x2), (3, .int x3), (4, .int x4), (5, .int x5)], [], h6)) rfl).trans (z_ite ?_ ?_)
      · refine (z_X_steps (s' := (64, [(7, .int r5), (6, .int r3), (0, .ref 122), (1, .int x1), (2, .int x2), (3, .int x3), (4, .int x4), (5, .int x5)], [.int 0], h6)) 1 rfl).trans ?_
        exact z_X_lab rfl
      · refine (z_X_steps (s' := (64, [(7, .int r5), (6, .int r3), (0, .ref 122), (1, .int x1), (2, .int x2), (3, .int x3), (4, .int x4), (5, .int x5)], [.int 1], h6)) 2 rfl).trans ?_
        exact z_X_lab rfl
set_option maxRecDepth 8000 in
set_option maxHeartbeats 2000000 in
theorem e_M_pairsOn_64 (x1 : Int32) (x2 : Int32) (x3 : Int32) (x4 : Int32) (x5 : Int32) (x6 : Int32) (x7 : Int32) (s0 : Int32) (h : z_H) : zl_M_pairsOn_64 x1 x2 x3 x4 x5 x6 x7 s0 h = (if s0 = 0 then zl_M_pairsOn_128 x1 x2 x3 x4 x5 x6 x7 s0 h else z_bd (z_M 169 [.ref 122, .int x1, .int x6, .int x7] h) (fun r1 h2 => (if r1 = 0 then zl_M_pairsOn_128 x1 x2 x3 x4 x5 x6 x7 s0 h2 else (if ¬ x4 = 0 then zl_M_pairsOn_109 x1 x2 x3 x5 x6 x7 1 h2 else (bif z_in ((8 * x6) + x7) 64 then (if ¬ h2.1 132 (((8 * x6) + x7).toNatClampNeg) = 0 then zl_M_pairsOn_109 x1 x2 x3 x5 x6 x7 0 h2 else zl_M_pairsOn_109 x1 x2 x3 x5 x6 x7 1 h2) else none))))) := by
  show z_X zc_M_pairsOn 4 (64, [(0, .ref 122), (1, .int x1), (2, .int x2), (3, .int x3), (4, .int x4), (5, .int x5), (6, .int x6), (7, .int x7)], [.int s0], h) = _
  refine (z_X_steps (s' := (68, [(8, .int s0), (0, .ref 122), (1, .int x1), (2, .int x2), (3, .int x3), (4, .int x4), (5, .int x5), (6, .int x6), (7, .int x7)], [.int s0], h)) 2 rfl).trans ?_
  refine (z_X_br (c := s0 = 0) (s1 := (128, [(8, .int s0), (0, .ref 122), (1, .int x1), (2, .int x2), (3, .int x3), (4, .int x4), (5, .int x5), (6, .int x6), (7, .int x7)], [], h)) (s2 := (71, [(8, .int s0), (0, .ref 122), (1, .int x1), (2, .int x2), (3, .int x3), (4, .int x4), (5, .int x5), (6, .int x6), (7, .int x7)], [], h)) rfl).trans (z_ite ?_ ?_)
  · exact z_X_lab rfl
  · refine (z_X_steps (s' := (77, [(8, .int s0), (0, .ref 122), (1, .int x1), (2, .int x2), (3, .int x3), (4, .int x4), (5, .int x5), (6, .int x6), (7, .int x7)], [.int x7, .int x6, .int x1, .ref 122], h)) 4 rfl).trans ?_
    refine (z_X_call (id := 169) (a := [.ref 122, .int x1, .int x6, .int x7]) (c := 1) (s' := (80, [(8, .int s0), (0, .ref 122), (1, .int x1), (2, .int x2), (3, .int x3), (4, .int x4), (5, .int x5), (6, .int x6), (7, .int x7)], [], h)) rfl ⟨Nat.le_of_ble_eq_true rfl, Nat.le_of_ble_eq_true rfl⟩).trans ?_
    refine z_bdc fun r1 h2 => ?_
    refine (z_X_br (c := r1 = 0) (s1 := (128, [(8, .int s0), (0, .ref 122), (1, .int x1), (2, .int x2), (3, .int x3), (4, .int x4), (5, .int x5), (6, .int x6), (7, .int x7)], [], h2)) (s2 := (83, [(8, .int s0), (0, .ref 122), (1, .int x1), (2, .int x2), (3, .int x3), (4, .int x4), (5, .int x5), (6, .int x6), (7, .int x7)], [], h2)) rfl).trans (z_ite ?_ ?_)
    · exact z_X_lab rfl
    · refine (z_X_steps (s' := (85, [(8, .int s0), (0, .ref 122), (1, .int x1), (2, .int x2), (3, .int x3), (4, .int x4), (5, .int x5), (6, .int x6), (7, .int x7)], [.int x4], h2)) 1 rfl).trans ?_
      refine (z_X_br (c := ¬ x4 = 0) (s1 := (104, [(8, .int s0), (0, .ref 122), (1, .int x1), (2, .int x2), (3, .int x3), (4, .int x4), (5, .int x5), (6, .int x6), (7, .int x7)], [], h2)) (s2 := (88, [(8, .int s0), (0, .ref 122), (1, .int x1), (2, .int x2), (3, .int x3), (4, .int x4), (5, .int x5), (6, .int x6), (7, .int x7)], [], h2)) rfl).trans (z_ite ?_ ?_)
      · refine (z_X_steps (s' := (109, [(8, .int s0), (0, .ref 122), (1, .int x1), (2, .int x2), (3, .int x3), (4, .int x4), (5, .int x5), (6, .int x6), (7, .int x7)], [.int 1], h2)) 2 rfl).trans ?_
        exact z_X_lab rfl
      · refine (z_X_steps (s' := (100, [(8, .int s0), (0, .ref 122), (1, .int x1), (2, .int x2), (3, .int x3), (4, .int x4), (5, .int x5), (6, .int x6), (7, .int x7)], [.int ((8 * x6) + x7), .ref 132], h2)) 7 rfl).trans ?_
        refine (z_X_if (g := z_in ((8 * x6) + x7) 64) (s' := (101, [(8, .int s0), (0, .ref 122), (1, .int x1), (2, .int x2), (3, .int x3), (4, .int x4), (5, .int x5), (6, .int x6), (7, .int x7)], [.int (h2.1 132 (((8 * x6) + x7).toNatClampNeg))], h2)) rfl).trans (z_bifA ?_)
        refine (z_X_br (c := ¬ h2.1 132 (((8 * x6) + x7).toNatClampNeg) = 0) (s1 := (108, [(8, .int s0), (0, .ref 122), (1, .int x1), (2, .int x2), (3, .int x3), (4, .int x4), (5, .int x5), (6, .int x6), (7, .int x7)], [], h2)) (s2 := (104, [(8, .int s0), (0, .ref 122), (1, .int x1), (2, .int x2), (3, .int x3), (4, .int x4), (5, .int x5), (6, .int x6), (7, .int x7)], [], h2)) rfl).trans (z_ite ?_ ?_)
        · refine (z_X_steps (s' := (109, [(8, .int s0), (0, .ref 122), (1, .int x1), (2, .int x2), (3, .int x3), (4, .int x4), (5, .int x5), (6, .int x6), (7, .int x7)], [.int 0], h2)) 1 rfl).trans ?_
          exact z_X_lab rfl
        · refine (z_X_steps (s' := (109, [(8, .int s0), (0, .ref 122), (1, .int x1), (2, .int x2), (3, .int x3), (4, .int x4), (5, .int x5), (6, .int x6), (7, .int x7)], [.int 1], h2)) 2 rfl).trans ?_
          exact z_X_lab rfl
set_option maxRecDepth 8000 in
set_option maxHeartbeats 2000000 in
theorem e_M_pairsOn_128 (x1 : Int32) (x2 : Int32) (x3 : Int32) (x4 : Int32) (x5 : Int32) (x6 : Int32) (x7 : Int32) (x8 : Int32) (h : z_H) : zl_M_pairsOn_128 x1 x2 x3 x4 x5 x6 x7 x8 h = (if ¬ x8 = 0 then zl_M_pairsOn_140 x1 x2 x3 x4 x5 h else (if x6 = x7 then zl_M_pairsOn_6 x1 x2 x3 x4 (x5 + 1) h else zl_M_pairsOn_140 x1 x2 x3 x4 x5 h)) := by
  show z_X zc_M_pairsOn 4 (128, [(0, .ref 122), (1, .int x1), (2, .int x2), (3, .int x3), (4, .int x4), (5, .int x5), (6, .int x6), (7, .int x7), (8, .int x8)], [], h) = _
  refine (z_X_steps (s' := (130, [(0, .ref 122), (1, .int x1), (2, .int x2), (3, .int x3), (4, .int x4), (5, .int x5), (6, .int x6), (7, .int x7), (8, .int x8)], [.int x8], h)) 1 rfl).trans ?_
  refine (z_X_br (c := ¬ x8 = 0) (s1 := (140, [(0, .ref 122), (1, .int x1), (2, .int x2), (3, .int x3), (4, .int x4), (5, .int x5), (6, .int x6), (7, .int x7), (8, .int x8)], [], h)) (s2 := (133, [(0, .ref 122), (1, .int x1), (2, .int x2), (3, .int x3), (4, .int x4), (5, .int x5), (6, .int x6), (7, .int x7), (8, .int x8)], [], h)) rfl).trans (z_ite ?_ ?_)
  · exact z_X_lab rfl
  · refine (z_X_steps (s' := (137, [(0, .ref 122), (1, .int x1), (2, .int x2), (3, .int x3), (4, .int x4), (5, .int x5), (6, .int x6), (7, .int x7), (8, .int x8)], [.int x7, .int x6], h)) 2 rfl).trans ?_
    refine (z_X_br (c := x6 = x7) (s1 := (157, [(0, .ref 122), (1, .int x1), (2, .int x2), (3, .int x3), (4, .int x4), (5, .int x5), (6, .int x6), (7, .int x7), (8, .int x8)], [], h)) (s2 := (140, [(0, .ref 122), (1, .int x1), (2, .int x2), (3, .int x3), (4, .int x4), (5, .int x5), (6, .int x6), (7, .int x7), (8, .int x8)], [], h)) rfl).trans (z_ite ?_ ?_)
    · refine (z_X_steps (s' := (6, [(5, .int (x5 + 1)), (0, .ref 122), (1, .int x1), (2, .int x2), (3, .int x3), (4, .int x4), (6, .int x6), (7, .int x7), (8, .int x8)], [], h)) 2 rfl).trans ?_
      exact z_X_lab rfl
    · exact z_X_lab rfl
set_option maxRecDepth 8000 in
set_option maxHeartbeats 2000000 in
theorem e_M_pairsOn_109 (x1 : Int32) (x2 : Int32) (x3 : Int32) (x5 : Int32) (x6 : Int32) (x7 : Int32) (s0 : Int32) (h : z_H) : zl_M_pairsOn_109 x1 x2 x3 x5 x6 x7 s0 h = (bif z_in ((8 * x6) + x7) 64 then zl_M_pairsOn_6 x1 x2 x3 s0 (x5 + 1) (z_wI h 132 (((8 * x6) + x7).toNatClampNeg) 1) else none) := by
  show z_X zc_M_pairsOn 4 (109, [(0, .ref 122), (1, .int x1), (2, .int x2), (3, .int x3), (5, .int x5), (6, .int x6), (7, .int x7)], [.int s0], h) = _
  refine (z_X_steps (s' := (124, [(4, .int s0), (0, .ref 122), (1, .int x1), (2, .int x2), (3, .int x3), (5, .int x5), (6, .int x6), (7, .int x7)], [.int 1, .int ((8 * x6) + x7), .ref 132], h)) 9 rfl).trans ?_
  refine (z_X_if (g := z_in ((8 * x6) + x7) 64) (s' := (125, [(4, .int s0), (0, .ref 122), (1, .int x1), (2, .int x2), (3, .int x3), (5, .int x5), (6, .int x6), (7, .int x7)], [], (z_wI h 132 (((8 * x6) + x7).toNatClampNeg) 1))) rfl).trans (z_bifA ?_)
  refine (z_X_steps (s' := (6, [(5, .int (x5 + 1)), (4, .int s0), (0, .ref 122), (1, .int x1), (2, .int x2), (3, .int x3), (6, .int x6), (7, .int x7)], [], (z_wI h 132 (((8 * x6) + x7).toNatClampNeg) 1))) 3 rfl).trans ?_
  exact z_X_lab rfl
set_option maxRecDepth 8000 in
set_option maxHeartbeats 2000000 in
theorem e_M_pairsOn_140 (x1 : Int32) (x2 : Int32) (x3 : Int32) (x4 : Int32) (x5 : Int32) (h : z_H) : zl_M_pairsOn_140 x1 x2 x3 x4 x5 h = (bif z_in (((16 * x1) + (2 * x2)) + x5) 216 then zl_M_pairsOn_6 x1 x2 x3 x4 (x5 + 1) (z_wI h 131 ((((16 * x1) + (2 * x2)) + x5).toNatClampNeg) 1) else none) := by
  show z_X zc_M_pairsOn 4 (140, [(0, .ref 122), (1, .int x1), (2, .int x2), (3, .int x3), (4, .int x4), (5, .int x5)], [], h) = _
  refine (z_X_steps (s' := (156, [(0, .ref 122), (1, .int x1), (2, .int x2), (3, .int x3), (4, .int x4), (5, .int x5)], [.int 1, .int (((16 * x1) + (2 * x2)) + x5), .ref 131], h)) 12 rfl).trans ?_
  refine (z_X_if (g := z_in (((16 * x1) + (2 * x2)) + x5) 216) (s' := (157, [(0, .ref 122), (1, .int x1), (2, .int x2), (3, .int x3), (4, .int x4), (5, .int x5)], [], (z_wI h 131 ((((16 * x1) + (2 * x2)) + x5).toNatClampNeg) 1))) rfl).trans (z_bifA ?_)
  refine (z_X_steps (s' := (6, [(5, .int (x5 + 1)), (0, .ref 122), (1, .int x1), (2, .int x2), (3, .int x3), (4, .int x4)], [], (z_wI h 131 ((((16 * x1) + (2 * x2)) + x5).toNatClampNeg) 1))) 2 rfl).trans ?_
  exact z_X_lab rfl
noncomputable def zl_M_findPairs_2 (x1 : Int32) (x2 : Int32) (h : z_H) : Option z_A := z_X zc_M_findPairs 5 (2, [(0, .ref 122), (1, .int x1), (2, .int x2)], [], h)
noncomputable def zl_M_findPairs_51 (x1 : Int32) (x2 : Int32) (h : z_H) : Option z_A := z_X zc_M_findPairs 5 (51, [(0, .ref 122), (1, .int x1), (2, .int x2)], [], h)
noncomputable def zl_M_findPairs_59 (x1 : Int32) (x2 : Int32) (x3 : Int32) (h : z_H) : Option z_A := z_X zc_M_findPairs 5 (59, [(0, .ref 122), (1, .int x1), (2, .int x2), (3, .int x3)], [], h)
noncomputable def zl_M_findPairs_90 (x1 : Int32) (x2 : Int32) (x3 : Int32) (h : z_H) : Option z_A := z_X zc_M_findPairs 5 (90, [(0, .ref 122), (1, .int x1), (2, .int x2), (3, .int x3)], [], h)
set_option maxRecDepth 8000 in
set_option maxHeartbeats 2000000 in
theorem e_M_findPairs (x1 : Int32) (h : z_H) : z_M 171 [.ref 122, .int x1] h = zl_M_findPairs_2 x1 0 h := by
  refine (z_M_eq (by decide)).trans ?_
  show z_X zc_M_findPairs 5 (0, [(0, .ref 122), (1, .int x1)], [], h) = _
  refine (z_X_steps (s' := (2, [(2, .int 0), (0, .ref 122), (1, .int x1)], [], h)) 2 rfl).trans ?_
  exact z_X_lab rfl
set_option maxRecDepth 8000 in
set_option maxHeartbeats 2000000 in
theorem e_M_findPairs_2 (x1 : Int32) (x2 : Int32) (h : z_H) : zl_M_findPairs_2 x1 x2 h = (if (64 : Int32) ≤ x2 then z_bd (z_M 169 [.ref 122, .int x1, .int 0, .int 0] h) (fun r1 h2 => (if ¬ r1 = 0 then zl_M_findPairs_51 x1 1 (z_wI h2 132 0 1) else (bif z_in (100 + x1) 216 then some (0, (z_wI h2 131 ((100 + x1).toNatClampNeg) 1)) else none))) else (bif z_in x2 64 then zl_M_findPairs_2 x1 (x2 + 1) (z_wI h 132 (x2.toNatClampNeg) 0) else none)) := by
  show z_X zc_M_findPairs 5 (2, [(0, .ref 122), (1, .int x1), (2, .int x2)], [], h) = _
  refine (z_X_steps (s' := (5, [(0, .ref 122), (1, .int x1), (2, .int x2)], [.int 64, .int x2], h)) 2 rfl).trans ?_
  refine (z_X_br (c := (64 : Int32) ≤ x2) (s1 := (21, [(0, .ref 122), (1, .int x1), (2, .int x2)], [], h)) (s2 := (8, [(0, .ref 122), (1, .int x1), (2, .int x2)], [], h)) rfl).trans (z_ite ?_ ?_)
  · refine (z_X_steps (s' := (25, [(0, .ref 122), (1, .int x1), (2, .int x2)], [.int 0, .int 0, .int x1, .ref 122], h)) 4 rfl).trans ?_
    refine (z_X_call (id := 169) (a := [.ref 122, .int x1, .int 0, .int 0]) (c := 1) (s' := (28, [(0, .ref 122), (1, .int x1), (2, .int x2)], [], h)) rfl ⟨Nat.le_of_ble_eq_true rfl, Nat.le_of_ble_eq_true rfl⟩).trans ?_
    refine z_bdc fun r1 h2 => ?_
    refine (z_X_br (c := ¬ r1 = 0) (s1 := (42, [(0, .ref 122), (1, .int x1), (2, .int x2)], [], h2)) (s2 := (31, [(0, .ref 122), (1, .int x1), (2, .int x2)], [], h2)) rfl).trans (z_ite ?_ ?_)
    · refine (z_X_steps (s' := (51, [(2, .int 1), (0, .ref 122), (1, .int x1)], [], (z_wI h2 132 0 1))) 7 rfl).trans ?_
      exact z_X_lab rfl
    · refine (z_X_steps (s' := (40, [(0, .ref 122), (1, .int x1), (2, .int x2)], [.int 1, .int (100 + x1), .ref 131], h2)) 6 rfl).trans ?_
      refine (z_X_if (g := z_in (100 + x1) 216) (s' := (41, [(0, .ref 122), (1, .int x1), (2, .int x2)], [], (z_wI h2 131 ((100 + x1).toNatClampNeg) 1))) rfl).trans (z_bifA ?_)
      exact z_X_ret rfl
  · refine (z_X_steps (s' := (14, [(0, .ref 122), (1, .int x1), (2, .int x2)], [.int 0, .int x2, .ref 132], h)) 4 rfl).trans ?_
    refine (z_X_if (g := z_in x2 64) (s' := (15, [(0, .ref 122), (1, .int x1), (2, .int x2)], [], (z_wI h 132 (x2.toNatClampNeg) 0))) rfl).trans (z_bifA ?_)
    refine (z_X_steps (s' := (2, [(2, .int (x2 + 1)), (0, .ref 122), (1, .int x1)], [], (z_wI h 132 (x2.toNatClampNeg) 0))) 2 rfl).trans ?_
    exact z_X_lab rfl
set_option maxRecDepth 8000 in
set_option maxHeartbeats 2000000 in
theorem e_M_findPairs_51 (x1 : Int32) (x2 : Int32) (h : z_H) : zl_M_findPairs_51 x1 x2 h = (if x2 = 0 then some (0, h) else zl_M_findPairs_59 x1 0 0 h) := by
  show z_X zc_M_findPairs 5 (51, [(0, .ref 122), (1, .int x1), (2, .int x2)], [], h) = _
  refine (z_X_steps (s' := (52, [(0, .ref 122), (1, .int x1), (2, .int x2)], [.int x2], h)) 1 rfl).trans ?_
  refine (z_X_br (c := x2 = 0) (s1 := (109, [(0, .ref 122), (1, .int x1), (2, .int x2)], [], h)) (s2 := (55, [(0, .ref 122), (1, .int x1), (2, .int x2)], [], h)) rfl).trans (z_ite ?_ ?_)
  · exact z_X_ret rfl
  · refine (z_X_steps (s' := (59, [(3, .int 0), (2, .int 0), (0, .ref 122), (1, .int x1)], [], h)) 4 rfl).trans ?_
    exact z_X_lab rfl
set_option maxRecDepth 8000 in
set_option maxHeartbeats 2000000 in
theorem e_M_findPairs_59 (x1 : Int32) (x2 : Int32) (x3 : Int32) (h : z_H) : zl_M_findPairs_59 x1 x2 x3 h = (if (64 : Int32) ≤ x3 then zl_M_findPairs_51 x1 x2 h else (bif z_in x3 64 then (if h.1 132 (x3.toNatClampNeg) = 0 then zl_M_findPairs_90 x1 x2 x3 h else z_bd (z_M 170 [.ref 122, .int x1, .int (x3 / 8), .int (x3 - x3 / 8 * 8)] h) (fun r1 h2 => (if ¬ r1 = 0 then zl_M_findPairs_59 x1 1 (x3 + 1) h2 else zl_M_findPairs_90 x1 x2 x3 h2))) else none)) := by
  show z_X zc_M_findPairs 5 (59, [(0, .ref 122), (1, .int x1), (2, .int x2), (3, .int x3)], [], h) = _
  refine (z_X_steps (s' := (62, [(0, .ref 122), (1, .int x1), (2, .int x2), (3, .int x3)], [.int 64, .int x3], h)) 2 rfl).trans ?_
  refine (z_X_br (c := (64 : Int32) ≤ x3) (s1 := (106, [(0, .ref 122), (1, .int x1), (2, .int x2), (3, .int x3)], [], h)) (s2 := (65, [(0, .ref 122), (1, .int x1), (2, .int x2), (3, .int x3)], [], h)) rfl).trans (z_ite ?_ ?_)
  · refine (z_X_steps (s' := (51, [(0, .ref 122), (1, .int x1), (2, .int x2), (3, .int x3)], [], h)) 1 rfl).trans ?_
    exact z_X_lab rfl
  · refine (z_X_steps (s' := (70, [(0, .ref 122), (1, .int x1), (2, .int x2), (3, .int x3)], [.int x3, .ref 132], h)) 3 rfl).trans ?_
    refine (z_X_if (g := z_in x3 64) (s' := (71, [(0, .ref 122), (1, .int x1), (2, .int x2), (3, .int x3)], [.int (h.1 132 (x3.toNatClampNeg))], h)) rfl).trans (z_bifA ?_)
    refine (z_X_br (c := h.1 132 (x3.toNatClampNeg) = 0) (s1 := (90, [(0, .ref 122), (1, .int x1), (2, .int x2), (3, .int x3)], [], h)) (s2 := (74, [(0, .ref 122), (1, .int x1), (2, .int x2), (3, .int x3)], [], h)) rfl).trans (z_ite ?_ ?_)
    · exact z_X_lab rfl
    · refine (z_X_steps (s' := (84, [(0, .ref 122), (1, .int x1), (2, .int x2), (3, .int x3)], [.int (x3 - x3 / 8 * 8), .int (x3 / 8), .int x1, .ref 122], h)) 8 rfl).trans ?_
      refine (z_X_call (id := 170) (a := [.ref 122, .int x1, .int (x3 / 8), .int (x3 - x3 / 8 * 8)]) (c := 1) (s' := (87, [(0, .ref 122), (1, .int x1), (2, .int x2), (3, .int x3)], [], h)) rfl ⟨Nat.le_of_ble_eq_true rfl, Nat.le_of_ble_eq_true rfl⟩).trans ?_
      refine z_bdc fun r1 h2 => ?_
      refine (z_X_br (c := ¬ r1 = 0) (s1 := (94, [(0, .ref 122), (1, .int x1), (2, .int x2), (3, .int x3)], [], h2)) (s2 := (90, [(0, .ref 122), (1, .int x1), (2, .int x2), (3, .int x3)], [], h2)) rfl).trans (z_ite ?_ ?_)
      · refine (z_X_steps (s' := (59, [(3, .int (x3 + 1)), (2, .int 1), (0, .ref 122), (1, .int x1)], [], h2)) 5 rfl).trans ?_
        exact z_X_lab rfl
      · exact z_X_lab rfl
set_option maxRecDepth 8000 in
set_option maxHeartbeats 2000000 in
theorem e_M_findPairs_90 (x1 : Int32) (x2 : Int32) (x3 : Int32) (h : z_H) : zl_M_findPairs_90 x1 x2 x3 h = (if x2 = 0 then zl_M_findPairs_59 x1 0 (x3 + 1) h else zl_M_findPairs_59 x1 1 (x3 + 1) h) := by
  show z_X zc_M_findPairs 5 (90, [(0, .ref 122), (1, .int x1), (2, .int x2), (3, .int x3)], [], h) = _
  refine (z_X_steps (s' := (91, [(0, .ref 122), (1, .int x1), (2, .int x2), (3, .int x3)], [.int x2], h)) 1 rfl).trans ?_
  refine (z_X_br (c := x2 = 0) (s1 := (98, [(0, .ref 122), (1, .int x1), (2, .int x2), (3, .int x3)], [], h)) (s2 := (94, [(0, .ref 122), (1, .int x1), (2, .int x2), (3, .int x3)], [], h)) rfl).trans (z_ite ?_ ?_)
  · refine (z_X_steps (s' := (59, [(3, .int (x3 + 1)), (2, .int 0), (0, .ref 122), (1, .int x1)], [], h)) 4 rfl).trans ?_
    exact z_X_lab rfl
  · refine (z_X_steps (s' := (59, [(3, .int (x3 + 1)), (2, .int 1), (0, .ref 122), (1, .int x1)], [], h)) 5 rfl).trans ?_
    exact z_X_lab rfl
noncomputable def zl_M_findDanger_2 (x1 : Int32) (h : z_H) : Option z_A := z_X zc_M_findDanger 6 (2, [(0, .ref 122), (1, .int x1)], [], h)
noncomputable def zl_M_findDanger_24 (x1 : Int32) (h : z_H) : Option z_A := z_X zc_M_findDanger 6 (24, [(0, .ref 122), (1, .int x1)], [], h)
noncomputable def zl_M_findDanger_59 (x1 : Int32) (h : z_H) : Option z_A := z_X zc_M_findDanger 6 (59, [(0, .ref 122), (1, .int x1)], [], h)
noncomputable def zl_M_findDanger_71 (x1 : Int32) (x2 : Int32) (h : z_H) : Option z_A := z_X zc_M_findDanger 6 (71, [(0, .ref 122), (1, .int x1), (2, .int x2)], [], h)
set_option maxRecDepth 8000 in
set_option maxHeartbeats 2000000 in
theorem e_M_findDanger (h : z_H) : z_M 172 [.ref 122] h = zl_M_findDanger_2 0 h := by
  refine (z_M_eq (by decide)).trans ?_
  show z_X zc_M_findDanger 6 (0, [(0, .ref 122)], [], h) = _
  refine (z_X_steps (s' := (2, [(1, .int 0), (0, .ref 122)], [], h)) 2 rfl).trans ?_
  exact z_X_lab rfl
set_option maxRecDepth 8000 in
set_option maxHeartbeats 2000000 in
theorem e_M_findDanger_2 (x1 : Int32) (h : z_H) : zl_M_findDanger_2 x1 h = (if (216 : Int32) ≤ x1 then zl_M_findDanger_24 0 h else (bif z_in x1 216 then zl_M_findDanger_2 (x1 + 1) (z_wI h 131 (x1.toNatClampNeg) 0) else none)) := by
  show z_X zc_M_findDanger 6 (2, [(0, .ref 122), (1, .int x1)], [], h) = _
  refine (z_X_steps (s' := (6, [(0, .ref 122), (1, .int x1)], [.int 216, .int x1], h)) 2 rfl).trans ?_
  refine (z_X_br (c := (216 : Int32) ≤ x1) (s1 := (22, [(0, .ref 122), (1, .int x1)], [], h)) (s2 := (9, [(0, .ref 122), (1, .int x1)], [], h)) rfl).trans (z_ite ?_ ?_)
  · refine (z_X_steps (s' := (24, [(1, .int 0), (0, .ref 122)], [], h)) 2 rfl).trans ?_
    exact z_X_lab rfl
  · refine (z_X_steps (s' := (15, [(0, .ref 122), (1, .int x1)], [.int 0, .int x1, .ref 131], h)) 4 rfl).trans ?_
    refine (z_X_if (g := z_in x1 216) (s' := (16, [(0, .ref 122), (1, .int x1)], [], (z_wI h 131 (x1.toNatClampNeg) 0))) rfl).trans (z_bifA ?_)
    refine (z_X_steps (s' := (2, [(1, .int (x1 + 1)), (0, .ref 122)], [], (z_wI h 131 (x1.toNatClampNeg) 0))) 2 rfl).trans ?_
    exact z_X_lab rfl
set_option maxRecDepth 8000 in
set_option maxHeartbeats 2000000 in
theorem e_M_findDanger_24 (x1 : Int32) (h : z_H) : zl_M_findDanger_24 x1 h = (if h.1 123 0 ≤ x1 then zl_M_findDanger_59 0 h else (bif z_in (7 + x1) 549 then (if h.1 123 ((7 + x1).toNatClampNeg) ≤ 0 then zl_M_findDanger_24 (x1 + 1) h else z_bd (z_M 171 [.ref 122, .int x1] h) (fun r1 h2 => zl_M_findDanger_24 (x1 + 1) h2)) else none)) := by
  show z_X zc_M_findDanger 6 (24, [(0, .ref 122), (1, .int x1)], [], h) = _
  refine (z_X_steps (s' := (31, [(0, .ref 122), (1, .int x1)], [.int (h.1 123 0), .int x1], h)) 5 rfl).trans ?_
  refine (z_X_br (c := h.1 123 0 ≤ x1) (s1 := (57, [(0, .ref 122), (1, .int x1)], [], h)) (s2 := (34, [(0, .ref 122), (1, .int x1)], [], h)) rfl).trans (z_ite ?_ ?_)
  · refine (z_X_steps (s' := (59, [(1, .int 0), (0, .ref 122)], [], h)) 2 rfl).trans ?_
    exact z_X_lab rfl
  · refine (z_X_steps (s' := (42, [(0, .ref 122), (1, .int x1)], [.int (7 + x1), .ref 123], h)) 5 rfl).trans ?_
    refine (z_X_if (g := z_in (7 + x1) 549) (s' := (43, [(0, .ref 122), (1, .int x1)], [.int (h.1 123 ((7 + x1).toNatClampNeg))], h)) rfl).trans (z_bifA ?_)
    refine (z_X_br (c := h.1 123 ((7 + x1).toNatClampNeg) ≤ 0) (s1 := (51, [(0, .ref 122), (1, .int x1)], [], h)) (s2 := (46, [(0, .ref 122), (1, .int x1)], [], h)) rfl).trans (z_ite ?_ ?_)
    · refine (z_X_steps (s' := (24, [(1, .int (x1 + 1)), (0, .ref 122)], [], h)) 2 rfl).trans ?_
      exact z_X_lab rfl
    · refine (z_X_steps (s' := (48, [(0, .ref 122), (1, .int x1)], [.int x1, .ref 122], h)) 2 rfl).trans ?_
      refine (z_X_call (id := 171) (a := [.ref 122, .int x1]) (c := 0) (s' := (51, [(0, .ref 122), (1, .int x1)], [], h)) rfl ⟨Nat.le_of_ble_eq_true rfl, Nat.le_of_ble_eq_true rfl⟩).trans ?_
      refine z_bdc fun r1 h2 => ?_
      refine (z_X_steps (s' := (24, [(1, .int (x1 + 1)), (0, .ref 122)], [], h2)) 2 rfl).trans ?_
      exact z_X_lab rfl
set_option maxRecDepth 8000 in
set_option maxHeartbeats 2000000 in
theorem e_M_findDanger_59 (x1 : Int32) (h : z_H) : zl_M_findDanger_59 x1 h = (if h.1 123 1 ≤ x1 then some (0, h) else zl_M_findDanger_71 x1 0 h) := by
  show z_X zc_M_findDanger 6 (59, [(0, .ref 122), (1, .int x1)], [], h) = _
  refine (z_X_steps (s' := (66, [(0, .ref 122), (1, .int x1)], [.int (h.1 123 1), .int x1], h)) 5 rfl).trans ?_
  refine (z_X_br (c := h.1 123 1 ≤ x1) (s1 := (124, [(0, .ref 122), (1, .int x1)], [], h)) (s2 := (69, [(0, .ref 122), (1, .int x1)], [], h)) rfl).trans (z_ite ?_ ?_)
  · exact z_X_ret rfl
  · refine (z_X_steps (s' := (71, [(2, .int 0), (0, .ref 122), (1, .int x1)], [], h)) 2 rfl).trans ?_
    exact z_X_lab rfl
set_option maxRecDepth 8000 in
set_option maxHeartbeats 2000000 in
theorem e_M_findDanger_71 (x1 : Int32) (x2 : Int32) (h : z_H) : zl_M_findDanger_71 x1 x2 h = (if (4 : Int32) ≤ x2 then zl_M_findDanger_59 (x1 + 1) h else z_bd (z_M 159 [.ref 122, .int 0, .int x1, .int x2] h) (fun r1 h2 => z_bd (z_M 159 [.ref 122, .int 1, .int x1, .int x2] h2) (fun r3 h4 => (if r1 = r3 then (bif z_in ((200 + (4 * x1)) + x2) 216 then zl_M_findDanger_71 x1 (x2 + 1) (z_wI h4 131 (((200 + (4 * x1)) + x2).toNatClampNeg) 0) else none) else (bif z_in ((200 + (4 * x1)) + x2) 216 then zl_M_findDanger_71 x1 (x2 + 1) (z_wI h4 131 (((200 + (4 * x1)) + x2).toNatClampNeg) 1) else none))))) := by
  show z_X zc_M_findDanger 6 (71, [(0, .ref 122), (1, .int x1), (2, .int x2)], [], h) = _
  refine (z_X_steps (s' := (73, [(0, .ref 122), (1, .int x1), (2, .int x2)], [.int 4, .int x2], h)) 2 rfl).trans ?_
  refine (z_X_br (c := (4 : Int32) ≤ x2) (s1 := (118, [(0, .ref 122), (1, .int x1), (2, .int x2)], [], h)) (s2 := (76, [(0, .ref 122), (1, .int x1), (2, .int x2)], [], h)) rfl).trans (z_ite ?_ ?_)
  · refine (z_X_steps (s' := (59, [(1, .int (x1 + 1)), (0, .ref 122), (2, .int x2)], [], h)) 2 rfl).trans ?_
    exact z_X_lab rfl
  · refine (z_X_steps (s' := (93, [(0, .ref 122), (1, .int x1), (2, .int x2)], [.int x2, .int x1, .int 0, .ref 122, .int ((200 + (4 * x1)) + x2), .ref 131], h)) 13 rfl).trans ?_
    refine (z_X_call (id := 159) (a := [.ref 122, .int 0, .int x1, .int x2]) (c := 1) (s' := (96, [(0, .ref 122), (1, .int x1), (2, .int x2)], [.int ((200 + (4 * x1)) + x2), .ref 131], h)) rfl ⟨Nat.le_of_ble_eq_true rfl, Nat.le_of_ble_eq_true rfl⟩).trans ?_
    refine z_bdc fun r1 h2 => ?_
    refine (z_X_steps (s' := (100, [(0, .ref 122), (1, .int x1), (2, .int x2)], [.int x2, .int x1, .int 1, .ref 122, .int r1, .int ((200 + (4 * x1)) + x2), .ref 131], h2)) 4 rfl).trans ?_
    refine (z_X_call (id := 159) (a := [.ref 122, .int 1, .int x1, .int x2]) (c := 1) (s' := (103, [(0, .ref 122), (1, .int x1), (2, .int x2)], [.int r1, .int ((200 + (4 * x1)) + x2), .ref 131], h2)) rfl ⟨Nat.le_of_ble_eq_true rfl, Nat.le_of_ble_eq_true rfl⟩).trans ?_
    refine z_bdc fun r3 h4 => ?_
    refine (z_X_br (c := r1 = r3) (s1 := (110, [(0, .ref 122), (1, .int x1), (2, .int x2)], [.int ((200 + (4 * x1)) + x2), .ref 131], h4)) (s2 := (106, [(0, .ref 122), (1, .int x1), (2, .int x2)], [.int ((200 + (4 * x1)) + x2), .ref 131], h4)) rfl).trans (z_ite ?_ ?_)
    · refine (z_X_steps (s' := (111, [(0, .ref 122), (1, .int x1), (2, .int x2)], [.int 0, .int ((200 + (4 * x1)) + x2), .ref 131], h4)) 1 rfl).trans ?_
      refine (z_X_if (g := z_in ((200 + (4 * x1)) + x2) 216) (s' := (112, [(0, .ref 122), (1, .int x1), (2, .int x2)], [], (z_wI h4 131 (((200 + (4 * x1)) + x2).toNatClampNeg) 0))) rfl).trans (z_bifA ?_)
      refine (z_X_steps (s' := (71, [(2, .int (x2 + 1)), (0, .ref 122), (1, .int x1)], [], (z_wI h4 131 (((200 + (4 * x1)) + x2).toNatClampNeg) 0))) 2 rfl).trans ?_
      exact z_X_lab rfl
    · refine (z_X_steps (s' := (111, [(0, .ref 122), (1, .int x1), (2, .int x2)], [.int 1, .int ((200 + (4 * x1)) + x2), .ref 131], h4)) 2 rfl).trans ?_
      refine (z_X_if (g := z_in ((200 + (4 * x1)) + x2) 216) (s' := (112, [(0, .ref 122), (1, .int x1), (2, .int x2)], [], (z_wI h4 131 (((200 + (4 * x1)) + x2).toNatClampNeg) 1))) rfl).trans (z_bifA ?_)
      refine (z_X_steps (s' := (71, [(2, .int (x2 + 1)), (0, .ref 122), (1, .int x1)], [], (z_wI h4 131 (((200 + (4 * x1)) + x2).toNatClampNeg) 1))) 2 rfl).trans ?_
      exact z_X_lab rfl
noncomputable def zl_M_dangers_8 (x1 : Int32) (x2 : Int32) (h : z_H) : Option z_A := z_X zc_M_dangers 7 (8, [(0, .ref 122), (1, .int x1), (2, .int x2)], [], h)
set_option maxRecDepth 8000 in
set_option maxHeartbeats 2000000 in
theorem e_M_dangers (h : z_H) : z_M 173 [.ref 122] h = z_bd (z_M 172 [.ref 122] h) (fun r1 h2 => zl_M_dangers_8 0 0 h2) := by
  refine (z_M_eq (by decide)).trans ?_
  show z_X zc_M_dangers 7 (0, [(0, .ref 122)], [], h) = _
  refine (z_X_steps (s' := (1, [(0, .ref 122)], [.ref 122], h)) 1 rfl).trans ?_
  refine (z_X_call (id := 172) (a := [.ref 122]) (c := 0) (s' := (4, [(0, .ref 122)], [], h)) rfl ⟨Nat.le_of_ble_eq_true rfl, Nat.le_of_ble_eq_true rfl⟩).trans ?_
  refine z_bdc fun r1 h2 => ?_
  refine (z_X_steps (s' := (8, [(2, .int 0), (1, .int 0), (0, .ref 122)], [], h2)) 4 rfl).trans ?_
  exact z_X_lab rfl
set_option maxRecDepth 8000 in
set_option maxHeartbeats 2000000 in
theorem e_M_dangers_8 (x1 : Int32) (x2 : Int32) (h : z_H) : zl_M_dangers_8 x1 x2 h = (if (216 : Int32) ≤ x2 then some (x1, h) else (bif z_in x2 216 then z_bd (z_M 128 [.int (h.1 131 (x2.toNatClampNeg))] h) (fun r1 h2 => zl_M_dangers_8 (x1 + r1) (x2 + 1) h2) else none)) := by
  show z_X zc_M_dangers 7 (8, [(0, .ref 122), (1, .int x1), (2, .int x2)], [], h) = _
  refine (z_X_steps (s' := (12, [(0, .ref 122), (1, .int x1), (2, .int x2)], [.int 216, .int x2], h)) 2 rfl).trans ?_
  refine (z_X_br (c := (216 : Int32) ≤ x2) (s1 := (33, [(0, .ref 122), (1, .int x1), (2, .int x2)], [], h)) (s2 := (15, [(0, .ref 122), (1, .int x1), (2, .int x2)], [], h)) rfl).trans (z_ite ?_ ?_)
  · refine (z_X_steps (s' := (34, [(0, .ref 122), (1, .int x1), (2, .int x2)], [.int x1], h)) 1 rfl).trans ?_
    exact z_X_ret rfl
  · refine (z_X_steps (s' := (21, [(0, .ref 122), (1, .int x1), (2, .int x2)], [.int x2, .ref 131, .int x1], h)) 4 rfl).trans ?_
    refine (z_X_if (g := z_in x2 216) (s' := (22, [(0, .ref 122), (1, .int x1), (2, .int x2)], [.int (h.1 131 (x2.toNatClampNeg)), .int x1], h)) rfl).trans (z_bifA ?_)
    refine (z_X_call (id := 128) (a := [.int (h.1 131 (x2.toNatClampNeg))]) (c := 1) (s' := (25, [(0, .ref 122), (1, .int x1), (2, .int x2)], [.int x1], h)) rfl ⟨Nat.le_of_ble_eq_true rfl, Nat.le_of_ble_eq_true rfl⟩).trans ?_
    refine z_bdc fun r1 h2 => ?_
    refine (z_X_steps (s' := (8, [(2, .int (x2 + 1)), (1, .int (x1 + r1)), (0, .ref 122)], [], h2)) 4 rfl).trans ?_
    exact z_X_lab rfl
