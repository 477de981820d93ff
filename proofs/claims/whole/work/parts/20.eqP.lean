/-! printed: what the methods come to -/
set_option maxRecDepth 8000 in
set_option maxHeartbeats 2000000 in
theorem e_X_programOf (x1 : Int32) (h : z_H) : z_M 29 [.ref 0, .int x1] h = (if ¬ x1 = 0 then some (Int32.ofNat 25, h) else some (Int32.ofNat 17, h)) := by
  refine (z_M_eq (by decide)).trans ?_
  show z_X zc_X_programOf 1 (0, [(0, .ref 0), (1, .int x1)], [], h) = _
  refine (z_X_steps (s' := (1, [(0, .ref 0), (1, .int x1)], [.int x1], h)) 1 rfl).trans ?_
  refine (z_X_br (c := ¬ x1 = 0) (s1 := (11, [(0, .ref 0), (1, .int x1)], [], h)) (s2 := (4, [(0, .ref 0), (1, .int x1)], [], h)) rfl).trans (z_ite ?_ ?_)
  · refine (z_X_steps (s' := (15, [(0, .ref 0), (1, .int x1)], [.ref 25], h)) 2 rfl).trans ?_
    exact z_X_ret rfl
  · refine (z_X_steps (s' := (15, [(0, .ref 0), (1, .int x1)], [.ref 17], h)) 3 rfl).trans ?_
    exact z_X_ret rfl
set_option maxRecDepth 8000 in
set_option maxHeartbeats 2000000 in
theorem e_Rd_wordOf (x0 : Int32) (h : z_H) : z_M 58 [.int x0] h = (if x0 = 0 then some (Int32.ofNat 1000, h) else (if x0 = 1 then some (Int32.ofNat 1001, h) else (if x0 = 2 then some (Int32.ofNat 1002, h) else (if x0 = 3 then some (Int32.ofNat 1003, h) else (if x0 = 4 then some (Int32.ofNat 1004, h) else some (Int32.ofNat 1005, h)))))) := by
  refine (z_M_eq (by decide)).trans ?_
  show z_X zc_Rd_wordOf 1 (0, [(0, .int x0)], [], h) = _
  refine (z_X_steps (s' := (1, [(0, .int x0)], [.int x0], h)) 1 rfl).trans ?_
  refine (z_X_sw (d := (51, [(0, .int x0)], [], h)) (x := x0) (lo := [(0, .int x0)]) (stk := []) (h := h) (sw := [(0, 36), (1, 39), (2, 42), (3, 45), (4, 48)]) rfl).trans ?_
  refine z_ite ?_ ?_
  · refine (z_X_steps (s' := (38, [(0, .int x0)], [.ref 1000], h)) 1 rfl).trans ?_
    exact z_X_ret rfl
  refine z_ite ?_ ?_
  · refine (z_X_steps (s' := (41, [(0, .int x0)], [.ref 1001], h)) 1 rfl).trans ?_
    exact z_X_ret rfl
  refine z_ite ?_ ?_
  · refine (z_X_steps (s' := (44, [(0, .int x0)], [.ref 1002], h)) 1 rfl).trans ?_
    exact z_X_ret rfl
  refine z_ite ?_ ?_
  · refine (z_X_steps (s' := (47, [(0, .int x0)], [.ref 1003], h)) 1 rfl).trans ?_
    exact z_X_ret rfl
  refine z_ite ?_ ?_
  · refine (z_X_steps (s' := (50, [(0, .int x0)], [.ref 1004], h)) 1 rfl).trans ?_
    exact z_X_ret rfl
  refine (z_X_steps (s' := (53, [(0, .int x0)], [.ref 1005], h)) 1 rfl).trans ?_
  exact z_X_ret rfl
set_option maxRecDepth 8000 in
set_option maxHeartbeats 2000000 in
theorem e_P_clear {o : Nat} (hi : o ∈ [4, 17, 25, 73, 81, 94, 102]) (h : z_H) : z_M 68 [.ref o] h = z_bd (z_M 902 [.ref (o + 5), .int (-4)] (z_wI (z_wI h o 0 0) o 1 0)) (fun r1 h2 => z_bd (z_M 902 [.ref (o + 7), .int (-4)] h2) (fun r3 h4 => some (0, h4))) := by
  refine (z_M_eq (by decide)).trans ?_
  simp only [List.mem_cons, List.not_mem_nil, or_false, Prod.mk.injEq] at hi
  rcases hi with rfl | rfl | rfl | rfl | rfl | rfl | rfl
  · show z_X zc_P_clear 3 (0, [(0, .ref 4)], [], h) = _
    refine (z_X_steps (s' := (16, [(0, .ref 4)], [.int (-4), .ref (4 + 5)], (z_wI (z_wI h 4 0 0) 4 1 0))) 9 rfl).trans ?_
    refine (z_X_call (id := 902) (a := [.ref (4 + 5), .int (-4)]) (c := 0) (s' := (19, [(0, .ref 4)], [], (z_wI (z_wI h 4 0 0) 4 1 0))) rfl ⟨Nat.le_of_ble_eq_true rfl, Nat.le_of_ble_eq_true rfl⟩).trans ?_
    refine z_bdc fun r1 h2 => ?_
    refine (z_X_steps (s' := (25, [(0, .ref 4)], [.int (-4), .ref (4 + 7)], h2)) 3 rfl).trans ?_
    refine (z_X_call (id := 902) (a := [.ref (4 + 7), .int (-4)]) (c := 0) (s' := (28, [(0, .ref 4)], [], h2)) rfl ⟨Nat.le_of_ble_eq_true rfl, Nat.le_of_ble_eq_true rfl⟩).trans ?_
    refine z_bdc fun r3 h4 => ?_
    exact z_X_ret rfl
  · show z_X zc_P_clear 3 (0, [(0, .ref 17)], [], h) = _
    refine (z_X_steps (s' := (16, [(0, .ref 17)], [.int (-4), .ref (17 + 5)], (z_wI (z_wI h 17 0 0) 17 1 0))) 9 rfl).trans ?_
    refine (z_X_call (id := 902) (a := [.ref (17 + 5), .int (-4)]) (c := 0) (s' := (19, [(0, .ref 17)], [], (z_wI (z_wI h 17 0 0) 17 1 0))) rfl ⟨Nat.le_of_ble_eq_true rfl, Nat.le_of_ble_eq_true rfl⟩).trans ?_
    refine z_bdc fun r1 h2 => ?_
    refine (z_X_steps (s' := (25, [(0, .ref 17)], [.int (-4), .ref (17 + 7)], h2)) 3 rfl).trans ?_
    refine (z_X_call (id := 902) (a := [.ref (17 + 7), .int (-4)]) (c := 0) (s' := (28, [(0, .ref 17)], [], h2)) rfl ⟨Nat.le_of_ble_eq_true rfl, Nat.le_of_ble_eq_true rfl⟩).trans ?_
    refine z_bdc fun r3 h4 => ?_
    exact z_X_ret rfl
  · show z_X zc_P_clear 3 (0, [(0, .ref 25)], [], h) = _
    refine (z_X_steps (s' := (16, [(0, .ref 25)], [.int (-4), .ref (25 + 5)], (z_wI (z_wI h 25 0 0) 25 1 0))) 9 rfl).trans ?_
    refine (z_X_call (id := 902) (a := [.ref (25 + 5), .int (-4)]) (c := 0) (s' := (19, [(0, .ref 25)], [], (z_wI (z_wI h 25 0 0) 25 1 0))) rfl ⟨Nat.le_of_ble_eq_true rfl, Nat.le_of_ble_eq_true rfl⟩).trans ?_
    refine z_bdc fun r1 h2 => ?_
    refine (z_X_steps (s' := (25, [(0, .ref 25)], [.int (-4), .ref (25 + 7)], h2)) 3 rfl).trans ?_
    refine (z_X_call (id := 902) (a := [.ref (25 + 7), .int (-4)]) (c := 0) (s' := (28, [(0, .ref 25)], [], h2)) rfl ⟨Nat.le_of_ble_eq_true rfl, Nat.le_of_ble_eq_true rfl⟩).trans ?_
    refine z_bdc fun r3 h4 => ?_
    exact z_X_ret rfl
  · show z_X zc_P_clear 3 (0, [(0, .ref 73)], [], h) = _
    refine (z_X_steps (s' := (16, [(0, .ref 73)], [.int (-4), .ref (73 + 5)], (z_wI (z_wI h 73 0 0) 73 1 0))) 9 rfl).trans ?_
    refine (z_X_call (id := 902) (a := [.ref (73 + 5), .int (-4)]) (c := 0) (s' := (19, [(0, .ref 73)], [], (z_wI (z_wI h 73 0 0) 73 1 0))) rfl ⟨Nat.le_of_ble_eq_true rfl, Nat.le_of_ble_eq_true rfl⟩).trans ?_
    refine z_bdc fun r1 h2 => ?_
    refine (z_X_steps (s' := (25, [(0, .ref 73)], [.int (-4), .ref (73 + 7)], h2)) 3 rfl).trans ?_
    refine (z_X_call (id := 902) (a := [.ref (73 + 7), .int (-4)]) (c := 0) (s' := (28, [(0, .ref 73)], [], h2)) rfl ⟨Nat.le_of_ble_eq_true rfl, Nat.le_of_ble_eq_true rfl⟩).trans ?_
    refine z_bdc fun r3 h4 => ?_
    exact z_X_ret rfl
  · show z_X zc_P_clear 3 (0, [(0, .ref 81)], [], h) = _
    refine (z_X_steps (s' := (16, [(0, .ref 81)], [.int (-4), .ref (81 + 5)], (z_wI (z_wI h 81 0 0) 81 1 0))) 9 rfl).trans ?_
    refine (z_X_call (id := 902) (a := [.ref (81 + 5), .int (-4)]) (c := 0) (s' := (19, [(0, .ref 81)], [], (z_wI (z_wI h 81 0 0) 81 1 0))) rfl ⟨Nat.le_of_ble_eq_true rfl, Nat.le_of_ble_eq_true rfl⟩).trans ?_
    refine z_bdc fun r1 h2 => ?_
    refine (z_X_steps (s' := (25, [(0, .ref 81)], [.int (-4), .ref (81 + 7)], h2)) 3 rfl).trans ?_
    refine (z_X_call (id := 902) (a := [.ref (81 + 7), .int (-4)]) (c := 0) (s' := (28, [(0, .ref 81)], [], h2)) rfl ⟨Nat.le_of_ble_eq_true rfl, Nat.le_of_ble_eq_true rfl⟩).trans ?_
    refine z_bdc fun r3 h4 => ?_
    exact z_X_ret rfl
  · show z_X zc_P_clear 3 (0, [(0, .ref 94)], [], h) = _
    refine (z_X_steps (s' := (16, [(0, .ref 94)], [.int (-4), .ref (94 + 5)], (z_wI (z_wI h 94 0 0) 94 1 0))) 9 rfl).trans ?_
    refine (z_X_call (id := 902) (a := [.ref (94 + 5), .int (-4)]) (c := 0) (s' := (19, [(0, .ref 94)], [], (z_wI (z_wI h 94 0 0) 94 1 0))) rfl ⟨Nat.le_of_ble_eq_true rfl, Nat.le_of_ble_eq_true rfl⟩).trans ?_
    refine z_bdc fun r1 h2 => ?_
    refine (z_X_steps (s' := (25, [(0, .ref 94)], [.int (-4), .ref (94 + 7)], h2)) 3 rfl).trans ?_
    refine (z_X_call (id := 902) (a := [.ref (94 + 7), .int (-4)]) (c := 0) (s' := (28, [(0, .ref 94)], [], h2)) rfl ⟨Nat.le_of_ble_eq_true rfl, Nat.le_of_ble_eq_true rfl⟩).trans ?_
    refine z_bdc fun r3 h4 => ?_
    exact z_X_ret rfl
  · show z_X zc_P_clear 3 (0, [(0, .ref 102)], [], h) = _
    refine (z_X_steps (s' := (16, [(0, .ref 102)], [.int (-4), .ref (102 + 5)], (z_wI (z_wI h 102 0 0) 102 1 0))) 9 rfl).trans ?_
    refine (z_X_call (id := 902) (a := [.ref (102 + 5), .int (-4)]) (c := 0) (s' := (19, [(0, .ref 102)], [], (z_wI (z_wI h 102 0 0) 102 1 0))) rfl ⟨Nat.le_of_ble_eq_true rfl, Nat.le_of_ble_eq_true rfl⟩).trans ?_
    refine z_bdc fun r1 h2 => ?_
    refine (z_X_steps (s' := (25, [(0, .ref 102)], [.int (-4), .ref (102 + 7)], h2)) 3 rfl).trans ?_
    refine (z_X_call (id := 902) (a := [.ref (102 + 7), .int (-4)]) (c := 0) (s' := (28, [(0, .ref 102)], [], h2)) rfl ⟨Nat.le_of_ble_eq_true rfl, Nat.le_of_ble_eq_true rfl⟩).trans ?_
    refine z_bdc fun r3 h4 => ?_
    exact z_X_ret rfl
set_option maxRecDepth 8000 in
set_option maxHeartbeats 2000000 in
theorem e_P_becomeAs {o : Nat} {p : Nat} (hi : (o, p) ∈ [(17, 4), (25, 4), (17, 25), (25, 17), (73, 17), (94, 17), (81, 25), (102, 25), (17, 73), (17, 94), (25, 81), (25, 102)]) (h : z_H) : z_M 69 [.ref o, .ref p] h = some (0, (z_cpI (z_cpI (z_cpI (z_cpI (z_cpI (z_cpI (z_cpI (z_wI (z_wI h o 0 (h.1 p 0)) o 1 ((z_wI h o 0 (h.1 p 0)).1 p 1)) (p + 1) 0 (o + 1) 0 6) (p + 2) 0 (o + 2) 0 48) (p + 3) 0 (o + 3) 0 48) (p + 4) 0 (o + 4) 0 48) (p + 5) 0 (o + 5) 0 96) (p + 6) 0 (o + 6) 0 4) (p + 7) 0 (o + 7) 0 16)) := by
  refine (z_M_eq (by decide)).trans ?_
  simp only [List.mem_cons, List.not_mem_nil, or_false, Prod.mk.injEq] at hi
  rcases hi with ⟨rfl, rfl⟩ | ⟨rfl, rfl⟩ | ⟨rfl, rfl⟩ | ⟨rfl, rfl⟩ | ⟨rfl, rfl⟩ | ⟨rfl, rfl⟩ | ⟨rfl, rfl⟩ | ⟨rfl, rfl⟩ | ⟨rfl, rfl⟩ | ⟨rfl, rfl⟩ | ⟨rfl, rfl⟩ | ⟨rfl, rfl⟩
  · show z_X zc_P_becomeAs 2 (0, [(0, .ref 17), (1, .ref 4)], [], h) = _
    refine (z_X_steps (s' := (142, [(0, .ref 17), (1, .ref 4)], [], (z_cpI (z_cpI (z_cpI (z_cpI (z_cpI (z_cpI (z_cpI (z_wI (z_wI h 17 0 (h.1 4 0)) 17 1 ((z_wI h 17 0 (h.1 4 0)).1 4 1)) (4 + 1) 0 (17 + 1) 0 6) (4 + 2) 0 (17 + 2) 0 48) (4 + 3) 0 (17 + 3) 0 48) (4 + 4) 0 (17 + 4) 0 48) (4 + 5) 0 (17 + 5) 0 96) (4 + 6) 0 (17 + 6) 0 4) (4 + 7) 0 (17 + 7) 0 16))) 78 rfl).trans ?_
    exact z_X_ret rfl
  · show z_X zc_P_becomeAs 2 (0, [(0, .ref 25), (1, .ref 4)], [], h) = _
    refine (z_X_steps (s' := (142, [(0, .ref 25), (1, .ref 4)], [], (z_cpI (z_cpI (z_cpI (z_cpI (z_cpI (z_cpI (z_cpI (z_wI (z_wI h 25 0 (h.1 4 0)) 25 1 ((z_wI h 25 0 (h.1 4 0)).1 4 1)) (4 + 1) 0 (25 + 1) 0 6) (4 + 2) 0 (25 + 2) 0 48) (4 + 3) 0 (25 + 3) 0 48) (4 + 4) 0 (25 + 4) 0 48) (4 + 5) 0 (25 + 5) 0 96) (4 + 6) 0 (25 + 6) 0 4) (4 + 7) 0 (25 + 7) 0 16))) 78 rfl).trans ?_
    exact z_X_ret rfl
  · show z_X zc_P_becomeAs 2 (0, [(0, .ref 17), (1, .ref 25)], [], h) = _
    refine (z_X_steps (s' := (142, [(0, .ref 17), (1, .ref 25)], [], (z_cpI (z_cpI (z_cpI (z_cpI (z_cpI (z_cpI (z_cpI (z_wI (z_wI h 17 0 (h.1 25 0)) 17 1 ((z_wI h 17 0 (h.1 25 0)).1 25 1)) (25 + 1) 0 (17 + 1) 0 6) (25 + 2) 0 (17 + 2) 0 48) (25 + 3) 0 (17 + 3) 0 48) (25 + 4) 0 (17 + 4) 0 48) (25 + 5) 0 (17 + 5) 0 96) (25 + 6) 0 (17 + 6) 0 4) (25 + 7) 0 (17 + 7) 0 16))) 78 rfl).trans ?_
    exact z_X_ret rfl
  · show z_X zc_P_becomeAs 2 (0, [(0, .ref 25), (1, .ref 17)], [], h) = _
    refine (z_X_steps (s' := (142, [(0, .ref 25), (1, .ref 17)], [], (z_cpI (z_cpI (z_cpI (z_cpI (z_cpI (z_cpI (z_cpI (z_wI (z_wI h 25 0 (h.1 17 0)) 25 1 ((z_wI h 25 0 (h.1 17 0)).1 17 1)) (17 + 1) 0 (25 + 1) 0 6) (17 + 2) 0 (25 + 2) 0 48) (17 + 3) 0 (25 + 3) 0 48) (17 + 4) 0 (25 + 4) 0 48) (17 + 5) 0 (25 + 5) 0 96) (17 + 6) 0 (25 + 6) 0 4) (17 + 7) 0 (25 + 7) 0 16))) 78 rfl).trans ?_
    exact z_X_ret rfl
  · show z_X zc_P_becomeAs 2 (0, [(0, .ref 73), (1, .ref 17)], [], h) = _
    refine (z_X_steps (s' := (142, [(0, .ref 73), (1, .ref 17)], [], (z_cpI (z_cpI (z_cpI (z_cpI (z_cpI (z_cpI (z_cpI (z_wI (z_wI h 73 0 (h.1 17 0)) 73 1 ((z_wI h 73 0 (h.1 17 0)).1 17 1)) (17 + 1) 0 (73 + 1) 0 6) (17 + 2) 0 (73 + 2) 0 48) (17 + 3) 0 (73 + 3) 0 48) (17 + 4) 0 (73 + 4) 0 48) (17 + 5) 0 (73 + 5) 0 96) (17 + 6) 0 (73 + 6) 0 4) (17 + 7) 0 (73 + 7) 0 16))) 78 rfl).trans ?_
    exact z_X_ret rfl
  · show z_X zc_P_becomeAs 2 (0, [(0, .ref 94), (1, .ref 17)], [], h) = _
    refine (z_X_steps (s' := (142, [(0, .ref 94), (1, .ref 17)], [], (z_cpI (z_cpI (z_cpI (z_cpI (z_cpI (z_cpI (z_cpI (z_wI (z_wI h 94 0 (h.1 17 0)) 94 1 ((z_wI h 94 0 (h.1 17 0)).1 17 1)) (17 + 1) 0 (94 + 1) 0 6) (17 + 2) 0 (94 + 2) 0 48) (17 + 3) 0 (94 + 3) 0 48) (17 + 4) 0 (94 + 4) 0 48) (17 + 5) 0 (94 + 5) 0 96) (17 + 6) 0 (94 + 6) 0 4) (17 + 7) 0 (94 + 7) 0 16))) 78 rfl).trans ?_
    exact z_X_ret rfl
  · show z_X zc_P_becomeAs 2 (0, [(0, .ref 81), (1, .ref 25)], [], h) = _
    refine (z_X_steps (s' := (142, [(0, .ref 81), (1, .ref 25)], [], (z_cpI (z_cpI (z_cpI (z_cpI (z_cpI (z_cpI (z_cpI (z_wI (z_wI h 81 0 (h.1 25 0)) 81 1 ((z_wI h 81 0 (h.1 25 0)).1 25 1)) (25 + 1) 0 (81 + 1) 0 6) (25 + 2) 0 (81 + 2) 0 48) (25 + 3) 0 (81 + 3) 0 48) (25 + 4) 0 (81 + 4) 0 48) (25 + 5) 0 (81 + 5) 0 96) (25 + 6) 0 (81 + 6) 0 4) (25 + 7) 0 (81 + 7) 0 16))) 78 rfl).trans ?_
    exact z_X_ret rfl
  · show z_X zc_P_becomeAs 2 (0, [(0, .ref 102), (1, .ref 25)], [], h) = _
    refine (z_X_steps (s' := (142, [(0, .ref 102), (1, .ref 25)], [], (z_cpI (z_cpI (z_cpI (z_cpI (z_cpI (z_cpI (z_cpI (z_wI (z_wI h 102 0 (h.1 25 0)) 102 1 ((z_wI h 102 0 (h.1 25 0)).1 25 1)) (25 + 1) 0 (102 + 1) 0 6) (25 + 2) 0 (102 + 2) 0 48) (25 + 3) 0 (102 + 3) 0 48) (25 + 4) 0 (102 + 4) 0 48) (25 + 5) 0 (102 + 5) 0 96) (25 + 6) 0 (102 + 6) 0 4) (25 + 7) 0 (102 + 7) 0 16))) 78 rfl).trans ?_
    exact z_X_ret rfl
  · show z_X zc_P_becomeAs 2 (0, [(0, .ref 17), (1, .ref 73)], [], h) = _
    refine (z_X_steps (s' := (142, [(0, .ref 17), (1, .ref 73)], [], (z_cpI (z_cpI (z_cpI (z_cpI (z_cpI (z_cpI (z_cpI (z_wI (z_wI h 17 0 (h.1 73 0)) 17 1 ((z_wI h 17 0 (h.1 73 0)).1 73 1)) (73 + 1) 0 (17 + 1) 0 6) (73 + 2) 0 (17 + 2) 0 48) (73 + 3) 0 (17 + 3) 0 48) (73 + 4) 0 (17 + 4) 0 48) (73 + 5) 0 (17 + 5) 0 96) (73 + 6) 0 (17 + 6) 0 4) (73 + 7) 0 (17 + 7) 0 16))) 78 rfl).trans ?_
    exact z_X_ret rfl
  · show z_X zc_P_becomeAs 2 (0, [(0, .ref 17), (1, .ref 94)], [], h) = _
    refine (z_X_steps (s' := (142, [(0, .ref 17), (1, .ref 94)], [], (z_cpI (z_cpI (z_cpI (z_cpI (z_cpI (z_cpI (z_cpI (z_wI (z_wI h 17 0 (h.1 94 0)) 17 1 ((z_wI h 17 0 (h.1 94 0)).1 94 1)) (94 + 1) 0 (17 + 1) 0 6) (94 + 2) 0 (17 + 2) 0 48) (94 + 3) 0 (17 + 3) 0 48) (94 + 4) 0 (17 + 4) 0 48) (94 + 5) 0 (17 + 5) 0 96) (94 + 6) 0 (17 + 6) 0 4) (94 + 7) 0 (17 + 7) 0 16))) 78 rfl).trans ?_
    exact z_X_ret rfl
  · show z_X zc_P_becomeAs 2 (0, [(0, .ref 25), (1, .ref 81)], [], h) = _
    refine (z_X_steps (s' := (142, [(0, .ref 25), (1, .ref 81)], [], (z_cpI (z_cpI (z_cpI (z_cpI (z_cpI (z_cpI (z_cpI (z_wI (z_wI h 25 0 (h.1 81 0)) 25 1 ((z_wI h 25 0 (h.1 81 0)).1 81 1)) (81 + 1) 0 (25 + 1) 0 6) (81 + 2) 0 (25 + 2) 0 48) (81 + 3) 0 (25 + 3) 0 48) (81 + 4) 0 (25 + 4) 0 48) (81 + 5) 0 (25 + 5) 0 96) (81 + 6) 0 (25 + 6) 0 4) (81 + 7) 0 (25 + 7) 0 16))) 78 rfl).trans ?_
    exact z_X_ret rfl
  · show z_X zc_P_becomeAs 2 (0, [(0, .ref 25), (1, .ref 102)], [], h) = _
    refine (z_X_steps (s' := (142, [(0, .ref 25), (1, .ref 102)], [], (z_cpI (z_cpI (z_cpI (z_cpI (z_cpI (z_cpI (z_cpI (z_wI (z_wI h 25 0 (h.1 102 0)) 25 1 ((z_wI h 25 0 (h.1 102 0)).1 102 1)) (102 + 1) 0 (25 + 1) 0 6) (102 + 2) 0 (25 + 2) 0 48) (102 + 3) 0 (25 + 3) 0 48) (102 + 4) 0 (25 + 4) 0 48) (102 + 5) 0 (25 + 5) 0 96) (102 + 6) 0 (25 + 6) 0 4) (102 + 7) 0 (25 + 7) 0 16))) 78 rfl).trans ?_
    exact z_X_ret rfl
set_option maxRecDepth 8000 in
set_option maxHeartbeats 2000000 in
theorem e_P_hasMethod {o : Nat} (hi : o ∈ [4, 17, 25, 73, 81, 94, 102]) (x1 : Int32) (h : z_H) : z_M 70 [.ref o, .int x1] h = (if x1 < 0 then some (0, h) else (if h.1 o 0 ≤ x1 then some (0, h) else some (1, h))) := by
  refine (z_M_eq (by decide)).trans ?_
  simp only [List.mem_cons, List.not_mem_nil, or_false, Prod.mk.injEq] at hi
  rcases hi with rfl | rfl | rfl | rfl | rfl | rfl | rfl
  · show z_X zc_P_hasMethod 1 (0, [(0, .ref 4), (1, .int x1)], [], h) = _
    refine (z_X_steps (s' := (1, [(0, .ref 4), (1, .int x1)], [.int x1], h)) 1 rfl).trans ?_
    refine (z_X_br (c := x1 < 0) (s1 := (16, [(0, .ref 4), (1, .int x1)], [], h)) (s2 := (4, [(0, .ref 4), (1, .int x1)], [], h)) rfl).trans (z_ite ?_ ?_)
    · refine (z_X_steps (s' := (17, [(0, .ref 4), (1, .int x1)], [.int 0], h)) 1 rfl).trans ?_
      exact z_X_ret rfl
    · refine (z_X_steps (s' := (9, [(0, .ref 4), (1, .int x1)], [.int (h.1 4 0), .int x1], h)) 3 rfl).trans ?_
      refine (z_X_br (c := h.1 4 0 ≤ x1) (s1 := (16, [(0, .ref 4), (1, .int x1)], [], h)) (s2 := (12, [(0, .ref 4), (1, .int x1)], [], h)) rfl).trans (z_ite ?_ ?_)
      · refine (z_X_steps (s' := (17, [(0, .ref 4), (1, .int x1)], [.int 0], h)) 1 rfl).trans ?_
        exact z_X_ret rfl
      · refine (z_X_steps (s' := (17, [(0, .ref 4), (1, .int x1)], [.int 1], h)) 2 rfl).trans ?_
        exact z_X_ret rfl
  · show z_X zc_P_hasMethod 1 (0, [(0, .ref 17), (1, .int x1)], [], h) = _
    refine (z_X_steps (s' := (1, [(0, .ref 17), (1, .int x1)], [.int x1], h)) 1 rfl).trans ?_
    refine (z_X_br (c := x1 < 0) (s1 := (16, [(0, .ref 17), (1, .int x1)], [], h)) (s2 := (4, [(0, .ref 17), (1, .int x1)], [], h)) rfl).trans (z_ite ?_ ?_)
    · refine (z_X_steps (s' := (17, [(0, .ref 17), (1, .int x1)], [.int 0], h)) 1 rfl).trans ?_
      exact z_X_ret rfl
    · refine (z_X_steps (s' := (9, [(0, .ref 17), (1, .int x1)], [.int (h.1 17 0), .int x1], h)) 3 rfl).trans ?_
      refine (z_X_br (c := h.1 17 0 ≤ x1) (s1 := (16, [(0, .ref 17), (1, .int x1)], [], h)) (s2 := (12, [(0, .ref 17), (1, .int x1)], [], h)) rfl).trans (z_ite ?_ ?_)
      · refine (z_X_steps (s' := (17, [(0, .ref 17), (1, .int x1)], [.int 0], h)) 1 rfl).trans ?_
        exact z_X_ret rfl
      · refine (z_X_steps (s' := (17, [(0, .ref 17), (1, .int x1)], [.int 1], h)) 2 rfl).trans ?_
        exact z_X_ret rfl
  · show z_X zc_P_hasMethod 1 (0, [(0, .ref 25), (1, .int x1)], [], h) = _
    refine (z_X_steps (s' := (1, [(0, .ref 25), (1, .int x1)], [.int x1], h)) 1 rfl).trans ?_
    refine (z_X_br (c := x1 < 0) (s1 := (16, [(0, .ref 25), (1, .int x1)], [], h)) (s2 := (4, [(0, .ref 25), (1, .int x1)], [], h)) rfl).trans (z_ite ?_ ?_)
    · refine (z_X_steps (s' := (17, [(0, .ref 25), (1, .int x1)], [.int 0], h)) 1 rfl).trans ?_
      exact z_X_ret rfl
    · refine (z_X_steps (s' := (9, [(0, .ref 25), (1, .int x1)], [.int (h.1 25 0), .int x1], h)) 3 rfl).trans ?_
      refine (z_X_br (c := h.1 25 0 ≤ x1) (s1 := (16, [(0, .ref 25), (1, .int x1)], [], h)) (s2 := (12, [(0, .ref 25), (1, .int x1)], [], h)) rfl).trans (z_ite ?_ ?_)
      · refine (z_X_steps (s' := (17, [(0, .ref 25), (1, .int x1)], [.int 0], h)) 1 rfl).trans ?_
        exact z_X_ret rfl
      · refine (z_X_steps (s' := (17, [(0, .ref 25), (1, .int x1)], [.int 1], h)) 2 rfl).trans ?_
        exact z_X_ret rfl
  · show z_X zc_P_hasMethod 1 (0, [(0, .ref 73), (1, .int x1)], [], h) = _
    refine (z_X_steps (s' := (1, [(0, .ref 73), (1, .int x1)], [.int x1], h)) 1 rfl).trans ?_
    refine (z_X_br (c := x1 < 0) (s1 := (16, [(0, .ref 73), (1, .int x1)], [], h)) (s2 := (4, [(0, .ref 73), (1, .int x1)], [], h)) rfl).trans (z_ite ?_ ?_)
    · refine (z_X_steps (s' := (17, [(0, .ref 73), (1, .int x1)], [.int 0], h)) 1 rfl).trans ?_
      exact z_X_ret rfl
    · refine (z_X_steps (s' := (9, [(0, .ref 73), (1, .int x1)], [.int (h.1 73 0), .int x1], h)) 3 rfl).trans ?_
      refine (z_X_br (c := h.1 73 0 ≤ x1) (s1 := (16, [(0, .ref 73), (1, .int x1)], [], h)) (s2 := (12, [(0, .ref 73), (1, .int x1)], [], h)) rfl).trans (z_ite ?_ ?_)
      · refine (z_X_steps (s' := (17, [(0, .ref 73), (1, .int x1)], [.int 0], h)) 1 rfl).trans ?_
        exact z_X_ret rfl
      · refine (z_X_steps (s' := (17, [(0, .ref 73), (1, .int x1)], [.int 1], h)) 2 rfl).trans ?_
        exact z_X_ret rfl
  · show z_X zc_P_hasMethod 1 (0, [(0, .ref 81), (1, .int x1)], [], h) = _
    refine (z_X_steps (s' := (1, [(0, .ref 81), (1, .int x1)], [.int x1], h)) 1 rfl).trans ?_
    refine (z_X_br (c := x1 < 0) (s1 := (16, [(0, .ref 81), (1, .int x1)], [], h)) (s2 := (4, [(0, .ref 81), (1, .int x1)], [], h)) rfl).trans (z_ite ?_ ?_)
    · refine (z_X_steps (s' := (17, [(0, .ref 81), (1, .int x1)], [.int 0], h)) 1 rfl).trans ?_
      exact z_X_ret rfl
    · refine (z_X_steps (s' := (9, [(0, .ref 81), (1, .int x1)], [.int (h.1 81 0), .int x1], h)) 3 rfl).trans ?_
      refine (z_X_br (c := h.1 81 0 ≤ x1) (s1 := (16, [(0, .ref 81), (1, .int x1)], [], h)) (s2 := (12, [(0, .ref 81), (1, .int x1)], [], h)) rfl).trans (z_ite ?_ ?_)
      · refine (z_X_steps (s' := (17, [(0, .ref 81), (1, .int x1)], [.int 0], h)) 1 rfl).trans ?_
        exact z_X_ret rfl
      · refine (z_X_steps (s' := (17, [(0, .ref 81), (1, .int x1)], [.int 1], h)) 2 rfl).trans ?_
        exact z_X_ret rfl
  · show z_X zc_P_hasMethod 1 (0, [(0, .ref 94), (1, .int x1)], [], h) = _
    refine (z_X_steps (s' := (1, [(0, .ref 94), (1, .int x1)], [.int x1], h)) 1 rfl).trans ?_
    refine (z_X_br (c := x1 < 0) (s1 := (16, [(0, .ref 94), (1, .int x1)], [], h)) (s2 := (4, [(0, .ref 94), (1, .int x1)], [], h)) rfl).trans (z_ite ?_ ?_)
    · refine (z_X_steps (s' := (17, [(0, .ref 94), (1, .int x1)], [.int 0], h)) 1 rfl).trans ?_
      exact z_X_ret rfl
    · refine (z_X_steps (s' := (9, [(0, .ref 94), (1, .int x1)], [.int (h.1 94 0), .int x1], h)) 3 rfl).trans ?_
      refine (z_X_br (c := h.1 94 0 ≤ x1) (s1 := (16, [(0, .ref 94), (1, .int x1)], [], h)) (s2 := (12, [(0, .ref 94), (1, .int x1)], [], h)) rfl).trans (z_ite ?_ ?_)
      · refine (z_X_steps (s' := (17, [(0, .ref 94), (1, .int x1)], [.int 0], h)) 1 rfl).trans ?_
        exact z_X_ret rfl
      · refine (z_X_steps (s' := (17, [(0, .ref 94), (1, .int x1)], [.int 1], h)) 2 rfl).trans ?_
        exact z_X_ret rfl
  · show z_X zc_P_hasMethod 1 (0, [(0, .ref 102), (1, .int x1)], [], h) = _
    refine (z_X_steps (s' := (1, [(0, .ref 102), (1, .int x1)], [.int x1], h)) 1 rfl).trans ?_
    refine (z_X_br (c := x1 < 0) (s1 := (16, [(0, .ref 102), (1, .int x1)], [], h)) (s2 := (4, [(0, .ref 102), (1, .int x1)], [], h)) rfl).trans (z_ite ?_ ?_)
    · refine (z_X_steps (s' := (17, [(0, .ref 102), (1, .int x1)], [.int 0], h)) 1 rfl).trans ?_
      exact z_X_ret rfl
    · refine (z_X_steps (s' := (9, [(0, .ref 102), (1, .int x1)], [.int (h.1 102 0), .int x1], h)) 3 rfl).trans ?_
      refine (z_X_br (c := h.1 102 0 ≤ x1) (s1 := (16, [(0, .ref 102), (1, .int x1)], [], h)) (s2 := (12, [(0, .ref 102), (1, .int x1)], [], h)) rfl).trans (z_ite ?_ ?_)
      · refine (z_X_steps (s' := (17, [(0, .ref 102), (1, .int x1)], [.int 0], h)) 1 rfl).trans ?_
        exact z_X_ret rfl
      · refine (z_X_steps (s' := (17, [(0, .ref 102), (1, .int x1)], [.int 1], h)) 2 rfl).trans ?_
        exact z_X_ret rfl
set_option maxRecDepth 8000 in
set_option maxHeartbeats 2000000 in
theorem e_P_hasNode {o : Nat} (hi : o ∈ [4, 17, 25, 73, 81, 94, 102]) (x1 : Int32) (x2 : Int32) (h : z_H) : z_M 71 [.ref o, .int x1, .int x2] h = z_bd (z_M 70 [.ref o, .int x1] h) (fun r1 h2 => (if r1 = 0 then some (0, h2) else (if x2 < 0 then some (0, h2) else (bif z_in x1 6 then (if h2.1 (o + 1) (x1.toNatClampNeg) ≤ x2 then some (0, h2) else some (1, h2)) else none)))) := by
  refine (z_M_eq (by decide)).trans ?_
  simp only [List.mem_cons, List.not_mem_nil, or_false, Prod.mk.injEq] at hi
  rcases hi with rfl | rfl | rfl | rfl | rfl | rfl | rfl
  · show z_X zc_P_hasNode 2 (0, [(0, .ref 4), (1, .int x1), (2, .int x2)], [], h) = _
    refine (z_X_steps (s' := (2, [(0, .ref 4), (1, .int x1), (2, .int x2)], [.int x1, .ref 4], h)) 2 rfl).trans ?_
    refine (z_X_call (id := 70) (a := [.ref 4, .int x1]) (c := 1) (s' := (5, [(0, .ref 4), (1, .int x1), (2, .int x2)], [], h)) rfl ⟨Nat.le_of_ble_eq_true rfl, Nat.le_of_ble_eq_true rfl⟩).trans ?_
    refine z_bdc fun r1 h2 => ?_
    refine (z_X_br (c := r1 = 0) (s1 := (26, [(0, .ref 4), (1, .int x1), (2, .int x2)], [], h2)) (s2 := (8, [(0, .ref 4), (1, .int x1), (2, .int x2)], [], h2)) rfl).trans (z_ite ?_ ?_)
    · refine (z_X_steps (s' := (27, [(0, .ref 4), (1, .int x1), (2, .int x2)], [.int 0], h2)) 1 rfl).trans ?_
      exact z_X_ret rfl
    · refine (z_X_steps (s' := (9, [(0, .ref 4), (1, .int x1), (2, .int x2)], [.int x2], h2)) 1 rfl).trans ?_
      refine (z_X_br (c := x2 < 0) (s1 := (26, [(0, .ref 4), (1, .int x1), (2, .int x2)], [], h2)) (s2 := (12, [(0, .ref 4), (1, .int x1), (2, .int x2)], [], h2)) rfl).trans (z_ite ?_ ?_)
      · refine (z_X_steps (s' := (27, [(0, .ref 4), (1, .int x1), (2, .int x2)], [.int 0], h2)) 1 rfl).trans ?_
        exact z_X_ret rfl
      · refine (z_X_steps (s' := (18, [(0, .ref 4), (1, .int x1), (2, .int x2)], [.int x1, .ref (4 + 1), .int x2], h2)) 4 rfl).trans ?_
        refine (z_X_if (g := z_in x1 6) (s' := (19, [(0, .ref 4), (1, .int x1), (2, .int x2)], [.int (h2.1 (4 + 1) (x1.toNatClampNeg)), .int x2], h2)) rfl).trans (z_bifA ?_)
        refine (z_X_br (c := h2.1 (4 + 1) (x1.toNatClampNeg) ≤ x2) (s1 := (26, [(0, .ref 4), (1, .int x1), (2, .int x2)], [], h2)) (s2 := (22, [(0, .ref 4), (1, .int x1), (2, .int x2)], [], h2)) rfl).trans (z_ite ?_ ?_)
        · refine (z_X_steps (s' := (27, [(0, .ref 4), (1, .int x1), (2, .int x2)], [.int 0], h2)) 1 rfl).trans ?_
          exact z_X_ret rfl
        · refine (z_X_steps (s' := (27, [(0, .ref 4), (1, .int x1), (2, .int x2)], [.int 1], h2)) 2 rfl).trans ?_
          exact z_X_ret rfl
  · show z_X zc_P_hasNode 2 (0, [(0, .ref 17), (1, .int x1), (2, .int x2)], [], h) = _
    refine (z_X_steps (s' := (2, [(0, .ref 17), (1, .int x1), (2, .int x2)], [.int x1, .ref 17], h)) 2 rfl).trans ?_
    refine (z_X_call (id := 70) (a := [.ref 17, .int x1]) (c := 1) (s' := (5, [(0, .ref 17), (1, .int x1), (2, .int x2)], [], h)) rfl ⟨Nat.le_of_ble_eq_true rfl, Nat.le_of_ble_eq_true rfl⟩).trans ?_
    refine z_bdc fun r1 h2 => ?_
    refine (z_X_br (c := r1 = 0) (s1 := (26, [(0, .ref 17), (1, .int x1), (2, .int x2)], [], h2)) (s2 := (8, [(0, .ref 17), (1, .int x1), (2, .int x2)], [], h2)) rfl).trans (z_ite ?_ ?_)
    · refine (z_X_steps (s' := (27, [(0, .ref 17), (1, .int x1), (2, .int x2)], [.int 0], h2)) 1 rfl).trans ?_
      exact z_X_ret rfl
    · refine (z_X_steps (s' := (9, [(0, .ref 17), (1, .int x1), (2, .int x2)], [.int x2], h2)) 1 rfl).trans ?_
      refine (z_X_br (c := x2 < 0) (s1 := (26, [(0, .ref 17), (1, .int x1), (2, .int x2)], [], h2)) (s2 := (12, [(0, .ref 17), (1, .int x1), (2, .int x2)], [], h2)) rfl).trans (z_ite ?_ ?_)
      · refine (z_X_steps (s' := (27, [(0, .ref 17), (1, .int x1), (2, .int x2)], [.int 0], h2)) 1 rfl).trans ?_
        exact z_X_ret rfl
      · refine (z_X_steps (s' := (18, [(0, .ref 17), (1, .int x1), (2, .int x2)], [.int x1, .ref (17 + 1), .int x2], h2)) 4 rfl).trans ?_
        refine (z_X_if (g := z_in x1 6) (s' := (19, [(0, .ref 17), (1, .int x1), (2, .int x2)], [.int (h2.1 (17 + 1) (x1.toNatClampNeg)), .int x2], h2)) rfl).trans (z_bifA ?_)
        refine (z_X_br (c := h2.1 (17 + 1) (x1.toNatClampNeg) ≤ x2) (s1 := (26, [(0, .ref 17), (1, .int x1), (2, .int x2)], [], h2)) (s2 := (22, [(0, .ref 17), (1, .int x1), (2, .int x2)], [], h2)) rfl).trans (z_ite ?_ ?_)
        · refine (z_X_steps (s' := (27, [(0, .ref 17), (1, .int x1), (2, .int x2)], [.int 0], h2)) 1 rfl).trans ?_
          exact z_X_ret rfl
        · refine (z_X_steps (s' := (27, [(0, .ref 17), (1, .int x1), (2, .int x2)], [.int 1], h2)) 2 rfl).trans ?_
          exact z_X_ret rfl
  · show z_X zc_P_hasNode 2 (0, [(0, .ref 25), (1, .int x1), (2, .int x2)], [], h) = _
    refine (z_X_steps (s' := (2, [(0, .ref 25), (1, .int x1), (2, .int x2)], [.int x1, .ref 25], h)) 2 rfl).trans ?_
    refine (z_X_call (id := 70) (a := [.ref 25, .int x1]) (c := 1) (s' := (5, [(0, .ref 25), (1, .int x1), (2, .int x2)], [], h)) rfl ⟨Nat.le_of_ble_eq_true rfl, Nat.le_of_ble_eq_true rfl⟩).trans ?_
    refine z_bdc fun r1 h2 => ?_
    refine (z_X_br (c := r1 = 0) (s1 := (26, [(0, .ref 25), (1, .int x1), (2, .int x2)], [], h2)) (s2 := (8, [(0, .ref 25), (1, .int x1), (2, .int x2)], [], h2)) rfl).trans (z_ite ?_ ?_)
    · refine (z_X_steps (s' := (27, [(0, .ref 25), (1, .int x1), (2, .int x2)], [.int 0], h2)) 1 rfl).trans ?_
      exact z_X_ret rfl
    · refine (z_X_steps (s' := (9, [(0, .ref 25), (1, .int x1), (2, .int x2)], [.int x2], h2)) 1 rfl).trans ?_
      refine (z_X_br (c := x2 < 0) (s1 := (26, [(0, .ref 25), (1, .int x1), (2, .int x2)], [], h2)) (s2 := (12, [(0, .ref 25), (1, .int x1), (2, .int x2)], [], h2)) rfl).trans (z_ite ?_ ?_)
      · refine (z_X_steps (s' := (27, [(0, .ref 25), (1, .int x1), (2, .int x2)], [.int 0], h2)) 1 rfl).trans ?_
        exact z_X_ret rfl
      · refine (z_X_steps (s' := (18, [(0, .ref 25), (1, .int x1), (2, .int x2)], [.int x1, .ref (25 + 1), .int x2], h2)) 4 rfl).trans ?_
        refine (z_X_if (g := z_in x1 6) (s' := (19, [(0, .ref 25), (1, .int x1), (2, .int x2)], [.int (h2.1 (25 + 1) (x1.toNatClampNeg)), .int x2], h2)) rfl).trans (z_bifA ?_)
        refine (z_X_br (c := h2.1 (25 + 1) (x1.toNatClampNeg) ≤ x2) (s1 := (26, [(0, .ref 25), (1, .int x1), (2, .int x2)], [], h2)) (s2 := (22, [(0, .ref 25), (1, .int x1), (2, .int x2)], [], h2)) rfl).trans (z_ite ?_ ?_)
        · refine (z_X_steps (s' := (27, [(0, .ref 25), (1, .int x1), (2, .int x2)], [.int 0], h2)) 1 rfl).trans ?_
          exact z_X_ret rfl
        · refine (z_X_steps (s' := (27, [(0, .ref 25), (1, .int x1), (2, .int x2)], [.int 1], h2)) 2 rfl).trans ?_
          exact z_X_ret rfl
  · show z_X zc_P_hasNode 2 (0, [(0, .ref 73), (1, .int x1), (2, .int x2)], [], h) = _
    refine (z_X_steps (s' := (2, [(0, .ref 73), (1, .int x1), (2, .int x2)], [.int x1, .ref 73], h)) 2 rfl).trans ?_
    refine (z_X_call (id := 70) (a := [.ref 73, .int x1]) (c := 1) (s' := (5, [(0, .ref 73), (1, .int x1), (2, .int x2)], [], h)) rfl ⟨Nat.le_of_ble_eq_true rfl, Nat.le_of_ble_eq_true rfl⟩).trans ?_
    refine z_bdc fun r1 h2 => ?_
    refine (z_X_br (c := r1 = 0) (s1 := (26, [(0, .ref 73), (1, .int x1), (2, .int x2)], [], h2)) (s2 := (8, [(0, .ref 73), (1, .int x1), (2, .int x2)], [], h2)) rfl).trans (z_ite ?_ ?_)
    · refine (z_X_steps (s' := (27, [(0, .ref 73), (1, .int x1), (2, .int x2)], [.int 0], h2)) 1 rfl).trans ?_
      exact z_X_ret rfl
    · refine (z_X_steps (s' := (9, [(0, .ref 73), (1, .int x1), (2, .int x2)], [.int x2], h2)) 1 rfl).trans ?_
      refine (z_X_br (c := x2 < 0) (s1 := (26, [(0, .ref 73), (1, .int x1), (2, .int x2)], [], h2)) (s2 := (12, [(0, .ref 73), (1, .int x1), (2, .int x2)], [], h2)) rfl).trans (z_ite ?_ ?_)
      · refine (z_X_steps (s' := (27, [(0, .ref 73), (1, .int x1), (2, .int x2)], [.int 0], h2)) 1 rfl).trans ?_
        exact z_X_ret rfl
      · refine (z_X_steps (s' := (18, [(0, .ref 73), (1, .int x1), (2, .int x2)], [.int x1, .ref (73 + 1), .int x2], h2)) 4 rfl).trans ?_
        refine (z_X_if (g := z_in x1 6) (s' := (19, [(0, .ref 73), (1, .int x1), (2, .int x2)], [.int (h2.1 (73 + 1) (x1.toNatClampNeg)), .int x2], h2)) rfl).trans (z_bifA ?_)
        refine (z_X_br (c := h2.1 (73 + 1) (x1.toNatClampNeg) ≤ x2) (s1 := (26, [(0, .ref 73), (1, .int x1), (2, .int x2)], [], h2)) (s2 := (22, [(0, .ref 73), (1, .int x1), (2, .int x2)], [], h2)) rfl).trans (z_ite ?_ ?_)
        · refine (z_X_steps (s' := (27, [(0, .ref 73), (1, .int x1), (2, .int x2)], [.int 0], h2)) 1 rfl).trans ?_
          exact z_X_ret rfl
        · refine (z_X_steps (s' := (27, [(0, .ref 73), (1, .int x1), (2, .int x2)], [.int 1], h2)) 2 rfl).trans ?_
          exact z_X_ret rfl
  · show z_X zc_P_hasNode 2 (0, [(0, .ref 81), (1, .int x1), (2, .int x2)], [], h) = _
    refine (z_X_steps (s' := (2, [(0, .ref 81), (1, .int x1), (2, .int x2)], [.int x1, .ref 81], h)) 2 rfl).trans ?_
    refine (z_X_call (id := 70) (a := [.ref 81, .int x1]) (c := 1) (s' := (5, [(0, .ref 81), (1, .int x1), (2, .int x2)], [], h)) rfl ⟨Nat.le_of_ble_eq_true rfl, Nat.le_of_ble_eq_true rfl⟩).trans ?_
    refine z_bdc fun r1 h2 => ?_
    refine (z_X_br (c := r1 = 0) (s1 := (26, [(0, .ref 81), (1, .int x1), (2, .int x2)], [], h2)) (s2 := (8, [(0, .ref 81), (1, .int x1), (2, .int x2)], [], h2)) rfl).trans (z_ite ?_ ?_)
    · refine (z_X_steps (s' := (27, [(0, .ref 81), (1, .int x1), (2, .int x2)], [.int 0], h2)) 1 rfl).trans ?_
      exact z_X_ret rfl
    · refine (z_X_steps (s' := (9, [(0, .ref 81), (1, .int x1), (2, .int x2)], [.int x2], h2)) 1 rfl).trans ?_
      refine (z_X_br (c := x2 < 0) (s1 := (26, [(0, .ref 81), (1, .int x1), (2, .int x2)], [], h2)) (s2 := (12, [(0, .ref 81), (1, .int x1), (2, .int x2)], [], h2)) rfl).trans (z_ite ?_ ?_)
      · refine (z_X_steps (s' := (27, [(0, .ref 81), (1, .int x1), (2, .int x2)], [.int 0], h2)) 1 rfl).trans ?_
        exact z_X_ret rfl
      · refine (z_X_steps (s' := (18, [(0, .ref 81), (1, .int x1), (2, .int x2)], [.int x1, .ref (81 + 1), .int x2], h2)) 4 rfl).trans ?_
        refine (z_X_if (g := z_in x1 6) (s' := (19, [(0, .ref 81), (1, .int x1), (2, .int x2)], [.int (h2.1 (81 + 1) (x1.toNatClampNeg)), .int x2], h2)) rfl).trans (z_bifA ?_)
        refine (z_X_br (c := h2.1 (81 + 1) (x1.toNatClampNeg) ≤ x2) (s1 := (26, [(0, .ref 81), (1, .int x1), (2, .int x2)], [], h2)) (s2 := (22, [(0, .ref 81), (1, .int x1), (2, .int x2)], [], h2)) rfl).trans (z_ite ?_ ?_)
        · refine (z_X_steps (s' := (27, [(0, .ref 81), (1, .int x1), (2, .int x2)], [.int 0], h2)) 1 rfl).trans ?_
          exact z_X_ret rfl
        · refine (z_X_steps (s' := (27, [(0, .ref 81), (1, .int x1), (2, .int x2)], [.int 1], h2)) 2 rfl).trans ?_
          exact z_X_ret rfl
  · show z_X zc_P_hasNode 2 (0, [(0, .ref 94), (1, .int x1), (2, .int x2)], [], h) = _
    refine (z_X_steps (s' := (2, [(0, .ref 94), (1, .int x1), (2, .int x2)], [.int x1, .ref 94], h)) 2 rfl).trans ?_
    refine (z_X_call (id := 70) (a := [.ref 94, .int x1]) (c := 1) (s' := (5, [(0, .ref 94), (1, .int x1), (2, .int x2)], [], h)) rfl ⟨Nat.le_of_ble_eq_true rfl, Nat.le_of_ble_eq_true rfl⟩).trans ?_
    refine z_bdc fun r1 h2 => ?_
    refine (z_X_br (c := r1 = 0) (s1 := (26, [(0, .ref 94), (1, .int x1), (2, .int x2)], [], h2)) (s2 := (8, [(0, .ref 94), (1, .int x1), (2, .int x2)], [], h2)) rfl).trans (z_ite ?_ ?_)
    · refine (z_X_steps (s' := (27, [(0, .ref 94), (1, .int x1), (2, .int x2)], [.int 0], h2)) 1 rfl).trans ?_
      exact z_X_ret rfl
    · refine (z_X_steps (s' := (9, [(0, .ref 94), (1, .int x1), (2, .int x2)], [.int x2], h2)) 1 rfl).trans ?_
      refine (z_X_br (c := x2 < 0) (s1 := (26, [(0, .ref 94), (1, .int x1), (2, .int x2)], [], h2)) (s2 := (12, [(0, .ref 94), (1, .int x1), (2, .int x2)], [], h2)) rfl).trans (z_ite ?_ ?_)
      · refine (z_X_steps (s' := (27, [(0, .ref 94), (1, .int x1), (2, .int x2)], [.int 0], h2)) 1 rfl).trans ?_
        exact z_X_ret rfl
      · refine (z_X_steps (s' := (18, [(0, .ref 94), (1, .int x1), (2, .int x2)], [.int x1, .ref (94 + 1), .int x2], h2)) 4 rfl).trans ?_
        refine (z_X_if (g := z_in x1 6) (s' := (19, [(0, .ref 94), (1, .int x1), (2, .int x2)], [.int (h2.1 (94 + 1) (x1.toNatClampNeg)), .int x2], h2)) rfl).trans (z_bifA ?_)
        refine (z_X_br (c := h2.1 (94 + 1) (x1.toNatClampNeg) ≤ x2) (s1 := (26, [(0, .ref 94), (1, .int x1), (2, .int x2)], [], h2)) (s2 := (22, [(0, .ref 94), (1, .int x1), (2, .int x2)], [], h2)) rfl).trans (z_ite ?_ ?_)
        · refine (z_X_steps (s' := (27, [(0, .ref 94), (1, .int x1), (2, .int x2)], [.int 0], h2)) 1 rfl).trans ?_
          exact z_X_ret rfl
        · refine (z_X_steps (s' := (27, [(0, .ref 94), (1, .int x1), (2, .int x2)], [.int 1], h2)) 2 rfl).trans ?_
          exact z_X_ret rfl
  · show z_X zc_P_hasNode 2 (0, [(0, .ref 102), (1, .int x1), (2, .int x2)], [], h) = _
    refine (z_X_steps (s' := (2, [(0, .ref 102), (1, .int x1), (2, .int x2)], [.int x1, .ref 102], h)) 2 rfl).trans ?_
    refine (z_X_call (id := 70) (a := [.ref 102, .int x1]) (c := 1) (s' := (5, [(0, .ref 102), (1, .int x1), (2, .int x2)], [], h)) rfl ⟨Nat.le_of_ble_eq_true rfl, Nat.le_of_ble_eq_true rfl⟩).trans ?_
    refine z_bdc fun r1 h2 => ?_
    refine (z_X_br (c := r1 = 0) (s1 := (26, [(0, .ref 102), (1, .int x1), (2, .int x2)], [], h2)) (s2 := (8, [(0, .ref 102), (1, .int x1), (2, .int x2)], [], h2)) rfl).trans (z_ite ?_ ?_)
    · refine (z_X_steps (s' := (27, [(0, .ref 102), (1, .int x1), (2, .int x2)], [.int 0], h2)) 1 rfl).trans ?_
      exact z_X_ret rfl
    · refine (z_X_steps (s' := (9, [(0, .ref 102), (1, .int x1), (2, .int x2)], [.int x2], h2)) 1 rfl).trans ?_
      refine (z_X_br (c := x2 < 0) (s1 := (26, [(0, .ref 102), (1, .int x1), (2, .int x2)], [], h2)) (s2 := (12, [(0, .ref 102), (1, .int x1), (2, .int x2)], [], h2)) rfl).trans (z_ite ?_ ?_)
      · refine (z_X_steps (s' := (27, [(0, .ref 102), (1, .int x1), (2, .int x2)], [.int 0], h2)) 1 rfl).trans ?_
        exact z_X_ret rfl
      · refine (z_X_steps (s' := (18, [(0, .ref 102), (1, .int x1), (2, .int x2)], [.int x1, .ref (102 + 1), .int x2], h2)) 4 rfl).trans ?_
        refine (z_X_if (g := z_in x1 6) (s' := (19, [(0, .ref 102), (1, .int x1), (2, .int x2)], [.int (h2.1 (102 + 1) (x1.toNatClampNeg)), .int x2], h2)) rfl).trans (z_bifA ?_)
        refine (z_X_br (c := h2.1 (102 + 1) (x1.toNatClampNeg) ≤ x2) (s1 := (26, [(0, .ref 102), (1, .int x1), (2, .int x2)], [], h2)) (s2 := (22, [(0, .ref 102), (1, .int x1), (2, .int x2)], [], h2)) rfl).trans (z_ite ?_ ?_)
        · refine (z_X_steps (s' := (27, [(0, .ref 102), (1, .int x1), (2, .int x2)], [.int 0], h2)) 1 rfl).trans ?_
          exact z_X_ret rfl
        · refine (z_X_steps (s' := (27, [(0, .ref 102), (1, .int x1), (2, .int x2)], [.int 1], h2)) 2 rfl).trans ?_
          exact z_X_ret rfl
set_option maxRecDepth 8000 in
set_option maxHeartbeats 2000000 in
theorem e_P_hasNext {o : Nat} (hi : o ∈ [4, 17, 25, 73, 81, 94, 102]) (x1 : Int32) (x2 : Int32) (x3 : Int32) (h : z_H) : z_M 72 [.ref o, .int x1, .int x2, .int x3] h = z_bd (z_M 71 [.ref o, .int x1, .int x2] h) (fun r1 h2 => (if r1 = 0 then some (0, h2) else (if x3 < 0 then some (0, h2) else z_bd (z_M 42 [.int x1, .int x2] h2) (fun r3 h4 => (bif z_in r3 48 then (if h4.1 (o + 4) (r3.toNatClampNeg) ≤ x3 then some (0, h4) else some (1, h4)) else none))))) := by
  refine (z_M_eq (by decide)).trans ?_
  simp only [List.mem_cons, List.not_mem_nil, or_false, Prod.mk.injEq] at hi
  rcases hi with rfl | rfl | rfl | rfl | rfl | rfl | rfl
  · show z_X zc_P_hasNext 3 (0, [(0, .ref 4), (1, .int x1), (2, .int x2), (3, .int x3)], [], h) = _
    refine (z_X_steps (s' := (3, [(0, .ref 4), (1, .int x1), (2, .int x2), (3, .int x3)], [.int x2, .int x1, .ref 4], h)) 3 rfl).trans ?_
    refine (z_X_call (id := 71) (a := [.ref 4, .int x1, .int x2]) (c := 1) (s' := (6, [(0, .ref 4), (1, .int x1), (2, .int x2), (3, .int x3)], [], h)) rfl ⟨Nat.le_of_ble_eq_true rfl, Nat.le_of_ble_eq_true rfl⟩).trans ?_
    refine z_bdc fun r1 h2 => ?_
    refine (z_X_br (c := r1 = 0) (s1 := (31, [(0, .ref 4), (1, .int x1), (2, .int x2), (3, .int x3)], [], h2)) (s2 := (9, [(0, .ref 4), (1, .int x1), (2, .int x2), (3, .int x3)], [], h2)) rfl).trans (z_ite ?_ ?_)
    · refine (z_X_steps (s' := (32, [(0, .ref 4), (1, .int x1), (2, .int x2), (3, .int x3)], [.int 0], h2)) 1 rfl).trans ?_
      exact z_X_ret rfl
    · refine (z_X_steps (s' := (10, [(0, .ref 4), (1, .int x1), (2, .int x2), (3, .int x3)], [.int x3], h2)) 1 rfl).trans ?_
      refine (z_X_br (c := x3 < 0) (s1 := (31, [(0, .ref 4), (1, .int x1), (2, .int x2), (3, .int x3)], [], h2)) (s2 := (13, [(0, .ref 4), (1, .int x1), (2, .int x2), (3, .int x3)], [], h2)) rfl).trans (z_ite ?_ ?_)
      · refine (z_X_steps (s' := (32, [(0, .ref 4), (1, .int x1), (2, .int x2), (3, .int x3)], [.int 0], h2)) 1 rfl).trans ?_
        exact z_X_ret rfl
      · refine (z_X_steps (s' := (20, [(0, .ref 4), (1, .int x1), (2, .int x2), (3, .int x3)], [.int x2, .int x1, .ref (4 + 4), .int x3], h2)) 5 rfl).trans ?_
        refine (z_X_call (id := 42) (a := [.int x1, .int x2]) (c := 1) (s' := (23, [(0, .ref 4), (1, .int x1), (2, .int x2), (3, .int x3)], [.ref (4 + 4), .int x3], h2)) rfl ⟨Nat.le_of_ble_eq_true rfl, Nat.le_of_ble_eq_true rfl⟩).trans ?_
        refine z_bdc fun r3 h4 => ?_
        refine (z_X_if (g := z_in r3 48) (s' := (24, [(0, .ref 4), (1, .int x1), (2, .int x2), (3, .int x3)], [.int (h4.1 (4 + 4) (r3.toNatClampNeg)), .int x3], h4)) rfl).trans (z_bifA ?_)
        refine (z_X_br (c := h4.1 (4 + 4) (r3.toNatClampNeg) ≤ x3) (s1 := (31, [(0, .ref 4), (1, .int x1), (2, .int x2), (3, .int x3)], [], h4)) (s2 := (27, [(0, .ref 4), (1, .int x1), (2, .int x2), (3, .int x3)], [], h4)) rfl).trans (z_ite ?_ ?_)
        · refine (z_X_steps (s' := (32, [(0, .ref 4), (1, .int x1), (2, .int x2), (3, .int x3)], [.int 0], h4)) 1 rfl).trans ?_
          exact z_X_ret rfl
        · refine (z_X_steps (s' := (32, [(0, .ref 4), (1, .int x1), (2, .int x2), (3, .int x3)], [.int 1], h4)) 2 rfl).trans ?_
          exact z_X_ret rfl
  · show z_X zc_P_hasNext 3 (0, [(0, .ref 17), (1, .int x1), (2, .int x2), (3, .int x3)], [], h) = _
    refine (z_X_steps (s' := (3, [(0, .ref 17), (1, .int x1), (2, .int x2), (3, .int x3)], [.int x2, .int x1, .ref 17], h)) 3 rfl).trans ?_
    refine (z_X_call (id := 71) (a := [.ref 17, .int x1, .int x2]) (c := 1) (s' := (6, [(0, .ref 17), (1, .int x1), (2, .int x2), (3, .int x3)], [], h)) rfl ⟨Nat.le_of_ble_eq_true rfl, Nat.le_of_ble_eq_true rfl⟩).trans ?_
    refine z_bdc fun r1 h2 => ?_
    refine (z_X_br (c := r1 = 0) (s1 := (31, [(0, .ref 17), (1, .int x1), (2, .int x2), (3, .int x3)], [], h2)) (s2 := (9, [(0, .ref 17), (1, .int x1), (2, .int x2), (3, .int x3)], [], h2)) rfl).trans (z_ite ?_ ?_)
    · refine (z_X_steps (s' := (32, [(0, .ref 17), (1, .int x1), (2, .int x2), (3, .int x3)], [.int 0], h2)) 1 rfl).trans ?_
      exact z_X_ret rfl
    · refine (z_X_steps (s' := (10, [(0, .ref 17), (1, .int x1), (2, .int x2), (3, .int x3)], [.int x3], h2)) 1 rfl).trans ?_
      refine (z_X_br (c := x3 < 0) (s1 := (31, [(0, .ref 17), (1, .int x1), (2, .int x2), (3, .int x3)], [], h2)) (s2 := (13, [(0, .ref 17), (1, .int x1), (2, .int x2), (3, .int x3)], [], h2)) rfl).trans (z_ite ?_ ?_)
      · refine (z_X_steps (s' := (32, [(0, .ref 17), (1, .int x1), (2, .int x2), (3, .int x3)], [.int 0], h2)) 1 rfl).trans ?_
        exact z_X_ret rfl
      · refine (z_X_steps (s' := (20, [(0, .ref 17), (1, .int x1), (2, .int x2), (3, .int x3)], [.int x2, .int x1, .ref (17 + 4), .int x3], h2)) 5 rfl).trans ?_
        refine (z_X_call (id := 42) (a := [.int x1, .int x2]) (c := 1) (s' := (23, [(0, .ref 17), (1, .int x1), (2, .int x2), (3, .int x3)], [.ref (17 + 4), .int x3], h2)) rfl ⟨Nat.le_of_ble_eq_true rfl, Nat.le_of_ble_eq_true rfl⟩).trans ?_
        refine z_bdc fun r3 h4 => ?_
        refine (z_X_if (g := z_in r3 48) (s' := (24, [(0, .ref 17), (1, .int x1), (2, .int x2), (3, .int x3)], [.int (h4.1 (17 + 4) (r3.toNatClampNeg)), .int x3], h4)) rfl).trans (z_bifA ?_)
        refine (z_X_br (c := h4.1 (17 + 4) (r3.toNatClampNeg) ≤ x3) (s1 := (31, [(0, .ref 17), (1, .int x1), (2, .int x2), (3, .int x3)], [], h4)) (s2 := (27, [(0, .ref 17), (1, .int x1), (2, .int x2), (3, .int x3)], [], h4)) rfl).trans (z_ite ?_ ?_)
        · refine (z_X_steps (s' := (32, [(0, .ref 17), (1, .int x1), (2, .int x2), (3, .int x3)], [.int 0], h4)) 1 rfl).trans ?_
          exact z_X_ret rfl
        · refine (z_X_steps (s' := (32, [(0, .ref 17), (1, .int x1), (2, .int x2), (3, .int x3)], [.int 1], h4)) 2 rfl).trans ?_
          exact z_X_ret rfl
  · show z_X zc_P_hasNext 3 (0, [(0, .ref 25), (1, .int x1), (2, .int x2), (3, .int x3)], [], h) = _
    refine (z_X_steps (s' := (3, [(0, .ref 25), (1, .int x1), (2, .int x2), (3, .int x3)], [.int x2, .int x1, .ref 25], h)) 3 rfl).trans ?_
    refine (z_X_call (id := 71) (a := [.ref 25, .int x1, .int x2]) (c := 1) (s' := (6, [(0, .ref 25), (1, .int x1), (2, .int x2), (3, .int x3)], [], h)) rfl ⟨Nat.le_of_ble_eq_true rfl, Nat.le_of_ble_eq_true rfl⟩).trans ?_
    refine z_bdc fun r1 h2 => ?_
    refine (z_X_br (c := r1 = 0) (s1 := (31, [(0, .ref 25), (1, .int x1), (2, .int x2), (3, .int x3)], [], h2)) (s2 := (9, [(0, .ref 25), (1, .int x1), (2, .int x2), (3, .int x3)], [], h2)) rfl).trans (z_ite ?_ ?_)
    · refine (z_X_steps (s' := (32, [(0, .ref 25), (1, .int x1), (2, .int x2), (3, .int x3)], [.int 0], h2)) 1 rfl).trans ?_
      exact z_X_ret rfl
    · refine (z_X_steps (s' := (10, [(0, .ref 25), (1, .int x1), (2, .int x2), (3, .int x3)], [.int x3], h2)) 1 rfl).trans ?_
      refine (z_X_br (c := x3 < 0) (s1 := (31, [(0, .ref 25), (1, .int x1), (2, .int x2), (3, .int x3)], [], h2)) (s2 := (13, [(0, .ref 25), (1, .int x1), (2, .int x2), (3, .int x3)], [], h2)) rfl).trans (z_ite ?_ ?_)
      · refine (z_X_steps (s' := (32, [(0, .ref 25), (1, .int x1), (2, .int x2), (3, .int x3)], [.int 0], h2)) 1 rfl).trans ?_
        exact z_X_ret rfl
      · refine (z_X_steps (s' := (20, [(0, .ref 25), (1, .int x1), (2, .int x2), (3, .int x3)], [.int x2, .int x1, .ref (25 + 4), .int x3], h2)) 5 rfl).trans ?_
        refine (z_X_call (id := 42) (a := [.int x1, .int x2]) (c := 1) (s' := (23, [(0, .ref 25), (1, .int x1), (2, .int x2), (3, .int x3)], [.ref (25 + 4), .int x3], h2)) rfl ⟨Nat.le_of_ble_eq_true rfl, Nat.le_of_ble_eq_true rfl⟩).trans ?_
        refine z_bdc fun r3 h4 => ?_
        refine (z_X_if (g := z_in r3 48) (s' := (24, [(0, .ref 25), (1, .int x1), (2, .int x2), (3, .int x3)], [.int (h4.1 (25 + 4) (r3.toNatClampNeg)), .int x3], h4)) rfl).trans (z_bifA ?_)
        refine (z_X_br (c := h4.1 (25 + 4) (r3.toNatClampNeg) ≤ x3) (s1 := (31, [(0, .ref 25), (1, .int x1), (2, .int x2), (3, .int x3)], [], h4)) (s2 := (27, [(0, .ref 25), (1, .int x1), (2, .int x2), (3, .int x3)], [], h4)) rfl).trans (z_ite ?_ ?_)
        · refine (z_X_steps (s' := (32, [(0, .ref 25), (1, .int x1), (2, .int x2), (3, .int x3)], [.int 0], h4)) 1 rfl).trans ?_
          exact z_X_ret rfl
        · refine (z_X_steps (s' := (32, [(0, .ref 25), (1, .int x1), (2, .int x2), (3, .int x3)], [.int 1], h4)) 2 rfl).trans ?_
          exact z_X_ret rfl
  · show z_X zc_P_hasNext 3 (0, [(0, .ref 73), (1, .int x1), (2, .int x2), (3, .int x3)], [], h) = _
    refine (z_X_steps (s' := (3, [(0, .ref 73), (1, .int x1), (2, .int x2), (3, .int x3)], [.int x2, .int x1, .ref 73], h)) 3 rfl).trans ?_
    refine (z_X_call (id := 71) (a := [.ref 73, .int x1, .int x2]) (c := 1) (s' := (6, [(0, .ref 73), (1, .int x1), (2, .int x2), (3, .int x3)], [], h)) rfl ⟨Nat.le_of_ble_eq_true rfl, Nat.le_of_ble_eq_true rfl⟩).trans ?_
    refine z_bdc fun r1 h2 => ?_
    refine (z_X_br (c := r1 = 0) (s1 := (31, [(0, .ref 73), (1, .int x1), (2, .int x2), (3, .int x3)], [], h2)) (s2 := (9, [(0, .ref 73), (1, .int x1), (2, .int x2), (3, .int x3)], [], h2)) rfl).trans (z_ite ?_ ?_)
    · refine (z_X_steps (s' := (32, [(0, .ref 73), (1, .int x1), (2, .int x2), (3, .int x3)], [.int 0], h2)) 1 rfl).trans ?_
      exact z_X_ret rfl
    · refine (z_X_steps (s' := (10, [(0, .ref 73), (1, .int x1), (2, .int x2), (3, .int x3)], [.int x3], h2)) 1 rfl).trans ?_
      refine (z_X_br (c := x3 < 0) (s1 := (31, [(0, .ref 73), (1, .int x1), (2, .int x2), (3, .int x3)], [], h2)) (s2 := (13, [(0, .ref 73), (1, .int x1), (2, .int x2), (3, .int x3)], [], h2)) rfl).trans (z_ite ?_ ?_)
      · refine (z_X_steps (s' := (32, [(0, .ref 73), (1, .int x1), (2, .int x2), (3, .int x3)], [.int 0], h2)) 1 rfl).trans ?_
        exact z_X_ret rfl
      · refine (z_X_steps (s' := (20, [(0, .ref 73), (1, .int x1), (2, .int x2), (3, .int x3)], [.int x2, .int x1, .ref (73 + 4), .int x3], h2)) 5 rfl).trans ?_
        refine (z_X_call (id := 42) (a := [.int x1, .int x2]) (c := 1) (s' := (23, [(0, .ref 73), (1, .int x1), (2, .int x2), (3, .int x3)], [.ref (73 + 4), .int x3], h2)) rfl ⟨Nat.le_of_ble_eq_true rfl, Nat.le_of_ble_eq_true rfl⟩).trans ?_
        refine z_bdc fun r3 h4 => ?_
        refine (z_X_if (g := z_in r3 48) (s' := (24, [(0, .ref 73), (1, .int x1), (2, .int x2), (3, .int x3)], [.int (h4.1 (73 + 4) (r3.toNatClampNeg)), .int x3], h4)) rfl).trans (z_bifA ?_)
        refine (z_X_br (c := h4.1 (73 + 4) (r3.toNatClampNeg) ≤ x3) (s1 := (31, [(0, .ref 73), (1, .int x1), (2, .int x2), (3, .int x3)], [], h4)) (s2 := (27, [(0, .ref 73), (1, .int x1), (2, .int x2), (3, .int x3)], [], h4)) rfl).trans (z_ite ?_ ?_)
        · refine (z_X_steps (s' := (32, [(0, .ref 73), (1, .int x1), (2, .int x2), (3, .int x3)], [.int 0], h4)) 1 rfl).trans ?_
          exact z_X_ret rfl
        · refine (z_X_steps (s' := (32, [(0, .ref 73), (1, .int x1), (2, .int x2), (3, .int x3)], [.int 1], h4)) 2 rfl).trans ?_
          exact z_X_ret rfl
  · show z_X zc_P_hasNext 3 (0, [(0, .ref 81), (1, .int x1), (2, .int x2), (3, .int x3)], [], h) = _
    refine (z_X_steps (s' := (3, [(0, .ref 81), (1, .int x1), (2, .int x2), (3, .int x3)], [.int x2, .int x1, .ref 81], h)) 3 rfl).trans ?_
    refine (z_X_call (id := 71) (a := [.ref 81, .int x1, .int x2]) (c := 1) (s' := (6, [(0, .ref 81), (1, .int x1), (2, .int x2), (3, .int x3)], [], h)) rfl ⟨Nat.le_of_ble_eq_true rfl, Nat.le_of_ble_eq_true rfl⟩).trans ?_
    refine z_bdc fun r1 h2 => ?_
    refine (z_X_br (c := r1 = 0) (s1 := (31, [(0, .ref 81), (1, .int x1), (2, .int x2), (3, .int x3)], [], h2)) (s2 := (9, [(0, .ref 81), (1, .int x1), (2, .int x2), (3, .int x3)], [], h2)) rfl).trans (z_ite ?_ ?_)
    · refine (z_X_steps (s' := (32, [(0, .ref 81), (1, .int x1), (2, .int x2), (3, .int x3)], [.int 0], h2)) 1 rfl).trans ?_
      exact z_X_ret rfl
    · refine (z_X_steps (s' := (10, [(0, .ref 81), (1, .int x1), (2, .int x2), (3, .int x3)], [.int x3], h2)) 1 rfl).trans ?_
      refine (z_X_br (c := x3 < 0) (s1 := (31, [(0, .ref 81), (1, .int x1), (2, .int x2), (3, .int x3)], [], h2)) (s2 := (13, [(0, .ref 81), (1, .int x1), (2, .int x2), (3, .int x3)], [], h2)) rfl).trans (z_ite ?_ ?_)
      · refine (z_X_steps (s' := (32, [(0, .ref 81), (1, .int x1), (2, .int x2), (3, .int x3)], [.int 0], h2)) 1 rfl).trans ?_
        exact z_X_ret rfl
      · refine (z_X_steps (s' := (20, [(0, .ref 81), (1, .int x1), (2, .int x2), (3, .int x3)], [.int x2, .int x1, .ref (81 + 4), .int x3], h2)) 5 rfl).trans ?_
        refine (z_X_call (id := 42) (a := [.int x1, .int x2]) (c := 1) (s' := (23, [(0, .ref 81), (1, .int x1), (2, .int x2), (3, .int x3)], [.ref (81 + 4), .int x3], h2)) rfl ⟨Nat.le_of_ble_eq_true rfl, Nat.le_of_ble_eq_true rfl⟩).trans ?_
        refine z_bdc fun r3 h4 => ?_
        refine (z_X_if (g := z_in r3 48) (s' := (24, [(0, .ref 81), (1, .int x1), (2, .int x2), (3, .int x3)], [.int (h4.1 (81 + 4) (r3.toNatClampNeg)), .int x3], h4)) rfl).trans (z_bifA ?_)
        refine (z_X_br (c := h4.1 (81 + 4) (r3.toNatClampNeg) ≤ x3) (s1 := (31, [(0, .ref 81), (1, .int x1), (2, .int x2), (3, .int x3)], [], h4)) (s2 := (27, [(0, .ref 81), (1, .int x1), (2, .int x2), (3, .int x3)], [], h4)) rfl).trans (z_ite ?_ ?_)
        · refine (z_X_steps (s' := (32, [(0, .ref 81), (1, .int x1), (2, .int x2), (3, .int x3)], [.int 0], h4)) 1 rfl).trans ?_
          exact z_X_ret rfl
        · refine (z_X_steps (s' := (32, [(0, .ref 81), (1, .int x1), (2, .int x2), (3, .int x3)], [.int 1], h4)) 2 rfl).trans ?_
          exact z_X_ret rfl
  · show z_X zc_P_hasNext 3 (0, [(0, .ref 94), (1, .int x1), (2, .int x2), (3, .int x3)], [], h) = _
    refine (z_X_steps (s' := (3, [(0, .ref 94), (1, .int x1), (2, .int x2), (3, .int x3)], [.int x2, .int x1, .ref 94], h)) 3 rfl).trans ?_
    refine (z_X_call (id := 71) (a := [.ref 94, .int x1, .int x2]) (c := 1) (s' := (6, [(0, .ref 94), (1, .int x1), (2, .int x2), (3, .int x3)], [], h)) rfl ⟨Nat.le_of_ble_eq_true rfl, Nat.le_of_ble_eq_true rfl⟩).trans ?_
    refine z_bdc fun r1 h2 => ?_
    refine (z_X_br (c := r1 = 0) (s1 := (31, [(0, .ref 94), (1, .int x1), (2, .int x2), (3, .int x3)], [], h2)) (s2 := (9, [(0, .ref 94), (1, .int x1), (2, .int x2), (3, .int x3)], [], h2)) rfl).trans (z_ite ?_ ?_)
    · refine (z_X_steps (s' := (32, [(0, .ref 94), (1, .int x1), (2, .int x2), (3, .int x3)], [.int 0], h2)) 1 rfl).trans ?_
      exact z_X_ret rfl
    · refine (z_X_steps (s' := (10, [(0, .ref 94), (1, .int x1), (2, .int x2), (3, .int x3)], [.int x3], h2)) 1 rfl).trans ?_
      refine (z_X_br (c := x3 < 0) (s1 := (31, [(0, .ref 94), (1, .int x1), (2, .int x2), (3, .int x3)], [], h2)) (s2 := (13, [(0, .ref 94), (1, .int x1), (2, .int x2), (3, .int x3)], [], h2)) rfl).trans (z_ite ?_ ?_)
      · refine (z_X_steps (s' := (32, [(0, .ref 94), (1, .int x1), (2, .int x2), (3, .int x3)], [.int 0], h2)) 1 rfl).trans ?_
        exact z_X_ret rfl
      · refine (z_X_steps (s' := (20, [(0, .ref 94), (1, .int x1), (2, .int x2), (3, .int x3)], [.int x2, .int x1, .ref (94 + 4), .int x3], h2)) 5 rfl).trans ?_
        refine (z_X_call (id := 42) (a := [.int x1, .int x2]) (c := 1) (s' := (23, [(0, .ref 94), (1, .int x1), (2, .int x2), (3, .int x3)], [.ref (94 + 4), .int x3], h2)) rfl ⟨Nat.le_of_ble_eq_true rfl, Nat.le_of_ble_eq_true rfl⟩).trans ?_
        refine z_bdc fun r3 h4 => ?_
        refine (z_X_if (g := z_in r3 48) (s' := (24, [(0, .ref 94), (1, .int x1), (2, .int x2), (3, .int x3)], [.int (h4.1 (94 + 4) (r3.toNatClampNeg)), .int x3], h4)) rfl).trans (z_bifA ?_)
        refine (z_X_br (c := h4.1 (94 + 4) (r3.toNatClampNeg) ≤ x3) (s1 := (31, [(0, .ref 94), (1, .int x1), (2, .int x2), (3, .int x3)], [], h4)) (s2 := (27, [(0, .ref 94), (1, .int x1), (2, .int x2), (3, .int x3)], [], h4)) rfl).trans (z_ite ?_ ?_)
        · refine (z_X_steps (s' := (32, [(0, .ref 94), (1, .int x1), (2, .int x2), (3, .int x3)], [.int 0], h4)) 1 rfl).trans ?_
          exact z_X_ret rfl
        · refine (z_X_steps (s' := (32, [(0, .ref 94), (1, .int x1), (2, .int x2), (3, .int x3)], [.int 1], h4)) 2 rfl).trans ?_
          exact z_X_ret rfl
  · show z_X zc_P_hasNext 3 (0, [(0, .ref 102), (1, .int x1), (2, .int x2), (3, .int x3)], [], h) = _
    refine (z_X_steps (s' := (3, [(0, .ref 102), (1, .int x1), (2, .int x2), (3, .int x3)], [.int x2, .int x1, .ref 102], h)) 3 rfl).trans ?_
    refine (z_X_call (id := 71) (a := [.ref 102, .int x1, .int x2]) (c := 1) (s' := (6, [(0, .ref 102), (1, .int x1), (2, .int x2), (3, .int x3)], [], h)) rfl ⟨Nat.le_of_ble_eq_true rfl, Nat.le_of_ble_eq_true rfl⟩).trans ?_
    refine z_bdc fun r1 h2 => ?_
    refine (z_X_br (c := r1 = 0) (s1 := (31, [(0, .ref 102), (1, .int x1), (2, .int x2), (3, .int x3)], [], h2)) (s2 := (9, [(0, .ref 102), (1, .int x1), (2, .int x2), (3, .int x3)], [], h2)) rfl).trans (z_ite ?_ ?_)
    · refine (z_X_steps (s' := (32, [(0, .ref 102), (1, .int x1), (2, .int x2), (3, .int x3)], [.int 0], h2)) 1 rfl).trans ?_
      exact z_X_ret rfl
    · refine (z_X_steps (s' := (10, [(0, .ref 102), (1, .int x1), (2, .int x2), (3, .int x3)], [.int x3], h2)) 1 rfl).trans ?_
      refine (z_X_br (c := x3 < 0) (s1 := (31, [(0, .ref 102), (1, .int x1), (2, .int x2), (3, .int x3)], [], h2)) (s2 := (13, [(0, .ref 102), (1, .int x1), (2, .int x2), (3, .int x3)], [], h2)) rfl).trans (z_ite ?_ ?_)
      · refine (z_X_steps (s' := (32, [(0, .ref 102), (1, .int x1), (2, .int x2), (3, .int x3)], [.int 0], h2)) 1 rfl).trans ?_
        exact z_X_ret rfl
      · refine (z_X_steps (s' := (20, [(0, .ref 102), (1, .int x1), (2, .int x2), (3, .int x3)], [.int x2, .int x1, .ref (102 + 4), .int x3], h2)) 5 rfl).trans ?_
        refine (z_X_call (id := 42) (a := [.int x1, .int x2]) (c := 1) (s' := (23, [(0, .ref 102), (1, .int x1), (2, .int x2), (3, .int x3)], [.ref (102 + 4), .int x3], h2)) rfl ⟨Nat.le_of_ble_eq_true rfl, Nat.le_of_ble_eq_true rfl⟩).trans ?_
        refine z_bdc fun r3 h4 => ?_
        refine (z_X_if (g := z_in r3 48) (s' := (24, [(0, .ref 102), (1, .int x1), (2, .int x2), (3, .int x3)], [.int (h4.1 (102 + 4) (r3.toNatClampNeg)), .int x3], h4)) rfl).trans (z_bifA ?_)
        refine (z_X_br (c := h4.1 (102 + 4) (r3.toNatClampNeg) ≤ x3) (s1 := (31, [(0, .ref 102), (1, .int x1), (2, .int x2), (3, .int x3)], [], h4)) (s2 := (27, [(0, .ref 102), (1, .int x1), (2, .int x2), (3, .int x3)], [], h4)) rfl).trans (z_ite ?_ ?_)
        · refine (z_X_steps (s' := (32, [(0, .ref 102), (1, .int x1), (2, .int x2), (3, .int x3)], [.int 0], h4)) 1 rfl).trans ?_
          exact z_X_ret rfl
        · refine (z_X_steps (s' := (32, [(0, .ref 102), (1, .int x1), (2, .int x2), (3, .int x3)], [.int 1], h4)) 2 rfl).trans ?_
          exact z_X_ret rfl
set_option maxRecDepth 8000 in
set_option maxHeartbeats 2000000 in
theorem e_P_hasClass {o : Nat} (hi : o ∈ [4, 17, 25, 73, 81, 94, 102]) (x1 : Int32) (h : z_H) : z_M 73 [.ref o, .int x1] h = (if x1 < 0 then some (0, h) else (if h.1 o 1 ≤ x1 then some (0, h) else some (1, h))) := by
  refine (z_M_eq (by decide)).trans ?_
  simp only [List.mem_cons, List.not_mem_nil, or_false, Prod.mk.injEq] at hi
  rcases hi with rfl | rfl | rfl | rfl | rfl | rfl | rfl
  · show z_X zc_P_hasClass 1 (0, [(0, .ref 4), (1, .int x1)], [], h) = _
    refine (z_X_steps (s' := (1, [(0, .ref 4), (1, .int x1)], [.int x1], h)) 1 rfl).trans ?_
    refine (z_X_br (c := x1 < 0) (s1 := (16, [(0, .ref 4), (1, .int x1)], [], h)) (s2 := (4, [(0, .ref 4), (1, .int x1)], [], h)) rfl).trans (z_ite ?_ ?_)
    · refine (z_X_steps (s' := (17, [(0, .ref 4), (1, .int x1)], [.int 0], h)) 1 rfl).trans ?_
      exact z_X_ret rfl
    · refine (z_X_steps (s' := (9, [(0, .ref 4), (1, .int x1)], [.int (h.1 4 1), .int x1], h)) 3 rfl).trans ?_
      refine (z_X_br (c := h.1 4 1 ≤ x1) (s1 := (16, [(0, .ref 4), (1, .int x1)], [], h)) (s2 := (12, [(0, .ref 4), (1, .int x1)], [], h)) rfl).trans (z_ite ?_ ?_)
      · refine (z_X_steps (s' := (17, [(0, .ref 4), (1, .int x1)], [.int 0], h)) 1 rfl).trans ?_
        exact z_X_ret rfl
      · refine (z_X_steps (s' := (17, [(0, .ref 4), (1, .int x1)], [.int 1], h)) 2 rfl).trans ?_
        exact z_X_ret rfl
  · show z_X zc_P_hasClass 1 (0, [(0, .ref 17), (1, .int x1)], [], h) = _
    refine (z_X_steps (s' := (1, [(0, .ref 17), (1, .int x1)], [.int x1], h)) 1 rfl).trans ?_
    refine (z_X_br (c := x1 < 0) (s1 := (16, [(0, .ref 17), (1, .int x1)], [], h)) (s2 := (4, [(0, .ref 17), (1, .int x1)], [], h)) rfl).trans (z_ite ?_ ?_)
    · refine (z_X_steps (s' := (17, [(0, .ref 17), (1, .int x1)], [.int 0], h)) 1 rfl).trans ?_
      exact z_X_ret rfl
    · refine (z_X_steps (s' := (9, [(0, .ref 17), (1, .int x1)], [.int (h.1 17 1), .int x1], h)) 3 rfl).trans ?_
      refine (z_X_br (c := h.1 17 1 ≤ x1) (s1 := (16, [(0, .ref 17), (1, .int x1)], [], h)) (s2 := (12, [(0, .ref 17), (1, .int x1)], [], h)) rfl).trans (z_ite ?_ ?_)
      · refine (z_X_steps (s' := (17, [(0, .ref 17), (1, .int x1)], [.int 0], h)) 1 rfl).trans ?_
        exact z_X_ret rfl
      · refine (z_X_steps (s' := (17, [(0, .ref 17), (1, .int x1)], [.int 1], h)) 2 rfl).trans ?_
        exact z_X_ret rfl
  · show z_X zc_P_hasClass 1 (0, [(0, .ref 25), (1, .int x1)], [], h) = _
    refine (z_X_steps (s' := (1, [(0, .ref 25), (1, .int x1)], [.int x1], h)) 1 rfl).trans ?_
    refine (z_X_br (c := x1 < 0) (s1 := (16, [(0, .ref 25), (1, .int x1)], [], h)) (s2 := (4, [(0, .ref 25), (1, .int x1)], [], h)) rfl).trans (z_ite ?_ ?_)
    · refine (z_X_steps (s' := (17, [(0, .ref 25), (1, .int x1)], [.int 0], h)) 1 rfl).trans ?_
      exact z_X_ret rfl
    · refine (z_X_steps (s' := (9, [(0, .ref 25), (1, .int x1)], [.int (h.1 25 1), .int x1], h)) 3 rfl).trans ?_
      refine (z_X_br (c := h.1 25 1 ≤ x1) (s1 := (16, [(0, .ref 25), (1, .int x1)], [], h)) (s2 := (12, [(0, .ref 25), (1, .int x1)], [], h)) rfl).trans (z_ite ?_ ?_)
      · refine (z_X_steps (s' := (17, [(0, .ref 25), (1, .int x1)], [.int 0], h)) 1 rfl).trans ?_
        exact z_X_ret rfl
      · refine (z_X_steps (s' := (17, [(0, .ref 25), (1, .int x1)], [.int 1], h)) 2 rfl).trans ?_
        exact z_X_ret rfl
  · show z_X zc_P_hasClass 1 (0, [(0, .ref 73), (1, .int x1)], [], h) = _
    refine (z_X_steps (s' := (1, [(0, .ref 73), (1, .int x1)], [.int x1], h)) 1 rfl).trans ?_
    refine (z_X_br (c := x1 < 0) (s1 := (16, [(0, .ref 73), (1, .int x1)], [], h)) (s2 := (4, [(0, .ref 73), (1, .int x1)], [], h)) rfl).trans (z_ite ?_ ?_)
    · refine (z_X_steps (s' := (17, [(0, .ref 73), (1, .int x1)], [.int 0], h)) 1 rfl).trans ?_
      exact z_X_ret rfl
    · refine (z_X_steps (s' := (9, [(0, .ref 73), (1, .int x1)], [.int (h.1 73 1), .int x1], h)) 3 rfl).trans ?_
      refine (z_X_br (c := h.1 73 1 ≤ x1) (s1 := (16, [(0, .ref 73), (1, .int x1)], [], h)) (s2 := (12, [(0, .ref 73), (1, .int x1)], [], h)) rfl).trans (z_ite ?_ ?_)
      · refine (z_X_steps (s' := (17, [(0, .ref 73), (1, .int x1)], [.int 0], h)) 1 rfl).trans ?_
        exact z_X_ret rfl
      · refine (z_X_steps (s' := (17, [(0, .ref 73), (1, .int x1)], [.int 1], h)) 2 rfl).trans ?_
        exact z_X_ret rfl
  · show z_X zc_P_hasClass 1 (0, [(0, .ref 81), (1, .int x1)], [], h) = _
    refine (z_X_steps (s' := (1, [(0, .ref 81), (1, .int x1)], [.int x1], h)) 1 rfl).trans ?_
    refine (z_X_br (c := x1 < 0) (s1 := (16, [(0, .ref 81), (1, .int x1)], [], h)) (s2 := (4, [(0, .ref 81), (1, .int x1)], [], h)) rfl).trans (z_ite ?_ ?_)
    · refine (z_X_steps (s' := (17, [(0, .ref 81), (1, .int x1)], [.int 0], h)) 1 rfl).trans ?_
      exact z_X_ret rfl
    · refine (z_X_steps (s' := (9, [(0, .ref 81), (1, .int x1)], [.int (h.1 81 1), .int x1], h)) 3 rfl).trans ?_
      refine (z_X_br (c := h.1 81 1 ≤ x1) (s1 := (16, [(0, .ref 81), (1, .int x1)], [], h)) (s2 := (12, [(0, .ref 81), (1, .int x1)], [], h)) rfl).trans (z_ite ?_ ?_)
      · refine (z_X_steps (s' := (17, [(0, .ref 81), (1, .int x1)], [.int 0], h)) 1 rfl).trans ?_
        exact z_X_ret rfl
      · refine (z_X_steps (s' := (17, [(0, .ref 81), (1, .int x1)], [.int 1], h)) 2 rfl).trans ?_
        exact z_X_ret rfl
  · show z_X zc_P_hasClass 1 (0, [(0, .ref 94), (1, .int x1)], [], h) = _
    refine (z_X_steps (s' := (1, [(0, .ref 94), (1, .int x1)], [.int x1], h)) 1 rfl).trans ?_
    refine (z_X_br (c := x1 < 0) (s1 := (16, [(0, .ref 94), (1, .int x1)], [], h)) (s2 := (4, [(0, .ref 94), (1, .int x1)], [], h)) rfl).trans (z_ite ?_ ?_)
    · refine (z_X_steps (s' := (17, [(0, .ref 94), (1, .int x1)], [.int 0], h)) 1 rfl).trans ?_
      exact z_X_ret rfl
    · refine (z_X_steps (s' := (9, [(0, .ref 94), (1, .int x1)], [.int (h.1 94 1), .int x1], h)) 3 rfl).trans ?_
      refine (z_X_br (c := h.1 94 1 ≤ x1) (s1 := (16, [(0, .ref 94), (1, .int x1)], [], h)) (s2 := (12, [(0, .ref 94), (1, .int x1)], [], h)) rfl).trans (z_ite ?_ ?_)
      · refine (z_X_steps (s' := (17, [(0, .ref 94), (1, .int x1)], [.int 0], h)) 1 rfl).trans ?_
        exact z_X_ret rfl
      · refine (z_X_steps (s' := (17, [(0, .ref 94), (1, .int x1)], [.int 1], h)) 2 rfl).trans ?_
        exact z_X_ret rfl
  · show z_X zc_P_hasClass 1 (0, [(0, .ref 102), (1, .int x1)], [], h) = _
    refine (z_X_steps (s' := (1, [(0, .ref 102), (1, .int x1)], [.int x1], h)) 1 rfl).trans ?_
    refine (z_X_br (c := x1 < 0) (s1 := (16, [(0, .ref 102), (1, .int x1)], [], h)) (s2 := (4, [(0, .ref 102), (1, .int x1)], [], h)) rfl).trans (z_ite ?_ ?_)
    · refine (z_X_steps (s' := (17, [(0, .ref 102), (1, .int x1)], [.int 0], h)) 1 rfl).trans ?_
      exact z_X_ret rfl
    · refine (z_X_steps (s' := (9, [(0, .ref 102), (1, .int x1)], [.int (h.1 102 1), .int x1], h)) 3 rfl).trans ?_
      refine (z_X_br (c := h.1 102 1 ≤ x1) (s1 := (16, [(0, .ref 102), (1, .int x1)], [], h)) (s2 := (12, [(0, .ref 102), (1, .int x1)], [], h)) rfl).trans (z_ite ?_ ?_)
      · refine (z_X_steps (s' := (17, [(0, .ref 102), (1, .int x1)], [.int 0], h)) 1 rfl).trans ?_
        exact z_X_ret rfl
      · refine (z_X_steps (s' := (17, [(0, .ref 102), (1, .int x1)], [.int 1], h)) 2 rfl).trans ?_
        exact z_X_ret rfl
set_option maxRecDepth 8000 in
set_option maxHeartbeats 2000000 in
theorem e_P_hasEdge {o : Nat} (hi : o ∈ [4, 17, 25, 73, 81, 94, 102]) (x1 : Int32) (h : z_H) : z_M 74 [.ref o, .int x1] h = (if (0 : Int32) ≤ x1 then (if (96 : Int32) ≤ x1 then (if (200 : Int32) ≤ x1 then z_bd (z_M 73 [.ref o, .int ((x1 - 200) / 4)] h) (fun r1 h2 => some (r1 &&& 1, h2)) else z_bd (z_M 70 [.ref o, .int (x1 - 100)] h) (fun r3 h4 => some (r3 &&& 1, h4))) else z_bd (z_M 72 [.ref o, .int ((x1 / 2) / 8), .int ((x1 / 2) - (x1 / 2) / 8 * 8), .int (x1 - x1 / 2 * 2)] h) (fun r5 h6 => some (r5 &&& 1, h6))) else some (0, h)) := by
  refine (z_M_eq (by decide)).trans ?_
  simp only [List.mem_cons, List.not_mem_nil, or_false, Prod.mk.injEq] at hi
  rcases hi with rfl | rfl | rfl | rfl | rfl | rfl | rfl
  · show z_X zc_P_hasEdge 4 (0, [(0, .ref 4), (1, .int x1)], [], h) = _
    refine (z_X_steps (s' := (1, [(0, .ref 4), (1, .int x1)], [.int x1], h)) 1 rfl).trans ?_
    refine (z_X_br (c := (0 : Int32) ≤ x1) (s1 := (6, [(0, .ref 4), (1, .int x1)], [], h)) (s2 := (4, [(0, .ref 4), (1, .int x1)], [], h)) rfl).trans (z_ite ?_ ?_)
    · refine (z_X_steps (s' := (9, [(0, .ref 4), (1, .int x1)], [.int 96, .int x1], h)) 2 rfl).trans ?_
      refine (z_X_br (c := (96 : Int32) ≤ x1) (s1 := (32, [(0, .ref 4), (1, .int x1)], [], h)) (s2 := (12, [(0, .ref 4), (1, .int x1)], [], h)) rfl).trans (z_ite ?_ ?_)
      · refine (z_X_steps (s' := (36, [(0, .ref 4), (1, .int x1)], [.int 200, .int x1], h)) 2 rfl).trans ?_
        refine (z_X_br (c := (200 : Int32) ≤ x1) (s1 := (48, [(0, .ref 4), (1, .int x1)], [], h)) (s2 := (39, [(0, .ref 4), (1, .int x1)], [], h)) rfl).trans (z_ite ?_ ?_)
        · refine (z_X_steps (s' := (56, [(0, .ref 4), (1, .int x1)], [.int ((x1 - 200) / 4), .ref 4], h)) 6 rfl).trans ?_
          refine (z_X_call (id := 73) (a := [.ref 4, .int ((x1 - 200) / 4)]) (c := 1) (s' := (59, [(0, .ref 4), (1, .int x1)], [], h)) rfl ⟨Nat.le_of_ble_eq_true rfl, Nat.le_of_ble_eq_true rfl⟩).trans ?_
          refine z_bdc fun r1 h2 => ?_
          exact z_X_ret rfl
        · refine (z_X_steps (s' := (44, [(0, .ref 4), (1, .int x1)], [.int (x1 - 100), .ref 4], h)) 4 rfl).trans ?_
          refine (z_X_call (id := 70) (a := [.ref 4, .int (x1 - 100)]) (c := 1) (s' := (47, [(0, .ref 4), (1, .int x1)], [], h)) rfl ⟨Nat.le_of_ble_eq_true rfl, Nat.le_of_ble_eq_true rfl⟩).trans ?_
          refine z_bdc fun r3 h4 => ?_
          exact z_X_ret rfl
      · refine (z_X_steps (s' := (28, [(2, .int (x1 / 2)), (0, .ref 4), (1, .int x1)], [.int (x1 - x1 / 2 * 2), .int ((x1 / 2) - (x1 / 2) / 8 * 8), .int ((x1 / 2) / 8), .ref 4], h)) 14 rfl).trans ?_
        refine (z_X_call (id := 72) (a := [.ref 4, .int ((x1 / 2) / 8), .int ((x1 / 2) - (x1 / 2) / 8 * 8), .int (x1 - x1 / 2 * 2)]) (c := 1) (s' := (31, [(2, .int (x1 / 2)), (0, .ref 4), (1, .int x1)], [], h)) rfl ⟨Nat.le_of_ble_eq_true rfl, Nat.le_of_ble_eq_true rfl⟩).trans ?_
        refine z_bdc fun r5 h6 => ?_
        exact z_X_ret rfl
    · refine (z_X_steps (s' := (5, [(0, .ref 4), (1, .int x1)], [.int 0], h)) 1 rfl).trans ?_
      exact z_X_ret rfl
  · show z_X zc_P_hasEdge 4 (0, [(0, .ref 17), (1, .int x1)], [], h) = _
    refine (z_X_steps (s' := (1, [(0, .ref 17), (1, .int x1)], [.int x1], h)) 1 rfl).trans ?_
    refine (z_X_br (c := (0 : Int32) ≤ x1) (s1 := (6, [(0, .ref 17), (1, .int x1)], [], h)) (s2 := (4, [(0, .ref 17), (1, .int x1)], [], h)) rfl).trans (z_ite ?_ ?_)
    · refine (z_X_steps (s' := (9, [(0, .ref 17), (1, .int x1)], [.int 96, .int x1], h)) 2 rfl).trans ?_
      refine (z_X_br (c := (96 : Int32) ≤ x1) (s1 := (32, [(0, .ref 17), (1, .int x1)], [], h)) (s2 := (12, [(0, .ref 17), (1, .int x1)], [], h)) rfl).trans (z_ite ?_ ?_)
      · refine (z_X_steps (s' := (36, [(0, .ref 17), (1, .int x1)], [.int 200, .int x1], h)) 2 rfl).trans ?_
        refine (z_X_br (c := (200 : Int32) ≤ x1) (s1 := (48, [(0, .ref 17), (1, .int x1)], [], h)) (s2 := (39, [(0, .ref 17), (1, .int x1)], [], h)) rfl).trans (z_ite ?_ ?_)
        · refine (z_X_steps (s' := (56, [(0, .ref 17), (1, .int x1)], [.int ((x1 - 200) / 4), .ref 17], h)) 6 rfl).trans ?_
          refine (z_X_call (id := 73) (a := [.ref 17, .int ((x1 - 200) / 4)]) (c := 1) (s' := (59, [(0, .ref 17), (1, .int x1)], [], h)) rfl ⟨Nat.le_of_ble_eq_true rfl, Nat.le_of_ble_eq_true rfl⟩).trans ?_
          refine z_bdc fun r1 h2 => ?_
          exact z_X_ret rfl
        · refine (z_X_steps (s' := (44, [(0, .ref 17), (1, .int x1)], [.int (x1 - 100), .ref 17], h)) 4 rfl).trans ?_
          refine (z_X_call (id := 70) (a := [.ref 17, .int (x1 - 100)]) (c := 1) (s' := (47, [(0, .ref 17), (1, .int x1)], [], h)) rfl ⟨Nat.le_of_ble_eq_true rfl, Nat.le_of_ble_eq_true rfl⟩).trans ?_
          refine z_bdc fun r3 h4 => ?_
          exact z_X_ret rfl
      · refine (z_X_steps (s' := (28, [(2, .int (x1 / 2)), (0, .ref 17), (1, .int x1)], [.int (x1 - x1 / 2 * 2), .int ((x1 / 2) - (x1 / 2) / 8 * 8), .int ((x1 / 2) / 8), .ref 17], h)) 14 rfl).trans ?_
        refine (z_X_call (id := 72) (a := [.ref 17, .int ((x1 / 2) / 8), .int ((x1 / 2) - (x1 / 2) / 8 * 8), .int (x1 - x1 / 2 * 2)]) (c := 1) (s' := (31, [(2, .int (x1 / 2)), (0, .ref 17), (1, .int x1)], [], h)) rfl ⟨Nat.le_of_ble_eq_true rfl, Nat.le_of_ble_eq_true rfl⟩).trans ?_
        refine z_bdc fun r5 h6 => ?_
        exact z_X_ret rfl
    · refine (z_X_steps (s' := (5, [(0, .ref 17), (1, .int x1)], [.int 0], h)) 1 rfl).trans ?_
      exact z_X_ret rfl
  · show z_X zc_P_hasEdge 4 (0, [(0, .ref 25), (1, .int x1)], [], h) = _
    refine (z_X_steps (s' := (1, [(0, .ref 25), (1, .int x1)], [.int x1], h)) 1 rfl).trans ?_
    refine (z_X_br (c := (0 : Int32) ≤ x1) (s1 := (6, [(0, .ref 25), (1, .int x1)], [], h)) (s2 := (4, [(0, .ref 25), (1, .int x1)], [], h)) rfl).trans (z_ite ?_ ?_)
    · refine (z_X_steps (s' := (9, [(0, .ref 25), (1, .int x1)], [.int 96, .int x1], h)) 2 rfl).trans ?_
      refine (z_X_br (c := (96 : Int32) ≤ x1) (s1 := (32, [(0, .ref 25), (1, .int x1)], [], h)) (s2 := (12, [(0, .ref 25), (1, .int x1)], [], h)) rfl).trans (z_ite ?_ ?_)
      · refine (z_X_steps (s' := (36, [(0, .ref 25), (1, .int x1)], [.int 200, .int x1], h)) 2 rfl).trans ?_
        refine (z_X_br (c := (200 : Int32) ≤ x1) (s1 := (48, [(0, .ref 25), (1, .int x1)], [], h)) (s2 := (39, [(0, .ref 25), (1, .int x1)], [], h)) rfl).trans (z_ite ?_ ?_)
        · refine (z_X_steps (s' := (56, [(0, .ref 25), (1, .int x1)], [.int ((x1 - 200) / 4), .ref 25], h)) 6 rfl).trans ?_
          refine (z_X_call (id := 73) (a := [.ref 25, .int ((x1 - 200) / 4)]) (c := 1) (s' := (59, [(0, .ref 25), (1, .int x1)], [], h)) rfl ⟨Nat.le_of_ble_eq_true rfl, Nat.le_of_ble_eq_true rfl⟩).trans ?_
          refine z_bdc fun r1 h2 => ?_
          exact z_X_ret rfl
        · refine (z_X_steps (s' := (44, [(0, .ref 25), (1, .int x1)], [.int (x1 - 100), .ref 25], h)) 4 rfl).trans ?_
          refine (z_X_call (id := 70) (a := [.ref 25, .int (x1 - 100)]) (c := 1) (s' := (47, [(0, .ref 25), (1, .int x1)], [], h)) rfl ⟨Nat.le_of_ble_eq_true rfl, Nat.le_of_ble_eq_true rfl⟩).trans ?_
          refine z_bdc fun r3 h4 => ?_
          exact z_X_ret rfl
      · refine (z_X_steps (s' := (28, [(2, .int (x1 / 2)), (0, .ref 25), (1, .int x1)], [.int (x1 - x1 / 2 * 2), .int ((x1 / 2) - (x1 / 2) / 8 * 8), .int ((x1 / 2) / 8), .ref 25], h)) 14 rfl).trans ?_
        refine (z_X_call (id := 72) (a := [.ref 25, .int ((x1 / 2) / 8), .int ((x1 / 2) - (x1 / 2) / 8 * 8), .int (x1 - x1 / 2 * 2)]) (c := 1) (s' := (31, [(2, .int (x1 / 2)), (0, .ref 25), (1, .int x1)], [], h)) rfl ⟨Nat.le_of_ble_eq_true rfl, Nat.le_of_ble_eq_true rfl⟩).trans ?_
        refine z_bdc fun r5 h6 => ?_
        exact z_X_ret rfl
    · refine (z_X_steps (s' := (5, [(0, .ref 25), (1, .int x1)], [.int 0], h)) 1 rfl).trans ?_
      exact z_X_ret rfl
  · show z_X zc_P_hasEdge 4 (0, [(0, .ref 73), (1, .int x1)], [], h) = _
    refine (z_X_steps (s' := (1, [(0, .ref 73), (1, .int x1)], [.int x1], h)) 1 rfl).trans ?_
    refine (z_X_br (c := (0 : Int32) ≤ x1) (s1 := (6, [(0, .ref 73), (1, .int x1)], [], h)) (s2 := (4, [(0, .ref 73), (1, .int x1)], [], h)) rfl).trans (z_ite ?_ ?_)
    · refine (z_X_steps (s' := (9, [(0, .ref 73), (1, .int x1)], [.int 96, .int x1], h)) 2 rfl).trans ?_
      refine (z_X_br (c := (96 : Int32) ≤ x1) (s1 := (32, [(0, .ref 73), (1, .int x1)], [], h)) (s2 := (12, [(0, .ref 73), (1, .int x1)], [], h)) rfl).trans (z_ite ?_ ?_)
      · refine (z_X_steps (s' := (36, [(0, .ref 73), (1, .int x1)], [.int 200, .int x1], h)) 2 rfl).trans ?_
        refine (z_X_br (c := (200 : Int32) ≤ x1) (s1 := (48, [(0, .ref 73), (1, .int x1)], [], h)) (s2 := (39, [(0, .ref 73), (1, .int x1)], [], h)) rfl).trans (z_ite ?_ ?_)
        · refine (z_X_steps (s' := (56, [(0, .ref 73), (1, .int x1)], [.int ((x1 - 200) / 4), .ref 73], h)) 6 rfl).trans ?_
          refine (z_X_call (id := 73) (a := [.ref 73, .int ((x1 - 200) / 4)]) (c := 1) (s' := (59, [(0, .ref 73), (1, .int x1)], [], h)) rfl ⟨Nat.le_of_ble_eq_true rfl, Nat.le_of_ble_eq_true rfl⟩).trans ?_
          refine z_bdc fun r1 h2 => ?_
          exact z_X_ret rfl
        · refine (z_X_steps (s' := (44, [(0, .ref 73), (1, .int x1)], [.int (x1 - 100), .ref 73], h)) 4 rfl).trans ?_
          refine (z_X_call (id := 70) (a := [.ref 73, .int (x1 - 100)]) (c := 1) (s' := (47, [(0, .ref 73), (1, .int x1)], [], h)) rfl ⟨Nat.le_of_ble_eq_true rfl, Nat.le_of_ble_eq_true rfl⟩).trans ?_
          refine z_bdc fun r3 h4 => ?_
          exact z_X_ret rfl
      · refine (z_X_steps (s' := (28, [(2, .int (x1 / 2)), (0, .ref 73), (1, .int x1)], [.int (x1 - x1 / 2 * 2), .int ((x1 / 2) - (x1 / 2) / 8 * 8), .int ((x1 / 2) / 8), .ref 73], h)) 14 rfl).trans ?_
        refine (z_X_call (id := 72) (a := [.ref 73, .int ((x1 / 2) / 8), .int ((x1 / 2) - (x1 / 2) / 8 * 8), .int (x1 - x1 / 2 * 2)]) (c := 1) (s' := (31, [(2, .int (x1 / 2)), (0, .ref 73), (1, .int x1)], [], h)) rfl ⟨Nat.le_of_ble_eq_true rfl, Nat.le_of_ble_eq_true rfl⟩).trans ?_
        refine z_bdc fun r5 h6 => ?_
        exact z_X_ret rfl
    · refine (z_X_steps (s' := (5, [(0, .ref 73), (1, .int x1)], [.int 0], h)) 1 rfl).trans ?_
      exact z_X_ret rfl
  · show z_X zc_P_hasEdge 4 (0, [(0, .ref 81), (1, .int x1)], [], h) = _
    refine (z_X_steps (s' := (1, [(0, .ref 81), (1, .int x1)], [.int x1], h)) 1 rfl).trans ?_
    refine (z_X_br (c := (0 : Int32) ≤ x1) (s1 := (6, [(0, .ref 81), (1, .int x1)], [], h)) (s2 := (4, [(0, .ref 81), (1, .int x1)], [], h)) rfl).trans (z_ite ?_ ?_)
    · refine (z_X_steps (s' := (9, [(0, .ref 81), (1, .int x1)], [.int 96, .int x1], h)) 2 rfl).trans ?_
      refine (z_X_br (c := (96 : Int32) ≤ x1) (s1 := (32, [(0, .ref 81), (1, .int x1)], [], h)) (s2 := (12, [(0, .ref 81), (1, .int x1)], [], h)) rfl).trans (z_ite ?_ ?_)
      · refine (z_X_steps (s' := (36, [(0, .ref 81), (1, .int x1)], [.int 200, .int x1], h)) 2 rfl).trans ?_
        refine (z_X_br (c := (200 : Int32) ≤ x1) (s1 := (48, [(0, .ref 81), (1, .int x1)], [], h)) (s2 := (39, [(0, .ref 81), (1, .int x1)], [], h)) rfl).trans (z_ite ?_ ?_)
        · refine (z_X_steps (s' := (56, [(0, .ref 81), (1, .int x1)], [.int ((x1 - 200) / 4), .ref 81], h)) 6 rfl).trans ?_
          refine (z_X_call (id := 73) (a := [.ref 81, .int ((x1 - 200) / 4)]) (c := 1) (s' := (59, [(0, .ref 81), (1, .int x1)], [], h)) rfl ⟨Nat.le_of_ble_eq_true rfl, Nat.le_of_ble_eq_true rfl⟩).trans ?_
          refine z_bdc fun r1 h2 => ?_
          exact z_X_ret rfl
        · refine (z_X_steps (s' := (44, [(0, .ref 81), (1, .int x1)], [.int (x1 - 100), .ref 81], h)) 4 rfl).trans ?_
          refine (z_X_call (id := 70) (a := [.ref 81, .int (x1 - 100)]) (c := 1) (s' := (47, [(0, .ref 81), (1, .int x1)], [], h)) rfl ⟨Nat.le_of_ble_eq_true rfl, Nat.le_of_ble_eq_true rfl⟩).trans ?_
          refine z_bdc fun r3 h4 => ?_
          exact z_X_ret rfl
      · refine (z_X_steps (s' := (28, [(2, .int (x1 / 2)), (0, .ref 81), (1, .int x1)], [.int (x1 - x1 / 2 * 2), .int ((x1 / 2) - (x1 / 2) / 8 * 8), .int ((x1 / 2) / 8), .ref 81], h)) 14 rfl).trans ?_
        refine (z_X_call (id := 72) (a := [.ref 81, .int ((x1 / 2) / 8), .int ((x1 / 2) - (x1 / 2) / 8 * 8), .int (x1 - x1 / 2 * 2)]) (c := 1) (s' := (31, [(2, .int (x1 / 2)), (0, .ref 81), (1, .int x1)], [], h)) rfl ⟨Nat.le_of_ble_eq_true rfl, Nat.le_of_ble_eq_true rfl⟩).trans ?_
        refine z_bdc fun r5 h6 => ?_
        exact z_X_ret rfl
    · refine (z_X_steps (s' := (5, [(0, .ref 81), (1, .int x1)], [.int 0], h)) 1 rfl).trans ?_
      exact z_X_ret rfl
  · show z_X zc_P_hasEdge 4 (0, [(0, .ref 94), (1, .int x1)], [], h) = _
    refine (z_X_steps (s' := (1, [(0, .ref 94), (1, .int x1)], [.int x1], h)) 1 rfl).trans ?_
    refine (z_X_br (c := (0 : Int32) ≤ x1) (s1 := (6, [(0, .ref 94), (1, .int x1)], [], h)) (s2 := (4, [(0, .ref 94), (1, .int x1)], [], h)) rfl).trans (z_ite ?_ ?_)
    · refine (z_X_steps (s' := (9, [(0, .ref 94), (1, .int x1)], [.int 96, .int x1], h)) 2 rfl).trans ?_
      refine (z_X_br (c := (96 : Int32) ≤ x1) (s1 := (32, [(0, .ref 94), (1, .int x1)], [], h)) (s2 := (12, [(0, .ref 94), (1, .int x1)], [], h)) rfl).trans (z_ite ?_ ?_)
      · refine (z_X_steps (s' := (36, [(0, .ref 94), (1, .int x1)], [.int 200, .int x1], h)) 2 rfl).trans ?_
        refine (z_X_br (c := (200 : Int32) ≤ x1) (s1 := (48, [(0, .ref 94), (1, .int x1)], [], h)) (s2 := (39, [(0, .ref 94), (1, .int x1)], [], h)) rfl).trans (z_ite ?_ ?_)
        · refine (z_X_steps (s' := (56, [(0, .ref 94), (1, .int x1)], [.int ((x1 - 200) / 4), .ref 94], h)) 6 rfl).trans ?_
          refine (z_X_call (id := 73) (a := [.ref 94, .int ((x1 - 200) / 4)]) (c := 1) (s' := (59, [(0, .ref 94), (1, .int x1)], [], h)) rfl ⟨Nat.le_of_ble_eq_true rfl, Nat.le_of_ble_eq_true rfl⟩).trans ?_
          refine z_bdc fun r1 h2 => ?_
          exact z_X_ret rfl
        · refine (z_X_steps (s' := (44, [(0, .ref 94), (1, .int x1)], [.int (x1 - 100), .ref 94], h)) 4 rfl).trans ?_
          refine (z_X_call (id := 70) (a := [.ref 94, .int (x1 - 100)]) (c := 1) (s' := (47, [(0, .ref 94), (1, .int x1)], [], h)) rfl ⟨Nat.le_of_ble_eq_true rfl, Nat.le_of_ble_eq_true rfl⟩).trans ?_
          refine z_bdc fun r3 h4 => ?_
          exact z_X_ret rfl
      · refine (z_X_steps (s' := (28, [(2, .int (x1 / 2)), (0, .ref 94), (1, .int x1)], [.int (x1 - x1 / 2 * 2), .int ((x1 / 2) - (x1 / 2) / 8 * 8), .int ((x1 / 2) / 8), .ref 94], h)) 14 rfl).trans ?_
        refine (z_X_call (id := 72) (a := [.ref 94, .int ((x1 / 2) / 8), .int ((x1 / 2) - (x1 / 2) / 8 * 8), .int (x1 - x1 / 2 * 2)]) (c := 1) (s' := (31, [(2, .int (x1 / 2)), (0, .ref 94), (1, .int x1)], [], h)) rfl ⟨Nat.le_of_ble_eq_true rfl, Nat.le_of_ble_eq_true rfl⟩).trans ?_
        refine z_bdc fun r5 h6 => ?_
        exact z_X_ret rfl
    · refine (z_X_steps (s' := (5, [(0, .ref 94), (1, .int x1)], [.int 0], h)) 1 rfl).trans ?_
      exact z_X_ret rfl
  · show z_X zc_P_hasEdge 4 (0, [(0, .ref 102), (1, .int x1)], [], h) = _
    refine (z_X_steps (s' := (1, [(0, .ref 102), (1, .int x1)], [.int x1], h)) 1 rfl).trans ?_
    refine (z_X_br (c := (0 : Int32) ≤ x1) (s1 := (6, [(0, .ref 102), (1, .int x1)], [], h)) (s2 := (4, [(0, .ref 102), (1, .int x1)], [], h)) rfl).trans (z_ite ?_ ?_)
    · refine (z_X_steps (s' := (9, [(0, .ref 102), (1, .int x1)], [.int 96, .int x1], h)) 2 rfl).trans ?_
      refine (z_X_br (c := (96 : Int32) ≤ x1) (s1 := (32, [(0, .ref 102), (1, .int x1)], [], h)) (s2 := (12, [(0, .ref 102), (1, .int x1)], [], h)) rfl).trans (z_ite ?_ ?_)
      · refine (z_X_steps (s' := (36, [(0, .ref 102), (1, .int x1)], [.int 200, .int x1], h)) 2 rfl).trans ?_
        refine (z_X_br (c := (200 : Int32) ≤ x1) (s1 := (48, [(0, .ref 102), (1, .int x1)], [], h)) (s2 := (39, [(0, .ref 102), (1, .int x1)], [], h)) rfl).trans (z_ite ?_ ?_)
        · refine (z_X_steps (s' := (56, [(0, .ref 102), (1, .int x1)], [.int ((x1 - 200) / 4), .ref 102], h)) 6 rfl).trans ?_
          refine (z_X_call (id := 73) (a := [.ref 102, .int ((x1 - 200) / 4)]) (c := 1) (s' := (59, [(0, .ref 102), (1, .int x1)], [], h)) rfl ⟨Nat.le_of_ble_eq_true rfl, Nat.le_of_ble_eq_true rfl⟩).trans ?_
          refine z_bdc fun r1 h2 => ?_
          exact z_X_ret rfl
        · refine (z_X_steps (s' := (44, [(0, .ref 102), (1, .int x1)], [.int (x1 - 100), .ref 102], h)) 4 rfl).trans ?_
          refine (z_X_call (id := 70) (a := [.ref 102, .int (x1 - 100)]) (c := 1) (s' := (47, [(0, .ref 102), (1, .int x1)], [], h)) rfl ⟨Nat.le_of_ble_eq_true rfl, Nat.le_of_ble_eq_true rfl⟩).trans ?_
          refine z_bdc fun r3 h4 => ?_
          exact z_X_ret rfl
      · refine (z_X_steps (s' := (28, [(2, .int (x1 / 2)), (0, .ref 102), (1, .int x1)], [.int (x1 - x1 / 2 * 2), .int ((x1 / 2) - (x1 / 2) / 8 * 8), .int ((x1 / 2) / 8), .ref 102], h)) 14 rfl).trans ?_
        refine (z_X_call (id := 72) (a := [.ref 102, .int ((x1 / 2) / 8), .int ((x1 / 2) - (x1 / 2) / 8 * 8), .int (x1 - x1 / 2 * 2)]) (c := 1) (s' := (31, [(2, .int (x1 / 2)), (0, .ref 102), (1, .int x1)], [], h)) rfl ⟨Nat.le_of_ble_eq_true rfl, Nat.le_of_ble_eq_true rfl⟩).trans ?_
        refine z_bdc fun r5 h6 => ?_
        exact z_X_ret rfl
    · refine (z_X_steps (s' := (5, [(0, .ref 102), (1, .int x1)], [.int 0], h)) 1 rfl).trans ?_
      exact z_X_ret rfl
set_option maxRecDepth 8000 in
set_option maxHeartbeats 2000000 in
theorem e_P_nextOf {o : Nat} (hi : o ∈ [4, 17, 25, 73, 81, 94, 102]) (x1 : Int32) (x2 : Int32) (x3 : Int32) (h : z_H) : z_M 75 [.ref o, .int x1, .int x2, .int x3] h = z_bd (z_M 43 [.int x1, .int x2, .int x3] h) (fun r1 h2 => (bif z_in r1 96 then some (h2.1 (o + 5) (r1.toNatClampNeg), h2) else none)) := by
  refine (z_M_eq (by decide)).trans ?_
  simp only [List.mem_cons, List.not_mem_nil, or_false, Prod.mk.injEq] at hi
  rcases hi with rfl | rfl | rfl | rfl | rfl | rfl | rfl
  · show z_X zc_P_nextOf 2 (0, [(0, .ref 4), (1, .int x1), (2, .int x2), (3, .int x3)], [], h) = _
    refine (z_X_steps (s' := (7, [(0, .ref 4), (1, .int x1), (2, .int x2), (3, .int x3)], [.int x3, .int x2, .int x1, .ref (4 + 5)], h)) 5 rfl).trans ?_
    refine (z_X_call (id := 43) (a := [.int x1, .int x2, .int x3]) (c := 1) (s' := (10, [(0, .ref 4), (1, .int x1), (2, .int x2), (3, .int x3)], [.ref (4 + 5)], h)) rfl ⟨Nat.le_of_ble_eq_true rfl, Nat.le_of_ble_eq_true rfl⟩).trans ?_
    refine z_bdc fun r1 h2 => ?_
    refine (z_X_if (g := z_in r1 96) (s' := (11, [(0, .ref 4), (1, .int x1), (2, .int x2), (3, .int x3)], [.int (h2.1 (4 + 5) (r1.toNatClampNeg))], h2)) rfl).trans (z_bifA ?_)
    exact z_X_ret rfl
  · show z_X zc_P_nextOf 2 (0, [(0, .ref 17), (1, .int x1), (2, .int x2), (3, .int x3)], [], h) = _
    refine (z_X_steps (s' := (7, [(0, .ref 17), (1, .int x1), (2, .int x2), (3, .int x3)], [.int x3, .int x2, .int x1, .ref (17 + 5)], h)) 5 rfl).trans ?_
    refine (z_X_call (id := 43) (a := [.int x1, .int x2, .int x3]) (c := 1) (s' := (10, [(0, .ref 17), (1, .int x1), (2, .int x2), (3, .int x3)], [.ref (17 + 5)], h)) rfl ⟨Nat.le_of_ble_eq_true rfl, Nat.le_of_ble_eq_true rfl⟩).trans ?_
    refine z_bdc fun r1 h2 => ?_
    refine (z_X_if (g := z_in r1 96) (s' := (11, [(0, .ref 17), (1, .int x1), (2, .int x2), (3, .int x3)], [.int (h2.1 (17 + 5) (r1.toNatClampNeg))], h2)) rfl).trans (z_bifA ?_)
    exact z_X_ret rfl
  · show z_X zc_P_nextOf 2 (0, [(0, .ref 25), (1, .int x1), (2, .int x2), (3, .int x3)], [], h) = _
    refine (z_X_steps (s' := (7, [(0, .ref 25), (1, .int x1), (2, .int x2), (3, .int x3)], [.int x3, .int x2, .int x1, .ref (25 + 5)], h)) 5 rfl).trans ?_
    refine (z_X_call (id := 43) (a := [.int x1, .int x2, .int x3]) (c := 1) (s' := (10, [(0, .ref 25), (1, .int x1), (2, .int x2), (3, .int x3)], [.ref (25 + 5)], h)) rfl ⟨Nat.le_of_ble_eq_true rfl, Nat.le_of_ble_eq_true rfl⟩).trans ?_
    refine z_bdc fun r1 h2 => ?_
    refine (z_X_if (g := z_in r1 96) (s' := (11, [(0, .ref 25), (1, .int x1), (2, .int x2), (3, .int x3)], [.int (h2.1 (25 + 5) (r1.toNatClampNeg))], h2)) rfl).trans (z_bifA ?_)
    exact z_X_ret rfl
  · show z_X zc_P_nextOf 2 (0, [(0, .ref 73), (1, .int x1), (2, .int x2), (3, .int x3)], [], h) = _
    refine (z_X_steps (s' := (7, [(0, .ref 73), (1, .int x1), (2, .int x2), (3, .int x3)], [.int x3, .int x2, .int x1, .ref (73 + 5)], h)) 5 rfl).trans ?_
    refine (z_X_call (id := 43) (a := [.int x1, .int x2, .int x3]) (c := 1) (s' := (10, [(0, .ref 73), (1, .int x1), (2, .int x2), (3, .int x3)], [.ref (73 + 5)], h)) rfl ⟨Nat.le_of_ble_eq_true rfl, Nat.le_of_ble_eq_true rfl⟩).trans ?_
    refine z_bdc fun r1 h2 => ?_
    refine (z_X_if (g := z_in r1 96) (s' := (11, [(0, .ref 73), (1, .int x1), (2, .int x2), (3, .int x3)], [.int (h2.1 (73 + 5) (r1.toNatClampNeg))], h2)) rfl).trans (z_bifA ?_)
    exact z_X_ret rfl
  · show z_X zc_P_nextOf 2 (0, [(0, .ref 81), (1, .int x1), (2, .int x2), (3, .int x3)], [], h) = _
    refine (z_X_steps (s' := (7, [(0, .ref 81), (1, .int x1), (2, .int x2), (3, .int x3)], [.int x3, .int x2, .int x1, .ref (81 + 5)], h)) 5 rfl).trans ?_
    refine (z_X_call (id := 43) (a := [.int x1, .int x2, .int x3]) (c := 1) (s' := (10, [(0, .ref 81), (1, .int x1), (2, .int x2), (3, .int x3)], [.ref (81 + 5)], h)) rfl ⟨Nat.le_of_ble_eq_true rfl, Nat.le_of_ble_eq_true rfl⟩).trans ?_
    refine z_bdc fun r1 h2 => ?_
    refine (z_X_if (g := z_in r1 96) (s' := (11, [(0, .ref 81), (1, .int x1), (2, .int x2), (3, .int x3)], [.int (h2.1 (81 + 5) (r1.toNatClampNeg))], h2)) rfl).trans (z_bifA ?_)
    exact z_X_ret rfl
  · show z_X zc_P_nextOf 2 (0, [(0, .ref 94), (1, .int x1), (2, .int x2), (3, .int x3)], [], h) = _
    refine (z_X_steps (s' := (7, [(0, .ref 94), (1, .int x1), (2, .int x2), (3, .int x3)], [.int x3, .int x2, .int x1, .ref (94 + 5)], h)) 5 rfl).trans ?_
    refine (z_X_call (id := 43) (a := [.int x1, .int x2, .int x3]) (c := 1) (s' := (10, [(0, .ref 94), (1, .int x1), (2, .int x2), (3, .int x3)], [.ref (94 + 5)], h)) rfl ⟨Nat.le_of_ble_eq_true rfl, Nat.le_of_ble_eq_true rfl⟩).trans ?_
    refine z_bdc fun r1 h2 => ?_
    refine (z_X_if (g := z_in r1 96) (s' := (11, [(0, .ref 94), (1, .int x1), (2, .int x2), (3, .int x3)], [.int (h2.1 (94 + 5) (r1.toNatClampNeg))], h2)) rfl).trans (z_bifA ?_)
    exact z_X_ret rfl
  · show z_X zc_P_nextOf 2 (0, [(0, .ref 102), (1, .int x1), (2, .int x2), (3, .int x3)], [], h) = _
    refine (z_X_steps (s' := (7, [(0, .ref 102), (1, .int x1), (2, .int x2), (3, .int x3)], [.int x3, .int x2, .int x1, .ref (102 + 5)], h)) 5 rfl).trans ?_
    refine (z_X_call (id := 43) (a := [.int x1, .int x2, .int x3]) (c := 1) (s' := (10, [(0, .ref 102), (1, .int x1), (2, .int x2), (3, .int x3)], [.ref (102 + 5)], h)) rfl ⟨Nat.le_of_ble_eq_true rfl, Nat.le_of_ble_eq_true rfl⟩).trans ?_
    refine z_bdc fun r1 h2 => ?_
    refine (z_X_if (g := z_in r1 96) (s' := (11, [(0, .ref 102), (1, .int x1), (2, .int x2), (3, .int x3)], [.int (h2.1 (102 + 5) (r1.toNatClampNeg))], h2)) rfl).trans (z_bifA ?_)
    exact z_X_ret rfl
set_option maxRecDepth 8000 in
set_option maxHeartbeats 2000000 in
theorem e_P_mayTurn {o : Nat} (hi : o ∈ [4, 17, 25, 73, 81, 94, 102]) (x1 : Int32) (x2 : Int32) (x3 : Int32) (x4 : Int32) (h : z_H) : z_M 76 [.ref o, .int x1, .int x2, .int x3, .int x4] h = z_bd (z_M 72 [.ref o, .int x1, .int x2, .int x3] h) (fun r1 h2 => (if r1 = 0 then some (0, h2) else (if x4 = 9 then some (1, h2) else z_bd (z_M 71 [.ref o, .int x1, .int x4] h2) (fun r3 h4 => (if r3 = 0 then some (0, h4) else some (1, h4)))))) := by
  refine (z_M_eq (by decide)).trans ?_
  simp only [List.mem_cons, List.not_mem_nil, or_false, Prod.mk.injEq] at hi
  rcases hi with rfl | rfl | rfl | rfl | rfl | rfl | rfl
  · show z_X zc_P_mayTurn 4 (0, [(0, .ref 4), (1, .int x1), (2, .int x2), (3, .int x3), (4, .int x4)], [], h) = _
    refine (z_X_steps (s' := (4, [(0, .ref 4), (1, .int x1), (2, .int x2), (3, .int x3), (4, .int x4)], [.int x3, .int x2, .int x1, .ref 4], h)) 4 rfl).trans ?_
    refine (z_X_call (id := 72) (a := [.ref 4, .int x1, .int x2, .int x3]) (c := 1) (s' := (7, [(0, .ref 4), (1, .int x1), (2, .int x2), (3, .int x3), (4, .int x4)], [], h)) rfl ⟨Nat.le_of_ble_eq_true rfl, Nat.le_of_ble_eq_true rfl⟩).trans ?_
    refine z_bdc fun r1 h2 => ?_
    refine (z_X_br (c := r1 = 0) (s1 := (31, [(0, .ref 4), (1, .int x1), (2, .int x2), (3, .int x3), (4, .int x4)], [], h2)) (s2 := (10, [(0, .ref 4), (1, .int x1), (2, .int x2), (3, .int x3), (4, .int x4)], [], h2)) rfl).trans (z_ite ?_ ?_)
    · refine (z_X_steps (s' := (32, [(0, .ref 4), (1, .int x1), (2, .int x2), (3, .int x3), (4, .int x4)], [.int 0], h2)) 1 rfl).trans ?_
      exact z_X_ret rfl
    · refine (z_X_steps (s' := (14, [(0, .ref 4), (1, .int x1), (2, .int x2), (3, .int x3), (4, .int x4)], [.int 9, .int x4], h2)) 2 rfl).trans ?_
      refine (z_X_br (c := x4 = 9) (s1 := (27, [(0, .ref 4), (1, .int x1), (2, .int x2), (3, .int x3), (4, .int x4)], [], h2)) (s2 := (17, [(0, .ref 4), (1, .int x1), (2, .int x2), (3, .int x3), (4, .int x4)], [], h2)) rfl).trans (z_ite ?_ ?_)
      · refine (z_X_steps (s' := (32, [(0, .ref 4), (1, .int x1), (2, .int x2), (3, .int x3), (4, .int x4)], [.int 1], h2)) 2 rfl).trans ?_
        exact z_X_ret rfl
      · refine (z_X_steps (s' := (21, [(0, .ref 4), (1, .int x1), (2, .int x2), (3, .int x3), (4, .int x4)], [.int x4, .int x1, .ref 4], h2)) 3 rfl).trans ?_
        refine (z_X_call (id := 71) (a := [.ref 4, .int x1, .int x4]) (c := 1) (s' := (24, [(0, .ref 4), (1, .int x1), (2, .int x2), (3, .int x3), (4, .int x4)], [], h2)) rfl ⟨Nat.le_of_ble_eq_true rfl, Nat.le_of_ble_eq_true rfl⟩).trans ?_
        refine z_bdc fun r3 h4 => ?_
        refine (z_X_br (c := r3 = 0) (s1 := (31, [(0, .ref 4), (1, .int x1), (2, .int x2), (3, .int x3), (4, .int x4)], [], h4)) (s2 := (27, [(0, .ref 4), (1, .int x1), (2, .int x2), (3, .int x3), (4, .int x4)], [], h4)) rfl).trans (z_ite ?_ ?_)
        · refine (z_X_steps (s' := (32, [(0, .ref 4), (1, .int x1), (2, .int x2), (3, .int x3), (4, .int x4)], [.int 0], h4)) 1 rfl).trans ?_
          exact z_X_ret rfl
        · refine (z_X_steps (s' := (32, [(0, .ref 4), (1, .int x1), (2, .int x2), (3, .int x3), (4, .int x4)], [.int 1], h4)) 2 rfl).trans ?_
          exact z_X_ret rfl
  · show z_X zc_P_mayTurn 4 (0, [(0, .ref 17), (1, .int x1), (2, .int x2), (3, .int x3), (4, .int x4)], [], h) = _
    refine (z_X_steps (s' := (4, [(0, .ref 17), (1, .int x1), (2, .int x2), (3, .int x3), (4, .int x4)], [.int x3, .int x2, .int x1, .ref 17], h)) 4 rfl).trans ?_
    refine (z_X_call (id := 72) (a := [.ref 17, .int x1, .int x2, .int x3]) (c := 1) (s' := (7, [(0, .ref 17), (1, .int x1), (2, .int x2), (3, .int x3), (4, .int x4)], [], h)) rfl ⟨Nat.le_of_ble_eq_true rfl, Nat.le_of_ble_eq_true rfl⟩).trans ?_
    refine z_bdc fun r1 h2 => ?_
    refine (z_X_br (c := r1 = 0) (s1 := (31, [(0, .ref 17), (1, .int x1), (2, .int x2), (3, .int x3), (4, .int x4)], [], h2)) (s2 := (10, [(0, .ref 17), (1, .int x1), (2, .int x2), (3, .int x3), (4, .int x4)], [], h2)) rfl).trans (z_ite ?_ ?_)
    · refine (z_X_steps (s' := (32, [(0, .ref 17), (1, .int x1), (2, .int x2), (3, .int x3), (4, .int x4)], [.int 0], h2)) 1 rfl).trans ?_
      exact z_X_ret rfl
    · refine (z_X_steps (s' := (14, [(0, .ref 17), (1, .int x1), (2, .int x2), (3, .int x3), (4, .int x4)], [.int 9, .int x4], h2)) 2 rfl).trans ?_
      refine (z_X_br (c := x4 = 9) (s1 := (27, [(0, .ref 17), (1, .int x1), (2, .int x2), (3, .int x3), (4, .int x4)], [], h2)) (s2 := (17, [(0, .ref 17), (1, .int x1), (2, .int x2), (3, .int x3), (4, .int x4)], [], h2)) rfl).trans (z_ite ?_ ?_)
      · refine (z_X_steps (s' := (32, [(0, .ref 17), (1, .int x1), (2, .int x2), (3, .int x3), (4, .int x4)], [.int 1], h2)) 2 rfl).trans ?_
        exact z_X_ret rfl
      · refine (z_X_steps (s' := (21, [(0, .ref 17), (1, .int x1), (2, .int x2), (3, .int x3), (4, .int x4)], [.int x4, .int x1, .ref 17], h2)) 3 rfl).trans ?_
        refine (z_X_call (id := 71) (a := [.ref 17, .int x1, .int x4]) (c := 1) (s' := (24, [(0, .ref 17), (1, .int x1), (2, .int x2), (3, .int x3), (4, .int x4)], [], h2)) rfl ⟨Nat.le_of_ble_eq_true rfl, Nat.le_of_ble_eq_true rfl⟩).trans ?_
        refine z_bdc fun r3 h4 => ?_
        refine (z_X_br (c := r3 = 0) (s1 := (31, [(0, .ref 17), (1, .int x1), (2, .int x2), (3, .int x3), (4, .int x4)], [], h4)) (s2 := (27, [(0, .ref 17), (1, .int x1), (2, .int x2), (3, .int x3), (4, .int x4)], [], h4)) rfl).trans (z_ite ?_ ?_)
        · refine (z_X_steps (s' := (32, [(0, .ref 17), (1, .int x1), (2, .int x2), (3, .int x3), (4, .int x4)], [.int 0], h4)) 1 rfl).trans ?_
          exact z_X_ret rfl
        · refine (z_X_steps (s' := (32, [(0, .ref 17), (1, .int x1), (2, .int x2), (3, .int x3), (4, .int x4)], [.int 1], h4)) 2 rfl).trans ?_
          exact z_X_ret rfl
  · show z_X zc_P_mayTurn 4 (0, [(0, .ref 25), (1, .int x1), (2, .int x2), (3, .int x3), (4, .int x4)], [], h) = _
    refine (z_X_steps (s' := (4, [(0, .ref 25), (1, .int x1), (2, .int x2), (3, .int x3), (4, .int x4)], [.int x3, .int x2, .int x1, .ref 25], h)) 4 rfl).trans ?_
    refine (z_X_call (id := 72) (a := [.ref 25, .int x1, .int x2, .int x3]) (c := 1) (s' := (7, [(0, .ref 25), (1, .int x1), (2, .int x2), (3, .int x3), (4, .int x4)], [], h)) rfl ⟨Nat.le_of_ble_eq_true rfl, Nat.le_of_ble_eq_true rfl⟩).trans ?_
    refine z_bdc fun r1 h2 => ?_
    refine (z_X_br (c := r1 = 0) (s1 := (31, [(0, .ref 25), (1, .int x1), (2, .int x2), (3, .int x3), (4, .int x4)], [], h2)) (s2 := (10, [(0, .ref 25), (1, .int x1), (2, .int x2), (3, .int x3), (4, .int x4)], [], h2)) rfl).trans (z_ite ?_ ?_)
    · refine (z_X_steps (s' := (32, [(0, .ref 25), (1, .int x1), (2, .int x2), (3, .int x3), (4, .int x4)], [.int 0], h2)) 1 rfl).trans ?_
      exact z_X_ret rfl
    · refine (z_X_steps (s' := (14, [(0, .ref 25), (1, .int x1), (2, .int x2), (3, .int x3), (4, .int x4)], [.int 9, .int x4], h2)) 2 rfl).trans ?_
      refine (z_X_br (c := x4 = 9) (s1 := (27, [(0, .ref 25), (1, .int x1), (2, .int x2), (3, .int x3), (4, .int x4)], [], h2)) (s2 := (17, [(0, .ref 25), (1, .int x1), (2, .int x2), (3, .int x3), (4, .int x4)], [], h2)) rfl).trans (z_ite ?_ ?_)
      · refine (z_X_steps (s' := (32, [(0, .ref 25), (1, .int x1), (2, .int x2), (3, .int x3), (4, .int x4)], [.int 1], h2)) 2 rfl).trans ?_
        exact z_X_ret rfl
      · refine (z_X_steps (s' := (21, [(0, .ref 25), (1, .int x1), (2, .int x2), (3, .int x3), (4, .int x4)], [.int x4, .int x1, .ref 25], h2)) 3 rfl).trans ?_
        refine (z_X_call (id := 71) (a := [.ref 25, .int x1, .int x4]) (c := 1) (s' := (24, [(0, .ref 25), (1, .int x1), (2, .int x2), (3, .int x3), (4, .int x4)], [], h2)) rfl ⟨Nat.le_of_ble_eq_true rfl, Nat.le_of_ble_eq_true rfl⟩).trans ?_
        refine z_bdc fun r3 h4 => ?_
        refine (z_X_br (c := r3 = 0) (s1 := (31, [(0, .ref 25), (1, .int x1), (2, .int x2), (3, .int x3), (4, .int x4)], [], h4)) (s2 := (27, [(0, .ref 25), (1, .int x1), (2, .int x2), (3, .int x3), (4, .int x4)], [], h4)) rfl).trans (z_ite ?_ ?_)
        · refine (z_X_steps (s' := (32, [(0, .ref 25), (1, .int x1), (2, .int x2), (3, .int x3), (4, .int x4)], [.int 0], h4)) 1 rfl).trans ?_
          exact z_X_ret rfl
        · refine (z_X_steps (s' := (32, [(0, .ref 25), (1, .int x1), (2, .int x2), (3, .int x3), (4, .int x4)], [.int 1], h4)) 2 rfl).trans ?_
          exact z_X_ret rfl
  · show z_X zc_P_mayTurn 4 (0, [(0, .ref 73), (1, .int x1), (2, .int x2), (3, .int x3), (4, .int x4)], [], h) = _
    refine (z_X_steps (s' := (4, [(0, .ref 73), (1, .int x1), (2, .int x2), (3, .int x3), (4, .int x4)], [.int x3, .int x2, .int x1, .ref 73], h)) 4 rfl).trans ?_
    refine (z_X_call (id := 72) (a := [.ref 73, .int x1, .int x2, .int x3]) (c := 1) (s' := (7, [(0, .ref 73), (1, .int x1), (2, .int x2), (3, .int x3), (4, .int x4)], [], h)) rfl ⟨Nat.le_of_ble_eq_true rfl, Nat.le_of_ble_eq_true rfl⟩).trans ?_
    refine z_bdc fun r1 h2 => ?_
    refine (z_X_br (c := r1 = 0) (s1 := (31, [(0, .ref 73), (1, .int x1), (2, .int x2), (3, .int x3), (4, .int x4)], [], h2)) (s2 := (10, [(0, .ref 73), (1, .int x1), (2, .int x2), (3, .int x3), (4, .int x4)], [], h2)) rfl).trans (z_ite ?_ ?_)
    · refine (z_X_steps (s' := (32, [(0, .ref 73), (1, .int x1), (2, .int x2), (3, .int x3), (4, .int x4)], [.int 0], h2)) 1 rfl).trans ?_
      exact z_X_ret rfl
    · refine (z_X_steps (s' := (14, [(0, .ref 73), (1, .int x1), (2, .int x2), (3, .int x3), (4, .int x4)], [.int 9, .int x4], h2)) 2 rfl).trans ?_
      refine (z_X_br (c := x4 = 9) (s1 := (27, [(0, .ref 73), (1, .int x1), (2, .int x2), (3, .int x3), (4, .int x4)], [], h2)) (s2 := (17, [(0, .ref 73), (1, .int x1), (2, .int x2), (3, .int x3), (4, .int x4)], [], h2)) rfl).trans (z_ite ?_ ?_)
      · refine (z_X_steps (s' := (32, [(0, .ref 73), (1, .int x1), (2, .int x2), (3, .int x3), (4, .int x4)], [.int 1], h2)) 2 rfl).trans ?_
        exact z_X_ret rfl
      · refine (z_X_steps (s' := (21, [(0, .ref 73), (1, .int x1), (2, .int x2), (3, .int x3), (4, .int x4)], [.int x4, .int x1, .ref 73], h2)) 3 rfl).trans ?_
        refine (z_X_call (id := 71) (a := [.ref 73, .int x1, .int x4]) (c := 1) (s' := (24, [(0, .ref 73), (1, .int x1), (2, .int x2), (3, .int x3), (4, .int x4)], [], h2)) rfl ⟨Nat.le_of_ble_eq_true rfl, Nat.le_of_ble_eq_true rfl⟩).trans ?_
        refine z_bdc fun r3 h4 => ?_
        refine (z_X_br (c := r3 = 0) (s1 := (31, [(0, .ref 73), (1, .int x1), (2, .int x2), (3, .int x3), (4, .int x4)], [], h4)) (s2 := (27, [(0, .ref 73), (1, .int x1), (2, .int x2), (3, .int x3), (4, .int x4)], [], h4)) rfl).trans (z_ite ?_ ?_)
        · refine (z_X_steps (s' := (32, [(0, .ref 73), (1, .int x1), (2, .int x2), (3, .int x3), (4, .int x4)], [.int 0], h4)) 1 rfl).trans ?_
          exact z_X_ret rfl
        · refine (z_X_steps (s' := (32, [(0, .ref 73), (1, .int x1), (2, .int x2), (3, .int x3), (4, .int x4)], [.int 1], h4)) 2 rfl).trans ?_
          exact z_X_ret rfl
  · show z_X zc_P_mayTurn 4 (0, [(0, .ref 81), (1, .int x1), (2, .int x2), (3, .int x3), (4, .int x4)], [], h) = _
    refine (z_X_steps (s' := (4, [(0, .ref 81), (1, .int x1), (2, .int x2), (3, .int x3), (4, .int x4)], [.int x3, .int x2, .int x1, .ref 81], h)) 4 rfl).trans ?_
    refine (z_X_call (id := 72) (a := [.ref 81, .int x1, .int x2, .int x3]) (c := 1) (s' := (7, [(0, .ref 81), (1, .int x1), (2, .int x2), (3, .int x3), (4, .int x4)], [], h)) rfl ⟨Nat.le_of_ble_eq_true rfl, Nat.le_of_ble_eq_true rfl⟩).trans ?_
    refine z_bdc fun r1 h2 => ?_
    refine (z_X_br (c := r1 = 0) (s1 := (31, [(0, .ref 81), (1, .int x1), (2, .int x2), (3, .int x3), (4, .int x4)], [], h2)) (s2 := (10, [(0, .ref 81), (1, .int x1), (2, .int x2), (3, .int x3), (4, .int x4)], [], h2)) rfl).trans (z_ite ?_ ?_)
    · refine (z_X_steps (s' := (32, [(0, .ref 81), (1, .int x1), (2, .int x2), (3, .int x3), (4, .int x4)], [.int 0], h2)) 1 rfl).trans ?_
      exact z_X_ret rfl
    · refine (z_X_steps (s' := (14, [(0, .ref 81), (1, .int x1), (2, .int x2), (3, .int x3), (4, .int x4)], [.int 9, .int x4], h2)) 2 rfl).trans ?_
      refine (z_X_br (c := x4 = 9) (s1 := (27, [(0, .ref 81), (1, .int x1), (2, .int x2), (3, .int x3), (4, .int x4)], [], h2)) (s2 := (17, [(0, .ref 81), (1, .int x1), (2, .int x2), (3, .int x3), (4, .int x4)], [], h2)) rfl).trans (z_ite ?_ ?_)
      · refine (z_X_steps (s' := (32, [(0, .ref 81), (1, .int x1), (2, .int x2), (3, .int x3), (4, .int x4)], [.int 1], h2)) 2 rfl).trans ?_
        exact z_X_ret rfl
      · refine (z_X_steps (s' := (21, [(0, .ref 81), (1, .int x1), (2, .int x2), (3, .int x3), (4, .int x4)], [.int x4, .int x1, .ref 81], h2)) 3 rfl).trans ?_
        refine (z_X_call (id := 71) (a := [.ref 81, .int x1, .int x4]) (c := 1) (s' := (24, [(0, .ref 81), (1, .int x1), (2, .int x2), (3, .int x3), (4, .int x4)], [], h2)) rfl ⟨Nat.le_of_ble_eq_true rfl, Nat.le_of_ble_eq_true rfl⟩).trans ?_
        refine z_bdc fun r3 h4 => ?_
        refine (z_X_br (c := r3 = 0) (s1 := (31, [(0, .ref 81), (1, .int x1), (2, .int x2), (3, .int x3), (4, .int x4)], [], h4)) (s2 := (27, [(0, .ref 81), (1, .int x1), (2, .int x2), (3, .int x3), (4, .int x4)], [], h4)) rfl).trans (z_ite ?_ ?_)
        · refine (z_X_steps (s' := (32, [(0, .ref 81), (1, .int x1), (2, .int x2), (3, .int x3), (4, .int x4)], [.int 0], h4)) 1 rfl).trans ?_
          exact z_X_ret rfl
        · refine (z_X_steps (s' := (32, [(0, .ref 81), (1, .int x1), (2, .int x2), (3, .int x3), (4, .int x4)], [.int 1], h4)) 2 rfl).trans ?_
          exact z_X_ret rfl
  · show z_X zc_P_mayTurn 4 (0, [(0, .ref 94), (1, .int x1), (2, .int x2), (3, .int x3), (4, .int x4)], [], h) = _
    refine (z_X_steps (s' := (4, [(0, .ref 94), (1, .int x1), (2, .int x2), (3, .int x3), (4, .int x4)], [.int x3, .int x2, .int x1, .ref 94], h)) 4 rfl).trans ?_
    refine (z_X_call (id := 72) (a := [.ref 94, .int x1, .int x2, .int x3]) (c := 1) (s' := (7, [(0, .ref 94), (1, .int x1), (2, .int x2), (3, .int x3), (4, .int x4)], [], h)) rfl ⟨Nat.le_of_ble_eq_true rfl, Nat.le_of_ble_eq_true rfl⟩).trans ?_
    refine z_bdc fun r1 h2 => ?_
    refine (z_X_br (c := r1 = 0) (s1 := (31, [(0, .ref 94), (1, .int x1), (2, .int x2), (3, .int x3), (4, .int x4)], [], h2)) (s2 := (10, [(0, .ref 94), (1, .int x1), (2, .int x2), (3, .int x3), (4, .int x4)], [], h2)) rfl).trans (z_ite ?_ ?_)
    · refine (z_X_steps (s' := (32, [(0, .ref 94), (1, .int x1), (2, .int x2), (3, .int x3), (4, .int x4)], [.int 0], h2)) 1 rfl).trans ?_
      exact z_X_ret rfl
    · refine (z_X_steps (s' := (14, [(0, .ref 94), (1, .int x1), (2, .int x2), (3, .int x3), (4, .int x4)], [.int 9, .int x4], h2)) 2 rfl).trans ?_
      refine (z_X_br (c := x4 = 9) (s1 := (27, [(0, .ref 94), (1, .int x1), (2, .int x2), (3, .int x3), (4, .int x4)], [], h2)) (s2 := (17, [(0, .ref 94), (1, .int x1), (2, .int x2), (3, .int x3), (4, .int x4)], [], h2)) rfl).trans (z_ite ?_ ?_)
      · refine (z_X_steps (s' := (32, [(0, .ref 94), (1, .int x1), (2, .int x2), (3, .int x3), (4, .int x4)], [.int 1], h2)) 2 rfl).trans ?_
        exact z_X_ret rfl
      · refine (z_X_steps (s' := (21, [(0, .ref 94), (1, .int x1), (2, .int x2), (3, .int x3), (4, .int x4)], [.int x4, .int x1, .ref 94], h2)) 3 rfl).trans ?_
        refine (z_X_call (id := 71) (a := [.ref 94, .int x1, .int x4]) (c := 1) (s' := (24, [(0, .ref 94), (1, .int x1), (2, .int x2), (3, .int x3), (4, .int x4)], [], h2)) rfl ⟨Nat.le_of_ble_eq_true rfl, Nat.le_of_ble_eq_true rfl⟩).trans ?_
        refine z_bdc fun r3 h4 => ?_
        refine (z_X_br (c := r3 = 0) (s1 := (31, [(0, .ref 94), (1, .int x1), (2, .int x2), (3, .int x3), (4, .int x4)], [], h4)) (s2 := (27, [(0, .ref 94), (1, .int x1), (2, .int x2), (3, .int x3), (4, .int x4)], [], h4)) rfl).trans (z_ite ?_ ?_)
        · refine (z_X_steps (s' := (32, [(0, .ref 94), (1, .int x1), (2, .int x2), (3, .int x3), (4, .int x4)], [.int 0], h4)) 1 rfl).trans ?_
          exact z_X_ret rfl
        · refine (z_X_steps (s' := (32, [(0, .ref 94), (1, .int x1), (2, .int x2), (3, .int x3), (4, .int x4)], [.int 1], h4)) 2 rfl).trans ?_
          exact z_X_ret rfl
  · show z_X zc_P_mayTurn 4 (0, [(0, .ref 102), (1, .int x1), (2, .int x2), (3, .int x3), (4, .int x4)], [], h) = _
    refine (z_X_steps (s' := (4, [(0, .ref 102), (1, .int x1), (2, .int x2), (3, .int x3), (4, .int x4)], [.int x3, .int x2, .int x1, .ref 102], h)) 4 rfl).trans ?_
    refine (z_X_call (id := 72) (a := [.ref 102, .int x1, .int x2, .int x3]) (c := 1) (s' := (7, [(0, .ref 102), (1, .int x1), (2, .int x2), (3, .int x3), (4, .int x4)], [], h)) rfl ⟨Nat.le_of_ble_eq_true rfl, Nat.le_of_ble_eq_true rfl⟩).trans ?_
    refine z_bdc fun r1 h2 => ?_
    refine (z_X_br (c := r1 = 0) (s1 := (31, [(0, .ref 102), (1, .int x1), (2, .int x2), (3, .int x3), (4, .int x4)], [], h2)) (s2 := (10, [(0, .ref 102), (1, .int x1), (2, .int x2), (3, .int x3), (4, .int x4)], [], h2)) rfl).trans (z_ite ?_ ?_)
    · refine (z_X_steps (s' := (32, [(0, .ref 102), (1, .int x1), (2, .int x2), (3, .int x3), (4, .int x4)], [.int 0], h2)) 1 rfl).trans ?_
      exact z_X_ret rfl
    · refine (z_X_steps (s' := (14, [(0, .ref 102), (1, .int x1), (2, .int x2), (3, .int x3), (4, .int x4)], [.int 9, .int x4], h2)) 2 rfl).trans ?_
      refine (z_X_br (c := x4 = 9) (s1 := (27, [(0, .ref 102), (1, .int x1), (2, .int x2), (3, .int x3), (4, .int x4)], [], h2)) (s2 := (17, [(0, .ref 102), (1, .int x1), (2, .int x2), (3, .int x3), (4, .int x4)], [], h2)) rfl).trans (z_ite ?_ ?_)
      · refine (z_X_steps (s' := (32, [(0, .ref 102), (1, .int x1), (2, .int x2), (3, .int x3), (4, .int x4)], [.int 1], h2)) 2 rfl).trans ?_
        exact z_X_ret rfl
      · refine (z_X_steps (s' := (21, [(0, .ref 102), (1, .int x1), (2, .int x2), (3, .int x3), (4, .int x4)], [.int x4, .int x1, .ref 102], h2)) 3 rfl).trans ?_
        refine (z_X_call (id := 71) (a := [.ref 102, .int x1, .int x4]) (c := 1) (s' := (24, [(0, .ref 102), (1, .int x1), (2, .int x2), (3, .int x3), (4, .int x4)], [], h2)) rfl ⟨Nat.le_of_ble_eq_true rfl, Nat.le_of_ble_eq_true rfl⟩).trans ?_
        refine z_bdc fun r3 h4 => ?_
        refine (z_X_br (c := r3 = 0) (s1 := (31, [(0, .ref 102), (1, .int x1), (2, .int x2), (3, .int x3), (4, .int x4)], [], h4)) (s2 := (27, [(0, .ref 102), (1, .int x1), (2, .int x2), (3, .int x3), (4, .int x4)], [], h4)) rfl).trans (z_ite ?_ ?_)
        · refine (z_X_steps (s' := (32, [(0, .ref 102), (1, .int x1), (2, .int x2), (3, .int x3), (4, .int x4)], [.int 0], h4)) 1 rfl).trans ?_
          exact z_X_ret rfl
        · refine (z_X_steps (s' := (32, [(0, .ref 102), (1, .int x1), (2, .int x2), (3, .int x3), (4, .int x4)], [.int 1], h4)) 2 rfl).trans ?_
          exact z_X_ret rfl
set_option maxRecDepth 8000 in
set_option maxHeartbeats 2000000 in
theorem e_P_turn {o : Nat} (hi : o ∈ [4, 17, 25, 73, 81, 94, 102]) (x1 : Int32) (x2 : Int32) (x3 : Int32) (x4 : Int32) (h : z_H) : z_M 77 [.ref o, .int x1, .int x2, .int x3, .int x4] h = z_bd (z_M 72 [.ref o, .int x1, .int x2, .int x3] h) (fun r1 h2 => (if r1 = 0 then some (0, h2) else z_bd (z_M 43 [.int x1, .int x2, .int x3] h2) (fun r3 h4 => (bif z_in r3 96 then some (0, (z_wI h4 (o + 5) (r3.toNatClampNeg) x4)) else none)))) := by
  refine (z_M_eq (by decide)).trans ?_
  simp only [List.mem_cons, List.not_mem_nil, or_false, Prod.mk.injEq] at hi
  rcases hi with rfl | rfl | rfl | rfl | rfl | rfl | rfl
  · show z_X zc_P_turn 4 (0, [(0, .ref 4), (1, .int x1), (2, .int x2), (3, .int x3), (4, .int x4)], [], h) = _
    refine (z_X_steps (s' := (4, [(0, .ref 4), (1, .int x1), (2, .int x2), (3, .int x3), (4, .int x4)], [.int x3, .int x2, .int x1, .ref 4], h)) 4 rfl).trans ?_
    refine (z_X_call (id := 72) (a := [.ref 4, .int x1, .int x2, .int x3]) (c := 1) (s' := (7, [(0, .ref 4), (1, .int x1), (2, .int x2), (3, .int x3), (4, .int x4)], [], h)) rfl ⟨Nat.le_of_ble_eq_true rfl, Nat.le_of_ble_eq_true rfl⟩).trans ?_
    refine z_bdc fun r1 h2 => ?_
    refine (z_X_br (c := r1 = 0) (s1 := (23, [(0, .ref 4), (1, .int x1), (2, .int x2), (3, .int x3), (4, .int x4)], [], h2)) (s2 := (10, [(0, .ref 4), (1, .int x1), (2, .int x2), (3, .int x3), (4, .int x4)], [], h2)) rfl).trans (z_ite ?_ ?_)
    · exact z_X_ret rfl
    · refine (z_X_steps (s' := (17, [(0, .ref 4), (1, .int x1), (2, .int x2), (3, .int x3), (4, .int x4)], [.int x3, .int x2, .int x1, .ref (4 + 5)], h2)) 5 rfl).trans ?_
      refine (z_X_call (id := 43) (a := [.int x1, .int x2, .int x3]) (c := 1) (s' := (20, [(0, .ref 4), (1, .int x1), (2, .int x2), (3, .int x3), (4, .int x4)], [.ref (4 + 5)], h2)) rfl ⟨Nat.le_of_ble_eq_true rfl, Nat.le_of_ble_eq_true rfl⟩).trans ?_
      refine z_bdc fun r3 h4 => ?_
      refine (z_X_steps (s' := (22, [(0, .ref 4), (1, .int x1), (2, .int x2), (3, .int x3), (4, .int x4)], [.int x4, .int r3, .ref (4 + 5)], h4)) 1 rfl).trans ?_
      refine (z_X_if (g := z_in r3 96) (s' := (23, [(0, .ref 4), (1, .int x1), (2, .int x2), (3, .int x3), (4, .int x4)], [], (z_wI h4 (4 + 5) (r3.toNatClampNeg) x4))) rfl).trans (z_bifA ?_)
      exact z_X_ret rfl
  · show z_X zc_P_turn 4 (0, [(0, .ref 17), (1, .int x1), (2, .int x2), (3, .int x3), (4, .int x4)], [], h) = _
    refine (z_X_steps (s' := (4, [(0, .ref 17), (1, .int x1), (2, .int x2), (3, .int x3), (4, .int x4)], [.int x3, .int x2, .int x1, .ref 17], h)) 4 rfl).trans ?_
    refine (z_X_call (id := 72) (a := [.ref 17, .int x1, .int x2, .int x3]) (c := 1) (s' := (7, [(0, .ref 17), (1, .int x1), (2, .int x2), (3, .int x3), (4, .int x4)], [], h)) rfl ⟨Nat.le_of_ble_eq_true rfl, Nat.le_of_ble_eq_true rfl⟩).trans ?_
    refine z_bdc fun r1 h2 => ?_
    refine (z_X_br (c := r1 = 0) (s1 := (23, [(0, .ref 17), (1, .int x1), (2, .int x2), (3, .int x3), (4, .int x4)], [], h2)) (s2 := (10, [(0, .ref 17), (1, .int x1), (2, .int x2), (3, .int x3), (4, .int x4)], [], h2)) rfl).trans (z_ite ?_ ?_)
    · exact z_X_ret rfl
    · refine (z_X_steps (s' := (17, [(0, .ref 17), (1, .int x1), (2, .int x2), (3, .int x3), (4, .int x4)], [.int x3, .int x2, .int x1, .ref (17 + 5)], h2)) 5 rfl).trans ?_
      refine (z_X_call (id := 43) (a := [.int x1, .int x2, .int x3]) (c := 1) (s' := (20, [(0, .ref 17), (1, .int x1), (2, .int x2), (3, .int x3), (4, .int x4)], [.ref (17 + 5)], h2)) rfl ⟨Nat.le_of_ble_eq_true rfl, Nat.le_of_ble_eq_true rfl⟩).trans ?_
      refine z_bdc fun r3 h4 => ?_
      refine (z_X_steps (s' := (22, [(0, .ref 17), (1, .int x1), (2, .int x2), (3, .int x3), (4, .int x4)], [.int x4, .int r3, .ref (17 + 5)], h4)) 1 rfl).trans ?_
      refine (z_X_if (g := z_in r3 96) (s' := (23, [(0, .ref 17), (1, .int x1), (2, .int x2), (3, .int x3), (4, .int x4)], [], (z_wI h4 (17 + 5) (r3.toNatClampNeg) x4))) rfl).trans (z_bifA ?_)
      exact z_X_ret rfl
  · show z_X zc_P_turn 4 (0, [(0, .ref 25), (1, .int x1), (2, .int x2), (3, .int x3), (4, .int x4)], [], h) = _
    refine (z_X_steps (s' := (4, [(0, .ref 25), (1, .int x1), (2, .int x2), (3, .int x3), (4, .int x4)], [.int x3, .int x2, .int x1, .ref 25], h)) 4 rfl).trans ?_
    refine (z_X_call (id := 72) (a := [.ref 25, .int x1, .int x2, .int x3]) (c := 1) (s' := (7, [(0, .ref 25), (1, .int x1), (2, .int x2), (3, .int x3), (4, .int x4)], [], h)) rfl ⟨Nat.le_of_ble_eq_true rfl, Nat.le_of_ble_eq_true rfl⟩).trans ?_
    refine z_bdc fun r1 h2 => ?_
    refine (z_X_br (c := r1 = 0) (s1 := (23, [(0, .ref 25), (1, .int x1), (2, .int x2), (3, .int x3), (4, .int x4)], [], h2)) (s2 := (10, [(0, .ref 25), (1, .int x1), (2, .int x2), (3, .int x3), (4, .int x4)], [], h2)) rfl).trans (z_ite ?_ ?_)
    · exact z_X_ret rfl
    · refine (z_X_steps (s' := (17, [(0, .ref 25), (1, .int x1), (2, .int x2), (3, .int x3), (4, .int x4)], [.int x3, .int x2, .int x1, .ref (25 + 5)], h2)) 5 rfl).trans ?_
      refine (z_X_call (id := 43) (a := [.int x1, .int x2, .int x3]) (c := 1) (s' := (20, [(0, .ref 25), (1, .int x1), (2, .int x2), (3, .int x3), (4, .int x4)], [.ref (25 + 5)], h2)) rfl ⟨Nat.le_of_ble_eq_true rfl, Nat.le_of_ble_eq_true rfl⟩).trans ?_
      refine z_bdc fun r3 h4 => ?_
      refine (z_X_steps (s' := (22, [(0, .ref 25), (1, .int x1), (2, .int x2), (3, .int x3), (4, .int x4)], [.int x4, .int r3, .ref (25 + 5)], h4)) 1 rfl).trans ?_
      refine (z_X_if (g := z_in r3 96) (s' := (23, [(0, .ref 25), (1, .int x1), (2, .int x2), (3, .int x3), (4, .int x4)], [], (z_wI h4 (25 + 5) (r3.toNatClampNeg) x4))) rfl).trans (z_bifA ?_)
      exact z_X_ret rfl
  · show z_X zc_P_turn 4 (0, [(0, .ref 73), (1, .int x1), (2, .int x2), (3, .int x3), (4, .int x4)], [], h) = _
    refine (z_X_steps (s' := (4, [(0, .ref 73), (1, .int x1), (2, .int x2), (3, .int x3), (4, .int x4)], [.int x3, .int x2, .int x1, .ref 73], h)) 4 rfl).trans ?_
    refine (z_X_call (id := 72) (a := [.ref 73, .int x1, .int x2, .int x3]) (c := 1) (s' := (7, [(0, .ref 73), (1, .int x1), (2, .int x2), (3, .int x3), (4, .int x4)], [], h)) rfl ⟨Nat.le_of_ble_eq_true rfl, Nat.le_of_ble_eq_true rfl⟩).trans ?_
    refine z_bdc fun r1 h2 => ?_
    refine (z_X_br (c := r1 = 0) (s1 := (23, [(0, .ref 73), (1, .int x1), (2, .int x2), (3, .int x3), (4, .int x4)], [], h2)) (s2 := (10, [(0, .ref 73), (1, .int x1), (2, .int x2), (3, .int x3), (4, .int x4)], [], h2)) rfl).trans (z_ite ?_ ?_)
    · exact z_X_ret rfl
    · refine (z_X_steps (s' := (17, [(0, .ref 73), (1, .int x1), (2, .int x2), (3, .int x3), (4, .int x4)], [.int x3, .int x2, .int x1, .ref (73 + 5)], h2)) 5 rfl).trans ?_
      refine (z_X_call (id := 43) (a := [.int x1, .int x2, .int x3]) (c := 1) (s' := (20, [(0, .ref 73), (1, .int x1), (2, .int x2), (3, .int x3), (4, .int x4)], [.ref (73 + 5)], h2)) rfl ⟨Nat.le_of_ble_eq_true rfl, Nat.le_of_ble_eq_true rfl⟩).trans ?_
      refine z_bdc fun r3 h4 => ?_
      refine (z_X_steps (s' := (22, [(0, .ref 73), (1, .int x1), (2, .int x2), (3, .int x3), (4, .int x4)], [.int x4, .int r3, .ref (73 + 5)], h4)) 1 rfl).trans ?_
      refine (z_X_if (g := z_in r3 96) (s' := (23, [(0, .ref 73), (1, .int x1), (2, .int x2), (3, .int x3), (4, .int x4)], [], (z_wI h4 (73 + 5) (r3.toNatClampNeg) x4))) rfl).trans (z_bifA ?_)
      exact z_X_ret rfl
  · show z_X zc_P_turn 4 (0, [(0, .ref 81), (1, .int x1), (2, .int x2), (3, .int x3), (4, .int x4)], [], h) = _
    refine (z_X_steps (s' := (4, [(0, .ref 81), (1, .int x1), (2, .int x2), (3, .int x3), (4, .int x4)], [.int x3, .int x2, .int x1, .ref 81], h)) 4 rfl).trans ?_
    refine (z_X_call (id := 72) (a := [.ref 81, .int x1, .int x2, .int x3]) (c := 1) (s' := (7, [(0, .ref 81), (1, .int x1), (2, .int x2), (3, .int x3), (4, .int x4)], [], h)) rfl ⟨Nat.le_of_ble_eq_true rfl, Nat.le_of_ble_eq_true rfl⟩).trans ?_
    refine z_bdc fun r1 h2 => ?_
    refine (z_X_br (c := r1 = 0) (s1 := (23, [(0, .ref 81), (1, .int x1), (2, .int x2), (3, .int x3), (4, .int x4)], [], h2)) (s2 := (10, [(0, .ref 81), (1, .int x1), (2, .int x2), (3, .int x3), (4, .int x4)], [], h2)) rfl).trans (z_ite ?_ ?_)
    · exact z_X_ret rfl
    · refine (z_X_steps (s' := (17, [(0, .ref 81), (1, .int x1), (2, .int x2), (3, .int x3), (4, .int x4)], [.int x3, .int x2, .int x1, .ref (81 + 5)], h2)) 5 rfl).trans ?_
      refine (z_X_call (id := 43) (a := [.int x1, .int x2, .int x3]) (c := 1) (s' := (20, [(0, .ref 81), (1, .int x1), (2, .int x2), (3, .int x3), (4, .int x4)], [.ref (81 + 5)], h2)) rfl ⟨Nat.le_of_ble_eq_true rfl, Nat.le_of_ble_eq_true rfl⟩).trans ?_
      refine z_bdc fun r3 h4 => ?_
      refine (z_X_steps (s' := (22, [(0, .ref 81), (1, .int x1), (2, .int x2), (3, .int x3), (4, .int x4)], [.int x4, .int r3, .ref (81 + 5)], h4)) 1 rfl).trans ?_
      refine (z_X_if (g := z_in r3 96) (s' := (23, [(0, .ref 81), (1, .int x1), (2, .int x2), (3, .int x3), (4, .int x4)], [], (z_wI h4 (81 + 5) (r3.toNatClampNeg) x4))) rfl).trans (z_bifA ?_)
      exact z_X_ret rfl
  · show z_X zc_P_turn 4 (0, [(0, .ref 94), (1, .int x1), (2, .int x2), (3, .int x3), (4, .int x4)], [], h) = _
    refine (z_X_steps (s' := (4, [(0, .ref 94), (1, .int x1), (2, .int x2), (3, .int x3), (4, .int x4)], [.int x3, .int x2, .int x1, .ref 94], h)) 4 rfl).trans ?_
    refine (z_X_call (id := 72) (a := [.ref 94, .int x1, .int x2, .int x3]) (c := 1) (s' := (7, [(0, .ref 94), (1, .int x1), (2, .int x2), (3, .int x3), (4, .int x4)], [], h)) rfl ⟨Nat.le_of_ble_eq_true rfl, Nat.le_of_ble_eq_true rfl⟩).trans ?_
    refine z_bdc fun r1 h2 => ?_
    refine (z_X_br (c := r1 = 0) (s1 := (23, [(0, .ref 94), (1, .int x1), (2, .int x2), (3, .int x3), (4, .int x4)], [], h2)) (s2 := (10, [(0, .ref 94), (1, .int x1), (2, .int x2), (3, .int x3), (4, .int x4)], [], h2)) rfl).trans (z_ite ?_ ?_)
    · exact z_X_ret rfl
    · refine (z_X_steps (s' := (17, [(0, .ref 94), (1, .int x1), (2, .int x2), (3, .int x3), (4, .int x4)], [.int x3, .int x2, .int x1, .ref (94 + 5)], h2)) 5 rfl).trans ?_
      refine (z_X_call (id := 43) (a := [.int x1, .int x2, .int x3]) (c := 1) (s' := (20, [(0, .ref 94), (1, .int x1), (2, .int x2), (3, .int x3), (4, .int x4)], [.ref (94 + 5)], h2)) rfl ⟨Nat.le_of_ble_eq_true rfl, Nat.le_of_ble_eq_true rfl⟩).trans ?_
      refine z_bdc fun r3 h4 => ?_
      refine (z_X_steps (s' := (22, [(0, .ref 94), (1, .int x1), (2, .int x2), (3, .int x3), (4, .int x4)], [.int x4, .int r3, .ref (94 + 5)], h4)) 1 rfl).trans ?_
      refine (z_X_if (g := z_in r3 96) (s' := (23, [(0, .ref 94), (1, .int x1), (2, .int x2), (3, .int x3), (4, .int x4)], [], (z_wI h4 (94 + 5) (r3.toNatClampNeg) x4))) rfl).trans (z_bifA ?_)
      exact z_X_ret rfl
  · show z_X zc_P_turn 4 (0, [(0, .ref 102), (1, .int x1), (2, .int x2), (3, .int x3), (4, .int x4)], [], h) = _
    refine (z_X_steps (s' := (4, [(0, .ref 102), (1, .int x1), (2, .int x2), (3, .int x3), (4, .int x4)], [.int x3, .int x2, .int x1, .ref 102], h)) 4 rfl).trans ?_
    refine (z_X_call (id := 72) (a := [.ref 102, .int x1, .int x2, .int x3]) (c := 1) (s' := (7, [(0, .ref 102), (1, .int x1), (2, .int x2), (3, .int x3), (4, .int x4)], [], h)) rfl ⟨Nat.le_of_ble_eq_true rfl, Nat.le_of_ble_eq_true rfl⟩).trans ?_
    refine z_bdc fun r1 h2 => ?_
    refine (z_X_br (c := r1 = 0) (s1 := (23, [(0, .ref 102), (1, .int x1), (2, .int x2), (3, .int x3), (4, .int x4)], [], h2)) (s2 := (10, [(0, .ref 102), (1, .int x1), (2, .int x2), (3, .int x3), (4, .int x4)], [], h2)) rfl).trans (z_ite ?_ ?_)
    · exact z_X_ret rfl
    · refine (z_X_steps (s' := (17, [(0, .ref 102), (1, .int x1), (2, .int x2), (3, .int x3), (4, .int x4)], [.int x3, .int x2, .int x1, .ref (102 + 5)], h2)) 5 rfl).trans ?_
      refine (z_X_call (id := 43) (a := [.int x1, .int x2, .int x3]) (c := 1) (s' := (20, [(0, .ref 102), (1, .int x1), (2, .int x2), (3, .int x3), (4, .int x4)], [.ref (102 + 5)], h2)) rfl ⟨Nat.le_of_ble_eq_true rfl, Nat.le_of_ble_eq_true rfl⟩).trans ?_
      refine z_bdc fun r3 h4 => ?_
      refine (z_X_steps (s' := (22, [(0, .ref 102), (1, .int x1), (2, .int x2), (3, .int x3), (4, .int x4)], [.int x4, .int r3, .ref (102 + 5)], h4)) 1 rfl).trans ?_
      refine (z_X_if (g := z_in r3 96) (s' := (23, [(0, .ref 102), (1, .int x1), (2, .int x2), (3, .int x3), (4, .int x4)], [], (z_wI h4 (102 + 5) (r3.toNatClampNeg) x4))) rfl).trans (z_bifA ?_)
      exact z_X_ret rfl
noncomputable def zl_P_widen_10 (o : Nat) (x1 : Int32) (x2 : Int32) (x3 : Int32) (x4 : Int32) (x5 : Int32) (h : z_H) : Option z_A := z_X zc_P_widen 2 (10, [(0, .ref o), (1, .int x1), (2, .int x2), (3, .int x3), (4, .int x4), (5, .int x5)], [], h)
set_option maxRecDepth 8000 in
set_option maxHeartbeats 2000000 in
theorem e_P_widen {o : Nat} (hi : o ∈ [4, 17, 25, 73, 81, 94, 102]) (x1 : Int32) (x2 : Int32) (x3 : Int32) (h : z_H) : z_M 78 [.ref o, .int x1, .int x2, .int x3] h = z_bd (z_M 42 [.int x1, .int x2] h) (fun r1 h2 => zl_P_widen_10 o x1 x2 x3 r1 0 h2) := by
  refine (z_M_eq (by decide)).trans ?_
  simp only [List.mem_cons, List.not_mem_nil, or_false, Prod.mk.injEq] at hi
  rcases hi with rfl | rfl | rfl | rfl | rfl | rfl | rfl
  · show z_X zc_P_widen 2 (0, [(0, .ref 4), (1, .int x1), (2, .int x2), (3, .int x3)], [], h) = _
    refine (z_X_steps (s' := (2, [(0, .ref 4), (1, .int x1), (2, .int x2), (3, .int x3)], [.int x2, .int x1], h)) 2 rfl).trans ?_
    refine (z_X_call (id := 42) (a := [.int x1, .int x2]) (c := 1) (s' := (5, [(0, .ref 4), (1, .int x1), (2, .int x2), (3, .int x3)], [], h)) rfl ⟨Nat.le_of_ble_eq_true rfl, Nat.le_of_ble_eq_true rfl⟩).trans ?_
    refine z_bdc fun r1 h2 => ?_
    refine (z_X_steps (s' := (10, [(5, .int 0), (4, .int r1), (0, .ref 4), (1, .int x1), (2, .int x2), (3, .int x3)], [], h2)) 3 rfl).trans ?_
    exact z_X_lab rfl
  · show z_X zc_P_widen 2 (0, [(0, .ref 17), (1, .int x1), (2, .int x2), (3, .int x3)], [], h) = _
    refine (z_X_steps (s' := (2, [(0, .ref 17), (1, .int x1), (2, .int x2), (3, .int x3)], [.int x2, .int x1], h)) 2 rfl).trans ?_
    refine (z_X_call (id := 42) (a := [.int x1, .int x2]) (c := 1) (s' := (5, [(0, .ref 17), (1, .int x1), (2, .int x2), (3, .int x3)], [], h)) rfl ⟨Nat.le_of_ble_eq_true rfl, Nat.le_of_ble_eq_true rfl⟩).trans ?_
    refine z_bdc fun r1 h2 => ?_
    refine (z_X_steps (s' := (10, [(5, .int 0), (4, .int r1), (0, .ref 17), (1, .int x1), (2, .int x2), (3, .int x3)], [], h2)) 3 rfl).trans ?_
    exact z_X_lab rfl
  · show z_X zc_P_widen 2 (0, [(0, .ref 25), (1, .int x1), (2, .int x2), (3, .int x3)], [], h) = _
    refine (z_X_steps (s' := (2, [(0, .ref 25), (1, .int x1), (2, .int x2), (3, .int x3)], [.int x2, .int x1], h)) 2 rfl).trans ?_
    refine (z_X_call (id := 42) (a := [.int x1, .int x2]) (c := 1) (s' := (5, [(0, .ref 25), (1, .int x1), (2, .int x2), (3, .int x3)], [], h)) rfl ⟨Nat.le_of_ble_eq_true rfl, Nat.le_of_ble_eq_true rfl⟩).trans ?_
    refine z_bdc fun r1 h2 => ?_
    refine (z_X_steps (s' := (10, [(5, .int 0), (4, .int r1), (0, .ref 25), (1, .int x1), (2, .int x2), (3, .int x3)], [], h2)) 3 rfl).trans ?_
    exact z_X_lab rfl
  · show z_X zc_P_widen 2 (0, [(0, .ref 73), (1, .int x1), (2, .int x2), (3, .int x3)], [], h) = _
    refine (z_X_steps (s' := (2, [(0, .ref 73), (1, .int x1), (2, .int x2), (3, .int x3)], [.int x2, .int x1], h)) 2 rfl).trans ?_
    refine (z_X_call (id := 42) (a := [.int x1, .int x2]) (c := 1) (s' := (5, [(0, .ref 73), (1, .int x1), (2, .int x2), (3, .int x3)], [], h)) rfl ⟨Nat.le_of_ble_eq_true rfl, Nat.le_of_ble_eq_true rfl⟩).trans ?_
    refine z_bdc fun r1 h2 => ?_
    refine (z_X_steps (s' := (10, [(5, .int 0), (4, .int r1), (0, .ref 73), (1, .int x1), (2, .int x2), (3, .int x3)], [], h2)) 3 rfl).trans ?_
    exact z_X_lab rfl
  · show z_X zc_P_widen 2 (0, [(0, .ref 81), (1, .int x1), (2, .int x2), (3, .int x3)], [], h) = _
    refine (z_X_steps (s' := (2, [(0, .ref 81), (1, .int x1), (2, .int x2), (3, .int x3)], [.int x2, .int x1], h)) 2 rfl).trans ?_
    refine (z_X_call (id := 42) (a := [.int x1, .int x2]) (c := 1) (s' := (5, [(0, .ref 81), (1, .int x1), (2, .int x2), (3, .int x3)], [], h)) rfl ⟨Nat.le_of_ble_eq_true rfl, Nat.le_of_ble_eq_true rfl⟩).trans ?_
    refine z_bdc fun r1 h2 => ?_
    refine (z_X_steps (s' := (10, [(5, .int 0), (4, .int r1), (0, .ref 81), (1, .int x1), (2, .int x2), (3, .int x3)], [], h2)) 3 rfl).trans ?_
    exact z_X_lab rfl
  · show z_X zc_P_widen 2 (0, [(0, .ref 94), (1, .int x1), (2, .int x2), (3, .int x3)], [], h) = _
    refine (z_X_steps (s' := (2, [(0, .ref 94), (1, .int x1), (2, .int x2), (3, .int x3)], [.int x2, .int x1], h)) 2 rfl).trans ?_
    refine (z_X_call (id := 42) (a := [.int x1, .int x2]) (c := 1) (s' := (5, [(0, .ref 94), (1, .int x1), (2, .int x2), (3, .int x3)], [], h)) rfl ⟨Nat.le_of_ble_eq_true rfl, Nat.le_of_ble_eq_true rfl⟩).trans ?_
    refine z_bdc fun r1 h2 => ?_
    refine (z_X_steps (s' := (10, [(5, .int 0), (4, .int r1), (0, .ref 94), (1, .int x1), (2, .int x2), (3, .int x3)], [], h2)) 3 rfl).trans ?_
    exact z_X_lab rfl
  · show z_X zc_P_widen 2 (0, [(0, .ref 102), (1, .int x1), (2, .int x2), (3, .int x3)], [], h) = _
    refine (z_X_steps (s' := (2, [(0, .ref 102), (1, .int x1), (2, .int x2), (3, .int x3)], [.int x2, .int x1], h)) 2 rfl).trans ?_
    refine (z_X_call (id := 42) (a := [.int x1, .int x2]) (c := 1) (s' := (5, [(0, .ref 102), (1, .int x1), (2, .int x2), (3, .int x3)], [], h)) rfl ⟨Nat.le_of_ble_eq_true rfl, Nat.le_of_ble_eq_true rfl⟩).trans ?_
    refine z_bdc fun r1 h2 => ?_
    refine (z_X_steps (s' := (10, [(5, .int 0), (4, .int r1), (0, .ref 102), (1, .int x1), (2, .int x2), (3, .int x3)], [], h2)) 3 rfl).trans ?_
    exact z_X_lab rfl
set_option maxRecDepth 8000 in
set_option maxHeartbeats 2000000 in
theorem e_P_widen_10 {o : Nat} (hi : o ∈ [4, 17, 25, 73, 81, 94, 102]) (x1 : Int32) (x2 : Int32) (x3 : Int32) (x4 : Int32) (x5 : Int32) (h : z_H) : zl_P_widen_10 o x1 x2 x3 x4 x5 h = (if (2 : Int32) ≤ x5 then (bif z_in x4 48 then some (0, (z_wI h (o + 4) (x4.toNatClampNeg) x3)) else none) else (if x5 < x3 then (bif z_in x4 48 then (if x5 < h.1 (o + 4) (x4.toNatClampNeg) then zl_P_widen_10 o x1 x2 x3 x4 (x5 + 1) h else z_bd (z_M 43 [.int x1, .int x2, .int x5] h) (fun r1 h2 => (bif z_in r1 96 then zl_P_widen_10 o x1 x2 x3 x4 (x5 + 1) (z_wI h2 (o + 5) (r1.toNatClampNeg) 9) else none))) else none) else z_bd (z_M 43 [.int x1, .int x2, .int x5] h) (fun r3 h4 => (bif z_in r3 96 then zl_P_widen_10 o x1 x2 x3 x4 (x5 + 1) (z_wI h4 (o + 5) (r3.toNatClampNeg) (-4)) else none)))) := by
  simp only [List.mem_cons, List.not_mem_nil, or_false, Prod.mk.injEq] at hi
  rcases hi with rfl | rfl | rfl | rfl | rfl | rfl | rfl
  · show z_X zc_P_widen 2 (10, [(0, .ref 4), (1, .int x1), (2, .int x2), (3, .int x3), (4, .int x4), (5, .int x5)], [], h) = _
    refine (z_X_steps (s' := (13, [(0, .ref 4), (1, .int x1), (2, .int x2), (3, .int x3), (4, .int x4), (5, .int x5)], [.int 2, .int x5], h)) 2 rfl).trans ?_
    refine (z_X_br (c := (2 : Int32) ≤ x5) (s1 := (71, [(0, .ref 4), (1, .int x1), (2, .int x2), (3, .int x3), (4, .int x4), (5, .int x5)], [], h)) (s2 := (16, [(0, .ref 4), (1, .int x1), (2, .int x2), (3, .int x3), (4, .int x4), (5, .int x5)], [], h)) rfl).trans (z_ite ?_ ?_)
    · refine (z_X_steps (s' := (78, [(0, .ref 4), (1, .int x1), (2, .int x2), (3, .int x3), (4, .int x4), (5, .int x5)], [.int x3, .int x4, .ref (4 + 4)], h)) 4 rfl).trans ?_
      refine (z_X_if (g := z_in x4 48) (s' := (79, [(0, .ref 4), (1, .int x1), (2, .int x2), (3, .int x3), (4, .int x4), (5, .int x5)], [], (z_wI h (4 + 4) (x4.toNatClampNeg) x3))) rfl).trans (z_bifA ?_)
      exact z_X_ret rfl
    · refine (z_X_steps (s' := (19, [(0, .ref 4), (1, .int x1), (2, .int x2), (3, .int x3), (4, .int x4), (5, .int x5)], [.int x3, .int x5], h)) 2 rfl).trans ?_
      refine (z_X_br (c := x5 < x3) (s1 := (39, [(0, .ref 4), (1, .int x1), (2, .int x2), (3, .int x3), (4, .int x4), (5, .int x5)], [], h)) (s2 := (22, [(0, .ref 4), (1, .int x1), (2, .int x2), (3, .int x3), (4, .int x4), (5, .int x5)], [], h)) rfl).trans (z_ite ?_ ?_)
      · refine (z_X_steps (s' := (47, [(0, .ref 4), (1, .int x1), (2, .int x2), (3, .int x3), (4, .int x4), (5, .int x5)], [.int x4, .ref (4 + 4), .int x5], h)) 4 rfl).trans ?_
        refine (z_X_if (g := z_in x4 48) (s' := (48, [(0, .ref 4), (1, .int x1), (2, .int x2), (3, .int x3), (4, .int x4), (5, .int x5)], [.int (h.1 (4 + 4) (x4.toNatClampNeg)), .int x5], h)) rfl).trans (z_bifA ?_)
        refine (z_X_br (c := x5 < h.1 (4 + 4) (x4.toNatClampNeg)) (s1 := (65, [(0, .ref 4), (1, .int x1), (2, .int x2), (3, .int x3), (4, .int x4), (5, .int x5)], [], h)) (s2 := (51, [(0, .ref 4), (1, .int x1), (2, .int x2), (3, .int x3), (4, .int x4), (5, .int x5)], [], h)) rfl).trans (z_ite ?_ ?_)
        · refine (z_X_steps (s' := (10, [(5, .int (x5 + 1)), (0, .ref 4), (1, .int x1), (2, .int x2), (3, .int x3), (4, .int x4)], [], h)) 2 rfl).trans ?_
          exact z_X_lab rfl
        · refine (z_X_steps (s' := (59, [(0, .ref 4), (1, .int x1), (2, .int x2), (3, .int x3), (4, .int x4), (5, .int x5)], [.int x5, .int x2, .int x1, .ref (4 + 5)], h)) 5 rfl).trans ?_
          refine (z_X_call (id := 43) (a := [.int x1, .int x2, .int x5]) (c := 1) (s' := (62, [(0, .ref 4), (1, .int x1), (2, .int x2), (3, .int x3), (4, .int x4), (5, .int x5)], [.ref (4 + 5)], h)) rfl ⟨Nat.le_of_ble_eq_true rfl, Nat.le_of_ble_eq_true rfl⟩).trans ?_
          refine z_bdc fun r1 h2 => ?_
          refine (z_X_steps (s' := (64, [(0, .ref 4), (1, .int x1), (2, .int x2), (3, .int x3), (4, .int x4), (5, .int x5)], [.int 9, .int r1, .ref (4 + 5)], h2)) 1 rfl).trans ?_
          refine (z_X_if (g := z_in r1 96) (s' := (65, [(0, .ref 4), (1, .int x1), (2, .int x2), (3, .int x3), (4, .int x4), (5, .int x5)], [], (z_wI h2 (4 + 5) (r1.toNatClampNeg) 9))) rfl).trans (z_bifA ?_)
          refine (z_X_steps (s' := (10, [(5, .int (x5 + 1)), (0, .ref 4), (1, .int x1), (2, .int x2), (3, .int x3), (4, .int x4)], [], (z_wI h2 (4 + 5) (r1.toNatClampNeg) 9))) 2 rfl).trans ?_
          exact z_X_lab rfl
      · refine (z_X_steps (s' := (30, [(0, .ref 4), (1, .int x1), (2, .int x2), (3, .int x3), (4, .int x4), (5, .int x5)], [.int x5, .int x2, .int x1, .ref (4 + 5)], h)) 5 rfl).trans ?_
        refine (z_X_call (id := 43) (a := [.int x1, .int x2, .int x5]) (c := 1) (s' := (33, [(0, .ref 4), (1, .int x1), (2, .int x2), (3, .int x3), (4, .int x4), (5, .int x5)], [.ref (4 + 5)], h)) rfl ⟨Nat.le_of_ble_eq_true rfl, Nat.le_of_ble_eq_true rfl⟩).trans ?_
        refine z_bdc fun r3 h4 => ?_
        refine (z_X_steps (s' := (35, [(0, .ref 4), (1, .int x1), (2, .int x2), (3, .int x3), (4, .int x4), (5, .int x5)], [.int (-4), .int r3, .ref (4 + 5)], h4)) 1 rfl).trans ?_
        refine (z_X_if (g := z_in r3 96) (s' := (36, [(0, .ref 4), (1, .int x1), (2, .int x2), (3, .int x3), (4, .int x4), (5, .int x5)], [], (z_wI h4 (4 + 5) (r3.toNatClampNeg) (-4)))) rfl).trans (z_bifA ?_)
        refine (z_X_steps (s' := (10, [(5, .int (x5 + 1)), (0, .ref 4), (1, .int x1), (2, .int x2), (3, .int x3), (4, .int x4)], [], (z_wI h4 (4 + 5) (r3.toNatClampNeg) (-4)))) 3 rfl).trans ?_
        exact z_X_lab rfl
  · show z_X zc_P_widen 2 (10, [(0, .ref 17), (1, .int x1), (2, .int x2), (3, .int x3), (4, .int x4), (5, .int x5)], [], h) = _
    refine (z_X_steps (s' := (13, [(0, .ref 17), (1, .int x1), (2, .int x2), (3, .int x3), (4, .int x4), (5, .int x5)], [.int 2, .int x5], h)) 2 rfl).trans ?_
    refine (z_X_br (c := (2 : Int32) ≤ x5) (s1 := (71, [(0, .ref 17), (1, .int x1), (2, .int x2), (3, .int x3), (4, .int x4), (5, .int x5)], [], h)) (s2 := (16, [(0, .ref 17), (1, .int x1), (2, .int x2), (3, .int x3), (4, .int x4), (5, .int x5)], [], h)) rfl).trans (z_ite ?_ ?_)
    · refine (z_X_steps (s' := (78, [(0, .ref 17), (1, .int x1), (2, .int x2), (3, .int x3), (4, .int x4), (5, .int x5)], [.int x3, .int x4, .ref (17 + 4)], h)) 4 rfl).trans ?_
      refine (z_X_if (g := z_in x4 48) (s' := (79, [(0, .ref 17), (1, .int x1), (2, .int x2), (3, .int x3), (4, .int x4), (5, .int x5)], [], (z_wI h (17 + 4) (x4.toNatClampNeg) x3))) rfl).trans (z_bifA ?_)
      exact z_X_ret rfl
    · refine (z_X_steps (s' := (19, [(0, .ref 17), (1, .int x1), (2, .int x2), (3, .int x3), (4, .int x4), (5, .int x5)], [.int x3, .int x5], h)) 2 rfl).trans ?_
      refine (z_X_br (c := x5 < x3) (s1 := (39, [(0, .ref 17), (1, .int x1), (2, .int x2), (3, .int x3), (4, .int x4), (5, .int x5)], [], h)) (s2 := (22, [(0, .ref 17), (1, .int x1), (2, .int x2), (3, .int x3), (4, .int x4), (5, .int x5)], [], h)) rfl).trans (z_ite ?_ ?_)
      · refine (z_X_steps (s' := (47, [(0, .ref 17), (1, .int x1), (2, .int x2), (3, .int x3), (4, .int x4), (5, .int x5)], [.int x4, .ref (17 + 4), .int x5], h)) 4 rfl).trans ?_
        refine (z_X_if (g := z_in x4 48) (s' := (48, [(0, .ref 17), (1, .int x1), (2, .int x2), (3, .int x3), (4, .int x4), (5, .int x5)], [.int (h.1 (17 + 4) (x4.toNatClampNeg)), .int x5], h)) rfl).trans (z_bifA ?_)
        refine (z_X_br (c := x5 < h.1 (17 + 4) (x4.toNatClampNeg)) (s1 := (65, [(0, .ref 17), (1, .int x1), (2, .int x2), (3, .int x3), (4, .int x4), (5, .int x5)], [], h)) (s2 := (51, [(0, .ref 17), (1, .int x1), (2, .int x2), (3, .int x3), (4, .int x4), (5, .int x5)], [], h)) rfl).trans (z_ite ?_ ?_)
        · refine (z_X_steps (s' := (10, [(5, .int (x5 + 1)), (0, .ref 17), (1, .int x1), (2, .int x2), (3, .int x3), (4, .int x4)], [], h)) 2 rfl).trans ?_
          exact z_X_lab rfl
        · refine (z_X_steps (s' := (59, [(0, .ref 17), (1, .int x1), (2, .int x2), (3, .int x3), (4, .int x4), (5, .int x5)], [.int x5, .int x2, .int x1, .ref (17 + 5)], h)) 5 rfl).trans ?_
          refine (z_X_call (id := 43) (a := [.int x1, .int x2, .int x5]) (c := 1) (s' := (62, [(0, .ref 17), (1, .int x1), (2, .int x2), (3, .int x3), (4, .int x4), (5, .int x5)], [.ref (17 + 5)], h)) rfl ⟨Nat.le_of_ble_eq_true rfl, Nat.le_of_ble_eq_true rfl⟩).trans ?_
          refine z_bdc fun r1 h2 => ?_
          refine (z_X_steps (s' := (64, [(0, .ref 17), (1, .int x1), (2, .int x2), (3, .int x3), (4, .int x4), (5, .int x5)], [.int 9, .int r1, .ref (17 + 5)], h2)) 1 rfl).trans ?_
          refine (z_X_if (g := z_in r1 96) (s' := (65, [(0, .ref 17), (1, .int x1), (2, .int x2), (3, .int x3), (4, .int x4), (5, .int x5)], [], (z_wI h2 (17 + 5) (r1.toNatClampNeg) 9))) rfl).trans (z_bifA ?_)
          refine (z_X_steps (s' := (10, [(5, .int (x5 + 1)), (0, .ref 17), (1, .int x1), (2, .int x2), (3, .int x3), (4, .int x4)], [], (z_wI h2 (17 + 5) (r1.toNatClampNeg) 9))) 2 rfl).trans ?_
          exact z_X_lab rfl
      · refine (z_X_steps (s' := (30, [(0, .ref 17), (1, .int x1), (2, .int x2), (3, .int x3), (4, .int x4), (5, .int x5)], [.int x5, .int x2, .int x1, .ref (17 + 5)], h)) 5 rfl).trans ?_
        refine (z_X_call (id := 43) (a := [.int x1, .int x2, .int x5]) (c := 1) (s' := (33, [(0, .ref 17), (1, .int x1), (2, .int x2), (3, .int x3), (4, .int x4), (5, .int x5)], [.ref (17 + 5)], h)) rfl ⟨Nat.le_of_ble_eq_true rfl, Nat.le_of_ble_eq_true rfl⟩).trans ?_
        refine z_bdc fun r3 h4 => ?_
        refine (z_X_steps (s' := (35, [(0, .ref 17), (1, .int x1), (2, .int x2), (3, .int x3), (4, .int x4), (5, .int x5)], [.int (-4), .int r3, .ref (17 + 5)], h4)) 1 rfl).trans ?_
        refine (z_X_if (g := z_in r3 96) (s' := (36, [(0, .ref 17), (1, .int x1), (2, .int x2), (3, .int x3), (4, .int x4), (5, .int x5)], [], (z_wI h4 (17 + 5) (r3.toNatClampNeg) (-4)))) rfl).trans (z_bifA ?_)
        refine (z_X_steps (s' := (10, [(5, .int (x5 + 1)), (0, .ref 17), (1, .int x1), (2, .int x2), (3, .int x3), (4, .int x4)], [], (z_wI h4 (17 + 5) (r3.toNatClampNeg) (-4)))) 3 rfl).trans ?_
        exact z_X_lab rfl
  · show z_X zc_P_widen 2 (10, [(0, .ref 25), (1, .int x1), (2, .int x2), (3, .int x3), (4, .int x4), (5, .int x5)], [], h) = _
    refine (z_X_steps (s' := (13, [(0, .ref 25), (1, .int x1), (2, .int x2), (3, .int x3), (4, .int x4), (5, .int x5)], [.int 2, .int x5], h)) 2 rfl).trans ?_
    refine (z_X_br (c := (2 : Int32) ≤ x5) (s1 := (71, [(0, .ref 25), (1, .int x1), (2, .int x2), (3, .int x3), (4, .int x4), (5, .int x5)], [], h)) (s2 := (16, [(0, .ref 25), (1, .int x1), (2, .int x2), (3, .int x3), (4, .int x4), (5, .int x5)], [], h)) rfl).trans (z_ite ?_ ?_)
    · refine (z_X_steps (s' := (78, [(0, .ref 25), (1, .int x1), (2, .int x2), (3, .int x3), (4, .int x4), (5, .int x5)], [.int x3, .int x4, .ref (25 + 4)], h)) 4 rfl).trans ?_
      refine (z_X_if (g := z_in x4 48) (s' := (79, [(0, .ref 25), (1, .int x1), (2, .int x2), (3, .int x3), (4, .int x4), (5, .int x5)], [], (z_wI h (25 + 4) (x4.toNatClampNeg) x3))) rfl).trans (z_bifA ?_)
      exact z_X_ret rfl
    · refine (z_X_steps (s' := (19, [(0, .ref 25), (1, .int x1), (2, .int x2), (3, .int x3), (4, .int x4), (5, .int x5)], [.int x3, .int x5], h)) 2 rfl).trans ?_
      refine (z_X_br (c := x5 < x3) (s1 := (39, [(0, .ref 25), (1, .int x1), (2, .int x2), (3, .int x3), (4, .int x4), (5, .int x5)], [], h)) (s2 := (22, [(0, .ref 25), (1, .int x1), (2, .int x2), (3, .int x3), (4, .int x4), (5, .int x5)], [], h)) rfl).trans (z_ite ?_ ?_)
      · refine (z_X_steps (s' := (47, [(0, .ref 25), (1, .int x1), (2, .int x2), (3, .int x3), (4, .int x4), (5, .int x5)], [.int x4, .ref (25 + 4), .int x5], h)) 4 rfl).trans ?_
        refine (z_X_if (g := z_in x4 48) (s' := (48, [(0, .ref 25), (1, .int x1), (2, .int x2), (3, .int x3), (4, .int x4), (5, .int x5)], [.int (h.1 (25 + 4) (x4.toNatClampNeg)), .int x5], h)) rfl).trans (z_bifA ?_)
        refine (z_X_br (c := x5 < h.1 (25 + 4) (x4.toNatClampNeg)) (s1 := (65, [(0, .ref 25), (1, .int x1), (2, .int x2), (3, .int x3), (4, .int x4), (5, .int x5)], [], h)) (s2 := (51, [(0, .ref 25), (1, .int x1), (2, .int x2), (3, .int x3), (4, .int x4), (5, .int x5)], [], h)) rfl).trans (z_ite ?_ ?_)
        · refine (z_X_steps (s' := (10, [(5, .int (x5 + 1)), (0, .ref 25), (1, .int x1), (2, .int x2), (3, .int x3), (4, .int x4)], [], h)) 2 rfl).trans ?_
          exact z_X_lab rfl
        · refine (z_X_steps (s' := (59, [(0, .ref 25), (1, .int x1), (2, .int x2), (3, .int x3), (4, .int x4), (5, .int x5)], [.int x5, .int x2, .int x1, .ref (25 + 5)], h)) 5 rfl).trans ?_
          refine (z_X_call (id := 43) (a := [.int x1, .int x2, .int x5]) (c := 1) (s' := (62, [(0, .ref 25), (1, .int x1), (2, .int x2), (3, .int x3), (4, .int x4), (5, .int x5)], [.ref (25 + 5)], h)) rfl ⟨Nat.le_of_ble_eq_true rfl, Nat.le_of_ble_eq_true rfl⟩).trans ?_
          refine z_bdc fun r1 h2 => ?_
          refine (z_X_steps (s' := (64, [(0, .ref 25), (1, .int x1), (2, .int x2), (3, .int x3), (4, .int x4), (5, .int x5)], [.int 9, .int r1, .ref (25 + 5)], h2)) 1 rfl).trans ?_
          refine (z_X_if (g := z_in r1 96) (s' := (65, [(0, .ref 25), (1, .int x1), (2, .int x2), (3, .int x3), (4, .int x4), (5, .int x5)], [], (z_wI h2 (25 + 5) (r1.toNatClampNeg) 9))) rfl).trans (z_bifA ?_)
          refine (z_X_steps (s' := (10, [(5, .int (x5 + 1)), (0, .ref 25), (1, .int x1), (2, .int x2), (3, .int x3), (4, .int x4)], [], (z_wI h2 (25 + 5) (r1.toNatClampNeg) 9))) 2 rfl).trans ?_
          exact z_X_lab rfl
      · refine (z_X_steps (s' := (30, [(0, .ref 25), (1, .int x1), (2, .int x2), (3, .int x3), (4, .int x4), (5, .int x5)], [.int x5, .int x2, .int x1, .ref (25 + 5)], h)) 5 rfl).trans ?_
        refine (z_X_call (id := 43) (a := [.int x1, .int x2, .int x5]) (c := 1) (s' := (33, [(0, .ref 25), (1, .int x1), (2, .int x2), (3, .int x3), (4, .int x4), (5, .int x5)], [.ref (25 + 5)], h)) rfl ⟨Nat.le_of_ble_eq_true rfl, Nat.le_of_ble_eq_true rfl⟩).trans ?_
        refine z_bdc fun r3 h4 => ?_
        refine (z_X_steps (s' := (35, [(0, .ref 25), (1, .int x1), (2, .int x2), (3, .int x3), (4, .int x4), (5, .int x5)], [.int (-4), .int r3, .ref (25 + 5)], h4)) 1 rfl).trans ?_
        refine (z_X_if (g := z_in r3 96) (s' := (36, [(0, .ref 25), (1, .int x1), (2, .int x2), (3, .int x3), (4, .int x4), (5, .int x5)], [], (z_wI h4 (25 + 5) (r3.toNatClampNeg) (-4)))) rfl).trans (z_bifA ?_)
        refine (z_X_steps (s' := (10, [(5, .int (x5 + 1)), (0, .ref 25), (1, .int x1), (2, .int x2), (3, .int x3), (4, .int x4)], [], (z_wI h4 (25 + 5) (r3.toNatClampNeg) (-4)))) 3 rfl).trans ?_
        exact z_X_lab rfl
  · show z_X zc_P_widen 2 (10, [(0, .ref 73), (1, .int x1), (2, .int x2), (3, .int x3), (4, .int x4), (5, .int x5)], [], h) = _
    refine (z_X_steps (s' := (13, [(0, .ref 73), (1, .int x1), (2, .int x2), (3, .int x3), (4, .int x4), (5, .int x5)], [.int 2, .int x5], h)) 2 rfl).trans ?_
    refine (z_X_br (c := (2 : Int32) ≤ x5) (s1 := (71, [(0, .ref 73), (1, .int x1), (2, .int x2), (3, .int x3), (4, .int x4), (5, .int x5)], [], h)) (s2 := (16, [(0, .ref 73), (1, .int x1), (2, .int x2), (3, .int x3), (4, .int x4), (5, .int x5)], [], h)) rfl).trans (z_ite ?_ ?_)
    · refine (z_X_steps (s' := (78, [(0, .ref 73), (1, .int x1), (2, .int x2), (3, .int x3), (4, .int x4), (5, .int x5)], [.int x3, .int x4, .ref (73 + 4)], h)) 4 rfl).trans ?_
      refine (z_X_if (g := z_in x4 48) (s' := (79, [(0, .ref 73), (1, .int x1), (2, .int x2), (3, .int x3), (4, .int x4), (5, .int x5)], [], (z_wI h (73 + 4) (x4.toNatClampNeg) x3))) rfl).trans (z_bifA ?_)
      exact z_X_ret rfl
    · refine (z_X_steps (s' := (19, [(0, .ref 73), (1, .int x1), (2, .int x2), (3, .int x3), (4, .int x4), (5, .int x5)], [.int x3, .int x5], h)) 2 rfl).trans ?_
      refine (z_X_br (c := x5 < x3) (s1 := (39, [(0, .ref 73), (1, .int x1), (2, .int x2), (3, .int x3), (4, .int x4), (5, .int x5)], [], h)) (s2 := (22, [(0, .ref 73), (1, .int x1), (2, .int x2), (3, .int x3), (4, .int x4), (5, .int x5)], [], h)) rfl).trans (z_ite ?_ ?_)
      · refine (z_X_steps (s' := (47, [(0, .ref 73), (1, .int x1), (2, .int x2), (3, .int x3), (4, .int x4), (5, .int x5)], [.int x4, .ref (73 + 4), .int x5], h)) 4 rfl).trans ?_
        refine (z_X_if (g := z_in x4 48) (s' := (48, [(0, .ref 73), (1, .int x1), (2, .int x2), (3, .int x3), (4, .int x4), (5, .int x5)], [.int (h.1 (73 + 4) (x4.toNatClampNeg)), .int x5], h)) rfl).trans (z_bifA ?_)
        refine (z_X_br (c := x5 < h.1 (73 + 4) (x4.toNatClampNeg)) (s1 := (65, [(0, .ref 73), (1, .int x1), (2, .int x2), (3, .int x3), (4, .int x4), (5, .int x5)], [], h)) (s2 := (51, [(0, .ref 73), (1, .int x1), (2, .int x2), (3, .int x3), (4, .int x4), (5, .int x5)], [], h)) rfl).trans (z_ite ?_ ?_)
        · refine (z_X_steps (s' := (10, [(5, .int (x5 + 1)), (0, .ref 73), (1, .int x1), (2, .int x2), (3, .int x3), (4, .int x4)], [], h)) 2 rfl).trans ?_
          exact z_X_lab rfl
        · refine (z_X_steps (s' := (59, [(0, .ref 73), (1, .int x1), (2, .int x2), (3, .int x3), (4, .int x4), (5, .int x5)], [.int x5, .int x2, .int x1, .ref (73 + 5)], h)) 5 rfl).trans ?_
          refine (z_X_call (id := 43) (a := [.int x1, .int x2, .int x5]) (c := 1) (s' := (62, [(0, .ref 73), (1, .int x1), (2, .int x2), (3, .int x3), (4, .int x4), (5, .int x5)], [.ref (73 + 5)], h)) rfl ⟨Nat.le_of_ble_eq_true rfl, Nat.le_of_ble_eq_true rfl⟩).trans ?_
          refine z_bdc fun r1 h2 => ?_
          refine (z_X_steps (s' := (64, [(0, .ref 73), (1, .int x1), (2, .int x2), (3, .int x3), (4, .int x4), (5, .int x5)], [.int 9, .int r1, .ref (73 + 5)], h2)) 1 rfl).trans ?_
          refine (z_X_if (g := z_in r1 96) (s' := (65, [(0, .ref 73), (1, .int x1), (2, .int x2), (3, .int x3), (4, .int x4), (5, .int x5)], [], (z_wI h2 (73 + 5) (r1.toNatClampNeg) 9))) rfl).trans (z_bifA ?_)
          refine (z_X_steps (s' := (10, [(5, .int (x5 + 1)), (0, .ref 73), (1, .int x1), (2, .int x2), (3, .int x3), (4, .int x4)], [], (z_wI h2 (73 + 5) (r1.toNatClampNeg) 9))) 2 rfl).trans ?_
          exact z_X_lab rfl
      · refine (z_X_steps (s' := (30, [(0, .ref 73), (1, .int x1), (2, .int x2), (3, .int x3), (4, .int x4), (5, .int x5)], [.int x5, .int x2, .int x1, .ref (73 + 5)], h)) 5 rfl).trans ?_
        refine (z_X_call (id := 43) (a := [.int x1, .int x2, .int x5]) (c := 1) (s' := (33, [(0, .ref 73), (1, .int x1), (2, .int x2), (3, .int x3), (4, .int x4), (5, .int x5)], [.ref (73 + 5)], h)) rfl ⟨Nat.le_of_ble_eq_true rfl, Nat.le_of_ble_eq_true rfl⟩).trans ?_
        refine z_bdc fun r3 h4 => ?_
        refine (z_X_steps (s' := (35, [(0, .ref 73), (1, .int x1), (2, .int x2), (3, .int x3), (4, .int x4), (5, .int x5)], [.int (-4), .int r3, .ref (73 + 5)], h4)) 1 rfl).trans ?_
        refine (z_X_if (g := z_in r3 96) (s' := (36, [(0, .ref 73), (1, .int x1), (2, .int x2), (3, .int x3), (4, .int x4), (5, .int x5)], [], (z_wI h4 (73 + 5) (r3.toNatClampNeg) (-4)))) rfl).trans (z_bifA ?_)
        refine (z_X_steps (s' := (10, [(5, .int (x5 + 1)), (0, .ref 73), (1, .int x1), (2, .int x2), (3, .int x3), (4, .int x4)], [], (z_wI h4 (73 + 5) (r3.toNatClampNeg) (-4)))) 3 rfl).trans ?_
        exact z_X_lab rfl
  · show z_X zc_P_widen 2 (10, [(0, .ref 81), (1, .int x1), (2, .int x2), (3, .int x3), (4, .int x4), (5, .int x5)], [], h) = _
    refine (z_X_steps (s' := (13, [(0, .ref 81), (1, .int x1), (2, .int x2), (3, .int x3), (4, .int x4), (5, .int x5)], [.int 2, .int x5], h)) 2 rfl).trans ?_
    refine (z_X_br (c := (2 : Int32) ≤ x5) (s1 := (71, [(0, .ref 81), (1, .int x1), (2, .int x2), (3, .int x3), (4, .int x4), (5, .int x5)], [], h)) (s2 := (16, [(0, .ref 81), (1, .int x1), (2, .int x2), (3, .int x3), (4, .int x4), (5, .int x5)], [], h)) rfl).trans (z_ite ?_ ?_)
    · refine (z_X_steps (s' := (78, [(0, .ref 81), (1, .int x1), (2, .int x2), (3, .int x3), (4, .int x4), (5, .int x5)], [.int x3, .int x4, .ref (81 + 4)], h)) 4 rfl).trans ?_
      refine (z_X_if (g := z_in x4 48) (s' := (79, [(0, .ref 81), (1, .int x1), (2, .int x2), (3, .int x3), (4, .int x4), (5, .int x5)], [], (z_wI h (81 + 4) (x4.toNatClampNeg) x3))) rfl).trans (z_bifA ?_)
      exact z_X_ret rfl
    · refine (z_X_steps (s' := (19, [(0, .ref 81), (1, .int x1), (2, .int x2), (3, .int x3), (4, .int x4), (5, .int x5)], [.int x3, .int x5], h)) 2 rfl).trans ?_
      refine (z_X_br (c := x5 < x3) (s1 := (39, [(0, .ref 81), (1, .int x1), (2, .int x2), (3, .int x3), (4, .int x4), (5, .int x5)], [], h)) (s2 := (22, [(0, .ref 81), (1, .int x1), (2, .int x2), (3, .int x3), (4, .int x4), (5, .int x5)], [], h)) rfl).trans (z_ite ?_ ?_)
      · refine (z_X_steps (s' := (47, [(0, .ref 81), (1, .int x1), (2, .int x2), (3, .int x3), (4, .int x4), (5, .int x5)], [.int x4, .ref (81 + 4), .int x5], h)) 4 rfl).trans ?_
        refine (z_X_if (g := z_in x4 48) (s' := (48, [(0, .ref 81), (1, .int x1), (2, .int x2), (3, .int x3), (4, .int x4), (5, .int x5)], [.int (h.1 (81 + 4) (x4.toNatClampNeg)), .int x5], h)) rfl).trans (z_bifA ?_)
        refine (z_X_br (c := x5 < h.1 (81 + 4) (x4.toNatClampNeg)) (s1 := (65, [(0, .ref 81), (1, .int x1), (2, .int x2), (3, .int x3), (4, .int x4), (5, .int x5)], [], h)) (s2 := (51, [(0, .ref 81), (1, .int x1), (2, .int x2), (3, .int x3), (4, .int x4), (5, .int x5)], [], h)) rfl).trans (z_ite ?_ ?_)
        · refine (z_X_steps (s' := (10, [(5, .int (x5 + 1)), (0, .ref 81), (1, .int x1), (2, .int x2), (3, .int x3), (4, .int x4)], [], h)) 2 rfl).trans ?_
          exact z_X_lab rfl
        · refine (z_X_steps (s' := (59, [(0, .ref 81), (1, .int x1), (2, .int x2), (3, .int x3), (4, .int x4), (5, .int x5)], [.int x5, .int x2, .int x1, .ref (81 + 5)], h)) 5 rfl).trans ?_
          refine (z_X_call (id := 43) (a := [.int x1, .int x2, .int x5]) (c := 1) (s' := (62, [(0, .ref 81), (1, .int x1), (2, .int x2), (3, .int x3), (4, .int x4), (5, .int x5)], [.ref (81 + 5)], h)) rfl ⟨Nat.le_of_ble_eq_true rfl, Nat.le_of_ble_eq_true rfl⟩).trans ?_
          refine z_bdc fun r1 h2 => ?_
          refine (z_X_steps (s' := (64, [(0, .ref 81), (1, .int x1), (2, .int x2), (3, .int x3), (4, .int x4), (5, .int x5)], [.int 9, .int r1, .ref (81 + 5)], h2)) 1 rfl).trans ?_
          refine (z_X_if (g := z_in r1 96) (s' := (65, [(0, .ref 81), (1, .int x1), (2, .int x2), (3, .int x3), (4, .int x4), (5, .int x5)], [], (z_wI h2 (81 + 5) (r1.toNatClampNeg) 9))) rfl).trans (z_bifA ?_)
          refine (z_X_steps (s' := (10, [(5, .int (x5 + 1)), (0, .ref 81), (1, .int x1), (2, .int x2), (3, .int x3), (4, .int x4)], [], (z_wI h2 (81 + 5) (r1.toNatClampNeg) 9))) 2 rfl).trans ?_
          exact z_X_lab rfl
      · refine (z_X_steps (s' := (30, [(0, .ref 81), (1, .int x1), (2, .int x2), (3, .int x3), (4, .int x4), (5, .int x5)], [.int x5, .int x2, .int x1, .ref (81 + 5)], h)) 5 rfl).trans ?_
        refine (z_X_call (id := 43) (a := [.int x1, .int x2, .int x5]) (c := 1) (s' := (33, [(0, .ref 81), (1, .int x1), (2, .int x2), (3, .int x3), (4, .int x4), (5, .int x5)], [.ref (81 + 5)], h)) rfl ⟨Nat.le_of_ble_eq_true rfl, Nat.le_of_ble_eq_true rfl⟩).trans ?_
        refine z_bdc fun r3 h4 => ?_
        refine (z_X_steps (s' := (35, [(0, .ref 81), (1, .int x1), (2, .int x2), (3, .int x3), (4, .int x4), (5, .int x5)], [.int (-4), .int r3, .ref (81 + 5)], h4)) 1 rfl).trans ?_
        refine (z_X_if (g := z_in r3 96) (s' := (36, [(0, .ref 81), (1, .int x1), (2, .int x2), (3, .int x3), (4, .int x4), (5, .int x5)], [], (z_wI h4 (81 + 5) (r3.toNatClampNeg) (-4)))) rfl).trans (z_bifA ?_)
        refine (z_X_steps (s' := (10, [(5, .int (x5 + 1)), (0, .ref 81), (1, .int x1), (2, .int x2), (3, .int x3), (4, .int x4)], [], (z_wI h4 (81 + 5) (r3.toNatClampNeg) (-4)))) 3 rfl).trans ?_
        exact z_X_lab rfl
  · show z_X zc_P_widen 2 (10, [(0, .ref 94), (1, .int x1), (2, .int x2), (3, .int x3), (4, .int x4), (5, .int x5)], [], h) = _
    refine (z_X_steps (s' := (13, [(0, .ref 94), (1, .int x1), (2, .int x2), (3, .int x3), (4, .int x4), (5, .int x5)], [.int 2, .int x5], h)) 2 rfl).trans ?_
    refine (z_X_br (c := (2 : Int32) ≤ x5) (s1 := (71, [(0, .ref 94), (1, .int x1), (2, .int x2), (3, .int x3), (4, .int x4), (5, .int x5)], [], h)) (s2 := (16, [(0, .ref 94), (1, .int x1), (2, .int x2), (3, .int x3), (4, .int x4), (5, .int x5)], [], h)) rfl).trans (z_ite ?_ ?_)
    · refine (z_X_steps (s' := (78, [(0, .ref 94), (1, .int x1), (2, .int x2), (3, .int x3), (4, .int x4), (5, .int x5)], [.int x3, .int x4, .ref (94 + 4)], h)) 4 rfl).trans ?_
      refine (z_X_if (g := z_in x4 48) (s' := (79, [(0, .ref 94), (1, .int x1), (2, .int x2), (3, .int x3), (4, .int x4), (5, .int x5)], [], (z_wI h (94 + 4) (x4.toNatClampNeg) x3))) rfl).trans (z_bifA ?_)
      exact z_X_ret rfl
    · refine (z_X_steps (s' := (19, [(0, .ref 94), (1, .int x1), (2, .int x2), (3, .int x3), (4, .int x4), (5, .int x5)], [.int x3, .int x5], h)) 2 rfl).trans ?_
      refine (z_X_br (c := x5 < x3) (s1 := (39, [(0, .ref 94), (1, .int x1), (2, .int x2), (3, .int x3), (4, .int x4), (5, .int x5)], [], h)) (s2 := (22, [(0, .ref 94), (1, .int x1), (2, .int x2), (3, .int x3), (4, .int x4), (5, .int x5)], [], h)) rfl).trans (z_ite ?_ ?_)
      · refine (z_X_steps (s' := (47, [(0, .ref 94), (1, .int x1), (2, .int x2), (3, .int x3), (4, .int x4), (5, .int x5)], [.int x4, .ref (94 + 4), .int x5], h)) 4 rfl).trans ?_
        refine (z_X_if (g := z_in x4 48) (s' := (48, [(0, .ref 94), (1, .int x1), (2, .int x2), (3, .int x3), (4, .int x4), (5, .int x5)], [.int (h.1 (94 + 4) (x4.toNatClampNeg)), .int x5], h)) rfl).trans (z_bifA ?_)
        refine (z_X_br (c := x5 < h.1 (94 + 4) (x4.toNatClampNeg)) (s1 := (65, [(0, .ref 94), (1, .int x1), (2, .int x2), (3, .int x3), (4, .int x4), (5, .int x5)], [], h)) (s2 := (51, [(0, .ref 94), (1, .int x1), (2, .int x2), (3, .int x3), (4, .int x4), (5, .int x5)], [], h)) rfl).trans (z_ite ?_ ?_)
        · refine (z_X_steps (s' := (10, [(5, .int (x5 + 1)), (0, .ref 94), (1, .int x1), (2, .int x2), (3, .int x3), (4, .int x4)], [], h)) 2 rfl).trans ?_
          exact z_X_lab rfl
        · refine (z_X_steps (s' := (59, [(0, .ref 94), (1, .int x1), (2, .int x2), (3, .int x3), (4, .int x4), (5, .int x5)], [.int x5, .int x2, .int x1, .ref (94 + 5)], h)) 5 rfl).trans ?_
          refine (z_X_call (id := 43) (a := [.int x1, .int x2, .int x5]) (c := 1) (s' := (62, [(0, .ref 94), (1, .int x1), (2, .int x2), (3, .int x3), (4, .int x4), (5, .int x5)], [.ref (94 + 5)], h)) rfl ⟨Nat.le_of_ble_eq_true rfl, Nat.le_of_ble_eq_true rfl⟩).trans ?_
          refine z_bdc fun r1 h2 => ?_
          refine (z_X_steps (s' := (64, [(0, .ref 94), (1, .int x1), (2, .int x2), (3, .int x3), (4, .int x4), (5, .int x5)], [.int 9, .int r1, .ref (94 + 5)], h2)) 1 rfl).trans ?_
          refine (z_X_if (g := z_in r1 96) (s' := (65, [(0, .ref 94), (1, .int x1), (2, .int x2), (3, .int x3), (4, .int x4), (5, .int x5)], [], (z_wI h2 (94 + 5) (r1.toNatClampNeg) 9))) rfl).trans (z_bifA ?_)
          refine (z_X_steps (s' := (10, [(5, .int (x5 + 1)), (0, .ref 94), (1, .int x1), (2, .int x2), (3, .int x3), (4, .int x4)], [], (z_wI h2 (94 + 5) (r1.toNatClampNeg) 9))) 2 rfl).trans ?_
          exact z_X_lab rfl
      · refine (z_X_steps (s' := (30, [(0, .ref 94), (1, .int x1), (2, .int x2), (3, .int x3), (4, .int x4), (5, .int x5)], [.int x5, .int x2, .int x1, .ref (94 + 5)], h)) 5 rfl).trans ?_
        refine (z_X_call (id := 43) (a := [.int x1, .int x2, .int x5]) (c := 1) (s' := (33, [(0, .ref 94), (1, .int x1), (2, .int x2), (3, .int x3), (4, .int x4), (5, .int x5)], [.ref (94 + 5)], h)) rfl ⟨Nat.le_of_ble_eq_true rfl, Nat.le_of_ble_eq_true rfl⟩).trans ?_
        refine z_bdc fun r3 h4 => ?_
        refine (z_X_steps (s' := (35, [(0, .ref 94), (1, .int x1), (2, .int x2), (3, .int x3), (4, .int x4), (5, .int x5)], [.int (-4), .int r3, .ref (94 + 5)], h4)) 1 rfl).trans ?_
        refine (z_X_if (g := z_in r3 96) (s' := (36, [(0, .ref 94), (1, .int x1), (2, .int x2), (3, .int x3), (4, .int x4), (5, .int x5)], [], (z_wI h4 (94 + 5) (r3.toNatClampNeg) (-4)))) rfl).trans (z_bifA ?_)
        refine (z_X_steps (s' := (10, [(5, .int (x5 + 1)), (0, .ref 94), (1, .int x1), (2, .int x2), (3, .int x3), (4, .int x4)], [], (z_wI h4 (94 + 5) (r3.toNatClampNeg) (-4)))) 3 rfl).trans ?_
        exact z_X_lab rfl
  · show z_X zc_P_widen 2 (10, [(0, .ref 102), (1, .int x1), (2, .int x2), (3, .int x3), (4, .int x4), (5, .int x5)], [], h) = _
    refine (z_X_steps (s' := (13, [(0, .ref 102), (1, .int x1), (2, .int x2), (3, .int x3), (4, .int x4), (5, .int x5)], [.int 2, .int x5], h)) 2 rfl).trans ?_
    refine (z_X_br (c := (2 : Int32) ≤ x5) (s1 := (71, [(0, .ref 102), (1, .int x1), (2, .int x2), (3, .int x3), (4, .int x4), (5, .int x5)], [], h)) (s2 := (16, [(0, .ref 102), (1, .int x1), (2, .int x2), (3, .int x3), (4, .int x4), (5, .int x5)], [], h)) rfl).trans (z_ite ?_ ?_)
    · refine (z_X_steps (s' := (78, [(0, .ref 102), (1, .int x1), (2, .int x2), (3, .int x3), (4, .int x4), (5, .int x5)], [.int x3, .int x4, .ref (102 + 4)], h)) 4 rfl).trans ?_
      refine (z_X_if (g := z_in x4 48) (s' := (79, [(0, .ref 102), (1, .int x1), (2, .int x2), (3, .int x3), (4, .int x4), (5, .int x5)], [], (z_wI h (102 + 4) (x4.toNatClampNeg) x3))) rfl).trans (z_bifA ?_)
      exact z_X_ret rfl
    · refine (z_X_steps (s' := (19, [(0, .ref 102), (1, .int x1), (2, .int x2), (3, .int x3), (4, .int x4), (5, .int x5)], [.int x3, .int x5], h)) 2 rfl).trans ?_
      refine (z_X_br (c := x5 < x3) (s1 := (39, [(0, .ref 102), (1, .int x1), (2, .int x2), (3, .int x3), (4, .int x4), (5, .int x5)], [], h)) (s2 := (22, [(0, .ref 102), (1, .int x1), (2, .int x2), (3, .int x3), (4, .int x4), (5, .int x5)], [], h)) rfl).trans (z_ite ?_ ?_)
      · refine (z_X_steps (s' := (47, [(0, .ref 102), (1, .int x1), (2, .int x2), (3, .int x3), (4, .int x4), (5, .int x5)], [.int x4, .ref (102 + 4), .int x5], h)) 4 rfl).trans ?_
        refine (z_X_if (g := z_in x4 48) (s' := (48, [(0, .ref 102), (1, .int x1), (2, .int x2), (3, .int x3), (4, .int x4), (5, .int x5)], [.int (h.1 (102 + 4) (x4.toNatClampNeg)), .int x5], h)) rfl).trans (z_bifA ?_)
        refine (z_X_br (c := x5 < h.1 (102 + 4) (x4.toNatClampNeg)) (s1 := (65, [(0, .ref 102), (1, .int x1), (2, .int x2), (3, .int x3), (4, .int x4), (5, .int x5)], [], h)) (s2 := (51, [(0, .ref 102), (1, .int x1), (2, .int x2), (3, .int x3), (4, .int x4), (5, .int x5)], [], h)) rfl).trans (z_ite ?_ ?_)
        · refine (z_X_steps (s' := (10, [(5, .int (x5 + 1)), (0, .ref 102), (1, .int x1), (2, .int x2), (3, .int x3), (4, .int x4)], [], h)) 2 rfl).trans ?_
          exact z_X_lab rfl
        · refine (z_X_steps (s' := (59, [(0, .ref 102), (1, .int x1), (2, .int x2), (3, .int x3), (4, .int x4), (5, .int x5)], [.int x5, .int x2, .int x1, .ref (102 + 5)], h)) 5 rfl).trans ?_
          refine (z_X_call (id := 43) (a := [.int x1, .int x2, .int x5]) (c := 1) (s' := (62, [(0, .ref 102), (1, .int x1), (2, .int x2), (3, .int x3), (4, .int x4), (5, .int x5)], [.ref (102 + 5)], h)) rfl ⟨Nat.le_of_ble_eq_true rfl, Nat.le_of_ble_eq_true rfl⟩).trans ?_
          refine z_bdc fun r1 h2 => ?_
          refine (z_X_steps (s' := (64, [(0, .ref 102), (1, .int x1), (2, .int x2), (3, .int x3), (4, .int x4), (5, .int x5)], [.int 9, .int r1, .ref (102 + 5)], h2)) 1 rfl).trans ?_
          refine (z_X_if (g := z_in r1 96) (s' := (65, [(0, .ref 102), (1, .int x1), (2, .int x2), (3, .int x3), (4, .int x4), (5, .int x5)], [], (z_wI h2 (102 + 5) (r1.toNatClampNeg) 9))) rfl).trans (z_bifA ?_)
          refine (z_X_steps (s' := (10, [(5, .int (x5 + 1)), (0, .ref 102), (1, .int x1), (2, .int x2), (3, .int x3), (4, .int x4)], [], (z_wI h2 (102 + 5) (r1.toNatClampNeg) 9))) 2 rfl).trans ?_
          exact z_X_lab rfl
      · refine (z_X_steps (s' := (30, [(0, .ref 102), (1, .int x1), (2, .int x2), (3, .int x3), (4, .int x4), (5, .int x5)], [.int x5, .int x2, .int x1, .ref (102 + 5)], h)) 5 rfl).trans ?_
        refine (z_X_call (id := 43) (a := [.int x1, .int x2, .int x5]) (c := 1) (s' := (33, [(0, .ref 102), (1, .int x1), (2, .int x2), (3, .int x3), (4, .int x4), (5, .int x5)], [.ref (102 + 5)], h)) rfl ⟨Nat.le_of_ble_eq_true rfl, Nat.le_of_ble_eq_true rfl⟩).trans ?_
        refine z_bdc fun r3 h4 => ?_
        refine (z_X_steps (s' := (35, [(0, .ref 102), (1, .int x1), (2, .int x2), (3, .int x3), (4, .int x4), (5, .int x5)], [.int (-4), .int r3, .ref (102 + 5)], h4)) 1 rfl).trans ?_
        refine (z_X_if (g := z_in r3 96) (s' := (36, [(0, .ref 102), (1, .int x1), (2, .int x2), (3, .int x3), (4, .int x4), (5, .int x5)], [], (z_wI h4 (102 + 5) (r3.toNatClampNeg) (-4)))) rfl).trans (z_bifA ?_)
        refine (z_X_steps (s' := (10, [(5, .int (x5 + 1)), (0, .ref 102), (1, .int x1), (2, .int x2), (3, .int x3), (4, .int x4)], [], (z_wI h4 (102 + 5) (r3.toNatClampNeg) (-4)))) 3 rfl).trans ?_
        exact z_X_lab rfl
noncomputable def zl_P_meantBy_5 (o : Nat) (x2 : Int32) (x3 : Int32) (x4 : Int32) (h : z_H) : Option z_A := z_X zc_P_meantBy 1 (5, [(0, .ref o), (2, .int x2), (3, .int x3), (4, .int x4)], [], h)
set_option maxRecDepth 8000 in
set_option maxHeartbeats 2000000 in
theorem e_P_meantBy {o : Nat} (hi : o ∈ [4, 17, 25, 73, 81, 94, 102]) (x1 : Int32) (x2 : Int32) (h : z_H) : z_M 79 [.ref o, .int x1, .int x2] h = zl_P_meantBy_5 o x2 x1 0 h := by
  refine (z_M_eq (by decide)).trans ?_
  simp only [List.mem_cons, List.not_mem_nil, or_false, Prod.mk.injEq] at hi
  rcases hi with rfl | rfl | rfl | rfl | rfl | rfl | rfl
  · show z_X zc_P_meantBy 1 (0, [(0, .ref 4), (1, .int x1), (2, .int x2)], [], h) = _
    refine (z_X_steps (s' := (5, [(4, .int 0), (3, .int x1), (0, .ref 4), (1, .int x1), (2, .int x2)], [], h)) 4 rfl).trans ?_
    exact z_X_lab rfl
  · show z_X zc_P_meantBy 1 (0, [(0, .ref 17), (1, .int x1), (2, .int x2)], [], h) = _
    refine (z_X_steps (s' := (5, [(4, .int 0), (3, .int x1), (0, .ref 17), (1, .int x1), (2, .int x2)], [], h)) 4 rfl).trans ?_
    exact z_X_lab rfl
  · show z_X zc_P_meantBy 1 (0, [(0, .ref 25), (1, .int x1), (2, .int x2)], [], h) = _
    refine (z_X_steps (s' := (5, [(4, .int 0), (3, .int x1), (0, .ref 25), (1, .int x1), (2, .int x2)], [], h)) 4 rfl).trans ?_
    exact z_X_lab rfl
  · show z_X zc_P_meantBy 1 (0, [(0, .ref 73), (1, .int x1), (2, .int x2)], [], h) = _
    refine (z_X_steps (s' := (5, [(4, .int 0), (3, .int x1), (0, .ref 73), (1, .int x1), (2, .int x2)], [], h)) 4 rfl).trans ?_
    exact z_X_lab rfl
  · show z_X zc_P_meantBy 1 (0, [(0, .ref 81), (1, .int x1), (2, .int x2)], [], h) = _
    refine (z_X_steps (s' := (5, [(4, .int 0), (3, .int x1), (0, .ref 81), (1, .int x1), (2, .int x2)], [], h)) 4 rfl).trans ?_
    exact z_X_lab rfl
  · show z_X zc_P_meantBy 1 (0, [(0, .ref 94), (1, .int x1), (2, .int x2)], [], h) = _
    refine (z_X_steps (s' := (5, [(4, .int 0), (3, .int x1), (0, .ref 94), (1, .int x1), (2, .int x2)], [], h)) 4 rfl).trans ?_
    exact z_X_lab rfl
  · show z_X zc_P_meantBy 1 (0, [(0, .ref 102), (1, .int x1), (2, .int x2)], [], h) = _
    refine (z_X_steps (s' := (5, [(4, .int 0), (3, .int x1), (0, .ref 102), (1, .int x1), (2, .int x2)], [], h)) 4 rfl).trans ?_
    exact z_X_lab rfl
set_option maxRecDepth 8000 in
set_option maxHeartbeats 2000000 in
theorem e_P_meantBy_5 {o : Nat} (hi : o ∈ [4, 17, 25, 73, 81, 94, 102]) (x2 : Int32) (x3 : Int32) (x4 : Int32) (h : z_H) : zl_P_meantBy_5 o x2 x3 x4 h = (if (4 : Int32) ≤ x4 then some ((-4), h) else (if x3 < 0 then some ((-4), h) else (if h.1 o 1 ≤ x3 then some ((-4), h) else (bif z_in ((4 * x3) + x2) 16 then (if h.1 (o + 7) (((4 * x3) + x2).toNatClampNeg) = (-4) then (bif z_in x3 4 then zl_P_meantBy_5 o x2 (h.1 (o + 6) (x3.toNatClampNeg)) (x4 + 1) h else none) else (bif z_in ((4 * x3) + x2) 16 then some (h.1 (o + 7) (((4 * x3) + x2).toNatClampNeg), h) else none)) else none)))) := by
  simp only [List.mem_cons, List.not_mem_nil, or_false, Prod.mk.injEq] at hi
  rcases hi with rfl | rfl | rfl | rfl | rfl | rfl | rfl
  · show z_X zc_P_meantBy 1 (5, [(0, .ref 4), (2, .int x2), (3, .int x3), (4, .int x4)], [], h) = _
    refine (z_X_steps (s' := (8, [(0, .ref 4), (2, .int x2), (3, .int x3), (4, .int x4)], [.int 4, .int x4], h)) 2 rfl).trans ?_
    refine (z_X_br (c := (4 : Int32) ≤ x4) (s1 := (62, [(0, .ref 4), (2, .int x2), (3, .int x3), (4, .int x4)], [], h)) (s2 := (11, [(0, .ref 4), (2, .int x2), (3, .int x3), (4, .int x4)], [], h)) rfl).trans (z_ite ?_ ?_)
    · refine (z_X_steps (s' := (64, [(0, .ref 4), (2, .int x2), (3, .int x3), (4, .int x4)], [.int (-4)], h)) 1 rfl).trans ?_
      exact z_X_ret rfl
    · refine (z_X_steps (s' := (12, [(0, .ref 4), (2, .int x2), (3, .int x3), (4, .int x4)], [.int x3], h)) 1 rfl).trans ?_
      refine (z_X_br (c := x3 < 0) (s1 := (62, [(0, .ref 4), (2, .int x2), (3, .int x3), (4, .int x4)], [], h)) (s2 := (15, [(0, .ref 4), (2, .int x2), (3, .int x3), (4, .int x4)], [], h)) rfl).trans (z_ite ?_ ?_)
      · refine (z_X_steps (s' := (64, [(0, .ref 4), (2, .int x2), (3, .int x3), (4, .int x4)], [.int (-4)], h)) 1 rfl).trans ?_
        exact z_X_ret rfl
      · refine (z_X_steps (s' := (20, [(0, .ref 4), (2, .int x2), (3, .int x3), (4, .int x4)], [.int (h.1 4 1), .int x3], h)) 3 rfl).trans ?_
        refine (z_X_br (c := h.1 4 1 ≤ x3) (s1 := (62, [(0, .ref 4), (2, .int x2), (3, .int x3), (4, .int x4)], [], h)) (s2 := (23, [(0, .ref 4), (2, .int x2), (3, .int x3), (4, .int x4)], [], h)) rfl).trans (z_ite ?_ ?_)
        · refine (z_X_steps (s' := (64, [(0, .ref 4), (2, .int x2), (3, .int x3), (4, .int x4)], [.int (-4)], h)) 1 rfl).trans ?_
          exact z_X_ret rfl
        · refine (z_X_steps (s' := (32, [(0, .ref 4), (2, .int x2), (3, .int x3), (4, .int x4)], [.int ((4 * x3) + x2), .ref (4 + 7)], h)) 7 rfl).trans ?_
          refine (z_X_if (g := z_in ((4 * x3) + x2) 16) (s' := (33, [(0, .ref 4), (2, .int x2), (3, .int x3), (4, .int x4)], [.int (h.1 (4 + 7) (((4 * x3) + x2).toNatClampNeg))], h)) rfl).trans (z_bifA ?_)
          refine (z_X_steps (s' := (35, [(0, .ref 4), (2, .int x2), (3, .int x3), (4, .int x4)], [.int (-4), .int (h.1 (4 + 7) (((4 * x3) + x2).toNatClampNeg))], h)) 1 rfl).trans ?_
          refine (z_X_br (c := h.1 (4 + 7) (((4 * x3) + x2).toNatClampNeg) = (-4)) (s1 := (49, [(0, .ref 4), (2, .int x2), (3, .int x3), (4, .int x4)], [], h)) (s2 := (38, [(0, .ref 4), (2, .int x2), (3, .int x3), (4, .int x4)], [], h)) rfl).trans (z_ite ?_ ?_)
          · refine (z_X_steps (s' := (54, [(0, .ref 4), (2, .int x2), (3, .int x3), (4, .int x4)], [.int x3, .ref (4 + 6)], h)) 3 rfl).trans ?_
            refine (z_X_if (g := z_in x3 4) (s' := (55, [(0, .ref 4), (2, .int x2), (3, .int x3), (4, .int x4)], [.int (h.1 (4 + 6) (x3.toNatClampNeg))], h)) rfl).trans (z_bifA ?_)
            refine (z_X_steps (s' := (5, [(4, .int (x4 + 1)), (3, .int (h.1 (4 + 6) (x3.toNatClampNeg))), (0, .ref 4), (2, .int x2)], [], h)) 3 rfl).trans ?_
            exact z_X_lab rfl
          · refine (z_X_steps (s' := (47, [(0, .ref 4), (2, .int x2), (3, .int x3), (4, .int x4)], [.int ((4 * x3) + x2), .ref (4 + 7)], h)) 7 rfl).trans ?_
            refine (z_X_if (g := z_in ((4 * x3) + x2) 16) (s' := (48, [(0, .ref 4), (2, .int x2), (3, .int x3), (4, .int x4)], [.int (h.1 (4 + 7) (((4 * x3) + x2).toNatClampNeg))], h)) rfl).trans (z_bifA ?_)
            exact z_X_ret rfl
  · show z_X zc_P_meantBy 1 (5, [(0, .ref 17), (2, .int x2), (3, .int x3), (4, .int x4)], [], h) = _
    refine (z_X_steps (s' := (8, [(0, .ref 17), (2, .int x2), (3, .int x3), (4, .int x4)], [.int 4, .int x4], h)) 2 rfl).trans ?_
    refine (z_X_br (c := (4 : Int32) ≤ x4) (s1 := (62, [(0, .ref 17), (2, .int x2), (3, .int x3), (4, .int x4)], [], h)) (s2 := (11, [(0, .ref 17), (2, .int x2), (3, .int x3), (4, .int x4)], [], h)) rfl).trans (z_ite ?_ ?_)
    · refine (z_X_steps (s' := (64, [(0, .ref 17), (2, .int x2), (3, .int x3), (4, .int x4)], [.int (-4)], h)) 1 rfl).trans ?_
      exact z_X_ret rfl
    · refine (z_X_steps (s' := (12, [(0, .ref 17), (2, .int x2), (3, .int x3), (4, .int x4)], [.int x3], h)) 1 rfl).trans ?_
      refine (z_X_br (c := x3 < 0) (s1 := (62, [(0, .ref 17), (2, .int x2), (3, .int x3), (4, .int x4)], [], h)) (s2 := (15, [(0, .ref 17), (2, .int x2), (3, .int x3), (4, .int x4)], [], h)) rfl).trans (z_ite ?_ ?_)
      · refine (z_X_steps (s' := (64, [(0, .ref 17), (2, .int x2), (3, .int x3), (4, .int x4)], [.int (-4)], h)) 1 rfl).trans ?_
        exact z_X_ret rfl
      · refine (z_X_steps (s' := (20, [(0, .ref 17), (2, .int x2), (3, .int x3), (4, .int x4)], [.int (h.1 17 1), .int x3], h)) 3 rfl).trans ?_
        refine (z_X_br (c := h.1 17 1 ≤ x3) (s1 := (62, [(0, .ref 17), (2, .int x2), (3, .int x3), (4, .int x4)], [], h)) (s2 := (23, [(0, .ref 17), (2, .int x2), (3, .int x3), (4, .int x4)], [], h)) rfl).trans (z_ite ?_ ?_)
        · refine (z_X_steps (s' := (64, [(0, .ref 17), (2, .int x2), (3, .int x3), (4, .int x4)], [.int (-4)], h)) 1 rfl).trans ?_
          exact z_X_ret rfl
        · refine (z_X_steps (s' := (32, [(0, .ref 17), (2, .int x2), (3, .int x3), (4, .int x4)], [.int ((4 * x3) + x2), .ref (17 + 7)], h)) 7 rfl).trans ?_
          refine (z_X_if (g := z_in ((4 * x3) + x2) 16) (s' := (33, [(0, .ref 17), (2, .int x2), (3, .int x3), (4, .int x4)], [.int (h.1 (17 + 7) (((4 * x3) + x2).toNatClampNeg))], h)) rfl).trans (z_bifA ?_)
          refine (z_X_steps (s' := (35, [(0, .ref 17), (2, .int x2), (3, .int x3), (4, .int x4)], [.int (-4), .int (h.1 (17 + 7) (((4 * x3) + x2).toNatClampNeg))], h)) 1 rfl).trans ?_
          refine (z_X_br (c := h.1 (17 + 7) (((4 * x3) + x2).toNatClampNeg) = (-4)) (s1 := (49, [(0, .ref 17), (2, .int x2), (3, .int x3), (4, .int x4)], [], h)) (s2 := (38, [(0, .ref 17), (2, .int x2), (3, .int x3), (4, .int x4)], [], h)) rfl).trans (z_ite ?_ ?_)
          · refine (z_X_steps (s' := (54, [(0, .ref 17), (2, .int x2), (3, .int x3), (4, .int x4)], [.int x3, .ref (17 + 6)], h)) 3 rfl).trans ?_
            refine (z_X_if (g := z_in x3 4) (s' := (55, [(0, .ref 17), (2, .int x2), (3, .int x3), (4, .int x4)], [.int (h.1 (17 + 6) (x3.toNatClampNeg))], h)) rfl).trans (z_bifA ?_)
            refine (z_X_steps (s' := (5, [(4, .int (x4 + 1)), (3, .int (h.1 (17 + 6) (x3.toNatClampNeg))), (0, .ref 17), (2, .int x2)], [], h)) 3 rfl).trans ?_
            exact z_X_lab rfl
          · refine (z_X_steps (s' := (47, [(0, .ref 17), (2, .int x2), (3, .int x3), (4, .int x4)], [.int ((4 * x3) + x2), .ref (17 + 7)], h)) 7 rfl).trans ?_
            refine (z_X_if (g := z_in ((4 * x3) + x2) 16) (s' := (48, [(0, .ref 17), (2, .int x2), (3, .int x3), (4, .int x4)], [.int (h.1 (17 + 7) (((4 * x3) + x2).toNatClampNeg))], h)) rfl).trans (z_bifA ?_)
            exact z_X_ret rfl
  · show z_X zc_P_meantBy 1 (5, [(0, .ref 25), (2, .int x2), (3, .int x3), (4, .int x4)], [], h) = _
    refine (z_X_steps (s' := (8, [(0, .ref 25), (2, .int x2), (3, .int x3), (4, .int x4)], [.int 4, .int x4], h)) 2 rfl).trans ?_
    refine (z_X_br (c := (4 : Int32) ≤ x4) (s1 := (62, [(0, .ref 25), (2, .int x2), (3, .int x3), (4, .int x4)], [], h)) (s2 := (11, [(0, .ref 25), (2, .int x2), (3, .int x3), (4, .int x4)], [], h)) rfl).trans (z_ite ?_ ?_)
    · refine (z_X_steps (s' := (64, [(0, .ref 25), (2, .int x2), (3, .int x3), (4, .int x4)], [.int (-4)], h)) 1 rfl).trans ?_
      exact z_X_ret rfl
    · refine (z_X_steps (s' := (12, [(0, .ref 25), (2, .int x2), (3, .int x3), (4, .int x4)], [.int x3], h)) 1 rfl).trans ?_
      refine (z_X_br (c := x3 < 0) (s1 := (62, [(0, .ref 25), (2, .int x2), (3, .int x3), (4, .int x4)], [], h)) (s2 := (15, [(0, .ref 25), (2, .int x2), (3, .int x3), (4, .int x4)], [], h)) rfl).trans (z_ite ?_ ?_)
      · refine (z_X_steps (s' := (64, [(0, .ref 25), (2, .int x2), (3, .int x3), (4, .int x4)], [.int (-4)], h)) 1 rfl).trans ?_
        exact z_X_ret rfl
      · refine (z_X_steps (s' := (20, [(0, .ref 25), (2, .int x2), (3, .int x3), (4, .int x4)], [.int (h.1 25 1), .int x3], h)) 3 rfl).trans ?_
        refine (z_X_br (c := h.1 25 1 ≤ x3) (s1 := (62, [(0, .ref 25), (2, .int x2), (3, .int x3), (4, .int x4)], [], h)) (s2 := (23, [(0, .ref 25), (2, .int x2), (3, .int x3), (4, .int x4)], [], h)) rfl).trans (z_ite ?_ ?_)
        · refine (z_X_steps (s' := (64, [(0, .ref 25), (2, .int x2), (3, .int x3), (4, .int x4)], [.int (-4)], h)) 1 rfl).trans ?_
          exact z_X_ret rfl
        · refine (z_X_steps (s' := (32, [(0, .ref 25), (2, .int x2), (3, .int x3), (4, .int x4)], [.int ((4 * x3) + x2), .ref (25 + 7)], h)) 7 rfl).trans ?_
          refine (z_X_if (g := z_in ((4 * x3) + x2) 16) (s' := (33, [(0, .ref 25), (2, .int x2), (3, .int x3), (4, .int x4)], [.int (h.1 (25 + 7) (((4 * x3) + x2).toNatClampNeg))], h)) rfl).trans (z_bifA ?_)
          refine (z_X_steps (s' := (35, [(0, .ref 25), (2, .int x2), (3, .int x3), (4, .int x4)], [.int (-4), .int (h.1 (25 + 7) (((4 * x3) + x2).toNatClampNeg))], h)) 1 rfl).trans ?_
          refine (z_X_br (c := h.1 (25 + 7) (((4 * x3) + x2).toNatClampNeg) = (-4)) (s1 := (49, [(0, .ref 25), (2, .int x2), (3, .int x3), (4, .int x4)], [], h)) (s2 := (38, [(0, .ref 25), (2, .int x2), (3, .int x3), (4, .int x4)], [], h)) rfl).trans (z_ite ?_ ?_)
          · refine (z_X_steps (s' := (54, [(0, .ref 25), (2, .int x2), (3, .int x3), (4, .int x4)], [.int x3, .ref (25 + 6)], h)) 3 rfl).trans ?_
            refine (z_X_if (g := z_in x3 4) (s' := (55, [(0, .ref 25), (2, .int x2), (3, .int x3), (4, .int x4)], [.int (h.1 (25 + 6) (x3.toNatClampNeg))], h)) rfl).trans (z_bifA ?_)
            refine (z_X_steps (s' := (5, [(4, .int (x4 + 1)), (3, .int (h.1 (25 + 6) (x3.toNatClampNeg))), (0, .ref 25), (2, .int x2)], [], h)) 3 rfl).trans ?_
            exact z_X_lab rfl
          · refine (z_X_steps (s' := (47, [(0, .ref 25), (2, .int x2), (3, .int x3), (4, .int x4)], [.int ((4 * x3) + x2), .ref (25 + 7)], h)) 7 rfl).trans ?_
            refine (z_X_if (g := z_in ((4 * x3) + x2) 16) (s' := (48, [(0, .ref 25), (2, .int x2), (3, .int x3), (4, .int x4)], [.int (h.1 (25 + 7) (((4 * x3) + x2).toNatClampNeg))], h)) rfl).trans (z_bifA ?_)
            exact z_X_ret rfl
  · show z_X zc_P_meantBy 1 (5, [(0, .ref 73), (2, .int x2), (3, .int x3), (4, .int x4)], [], h) = _
    refine (z_X_steps (s' := (8, [(0, .ref 73), (2, .int x2), (3, .int x3), (4, .int x4)], [.int 4, .int x4], h)) 2 rfl).trans ?_
    refine (z_X_br (c := (4 : Int32) ≤ x4) (s1 := (62, [(0, .ref 73), (2, .int x2), (3, .int x3), (4, .int x4)], [], h)) (s2 := (11, [(0, .ref 73), (2, .int x2), (3, .int x3), (4, .int x4)], [], h)) rfl).trans (z_ite ?_ ?_)
    · refine (z_X_steps (s' := (64, [(0, .ref 73), (2, .int x2), (3, .int x3), (4, .int x4)], [.int (-4)], h)) 1 rfl).trans ?_
      exact z_X_ret rfl
    · refine (z_X_steps (s' := (12, [(0, .ref 73), (2, .int x2), (3, .int x3), (4, .int x4)], [.int x3], h)) 1 rfl).trans ?_
      refine (z_X_br (c := x3 < 0) (s1 := (62, [(0, .ref 73), (2, .int x2), (3, .int x3), (4, .int x4)], [], h)) (s2 := (15, [(0, .ref 73), (2, .int x2), (3, .int x3), (4, .int x4)], [], h)) rfl).trans (z_ite ?_ ?_)
      · refine (z_X_steps (s' := (64, [(0, .ref 73), (2, .int x2), (3, .int x3), (4, .int x4)], [.int (-4)], h)) 1 rfl).trans ?_
        exact z_X_ret rfl
      · refine (z_X_steps (s' := (20, [(0, .ref 73), (2, .int x2), (3, .int x3), (4, .int x4)], [.int (h.1 73 1), .int x3], h)) 3 rfl).trans ?_
        refine (z_X_br (c := h.1 73 1 ≤ x3) (s1 := (62, [(0, .ref 73), (2, .int x2), (3, .int x3), (4, .int x4)], [], h)) (s2 := (23, [(0, .ref 73), (2, .int x2), (3, .int x3), (4, .int x4)], [], h)) rfl).trans (z_ite ?_ ?_)
        · refine (z_X_steps (s' := (64, [(0, .ref 73), (2, .int x2), (3, .int x3), (4, .int x4)], [.int (-4)], h)) 1 rfl).trans ?_
          exact z_X_ret rfl
        · refine (z_X_steps (s' := (32, [(0, .ref 73), (2, .int x2), (3, .int x3), (4, .int x4)], [.int ((4 * x3) + x2), .ref (73 + 7)], h)) 7 rfl).trans ?_
          refine (z_X_if (g := z_in ((4 * x3) + x2) 16) (s' := (33, [(0, .ref 73), (2, .int x2), (3, .int x3), (4, .int x4)], [.int (h.1 (73 + 7) (((4 * x3) + x2).toNatClampNeg))], h)) rfl).trans (z_bifA ?_)
          refine (z_X_steps (s' := (35, [(0, .ref 73), (2, .int x2), (3, .int x3), (4, .int x4)], [.int (-4), .int (h.1 (73 + 7) (((4 * x3) + x2).toNatClampNeg))], h)) 1 rfl).trans ?_
          refine (z_X_br (c := h.1 (73 + 7) (((4 * x3) + x2).toNatClampNeg) = (-4)) (s1 := (49, [(0, .ref 73), (2, .int x2), (3, .int x3), (4, .int x4)], [], h)) (s2 := (38, [(0, .ref 73), (2, .int x2), (3, .int x3), (4, .int x4)], [], h)) rfl).trans (z_ite ?_ ?_)
          · refine (z_X_steps (s' := (54, [(0, .ref 73), (2, .int x2), (3, .int x3), (4, .int x4)], [.int x3, .ref (73 + 6)], h)) 3 rfl).trans ?_
            refine (z_X_if (g := z_in x3 4) (s' := (55, [(0, .ref 73), (2, .int x2), (3, .int x3), (4, .int x4)], [.int (h.1 (73 + 6) (x3.toNatClampNeg))], h)) rfl).trans (z_bifA ?_)
            refine (z_X_steps (s' := (5, [(4, .int (x4 + 1)), (3, .int (h.1 (73 + 6) (x3.toNatClampNeg))), (0, .ref 73), (2, .int x2)], [], h)) 3 rfl).trans ?_
            exact z_X_lab rfl
          · refine (z_X_steps (s' := (47, [(0, .ref 73), (2, .int x2), (3, .int x3), (4, .int x4)], [.int ((4 * x3) + x2), .ref (73 + 7)], h)) 7 rfl).trans ?_
            refine (z_X_if (g := z_in ((4 * x3) + x2) 16) (s' := (48, [(0, .ref 73), (2, .int x2), (3, .int x3), (4, .int x4)], [.int (h.1 (73 + 7) (((4 * x3) + x2).toNatClampNeg))], h)) rfl).trans (z_bifA ?_)
            exact z_X_ret rfl
  · show z_X zc_P_meantBy 1 (5, [(0, .ref 81), (2, .int x2), (3, .int x3), (4, .int x4)], [], h) = _
    refine (z_X_steps (s' := (8, [(0, .ref 81), (2, .int x2), (3, .int x3), (4, .int x4)], [.int 4, .int x4], h)) 2 rfl).trans ?_
    refine (z_X_br (c := (4 : Int32) ≤ x4) (s1 := (62, [(0, .ref 81), (2, .int x2), (3, .int x3), (4, .int x4)], [], h)) (s2 := (11, [(0, .ref 81), (2, .int x2), (3, .int x3), (4, .int x4)], [], h)) rfl).trans (z_ite ?_ ?_)
    · refine (z_X_steps (s' := (64, [(0, .ref 81), (2, .int x2), (3, .int x3), (4, .int x4)], [.int (-4)], h)) 1 rfl).trans ?_
      exact z_X_ret rfl
    · refine (z_X_steps (s' := (12, [(0, .ref 81), (2, .int x2), (3, .int x3), (4, .int x4)], [.int x3], h)) 1 rfl).trans ?_
      refine (z_X_br (c := x3 < 0) (s1 := (62, [(0, .ref 81), (2, .int x2), (3, .int x3), (4, .int x4)], [], h)) (s2 := (15, [(0, .ref 81), (2, .int x2), (3, .int x3), (4, .int x4)], [], h)) rfl).trans (z_ite ?_ ?_)
      · refine (z_X_steps (s' := (64, [(0, .ref 81), (2, .int x2), (3, .int x3), (4, .int x4)], [.int (-4)], h)) 1 rfl).trans ?_
        exact z_X_ret rfl
      · refine (z_X_steps (s' := (20, [(0, .ref 81), (2, .int x2), (3, .int x3), (4, .int x4)], [.int (h.1 81 1), .int x3], h)) 3 rfl).trans ?_
        refine (z_X_br (c := h.1 81 1 ≤ x3) (s1 := (62, [(0, .ref 81), (2, .int x2), (3, .int x3), (4, .int x4)], [], h)) (s2 := (23, [(0, .ref 81), (2, .int x2), (3, .int x3), (4, .int x4)], [], h)) rfl).trans (z_ite ?_ ?_)
        · refine (z_X_steps (s' := (64, [(0, .ref 81), (2, .int x2), (3, .int x3), (4, .int x4)], [.int (-4)], h)) 1 rfl).trans ?_
          exact z_X_ret rfl
        · refine (z_X_steps (s' := (32, [(0, .ref 81), (2, .int x2), (3, .int x3), (4, .int x4)], [.int ((4 * x3) + x2), .ref (81 + 7)], h)) 7 rfl).trans ?_
          refine (z_X_if (g := z_in ((4 * x3) + x2) 16) (s' := (33, [(0, .ref 81), (2, .int x2), (3, .int x3), (4, .int x4)], [.int (h.1 (81 + 7) (((4 * x3) + x2).toNatClampNeg))], h)) rfl).trans (z_bifA ?_)
          refine (z_X_steps (s' := (35, [(0, .ref 81), (2, .int x2), (3, .int x3), (4, .int x4)], [.int (-4), .int (h.1 (81 + 7) (((4 * x3) + x2).toNatClampNeg))], h)) 1 rfl).trans ?_
          refine (z_X_br (c := h.1 (81 + 7) (((4 * x3) + x2).toNatClampNeg) = (-4)) (s1 := (49, [(0, .ref 81), (2, .int x2), (3, .int x3), (4, .int x4)], [], h)) (s2 := (38, [(0, .ref 81), (2, .int x2), (3, .int x3), (4, .int x4)], [], h)) rfl).trans (z_ite ?_ ?_)
          · refine (z_X_steps (s' := (54, [(0, .ref 81), (2, .int x2), (3, .int x3), (4, .int x4)], [.int x3, .ref (81 + 6)], h)) 3 rfl).trans ?_
            refine (z_X_if (g := z_in x3 4) (s' := (55, [(0, .ref 81), (2, .int x2), (3, .int x3), (4, .int x4)], [.int (h.1 (81 + 6) (x3.toNatClampNeg))], h)) rfl).trans (z_bifA ?_)
            refine (z_X_steps (s' := (5, [(4, .int (x4 + 1)), (3, .int (h.1 (81 + 6) (x3.toNatClampNeg))), (0, .ref 81), (2, .int x2)], [], h)) 3 rfl).trans ?_
            exact z_X_lab rfl
          · refine (z_X_steps (s' := (47, [(0, .ref 81), (2, .int x2), (3, .int x3), (4, .int x4)], [.int ((4 * x3) + x2), .ref (81 + 7)], h)) 7 rfl).trans ?_
            refine (z_X_if (g := z_in ((4 * x3) + x2) 16) (s' := (48, [(0, .ref 81), (2, .int x2), (3, .int x3), (4, .int x4)], [.int (h.1 (81 + 7) (((4 * x3) + x2).toNatClampNeg))], h)) rfl).trans (z_bifA ?_)
            exact z_X_ret rfl
  · show z_X zc_P_meantBy 1 (5, [(0, .ref 94), (2, .int x2), (3, .int x3), (4, .int x4)], [], h) = _
    refine (z_X_steps (s' := (8, [(0, .ref 94), (2, .int x2), (3, .int x3), (4, .int x4)], [.int 4, .int x4], h)) 2 rfl).trans ?_
    refine (z_X_br (c := (4 : Int32) ≤ x4) (s1 := (62, [(0, .ref 94), (2, .int x2), (3, .int x3), (4, .int x4)], [], h)) (s2 := (11, [(0, .ref 94), (2, .int x2), (3, .int x3), (4, .int x4)], [], h)) rfl).trans (z_ite ?_ ?_)
    · refine (z_X_steps (s' := (64, [(0, .ref 94), (2, .int x2), (3, .int x3), (4, .int x4)], [.int (-4)], h)) 1 rfl).trans ?_
      exact z_X_ret rfl
    · refine (z_X_steps (s' := (12, [(0, .ref 94), (2, .int x2), (3, .int x3), (4, .int x4)], [.int x3], h)) 1 rfl).trans ?_
      refine (z_X_br (c := x3 < 0) (s1 := (62, [(0, .ref 94), (2, .int x2), (3, .int x3), (4, .int x4)], [], h)) (s2 := (15, [(0, .ref 94), (2, .int x2), (3, .int x3), (4, .int x4)], [], h)) rfl).trans (z_ite ?_ ?_)
      · refine (z_X_steps (s' := (64, [(0, .ref 94), (2, .int x2), (3, .int x3), (4, .int x4)], [.int (-4)], h)) 1 rfl).trans ?_
        exact z_X_ret rfl
      · refine (z_X_steps (s' := (20, [(0, .ref 94), (2, .int x2), (3, .int x3), (4, .int x4)], [.int (h.1 94 1), .int x3], h)) 3 rfl).trans ?_
        refine (z_X_br (c := h.1 94 1 ≤ x3) (s1 := (62, [(0, .ref 94), (2, .int x2), (3, .int x3), (4, .int x4)], [], h)) (s2 := (23, [(0, .ref 94), (2, .int x2), (3, .int x3), (4, .int x4)], [], h)) rfl).trans (z_ite ?_ ?_)
        · refine (z_X_steps (s' := (64, [(0, .ref 94), (2, .int x2), (3, .int x3), (4, .int x4)], [.int (-4)], h)) 1 rfl).trans ?_
          exact z_X_ret rfl
        · refine (z_X_steps (s' := (32, [(0, .ref 94), (2, .int x2), (3, .int x3), (4, .int x4)], [.int ((4 * x3) + x2), .ref (94 + 7)], h)) 7 rfl).trans ?_
          refine (z_X_if (g := z_in ((4 * x3) + x2) 16) (s' := (33, [(0, .ref 94), (2, .int x2), (3, .int x3), (4, .int x4)], [.int (h.1 (94 + 7) (((4 * x3) + x2).toNatClampNeg))], h)) rfl).trans (z_bifA ?_)
          refine (z_X_steps (s' := (35, [(0, .ref 94), (2, .int x2), (3, .int x3), (4, .int x4)], [.int (-4), .int (h.1 (94 + 7) (((4 * x3) + x2).toNatClampNeg))], h)) 1 rfl).trans ?_
          refine (z_X_br (c := h.1 (94 + 7) (((4 * x3) + x2).toNatClampNeg) = (-4)) (s1 := (49, [(0, .ref 94), (2, .int x2), (3, .int x3), (4, .int x4)], [], h)) (s2 := (38, [(0, .ref 94), (2, .int x2), (3, .int x3), (4, .int x4)], [], h)) rfl).trans (z_ite ?_ ?_)
          · refine (z_X_steps (s' := (54, [(0, .ref 94), (2, .int x2), (3, .int x3), (4, .int x4)], [.int x3, .ref (94 + 6)], h)) 3 rfl).trans ?_
            refine (z_X_if (g := z_in x3 4) (s' := (55, [(0, .ref 94), (2, .int x2), (3, .int x3), (4, .int x4)], [.int (h.1 (94 + 6) (x3.toNatClampNeg))], h)) rfl).trans (z_bifA ?_)
            refine (z_X_steps (s' := (5, [(4, .int (x4 + 1)), (3, .int (h.1 (94 + 6) (x3.toNatClampNeg))), (0, .ref 94), (2, .int x2)], [], h)) 3 rfl).trans ?_
            exact z_X_lab rfl
          · refine (z_X_steps (s' := (47, [(0, .ref 94), (2, .int x2), (3, .int x3), (4, .int x4)], [.int ((4 * x3) + x2), .ref (94 + 7)], h)) 7 rfl).trans ?_
            refine (z_X_if (g := z_in ((4 * x3) + x2) 16) (s' := (48, [(0, .ref 94), (2, .int x2), (3, .int x3), (4, .int x4)], [.int (h.1 (94 + 7) (((4 * x3) + x2).toNatClampNeg))], h)) rfl).trans (z_bifA ?_)
            exact z_X_ret rfl
  · show z_X zc_P_meantBy 1 (5, [(0, .ref 102), (2, .int x2), (3, .int x3), (4, .int x4)], [], h) = _
    refine (z_X_steps (s' := (8, [(0, .ref 102), (2, .int x2), (3, .int x3), (4, .int x4)], [.int 4, .int x4], h)) 2 rfl).trans ?_
    refine (z_X_br (c := (4 : Int32) ≤ x4) (s1 := (62, [(0, .ref 102), (2, .int x2), (3, .int x3), (4, .int x4)], [], h)) (s2 := (11, [(0, .ref 102), (2, .int x2), (3, .int x3), (4, .int x4)], [], h)) rfl).trans (z_ite ?_ ?_)
    · refine (z_X_steps (s' := (64, [(0, .ref 102), (2, .int x2), (3, .int x3), (4, .int x4)], [.int (-4)], h)) 1 rfl).trans ?_
      exact z_X_ret rfl
    · refine (z_X_steps (s' := (12, [(0, .ref 102), (2, .int x2), (3, .int x3), (4, .int x4)], [.int x3], h)) 1 rfl).trans ?_
      refine (z_X_br (c := x3 < 0) (s1 := (62, [(0, .ref 102), (2, .int x2), (3, .int x3), (4, .int x4)], [], h)) (s2 := (15, [(0, .ref 102), (2, .int x2), (3, .int x3), (4, .int x4)], [], h)) rfl).trans (z_ite ?_ ?_)
      · refine (z_X_steps (s' := (64, [(0, .ref 102), (2, .int x2), (3, .int x3), (4, .int x4)], [.int (-4)], h)) 1 rfl).trans ?_
        exact z_X_ret rfl
      · refine (z_X_steps (s' := (20, [(0, .ref 102), (2, .int x2), (3, .int x3), (4, .int x4)], [.int (h.1 102 1), .int x3], h)) 3 rfl).trans ?_
        refine (z_X_br (c := h.1 102 1 ≤ x3) (s1 := (62, [(0, .ref 102), (2, .int x2), (3, .int x3), (4, .int x4)], [], h)) (s2 := (23, [(0, .ref 102), (2, .int x2), (3, .int x3), (4, .int x4)], [], h)) rfl).trans (z_ite ?_ ?_)
        · refine (z_X_steps (s' := (64, [(0, .ref 102), (2, .int x2), (3, .int x3), (4, .int x4)], [.int (-4)], h)) 1 rfl).trans ?_
          exact z_X_ret rfl
        · refine (z_X_steps (s' := (32, [(0, .ref 102), (2, .int x2), (3, .int x3), (4, .int x4)], [.int ((4 * x3) + x2), .ref (102 + 7)], h)) 7 rfl).trans ?_
          refine (z_X_if (g := z_in ((4 * x3) + x2) 16) (s' := (33, [(0, .ref 102), (2, .int x2), (3, .int x3), (4, .int x4)], [.int (h.1 (102 + 7) (((4 * x3) + x2).toNatClampNeg))], h)) rfl).trans (z_bifA ?_)
          refine (z_X_steps (s' := (35, [(0, .ref 102), (2, .int x2), (3, .int x3), (4, .int x4)], [.int (-4), .int (h.1 (102 + 7) (((4 * x3) + x2).toNatClampNeg))], h)) 1 rfl).trans ?_
          refine (z_X_br (c := h.1 (102 + 7) (((4 * x3) + x2).toNatClampNeg) = (-4)) (s1 := (49, [(0, .ref 102), (2, .int x2), (3, .int x3), (4, .int x4)], [], h)) (s2 := (38, [(0, .ref 102), (2, .int x2), (3, .int x3), (4, .int x4)], [], h)) rfl).trans (z_ite ?_ ?_)
          · refine (z_X_steps (s' := (54, [(0, .ref 102), (2, .int x2), (3, .int x3), (4, .int x4)], [.int x3, .ref (102 + 6)], h)) 3 rfl).trans ?_
            refine (z_X_if (g := z_in x3 4) (s' := (55, [(0, .ref 102), (2, .int x2), (3, .int x3), (4, .int x4)], [.int (h.1 (102 + 6) (x3.toNatClampNeg))], h)) rfl).trans (z_bifA ?_)
            refine (z_X_steps (s' := (5, [(4, .int (x4 + 1)), (3, .int (h.1 (102 + 6) (x3.toNatClampNeg))), (0, .ref 102), (2, .int x2)], [], h)) 3 rfl).trans ?_
            exact z_X_lab rfl
          · refine (z_X_steps (s' := (47, [(0, .ref 102), (2, .int x2), (3, .int x3), (4, .int x4)], [.int ((4 * x3) + x2), .ref (102 + 7)], h)) 7 rfl).trans ?_
            refine (z_X_if (g := z_in ((4 * x3) + x2) 16) (s' := (48, [(0, .ref 102), (2, .int x2), (3, .int x3), (4, .int x4)], [.int (h.1 (102 + 7) (((4 * x3) + x2).toNatClampNeg))], h)) rfl).trans (z_bifA ?_)
            exact z_X_ret rfl
set_option maxRecDepth 8000 in
set_option maxHeartbeats 2000000 in
theorem e_P_partOf {o : Nat} (hi : o ∈ [4, 17, 25, 73, 81, 94, 102]) (x1 : Int32) (x2 : Int32) (x3 : Int32) (h : z_H) : z_M 80 [.ref o, .int x1, .int x2, .int x3] h = z_bd (z_M 42 [.int x1, .int x2] h) (fun r1 h2 => (if x3 = 0 then (bif z_in r1 48 then some (h2.1 (o + 2) (r1.toNatClampNeg), h2) else none) else (if x3 = 1 then (bif z_in r1 48 then some (h2.1 (o + 3) (r1.toNatClampNeg), h2) else none) else (if x3 = 2 then (bif z_in r1 48 then some (h2.1 (o + 4) (r1.toNatClampNeg), h2) else none) else (if x3 = 3 then z_bd (z_M 75 [.ref o, .int x1, .int x2, .int 0] h2) (fun r3 h4 => some (r3, h4)) else z_bd (z_M 75 [.ref o, .int x1, .int x2, .int 1] h2) (fun r5 h6 => some (r5, h6))))))) := by
  refine (z_M_eq (by decide)).trans ?_
  simp only [List.mem_cons, List.not_mem_nil, or_false, Prod.mk.injEq] at hi
  rcases hi with rfl | rfl | rfl | rfl | rfl | rfl | rfl
  · show z_X zc_P_partOf 3 (0, [(0, .ref 4), (1, .int x1), (2, .int x2), (3, .int x3)], [], h) = _
    refine (z_X_steps (s' := (2, [(0, .ref 4), (1, .int x1), (2, .int x2), (3, .int x3)], [.int x2, .int x1], h)) 2 rfl).trans ?_
    refine (z_X_call (id := 42) (a := [.int x1, .int x2]) (c := 1) (s' := (5, [(0, .ref 4), (1, .int x1), (2, .int x2), (3, .int x3)], [], h)) rfl ⟨Nat.le_of_ble_eq_true rfl, Nat.le_of_ble_eq_true rfl⟩).trans ?_
    refine z_bdc fun r1 h2 => ?_
    refine (z_X_steps (s' := (8, [(4, .int r1), (0, .ref 4), (1, .int x1), (2, .int x2), (3, .int x3)], [.int x3], h2)) 2 rfl).trans ?_
    refine (z_X_sw (d := (72, [(4, .int r1), (0, .ref 4), (1, .int x1), (2, .int x2), (3, .int x3)], [], h2)) (x := x3) (lo := [(4, .int r1), (0, .ref 4), (1, .int x1), (2, .int x2), (3, .int x3)]) (stk := []) (h := h2) (sw := [(0, 40), (1, 48), (2, 56), (3, 64)]) rfl).trans ?_
    refine z_ite ?_ ?_
    · refine (z_X_steps (s' := (46, [(4, .int r1), (0, .ref 4), (1, .int x1), (2, .int x2), (3, .int x3)], [.int r1, .ref (4 + 2)], h2)) 3 rfl).trans ?_
      refine (z_X_if (g := z_in r1 48) (s' := (47, [(4, .int r1), (0, .ref 4), (1, .int x1), (2, .int x2), (3, .int x3)], [.int (h2.1 (4 + 2) (r1.toNatClampNeg))], h2)) rfl).trans (z_bifA ?_)
      exact z_X_ret rfl
    refine z_ite ?_ ?_
    · refine (z_X_steps (s' := (54, [(4, .int r1), (0, .ref 4), (1, .int x1), (2, .int x2), (3, .int x3)], [.int r1, .ref (4 + 3)], h2)) 3 rfl).trans ?_
      refine (z_X_if (g := z_in r1 48) (s' := (55, [(4, .int r1), (0, .ref 4), (1, .int x1), (2, .int x2), (3, .int x3)], [.int (h2.1 (4 + 3) (r1.toNatClampNeg))], h2)) rfl).trans (z_bifA ?_)
      exact z_X_ret rfl
    refine z_ite ?_ ?_
    · refine (z_X_steps (s' := (62, [(4, .int r1), (0, .ref 4), (1, .int x1), (2, .int x2), (3, .int x3)], [.int r1, .ref (4 + 4)], h2)) 3 rfl).trans ?_
      refine (z_X_if (g := z_in r1 48) (s' := (63, [(4, .int r1), (0, .ref 4), (1, .int x1), (2, .int x2), (3, .int x3)], [.int (h2.1 (4 + 4) (r1.toNatClampNeg))], h2)) rfl).trans (z_bifA ?_)
      exact z_X_ret rfl
    refine z_ite ?_ ?_
    · refine (z_X_steps (s' := (68, [(4, .int r1), (0, .ref 4), (1, .int x1), (2, .int x2), (3, .int x3)], [.int 0, .int x2, .int x1, .ref 4], h2)) 4 rfl).trans ?_
      refine (z_X_call (id := 75) (a := [.ref 4, .int x1, .int x2, .int 0]) (c := 1) (s' := (71, [(4, .int r1), (0, .ref 4), (1, .int x1), (2, .int x2), (3, .int x3)], [], h2)) rfl ⟨Nat.le_of_ble_eq_true rfl, Nat.le_of_ble_eq_true rfl⟩).trans ?_
      refine z_bdc fun r3 h4 => ?_
      exact z_X_ret rfl
    refine (z_X_steps (s' := (76, [(4, .int r1), (0, .ref 4), (1, .int x1), (2, .int x2), (3, .int x3)], [.int 1, .int x2, .int x1, .ref 4], h2)) 4 rfl).trans ?_
    refine (z_X_call (id := 75) (a := [.ref 4, .int x1, .int x2, .int 1]) (c := 1) (s' := (79, [(4, .int r1), (0, .ref 4), (1, .int x1), (2, .int x2), (3, .int x3)], [], h2)) rfl ⟨Nat.le_of_ble_eq_true rfl, Nat.le_of_ble_eq_true rfl⟩).trans ?_
    refine z_bdc fun r5 h6 => ?_
    exact z_X_ret rfl
  · show z_X zc_P_partOf 3 (0, [(0, .ref 17), (1, .int x1), (2, .int x2), (3, .int x3)], [], h) = _
    refine (z_X_steps (s' := (2, [(0, .ref 17), (1, .int x1), (2, .int x2), (3, .int x3)], [.int x2, .int x1], h)) 2 rfl).trans ?_
    refine (z_X_call (id := 42) (a := [.int x1, .int x2]) (c := 1) (s' := (5, [(0, .ref 17), (1, .int x1), (2, .int x2), (3, .int x3)], [], h)) rfl ⟨Nat.le_of_ble_eq_true rfl, Nat.le_of_ble_eq_true rfl⟩).trans ?_
    refine z_bdc fun r1 h2 => ?_
    refine (z_X_steps (s' := (8, [(4, .int r1), (0, .ref 17), (1, .int x1), (2, .int x2), (3, .int x3)], [.int x3], h2)) 2 rfl).trans ?_
    refine (z_X_sw (d := (72, [(4, .int r1), (0, .ref 17), (1, .int x1), (2, .int x2), (3, .int x3)], [], h2)) (x := x3) (lo := [(4, .int r1), (0, .ref 17), (1, .int x1), (2, .int x2), (3, .int x3)]) (stk := []) (h := h2) (sw := [(0, 40), (1, 48), (2, 56), (3, 64)]) rfl).trans ?_
    refine z_ite ?_ ?_
    · refine (z_X_steps (s' := (46, [(4, .int r1), (0, .ref 17), (1, .int x1), (2, .int x2), (3, .int x3)], [.int r1, .ref (17 + 2)], h2)) 3 rfl).trans ?_
      refine (z_X_if (g := z_in r1 48) (s' := (47, [(4, .int r1), (0, .ref 17), (1, .int x1), (2, .int x2), (3, .int x3)], [.int (h2.1 (17 + 2) (r1.toNatClampNeg))], h2)) rfl).trans (z_bifA ?_)
      exact z_X_ret rfl
    refine z_ite ?_ ?_
    · refine (z_X_steps (s' := (54, [(4, .int r1), (0, .ref 17), (1, .int x1), (2, .int x2), (3, .int x3)], [.int r1, .ref (17 + 3)], h2)) 3 rfl).trans ?_
      refine (z_X_if (g := z_in r1 48) (s' := (55, [(4, .int r1), (0, .ref 17), (1, .int x1), (2, .int x2), (3, .int x3)], [.int (h2.1 (17 + 3) (r1.toNatClampNeg))], h2)) rfl).trans (z_bifA ?_)
      exact z_X_ret rfl
    refine z_ite ?_ ?_
    · refine (z_X_steps (s' := (62, [(4, .int r1), (0, .ref 17), (1, .int x1), (2, .int x2), (3, .int x3)], [.int r1, .ref (17 + 4)], h2)) 3 rfl).trans ?_
      refine (z_X_if (g := z_in r1 48) (s' := (63, [(4, .int r1), (0, .ref 17), (1, .int x1), (2, .int x2), (3, .int x3)], [.int (h2.1 (17 + 4) (r1.toNatClampNeg))], h2)) rfl).trans (z_bifA ?_)
      exact z_X_ret rfl
    refine z_ite ?_ ?_
    · refine (z_X_steps (s' := (68, [(4, .int r1), (0, .ref 17), (1, .int x1), (2, .int x2), (3, .int x3)], [.int 0, .int x2, .int x1, .ref 17], h2)) 4 rfl).trans ?_
      refine (z_X_call (id := 75) (a := [.ref 17, .int x1, .int x2, .int 0]) (c := 1) (s' := (71, [(4, .int r1), (0, .ref 17), (1, .int x1), (2, .int x2), (3, .int x3)], [], h2)) rfl ⟨Nat.le_of_ble_eq_true rfl, Nat.le_of_ble_eq_true rfl⟩).trans ?_
      refine z_bdc fun r3 h4 => ?_
      exact z_X_ret rfl
    refine (z_X_steps (s' := (76, [(4, .int r1), (0, .ref 17), (1, .int x1), (2, .int x2), (3, .int x3)], [.int 1, .int x2, .int x1, .ref 17], h2)) 4 rfl).trans ?_
    refine (z_X_call (id := 75) (a := [.ref 17, .int x1, .int x2, .int 1]) (c := 1) (s' := (79, [(4, .int r1), (0, .ref 17), (1, .int x1), (2, .int x2), (3, .int x3)], [], h2)) rfl ⟨Nat.le_of_ble_eq_true rfl, Nat.le_of_ble_eq_true rfl⟩).trans ?_
    refine z_bdc fun r5 h6 => ?_
    exact z_X_ret rfl
  · show z_X zc_P_partOf 3 (0, [(0, .ref 25), (1, .int x1), (2, .int x2), (3, .int x3)], [], h) = _
    refine (z_X_steps (s' := (2, [(0, .ref 25), (1, .int x1), (2, .int x2), (3, .int x3)], [.int x2, .int x1], h)) 2 rfl).trans ?_
    refine (z_X_call (id := 42) (a := [.int x1, .int x2]) (c := 1) (s' := (5, [(0, .ref 25), (1, .int x1), (2, .int x2), (3, .int x3)], [], h)) rfl ⟨Nat.le_of_ble_eq_true rfl, Nat.le_of_ble_eq_true rfl⟩).trans ?_
    refine z_bdc fun r1 h2 => ?_
    refine (z_X_steps (s' := (8, [(4, .int r1), (0, .ref 25), (1, .int x1), (2, .int x2), (3, .int x3)], [.int x3], h2)) 2 rfl).trans ?_
    refine (z_X_sw (d := (72, [(4, .int r1), (0, .ref 25), (1, .int x1), (2, .int x2), (3, .int x3)], [], h2)) (x := x3) (lo := [(4, .int r1), (0, .ref 25), (1, .int x1), (2, .int x2), (3, .int x3)]) (stk := []) (h := h2) (sw := [(0, 40), (1, 48), (2, 56), (3, 64)]) rfl).trans ?_
    refine z_ite ?_ ?_
    · refine (z_X_steps (s' := (46, [(4, .int r1), (0, .ref 25), (1, .int x1), (2, .int x2), (3, .int x3)], [.int r1, .ref (25 + 2)], h2)) 3 rfl).trans ?_
      refine (z_X_if (g := z_in r1 48) (s' := (47, [(4, .int r1), (0, .ref 25), (1, .int x1), (2, .int x2), (3, .int x3)], [.int (h2.1 (25 + 2) (r1.toNatClampNeg))], h2)) rfl).trans (z_bifA ?_)
      exact z_X_ret rfl
    refine z_ite ?_ ?_
    · refine (z_X_steps (s' := (54, [(4, .int r1), (0, .ref 25), (1, .int x1), (2, .int x2), (3, .int x3)], [.int r1, .ref (25 + 3)], h2)) 3 rfl).trans ?_
      refine (z_X_if (g := z_in r1 48) (s' := (55, [(4, .int r1), (0, .ref 25), (1, .int x1), (2, .int x2), (3, .int x3)], [.int (h2.1 (25 + 3) (r1.toNatClampNeg))], h2)) rfl).trans (z_bifA ?_)
      exact z_X_ret rfl
    refine z_ite ?_ ?_
    · refine (z_X_steps (s' := (62, [(4, .int r1), (0, .ref 25), (1, .int x1), (2, .int x2), (3, .int x3)], [.int r1, .ref (25 + 4)], h2)) 3 rfl).trans ?_
      refine (z_X_if (g := z_in r1 48) (s' := (63, [(4, .int r1), (0, .ref 25), (1, .int x1), (2, .int x2), (3, .int x3)], [.int (h2.1 (25 + 4) (r1.toNatClampNeg))], h2)) rfl).trans (z_bifA ?_)
      exact z_X_ret rfl
    refine z_ite ?_ ?_
    · refine (z_X_steps (s' := (68, [(4, .int r1), (0, .ref 25), (1, .int x1), (2, .int x2), (3, .int x3)], [.int 0, .int x2, .int x1, .ref 25], h2)) 4 rfl).trans ?_
      refine (z_X_call (id := 75) (a := [.ref 25, .int x1, .int x2, .int 0]) (c := 1) (s' := (71, [(4, .int r1), (0, .ref 25), (1, .int x1), (2, .int x2), (3, .int x3)], [], h2)) rfl ⟨Nat.le_of_ble_eq_true rfl, Nat.le_of_ble_eq_true rfl⟩).trans ?_
      refine z_bdc fun r3 h4 => ?_
      exact z_X_ret rfl
    refine (z_X_steps (s' := (76, [(4, .int r1), (0, .ref 25), (1, .int x1), (2, .int x2), (3, .int x3)], [.int 1, .int x2, .int x1, .ref 25], h2)) 4 rfl).trans ?_
    refine (z_X_call (id := 75) (a := [.ref 25, .int x1, .int x2, .int 1]) (c := 1) (s' := (79, [(4, .int r1), (0, .ref 25), (1, .int x1), (2, .int x2), (3, .int x3)], [], h2)) rfl ⟨Nat.le_of_ble_eq_true rfl, Nat.le_of_ble_eq_true rfl⟩).trans ?_
    refine z_bdc fun r5 h6 => ?_
    exact z_X_ret rfl
  · show z_X zc_P_partOf 3 (0, [(0, .ref 73), (1, .int x1), (2, .int x2), (3, .int x3)], [], h) = _
    refine (z_X_steps (s' := (2, [(0, .ref 73), (1, .int x1), (2, .int x2), (3, .int x3)], [.int x2, .int x1], h)) 2 rfl).trans ?_
    refine (z_X_call (id := 42) (a := [.int x1, .int x2]) (c := 1) (s' := (5, [(0, .ref 73), (1, .int x1), (2, .int x2), (3, .int x3)], [], h)) rfl ⟨Nat.le_of_ble_eq_true rfl, Nat.le_of_ble_eq_true rfl⟩).trans ?_
    refine z_bdc fun r1 h2 => ?_
    refine (z_X_steps (s' := (8, [(4, .int r1), (0, .ref 73), (1, .int x1), (2, .int x2), (3, .int x3)], [.int x3], h2)) 2 rfl).trans ?_
    refine (z_X_sw (d := (72, [(4, .int r1), (0, .ref 73), (1, .int x1), (2, .int x2), (3, .int x3)], [], h2)) (x := x3) (lo := [(4, .int r1), (0, .ref 73), (1, .int x1), (2, .int x2), (3, .int x3)]) (stk := []) (h := h2) (sw := [(0, 40), (1, 48), (2, 56), (3, 64)]) rfl).trans ?_
    refine z_ite ?_ ?_
    · refine (z_X_steps (s' := (46, [(4, .int r1), (0, .ref 73), (1, .int x1), (2, .int x2), (3, .int x3)], [.int r1, .ref (73 + 2)], h2)) 3 rfl).trans ?_
      refine (z_X_if (g := z_in r1 48) (s' := (47, [(4, .int r1), (0, .ref 73), (1, .int x1), (2, .int x2), (3, .int x3)], [.int (h2.1 (73 + 2) (r1.toNatClampNeg))], h2)) rfl).trans (z_bifA ?_)
      exact z_X_ret rfl
    refine z_ite ?_ ?_
    · refine (z_X_steps (s' := (54, [(4, .int r1), (0, .ref 73), (1, .int x1), (2, .int x2), (3, .int x3)], [.int r1, .ref (73 + 3)], h2)) 3 rfl).trans ?_
      refine (z_X_if (g := z_in r1 48) (s' := (55, [(4, .int r1), (0, .ref 73), (1, .int x1), (2, .int x2), (3, .int x3)], [.int (h2.1 (73 + 3) (r1.toNatClampNeg))], h2)) rfl).trans (z_bifA ?_)
      exact z_X_ret rfl
    refine z_ite ?_ ?_
    · refine (z_X_steps (s' := (62, [(4, .int r1), (0, .ref 73), (1, .int x1), (2, .int x2), (3, .int x3)], [.int r1, .ref (73 + 4)], h2)) 3 rfl).trans ?_
      refine (z_X_if (g := z_in r1 48) (s' := (63, [(4, .int r1), (0, .ref 73), (1, .int x1), (2, .int x2), (3, .int x3)], [.int (h2.1 (73 + 4) (r1.toNatClampNeg))], h2)) rfl).trans (z_bifA ?_)
      exact z_X_ret rfl
    refine z_ite ?_ ?_
    · refine (z_X_steps (s' := (68, [(4, .int r1), (0, .ref 73), (1, .int x1), (2, .int x2), (3, .int x3)], [.int 0, .int x2, .int x1, .ref 73], h2)) 4 rfl).trans ?_
      refine (z_X_call (id := 75) (a := [.ref 73, .int x1, .int x2, .int 0]) (c := 1) (s' := (71, [(4, .int r1), (0, .ref 73), (1, .int x1), (2, .int x2), (3, .int x3)], [], h2)) rfl ⟨Nat.le_of_ble_eq_true rfl, Nat.le_of_ble_eq_true rfl⟩).trans ?_
      refine z_bdc fun r3 h4 => ?_
      exact z_X_ret rfl
    refine (z_X_steps (s' := (76, [(4, .int r1), (0, .ref 73), (1, .int x1), (2, .int x2), (3, .int x3)], [.int 1, .int x2, .int x1, .ref 73], h2)) 4 rfl).trans ?_
    refine (z_X_call (id := 75) (a := [.ref 73, .int x1, .int x2, .int 1]) (c := 1) (s' := (79, [(4, .int r1), (0, .ref 73), (1, .int x1), (2, .int x2), (3, .int x3)], [], h2)) rfl ⟨Nat.le_of_ble_eq_true rfl, Nat.le_of_ble_eq_true rfl⟩).trans ?_
    refine z_bdc fun r5 h6 => ?_
    exact z_X_ret rfl
  · show z_X zc_P_partOf 3 (0, [(0, .ref 81), (1, .int x1), (2, .int x2), (3, .int x3)], [], h) = _
    refine (z_X_steps (s' := (2, [(0, .ref 81), (1, .int x1), (2, .int x2), (3, .int x3)], [.int x2, .int x1], h)) 2 rfl).trans ?_
    refine (z_X_call (id := 42) (a := [.int x1, .int x2]) (c := 1) (s' := (5, [(0, .ref 81), (1, .int x1), (2, .int x2), (3, .int x3)], [], h)) rfl ⟨Nat.le_of_ble_eq_true rfl, Nat.le_of_ble_eq_true rfl⟩).trans ?_
    refine z_bdc fun r1 h2 => ?_
    refine (z_X_steps (s' := (8, [(4, .int r1), (0, .ref 81), (1, .int x1), (2, .int x2), (3, .int x3)], [.int x3], h2)) 2 rfl).trans ?_
    refine (z_X_sw (d := (72, [(4, .int r1), (0, .ref 81), (1, .int x1), (2, .int x2), (3, .int x3)], [], h2)) (x := x3) (lo := [(4, .int r1), (0, .ref 81), (1, .int x1), (2, .int x2), (3, .int x3)]) (stk := []) (h := h2) (sw := [(0, 40), (1, 48), (2, 56), (3, 64)]) rfl).trans ?_
    refine z_ite ?_ ?_
    · refine (z_X_steps (s' := (46, [(4, .int r1), (0, .ref 81), (1, .int x1), (2, .int x2), (3, .int x3)], [.int r1, .ref (81 + 2)], h2)) 3 rfl).trans ?_
      refine (z_X_if (g := z_in r1 48) (s' := (47, [(4, .int r1), (0, .ref 81), (1, .int x1), (2, .int x2), (3, .int x3)], [.int (h2.1 (81 + 2) (r1.toNatClampNeg))], h2)) rfl).trans (z_bifA ?_)
      exact z_X_ret rfl
    refine z_ite ?_ ?_
    · refine (z_X_steps (s' := (54, [(4, .int r1), (0, .ref 81), (1, .int x1), (2, .int x2), (3, .int x3)], [.int r1, .ref (81 + 3)], h2)) 3 rfl).trans ?_
      refine (z_X_if (g := z_in r1 48) (s' := (55, [(4, .int r1), (0, .ref 81), (1, .int x1), (2, .int x2), (3, .int x3)], [.int (h2.1 (81 + 3) (r1.toNatClampNeg))], h2)) rfl).trans (z_bifA ?_)
      exact z_X_ret rfl
    refine z_ite ?_ ?_
    · refine (z_X_steps (s' := (62, [(4, .int r1), (0, .ref 81), (1, .int x1), (2, .int x2), (3, .int x3)], [.int r1, .ref (81 + 4)], h2)) 3 rfl).trans ?_
      refine (z_X_if (g := z_in r1 48) (s' := (63, [(4, .int r1), (0, .ref 81), (1, .int x1), (2, .int x2), (3, .int x3)], [.int (h2.1 (81 + 4) (r1.toNatClampNeg))], h2)) rfl).trans (z_bifA ?_)
      exact z_X_ret rfl
    refine z_ite ?_ ?_
    · refine (z_X_steps (s' := (68, [(4, .int r1), (0, .ref 81), (1, .int x1), (2, .int x2), (3, .int x3)], [.int 0, .int x2, .int x1, .ref 81], h2)) 4 rfl).trans ?_
      refine (z_X_call (id := 75) (a := [.ref 81, .int x1, .int x2, .int 0]) (c := 1) (s' := (71, [(4, .int r1), (0, .ref 81), (1, .int x1), (2, .int x2), (3, .int x3)], [], h2)) rfl ⟨Nat.le_of_ble_eq_true rfl, Nat.le_of_ble_eq_true rfl⟩).trans ?_
      refine z_bdc fun r3 h4 => ?_
      exact z_X_ret rfl
    refine (z_X_steps (s' := (76, [(4, .int r1), (0, .ref 81), (1, .int x1), (2, .int x2), (3, .int x3)], [.int 1, .int x2, .int x1, .ref 81], h2)) 4 rfl).trans ?_
    refine (z_X_call (id := 75) (a := [.ref 81, .int x1, .int x2, .int 1]) (c := 1) (s' := (79, [(4, .int r1), (0, .ref 81), (1, .int x1), (2, .int x2), (3, .int x3)], [], h2)) rfl ⟨Nat.le_of_ble_eq_true rfl, Nat.le_of_ble_eq_true rfl⟩).trans ?_
    refine z_bdc fun r5 h6 => ?_
    exact z_X_ret rfl
  · show z_X zc_P_partOf 3 (0, [(0, .ref 94), (1, .int x1), (2, .int x2), (3, .int x3)], [], h) = _
    refine (z_X_steps (s' := (2, [(0, .ref 94), (1, .int x1), (2, .int x2), (3, .int x3)], [.int x2, .int x1], h)) 2 rfl).trans ?_
    refine (z_X_call (id := 42) (a := [.int x1, .int x2]) (c := 1) (s' := (5, [(0, .ref 94), (1, .int x1), (2, .int x2), (3, .int x3)], [], h)) rfl ⟨Nat.le_of_ble_eq_true rfl, Nat.le_of_ble_eq_true rfl⟩).trans ?_
    refine z_bdc fun r1 h2 => ?_
    refine (z_X_steps (s' := (8, [(4, .int r1), (0, .ref 94), (1, .int x1), (2, .int x2), (3, .int x3)], [.int x3], h2)) 2 rfl).trans ?_
    refine (z_X_sw (d := (72, [(4, .int r1), (0, .ref 94), (1, .int x1), (2, .int x2), (3, .int x3)], [], h2)) (x := x3) (lo := [(4, .int r1), (0, .ref 94), (1, .int x1), (2, .int x2), (3, .int x3)]) (stk := []) (h := h2) (sw := [(0, 40), (1, 48), (2, 56), (3, 64)]) rfl).trans ?_
    refine z_ite ?_ ?_
    · refine (z_X_steps (s' := (46, [(4, .int r1), (0, .ref 94), (1, .int x1), (2, .int x2), (3, .int x3)], [.int r1, .ref (94 + 2)], h2)) 3 rfl).trans ?_
      refine (z_X_if (g := z_in r1 48) (s' := (47, [(4, .int r1), (0, .ref 94), (1, .int x1), (2, .int x2), (3, .int x3)], [.int (h2.1 (94 + 2) (r1.toNatClampNeg))], h2)) rfl).trans (z_bifA ?_)
      exact z_X_ret rfl
    refine z_ite ?_ ?_
    · refine (z_X_steps (s' := (54, [(4, .int r1), (0, .ref 94), (1, .int x1), (2, .int x2), (3, .int x3)], [.int r1, .ref (94 + 3)], h2)) 3 rfl).trans ?_
      refine (z_X_if (g := z_in r1 48) (s' := (55, [(4, .int r1), (0, .ref 94), (1, .int x1), (2, .int x2), (3, .int x3)], [.int (h2.1 (94 + 3) (r1.toNatClampNeg))], h2)) rfl).trans (z_bifA ?_)
      exact z_X_ret rfl
    refine z_ite ?_ ?_
    · refine (z_X_steps (s' := (62, [(4, .int r1), (0, .ref 94), (1, .int x1), (2, .int x2), (3, .int x3)], [.int r1, .ref (94 + 4)], h2)) 3 rfl).trans ?_
      refine (z_X_if (g := z_in r1 48) (s' := (63, [(4, .int r1), (0, .ref 94), (1, .int x1), (2, .int x2), (3, .int x3)], [.int (h2.1 (94 + 4) (r1.toNatClampNeg))], h2)) rfl).trans (z_bifA ?_)
      exact z_X_ret rfl
    refine z_ite ?_ ?_
    · refine (z_X_steps (s' := (68, [(4, .int r1), (0, .ref 94), (1, .int x1), (2, .int x2), (3, .int x3)], [.int 0, .int x2, .int x1, .ref 94], h2)) 4 rfl).trans ?_
      refine (z_X_call (id := 75) (a := [.ref 94, .int x1, .int x2, .int 0]) (c := 1) (s' := (71, [(4, .int r1), (0, .ref 94), (1, .int x1), (2, .int x2), (3, .int x3)], [], h2)) rfl ⟨Nat.le_of_ble_eq_true rfl, Nat.le_of_ble_eq_true rfl⟩).trans ?_
      refine z_bdc fun r3 h4 => ?_
      exact z_X_ret rfl
    refine (z_X_steps (s' := (76, [(4, .int r1), (0, .ref 94), (1, .int x1), (2, .int x2), (3, .int x3)], [.int 1, .int x2, .int x1, .ref 94], h2)) 4 rfl).trans ?_
    refine (z_X_call (id := 75) (a := [.ref 94, .int x1, .int x2, .int 1]) (c := 1) (s' := (79, [(4, .int r1), (0, .ref 94), (1, .int x1), (2, .int x2), (3, .int x3)], [], h2)) rfl ⟨Nat.le_of_ble_eq_true rfl, Nat.le_of_ble_eq_true rfl⟩).trans ?_
    refine z_bdc fun r5 h6 => ?_
    exact z_X_ret rfl
  · show z_X zc_P_partOf 3 (0, [(0, .ref 102), (1, .int x1), (2, .int x2), (3, .int x3)], [], h) = _
    refine (z_X_steps (s' := (2, [(0, .ref 102), (1, .int x1), (2, .int x2), (3, .int x3)], [.int x2, .int x1], h)) 2 rfl).trans ?_
    refine (z_X_call (id := 42) (a := [.int x1, .int x2]) (c := 1) (s' := (5, [(0, .ref 102), (1, .int x1), (2, .int x2), (3, .int x3)], [], h)) rfl ⟨Nat.le_of_ble_eq_true rfl, Nat.le_of_ble_eq_true rfl⟩).trans ?_
    refine z_bdc fun r1 h2 => ?_
    refine (z_X_steps (s' := (8, [(4, .int r1), (0, .ref 102), (1, .int x1), (2, .int x2), (3, .int x3)], [.int x3], h2)) 2 rfl).trans ?_
    refine (z_X_sw (d := (72, [(4, .int r1), (0, .ref 102), (1, .int x1), (2, .int x2), (3, .int x3)], [], h2)) (x := x3) (lo := [(4, .int r1), (0, .ref 102), (1, .int x1), (2, .int x2), (3, .int x3)]) (stk := []) (h := h2) (sw := [(0, 40), (1, 48), (2, 56), (3, 64)]) rfl).trans ?_
    refine z_ite ?_ ?_
    · refine (z_X_steps (s' := (46, [(4, .int r1), (0, .ref 102), (1, .int x1), (2, .int x2), (3, .int x3)], [.int r1, .ref (102 + 2)], h2)) 3 rfl).trans ?_
      refine (z_X_if (g := z_in r1 48) (s' := (47, [(4, .int r1), (0, .ref 102), (1, .int x1), (2, .int x2), (3, .int x3)], [.int (h2.1 (102 + 2) (r1.toNatClampNeg))], h2)) rfl).trans (z_bifA ?_)
      exact z_X_ret rfl
    refine z_ite ?_ ?_
    · refine (z_X_steps (s' := (54, [(4, .int r1), (0, .ref 102), (1, .int x1), (2, .int x2), (3, .int x3)], [.int r1, .ref (102 + 3)], h2)) 3 rfl).trans ?_
      refine (z_X_if (g := z_in r1 48) (s' := (55, [(4, .int r1), (0, .ref 102), (1, .int x1), (2, .int x2), (3, .int x3)], [.int (h2.1 (102 + 3) (r1.toNatClampNeg))], h2)) rfl).trans (z_bifA ?_)
      exact z_X_ret rfl
    refine z_ite ?_ ?_
    · refine (z_X_steps (s' := (62, [(4, .int r1), (0, .ref 102), (1, .int x1), (2, .int x2), (3, .int x3)], [.int r1, .ref (102 + 4)], h2)) 3 rfl).trans ?_
      refine (z_X_if (g := z_in r1 48) (s' := (63, [(4, .int r1), (0, .ref 102), (1, .int x1), (2, .int x2), (3, .int x3)], [.int (h2.1 (102 + 4) (r1.toNatClampNeg))], h2)) rfl).trans (z_bifA ?_)
      exact z_X_ret rfl
    refine z_ite ?_ ?_
    · refine (z_X_steps (s' := (68, [(4, .int r1), (0, .ref 102), (1, .int x1), (2, .int x2), (3, .int x3)], [.int 0, .int x2, .int x1, .ref 102], h2)) 4 rfl).trans ?_
      refine (z_X_call (id := 75) (a := [.ref 102, .int x1, .int x2, .int 0]) (c := 1) (s' := (71, [(4, .int r1), (0, .ref 102), (1, .int x1), (2, .int x2), (3, .int x3)], [], h2)) rfl ⟨Nat.le_of_ble_eq_true rfl, Nat.le_of_ble_eq_true rfl⟩).trans ?_
      refine z_bdc fun r3 h4 => ?_
      exact z_X_ret rfl
    refine (z_X_steps (s' := (76, [(4, .int r1), (0, .ref 102), (1, .int x1), (2, .int x2), (3, .int x3)], [.int 1, .int x2, .int x1, .ref 102], h2)) 4 rfl).trans ?_
    refine (z_X_call (id := 75) (a := [.ref 102, .int x1, .int x2, .int 1]) (c := 1) (s' := (79, [(4, .int r1), (0, .ref 102), (1, .int x1), (2, .int x2), (3, .int x3)], [], h2)) rfl ⟨Nat.le_of_ble_eq_true rfl, Nat.le_of_ble_eq_true rfl⟩).trans ?_
    refine z_bdc fun r5 h6 => ?_
    exact z_X_ret rfl
noncomputable def zl_P_nodesOfAll_4 (o : Nat) (x1 : Int32) (x2 : Int32) (h : z_H) : Option z_A := z_X zc_P_nodesOfAll 1 (4, [(0, .ref o), (1, .int x1), (2, .int x2)], [], h)
set_option maxRecDepth 8000 in
set_option maxHeartbeats 2000000 in
theorem e_P_nodesOfAll {o : Nat} (hi : o ∈ [4, 17, 25, 73, 81, 94, 102]) (h : z_H) : z_M 81 [.ref o] h = zl_P_nodesOfAll_4 o 0 0 h := by
  refine (z_M_eq (by decide)).trans ?_
  simp only [List.mem_cons, List.not_mem_nil, or_false, Prod.mk.injEq] at hi
  rcases hi with rfl | rfl | rfl | rfl | rfl | rfl | rfl
  · show z_X zc_P_nodesOfAll 1 (0, [(0, .ref 4)], [], h) = _
    refine (z_X_steps (s' := (4, [(2, .int 0), (1, .int 0), (0, .ref 4)], [], h)) 4 rfl).trans ?_
    exact z_X_lab rfl
  · show z_X zc_P_nodesOfAll 1 (0, [(0, .ref 17)], [], h) = _
    refine (z_X_steps (s' := (4, [(2, .int 0), (1, .int 0), (0, .ref 17)], [], h)) 4 rfl).trans ?_
    exact z_X_lab rfl
  · show z_X zc_P_nodesOfAll 1 (0, [(0, .ref 25)], [], h) = _
    refine (z_X_steps (s' := (4, [(2, .int 0), (1, .int 0), (0, .ref 25)], [], h)) 4 rfl).trans ?_
    exact z_X_lab rfl
  · show z_X zc_P_nodesOfAll 1 (0, [(0, .ref 73)], [], h) = _
    refine (z_X_steps (s' := (4, [(2, .int 0), (1, .int 0), (0, .ref 73)], [], h)) 4 rfl).trans ?_
    exact z_X_lab rfl
  · show z_X zc_P_nodesOfAll 1 (0, [(0, .ref 81)], [], h) = _
    refine (z_X_steps (s' := (4, [(2, .int 0), (1, .int 0), (0, .ref 81)], [], h)) 4 rfl).trans ?_
    exact z_X_lab rfl
  · show z_X zc_P_nodesOfAll 1 (0, [(0, .ref 94)], [], h) = _
    refine (z_X_steps (s' := (4, [(2, .int 0), (1, .int 0), (0, .ref 94)], [], h)) 4 rfl).trans ?_
    exact z_X_lab rfl
  · show z_X zc_P_nodesOfAll 1 (0, [(0, .ref 102)], [], h) = _
    refine (z_X_steps (s' := (4, [(2, .int 0), (1, .int 0), (0, .ref 102)], [], h)) 4 rfl).trans ?_
    exact z_X_lab rfl
set_option maxRecDepth 8000 in
set_option maxHeartbeats 2000000 in
theorem e_P_nodesOfAll_4 {o : Nat} (hi : o ∈ [4, 17, 25, 73, 81, 94, 102]) (x1 : Int32) (x2 : Int32) (h : z_H) : zl_P_nodesOfAll_4 o x1 x2 h = (if h.1 o 0 ≤ x2 then some (x1, h) else (bif z_in x2 6 then zl_P_nodesOfAll_4 o (x1 + (h.1 (o + 1) (x2.toNatClampNeg))) (x2 + 1) h else none)) := by
  simp only [List.mem_cons, List.not_mem_nil, or_false, Prod.mk.injEq] at hi
  rcases hi with rfl | rfl | rfl | rfl | rfl | rfl | rfl
  · show z_X zc_P_nodesOfAll 1 (4, [(0, .ref 4), (1, .int x1), (2, .int x2)], [], h) = _
    refine (z_X_steps (s' := (9, [(0, .ref 4), (1, .int x1), (2, .int x2)], [.int (h.1 4 0), .int x2], h)) 3 rfl).trans ?_
    refine (z_X_br (c := h.1 4 0 ≤ x2) (s1 := (27, [(0, .ref 4), (1, .int x1), (2, .int x2)], [], h)) (s2 := (12, [(0, .ref 4), (1, .int x1), (2, .int x2)], [], h)) rfl).trans (z_ite ?_ ?_)
    · refine (z_X_steps (s' := (28, [(0, .ref 4), (1, .int x1), (2, .int x2)], [.int x1], h)) 1 rfl).trans ?_
      exact z_X_ret rfl
    · refine (z_X_steps (s' := (18, [(0, .ref 4), (1, .int x1), (2, .int x2)], [.int x2, .ref (4 + 1), .int x1], h)) 4 rfl).trans ?_
      refine (z_X_if (g := z_in x2 6) (s' := (19, [(0, .ref 4), (1, .int x1), (2, .int x2)], [.int (h.1 (4 + 1) (x2.toNatClampNeg)), .int x1], h)) rfl).trans (z_bifA ?_)
      refine (z_X_steps (s' := (4, [(2, .int (x2 + 1)), (1, .int (x1 + (h.1 (4 + 1) (x2.toNatClampNeg)))), (0, .ref 4)], [], h)) 4 rfl).trans ?_
      exact z_X_lab rfl
  · show z_X zc_P_nodesOfAll 1 (4, [(0, .ref 17), (1, .int x1), (2, .int x2)], [], h) = _
    refine (z_X_steps (s' := (9, [(0, .ref 17), (1, .int x1), (2, .int x2)], [.int (h.1 17 0), .int x2], h)) 3 rfl).trans ?_
    refine (z_X_br (c := h.1 17 0 ≤ x2) (s1 := (27, [(0, .ref 17), (1, .int x1), (2, .int x2)], [], h)) (s2 := (12, [(0, .ref 17), (1, .int x1), (2, .int x2)], [], h)) rfl).trans (z_ite ?_ ?_)
    · refine (z_X_steps (s' := (28, [(0, .ref 17), (1, .int x1), (2, .int x2)], [.int x1], h)) 1 rfl).trans ?_
      exact z_X_ret rfl
    · refine (z_X_steps (s' := (18, [(0, .ref 17), (1, .int x1), (2, .int x2)], [.int x2, .ref (17 + 1), .int x1], h)) 4 rfl).trans ?_
      refine (z_X_if (g := z_in x2 6) (s' := (19, [(0, .ref 17), (1, .int x1), (2, .int x2)], [.int (h.1 (17 + 1) (x2.toNatClampNeg)), .int x1], h)) rfl).trans (z_bifA ?_)
      refine (z_X_steps (s' := (4, [(2, .int (x2 + 1)), (1, .int (x1 + (h.1 (17 + 1) (x2.toNatClampNeg)))), (0, .ref 17)], [], h)) 4 rfl).trans ?_
      exact z_X_lab rfl
  · show z_X zc_P_nodesOfAll 1 (4, [(0, .ref 25), (1, .int x1), (2, .int x2)], [], h) = _
    refine (z_X_steps (s' := (9, [(0, .ref 25), (1, .int x1), (2, .int x2)], [.int (h.1 25 0), .int x2], h)) 3 rfl).trans ?_
    refine (z_X_br (c := h.1 25 0 ≤ x2) (s1 := (27, [(0, .ref 25), (1, .int x1), (2, .int x2)], [], h)) (s2 := (12, [(0, .ref 25), (1, .int x1), (2, .int x2)], [], h)) rfl).trans (z_ite ?_ ?_)
    · refine (z_X_steps (s' := (28, [(0, .ref 25), (1, .int x1), (2, .int x2)], [.int x1], h)) 1 rfl).trans ?_
      exact z_X_ret rfl
    · refine (z_X_steps (s' := (18, [(0, .ref 25), (1, .int x1), (2, .int x2)], [.int x2, .ref (25 + 1), .int x1], h)) 4 rfl).trans ?_
      refine (z_X_if (g := z_in x2 6) (s' := (19, [(0, .ref 25), (1, .int x1), (2, .int x2)], [.int (h.1 (25 + 1) (x2.toNatClampNeg)), .int x1], h)) rfl).trans (z_bifA ?_)
      refine (z_X_steps (s' := (4, [(2, .int (x2 + 1)), (1, .int (x1 + (h.1 (25 + 1) (x2.toNatClampNeg)))), (0, .ref 25)], [], h)) 4 rfl).trans ?_
      exact z_X_lab rfl
  · show z_X zc_P_nodesOfAll 1 (4, [(0, .ref 73), (1, .int x1), (2, .int x2)], [], h) = _
    refine (z_X_steps (s' := (9, [(0, .ref 73), (1, .int x1), (2, .int x2)], [.int (h.1 73 0), .int x2], h)) 3 rfl).trans ?_
    refine (z_X_br (c := h.1 73 0 ≤ x2) (s1 := (27, [(0, .ref 73), (1, .int x1), (2, .int x2)], [], h)) (s2 := (12, [(0, .ref 73), (1, .int x1), (2, .int x2)], [], h)) rfl).trans (z_ite ?_ ?_)
    · refine (z_X_steps (s' := (28, [(0, .ref 73), (1, .int x1), (2, .int x2)], [.int x1], h)) 1 rfl).trans ?_
      exact z_X_ret rfl
    · refine (z_X_steps (s' := (18, [(0, .ref 73), (1, .int x1), (2, .int x2)], [.int x2, .ref (73 + 1), .int x1], h)) 4 rfl).trans ?_
      refine (z_X_if (g := z_in x2 6) (s' := (19, [(0, .ref 73), (1, .int x1), (2, .int x2)], [.int (h.1 (73 + 1) (x2.toNatClampNeg)), .int x1], h)) rfl).trans (z_bifA ?_)
      refine (z_X_steps (s' := (4, [(2, .int (x2 + 1)), (1, .int (x1 + (h.1 (73 + 1) (x2.toNatClampNeg)))), (0, .ref 73)], [], h)) 4 rfl).trans ?_
      exact z_X_lab rfl
  · show z_X zc_P_nodesOfAll 1 (4, [(0, .ref 81), (1, .int x1), (2, .int x2)], [], h) = _
    refine (z_X_steps (s' := (9, [(0, .ref 81), (1, .int x1), (2, .int x2)], [.int (h.1 81 0), .int x2], h)) 3 rfl).trans ?_
    refine (z_X_br (c := h.1 81 0 ≤ x2) (s1 := (27, [(0, .ref 81), (1, .int x1), (2, .int x2)], [], h)) (s2 := (12, [(0, .ref 81), (1, .int x1), (2, .int x2)], [], h)) rfl).trans (z_ite ?_ ?_)
    · refine (z_X_steps (s' := (28, [(0, .ref 81), (1, .int x1), (2, .int x2)], [.int x1], h)) 1 rfl).trans ?_
      exact z_X_ret rfl
    · refine (z_X_steps (s' := (18, [(0, .ref 81), (1, .int x1), (2, .int x2)], [.int x2, .ref (81 + 1), .int x1], h)) 4 rfl).trans ?_
      refine (z_X_if (g := z_in x2 6) (s' := (19, [(0, .ref 81), (1, .int x1), (2, .int x2)], [.int (h.1 (81 + 1) (x2.toNatClampNeg)), .int x1], h)) rfl).trans (z_bifA ?_)
      refine (z_X_steps (s' := (4, [(2, .int (x2 + 1)), (1, .int (x1 + (h.1 (81 + 1) (x2.toNatClampNeg)))), (0, .ref 81)], [], h)) 4 rfl).trans ?_
      exact z_X_lab rfl
  · show z_X zc_P_nodesOfAll 1 (4, [(0, .ref 94), (1, .int x1), (2, .int x2)], [], h) = _
    refine (z_X_steps (s' := (9, [(0, .ref 94), (1, .int x1), (2, .int x2)], [.int (h.1 94 0), .int x2], h)) 3 rfl).trans ?_
    refine (z_X_br (c := h.1 94 0 ≤ x2) (s1 := (27, [(0, .ref 94), (1, .int x1), (2, .int x2)], [], h)) (s2 := (12, [(0, .ref 94), (1, .int x1), (2, .int x2)], [], h)) rfl).trans (z_ite ?_ ?_)
    · refine (z_X_steps (s' := (28, [(0, .ref 94), (1, .int x1), (2, .int x2)], [.int x1], h)) 1 rfl).trans ?_
      exact z_X_ret rfl
    · refine (z_X_steps (s' := (18, [(0, .ref 94), (1, .int x1), (2, .int x2)], [.int x2, .ref (94 + 1), .int x1], h)) 4 rfl).trans ?_
      refine (z_X_if (g := z_in x2 6) (s' := (19, [(0, .ref 94), (1, .int x1), (2, .int x2)], [.int (h.1 (94 + 1) (x2.toNatClampNeg)), .int x1], h)) rfl).trans (z_bifA ?_)
      refine (z_X_steps (s' := (4, [(2, .int (x2 + 1)), (1, .int (x1 + (h.1 (94 + 1) (x2.toNatClampNeg)))), (0, .ref 94)], [], h)) 4 rfl).trans ?_
      exact z_X_lab rfl
  · show z_X zc_P_nodesOfAll 1 (4, [(0, .ref 102), (1, .int x1), (2, .int x2)], [], h) = _
    refine (z_X_steps (s' := (9, [(0, .ref 102), (1, .int x1), (2, .int x2)], [.int (h.1 102 0), .int x2], h)) 3 rfl).trans ?_
    refine (z_X_br (c := h.1 102 0 ≤ x2) (s1 := (27, [(0, .ref 102), (1, .int x1), (2, .int x2)], [], h)) (s2 := (12, [(0, .ref 102), (1, .int x1), (2, .int x2)], [], h)) rfl).trans (z_ite ?_ ?_)
    · refine (z_X_steps (s' := (28, [(0, .ref 102), (1, .int x1), (2, .int x2)], [.int x1], h)) 1 rfl).trans ?_
      exact z_X_ret rfl
    · refine (z_X_steps (s' := (18, [(0, .ref 102), (1, .int x1), (2, .int x2)], [.int x2, .ref (102 + 1), .int x1], h)) 4 rfl).trans ?_
      refine (z_X_if (g := z_in x2 6) (s' := (19, [(0, .ref 102), (1, .int x1), (2, .int x2)], [.int (h.1 (102 + 1) (x2.toNatClampNeg)), .int x1], h)) rfl).trans (z_bifA ?_)
      refine (z_X_steps (s' := (4, [(2, .int (x2 + 1)), (1, .int (x1 + (h.1 (102 + 1) (x2.toNatClampNeg)))), (0, .ref 102)], [], h)) 4 rfl).trans ?_
      exact z_X_lab rfl
noncomputable def zl_P_nodesThatCall_4 (o : Nat) (x1 : Int32) (x2 : Int32) (h : z_H) : Option z_A := z_X zc_P_nodesThatCall 2 (4, [(0, .ref o), (1, .int x1), (2, .int x2)], [], h)
noncomputable def zl_P_nodesThatCall_14 (o : Nat) (x1 : Int32) (x2 : Int32) (x3 : Int32) (h : z_H) : Option z_A := z_X zc_P_nodesThatCall 2 (14, [(0, .ref o), (1, .int x1), (2, .int x2), (3, .int x3)], [], h)
set_option maxRecDepth 8000 in
set_option maxHeartbeats 2000000 in
theorem e_P_nodesThatCall {o : Nat} (hi : o ∈ [4, 17, 25, 73, 81, 94, 102]) (h : z_H) : z_M 82 [.ref o] h = zl_P_nodesThatCall_4 o 0 0 h := by
  refine (z_M_eq (by decide)).trans ?_
  simp only [List.mem_cons, List.not_mem_nil, or_false, Prod.mk.injEq] at hi
  rcases hi with rfl | rfl | rfl | rfl | rfl | rfl | rfl
  · show z_X zc_P_nodesThatCall 2 (0, [(0, .ref 4)], [], h) = _
    refine (z_X_steps (s' := (4, [(2, .int 0), (1, .int 0), (0, .ref 4)], [], h)) 4 rfl).trans ?_
    exact z_X_lab rfl
  · show z_X zc_P_nodesThatCall 2 (0, [(0, .ref 17)], [], h) = _
    refine (z_X_steps (s' := (4, [(2, .int 0), (1, .int 0), (0, .ref 17)], [], h)) 4 rfl).trans ?_
    exact z_X_lab rfl
  · show z_X zc_P_nodesThatCall 2 (0, [(0, .ref 25)], [], h) = _
    refine (z_X_steps (s' := (4, [(2, .int 0), (1, .int 0), (0, .ref 25)], [], h)) 4 rfl).trans ?_
    exact z_X_lab rfl
  · show z_X zc_P_nodesThatCall 2 (0, [(0, .ref 73)], [], h) = _
    refine (z_X_steps (s' := (4, [(2, .int 0), (1, .int 0), (0, .ref 73)], [], h)) 4 rfl).trans ?_
    exact z_X_lab rfl
  · show z_X zc_P_nodesThatCall 2 (0, [(0, .ref 81)], [], h) = _
    refine (z_X_steps (s' := (4, [(2, .int 0), (1, .int 0), (0, .ref 81)], [], h)) 4 rfl).trans ?_
    exact z_X_lab rfl
  · show z_X zc_P_nodesThatCall 2 (0, [(0, .ref 94)], [], h) = _
    refine (z_X_steps (s' := (4, [(2, .int 0), (1, .int 0), (0, .ref 94)], [], h)) 4 rfl).trans ?_
    exact z_X_lab rfl
  · show z_X zc_P_nodesThatCall 2 (0, [(0, .ref 102)], [], h) = _
    refine (z_X_steps (s' := (4, [(2, .int 0), (1, .int 0), (0, .ref 102)], [], h)) 4 rfl).trans ?_
    exact z_X_lab rfl
set_option maxRecDepth 8000 in
set_option maxHeartbeats 2000000 in
theorem e_P_nodesThatCall_4 {o : Nat} (hi : o ∈ [4, 17, 25, 73, 81, 94, 102]) (x1 : Int32) (x2 : Int32) (h : z_H) : zl_P_nodesThatCall_4 o x1 x2 h = (if h.1 o 0 ≤ x2 then some (x1, h) else zl_P_nodesThatCall_14 o x1 x2 0 h) := by
  simp only [List.mem_cons, List.not_mem_nil, or_false, Prod.mk.injEq] at hi
  rcases hi with rfl | rfl | rfl | rfl | rfl | rfl | rfl
  · show z_X zc_P_nodesThatCall 2 (4, [(0, .ref 4), (1, .int x1), (2, .int x2)], [], h) = _
    refine (z_X_steps (s' := (9, [(0, .ref 4), (1, .int x1), (2, .int x2)], [.int (h.1 4 0), .int x2], h)) 3 rfl).trans ?_
    refine (z_X_br (c := h.1 4 0 ≤ x2) (s1 := (53, [(0, .ref 4), (1, .int x1), (2, .int x2)], [], h)) (s2 := (12, [(0, .ref 4), (1, .int x1), (2, .int x2)], [], h)) rfl).trans (z_ite ?_ ?_)
    · refine (z_X_steps (s' := (54, [(0, .ref 4), (1, .int x1), (2, .int x2)], [.int x1], h)) 1 rfl).trans ?_
      exact z_X_ret rfl
    · refine (z_X_steps (s' := (14, [(3, .int 0), (0, .ref 4), (1, .int x1), (2, .int x2)], [], h)) 2 rfl).trans ?_
      exact z_X_lab rfl
  · show z_X zc_P_nodesThatCall 2 (4, [(0, .ref 17), (1, .int x1), (2, .int x2)], [], h) = _
    refine (z_X_steps (s' := (9, [(0, .ref 17), (1, .int x1), (2, .int x2)], [.int (h.1 17 0), .int x2], h)) 3 rfl).trans ?_
    refine (z_X_br (c := h.1 17 0 ≤ x2) (s1 := (53, [(0, .ref 17), (1, .int x1), (2, .int x2)], [], h)) (s2 := (12, [(0, .ref 17), (1, .int x1), (2, .int x2)], [], h)) rfl).trans (z_ite ?_ ?_)
    · refine (z_X_steps (s' := (54, [(0, .ref 17), (1, .int x1), (2, .int x2)], [.int x1], h)) 1 rfl).trans ?_
      exact z_X_ret rfl
    · refine (z_X_steps (s' := (14, [(3, .int 0), (0, .ref 17), (1, .int x1), (2, .int x2)], [], h)) 2 rfl).trans ?_
      exact z_X_lab rfl
  · show z_X zc_P_nodesThatCall 2 (4, [(0, .ref 25), (1, .int x1), (2, .int x2)], [], h) = _
    refine (z_X_steps (s' := (9, [(0, .ref 25), (1, .int x1), (2, .int x2)], [.int (h.1 25 0), .int x2], h)) 3 rfl).trans ?_
    refine (z_X_br (c := h.1 25 0 ≤ x2) (s1 := (53, [(0, .ref 25), (1, .int x1), (2, .int x2)], [], h)) (s2 := (12, [(0, .ref 25), (1, .int x1), (2, .int x2)], [], h)) rfl).trans (z_ite ?_ ?_)
    · refine (z_X_steps (s' := (54, [(0, .ref 25), (1, .int x1), (2, .int x2)], [.int x1], h)) 1 rfl).trans ?_
      exact z_X_ret rfl
    · refine (z_X_steps (s' := (14, [(3, .int 0), (0, .ref 25), (1, .int x1), (2, .int x2)], [], h)) 2 rfl).trans ?_
      exact z_X_lab rfl
  · show z_X zc_P_nodesThatCall 2 (4, [(0, .ref 73), (1, .int x1), (2, .int x2)], [], h) = _
    refine (z_X_steps (s' := (9, [(0, .ref 73), (1, .int x1), (2, .int x2)], [.int (h.1 73 0), .int x2], h)) 3 rfl).trans ?_
    refine (z_X_br (c := h.1 73 0 ≤ x2) (s1 := (53, [(0, .ref 73), (1, .int x1), (2, .int x2)], [], h)) (s2 := (12, [(0, .ref 73), (1, .int x1), (2, .int x2)], [], h)) rfl).trans (z_ite ?_ ?_)
    · refine (z_X_steps (s' := (54, [(0, .ref 73), (1, .int x1), (2, .int x2)], [.int x1], h)) 1 rfl).trans ?_
      exact z_X_ret rfl
    · refine (z_X_steps (s' := (14, [(3, .int 0), (0, .ref 73), (1, .int x1), (2, .int x2)], [], h)) 2 rfl).trans ?_
      exact z_X_lab rfl
  · show z_X zc_P_nodesThatCall 2 (4, [(0, .ref 81), (1, .int x1), (2, .int x2)], [], h) = _
    refine (z_X_steps (s' := (9, [(0, .ref 81), (1, .int x1), (2, .int x2)], [.int (h.1 81 0), .int x2], h)) 3 rfl).trans ?_
    refine (z_X_br (c := h.1 81 0 ≤ x2) (s1 := (53, [(0, .ref 81), (1, .int x1), (2, .int x2)], [], h)) (s2 := (12, [(0, .ref 81), (1, .int x1), (2, .int x2)], [], h)) rfl).trans (z_ite ?_ ?_)
    · refine (z_X_steps (s' := (54, [(0, .ref 81), (1, .int x1), (2, .int x2)], [.int x1], h)) 1 rfl).trans ?_
      exact z_X_ret rfl
    · refine (z_X_steps (s' := (14, [(3, .int 0), (0, .ref 81), (1, .int x1), (2, .int x2)], [], h)) 2 rfl).trans ?_
      exact z_X_lab rfl
  · show z_X zc_P_nodesThatCall 2 (4, [(0, .ref 94), (1, .int x1), (2, .int x2)], [], h) = _
    refine (z_X_steps (s' := (9, [(0, .ref 94), (1, .int x1), (2, .int x2)], [.int (h.1 94 0), .int x2], h)) 3 rfl).trans ?_
    refine (z_X_br (c := h.1 94 0 ≤ x2) (s1 := (53, [(0, .ref 94), (1, .int x1), (2, .int x2)], [], h)) (s2 := (12, [(0, .ref 94), (1, .int x1), (2, .int x2)], [], h)) rfl).trans (z_ite ?_ ?_)
    · refine (z_X_steps (s' := (54, [(0, .ref 94), (1, .int x1), (2, .int x2)], [.int x1], h)) 1 rfl).trans ?_
      exact z_X_ret rfl
    · refine (z_X_steps (s' := (14, [(3, .int 0), (0, .ref 94), (1, .int x1), (2, .int x2)], [], h)) 2 rfl).trans ?_
      exact z_X_lab rfl
  · show z_X zc_P_nodesThatCall 2 (4, [(0, .ref 102), (1, .int x1), (2, .int x2)], [], h) = _
    refine (z_X_steps (s' := (9, [(0, .ref 102), (1, .int x1), (2, .int x2)], [.int (h.1 102 0), .int x2], h)) 3 rfl).trans ?_
    refine (z_X_br (c := h.1 102 0 ≤ x2) (s1 := (53, [(0, .ref 102), (1, .int x1), (2, .int x2)], [], h)) (s2 := (12, [(0, .ref 102), (1, .int x1), (2, .int x2)], [], h)) rfl).trans (z_ite ?_ ?_)
    · refine (z_X_steps (s' := (54, [(0, .ref 102), (1, .int x1), (2, .int x2)], [.int x1], h)) 1 rfl).trans ?_
      exact z_X_ret rfl
    · refine (z_X_steps (s' := (14, [(3, .int 0), (0, .ref 102), (1, .int x1), (2, .int x2)], [], h)) 2 rfl).trans ?_
      exact z_X_lab rfl
set_option maxRecDepth 8000 in
set_option maxHeartbeats 2000000 in
theorem e_P_nodesThatCall_14 {o : Nat} (hi : o ∈ [4, 17, 25, 73, 81, 94, 102]) (x1 : Int32) (x2 : Int32) (x3 : Int32) (h : z_H) : zl_P_nodesThatCall_14 o x1 x2 x3 h = (bif z_in x2 6 then (if h.1 (o + 1) (x2.toNatClampNeg) ≤ x3 then zl_P_nodesThatCall_4 o x1 (x2 + 1) h else z_bd (z_M 42 [.int x2, .int x3] h) (fun r1 h2 => (bif z_in r1 48 then (if ¬ h2.1 (o + 2) (r1.toNatClampNeg) = 1 then zl_P_nodesThatCall_14 o x1 x2 (x3 + 1) h2 else zl_P_nodesThatCall_14 o (x1 + 1) x2 (x3 + 1) h2) else none))) else none) := by
  simp only [List.mem_cons, List.not_mem_nil, or_false, Prod.mk.injEq] at hi
  rcases hi with rfl | rfl | rfl | rfl | rfl | rfl | rfl
  · show z_X zc_P_nodesThatCall 2 (14, [(0, .ref 4), (1, .int x1), (2, .int x2), (3, .int x3)], [], h) = _
    refine (z_X_steps (s' := (20, [(0, .ref 4), (1, .int x1), (2, .int x2), (3, .int x3)], [.int x2, .ref (4 + 1), .int x3], h)) 4 rfl).trans ?_
    refine (z_X_if (g := z_in x2 6) (s' := (21, [(0, .ref 4), (1, .int x1), (2, .int x2), (3, .int x3)], [.int (h.1 (4 + 1) (x2.toNatClampNeg)), .int x3], h)) rfl).trans (z_bifA ?_)
    refine (z_X_br (c := h.1 (4 + 1) (x2.toNatClampNeg) ≤ x3) (s1 := (47, [(0, .ref 4), (1, .int x1), (2, .int x2), (3, .int x3)], [], h)) (s2 := (24, [(0, .ref 4), (1, .int x1), (2, .int x2), (3, .int x3)], [], h)) rfl).trans (z_ite ?_ ?_)
    · refine (z_X_steps (s' := (4, [(2, .int (x2 + 1)), (0, .ref 4), (1, .int x1), (3, .int x3)], [], h)) 2 rfl).trans ?_
      exact z_X_lab rfl
    · refine (z_X_steps (s' := (30, [(0, .ref 4), (1, .int x1), (2, .int x2), (3, .int x3)], [.int x3, .int x2, .ref (4 + 2)], h)) 4 rfl).trans ?_
      refine (z_X_call (id := 42) (a := [.int x2, .int x3]) (c := 1) (s' := (33, [(0, .ref 4), (1, .int x1), (2, .int x2), (3, .int x3)], [.ref (4 + 2)], h)) rfl ⟨Nat.le_of_ble_eq_true rfl, Nat.le_of_ble_eq_true rfl⟩).trans ?_
      refine z_bdc fun r1 h2 => ?_
      refine (z_X_if (g := z_in r1 48) (s' := (34, [(0, .ref 4), (1, .int x1), (2, .int x2), (3, .int x3)], [.int (h2.1 (4 + 2) (r1.toNatClampNeg))], h2)) rfl).trans (z_bifA ?_)
      refine (z_X_steps (s' := (35, [(0, .ref 4), (1, .int x1), (2, .int x2), (3, .int x3)], [.int 1, .int (h2.1 (4 + 2) (r1.toNatClampNeg))], h2)) 1 rfl).trans ?_
      refine (z_X_br (c := ¬ h2.1 (4 + 2) (r1.toNatClampNeg) = 1) (s1 := (41, [(0, .ref 4), (1, .int x1), (2, .int x2), (3, .int x3)], [], h2)) (s2 := (38, [(0, .ref 4), (1, .int x1), (2, .int x2), (3, .int x3)], [], h2)) rfl).trans (z_ite ?_ ?_)
      · refine (z_X_steps (s' := (14, [(3, .int (x3 + 1)), (0, .ref 4), (1, .int x1), (2, .int x2)], [], h2)) 2 rfl).trans ?_
        exact z_X_lab rfl
      · refine (z_X_steps (s' := (14, [(3, .int (x3 + 1)), (1, .int (x1 + 1)), (0, .ref 4), (2, .int x2)], [], h2)) 3 rfl).trans ?_
        exact z_X_lab rfl
  · show z_X zc_P_nodesThatCall 2 (14, [(0, .ref 17), (1, .int x1), (2, .int x2), (3, .int x3)], [], h) = _
    refine (z_X_steps (s' := (20, [(0, .ref 17), (1, .int x1), (2, .int x2), (3, .int x3)], [.int x2, .ref (17 + 1), .int x3], h)) 4 rfl).trans ?_
    refine (z_X_if (g := z_in x2 6) (s' := (21, [(0, .ref 17), (1, .int x1), (2, .int x2), (3, .int x3)], [.int (h.1 (17 + 1) (x2.toNatClampNeg)), .int x3], h)) rfl).trans (z_bifA ?_)
    refine (z_X_br (c := h.1 (17 + 1) (x2.toNatClampNeg) ≤ x3) (s1 := (47, [(0, .ref 17), (1, .int x1), (2, .int x2), (3, .int x3)], [], h)) (s2 := (24, [(0, .ref 17), (1, .int x1), (2, .int x2), (3, .int x3)], [], h)) rfl).trans (z_ite ?_ ?_)
    · refine (z_X_steps (s' := (4, [(2, .int (x2 + 1)), (0, .ref 17), (1, .int x1), (3, .int x3)], [], h)) 2 rfl).trans ?_
      exact z_X_lab rfl
    · refine (z_X_steps (s' := (30, [(0, .ref 17), (1, .int x1), (2, .int x2), (3, .int x3)], [.int x3, .int x2, .ref (17 + 2)], h)) 4 rfl).trans ?_
      refine (z_X_call (id := 42) (a := [.int x2, .int x3]) (c := 1) (s' := (33, [(0, .ref 17), (1, .int x1), (2, .int x2), (3, .int x3)], [.ref (17 + 2)], h)) rfl ⟨Nat.le_of_ble_eq_true rfl, Nat.le_of_ble_eq_true rfl⟩).trans ?_
      refine z_bdc fun r1 h2 => ?_
      refine (z_X_if (g := z_in r1 48) (s' := (34, [(0, .ref 17), (1, .int x1), (2, .int x2), (3, .int x3)], [.int (h2.1 (17 + 2) (r1.toNatClampNeg))], h2)) rfl).trans (z_bifA ?_)
      refine (z_X_steps (s' := (35, [(0, .ref 17), (1, .int x1), (2, .int x2), (3, .int x3)], [.int 1, .int (h2.1 (17 + 2) (r1.toNatClampNeg))], h2)) 1 rfl).trans ?_
      refine (z_X_br (c := ¬ h2.1 (17 + 2) (r1.toNatClampNeg) = 1) (s1 := (41, [(0, .ref 17), (1, .int x1), (2, .int x2), (3, .int x3)], [], h2)) (s2 := (38, [(0, .ref 17), (1, .int x1), (2, .int x2), (3, .int x3)], [], h2)) rfl).trans (z_ite ?_ ?_)
      · refine (z_X_steps (s' := (14, [(3, .int (x3 + 1)), (0, .ref 17), (1, .int x1), (2, .int x2)], [], h2)) 2 rfl).trans ?_
        exact z_X_lab rfl
      · refine (z_X_steps (s' := (14, [(3, .int (x3 + 1)), (1, .int (x1 + 1)), (0, .ref 17), (2, .int x2)], [], h2)) 3 rfl).trans ?_
        exact z_X_lab rfl
  · show z_X zc_P_nodesThatCall 2 (14, [(0, .ref 25), (1, .int x1), (2, .int x2), (3, .int x3)], [], h) = _
    refine (z_X_steps (s' := (20, [(0, .ref 25), (1, .int x1), (2, .int x2), (3, .int x3)], [.int x2, .ref (25 + 1), .int x3], h)) 4 rfl).trans ?_
    refine (z_X_if (g := z_in x2 6) (s' := (21, [(0, .ref 25), (1, .int x1), (2, .int x2), (3, .int x3)], [.int (h.1 (25 + 1) (x2.toNatClampNeg)), .int x3], h)) rfl).trans (z_bifA ?_)
    refine (z_X_br (c := h.1 (25 + 1) (x2.toNatClampNeg) ≤ x3) (s1 := (47, [(0, .ref 25), (1, .int x1), (2, .int x2), (3, .int x3)], [], h)) (s2 := (24, [(0, .ref 25), (1, .int x1), (2, .int x2), (3, .int x3)], [], h)) rfl).trans (z_ite ?_ ?_)
    · refine (z_X_steps (s' := (4, [(2, .int (x2 + 1)), (0, .ref 25), (1, .int x1), (3, .int x3)], [], h)) 2 rfl).trans ?_
      exact z_X_lab rfl
    · refine (z_X_steps (s' := (30, [(0, .ref 25), (1, .int x1), (2, .int x2), (3, .int x3)], [.int x3, .int x2, .ref (25 + 2)], h)) 4 rfl).trans ?_
      refine (z_X_call (id := 42) (a := [.int x2, .int x3]) (c := 1) (s' := (33, [(0, .ref 25), (1, .int x1), (2, .int x2), (3, .int x3)], [.ref (25 + 2)], h)) rfl ⟨Nat.le_of_ble_eq_true rfl, Nat.le_of_ble_eq_true rfl⟩).trans ?_
      refine z_bdc fun r1 h2 => ?_
      refine (z_X_if (g := z_in r1 48) (s' := (34, [(0, .ref 25), (1, .int x1), (2, .int x2), (3, .int x3)], [.int (h2.1 (25 + 2) (r1.toNatClampNeg))], h2)) rfl).trans (z_bifA ?_)
      refine (z_X_steps (s' := (35, [(0, .ref 25), (1, .int x1), (2, .int x2), (3, .int x3)], [.int 1, .int (h2.1 (25 + 2) (r1.toNatClampNeg))], h2)) 1 rfl).trans ?_
      refine (z_X_br (c := ¬ h2.1 (25 + 2) (r1.toNatClampNeg) = 1) (s1 := (41, [(0, .ref 25), (1, .int x1), (2, .int x2), (3, .int x3)], [], h2)) (s2 := (38, [(0, .ref 25), (1, .int x1), (2, .int x2), (3, .int x3)], [], h2)) rfl).trans (z_ite ?_ ?_)
      · refine (z_X_steps (s' := (14, [(3, .int (x3 + 1)), (0, .ref 25), (1, .int x1), (2, .int x2)], [], h2)) 2 rfl).trans ?_
        exact z_X_lab rfl
      · refine (z_X_steps (s' := (14, [(3, .int (x3 + 1)), (1, .int (x1 + 1)), (0, .ref 25), (2, .int x2)], [], h2)) 3 rfl).trans ?_
        exact z_X_lab rfl
  · show z_X zc_P_nodesThatCall 2 (14, [(0, .ref 73), (1, .int x1), (2, .int x2), (3, .int x3)], [], h) = _
    refine (z_X_steps (s' := (20, [(0, .ref 73), (1, .int x1), (2, .int x2), (3, .int x3)], [.int x2, .ref (73 + 1), .int x3], h)) 4 rfl).trans ?_
    refine (z_X_if (g := z_in x2 6) (s' := (21, [(0, .ref 73), (1, .int x1), (2, .int x2), (3, .int x3)], [.int (h.1 (73 + 1) (x2.toNatClampNeg)), .int x3], h)) rfl).trans (z_bifA ?_)
    refine (z_X_br (c := h.1 (73 + 1) (x2.toNatClampNeg) ≤ x3) (s1 := (47, [(0, .ref 73), (1, .int x1), (2, .int x2), (3, .int x3)], [], h)) (s2 := (24, [(0, .ref 73), (1, .int x1), (2, .int x2), (3, .int x3)], [], h)) rfl).trans (z_ite ?_ ?_)
    · refine (z_X_steps (s' := (4, [(2, .int (x2 + 1)), (0, .ref 73), (1, .int x1), (3, .int x3)], [], h)) 2 rfl).trans ?_
      exact z_X_lab rfl
    · refine (z_X_steps (s' := (30, [(0, .ref 73), (1, .int x1), (2, .int x2), (3, .int x3)], [.int x3, .int x2, .ref (73 + 2)], h)) 4 rfl).trans ?_
      refine (z_X_call (id := 42) (a := [.int x2, .int x3]) (c := 1) (s' := (33, [(0, .ref 73), (1, .int x1), (2, .int x2), (3, .int x3)], [.ref (73 + 2)], h)) rfl ⟨Nat.le_of_ble_eq_true rfl, Nat.le_of_ble_eq_true rfl⟩).trans ?_
      refine z_bdc fun r1 h2 => ?_
      refine (z_X_if (g := z_in r1 48) (s' := (34, [(0, .ref 73), (1, .int x1), (2, .int x2), (3, .int x3)], [.int (h2.1 (73 + 2) (r1.toNatClampNeg))], h2)) rfl).trans (z_bifA ?_)
      refine (z_X_steps (s' := (35, [(0, .ref 73), (1, .int x1), (2, .int x2), (3, .int x3)], [.int 1, .int (h2.1 (73 + 2) (r1.toNatClampNeg))], h2)) 1 rfl).trans ?_
      refine (z_X_br (c := ¬ h2.1 (73 + 2) (r1.toNatClampNeg) = 1) (s1 := (41, [(0, .ref 73), (1, .int x1), (2, .int x2), (3, .int x3)], [], h2)) (s2 := (38, [(0, .ref 73), (1, .int x1), (2, .int x2), (3, .int x3)], [], h2)) rfl).trans (z_ite ?_ ?_)
      · refine (z_X_steps (s' := (14, [(3, .int (x3 + 1)), (0, .ref 73), (1, .int x1), (2, .int x2)], [], h2)) 2 rfl).trans ?_
        exact z_X_lab rfl
      · refine (z_X_steps (s' := (14, [(3, .int (x3 + 1)), (1, .int (x1 + 1)), (0, .ref 73), (2, .int x2)], [], h2)) 3 rfl).trans ?_
        exact z_X_lab rfl
  · show z_X zc_P_nodesThatCall 2 (14, [(0, .ref 81), (1, .int x1), (2, .int x2), (3, .int x3)], [], h) = _
    refine (z_X_steps (s' := (20, [(0, .ref 81), (1, .int x1), (2, .int x2), (3, .int x3)], [.int x2, .ref (81 + 1), .int x3], h)) 4 rfl).trans ?_
    refine (z_X_if (g := z_in x2 6) (s' := (21, [(0, .ref 81), (1, .int x1), (2, .int x2), (3, .int x3)], [.int (h.1 (81 + 1) (x2.toNatClampNeg)), .int x3], h)) rfl).trans (z_bifA ?_)
    refine (z_X_br (c := h.1 (81 + 1) (x2.toNatClampNeg) ≤ x3) (s1 := (47, [(0, .ref 81), (1, .int x1), (2, .int x2), (3, .int x3)], [], h)) (s2 := (24, [(0, .ref 81), (1, .int x1), (2, .int x2), (3, .int x3)], [], h)) rfl).trans (z_ite ?_ ?_)
    · refine (z_X_steps (s' := (4, [(2, .int (x2 + 1)), (0, .ref 81), (1, .int x1), (3, .int x3)], [], h)) 2 rfl).trans ?_
      exact z_X_lab rfl
    · refine (z_X_steps (s' := (30, [(0, .ref 81), (1, .int x1), (2, .int x2), (3, .int x3)], [.int x3, .int x2, .ref (81 + 2)], h)) 4 rfl).trans ?_
      refine (z_X_call (id := 42) (a := [.int x2, .int x3]) (c := 1) (s' := (33, [(0, .ref 81), (1, .int x1), (2, .int x2), (3, .int x3)], [.ref (81 + 2)], h)) rfl ⟨Nat.le_of_ble_eq_true rfl, Nat.le_of_ble_eq_true rfl⟩).trans ?_
      refine z_bdc fun r1 h2 => ?_
      refine (z_X_if (g := z_in r1 48) (s' := (34, [(0, .ref 81), (1, .int x1), (2, .int x2), (3, .int x3)], [.int (h2.1 (81 + 2) (r1.toNatClampNeg))], h2)) rfl).trans (z_bifA ?_)
      refine (z_X_steps (s' := (35, [(0, .ref 81), (1, .int x1), (2, .int x2), (3, .int x3)], [.int 1, .int (h2.1 (81 + 2) (r1.toNatClampNeg))], h2)) 1 rfl).trans ?_
      refine (z_X_br (c := ¬ h2.1 (81 + 2) (r1.toNatClampNeg) = 1) (s1 := (41, [(0, .ref 81), (1, .int x1), (2, .int x2), (3, .int x3)], [], h2)) (s2 := (38, [(0, .ref 81), (1, .int x1), (2, .int x2), (3, .int x3)], [], h2)) rfl).trans (z_ite ?_ ?_)
      · refine (z_X_steps (s' := (14, [(3, .int (x3 + 1)), (0, .ref 81), (1, .int x1), (2, .int x2)], [], h2)) 2 rfl).trans ?_
        exact z_X_lab rfl
      · refine (z_X_steps (s' := (14, [(3, .int (x3 + 1)), (1, .int (x1 + 1)), (0, .ref 81), (2, .int x2)], [], h2)) 3 rfl).trans ?_
        exact z_X_lab rfl
  · show z_X zc_P_nodesThatCall 2 (14, [(0, .ref 94), (1, .int x1), (2, .int x2), (3, .int x3)], [], h) = _
    refine (z_X_steps (s' := (20, [(0, .ref 94), (1, .int x1), (2, .int x2), (3, .int x3)], [.int x2, .ref (94 + 1), .int x3], h)) 4 rfl).trans ?_
    refine (z_X_if (g := z_in x2 6) (s' := (21, [(0, .ref 94), (1, .int x1), (2, .int x2), (3, .int x3)], [.int (h.1 (94 + 1) (x2.toNatClampNeg)), .int x3], h)) rfl).trans (z_bifA ?_)
    refine (z_X_br (c := h.1 (94 + 1) (x2.toNatClampNeg) ≤ x3) (s1 := (47, [(0, .ref 94), (1, .int x1), (2, .int x2), (3, .int x3)], [], h)) (s2 := (24, [(0, .ref 94), (1, .int x1), (2, .int x2), (3, .int x3)], [], h)) rfl).trans (z_ite ?_ ?_)
    · refine (z_X_steps (s' := (4, [(2, .int (x2 + 1)), (0, .ref 94), (1, .int x1), (3, .int x3)], [], h)) 2 rfl).trans ?_
      exact z_X_lab rfl
    · refine (z_X_steps (s' := (30, [(0, .ref 94), (1, .int x1), (2, .int x2), (3, .int x3)], [.int x3, .int x2, .ref (94 + 2)], h)) 4 rfl).trans ?_
      refine (z_X_call (id := 42) (a := [.int x2, .int x3]) (c := 1) (s' := (33, [(0, .ref 94), (1, .int x1), (2, .int x2), (3, .int x3)], [.ref (94 + 2)], h)) rfl ⟨Nat.le_of_ble_eq_true rfl, Nat.le_of_ble_eq_true rfl⟩).trans ?_
      refine z_bdc fun r1 h2 => ?_
      refine (z_X_if (g := z_in r1 48) (s' := (34, [(0, .ref 94), (1, .int x1), (2, .int x2), (3, .int x3)], [.int (h2.1 (94 + 2) (r1.toNatClampNeg))], h2)) rfl).trans (z_bifA ?_)
      refine (z_X_steps (s' := (35, [(0, .ref 94), (1, .int x1), (2, .int x2), (3, .int x3)], [.int 1, .int (h2.1 (94 + 2) (r1.toNatClampNeg))], h2)) 1 rfl).trans ?_
      refine (z_X_br (c := ¬ h2.1 (94 + 2) (r1.toNatClampNeg) = 1) (s1 := (41, [(0, .ref 94), (1, .int x1), (2, .int x2), (3, .int x3)], [], h2)) (s2 := (38, [(0, .ref 94), (1, .int x1), (2, .int x2), (3, .int x3)], [], h2)) rfl).trans (z_ite ?_ ?_)
      · refine (z_X_steps (s' := (14, [(3, .int (x3 + 1)), (0, .ref 94), (1, .int x1), (2, .int x2)], [], h2)) 2 rfl).trans ?_
        exact z_X_lab rfl
      · refine (z_X_steps (s' := (14, [(3, .int (x3 + 1)), (1, .int (x1 + 1)), (0, .ref 94), (2, .int x2)], [], h2)) 3 rfl).trans ?_
        exact z_X_lab rfl
  · show z_X zc_P_nodesThatCall 2 (14, [(0, .ref 102), (1, .int x1), (2, .int x2), (3, .int x3)], [], h) = _
    refine (z_X_steps (s' := (20, [(0, .ref 102), (1, .int x1), (2, .int x2), (3, .int x3)], [.int x2, .ref (102 + 1), .int x3], h)) 4 rfl).trans ?_
    refine (z_X_if (g := z_in x2 6) (s' := (21, [(0, .ref 102), (1, .int x1), (2, .int x2), (3, .int x3)], [.int (h.1 (102 + 1) (x2.toNatClampNeg)), .int x3], h)) rfl).trans (z_bifA ?_)
    refine (z_X_br (c := h.1 (102 + 1) (x2.toNatClampNeg) ≤ x3) (s1 := (47, [(0, .ref 102), (1, .int x1), (2, .int x2), (3, .int x3)], [], h)) (s2 := (24, [(0, .ref 102), (1, .int x1), (2, .int x2), (3, .int x3)], [], h)) rfl).trans (z_ite ?_ ?_)
    · refine (z_X_steps (s' := (4, [(2, .int (x2 + 1)), (0, .ref 102), (1, .int x1), (3, .int x3)], [], h)) 2 rfl).trans ?_
      exact z_X_lab rfl
    · refine (z_X_steps (s' := (30, [(0, .ref 102), (1, .int x1), (2, .int x2), (3, .int x3)], [.int x3, .int x2, .ref (102 + 2)], h)) 4 rfl).trans ?_
      refine (z_X_call (id := 42) (a := [.int x2, .int x3]) (c := 1) (s' := (33, [(0, .ref 102), (1, .int x1), (2, .int x2), (3, .int x3)], [.ref (102 + 2)], h)) rfl ⟨Nat.le_of_ble_eq_true rfl, Nat.le_of_ble_eq_true rfl⟩).trans ?_
      refine z_bdc fun r1 h2 => ?_
      refine (z_X_if (g := z_in r1 48) (s' := (34, [(0, .ref 102), (1, .int x1), (2, .int x2), (3, .int x3)], [.int (h2.1 (102 + 2) (r1.toNatClampNeg))], h2)) rfl).trans (z_bifA ?_)
      refine (z_X_steps (s' := (35, [(0, .ref 102), (1, .int x1), (2, .int x2), (3, .int x3)], [.int 1, .int (h2.1 (102 + 2) (r1.toNatClampNeg))], h2)) 1 rfl).trans ?_
      refine (z_X_br (c := ¬ h2.1 (102 + 2) (r1.toNatClampNeg) = 1) (s1 := (41, [(0, .ref 102), (1, .int x1), (2, .int x2), (3, .int x3)], [], h2)) (s2 := (38, [(0, .ref 102), (1, .int x1), (2, .int x2), (3, .int x3)], [], h2)) rfl).trans (z_ite ?_ ?_)
      · refine (z_X_steps (s' := (14, [(3, .int (x3 + 1)), (0, .ref 102), (1, .int x1), (2, .int x2)], [], h2)) 2 rfl).trans ?_
        exact z_X_lab rfl
      · refine (z_X_steps (s' := (14, [(3, .int (x3 + 1)), (1, .int (x1 + 1)), (0, .ref 102), (2, .int x2)], [], h2)) 3 rfl).trans ?_
        exact z_X_lab rfl
noncomputable def zl_P_nodesOtherThan_4 (o : Nat) (p : Nat) (x2 : Int32) (x3 : Int32) (h : z_H) : Option z_A := z_X zc_P_nodesOtherThan 5 (4, [(0, .ref o), (1, .ref p), (2, .int x2), (3, .int x3)], [], h)
noncomputable def zl_P_nodesOtherThan_15 (o : Nat) (p : Nat) (x2 : Int32) (x3 : Int32) (x4 : Int32) (h : z_H) : Option z_A := z_X zc_P_nodesOtherThan 5 (15, [(0, .ref o), (1, .ref p), (2, .int x2), (3, .int x3), (4, .int x4)], [], h)
set_option maxRecDepth 8000 in
set_option maxHeartbeats 2000000 in
theorem e_P_nodesOtherThan {o : Nat} {p : Nat} (hi : (o, p) ∈ [(25, 17)]) (h : z_H) : z_M 83 [.ref o, .ref p] h = zl_P_nodesOtherThan_4 o p 0 0 h := by
  refine (z_M_eq (by decide)).trans ?_
  simp only [List.mem_cons, List.not_mem_nil, or_false, Prod.mk.injEq] at hi
  obtain ⟨rfl, rfl⟩ := hi
  · show z_X zc_P_nodesOtherThan 5 (0, [(0, .ref 25), (1, .ref 17)], [], h) = _
    refine (z_X_steps (s' := (4, [(3, .int 0), (2, .int 0), (0, .ref 25), (1, .ref 17)], [], h)) 4 rfl).trans ?_
    exact z_X_lab rfl
set_option maxRecDepth 8000 in
set_option maxHeartbeats 2000000 in
theorem e_P_nodesOtherThan_4 {o : Nat} {p : Nat} (hi : (o, p) ∈ [(25, 17)]) (x2 : Int32) (x3 : Int32) (h : z_H) : zl_P_nodesOtherThan_4 o p x2 x3 h = (if h.1 o 0 ≤ x3 then some (x2, h) else zl_P_nodesOtherThan_15 o p x2 x3 0 h) := by
  simp only [List.mem_cons, List.not_mem_nil, or_false, Prod.mk.injEq] at hi
  obtain ⟨rfl, rfl⟩ := hi
  · show z_X zc_P_nodesOtherThan 5 (4, [(0, .ref 25), (1, .ref 17), (2, .int x2), (3, .int x3)], [], h) = _
    refine (z_X_steps (s' := (9, [(0, .ref 25), (1, .ref 17), (2, .int x2), (3, .int x3)], [.int (h.1 25 0), .int x3], h)) 3 rfl).trans ?_
    refine (z_X_br (c := h.1 25 0 ≤ x3) (s1 := (52, [(0, .ref 25), (1, .ref 17), (2, .int x2), (3, .int x3)], [], h)) (s2 := (12, [(0, .ref 25), (1, .ref 17), (2, .int x2), (3, .int x3)], [], h)) rfl).trans (z_ite ?_ ?_)
    · refine (z_X_steps (s' := (53, [(0, .ref 25), (1, .ref 17), (2, .int x2), (3, .int x3)], [.int x2], h)) 1 rfl).trans ?_
      exact z_X_ret rfl
    · refine (z_X_steps (s' := (15, [(4, .int 0), (0, .ref 25), (1, .ref 17), (2, .int x2), (3, .int x3)], [], h)) 2 rfl).trans ?_
      exact z_X_lab rfl
set_option maxRecDepth 8000 in
set_option maxHeartbeats 2000000 in
theorem e_P_nodesOtherThan_15 {o : Nat} {p : Nat} (hi : (o, p) ∈ [(25, 17)]) (x2 : Int32) (x3 : Int32) (x4 : Int32) (h : z_H) : zl_P_nodesOtherThan_15 o p x2 x3 x4 h = (bif z_in x3 6 then (if h.1 (o + 1) (x3.toNatClampNeg) ≤ x4 then zl_P_nodesOtherThan_4 o p x2 (x3 + 1) h else z_bd (z_M 84 [.ref o, .ref p, .int x3, .int x4] h) (fun r1 h2 => (if ¬ r1 = 0 then zl_P_nodesOtherThan_15 o p x2 x3 (x4 + 1) h2 else zl_P_nodesOtherThan_15 o p (x2 + 1) x3 (x4 + 1) h2))) else none) := by
  simp only [List.mem_cons, List.not_mem_nil, or_false, Prod.mk.injEq] at hi
  obtain ⟨rfl, rfl⟩ := hi
  · show z_X zc_P_nodesOtherThan 5 (15, [(0, .ref 25), (1, .ref 17), (2, .int x2), (3, .int x3), (4, .int x4)], [], h) = _
    refine (z_X_steps (s' := (22, [(0, .ref 25), (1, .ref 17), (2, .int x2), (3, .int x3), (4, .int x4)], [.int x3, .ref (25 + 1), .int x4], h)) 4 rfl).trans ?_
    refine (z_X_if (g := z_in x3 6) (s' := (23, [(0, .ref 25), (1, .ref 17), (2, .int x2), (3, .int x3), (4, .int x4)], [.int (h.1 (25 + 1) (x3.toNatClampNeg)), .int x4], h)) rfl).trans (z_bifA ?_)
    refine (z_X_br (c := h.1 (25 + 1) (x3.toNatClampNeg) ≤ x4) (s1 := (46, [(0, .ref 25), (1, .ref 17), (2, .int x2), (3, .int x3), (4, .int x4)], [], h)) (s2 := (26, [(0, .ref 25), (1, .ref 17), (2, .int x2), (3, .int x3), (4, .int x4)], [], h)) rfl).trans (z_ite ?_ ?_)
    · refine (z_X_steps (s' := (4, [(3, .int (x3 + 1)), (0, .ref 25), (1, .ref 17), (2, .int x2), (4, .int x4)], [], h)) 2 rfl).trans ?_
      exact z_X_lab rfl
    · refine (z_X_steps (s' := (31, [(0, .ref 25), (1, .ref 17), (2, .int x2), (3, .int x3), (4, .int x4)], [.int x4, .int x3, .ref 17, .ref 25], h)) 4 rfl).trans ?_
      refine (z_X_call (id := 84) (a := [.ref 25, .ref 17, .int x3, .int x4]) (c := 1) (s' := (34, [(0, .ref 25), (1, .ref 17), (2, .int x2), (3, .int x3), (4, .int x4)], [], h)) rfl ⟨Nat.le_of_ble_eq_true rfl, Nat.le_of_ble_eq_true rfl⟩).trans ?_
      refine z_bdc fun r1 h2 => ?_
      refine (z_X_br (c := ¬ r1 = 0) (s1 := (40, [(0, .ref 25), (1, .ref 17), (2, .int x2), (3, .int x3), (4, .int x4)], [], h2)) (s2 := (37, [(0, .ref 25), (1, .ref 17), (2, .int x2), (3, .int x3), (4, .int x4)], [], h2)) rfl).trans (z_ite ?_ ?_)
      · refine (z_X_steps (s' := (15, [(4, .int (x4 + 1)), (0, .ref 25), (1, .ref 17), (2, .int x2), (3, .int x3)], [], h2)) 2 rfl).trans ?_
        exact z_X_lab rfl
      · refine (z_X_steps (s' := (15, [(4, .int (x4 + 1)), (2, .int (x2 + 1)), (0, .ref 25), (1, .ref 17), (3, .int x3)], [], h2)) 3 rfl).trans ?_
        exact z_X_lab rfl
noncomputable def zl_P_isNodeAsIn_3 (o : Nat) (p : Nat) (x2 : Int32) (x3 : Int32) (x4 : Int32) (h : z_H) : Option z_A := z_X zc_P_isNodeAsIn 4 (3, [(0, .ref o), (1, .ref p), (2, .int x2), (3, .int x3), (4, .int x4)], [], h)
set_option maxRecDepth 8000 in
set_option maxHeartbeats 2000000 in
theorem e_P_isNodeAsIn {o : Nat} {p : Nat} (hi : (o, p) ∈ [(25, 17)]) (x2 : Int32) (x3 : Int32) (h : z_H) : z_M 84 [.ref o, .ref p, .int x2, .int x3] h = zl_P_isNodeAsIn_3 o p x2 x3 0 h := by
  refine (z_M_eq (by decide)).trans ?_
  simp only [List.mem_cons, List.not_mem_nil, or_false, Prod.mk.injEq] at hi
  obtain ⟨rfl, rfl⟩ := hi
  · show z_X zc_P_isNodeAsIn 4 (0, [(0, .ref 25), (1, .ref 17), (2, .int x2), (3, .int x3)], [], h) = _
    refine (z_X_steps (s' := (3, [(4, .int 0), (0, .ref 25), (1, .ref 17), (2, .int x2), (3, .int x3)], [], h)) 2 rfl).trans ?_
    exact z_X_lab rfl
set_option maxRecDepth 8000 in
set_option maxHeartbeats 2000000 in
theorem e_P_isNodeAsIn_3 {o : Nat} {p : Nat} (hi : (o, p) ∈ [(25, 17)]) (x2 : Int32) (x3 : Int32) (x4 : Int32) (h : z_H) : zl_P_isNodeAsIn_3 o p x2 x3 x4 h = (if (4 : Int32) < x4 then some (1, h) else z_bd (z_M 80 [.ref o, .int x2, .int x3, .int x4] h) (fun r1 h2 => z_bd (z_M 80 [.ref p, .int x2, .int x3, .int x4] h2) (fun r3 h4 => (if r1 = r3 then zl_P_isNodeAsIn_3 o p x2 x3 (x4 + 1) h4 else some (0, h4))))) := by
  simp only [List.mem_cons, List.not_mem_nil, or_false, Prod.mk.injEq] at hi
  obtain ⟨rfl, rfl⟩ := hi
  · show z_X zc_P_isNodeAsIn 4 (3, [(0, .ref 25), (1, .ref 17), (2, .int x2), (3, .int x3), (4, .int x4)], [], h) = _
    refine (z_X_steps (s' := (6, [(0, .ref 25), (1, .ref 17), (2, .int x2), (3, .int x3), (4, .int x4)], [.int 4, .int x4], h)) 2 rfl).trans ?_
    refine (z_X_br (c := (4 : Int32) < x4) (s1 := (36, [(0, .ref 25), (1, .ref 17), (2, .int x2), (3, .int x3), (4, .int x4)], [], h)) (s2 := (9, [(0, .ref 25), (1, .ref 17), (2, .int x2), (3, .int x3), (4, .int x4)], [], h)) rfl).trans (z_ite ?_ ?_)
    · refine (z_X_steps (s' := (37, [(0, .ref 25), (1, .ref 17), (2, .int x2), (3, .int x3), (4, .int x4)], [.int 1], h)) 1 rfl).trans ?_
      exact z_X_ret rfl
    · refine (z_X_steps (s' := (14, [(0, .ref 25), (1, .ref 17), (2, .int x2), (3, .int x3), (4, .int x4)], [.int x4, .int x3, .int x2, .ref 25], h)) 4 rfl).trans ?_
      refine (z_X_call (id := 80) (a := [.ref 25, .int x2, .int x3, .int x4]) (c := 1) (s' := (17, [(0, .ref 25), (1, .ref 17), (2, .int x2), (3, .int x3), (4, .int x4)], [], h)) rfl ⟨Nat.le_of_ble_eq_true rfl, Nat.le_of_ble_eq_true rfl⟩).trans ?_
      refine z_bdc fun r1 h2 => ?_
      refine (z_X_steps (s' := (22, [(0, .ref 25), (1, .ref 17), (2, .int x2), (3, .int x3), (4, .int x4)], [.int x4, .int x3, .int x2, .ref 17, .int r1], h2)) 4 rfl).trans ?_
      refine (z_X_call (id := 80) (a := [.ref 17, .int x2, .int x3, .int x4]) (c := 1) (s' := (25, [(0, .ref 25), (1, .ref 17), (2, .int x2), (3, .int x3), (4, .int x4)], [.int r1], h2)) rfl ⟨Nat.le_of_ble_eq_true rfl, Nat.le_of_ble_eq_true rfl⟩).trans ?_
      refine z_bdc fun r3 h4 => ?_
      refine (z_X_br (c := r1 = r3) (s1 := (30, [(0, .ref 25), (1, .ref 17), (2, .int x2), (3, .int x3), (4, .int x4)], [], h4)) (s2 := (28, [(0, .ref 25), (1, .ref 17), (2, .int x2), (3, .int x3), (4, .int x4)], [], h4)) rfl).trans (z_ite ?_ ?_)
      · refine (z_X_steps (s' := (3, [(4, .int (x4 + 1)), (0, .ref 25), (1, .ref 17), (2, .int x2), (3, .int x3)], [], h4)) 2 rfl).trans ?_
        exact z_X_lab rfl
      · refine (z_X_steps (s' := (29, [(0, .ref 25), (1, .ref 17), (2, .int x2), (3, .int x3), (4, .int x4)], [.int 0], h4)) 1 rfl).trans ?_
        exact z_X_ret rfl
set_option maxRecDepth 8000 in
set_option maxHeartbeats 2000000 in
theorem e_P_appendMethod {o : Nat} (hi : o ∈ [4, 17, 25, 73, 81, 94, 102]) (h : z_H) : z_M 85 [.ref o] h = (if (6 : Int32) ≤ h.1 o 0 then some (0, h) else (bif z_in (h.1 o 0) 6 then some (0, (z_wI (z_wI h (o + 1) ((h.1 o 0).toNatClampNeg) 0) o 0 (((z_wI h (o + 1) ((h.1 o 0).toNatClampNeg) 0).1 o 0) + 1))) else none)) := by
  refine (z_M_eq (by decide)).trans ?_
  simp only [List.mem_cons, List.not_mem_nil, or_false, Prod.mk.injEq] at hi
  rcases hi with rfl | rfl | rfl | rfl | rfl | rfl | rfl
  · show z_X zc_P_appendMethod 1 (0, [(0, .ref 4)], [], h) = _
    refine (z_X_steps (s' := (6, [(0, .ref 4)], [.int 6, .int (h.1 4 0)], h)) 3 rfl).trans ?_
    refine (z_X_br (c := (6 : Int32) ≤ h.1 4 0) (s1 := (29, [(0, .ref 4)], [], h)) (s2 := (9, [(0, .ref 4)], [], h)) rfl).trans (z_ite ?_ ?_)
    · exact z_X_ret rfl
    · refine (z_X_steps (s' := (18, [(0, .ref 4)], [.int 0, .int (h.1 4 0), .ref (4 + 1)], h)) 5 rfl).trans ?_
      refine (z_X_if (g := z_in (h.1 4 0) 6) (s' := (19, [(0, .ref 4)], [], (z_wI h (4 + 1) ((h.1 4 0).toNatClampNeg) 0))) rfl).trans (z_bifA ?_)
      refine (z_X_steps (s' := (29, [(0, .ref 4)], [], (z_wI (z_wI h (4 + 1) ((h.1 4 0).toNatClampNeg) 0) 4 0 (((z_wI h (4 + 1) ((h.1 4 0).toNatClampNeg) 0).1 4 0) + 1)))) 6 rfl).trans ?_
      exact z_X_ret rfl
  · show z_X zc_P_appendMethod 1 (0, [(0, .ref 17)], [], h) = _
    refine (z_X_steps (s' := (6, [(0, .ref 17)], [.int 6, .int (h.1 17 0)], h)) 3 rfl).trans ?_
    refine (z_X_br (c := (6 : Int32) ≤ h.1 17 0) (s1 := (29, [(0, .ref 17)], [], h)) (s2 := (9, [(0, .ref 17)], [], h)) rfl).trans (z_ite ?_ ?_)
    · exact z_X_ret rfl
    · refine (z_X_steps (s' := (18, [(0, .ref 17)], [.int 0, .int (h.1 17 0), .ref (17 + 1)], h)) 5 rfl).trans ?_
      refine (z_X_if (g := z_in (h.1 17 0) 6) (s' := (19, [(0, .ref 17)], [], (z_wI h (17 + 1) ((h.1 17 0).toNatClampNeg) 0))) rfl).trans (z_bifA ?_)
      refine (z_X_steps (s' := (29, [(0, .ref 17)], [], (z_wI (z_wI h (17 + 1) ((h.1 17 0).toNatClampNeg) 0) 17 0 (((z_wI h (17 + 1) ((h.1 17 0).toNatClampNeg) 0).1 17 0) + 1)))) 6 rfl).trans ?_
      exact z_X_ret rfl
  · show z_X zc_P_appendMethod 1 (0, [(0, .ref 25)], [], h) = _
    refine (z_X_steps (s' := (6, [(0, .ref 25)], [.int 6, .int (h.1 25 0)], h)) 3 rfl).trans ?_
    refine (z_X_br (c := (6 : Int32) ≤ h.1 25 0) (s1 := (29, [(0, .ref 25)], [], h)) (s2 := (9, [(0, .ref 25)], [], h)) rfl).trans (z_ite ?_ ?_)
    · exact z_X_ret rfl
    · refine (z_X_steps (s' := (18, [(0, .ref 25)], [.int 0, .int (h.1 25 0), .ref (25 + 1)], h)) 5 rfl).trans ?_
      refine (z_X_if (g := z_in (h.1 25 0) 6) (s' := (19, [(0, .ref 25)], [], (z_wI h (25 + 1) ((h.1 25 0).toNatClampNeg) 0))) rfl).trans (z_bifA ?_)
      refine (z_X_steps (s' := (29, [(0, .ref 25)], [], (z_wI (z_wI h (25 + 1) ((h.1 25 0).toNatClampNeg) 0) 25 0 (((z_wI h (25 + 1) ((h.1 25 0).toNatClampNeg) 0).1 25 0) + 1)))) 6 rfl).trans ?_
      exact z_X_ret rfl
  · show z_X zc_P_appendMethod 1 (0, [(0, .ref 73)], [], h) = _
    refine (z_X_steps (s' := (6, [(0, .ref 73)], [.int 6, .int (h.1 73 0)], h)) 3 rfl).trans ?_
    refine (z_X_br (c := (6 : Int32) ≤ h.1 73 0) (s1 := (29, [(0, .ref 73)], [], h)) (s2 := (9, [(0, .ref 73)], [], h)) rfl).trans (z_ite ?_ ?_)
    · exact z_X_ret rfl
    · refine (z_X_steps (s' := (18, [(0, .ref 73)], [.int 0, .int (h.1 73 0), .ref (73 + 1)], h)) 5 rfl).trans ?_
      refine (z_X_if (g := z_in (h.1 73 0) 6) (s' := (19, [(0, .ref 73)], [], (z_wI h (73 + 1) ((h.1 73 0).toNatClampNeg) 0))) rfl).trans (z_bifA ?_)
      refine (z_X_steps (s' := (29, [(0, .ref 73)], [], (z_wI (z_wI h (73 + 1) ((h.1 73 0).toNatClampNeg) 0) 73 0 (((z_wI h (73 + 1) ((h.1 73 0).toNatClampNeg) 0).1 73 0) + 1)))) 6 rfl).trans ?_
      exact z_X_ret rfl
  · show z_X zc_P_appendMethod 1 (0, [(0, .ref 81)], [], h) = _
    refine (z_X_steps (s' := (6, [(0, .ref 81)], [.int 6, .int (h.1 81 0)], h)) 3 rfl).trans ?_
    refine (z_X_br (c := (6 : Int32) ≤ h.1 81 0) (s1 := (29, [(0, .ref 81)], [], h)) (s2 := (9, [(0, .ref 81)], [], h)) rfl).trans (z_ite ?_ ?_)
    · exact z_X_ret rfl
    · refine (z_X_steps (s' := (18, [(0, .ref 81)], [.int 0, .int (h.1 81 0), .ref (81 + 1)], h)) 5 rfl).trans ?_
      refine (z_X_if (g := z_in (h.1 81 0) 6) (s' := (19, [(0, .ref 81)], [], (z_wI h (81 + 1) ((h.1 81 0).toNatClampNeg) 0))) rfl).trans (z_bifA ?_)
      refine (z_X_steps (s' := (29, [(0, .ref 81)], [], (z_wI (z_wI h (81 + 1) ((h.1 81 0).toNatClampNeg) 0) 81 0 (((z_wI h (81 + 1) ((h.1 81 0).toNatClampNeg) 0).1 81 0) + 1)))) 6 rfl).trans ?_
      exact z_X_ret rfl
  · show z_X zc_P_appendMethod 1 (0, [(0, .ref 94)], [], h) = _
    refine (z_X_steps (s' := (6, [(0, .ref 94)], [.int 6, .int (h.1 94 0)], h)) 3 rfl).trans ?_
    refine (z_X_br (c := (6 : Int32) ≤ h.1 94 0) (s1 := (29, [(0, .ref 94)], [], h)) (s2 := (9, [(0, .ref 94)], [], h)) rfl).trans (z_ite ?_ ?_)
    · exact z_X_ret rfl
    · refine (z_X_steps (s' := (18, [(0, .ref 94)], [.int 0, .int (h.1 94 0), .ref (94 + 1)], h)) 5 rfl).trans ?_
      refine (z_X_if (g := z_in (h.1 94 0) 6) (s' := (19, [(0, .ref 94)], [], (z_wI h (94 + 1) ((h.1 94 0).toNatClampNeg) 0))) rfl).trans (z_bifA ?_)
      refine (z_X_steps (s' := (29, [(0, .ref 94)], [], (z_wI (z_wI h (94 + 1) ((h.1 94 0).toNatClampNeg) 0) 94 0 (((z_wI h (94 + 1) ((h.1 94 0).toNatClampNeg) 0).1 94 0) + 1)))) 6 rfl).trans ?_
      exact z_X_ret rfl
  · show z_X zc_P_appendMethod 1 (0, [(0, .ref 102)], [], h) = _
    refine (z_X_steps (s' := (6, [(0, .ref 102)], [.int 6, .int (h.1 102 0)], h)) 3 rfl).trans ?_
    refine (z_X_br (c := (6 : Int32) ≤ h.1 102 0) (s1 := (29, [(0, .ref 102)], [], h)) (s2 := (9, [(0, .ref 102)], [], h)) rfl).trans (z_ite ?_ ?_)
    · exact z_X_ret rfl
    · refine (z_X_steps (s' := (18, [(0, .ref 102)], [.int 0, .int (h.1 102 0), .ref (102 + 1)], h)) 5 rfl).trans ?_
      refine (z_X_if (g := z_in (h.1 102 0) 6) (s' := (19, [(0, .ref 102)], [], (z_wI h (102 + 1) ((h.1 102 0).toNatClampNeg) 0))) rfl).trans (z_bifA ?_)
      refine (z_X_steps (s' := (29, [(0, .ref 102)], [], (z_wI (z_wI h (102 + 1) ((h.1 102 0).toNatClampNeg) 0) 102 0 (((z_wI h (102 + 1) ((h.1 102 0).toNatClampNeg) 0).1 102 0) + 1)))) 6 rfl).trans ?_
      exact z_X_ret rfl
set_option maxRecDepth 8000 in
set_option maxHeartbeats 2000000 in
theorem e_P_appendNode {o : Nat} (hi : o ∈ [4, 17, 25, 73, 81, 94, 102]) (x1 : Int32) (x2 : Int32) (h : z_H) : z_M 86 [.ref o, .int x1, .int x2] h = (if (h.1 o 0) - 1 < 0 then some (0, h) else (bif z_in ((h.1 o 0) - 1) 6 then (if (8 : Int32) ≤ h.1 (o + 1) (((h.1 o 0) - 1).toNatClampNeg) then some (0, h) else (bif z_in ((h.1 o 0) - 1) 6 then z_bd (z_M 42 [.int ((h.1 o 0) - 1), .int (h.1 (o + 1) (((h.1 o 0) - 1).toNatClampNeg))] h) (fun r1 h2 => (bif z_in r1 48 then (bif z_in r1 48 then (bif z_in r1 48 then (bif z_in ((h.1 o 0) - 1) 6 then (bif z_in ((h.1 o 0) - 1) 6 then some (0, (z_wI (z_wI (z_wI (z_wI h2 (o + 2) (r1.toNatClampNeg) x1) (o + 3) (r1.toNatClampNeg) x2) (o + 4) (r1.toNatClampNeg) 0) (o + 1) (((h.1 o 0) - 1).toNatClampNeg) (((z_wI (z_wI (z_wI h2 (o + 2) (r1.toNatClampNeg) x1) (o + 3) (r1.toNatClampNeg) x2) (o + 4) (r1.toNatClampNeg) 0).1 (o + 1) (((h.1 o 0) - 1).toNatClampNeg)) + 1))) else none) else none) else none) else none) else none)) else none)) else none)) := by
  refine (z_M_eq (by decide)).trans ?_
  simp only [List.mem_cons, List.not_mem_nil, or_false, Prod.mk.injEq] at hi
  rcases hi with rfl | rfl | rfl | rfl | rfl | rfl | rfl
  · show z_X zc_P_appendNode 2 (0, [(0, .ref 4), (1, .int x1), (2, .int x2)], [], h) = _
    refine (z_X_steps (s' := (8, [(3, .int ((h.1 4 0) - 1)), (0, .ref 4), (1, .int x1), (2, .int x2)], [.int ((h.1 4 0) - 1)], h)) 6 rfl).trans ?_
    refine (z_X_br (c := (h.1 4 0) - 1 < 0) (s1 := (68, [(3, .int ((h.1 4 0) - 1)), (0, .ref 4), (1, .int x1), (2, .int x2)], [], h)) (s2 := (11, [(3, .int ((h.1 4 0) - 1)), (0, .ref 4), (1, .int x1), (2, .int x2)], [], h)) rfl).trans (z_ite ?_ ?_)
    · exact z_X_ret rfl
    · refine (z_X_steps (s' := (16, [(3, .int ((h.1 4 0) - 1)), (0, .ref 4), (1, .int x1), (2, .int x2)], [.int ((h.1 4 0) - 1), .ref (4 + 1)], h)) 3 rfl).trans ?_
      refine (z_X_if (g := z_in ((h.1 4 0) - 1) 6) (s' := (17, [(3, .int ((h.1 4 0) - 1)), (0, .ref 4), (1, .int x1), (2, .int x2)], [.int (h.1 (4 + 1) (((h.1 4 0) - 1).toNatClampNeg))], h)) rfl).trans (z_bifA ?_)
      refine (z_X_steps (s' := (19, [(3, .int ((h.1 4 0) - 1)), (0, .ref 4), (1, .int x1), (2, .int x2)], [.int 8, .int (h.1 (4 + 1) (((h.1 4 0) - 1).toNatClampNeg))], h)) 1 rfl).trans ?_
      refine (z_X_br (c := (8 : Int32) ≤ h.1 (4 + 1) (((h.1 4 0) - 1).toNatClampNeg)) (s1 := (68, [(3, .int ((h.1 4 0) - 1)), (0, .ref 4), (1, .int x1), (2, .int x2)], [], h)) (s2 := (22, [(3, .int ((h.1 4 0) - 1)), (0, .ref 4), (1, .int x1), (2, .int x2)], [], h)) rfl).trans (z_ite ?_ ?_)
      · exact z_X_ret rfl
      · refine (z_X_steps (s' := (28, [(3, .int ((h.1 4 0) - 1)), (0, .ref 4), (1, .int x1), (2, .int x2)], [.int ((h.1 4 0) - 1), .ref (4 + 1), .int ((h.1 4 0) - 1)], h)) 4 rfl).trans ?_
        refine (z_X_if (g := z_in ((h.1 4 0) - 1) 6) (s' := (29, [(3, .int ((h.1 4 0) - 1)), (0, .ref 4), (1, .int x1), (2, .int x2)], [.int (h.1 (4 + 1) (((h.1 4 0) - 1).toNatClampNeg)), .int ((h.1 4 0) - 1)], h)) rfl).trans (z_bifA ?_)
        refine (z_X_call (id := 42) (a := [.int ((h.1 4 0) - 1), .int (h.1 (4 + 1) (((h.1 4 0) - 1).toNatClampNeg))]) (c := 1) (s' := (32, [(3, .int ((h.1 4 0) - 1)), (0, .ref 4), (1, .int x1), (2, .int x2)], [], h)) rfl ⟨Nat.le_of_ble_eq_true rfl, Nat.le_of_ble_eq_true rfl⟩).trans ?_
        refine z_bdc fun r1 h2 => ?_
        refine (z_X_steps (s' := (41, [(4, .int r1), (3, .int ((h.1 4 0) - 1)), (0, .ref 4), (1, .int x1), (2, .int x2)], [.int x1, .int r1, .ref (4 + 2)], h2)) 5 rfl).trans ?_
        refine (z_X_if (g := z_in r1 48) (s' := (42, [(4, .int r1), (3, .int ((h.1 4 0) - 1)), (0, .ref 4), (1, .int x1), (2, .int x2)], [], (z_wI h2 (4 + 2) (r1.toNatClampNeg) x1))) rfl).trans (z_bifA ?_)
        refine (z_X_steps (s' := (49, [(4, .int r1), (3, .int ((h.1 4 0) - 1)), (0, .ref 4), (1, .int x1), (2, .int x2)], [.int x2, .int r1, .ref (4 + 3)], (z_wI h2 (4 + 2) (r1.toNatClampNeg) x1))) 4 rfl).trans ?_
        refine (z_X_if (g := z_in r1 48) (s' := (50, [(4, .int r1), (3, .int ((h.1 4 0) - 1)), (0, .ref 4), (1, .int x1), (2, .int x2)], [], (z_wI (z_wI h2 (4 + 2) (r1.toNatClampNeg) x1) (4 + 3) (r1.toNatClampNeg) x2))) rfl).trans (z_bifA ?_)
        refine (z_X_steps (s' := (57, [(4, .int r1), (3, .int ((h.1 4 0) - 1)), (0, .ref 4), (1, .int x1), (2, .int x2)], [.int 0, .int r1, .ref (4 + 4)], (z_wI (z_wI h2 (4 + 2) (r1.toNatClampNeg) x1) (4 + 3) (r1.toNatClampNeg) x2))) 4 rfl).trans ?_
        refine (z_X_if (g := z_in r1 48) (s' := (58, [(4, .int r1), (3, .int ((h.1 4 0) - 1)), (0, .ref 4), (1, .int x1), (2, .int x2)], [], (z_wI (z_wI (z_wI h2 (4 + 2) (r1.toNatClampNeg) x1) (4 + 3) (r1.toNatClampNeg) x2) (4 + 4) (r1.toNatClampNeg) 0))) rfl).trans (z_bifA ?_)
        refine (z_X_steps (s' := (64, [(4, .int r1), (3, .int ((h.1 4 0) - 1)), (0, .ref 4), (1, .int x1), (2, .int x2)], [.int ((h.1 4 0) - 1), .ref (4 + 1), .int ((h.1 4 0) - 1), .ref (4 + 1)], (z_wI (z_wI (z_wI h2 (4 + 2) (r1.toNatClampNeg) x1) (4 + 3) (r1.toNatClampNeg) x2) (4 + 4) (r1.toNatClampNeg) 0))) 4 rfl).trans ?_
        refine (z_X_if (g := z_in ((h.1 4 0) - 1) 6) (s' := (65, [(4, .int r1), (3, .int ((h.1 4 0) - 1)), (0, .ref 4), (1, .int x1), (2, .int x2)], [.int ((z_wI (z_wI (z_wI h2 (4 + 2) (r1.toNatClampNeg) x1) (4 + 3) (r1.toNatClampNeg) x2) (4 + 4) (r1.toNatClampNeg) 0).1 (4 + 1) (((h.1 4 0) - 1).toNatClampNeg)), .int ((h.1 4 0) - 1), .ref (4 + 1)], (z_wI (z_wI (z_wI h2 (4 + 2) (r1.toNatClampNeg) x1) (4 + 3) (r1.toNatClampNeg) x2) (4 + 4) (r1.toNatClampNeg) 0))) rfl).trans (z_bifA ?_)
        refine (z_X_steps (s' := (67, [(4, .int r1), (3, .int ((h.1 4 0) - 1)), (0, .ref 4), (1, .int x1), (2, .int x2)], [.int (((z_wI (z_wI (z_wI h2 (4 + 2) (r1.toNatClampNeg) x1) (4 + 3) (r1.toNatClampNeg) x2) (4 + 4) (r1.toNatClampNeg) 0).1 (4 + 1) (((h.1 4 0) - 1).toNatClampNeg)) + 1), .int ((h.1 4 0) - 1), .ref (4 + 1)], (z_wI (z_wI (z_wI h2 (4 + 2) (r1.toNatClampNeg) x1) (4 + 3) (r1.toNatClampNeg) x2) (4 + 4) (r1.toNatClampNeg) 0))) 2 rfl).trans ?_
        refine (z_X_if (g := z_in ((h.1 4 0) - 1) 6) (s' := (68, [(4, .int r1), (3, .int ((h.1 4 0) - 1)), (0, .ref 4), (1, .int x1), (2, .int x2)], [], (z_wI (z_wI (z_wI (z_wI h2 (4 + 2) (r1.toNatClampNeg) x1) (4 + 3) (r1.toNatClampNeg) x2) (4 + 4) (r1.toNatClampNeg) 0) (4 + 1) (((h.1 4 0) - 1).toNatClampNeg) (((z_wI (z_wI (z_wI h2 (4 + 2) (r1.toNatClampNeg) x1) (4 + 3) (r1.toNatClampNeg) x2) (4 + 4) (r1.toNatClampNeg) 0).1 (4 + 1) (((h.1 4 0) - 1).toNatClampNeg)) + 1)))) rfl).trans (z_bifA ?_)
        exact z_X_ret rfl
  · show z_X zc_P_appendNode 2 (0, [(0, .ref 17), (1, .int x1), (2, .int x2)], [], h) = _
    refine (z_X_steps (s' := (8, [(3, .int ((h.1 17 0) - 1)), (0, .ref 17), (1, .int x1), (2, .int x2)], [.int ((h.1 17 0) - 1)], h)) 6 rfl).trans ?_
    refine (z_X_br (c := (h.1 17 0) - 1 < 0) (s1 := (68, [(3, .int ((h.1 17 0) - 1)), (0, .ref 17), (1, .int x1), (2, .int x2)], [], h)) (s2 := (11, [(3, .int ((h.1 17 0) - 1)), (0, .ref 17), (1, .int x1), (2, .int x2)], [], h)) rfl).trans (z_ite ?_ ?_)
    · exact z_X_ret rfl
    · refine (z_X_steps (s' := (16, [(3, .int ((h.1 17 0) - 1)), (0, .ref 17), (1, .int x1), (2, .int x2)], [.int ((h.1 17 0) - 1), .ref (17 + 1)], h)) 3 rfl).trans ?_
      refine (z_X_if (g := z_in ((h.1 17 0) - 1) 6) (s' := (17, [(3, .int ((h.1 17 0) - 1)), (0, .ref 17), (1, .int x1), (2, .int x2)], [.int (h.1 (17 + 1) (((h.1 17 0) - 1).toNatClampNeg))], h)) rfl).trans (z_bifA ?_)
      refine (z_X_steps (s' := (19, [(3, .int ((h.1 17 0) - 1)), (0, .ref 17), (1, .int x1), (2, .int x2)], [.int 8, .int (h.1 (17 + 1) (((h.1 17 0) - 1).toNatClampNeg))], h)) 1 rfl).trans ?_
      refine (z_X_br (c := (8 : Int32) ≤ h.1 (17 + 1) (((h.1 17 0) - 1).toNatClampNeg)) (s1 := (68, [(3, .int ((h.1 17 0) - 1)), (0, .ref 17), (1, .int x1), (2, .int x2)], [], h)) (s2 := (22, [(3, .int ((h.1 17 0) - 1)), (0, .ref 17), (1, .int x1), (2, .int x2)], [], h)) rfl).trans (z_ite ?_ ?_)
      · exact z_X_ret rfl
      · refine (z_X_steps (s' := (28, [(3, .int ((h.1 17 0) - 1)), (0, .ref 17), (1, .int x1), (2, .int x2)], [.int ((h.1 17 0) - 1), .ref (17 + 1), .int ((h.1 17 0) - 1)], h)) 4 rfl).trans ?_
        refine (z_X_if (g := z_in ((h.1 17 0) - 1) 6) (s' := (29, [(3, .int ((h.1 17 0) - 1)), (0, .ref 17), (1, .int x1), (2, .int x2)], [.int (h.1 (17 + 1) (((h.1 17 0) - 1).toNatClampNeg)), .int ((h.1 17 0) - 1)], h)) rfl).trans (z_bifA ?_)
        refine (z_X_call (id := 42) (a := [.int ((h.1 17 0) - 1), .int (h.1 (17 + 1) (((h.1 17 0) - 1).toNatClampNeg))]) (c := 1) (s' := (32, [(3, .int ((h.1 17 0) - 1)), (0, .ref 17), (1, .int x1), (2, .int x2)], [], h)) rfl ⟨Nat.le_of_ble_eq_true rfl, Nat.le_of_ble_eq_true rfl⟩).trans ?_
        refine z_bdc fun r1 h2 => ?_
        refine (z_X_steps (s' := (41, [(4, .int r1), (3, .int ((h.1 17 0) - 1)), (0, .ref 17), (1, .int x1), (2, .int x2)], [.int x1, .int r1, .ref (17 + 2)], h2)) 5 rfl).trans ?_
        refine (z_X_if (g := z_in r1 48) (s' := (42, [(4, .int r1), (3, .int ((h.1 17 0) - 1)), (0, .ref 17), (1, .int x1), (2, .int x2)], [], (z_wI h2 (17 + 2) (r1.toNatClampNeg) x1))) rfl).trans (z_bifA ?_)
        refine (z_X_steps (s' := (49, [(4, .int r1), (3, .int ((h.1 17 0) - 1)), (0, .ref 17), (1, .int x1), (2, .int x2)], [.int x2, .int r1, .ref (17 + 3)], (z_wI h2 (17 + 2) (r1.toNatClampNeg) x1))) 4 rfl).trans ?_
        refine (z_X_if (g := z_in r1 48) (s' := (50, [(4, .int r1), (3, .int ((h.1 17 0) - 1)), (0, .ref 17), (1, .int x1), (2, .int x2)], [], (z_wI (z_wI h2 (17 + 2) (r1.toNatClampNeg) x1) (17 + 3) (r1.toNatClampNeg) x2))) rfl).trans (z_bifA ?_)
        refine (z_X_steps (s' := (57, [(4, .int r1), (3, .int ((h.1 17 0) - 1)), (0, .ref 17), (1, .int x1), (2, .int x2)], [.int 0, .int r1, .ref (17 + 4)], (z_wI (z_wI h2 (17 + 2) (r1.toNatClampNeg) x1) (17 + 3) (r1.toNatClampNeg) x2))) 4 rfl).trans ?_
        refine (z_X_if (g := z_in r1 48) (s' := (58, [(4, .int r1), (3, .int ((h.1 17 0) - 1)), (0, .ref 17), (1, .int x1), (2, .int x2)], [], (z_wI (z_wI (z_wI h2 (17 + 2) (r1.toNatClampNeg) x1) (17 + 3) (r1.toNatClampNeg) x2) (17 + 4) (r1.toNatClampNeg) 0))) rfl).trans (z_bifA ?_)
        refine (z_X_steps (s' := (64, [(4, .int r1), (3, .int ((h.1 17 0) - 1)), (0, .ref 17), (1, .int x1), (2, .int x2)], [.int ((h.1 17 0) - 1), .ref (17 + 1), .int ((h.1 17 0) - 1), .ref (17 + 1)], (z_wI (z_wI (z_wI h2 (17 + 2) (r1.toNatClampNeg) x1) (17 + 3) (r1.toNatClampNeg) x2) (17 + 4) (r1.toNatClampNeg) 0))) 4 rfl).trans ?_
        refine (z_X_if (g := z_in ((h.1 17 0) - 1) 6) (s' := (65, [(4, .int r1), (3, .int ((h.1 17 0) - 1)), (0, .ref 17), (1, .int x1), (2, .int x2)], [.int ((z_wI (z_wI (z_wI h2 (17 + 2) (r1.toNatClampNeg) x1) (17 + 3) (r1.toNatClampNeg) x2) (17 + 4) (r1.toNatClampNeg) 0).1 (17 + 1) (((h.1 17 0) - 1).toNatClampNeg)), .int ((h.1 17 0) - 1), .ref (17 + 1)], (z_wI (z_wI (z_wI h2 (17 + 2) (r1.toNatClampNeg) x1) (17 + 3) (r1.toNatClampNeg) x2) (17 + 4) (r1.toNatClampNeg) 0))) rfl).trans (z_bifA ?_)
        refine (z_X_steps (s' := (67, [(4, .int r1), (3, .int ((h.1 17 0) - 1)), (0, .ref 17), (1, .int x1), (2, .int x2)], [.int (((z_wI (z_wI (z_wI h2 (17 + 2) (r1.toNatClampNeg) x1) (17 + 3) (r1.toNatClampNeg) x2) (17 + 4) (r1.toNatClampNeg) 0).1 (17 + 1) (((h.1 17 0) - 1).toNatClampNeg)) + 1), .int ((h.1 17 0) - 1), .ref (17 + 1)], (z_wI (z_wI (z_wI h2 (17 + 2) (r1.toNatClampNeg) x1) (17 + 3) (r1.toNatClampNeg) x2) (17 + 4) (r1.toNatClampNeg) 0))) 2 rfl).trans ?_
        refine (z_X_if (g := z_in ((h.1 17 0) - 1) 6) (s' := (68, [(4, .int r1), (3, .int ((h.1 17 0) - 1)), (0, .ref 17), (1, .int x1), (2, .int x2)], [], (z_wI (z_wI (z_wI (z_wI h2 (17 + 2) (r1.toNatClampNeg) x1) (17 + 3) (r1.toNatClampNeg) x2) (17 + 4) (r1.toNatClampNeg) 0) (17 + 1) (((h.1 17 0) - 1).toNatClampNeg) (((z_wI (z_wI (z_wI h2 (17 + 2) (r1.toNatClampNeg) x1) (17 + 3) (r1.toNatClampNeg) x2) (17 + 4) (r1.toNatClampNeg) 0).1 (17 + 1) (((h.1 17 0) - 1).toNatClampNeg)) + 1)))) rfl).trans (z_bifA ?_)
        exact z_X_ret rfl
  · show z_X zc_P_appendNode 2 (0, [(0, .ref 25), (1, .int x1), (2, .int x2)], [], h) = _
    refine (z_X_steps (s' := (8, [(3, .int ((h.1 25 0) - 1)), (0, .ref 25), (1, .int x1), (2, .int x2)], [.int ((h.1 25 0) - 1)], h)) 6 rfl).trans ?_
    refine (z_X_br (c := (h.1 25 0) - 1 < 0) (s1 := (68, [(3, .int ((h.1 25 0) - 1)), (0, .ref 25), (1, .int x1), (2, .int x2)], [], h)) (s2 := (11, [(3, .int ((h.1 25 0) - 1)), (0, .ref 25), (1, .int x1), (2, .int x2)], [], h)) rfl).trans (z_ite ?_ ?_)
    · exact z_X_ret rfl
    · refine (z_X_steps (s' := (16, [(3, .int ((h.1 25 0) - 1)), (0, .ref 25), (1, .int x1), (2, .int x2)], [.int ((h.1 25 0) - 1), .ref (25 + 1)], h)) 3 rfl).trans ?_
      refine (z_X_if (g := z_in ((h.1 25 0) - 1) 6) (s' := (17, [(3, .int ((h.1 25 0) - 1)), (0, .ref 25), (1, .int x1), (2, .int x2)], [.int (h.1 (25 + 1) (((h.1 25 0) - 1).toNatClampNeg))], h)) rfl).trans (z_bifA ?_)
      refine (z_X_steps (s' := (19, [(3, .int ((h.1 25 0) - 1)), (0, .ref 25), (1, .int x1), (2, .int x2)], [.int 8, .int (h.1 (25 + 1) (((h.1 25 0) - 1).toNatClampNeg))], h)) 1 rfl).trans ?_
      refine (z_X_br (c := (8 : Int32) ≤ h.1 (25 + 1) (((h.1 25 0) - 1).toNatClampNeg)) (s1 := (68, [(3, .int ((h.1 25 0) - 1)), (0, .ref 25), (1, .int x1), (2, .int x2)], [], h)) (s2 := (22, [(3, .int ((h.1 25 0) - 1)), (0, .ref 25), (1, .int x1), (2, .int x2)], [], h)) rfl).trans (z_ite ?_ ?_)
      · exact z_X_ret rfl
      · refine (z_X_steps (s' := (28, [(3, .int ((h.1 25 0) - 1)), (0, .ref 25), (1, .int x1), (2, .int x2)], [.int ((h.1 25 0) - 1), .ref (25 + 1), .int ((h.1 25 0) - 1)], h)) 4 rfl).trans ?_
        refine (z_X_if (g := z_in ((h.1 25 0) - 1) 6) (s' := (29, [(3, .int ((h.1 25 0) - 1)), (0, .ref 25), (1, .int x1), (2, .int x2)], [.int (h.1 (25 + 1) (((h.1 25 0) - 1).toNatClampNeg)), .int ((h.1 25 0) - 1)], h)) rfl).trans (z_bifA ?_)
        refine (z_X_call (id := 42) (a := [.int ((h.1 25 0) - 1), .int (h.1 (25 + 1) (((h.1 25 0) - 1).toNatClampNeg))]) (c := 1) (s' := (32, [(3, .int ((h.1 25 0) - 1)), (0, .ref 25), (1, .int x1), (2, .int x2)], [], h)) rfl ⟨Nat.le_of_ble_eq_true rfl, Nat.le_of_ble_eq_true rfl⟩).trans ?_
        refine z_bdc fun r1 h2 => ?_
        refine (z_X_steps (s' := (41, [(4, .int r1), (3, .int ((h.1 25 0) - 1)), (0, .ref 25), (1, .int x1), (2, .int x2)], [.int x1, .int r1, .ref (25 + 2)], h2)) 5 rfl).trans ?_
        refine (z_X_if (g := z_in r1 48) (s' := (42, [(4, .int r1), (3, .int ((h.1 25 0) - 1)), (0, .ref 25), (1, .int x1), (2, .int x2)], [], (z_wI h2 (25 + 2) (r1.toNatClampNeg) x1))) rfl).trans (z_bifA ?_)
        refine (z_X_steps (s' := (49, [(4, .int r1), (3, .int ((h.1 25 0) - 1)), (0, .ref 25), (1, .int x1), (2, .int x2)], [.int x2, .int r1, .ref (25 + 3)], (z_wI h2 (25 + 2) (r1.toNatClampNeg) x1))) 4 rfl).trans ?_
        refine (z_X_if (g := z_in r1 48) (s' := (50, [(4, .int r1), (3, .int ((h.1 25 0) - 1)), (0, .ref 25), (1, .int x1), (2, .int x2)], [], (z_wI (z_wI h2 (25 + 2) (r1.toNatClampNeg) x1) (25 + 3) (r1.toNatClampNeg) x2))) rfl).trans (z_bifA ?_)
        refine (z_X_steps (s' := (57, [(4, .int r1), (3, .int ((h.1 25 0) - 1)), (0, .ref 25), (1, .int x1), (2, .int x2)], [.int 0, .int r1, .ref (25 + 4)], (z_wI (z_wI h2 (25 + 2) (r1.toNatClampNeg) x1) (25 + 3) (r1.toNatClampNeg) x2))) 4 rfl).trans ?_
        refine (z_X_if (g := z_in r1 48) (s' := (58, [(4, .int r1), (3, .int ((h.1 25 0) - 1)), (0, .ref 25), (1, .int x1), (2, .int x2)], [], (z_wI (z_wI (z_wI h2 (25 + 2) (r1.toNatClampNeg) x1) (25 + 3) (r1.toNatClampNeg) x2) (25 + 4) (r1.toNatClampNeg) 0))) rfl).trans (z_bifA ?_)
        refine (z_X_steps (s' := (64, [(4, .int r1), (3, .int ((h.1 25 0) - 1)), (0, .ref 25), (1, .int x1), (2, .int x2)], [.int ((h.1 25 0) - 1), .ref (25 + 1), .int ((h.1 25 0) - 1), .ref (25 + 1)], (z_wI (z_wI (z_wI h2 (25 + 2) (r1.toNatClampNeg) x1) (25 + 3) (r1.toNatClampNeg) x2) (25 + 4) (r1.toNatClampNeg) 0))) 4 rfl).trans ?_
        refine (z_X_if (g := z_in ((h.1 25 0) - 1) 6) (s' := (65, [(4, .int r1), (3, .int ((h.1 25 0) - 1)), (0, .ref 25), (1, .int x1), (2, .int x2)], [.int ((z_wI (z_wI (z_wI h2 (25 + 2) (r1.toNatClampNeg) x1) (25 + 3) (r1.toNatClampNeg) x2) (25 + 4) (r1.toNatClampNeg) 0).1 (25 + 1) (((h.1 25 0) - 1).toNatClampNeg)), .int ((h.1 25 0) - 1), .ref (25 + 1)], (z_wI (z_wI (z_wI h2 (25 + 2) (r1.toNatClampNeg) x1) (25 + 3) (r1.toNatClampNeg) x2) (25 + 4) (r1.toNatClampNeg) 0))) rfl).trans (z_bifA ?_)
        refine (z_X_steps (s' := (67, [(4, .int r1), (3, .int ((h.1 25 0) - 1)), (0, .ref 25), (1, .int x1), (2, .int x2)], [.int (((z_wI (z_wI (z_wI h2 (25 + 2) (r1.toNatClampNeg) x1) (25 + 3) (r1.toNatClampNeg) x2) (25 + 4) (r1.toNatClampNeg) 0).1 (25 + 1) (((h.1 25 0) - 1).toNatClampNeg)) + 1), .int ((h.1 25 0) - 1), .ref (25 + 1)], (z_wI (z_wI (z_wI h2 (25 + 2) (r1.toNatClampNeg) x1) (25 + 3) (r1.toNatClampNeg) x2) (25 + 4) (r1.toNatClampNeg) 0))) 2 rfl).trans ?_
        refine (z_X_if (g := z_in ((h.1 25 0) - 1) 6) (s' := (68, [(4, .int r1), (3, .int ((h.1 25 0) - 1)), (0, .ref 25), (1, .int x1), (2, .int x2)], [], (z_wI (z_wI (z_wI (z_wI h2 (25 + 2) (r1.toNatClampNeg) x1) (25 + 3) (r1.toNatClampNeg) x2) (25 + 4) (r1.toNatClampNeg) 0) (25 + 1) (((h.1 25 0) - 1).toNatClampNeg) (((z_wI (z_wI (z_wI h2 (25 + 2) (r1.toNatClampNeg) x1) (25 + 3) (r1.toNatClampNeg) x2) (25 + 4) (r1.toNatClampNeg) 0).1 (25 + 1) (((h.1 25 0) - 1).toNatClampNeg)) + 1)))) rfl).trans (z_bifA ?_)
        exact z_X_ret rfl
  · show z_X zc_P_appendNode 2 (0, [(0, .ref 73), (1, .int x1), (2, .int x2)], [], h) = _
    refine (z_X_steps (s' := (8, [(3, .int ((h.1 73 0) - 1)), (0, .ref 73), (1, .int x1), (2, .int x2)], [.int ((h.1 73 0) - 1)], h)) 6 rfl).trans ?_
    refine (z_X_br (c := (h.1 73 0) - 1 < 0) (s1 := (68, [(3, .int ((h.1 73 0) - 1)), (0, .ref 73), (1, .int x1), (2, .int x2)], [], h)) (s2 := (11, [(3, .int ((h.1 73 0) - 1)), (0, .ref 73), (1, .int x1), (2, .int x2)], [], h)) rfl).trans (z_ite ?_ ?_)
    · exact z_X_ret rfl
    · refine (z_X_steps (s' := (16, [(3, .int ((h.1 73 0) - 1)), (0, .ref 73), (1, .int x1), (2, .int x2)], [.int ((h.1 73 0) - 1), .ref (73 + 1)], h)) 3 rfl).trans ?_
      refine (z_X_if (g := z_in ((h.1 73 0) - 1) 6) (s' := (17, [(3, .int ((h.1 73 0) - 1)), (0, .ref 73), (1, .int x1), (2, .int x2)], [.int (h.1 (73 + 1) (((h.1 73 0) - 1).toNatClampNeg))], h)) rfl).trans (z_bifA ?_)
      refine (z_X_steps (s' := (19, [(3, .int ((h.1 73 0) - 1)), (0, .ref 73), (1, .int x1), (2, .int x2)], [.int 8, .int (h.1 (73 + 1) (((h.1 73 0) - 1).toNatClampNeg))], h)) 1 rfl).trans ?_
      refine (z_X_br (c := (8 : Int32) ≤ h.1 (73 + 1) (((h.1 73 0) - 1).toNatClampNeg)) (s1 := (68, [(3, .int ((h.1 73 0) - 1)), (0, .ref 73), (1, .int x1), (2, .int x2)], [], h)) (s2 := (22, [(3, .int ((h.1 73 0) - 1)), (0, .ref 73), (1, .int x1), (2, .int x2)], [], h)) rfl).trans (z_ite ?_ ?_)
      · exact z_X_ret rfl
      · refine (z_X_steps (s' := (28, [(3, .int ((h.1 73 0) - 1)), (0, .ref 73), (1, .int x1), (2, .int x2)], [.int ((h.1 73 0) - 1), .ref (73 + 1), .int ((h.1 73 0) - 1)], h)) 4 rfl).trans ?_
        refine (z_X_if (g := z_in ((h.1 73 0) - 1) 6) (s' := (29, [(3, .int ((h.1 73 0) - 1)), (0, .ref 73), (1, .int x1), (2, .int x2)], [.int (h.1 (73 + 1) (((h.1 73 0) - 1).toNatClampNeg)), .int ((h.1 73 0) - 1)], h)) rfl).trans (z_bifA ?_)
        refine (z_X_call (id := 42) (a := [.int ((h.1 73 0) - 1), .int (h.1 (73 + 1) (((h.1 73 0) - 1).toNatClampNeg))]) (c := 1) (s' := (32, [(3, .int ((h.1 73 0) - 1)), (0, .ref 73), (1, .int x1), (2, .int x2)], [], h)) rfl ⟨Nat.le_of_ble_eq_true rfl, Nat.le_of_ble_eq_true rfl⟩).trans ?_
        refine z_bdc fun r1 h2 => ?_
        refine (z_X_steps (s' := (41, [(4, .int r1), (3, .int ((h.1 73 0) - 1)), (0, .ref 73), (1, .int x1), (2, .int x2)], [.int x1, .int r1, .ref (73 + 2)], h2)) 5 rfl).trans ?_
        refine (z_X_if (g := z_in r1 48) (s' := (42, [(4, .int r1), (3, .int ((h.1 73 0) - 1)), (0, .ref 73), (1, .int x1), (2, .int x2)], [], (z_wI h2 (73 + 2) (r1.toNatClampNeg) x1))) rfl).trans (z_bifA ?_)
        refine (z_X_steps (s' := (49, [(4, .int r1), (3, .int ((h.1 73 0) - 1)), (0, .ref 73), (1, .int x1), (2, .int x2)], [.int x2, .int r1, .ref (73 + 3)], (z_wI h2 (73 + 2) (r1.toNatClampNeg) x1))) 4 rfl).trans ?_
        refine (z_X_if (g := z_in r1 48) (s' := (50, [(4, .int r1), (3, .int ((h.1 73 0) - 1)), (0, .ref 73), (1, .int x1), (2, .int x2)], [], (z_wI (z_wI h2 (73 + 2) (r1.toNatClampNeg) x1) (73 + 3) (r1.toNatClampNeg) x2))) rfl).trans (z_bifA ?_)
        refine (z_X_steps (s' := (57, [(4, .int r1), (3, .int ((h.1 73 0) - 1)), (0, .ref 73), (1, .int x1), (2, .int x2)], [.int 0, .int r1, .ref (73 + 4)], (z_wI (z_wI h2 (73 + 2) (r1.toNatClampNeg) x1) (73 + 3) (r1.toNatClampNeg) x2))) 4 rfl).trans ?_
        refine (z_X_if (g := z_in r1 48) (s' := (58, [(4, .int r1), (3, .int ((h.1 73 0) - 1)), (0, .ref 73), (1, .int x1), (2, .int x2)], [], (z_wI (z_wI (z_wI h2 (73 + 2) (r1.toNatClampNeg) x1) (73 + 3) (r1.toNatClampNeg) x2) (73 + 4) (r1.toNatClampNeg) 0))) rfl).trans (z_bifA ?_)
        refine (z_X_steps (s' := (64, [(4, .int r1), (3, .int ((h.1 73 0) - 1)), (0, .ref 73), (1, .int x1), (2, .int x2)], [.int ((h.1 73 0) - 1), .ref (73 + 1), .int ((h.1 73 0) - 1), .ref (73 + 1)], (z_wI (z_wI (z_wI h2 (73 + 2) (r1.toNatClampNeg) x1) (73 + 3) (r1.toNatClampNeg) x2) (73 + 4) (r1.toNatClampNeg) 0))) 4 rfl).trans ?_
        refine (z_X_if (g := z_in ((h.1 73 0) - 1) 6) (s' := (65, [(4, .int r1), (3, .int ((h.1 73 0) - 1)), (0, .ref 73), (1, .int x1), (2, .int x2)], [.int ((z_wI (z_wI (z_wI h2 (73 + 2) (r1.toNatClampNeg) x1) (73 + 3) (r1.toNatClampNeg) x2) (73 + 4) (r1.toNatClampNeg) 0).1 (73 + 1) (((h.1 73 0) - 1).toNatClampNeg)), .int ((h.1 73 0) - 1), .ref (73 + 1)], (z_wI (z_wI (z_wI h2 (73 + 2) (r1.toNatClampNeg) x1) (73 + 3) (r1.toNatClampNeg) x2) (73 + 4) (r1.toNatClampNeg) 0))) rfl).trans (z_bifA ?_)
        refine (z_X_steps (s' := (67, [(4, .int r1), (3, .int ((h.1 73 0) - 1)), (0, .ref 73), (1, .int x1), (2, .int x2)], [.int (((z_wI (z_wI (z_wI h2 (73 + 2) (r1.toNatClampNeg) x1) (73 + 3) (r1.toNatClampNeg) x2) (73 + 4) (r1.toNatClampNeg) 0).1 (73 + 1) (((h.1 73 0) - 1).toNatClampNeg)) + 1), .int ((h.1 73 0) - 1), .ref (73 + 1)], (z_wI (z_wI (z_wI h2 (73 + 2) (r1.toNatClampNeg) x1) (73 + 3) (r1.toNatClampNeg) x2) (73 + 4) (r1.toNatClampNeg) 0))) 2 rfl).trans ?_
        refine (z_X_if (g := z_in ((h.1 73 0) - 1) 6) (s' := (68, [(4, .int r1), (3, .int ((h.1 73 0) - 1)), (0, .ref 73), (1, .int x1), (2, .int x2)], [], (z_wI (z_wI (z_wI (z_wI h2 (73 + 2) (r1.toNatClampNeg) x1) (73 + 3) (r1.toNatClampNeg) x2) (73 + 4) (r1.toNatClampNeg) 0) (73 + 1) (((h.1 73 0) - 1).toNatClampNeg) (((z_wI (z_wI (z_wI h2 (73 + 2) (r1.toNatClampNeg) x1) (73 + 3) (r1.toNatClampNeg) x2) (73 + 4) (r1.toNatClampNeg) 0).1 (73 + 1) (((h.1 73 0) - 1).toNatClampNeg)) + 1)))) rfl).trans (z_bifA ?_)
        exact z_X_ret rfl
  · show z_X zc_P_appendNode 2 (0, [(0, .ref 81), (1, .int x1), (2, .int x2)], [], h) = _
    refine (z_X_steps (s' := (8, [(3, .int ((h.1 81 0) - 1)), (0, .ref 81), (1, .int x1), (2, .int x2)], [.int ((h.1 81 0) - 1)], h)) 6 rfl).trans ?_
    refine (z_X_br (c := (h.1 81 0) - 1 < 0) (s1 := (68, [(3, .int ((h.1 81 0) - 1)), (0, .ref 81), (1, .int x1), (2, .int x2)], [], h)) (s2 := (11, [(3, .int ((h.1 81 0) - 1)), (0, .ref 81), (1, .int x1), (2, .int x2)], [], h)) rfl).trans (z_ite ?_ ?_)
    · exact z_X_ret rfl
    · refine (z_X_steps (s' := (16, [(3, .int ((h.1 81 0) - 1)), (0, .ref 81), (1, .int x1), (2, .int x2)], [.int ((h.1 81 0) - 1), .ref (81 + 1)], h)) 3 rfl).trans ?_
      refine (z_X_if (g := z_in ((h.1 81 0) - 1) 6) (s' := (17, [(3, .int ((h.1 81 0) - 1)), (0, .ref 81), (1, .int x1), (2, .int x2)], [.int (h.1 (81 + 1) (((h.1 81 0) - 1).toNatClampNeg))], h)) rfl).trans (z_bifA ?_)
      refine (z_X_steps (s' := (19, [(3, .int ((h.1 81 0) - 1)), (0, .ref 81), (1, .int x1), (2, .int x2)], [.int 8, .int (h.1 (81 + 1) (((h.1 81 0) - 1).toNatClampNeg))], h)) 1 rfl).trans ?_
      refine (z_X_br (c := (8 : Int32) ≤ h.1 (81 + 1) (((h.1 81 0) - 1).toNatClampNeg)) (s1 := (68, [(3, .int ((h.1 81 0) - 1)), (0, .ref 81), (1, .int x1), (2, .int x2)], [], h)) (s2 := (22, [(3, .int ((h.1 81 0) - 1)), (0, .ref 81), (1, .int x1), (2, .int x2)], [], h)) rfl).trans (z_ite ?_ ?_)
      · exact z_X_ret rfl
      · refine (z_X_steps (s' := (28, [(3, .int ((h.1 81 0) - 1)), (0, .ref 81), (1, .int x1), (2, .int x2)], [.int ((h.1 81 0) - 1), .ref (81 + 1), .int ((h.1 81 0) - 1)], h)) 4 rfl).trans ?_
        refine (z_X_if (g := z_in ((h.1 81 0) - 1) 6) (s' := (29, [(3, .int ((h.1 81 0) - 1)), (0, .ref 81), (1, .int x1), (2, .int x2)], [.int (h.1 (81 + 1) (((h.1 81 0) - 1).toNatClampNeg)), .int ((h.1 81 0) - 1)], h)) rfl).trans (z_bifA ?_)
        refine (z_X_call (id := 42) (a := [.int ((h.1 81 0) - 1), .int (h.1 (81 + 1) (((h.1 81 0) - 1).toNatClampNeg))]) (c := 1) (s' := (32, [(3, .int ((h.1 81 0) - 1)), (0, .ref 81), (1, .int x1), (2, .int x2)], [], h)) rfl ⟨Nat.le_of_ble_eq_true rfl, Nat.le_of_ble_eq_true rfl⟩).trans ?_
        refine z_bdc fun r1 h2 => ?_
        refine (z_X_steps (s' := (41, [(4, .int r1), (3, .int ((h.1 81 0) - 1)), (0, .ref 81), (1, .int x1), (2, .int x2)], [.int x1, .int r1, .ref (81 + 2)], h2)) 5 rfl).trans ?_
        refine (z_X_if (g := z_in r1 48) (s' := (42, [(4, .int r1), (3, .int ((h.1 81 0) - 1)), (0, .ref 81), (1, .int x1), (2, .int x2)], [], (z_wI h2 (81 + 2) (r1.toNatClampNeg) x1))) rfl).trans (z_bifA ?_)
        refine (z_X_steps (s' := (49, [(4, .int r1), (3, .int ((h.1 81 0) - 1)), (0, .ref 81), (1, .int x1), (2, .int x2)], [.int x2, .int r1, .ref (81 + 3)], (z_wI h2 (81 + 2) (r1.toNatClampNeg) x1))) 4 rfl).trans ?_
        refine (z_X_if (g := z_in r1 48) (s' := (50, [(4, .int r1), (3, .int ((h.1 81 0) - 1)), (0, .ref 81), (1, .int x1), (2, .int x2)], [], (z_wI (z_wI h2 (81 + 2) (r1.toNatClampNeg) x1) (81 + 3) (r1.toNatClampNeg) x2))) rfl).trans (z_bifA ?_)
        refine (z_X_steps (s' := (57, [(4, .int r1), (3, .int ((h.1 81 0) - 1)), (0, .ref 81), (1, .int x1), (2, .int x2)], [.int 0, .int r1, .ref (81 + 4)], (z_wI (z_wI h2 (81 + 2) (r1.toNatClampNeg) x1) (81 + 3) (r1.toNatClampNeg) x2))) 4 rfl).trans ?_
        refine (z_X_if (g := z_in r1 48) (s' := (58, [(4, .int r1), (3, .int ((h.1 81 0) - 1)), (0, .ref 81), (1, .int x1), (2, .int x2)], [], (z_wI (z_wI (z_wI h2 (81 + 2) (r1.toNatClampNeg) x1) (81 + 3) (r1.toNatClampNeg) x2) (81 + 4) (r1.toNatClampNeg) 0))) rfl).trans (z_bifA ?_)
        refine (z_X_steps (s' := (64, [(4, .int r1), (3, .int ((h.1 81 0) - 1)), (0, .ref 81), (1, .int x1), (2, .int x2)], [.int ((h.1 81 0) - 1), .ref (81 + 1), .int ((h.1 81 0) - 1), .ref (81 + 1)], (z_wI (z_wI (z_wI h2 (81 + 2) (r1.toNatClampNeg) x1) (81 + 3) (r1.toNatClampNeg) x2) (81 + 4) (r1.toNatClampNeg) 0))) 4 rfl).trans ?_
        refine (z_X_if (g := z_in ((h.1 81 0) - 1) 6) (s' := (65, [(4, .int r1), (3, .int ((h.1 81 0) - 1)), (0, .ref 81), (1, .int x1), (2, .int x2)], [.int ((z_wI (z_wI (z_wI h2 (81 + 2) (r1.toNatClampNeg) x1) (81 + 3) (r1.toNatClampNeg) x2) (81 + 4) (r1.toNatClampNeg) 0).1 (81 + 1) (((h.1 81 0) - 1).toNatClampNeg)), .int ((h.1 81 0) - 1), .ref (81 + 1)], (z_wI (z_wI (z_wI h2 (81 + 2) (r1.toNatClampNeg) x1) (81 + 3) (r1.toNatClampNeg) x2) (81 + 4) (r1.toNatClampNeg) 0))) rfl).trans (z_bifA ?_)
        refine (z_X_steps (s' := (67, [(4, .int r1), (3, .int ((h.1 81 0) - 1)), (0, .ref 81), (1, .int x1), (2, .int x2)], [.int (((z_wI (z_wI (z_wI h2 (81 + 2) (r1.toNatClampNeg) x1) (81 + 3) (r1.toNatClampNeg) x2) (81 + 4) (r1.toNatClampNeg) 0).1 (81 + 1) (((h.1 81 0) - 1).toNatClampNeg)) + 1), .int ((h.1 81 0) - 1), .ref (81 + 1)], (z_wI (z_wI (z_wI h2 (81 + 2) (r1.toNatClampNeg) x1) (81 + 3) (r1.toNatClampNeg) x2) (81 + 4) (r1.toNatClampNeg) 0))) 2 rfl).trans ?_
        refine (z_X_if (g := z_in ((h.1 81 0) - 1) 6) (s' := (68, [(4, .int r1), (3, .int ((h.1 81 0) - 1)), (0, .ref 81), (1, .int x1), (2, .int x2)], [], (z_wI (z_wI (z_wI (z_wI h2 (81 + 2) (r1.toNatClampNeg) x1) (81 + 3) (r1.toNatClampNeg) x2) (81 + 4) (r1.toNatClampNeg) 0) (81 + 1) (((h.1 81 0) - 1).toNatClampNeg) (((z_wI (z_wI (z_wI h2 (81 + 2) (r1.toNatClampNeg) x1) (81 + 3) (r1.toNatClampNeg) x2) (81 + 4) (r1.toNatClampNeg) 0).1 (81 + 1) (((h.1 81 0) - 1).toNatClampNeg)) + 1)))) rfl).trans (z_bifA ?_)
        exact z_X_ret rfl
  · show z_X zc_P_appendNode 2 (0, [(0, .ref 94), (1, .int x1), (2, .int x2)], [], h) = _
    refine (z_X_steps (s' := (8, [(3, .int ((h.1 94 0) - 1)), (0, .ref 94), (1, .int x1), (2, .int x2)], [.int ((h.1 94 0) - 1)], h)) 6 rfl).trans ?_
    refine (z_X_br (c := (h.1 94 0) - 1 < 0) (s1 := (68, [(3, .int ((h.1 94 0) - 1)), (0, .ref 94), (1, .int x1), (2, .int x2)], [], h)) (s2 := (11, [(3, .int ((h.1 94 0) - 1)), (0, .ref 94), (1, .int x1), (2, .int x2)], [], h)) rfl).trans (z_ite ?_ ?_)
    · exact z_X_ret rfl
    · refine (z_X_steps (s' := (16, [(3, .int ((h.1 94 0) - 1)), (0, .ref 94), (1, .int x1), (2, .int x2)], [.int ((h.1 94 0) - 1), .ref (94 + 1)], h)) 3 rfl).trans ?_
      refine (z_X_if (g := z_in ((h.1 94 0) - 1) 6) (s' := (17, [(3, .int ((h.1 94 0) - 1)), (0, .ref 94), (1, .int x1), (2, .int x2)], [.int (h.1 (94 + 1) (((h.1 94 0) - 1).toNatClampNeg))], h)) rfl).trans (z_bifA ?_)
      refine (z_X_steps (s' := (19, [(3, .int ((h.1 94 0) - 1)), (0, .ref 94), (1, .int x1), (2, .int x2)], [.int 8, .int (h.1 (94 + 1) (((h.1 94 0) - 1).toNatClampNeg))], h)) 1 rfl).trans ?_
      refine (z_X_br (c := (8 : Int32) ≤ h.1 (94 + 1) (((h.1 94 0) - 1).toNatClampNeg)) (s1 := (68, [(3, .int ((h.1 94 0) - 1)), (0, .ref 94), (1, .int x1), (2, .int x2)], [], h)) (s2 := (22, [(3, .int ((h.1 94 0) - 1)), (0, .ref 94), (1, .int x1), (2, .int x2)], [], h)) rfl).trans (z_ite ?_ ?_)
      · exact z_X_ret rfl
      · refine (z_X_steps (s' := (28, [(3, .int ((h.1 94 0) - 1)), (0, .ref 94), (1, .int x1), (2, .int x2)], [.int ((h.1 94 0) - 1), .ref (94 + 1), .int ((h.1 94 0) - 1)], h)) 4 rfl).trans ?_
        refine (z_X_if (g := z_in ((h.1 94 0) - 1) 6) (s' := (29, [(3, .int ((h.1 94 0) - 1)), (0, .ref 94), (1, .int x1), (2, .int x2)], [.int (h.1 (94 + 1) (((h.1 94 0) - 1).toNatClampNeg)), .int ((h.1 94 0) - 1)], h)) rfl).trans (z_bifA ?_)
        refine (z_X_call (id := 42) (a := [.int ((h.1 94 0) - 1), .int (h.1 (94 + 1) (((h.1 94 0) - 1).toNatClampNeg))]) (c := 1) (s' := (32, [(3, .int ((h.1 94 0) - 1)), (0, .ref 94), (1, .int x1), (2, .int x2)], [], h)) rfl ⟨Nat.le_of_ble_eq_true rfl, Nat.le_of_ble_eq_true rfl⟩).trans ?_
        refine z_bdc fun r1 h2 => ?_
        refine (z_X_steps (s' := (41, [(4, .int r1), (3, .int ((h.1 94 0) - 1)), (0, .ref 94), (1, .int x1), (2, .int x2)], [.int x1, .int r1, .ref (94 + 2)], h2)) 5 rfl).trans ?_
        refine (z_X_if (g := z_in r1 48) (s' := (42, [(4, .int r1), (3, .int ((h.1 94 0) - 1)), (0, .ref 94), (1, .int x1), (2, .int x2)], [], (z_wI h2 (94 + 2) (r1.toNatClampNeg) x1))) rfl).trans (z_bifA ?_)
        refine (z_X_steps (s' := (49, [(4, .int r1), (3, .int ((h.1 94 0) - 1)), (0, .ref 94), (1, .int x1), (2, .int x2)], [.int x2, .int r1, .ref (94 + 3)], (z_wI h2 (94 + 2) (r1.toNatClampNeg) x1))) 4 rfl).trans ?_
        refine (z_X_if (g := z_in r1 48) (s' := (50, [(4, .int r1), (3, .int ((h.1 94 0) - 1)), (0, .ref 94), (1, .int x1), (2, .int x2)], [], (z_wI (z_wI h2 (94 + 2) (r1.toNatClampNeg) x1) (94 + 3) (r1.toNatClampNeg) x2))) rfl).trans (z_bifA ?_)
        refine (z_X_steps (s' := (57, [(4, .int r1), (3, .int ((h.1 94 0) - 1)), (0, .ref 94), (1, .int x1), (2, .int x2)], [.int 0, .int r1, .ref (94 + 4)], (z_wI (z_wI h2 (94 + 2) (r1.toNatClampNeg) x1) (94 + 3) (r1.toNatClampNeg) x2))) 4 rfl).trans ?_
        refine (z_X_if (g := z_in r1 48) (s' := (58, [(4, .int r1), (3, .int ((h.1 94 0) - 1)), (0, .ref 94), (1, .int x1), (2, .int x2)], [], (z_wI (z_wI (z_wI h2 (94 + 2) (r1.toNatClampNeg) x1) (94 + 3) (r1.toNatClampNeg) x2) (94 + 4) (r1.toNatClampNeg) 0))) rfl).trans (z_bifA ?_)
        refine (z_X_steps (s' := (64, [(4, .int r1), (3, .int ((h.1 94 0) - 1)), (0, .ref 94), (1, .int x1), (2, .int x2)], [.int ((h.1 94 0) - 1), .ref (94 + 1), .int ((h.1 94 0) - 1), .ref (94 + 1)], (z_wI (z_wI (z_wI h2 (94 + 2) (r1.toNatClampNeg) x1) (94 + 3) (r1.toNatClampNeg) x2) (94 + 4) (r1.toNatClampNeg) 0))) 4 rfl).trans ?_
        refine (z_X_if (g := z_in ((h.1 94 0) - 1) 6) (s' := (65, [(4, .int r1), (3, .int ((h.1 94 0) - 1)), (0, .ref 94), (1, .int x1), (2, .int x2)], [.int ((z_wI (z_wI (z_wI h2 (94 + 2) (r1.toNatClampNeg) x1) (94 + 3) (r1.toNatClampNeg) x2) (94 + 4) (r1.toNatClampNeg) 0).1 (94 + 1) (((h.1 94 0) - 1).toNatClampNeg)), .int ((h.1 94 0) - 1), .ref (94 + 1)], (z_wI (z_wI (z_wI h2 (94 + 2) (r1.toNatClampNeg) x1) (94 + 3) (r1.toNatClampNeg) x2) (94 + 4) (r1.toNatClampNeg) 0))) rfl).trans (z_bifA ?_)
        refine (z_X_steps (s' := (67, [(4, .int r1), (3, .int ((h.1 94 0) - 1)), (0, .ref 94), (1, .int x1), (2, .int x2)], [.int (((z_wI (z_wI (z_wI h2 (94 + 2) (r1.toNatClampNeg) x1) (94 + 3) (r1.toNatClampNeg) x2) (94 + 4) (r1.toNatClampNeg) 0).1 (94 + 1) (((h.1 94 0) - 1).toNatClampNeg)) + 1), .int ((h.1 94 0) - 1), .ref (94 + 1)], (z_wI (z_wI (z_wI h2 (94 + 2) (r1.toNatClampNeg) x1) (94 + 3) (r1.toNatClampNeg) x2) (94 + 4) (r1.toNatClampNeg) 0))) 2 rfl).trans ?_
        refine (z_X_if (g := z_in ((h.1 94 0) - 1) 6) (s' := (68, [(4, .int r1), (3, .int ((h.1 94 0) - 1)), (0, .ref 94), (1, .int x1), (2, .int x2)], [], (z_wI (z_wI (z_wI (z_wI h2 (94 + 2) (r1.toNatClampNeg) x1) (94 + 3) (r1.toNatClampNeg) x2) (94 + 4) (r1.toNatClampNeg) 0) (94 + 1) (((h.1 94 0) - 1).toNatClampNeg) (((z_wI (z_wI (z_wI h2 (94 + 2) (r1.toNatClampNeg) x1) (94 + 3) (r1.toNatClampNeg) x2) (94 + 4) (r1.toNatClampNeg) 0).1 (94 + 1) (((h.1 94 0) - 1).toNatClampNeg)) + 1)))) rfl).trans (z_bifA ?_)
        exact z_X_ret rfl
  · show z_X zc_P_appendNode 2 (0, [(0, .ref 102), (1, .int x1), (2, .int x2)], [], h) = _
    refine (z_X_steps (s' := (8, [(3, .int ((h.1 102 0) - 1)), (0, .ref 102), (1, .int x1), (2, .int x2)], [.int ((h.1 102 0) - 1)], h)) 6 rfl).trans ?_
    refine (z_X_br (c := (h.1 102 0) - 1 < 0) (s1 := (68, [(3, .int ((h.1 102 0) - 1)), (0, .ref 102), (1, .int x1), (2, .int x2)], [], h)) (s2 := (11, [(3, .int ((h.1 102 0) - 1)), (0, .ref 102), (1, .int x1), (2, .int x2)], [], h)) rfl).trans (z_ite ?_ ?_)
    · exact z_X_ret rfl
    · refine (z_X_steps (s' := (16, [(3, .int ((h.1 102 0) - 1)), (0, .ref 102), (1, .int x1), (2, .int x2)], [.int ((h.1 102 0) - 1), .ref (102 + 1)], h)) 3 rfl).trans ?_
      refine (z_X_if (g := z_in ((h.1 102 0) - 1) 6) (s' := (17, [(3, .int ((h.1 102 0) - 1)), (0, .ref 102), (1, .int x1), (2, .int x2)], [.int (h.1 (102 + 1) (((h.1 102 0) - 1).toNatClampNeg))], h)) rfl).trans (z_bifA ?_)
      refine (z_X_steps (s' := (19, [(3, .int ((h.1 102 0) - 1)), (0, .ref 102), (1, .int x1), (2, .int x2)], [.int 8, .int (h.1 (102 + 1) (((h.1 102 0) - 1).toNatClampNeg))], h)) 1 rfl).trans ?_
      refine (z_X_br (c := (8 : Int32) ≤ h.1 (102 + 1) (((h.1 102 0) - 1).toNatClampNeg)) (s1 := (68, [(3, .int ((h.1 102 0) - 1)), (0, .ref 102), (1, .int x1), (2, .int x2)], [], h)) (s2 := (22, [(3, .int ((h.1 102 0) - 1)), (0, .ref 102), (1, .int x1), (2, .int x2)], [], h)) rfl).trans (z_ite ?_ ?_)
      · exact z_X_ret rfl
      · refine (z_X_steps (s' := (28, [(3, .int ((h.1 102 0) - 1)), (0, .ref 102), (1, .int x1), (2, .int x2)], [.int ((h.1 102 0) - 1), .ref (102 + 1), .int ((h.1 102 0) - 1)], h)) 4 rfl).trans ?_
        refine (z_X_if (g := z_in ((h.1 102 0) - 1) 6) (s' := (29, [(3, .int ((h.1 102 0) - 1)), (0, .ref 102), (1, .int x1), (2, .int x2)], [.int (h.1 (102 + 1) (((h.1 102 0) - 1).toNatClampNeg)), .int ((h.1 102 0) - 1)], h)) rfl).trans (z_bifA ?_)
        refine (z_X_call (id := 42) (a := [.int ((h.1 102 0) - 1), .int (h.1 (102 + 1) (((h.1 102 0) - 1).toNatClampNeg))]) (c := 1) (s' := (32, [(3, .int ((h.1 102 0) - 1)), (0, .ref 102), (1, .int x1), (2, .int x2)], [], h)) rfl ⟨Nat.le_of_ble_eq_true rfl, Nat.le_of_ble_eq_true rfl⟩).trans ?_
        refine z_bdc fun r1 h2 => ?_
        refine (z_X_steps (s' := (41, [(4, .int r1), (3, .int ((h.1 102 0) - 1)), (0, .ref 102), (1, .int x1), (2, .int x2)], [.int x1, .int r1, .ref (102 + 2)], h2)) 5 rfl).trans ?_
        refine (z_X_if (g := z_in r1 48) (s' := (42, [(4, .int r1), (3, .int ((h.1 102 0) - 1)), (0, .ref 102), (1, .int x1), (2, .int x2)], [], (z_wI h2 (102 + 2) (r1.toNatClampNeg) x1))) rfl).trans (z_bifA ?_)
        refine (z_X_steps (s' := (49, [(4, .int r1), (3, .int ((h.1 102 0) - 1)), (0, .ref 102), (1, .int x1), (2, .int x2)], [.int x2, .int r1, .ref (102 + 3)], (z_wI h2 (102 + 2) (r1.toNatClampNeg) x1))) 4 rfl).trans ?_
        refine (z_X_if (g := z_in r1 48) (s' := (50, [(4, .int r1), (3, .int ((h.1 102 0) - 1)), (0, .ref 102), (1, .int x1), (2, .int x2)], [], (z_wI (z_wI h2 (102 + 2) (r1.toNatClampNeg) x1) (102 + 3) (r1.toNatClampNeg) x2))) rfl).trans (z_bifA ?_)
        refine (z_X_steps (s' := (57, [(4, .int r1), (3, .int ((h.1 102 0) - 1)), (0, .ref 102), (1, .int x1), (2, .int x2)], [.int 0, .int r1, .ref (102 + 4)], (z_wI (z_wI h2 (102 + 2) (r1.toNatClampNeg) x1) (102 + 3) (r1.toNatClampNeg) x2))) 4 rfl).trans ?_
        refine (z_X_if (g := z_in r1 48) (s' := (58, [(4, .int r1), (3, .int ((h.1 102 0) - 1)), (0, .ref 102), (1, .int x1), (2, .int x2)], [], (z_wI (z_wI (z_wI h2 (102 + 2) (r1.toNatClampNeg) x1) (102 + 3) (r1.toNatClampNeg) x2) (102 + 4) (r1.toNatClampNeg) 0))) rfl).trans (z_bifA ?_)
        refine (z_X_steps (s' := (64, [(4, .int r1), (3, .int ((h.1 102 0) - 1)), (0, .ref 102), (1, .int x1), (2, .int x2)], [.int ((h.1 102 0) - 1), .ref (102 + 1), .int ((h.1 102 0) - 1), .ref (102 + 1)], (z_wI (z_wI (z_wI h2 (102 + 2) (r1.toNatClampNeg) x1) (102 + 3) (r1.toNatClampNeg) x2) (102 + 4) (r1.toNatClampNeg) 0))) 4 rfl).trans ?_
        refine (z_X_if (g := z_in ((h.1 102 0) - 1) 6) (s' := (65, [(4, .int r1), (3, .int ((h.1 102 0) - 1)), (0, .ref 102), (1, .int x1), (2, .int x2)], [.int ((z_wI (z_wI (z_wI h2 (102 + 2) (r1.toNatClampNeg) x1) (102 + 3) (r1.toNatClampNeg) x2) (102 + 4) (r1.toNatClampNeg) 0).1 (102 + 1) (((h.1 102 0) - 1).toNatClampNeg)), .int ((h.1 102 0) - 1), .ref (102 + 1)], (z_wI (z_wI (z_wI h2 (102 + 2) (r1.toNatClampNeg) x1) (102 + 3) (r1.toNatClampNeg) x2) (102 + 4) (r1.toNatClampNeg) 0))) rfl).trans (z_bifA ?_)
        refine (z_X_steps (s' := (67, [(4, .int r1), (3, .int ((h.1 102 0) - 1)), (0, .ref 102), (1, .int x1), (2, .int x2)], [.int (((z_wI (z_wI (z_wI h2 (102 + 2) (r1.toNatClampNeg) x1) (102 + 3) (r1.toNatClampNeg) x2) (102 + 4) (r1.toNatClampNeg) 0).1 (102 + 1) (((h.1 102 0) - 1).toNatClampNeg)) + 1), .int ((h.1 102 0) - 1), .ref (102 + 1)], (z_wI (z_wI (z_wI h2 (102 + 2) (r1.toNatClampNeg) x1) (102 + 3) (r1.toNatClampNeg) x2) (102 + 4) (r1.toNatClampNeg) 0))) 2 rfl).trans ?_
        refine (z_X_if (g := z_in ((h.1 102 0) - 1) 6) (s' := (68, [(4, .int r1), (3, .int ((h.1 102 0) - 1)), (0, .ref 102), (1, .int x1), (2, .int x2)], [], (z_wI (z_wI (z_wI (z_wI h2 (102 + 2) (r1.toNatClampNeg) x1) (102 + 3) (r1.toNatClampNeg) x2) (102 + 4) (r1.toNatClampNeg) 0) (102 + 1) (((h.1 102 0) - 1).toNatClampNeg) (((z_wI (z_wI (z_wI h2 (102 + 2) (r1.toNatClampNeg) x1) (102 + 3) (r1.toNatClampNeg) x2) (102 + 4) (r1.toNatClampNeg) 0).1 (102 + 1) (((h.1 102 0) - 1).toNatClampNeg)) + 1)))) rfl).trans (z_bifA ?_)
        exact z_X_ret rfl
set_option maxRecDepth 8000 in
set_option maxHeartbeats 2000000 in
theorem e_P_appendNext {o : Nat} (hi : o ∈ [4, 17, 25, 73, 81, 94, 102]) (x1 : Int32) (h : z_H) : z_M 87 [.ref o, .int x1] h = (if (h.1 o 0) - 1 < 0 then some (0, h) else (bif z_in ((h.1 o 0) - 1) 6 then (if h.1 (o + 1) (((h.1 o 0) - 1).toNatClampNeg) ≤ 0 then some (0, h) else (bif z_in ((h.1 o 0) - 1) 6 then z_bd (z_M 42 [.int ((h.1 o 0) - 1), .int ((h.1 (o + 1) (((h.1 o 0) - 1).toNatClampNeg)) - 1)] h) (fun r1 h2 => (bif z_in r1 48 then (if (2 : Int32) ≤ h2.1 (o + 4) (r1.toNatClampNeg) then some (0, h2) else (bif z_in r1 48 then z_bd (z_M 43 [.int ((h.1 o 0) - 1), .int ((h.1 (o + 1) (((h.1 o 0) - 1).toNatClampNeg)) - 1), .int (h2.1 (o + 4) (r1.toNatClampNeg))] h2) (fun r3 h4 => (bif z_in r3 96 then (bif z_in r1 48 then (bif z_in r1 48 then some (0, (z_wI (z_wI h4 (o + 5) (r3.toNatClampNeg) x1) (o + 4) (r1.toNatClampNeg) (((z_wI h4 (o + 5) (r3.toNatClampNeg) x1).1 (o + 4) (r1.toNatClampNeg)) + 1))) else none) else none) else none)) else none)) else none)) else none)) else none)) := by
  refine (z_M_eq (by decide)).trans ?_
  simp only [List.mem_cons, List.not_mem_nil, or_false, Prod.mk.injEq] at hi
  rcases hi with rfl | rfl | rfl | rfl | rfl | rfl | rfl
  · show z_X zc_P_appendNext 2 (0, [(0, .ref 4), (1, .int x1)], [], h) = _
    refine (z_X_steps (s' := (8, [(2, .int ((h.1 4 0) - 1)), (0, .ref 4), (1, .int x1)], [.int ((h.1 4 0) - 1)], h)) 6 rfl).trans ?_
    refine (z_X_br (c := (h.1 4 0) - 1 < 0) (s1 := (76, [(2, .int ((h.1 4 0) - 1)), (0, .ref 4), (1, .int x1)], [], h)) (s2 := (11, [(2, .int ((h.1 4 0) - 1)), (0, .ref 4), (1, .int x1)], [], h)) rfl).trans (z_ite ?_ ?_)
    · exact z_X_ret rfl
    · refine (z_X_steps (s' := (16, [(2, .int ((h.1 4 0) - 1)), (0, .ref 4), (1, .int x1)], [.int ((h.1 4 0) - 1), .ref (4 + 1)], h)) 3 rfl).trans ?_
      refine (z_X_if (g := z_in ((h.1 4 0) - 1) 6) (s' := (17, [(2, .int ((h.1 4 0) - 1)), (0, .ref 4), (1, .int x1)], [.int (h.1 (4 + 1) (((h.1 4 0) - 1).toNatClampNeg))], h)) rfl).trans (z_bifA ?_)
      refine (z_X_br (c := h.1 (4 + 1) (((h.1 4 0) - 1).toNatClampNeg) ≤ 0) (s1 := (76, [(2, .int ((h.1 4 0) - 1)), (0, .ref 4), (1, .int x1)], [], h)) (s2 := (20, [(2, .int ((h.1 4 0) - 1)), (0, .ref 4), (1, .int x1)], [], h)) rfl).trans (z_ite ?_ ?_)
      · exact z_X_ret rfl
      · refine (z_X_steps (s' := (25, [(2, .int ((h.1 4 0) - 1)), (0, .ref 4), (1, .int x1)], [.int ((h.1 4 0) - 1), .ref (4 + 1)], h)) 3 rfl).trans ?_
        refine (z_X_if (g := z_in ((h.1 4 0) - 1) 6) (s' := (26, [(2, .int ((h.1 4 0) - 1)), (0, .ref 4), (1, .int x1)], [.int (h.1 (4 + 1) (((h.1 4 0) - 1).toNatClampNeg))], h)) rfl).trans (z_bifA ?_)
        refine (z_X_steps (s' := (31, [(3, .int ((h.1 (4 + 1) (((h.1 4 0) - 1).toNatClampNeg)) - 1)), (2, .int ((h.1 4 0) - 1)), (0, .ref 4), (1, .int x1)], [.int ((h.1 (4 + 1) (((h.1 4 0) - 1).toNatClampNeg)) - 1), .int ((h.1 4 0) - 1)], h)) 5 rfl).trans ?_
        refine (z_X_call (id := 42) (a := [.int ((h.1 4 0) - 1), .int ((h.1 (4 + 1) (((h.1 4 0) - 1).toNatClampNeg)) - 1)]) (c := 1) (s' := (34, [(3, .int ((h.1 (4 + 1) (((h.1 4 0) - 1).toNatClampNeg)) - 1)), (2, .int ((h.1 4 0) - 1)), (0, .ref 4), (1, .int x1)], [], h)) rfl ⟨Nat.le_of_ble_eq_true rfl, Nat.le_of_ble_eq_true rfl⟩).trans ?_
        refine z_bdc fun r1 h2 => ?_
        refine (z_X_steps (s' := (42, [(4, .int r1), (3, .int ((h.1 (4 + 1) (((h.1 4 0) - 1).toNatClampNeg)) - 1)), (2, .int ((h.1 4 0) - 1)), (0, .ref 4), (1, .int x1)], [.int r1, .ref (4 + 4)], h2)) 4 rfl).trans ?_
        refine (z_X_if (g := z_in r1 48) (s' := (43, [(4, .int r1), (3, .int ((h.1 (4 + 1) (((h.1 4 0) - 1).toNatClampNeg)) - 1)), (2, .int ((h.1 4 0) - 1)), (0, .ref 4), (1, .int x1)], [.int (h2.1 (4 + 4) (r1.toNatClampNeg))], h2)) rfl).trans (z_bifA ?_)
        refine (z_X_steps (s' := (44, [(4, .int r1), (3, .int ((h.1 (4 + 1) (((h.1 4 0) - 1).toNatClampNeg)) - 1)), (2, .int ((h.1 4 0) - 1)), (0, .ref 4), (1, .int x1)], [.int 2, .int (h2.1 (4 + 4) (r1.toNatClampNeg))], h2)) 1 rfl).trans ?_
        refine (z_X_br (c := (2 : Int32) ≤ h2.1 (4 + 4) (r1.toNatClampNeg)) (s1 := (76, [(4, .int r1), (3, .int ((h.1 (4 + 1) (((h.1 4 0) - 1).toNatClampNeg)) - 1)), (2, .int ((h.1 4 0) - 1)), (0, .ref 4), (1, .int x1)], [], h2)) (s2 := (47, [(4, .int r1), (3, .int ((h.1 (4 + 1) (((h.1 4 0) - 1).toNatClampNeg)) - 1)), (2, .int ((h.1 4 0) - 1)), (0, .ref 4), (1, .int x1)], [], h2)) rfl).trans (z_ite ?_ ?_)
        · exact z_X_ret rfl
        · refine (z_X_steps (s' := (59, [(4, .int r1), (3, .int ((h.1 (4 + 1) (((h.1 4 0) - 1).toNatClampNeg)) - 1)), (2, .int ((h.1 4 0) - 1)), (0, .ref 4), (1, .int x1)], [.int r1, .ref (4 + 4), .int ((h.1 (4 + 1) (((h.1 4 0) - 1).toNatClampNeg)) - 1), .int ((h.1 4 0) - 1), .ref (4 + 5)], h2)) 7 rfl).trans ?_
          refine (z_X_if (g := z_in r1 48) (s' := (60, [(4, .int r1), (3, .int ((h.1 (4 + 1) (((h.1 4 0) - 1).toNatClampNeg)) - 1)), (2, .int ((h.1 4 0) - 1)), (0, .ref 4), (1, .int x1)], [.int (h2.1 (4 + 4) (r1.toNatClampNeg)), .int ((h.1 (4 + 1) (((h.1 4 0) - 1).toNatClampNeg)) - 1), .int ((h.1 4 0) - 1), .ref (4 + 5)], h2)) rfl).trans (z_bifA ?_)
          refine (z_X_call (id := 43) (a := [.int ((h.1 4 0) - 1), .int ((h.1 (4 + 1) (((h.1 4 0) - 1).toNatClampNeg)) - 1), .int (h2.1 (4 + 4) (r1.toNatClampNeg))]) (c := 1) (s' := (63, [(4, .int r1), (3, .int ((h.1 (4 + 1) (((h.1 4 0) - 1).toNatClampNeg)) - 1)), (2, .int ((h.1 4 0) - 1)), (0, .ref 4), (1, .int x1)], [.ref (4 + 5)], h2)) rfl ⟨Nat.le_of_ble_eq_true rfl, Nat.le_of_ble_eq_true rfl⟩).trans ?_
          refine z_bdc fun r3 h4 => ?_
          refine (z_X_steps (s' := (64, [(4, .int r1), (3, .int ((h.1 (4 + 1) (((h.1 4 0) - 1).toNatClampNeg)) - 1)), (2, .int ((h.1 4 0) - 1)), (0, .ref 4), (1, .int x1)], [.int x1, .int r3, .ref (4 + 5)], h4)) 1 rfl).trans ?_
          refine (z_X_if (g := z_in r3 96) (s' := (65, [(4, .int r1), (3, .int ((h.1 (4 + 1) (((h.1 4 0) - 1).toNatClampNeg)) - 1)), (2, .int ((h.1 4 0) - 1)), (0, .ref 4), (1, .int x1)], [], (z_wI h4 (4 + 5) (r3.toNatClampNeg) x1))) rfl).trans (z_bifA ?_)
          refine (z_X_steps (s' := (72, [(4, .int r1), (3, .int ((h.1 (4 + 1) (((h.1 4 0) - 1).toNatClampNeg)) - 1)), (2, .int ((h.1 4 0) - 1)), (0, .ref 4), (1, .int x1)], [.int r1, .ref (4 + 4), .int r1, .ref (4 + 4)], (z_wI h4 (4 + 5) (r3.toNatClampNeg) x1))) 4 rfl).trans ?_
          refine (z_X_if (g := z_in r1 48) (s' := (73, [(4, .int r1), (3, .int ((h.1 (4 + 1) (((h.1 4 0) - 1).toNatClampNeg)) - 1)), (2, .int ((h.1 4 0) - 1)), (0, .ref 4), (1, .int x1)], [.int ((z_wI h4 (4 + 5) (r3.toNatClampNeg) x1).1 (4 + 4) (r1.toNatClampNeg)), .int r1, .ref (4 + 4)], (z_wI h4 (4 + 5) (r3.toNatClampNeg) x1))) rfl).trans (z_bifA ?_)
          refine (z_X_steps (s' := (75, [(4, .int r1), (3, .int ((h.1 (4 + 1) (((h.1 4 0) - 1).toNatClampNeg)) - 1)), (2, .int ((h.1 4 0) - 1)), (0, .ref 4), (1, .int x1)], [.int (((z_wI h4 (4 + 5) (r3.toNatClampNeg) x1).1 (4 + 4) (r1.toNatClampNeg)) + 1), .int r1, .ref (4 + 4)], (z_wI h4 (4 + 5) (r3.toNatClampNeg) x1))) 2 rfl).trans ?_
          refine (z_X_if (g := z_in r1 48) (s' := (76, [(4, .int r1), (3, .int ((h.1 (4 + 1) (((h.1 4 0) - 1).toNatClampNeg)) - 1)), (2, .int ((h.1 4 0) - 1)), (0, .ref 4), (1, .int x1)], [], (z_wI (z_wI h4 (4 + 5) (r3.toNatClampNeg) x1) (4 + 4) (r1.toNatClampNeg) (((z_wI h4 (4 + 5) (r3.toNatClampNeg) x1).1 (4 + 4) (r1.toNatClampNeg)) + 1)))) rfl).trans (z_bifA ?_)
          exact z_X_ret rfl
  · show z_X zc_P_appendNext 2 (0, [(0, .ref 17), (1, .int x1)], [], h) = _
    refine (z_X_steps (s' := (8, [(2, .int ((h.1 17 0) - 1)), (0, .ref 17), (1, .int x1)], [.int ((h.1 17 0) - 1)], h)) 6 rfl).trans ?_
    refine (z_X_br (c := (h.1 17 0) - 1 < 0) (s1 := (76, [(2, .int ((h.1 17 0) - 1)), (0, .ref 17), (1, .int x1)], [], h)) (s2 := (11, [(2, .int ((h.1 17 0) - 1)), (0, .ref 17), (1, .int x1)], [], h)) rfl).trans (z_ite ?_ ?_)
    · exact z_X_ret rfl
    · refine (z_X_steps (s' := (16, [(2, .int ((h.1 17 0) - 1)), (0, .ref 17), (1, .int x1)], [.int ((h.1 17 0) - 1), .ref (17 + 1)], h)) 3 rfl).trans ?_
      refine (z_X_if (g := z_in ((h.1 17 0) - 1) 6) (s' := (17, [(2, .int ((h.1 17 0) - 1)), (0, .ref 17), (1, .int x1)], [.int (h.1 (17 + 1) (((h.1 17 0) - 1).toNatClampNeg))], h)) rfl).trans (z_bifA ?_)
      refine (z_X_br (c := h.1 (17 + 1) (((h.1 17 0) - 1).toNatClampNeg) ≤ 0) (s1 := (76, [(2, .int ((h.1 17 0) - 1)), (0, .ref 17), (1, .int x1)], [], h)) (s2 := (20, [(2, .int ((h.1 17 0) - 1)), (0, .ref 17), (1, .int x1)], [], h)) rfl).trans (z_ite ?_ ?_)
      · exact z_X_ret rfl
      · refine (z_X_steps (s' := (25, [(2, .int ((h.1 17 0) - 1)), (0, .ref 17), (1, .int x1)], [.int ((h.1 17 0) - 1), .ref (17 + 1)], h)) 3 rfl).trans ?_
        refine (z_X_if (g := z_in ((h.1 17 0) - 1) 6) (s' := (26, [(2, .int ((h.1 17 0) - 1)), (0, .ref 17), (1, .int x1)], [.int (h.1 (17 + 1) (((h.1 17 0) - 1).toNatClampNeg))], h)) rfl).trans (z_bifA ?_)
        refine (z_X_steps (s' := (31, [(3, .int ((h.1 (17 + 1) (((h.1 17 0) - 1).toNatClampNeg)) - 1)), (2, .int ((h.1 17 0) - 1)), (0, .ref 17), (1, .int x1)], [.int ((h.1 (17 + 1) (((h.1 17 0) - 1).toNatClampNeg)) - 1), .int ((h.1 17 0) - 1)], h)) 5 rfl).trans ?_
        refine (z_X_call (id := 42) (a := [.int ((h.1 17 0) - 1), .int ((h.1 (17 + 1) (((h.1 17 0) - 1).toNatClampNeg)) - 1)]) (c := 1) (s' := (34, [(3, .int ((h.1 (17 + 1) (((h.1 17 0) - 1).toNatClampNeg)) - 1)), (2, .int ((h.1 17 0) - 1)), (0, .ref 17), (1, .int x1)], [], h)) rfl ⟨Nat.le_of_ble_eq_true rfl, Nat.le_of_ble_eq_true rfl⟩).trans ?_
        refine z_bdc fun r1 h2 => ?_
        refine (z_X_steps (s' := (42, [(4, .int r1), (3, .int ((h.1 (17 + 1) (((h.1 17 0) - 1).toNatClampNeg)) - 1)), (2, .int ((h.1 17 0) - 1)), (0, .ref 17), (1, .int x1)], [.int r1, .ref (17 + 4)], h2)) 4 rfl).trans ?_
        refine (z_X_if (g := z_in r1 48) (s' := (43, [(4, .int r1), (3, .int ((h.1 (17 + 1) (((h.1 17 0) - 1).toNatClampNeg)) - 1)), (2, .int ((h.1 17 0) - 1)), (0, .ref 17), (1, .int x1)], [.int (h2.1 (17 + 4) (r1.toNatClampNeg))], h2)) rfl).trans (z_bifA ?_)
        refine (z_X_steps (s' := (44, [(4, .int r1), (3, .int ((h.1 (17 + 1) (((h.1 17 0) - 1).toNatClampNeg)) - 1)), (2, .int ((h.1 17 0) - 1)), (0, .ref 17), (1, .int x1)], [.int 2, .int (h2.1 (17 + 4) (r1.toNatClampNeg))], h2)) 1 rfl).trans ?_
        refine (z_X_br (c := (2 : Int32) ≤ h2.1 (17 + 4) (r1.toNatClampNeg)) (s1 := (76, [(4, .int r1), (3, .int ((h.1 (17 + 1) (((h.1 17 0) - 1).toNatClampNeg)) - 1)), (2, .int ((h.1 17 0) - 1)), (0, .ref 17), (1, .int x1)], [], h2)) (s2 := (47, [(4, .int r1), (3, .int ((h.1 (17 + 1) (((h.1 17 0) - 1).toNatClampNeg)) - 1)), (2, .int ((h.1 17 0) - 1)), (0, .ref 17), (1, .int x1)], [], h2)) rfl).trans (z_ite ?_ ?_)
        · exact z_X_ret rfl
        · refine (z_X_steps (s' := (59, [(4, .int r1), (3, .int ((h.1 (17 + 1) (((h.1 17 0) - 1).toNatClampNeg)) - 1)), (2, .int ((h.1 17 0) - 1)), (0, .ref 17), (1, .int x1)], [.int r1, .ref (17 + 4), .int ((h.1 (17 + 1) (((h.1 17 0) - 1).toNatClampNeg)) - 1), .int ((h.1 17 0) - 1), .ref (17 + 5)], h2)) 7 rfl).trans ?_
          refine (z_X_if (g := z_in r1 48) (s' := (60, [(4, .int r1), (3, .int ((h.1 (17 + 1) (((h.1 17 0) - 1).toNatClampNeg)) - 1)), (2, .int ((h.1 17 0) - 1)), (0, .ref 17), (1, .int x1)], [.int (h2.1 (17 + 4) (r1.toNatClampNeg)), .int ((h.1 (17 + 1) (((h.1 17 0) - 1).toNatClampNeg)) - 1), .int ((h.1 17 0) - 1), .ref (17 + 5)], h2)) rfl).trans (z_bifA ?_)
          refine (z_X_call (id := 43) (a := [.int ((h.1 17 0) - 1), .int ((h.1 (17 + 1) (((h.1 17 0) - 1).toNatClampNeg)) - 1), .int (h2.1 (17 + 4) (r1.toNatClampNeg))]) (c := 1) (s' := (63, [(4, .int r1), (3, .int ((h.1 (17 + 1) (((h.1 17 0) - 1).toNatClampNeg)) - 1)), (2, .int ((h.1 17 0) - 1)), (0, .ref 17), (1, .int x1)], [.ref (17 + 5)], h2)) rfl ⟨Nat.le_of_ble_eq_true rfl, Nat.le_of_ble_eq_true rfl⟩).trans ?_
          refine z_bdc fun r3 h4 => ?_
          refine (z_X_steps (s' := (64, [(4, .int r1), (3, .int ((h.1 (17 + 1) (((h.1 17 0) - 1).toNatClampNeg)) - 1)), (2, .int ((h.1 17 0) - 1)), (0, .ref 17), (1, .int x1)], [.int x1, .int r3, .ref (17 + 5)], h4)) 1 rfl).trans ?_
          refine (z_X_if (g := z_in r3 96) (s' := (65, [(4, .int r1), (3, .int ((h.1 (17 + 1) (((h.1 17 0) - 1).toNatClampNeg)) - 1)), (2, .int ((h.1 17 0) - 1)), (0, .ref 17), (1, .int x1)], [], (z_wI h4 (17 + 5) (r3.toNatClampNeg) x1))) rfl).trans (z_bifA ?_)
          refine (z_X_steps (s' := (72, [(4, .int r1), (3, .int ((h.1 (17 + 1) (((h.1 17 0) - 1).toNatClampNeg)) - 1)), (2, .int ((h.1 17 0) - 1)), (0, .ref 17), (1, .int x1)], [.int r1, .ref (17 + 4), .int r1, .ref (17 + 4)], (z_wI h4 (17 + 5) (r3.toNatClampNeg) x1))) 4 rfl).trans ?_
          refine (z_X_if (g := z_in r1 48) (s' := (73, [(4, .int r1), (3, .int ((h.1 (17 + 1) (((h.1 17 0) - 1).toNatClampNeg)) - 1)), (2, .int ((h.1 17 0) - 1)), (0, .ref 17), (1, .int x1)], [.int ((z_wI h4 (17 + 5) (r3.toNatClampNeg) x1).1 (17 + 4) (r1.toNatClampNeg)), .int r1, .ref (17 + 4)], (z_wI h4 (17 + 5) (r3.toNatClampNeg) x1))) rfl).trans (z_bifA ?_)
          refine (z_X_steps (s' := (75, [(4, .int r1), (3, .int ((h.1 (17 + 1) (((h.1 17 0) - 1).toNatClampNeg)) - 1)), (2, .int ((h.1 17 0) - 1)), (0, .ref 17), (1, .int x1)], [.int (((z_wI h4 (17 + 5) (r3.toNatClampNeg) x1).1 (17 + 4) (r1.toNatClampNeg)) + 1), .int r1, .ref (17 + 4)], (z_wI h4 (17 + 5) (r3.toNatClampNeg) x1))) 2 rfl).trans ?_
          refine (z_X_if (g := z_in r1 48) (s' := (76, [(4, .int r1), (3, .int ((h.1 (17 + 1) (((h.1 17 0) - 1).toNatClampNeg)) - 1)), (2, .int ((h.1 17 0) - 1)), (0, .ref 17), (1, .int x1)], [], (z_wI (z_wI h4 (17 + 5) (r3.toNatClampNeg) x1) (17 + 4) (r1.toNatClampNeg) (((z_wI h4 (17 + 5) (r3.toNatClampNeg) x1).1 (17 + 4) (r1.toNatClampNeg)) + 1)))) rfl).trans (z_bifA ?_)
          exact z_X_ret rfl
  · show z_X zc_P_appendNext 2 (0, [(0, .ref 25), (1, .int x1)], [], h) = _
    refine (z_X_steps (s' := (8, [(2, .int ((h.1 25 0) - 1)), (0, .ref 25), (1, .int x1)], [.int ((h.1 25 0) - 1)], h)) 6 rfl).trans ?_
    refine (z_X_br (c := (h.1 25 0) - 1 < 0) (s1 := (76, [(2, .int ((h.1 25 0) - 1)), (0, .ref 25), (1, .int x1)], [], h)) (s2 := (11, [(2, .int ((h.1 25 0) - 1)), (0, .ref 25), (1, .int x1)], [], h)) rfl).trans (z_ite ?_ ?_)
    · exact z_X_ret rfl
    · refine (z_X_steps (s' := (16, [(2, .int ((h.1 25 0) - 1)), (0, .ref 25), (1, .int x1)], [.int ((h.1 25 0) - 1), .ref (25 + 1)], h)) 3 rfl).trans ?_
      refine (z_X_if (g := z_in ((h.1 25 0) - 1) 6) (s' := (17, [(2, .int ((h.1 25 0) - 1)), (0, .ref 25), (1, .int x1)], [.int (h.1 (25 + 1) (((h.1 25 0) - 1).toNatClampNeg))], h)) rfl).trans (z_bifA ?_)
      refine (z_X_br (c := h.1 (25 + 1) (((h.1 25 0) - 1).toNatClampNeg) ≤ 0) (s1 := (76, [(2, .int ((h.1 25 0) - 1)), (0, .ref 25), (1, .int x1)], [], h)) (s2 := (20, [(2, .int ((h.1 25 0) - 1)), (0, .ref 25), (1, .int x1)], [], h)) rfl).trans (z_ite ?_ ?_)
      · exact z_X_ret rfl
      · refine (z_X_steps (s' := (25, [(2, .int ((h.1 25 0) - 1)), (0, .ref 25), (1, .int x1)], [.int ((h.1 25 0) - 1), .ref (25 + 1)], h)) 3 rfl).trans ?_
        refine (z_X_if (g := z_in ((h.1 25 0) - 1) 6) (s' := (26, [(2, .int ((h.1 25 0) - 1)), (0, .ref 25), (1, .int x1)], [.int (h.1 (25 + 1) (((h.1 25 0) - 1).toNatClampNeg))], h)) rfl).trans (z_bifA ?_)
        refine (z_X_steps (s' := (31, [(3, .int ((h.1 (25 + 1) (((h.1 25 0) - 1).toNatClampNeg)) - 1)), (2, .int ((h.1 25 0) - 1)), (0, .ref 25), (1, .int x1)], [.int ((h.1 (25 + 1) (((h.1 25 0) - 1).toNatClampNeg)) - 1), .int ((h.1 25 0) - 1)], h)) 5 rfl).trans ?_
        refine (z_X_call (id := 42) (a := [.int ((h.1 25 0) - 1), .int ((h.1 (25 + 1) (((h.1 25 0) - 1).toNatClampNeg)) - 1)]) (c := 1) (s' := (34, [(3, .int ((h.1 (25 + 1) (((h.1 25 0) - 1).toNatClampNeg)) - 1)), (2, .int ((h.1 25 0) - 1)), (0, .ref 25), (1, .int x1)], [], h)) rfl ⟨Nat.le_of_ble_eq_true rfl, Nat.le_of_ble_eq_true rfl⟩).trans ?_
        refine z_bdc fun r1 h2 => ?_
        refine (z_X_steps (s' := (42, [(4, .int r1), (3, .int ((h.1 (25 + 1) (((h.1 25 0) - 1).toNatClampNeg)) - 1)), (2, .int ((h.1 25 0) - 1)), (0, .ref 25), (1, .int x1)], [.int r1, .ref (25 + 4)], h2)) 4 rfl).trans ?_
        refine (z_X_if (g := z_in r1 48) (s' := (43, [(4, .int r1), (3, .int ((h.1 (25 + 1) (((h.1 25 0) - 1).toNatClampNeg)) - 1)), (2, .int ((h.1 25 0) - 1)), (0, .ref 25), (1, .int x1)], [.int (h2.1 (25 + 4) (r1.toNatClampNeg))], h2)) rfl).trans (z_bifA ?_)
        refine (z_X_steps (s' := (44, [(4, .int r1), (3, .int ((h.1 (25 + 1) (((h.1 25 0) - 1).toNatClampNeg)) - 1)), (2, .int ((h.1 25 0) - 1)), (0, .ref 25), (1, .int x1)], [.int 2, .int (h2.1 (25 + 4) (r1.toNatClampNeg))], h2)) 1 rfl).trans ?_
        refine (z_X_br (c := (2 : Int32) ≤ h2.1 (25 + 4) (r1.toNatClampNeg)) (s1 := (76, [(4, .int r1), (3, .int ((h.1 (25 + 1) (((h.1 25 0) - 1).toNatClampNeg)) - 1)), (2, .int ((h.1 25 0) - 1)), (0, .ref 25), (1, .int x1)], [], h2)) (s2 := (47, [(4, .int r1), (3, .int ((h.1 (25 + 1) (((h.1 25 0) - 1).toNatClampNeg)) - 1)), (2, .int ((h.1 25 0) - 1)), (0, .ref 25), (1, .int x1)], [], h2)) rfl).trans (z_ite ?_ ?_)
        · exact z_X_ret rfl
        · refine (z_X_steps (s' := (59, [(4, .int r1), (3, .int ((h.1 (25 + 1) (((h.1 25 0) - 1).toNatClampNeg)) - 1)), (2, .int ((h.1 25 0) - 1)), (0, .ref 25), (1, .int x1)], [.int r1, .ref (25 + 4), .int ((h.1 (25 + 1) (((h.1 25 0) - 1).toNatClampNeg)) - 1), .int ((h.1 25 0) - 1), .ref (25 + 5)], h2)) 7 rfl).trans ?_
          refine (z_X_if (g := z_in r1 48) (s' := (60, [(4, .int r1), (3, .int ((h.1 (25 + 1) (((h.1 25 0) - 1).toNatClampNeg)) - 1)), (2, .int ((h.1 25 0) - 1)), (0, .ref 25), (1, .int x1)], [.int (h2.1 (25 + 4) (r1.toNatClampNeg)), .int ((h.1 (25 + 1) (((h.1 25 0) - 1).toNatClampNeg)) - 1), .int ((h.1 25 0) - 1), .ref (25 + 5)], h2)) rfl).trans (z_bifA ?_)
          refine (z_X_call (id := 43) (a := [.int ((h.1 25 0) - 1), .int ((h.1 (25 + 1) (((h.1 25 0) - 1).toNatClampNeg)) - 1), .int (h2.1 (25 + 4) (r1.toNatClampNeg))]) (c := 1) (s' := (63, [(4, .int r1), (3, .int ((h.1 (25 + 1) (((h.1 25 0) - 1).toNatClampNeg)) - 1)), (2, .int ((h.1 25 0) - 1)), (0, .ref 25), (1, .int x1)], [.ref (25 + 5)], h2)) rfl ⟨Nat.le_of_ble_eq_true rfl, Nat.le_of_ble_eq_true rfl⟩).trans ?_
          refine z_bdc fun r3 h4 => ?_
          refine (z_X_steps (s' := (64, [(4, .int r1), (3, .int ((h.1 (25 + 1) (((h.1 25 0) - 1).toNatClampNeg)) - 1)), (2, .int ((h.1 25 0) - 1)), (0, .ref 25), (1, .int x1)], [.int x1, .int r3, .ref (25 + 5)], h4)) 1 rfl).trans ?_
          refine (z_X_if (g := z_in r3 96) (s' := (65, [(4, .int r1), (3, .int ((h.1 (25 + 1) (((h.1 25 0) - 1).toNatClampNeg)) - 1)), (2, .int ((h.1 25 0) - 1)), (0, .ref 25), (1, .int x1)], [], (z_wI h4 (25 + 5) (r3.toNatClampNeg) x1))) rfl).trans (z_bifA ?_)
          refine (z_X_steps (s' := (72, [(4, .int r1), (3, .int ((h.1 (25 + 1) (((h.1 25 0) - 1).toNatClampNeg)) - 1)), (2, .int ((h.1 25 0) - 1)), (0, .ref 25), (1, .int x1)], [.int r1, .ref (25 + 4), .int r1, .ref (25 + 4)], (z_wI h4 (25 + 5) (r3.toNatClampNeg) x1))) 4 rfl).trans ?_
          refine (z_X_if (g := z_in r1 48) (s' := (73, [(4, .int r1), (3, .int ((h.1 (25 + 1) (((h.1 25 0) - 1).toNatClampNeg)) - 1)), (2, .int ((h.1 25 0) - 1)), (0, .ref 25), (1, .int x1)], [.int ((z_wI h4 (25 + 5) (r3.toNatClampNeg) x1).1 (25 + 4) (r1.toNatClampNeg)), .int r1, .ref (25 + 4)], (z_wI h4 (25 + 5) (r3.toNatClampNeg) x1))) rfl).trans (z_bifA ?_)
          refine (z_X_steps (s' := (75, [(4, .int r1), (3, .int ((h.1 (25 + 1) (((h.1 25 0) - 1).toNatClampNeg)) - 1)), (2, .int ((h.1 25 0) - 1)), (0, .ref 25), (1, .int x1)], [.int (((z_wI h4 (25 + 5) (r3.toNatClampNeg) x1).1 (25 + 4) (r1.toNatClampNeg)) + 1), .int r1, .ref (25 + 4)], (z_wI h4 (25 + 5) (r3.toNatClampNeg) x1))) 2 rfl).trans ?_
          refine (z_X_if (g := z_in r1 48) (s' := (76, [(4, .int r1), (3, .int ((h.1 (25 + 1) (((h.1 25 0) - 1).toNatClampNeg)) - 1)), (2, .int ((h.1 25 0) - 1)), (0, .ref 25), (1, .int x1)], [], (z_wI (z_wI h4 (25 + 5) (r3.toNatClampNeg) x1) (25 + 4) (r1.toNatClampNeg) (((z_wI h4 (25 + 5) (r3.toNatClampNeg) x1).1 (25 + 4) (r1.toNatClampNeg)) + 1)))) rfl).trans (z_bifA ?_)
          exact z_X_ret rfl
  · show z_X zc_P_appendNext 2 (0, [(0, .ref 73), (1, .int x1)], [], h) = _
    refine (z_X_steps (s' := (8, [(2, .int ((h.1 73 0) - 1)), (0, .ref 73), (1, .int x1)], [.int ((h.1 73 0) - 1)], h)) 6 rfl).trans ?_
    refine (z_X_br (c := (h.1 73 0) - 1 < 0) (s1 := (76, [(2, .int ((h.1 73 0) - 1)), (0, .ref 73), (1, .int x1)], [], h)) (s2 := (11, [(2, .int ((h.1 73 0) - 1)), (0, .ref 73), (1, .int x1)], [], h)) rfl).trans (z_ite ?_ ?_)
    · exact z_X_ret rfl
    · refine (z_X_steps (s' := (16, [(2, .int ((h.1 73 0) - 1)), (0, .ref 73), (1, .int x1)], [.int ((h.1 73 0) - 1), .ref (73 + 1)], h)) 3 rfl).trans ?_
      refine (z_X_if (g := z_in ((h.1 73 0) - 1) 6) (s' := (17, [(2, .int ((h.1 73 0) - 1)), (0, .ref 73), (1, .int x1)], [.int (h.1 (73 + 1) (((h.1 73 0) - 1).toNatClampNeg))], h)) rfl).trans (z_bifA ?_)
      refine (z_X_br (c := h.1 (73 + 1) (((h.1 73 0) - 1).toNatClampNeg) ≤ 0) (s1 := (76, [(2, .int ((h.1 73 0) - 1)), (0, .ref 73), (1, .int x1)], [], h)) (s2 := (20, [(2, .int ((h.1 73 0) - 1)), (0, .ref 73), (1, .int x1)], [], h)) rfl).trans (z_ite ?_ ?_)
      · exact z_X_ret rfl
      · refine (z_X_steps (s' := (25, [(2, .int ((h.1 73 0) - 1)), (0, .ref 73), (1, .int x1)], [.int ((h.1 73 0) - 1), .ref (73 + 1)], h)) 3 rfl).trans ?_
        refine (z_X_if (g := z_in ((h.1 73 0) - 1) 6) (s' := (26, [(2, .int ((h.1 73 0) - 1)), (0, .ref 73), (1, .int x1)], [.int (h.1 (73 + 1) (((h.1 73 0) - 1).toNatClampNeg))], h)) rfl).trans (z_bifA ?_)
        refine (z_X_steps (s' := (31, [(3, .int ((h.1 (73 + 1) (((h.1 73 0) - 1).toNatClampNeg)) - 1)), (2, .int ((h.1 73 0) - 1)), (0, .ref 73), (1, .int x1)], [.int ((h.1 (73 + 1) (((h.1 73 0) - 1).toNatClampNeg)) - 1), .int ((h.1 73 0) - 1)], h)) 5 rfl).trans ?_
        refine (z_X_call (id := 42) (a := [.int ((h.1 73 0) - 1), .int ((h.1 (73 + 1) (((h.1 73 0) - 1).toNatClampNeg)) - 1)]) (c := 1) (s' := (34, [(3, .int ((h.1 (73 + 1) (((h.1 73 0) - 1).toNatClampNeg)) - 1)), (2, .int ((h.1 73 0) - 1)), (0, .ref 73), (1, .int x1)], [], h)) rfl ⟨Nat.le_of_ble_eq_true rfl, Nat.le_of_ble_eq_true rfl⟩).trans ?_
        refine z_bdc fun r1 h2 => ?_
        refine (z_X_steps (s' := (42, [(4, .int r1), (3, .int ((h.1 (73 + 1) (((h.1 73 0) - 1).toNatClampNeg)) - 1)), (2, .int ((h.1 73 0) - 1)), (0, .ref 73), (1, .int x1)], [.int r1, .ref (73 + 4)], h2)) 4 rfl).trans ?_
        refine (z_X_if (g := z_in r1 48) (s' := (43, [(4, .int r1), (3, .int ((h.1 (73 + 1) (((h.1 73 0) - 1).toNatClampNeg)) - 1)), (2, .int ((h.1 73 0) - 1)), (0, .ref 73), (1, .int x1)], [.int (h2.1 (73 + 4) (r1.toNatClampNeg))], h2)) rfl).trans (z_bifA ?_)
        refine (z_X_steps (s' := (44, [(4, .int r1), (3, .int ((h.1 (73 + 1) (((h.1 73 0) - 1).toNatClampNeg)) - 1)), (2, .int ((h.1 73 0) - 1)), (0, .ref 73), (1, .int x1)], [.int 2, .int (h2.1 (73 + 4) (r1.toNatClampNeg))], h2)) 1 rfl).trans ?_
        refine (z_X_br (c := (2 : Int32) ≤ h2.1 (73 + 4) (r1.toNatClampNeg)) (s1 := (76, [(4, .int r1), (3, .int ((h.1 (73 + 1) (((h.1 73 0) - 1).toNatClampNeg)) - 1)), (2, .int ((h.1 73 0) - 1)), (0, .ref 73), (1, .int x1)], [], h2)) (s2 := (47, [(4, .int r1), (3, .int ((h.1 (73 + 1) (((h.1 73 0) - 1).toNatClampNeg)) - 1)), (2, .int ((h.1 73 0) - 1)), (0, .ref 73), (1, .int x1)], [], h2)) rfl).trans (z_ite ?_ ?_)
        · exact z_X_ret rfl
        · refine (z_X_steps (s' := (59, [(4, .int r1), (3, .int ((h.1 (73 + 1) (((h.1 73 0) - 1).toNatClampNeg)) - 1)), (2, .int ((h.1 73 0) - 1)), (0, .ref 73), (1, .int x1)], [.int r1, .ref (73 + 4), .int ((h.1 (73 + 1) (((h.1 73 0) - 1).toNatClampNeg)) - 1), .int ((h.1 73 0) - 1), .ref (73 + 5)], h2)) 7 rfl).trans ?_
          refine (z_X_if (g := z_in r1 48) (s' := (60, [(4, .int r1), (3, .int ((h.1 (73 + 1) (((h.1 73 0) - 1).toNatClampNeg)) - 1)), (2, .int ((h.1 73 0) - 1)), (0, .ref 73), (1, .int x1)], [.int (h2.1 (73 + 4) (r1.toNatClampNeg)), .int ((h.1 (73 + 1) (((h.1 73 0) - 1).toNatClampNeg)) - 1), .int ((h.1 73 0) - 1), .ref (73 + 5)], h2)) rfl).trans (z_bifA ?_)
          refine (z_X_call (id := 43) (a := [.int ((h.1 73 0) - 1), .int ((h.1 (73 + 1) (((h.1 73 0) - 1).toNatClampNeg)) - 1), .int (h2.1 (73 + 4) (r1.toNatClampNeg))]) (c := 1) (s' := (63, [(4, .int r1), (3, .int ((h.1 (73 + 1) (((h.1 73 0) - 1).toNatClampNeg)) - 1)), (2, .int ((h.1 73 0) - 1)), (0, .ref 73), (1, .int x1)], [.ref (73 + 5)], h2)) rfl ⟨Nat.le_of_ble_eq_true rfl, Nat.le_of_ble_eq_true rfl⟩).trans ?_
          refine z_bdc fun r3 h4 => ?_
          refine (z_X_steps (s' := (64, [(4, .int r1), (3, .int ((h.1 (73 + 1) (((h.1 73 0) - 1).toNatClampNeg)) - 1)), (2, .int ((h.1 73 0) - 1)), (0, .ref 73), (1, .int x1)], [.int x1, .int r3, .ref (73 + 5)], h4)) 1 rfl).trans ?_
          refine (z_X_if (g := z_in r3 96) (s' := (65, [(4, .int r1), (3, .int ((h.1 (73 + 1) (((h.1 73 0) - 1).toNatClampNeg)) - 1)), (2, .int ((h.1 73 0) - 1)), (0, .ref 73), (1, .int x1)], [], (z_wI h4 (73 + 5) (r3.toNatClampNeg) x1))) rfl).trans (z_bifA ?_)
          refine (z_X_steps (s' := (72, [(4, .int r1), (3, .int ((h.1 (73 + 1) (((h.1 73 0) - 1).toNatClampNeg)) - 1)), (2, .int ((h.1 73 0) - 1)), (0, .ref 73), (1, .int x1)], [.int r1, .ref (73 + 4), .int r1, .ref (73 + 4)], (z_wI h4 (73 + 5) (r3.toNatClampNeg) x1))) 4 rfl).trans ?_
          refine (z_X_if (g := z_in r1 48) (s' := (73, [(4, .int r1), (3, .int ((h.1 (73 + 1) (((h.1 73 0) - 1).toNatClampNeg)) - 1)), (2, .int ((h.1 73 0) - 1)), (0, .ref 73), (1, .int x1)], [.int ((z_wI h4 (73 + 5) (r3.toNatClampNeg) x1).1 (73 + 4) (r1.toNatClampNeg)), .int r1, .ref (73 + 4)], (z_wI h4 (73 + 5) (r3.toNatClampNeg) x1))) rfl).trans (z_bifA ?_)
          refine (z_X_steps (s' := (75, [(4, .int r1), (3, .int ((h.1 (73 + 1) (((h.1 73 0) - 1).toNatClampNeg)) - 1)), (2, .int ((h.1 73 0) - 1)), (0, .ref 73), (1, .int x1)], [.int (((z_wI h4 (73 + 5) (r3.toNatClampNeg) x1).1 (73 + 4) (r1.toNatClampNeg)) + 1), .int r1, .ref (73 + 4)], (z_wI h4 (73 + 5) (r3.toNatClampNeg) x1))) 2 rfl).trans ?_
          refine (z_X_if (g := z_in r1 48) (s' := (76, [(4, .int r1), (3, .int ((h.1 (73 + 1) (((h.1 73 0) - 1).toNatClampNeg)) - 1)), (2, .int ((h.1 73 0) - 1)), (0, .ref 73), (1, .int x1)], [], (z_wI (z_wI h4 (73 + 5) (r3.toNatClampNeg) x1) (73 + 4) (r1.toNatClampNeg) (((z_wI h4 (73 + 5) (r3.toNatClampNeg) x1).1 (73 + 4) (r1.toNatClampNeg)) + 1)))) rfl).trans (z_bifA ?_)
          exact z_X_ret rfl
  · show z_X zc_P_appendNext 2 (0, [(0, .ref 81), (1, .int x1)], [], h) = _
    refine (z_X_steps (s' := (8, [(2, .int ((h.1 81 0) - 1)), (0, .ref 81), (1, .int x1)], [.int ((h.1 81 0) - 1)], h)) 6 rfl).trans ?_
    refine (z_X_br (c := (h.1 81 0) - 1 < 0) (s1 := (76, [(2, .int ((h.1 81 0) - 1)), (0, .ref 81), (1, .int x1)], [], h)) (s2 := (11, [(2, .int ((h.1 81 0) - 1)), (0, .ref 81), (1, .int x1)], [], h)) rfl).trans (z_ite ?_ ?_)
    · exact z_X_ret rfl
    · refine (z_X_steps (s' := (16, [(2, .int ((h.1 81 0) - 1)), (0, .ref 81), (1, .int x1)], [.int ((h.1 81 0) - 1), .ref (81 + 1)], h)) 3 rfl).trans ?_
      refine (z_X_if (g := z_in ((h.1 81 0) - 1) 6) (s' := (17, [(2, .int ((h.1 81 0) - 1)), (0, .ref 81), (1, .int x1)], [.int (h.1 (81 + 1) (((h.1 81 0) - 1).toNatClampNeg))], h)) rfl).trans (z_bifA ?_)
      refine (z_X_br (c := h.1 (81 + 1) (((h.1 81 0) - 1).toNatClampNeg) ≤ 0) (s1 := (76, [(2, .int ((h.1 81 0) - 1)), (0, .ref 81), (1, .int x1)], [], h)) (s2 := (20, [(2, .int ((h.1 81 0) - 1)), (0, .ref 81), (1, .int x1)], [], h)) rfl).trans (z_ite ?_ ?_)
      · exact z_X_ret rfl
      · refine (z_X_steps (s' := (25, [(2, .int ((h.1 81 0) - 1)), (0, .ref 81), (1, .int x1)], [.int ((h.1 81 0) - 1), .ref (81 + 1)], h)) 3 rfl).trans ?_
        refine (z_X_if (g := z_in ((h.1 81 0) - 1) 6) (s' := (26, [(2, .int ((h.1 81 0) - 1)), (0, .ref 81), (1, .int x1)], [.int (h.1 (81 + 1) (((h.1 81 0) - 1).toNatClampNeg))], h)) rfl).trans (z_bifA ?_)
        refine (z_X_steps (s' := (31, [(3, .int ((h.1 (81 + 1) (((h.1 81 0) - 1).toNatClampNeg)) - 1)), (2, .int ((h.1 81 0) - 1)), (0, .ref 81), (1, .int x1)], [.int ((h.1 (81 + 1) (((h.1 81 0) - 1).toNatClampNeg)) - 1), .int ((h.1 81 0) - 1)], h)) 5 rfl).trans ?_
        refine (z_X_call (id := 42) (a := [.int ((h.1 81 0) - 1), .int ((h.1 (81 + 1) (((h.1 81 0) - 1).toNatClampNeg)) - 1)]) (c := 1) (s' := (34, [(3, .int ((h.1 (81 + 1) (((h.1 81 0) - 1).toNatClampNeg)) - 1)), (2, .int ((h.1 81 0) - 1)), (0, .ref 81), (1, .int x1)], [], h)) rfl ⟨Nat.le_of_ble_eq_true rfl, Nat.le_of_ble_eq_true rfl⟩).trans ?_
        refine z_bdc fun r1 h2 => ?_
        refine (z_X_steps (s' := (42, [(4, .int r1), (3, .int ((h.1 (81 + 1) (((h.1 81 0) - 1).toNatClampNeg)) - 1)), (2, .int ((h.1 81 0) - 1)), (0, .ref 81), (1, .int x1)], [.int r1, .ref (81 + 4)], h2)) 4 rfl).trans ?_
        refine (z_X_if (g := z_in r1 48) (s' := (43, [(4, .int r1), (3, .int ((h.1 (81 + 1) (((h.1 81 0) - 1).toNatClampNeg)) - 1)), (2, .int ((h.1 81 0) - 1)), (0, .ref 81), (1, .int x1)], [.int (h2.1 (81 + 4) (r1.toNatClampNeg))], h2)) rfl).trans (z_bifA ?_)
        refine (z_X_steps (s' := (44, [(4, .int r1), (3, .int ((h.1 (81 + 1) (((h.1 81 0) - 1).toNatClampNeg)) - 1)), (2, .int ((h.1 81 0) - 1)), (0, .ref 81), (1, .int x1)], [.int 2, .int (h2.1 (81 + 4) (r1.toNatClampNeg))], h2)) 1 rfl).trans ?_
        refine (z_X_br (c := (2 : Int32) ≤ h2.1 (81 + 4) (r1.toNatClampNeg)) (s1 := (76, [(4, .int r1), (3, .int ((h.1 (81 + 1) (((h.1 81 0) - 1).toNatClampNeg)) - 1)), (2, .int ((h.1 81 0) - 1)), (0, .ref 81), (1, .int x1)], [], h2)) (s2 := (47, [(4, .int r1), (3, .int ((h.1 (81 + 1) (((h.1 81 0) - 1).toNatClampNeg)) - 1)), (2, .int ((h.1 81 0) - 1)), (0, .ref 81), (1, .int x1)], [], h2)) rfl).trans (z_ite ?_ ?_)
        · exact z_X_ret rfl
        · refine (z_X_steps (s' := (59, [(4, .int r1), (3, .int ((h.1 (81 + 1) (((h.1 81 0) - 1).toNatClampNeg)) - 1)), (2, .int ((h.1 81 0) - 1)), (0, .ref 81), (1, .int x1)], [.int r1, .ref (81 + 4), .int ((h.1 (81 + 1) (((h.1 81 0) - 1).toNatClampNeg)) - 1), .int ((h.1 81 0) - 1), .ref (81 + 5)], h2)) 7 rfl).trans ?_
          refine (z_X_if (g := z_in r1 48) (s' := (60, [(4, .int r1), (3, .int ((h.1 (81 + 1) (((h.1 81 0) - 1).toNatClampNeg)) - 1)), (2, .int ((h.1 81 0) - 1)), (0, .ref 81), (1, .int x1)], [.int (h2.1 (81 + 4) (r1.toNatClampNeg)), .int ((h.1 (81 + 1) (((h.1 81 0) - 1).toNatClampNeg)) - 1), .int ((h.1 81 0) - 1), .ref (81 + 5)], h2)) rfl).trans (z_bifA ?_)
          refine (z_X_call (id := 43) (a := [.int ((h.1 81 0) - 1), .int ((h.1 (81 + 1) (((h.1 81 0) - 1).toNatClampNeg)) - 1), .int (h2.1 (81 + 4) (r1.toNatClampNeg))]) (c := 1) (s' := (63, [(4, .int r1), (3, .int ((h.1 (81 + 1) (((h.1 81 0) - 1).toNatClampNeg)) - 1)), (2, .int ((h.1 81 0) - 1)), (0, .ref 81), (1, .int x1)], [.ref (81 + 5)], h2)) rfl ⟨Nat.le_of_ble_eq_true rfl, Nat.le_of_ble_eq_true rfl⟩).trans ?_
          refine z_bdc fun r3 h4 => ?_
          refine (z_X_steps (s' := (64, [(4, .int r1), (3, .int ((h.1 (81 + 1) (((h.1 81 0) - 1).toNatClampNeg)) - 1)), (2, .int ((h.1 81 0) - 1)), (0, .ref 81), (1, .int x1)], [.int x1, .int r3, .ref (81 + 5)], h4)) 1 rfl).trans ?_
          refine (z_X_if (g := z_in r3 96) (s' := (65, [(4, .int r1), (3, .int ((h.1 (81 + 1) (((h.1 81 0) - 1).toNatClampNeg)) - 1)), (2, .int ((h.1 81 0) - 1)), (0, .ref 81), (1, .int x1)], [], (z_wI h4 (81 + 5) (r3.toNatClampNeg) x1))) rfl).trans (z_bifA ?_)
          refine (z_X_steps (s' := (72, [(4, .int r1), (3, .int ((h.1 (81 + 1) (((h.1 81 0) - 1).toNatClampNeg)) - 1)), (2, .int ((h.1 81 0) - 1)), (0, .ref 81), (1, .int x1)], [.int r1, .ref (81 + 4), .int r1, .ref (81 + 4)], (z_wI h4 (81 + 5) (r3.toNatClampNeg) x1))) 4 rfl).trans ?_
          refine (z_X_if (g := z_in r1 48) (s' := (73, [(4, .int r1), (3, .int ((h.1 (81 + 1) (((h.1 81 0) - 1).toNatClampNeg)) - 1)), (2, .int ((h.1 81 0) - 1)), (0, .ref 81), (1, .int x1)], [.int ((z_wI h4 (81 + 5) (r3.toNatClampNeg) x1).1 (81 + 4) (r1.toNatClampNeg)), .int r1, .ref (81 + 4)], (z_wI h4 (81 + 5) (r3.toNatClampNeg) x1))) rfl).trans (z_bifA ?_)
          refine (z_X_steps (s' := (75, [(4, .int r1), (3, .int ((h.1 (81 + 1) (((h.1 81 0) - 1).toNatClampNeg)) - 1)), (2, .int ((h.1 81 0) - 1)), (0, .ref 81), (1, .int x1)], [.int (((z_wI h4 (81 + 5) (r3.toNatClampNeg) x1).1 (81 + 4) (r1.toNatClampNeg)) + 1), .int r1, .ref (81 + 4)], (z_wI h4 (81 + 5) (r3.toNatClampNeg) x1))) 2 rfl).trans ?_
          refine (z_X_if (g := z_in r1 48) (s' := (76, [(4, .int r1), (3, .int ((h.1 (81 + 1) (((h.1 81 0) - 1).toNatClampNeg)) - 1)), (2, .int ((h.1 81 0) - 1)), (0, .ref 81), (1, .int x1)], [], (z_wI (z_wI h4 (81 + 5) (r3.toNatClampNeg) x1) (81 + 4) (r1.toNatClampNeg) (((z_wI h4 (81 + 5) (r3.toNatClampNeg) x1).1 (81 + 4) (r1.toNatClampNeg)) + 1)))) rfl).trans (z_bifA ?_)
          exact z_X_ret rfl
  · show z_X zc_P_appendNext 2 (0, [(0, .ref 94), (1, .int x1)], [], h) = _
    refine (z_X_steps (s' := (8, [(2, .int ((h.1 94 0) - 1)), (0, .ref 94), (1, .int x1)], [.int ((h.1 94 0) - 1)], h)) 6 rfl).trans ?_
    refine (z_X_br (c := (h.1 94 0) - 1 < 0) (s1 := (76, [(2, .int ((h.1 94 0) - 1)), (0, .ref 94), (1, .int x1)], [], h)) (s2 := (11, [(2, .int ((h.1 94 0) - 1)), (0, .ref 94), (1, .int x1)], [], h)) rfl).trans (z_ite ?_ ?_)
    · exact z_X_ret rfl
    · refine (z_X_steps (s' := (16, [(2, .int ((h.1 94 0) - 1)), (0, .ref 94), (1, .int x1)], [.int ((h.1 94 0) - 1), .ref (94 + 1)], h)) 3 rfl).trans ?_
      refine (z_X_if (g := z_in ((h.1 94 0) - 1) 6) (s' := (17, [(2, .int ((h.1 94 0) - 1)), (0, .ref 94), (1, .int x1)], [.int (h.1 (94 + 1) (((h.1 94 0) - 1).toNatClampNeg))], h)) rfl).trans (z_bifA ?_)
      refine (z_X_br (c := h.1 (94 + 1) (((h.1 94 0) - 1).toNatClampNeg) ≤ 0) (s1 := (76, [(2, .int ((h.1 94 0) - 1)), (0, .ref 94), (1, .int x1)], [], h)) (s2 := (20, [(2, .int ((h.1 94 0) - 1)), (0, .ref 94), (1, .int x1)], [], h)) rfl).trans (z_ite ?_ ?_)
      · exact z_X_ret rfl
      · refine (z_X_steps (s' := (25, [(2, .int ((h.1 94 0) - 1)), (0, .ref 94), (1, .int x1)], [.int ((h.1 94 0) - 1), .ref (94 + 1)], h)) 3 rfl).trans ?_
        refine (z_X_if (g := z_in ((h.1 94 0) - 1) 6) (s' := (26, [(2, .int ((h.1 94 0) - 1)), (0, .ref 94), (1, .int x1)], [.int (h.1 (94 + 1) (((h.1 94 0) - 1).toNatClampNeg))], h)) rfl).trans (z_bifA ?_)
        refine (z_X_steps (s' := (31, [(3, .int ((h.1 (94 + 1) (((h.1 94 0) - 1).toNatClampNeg)) - 1)), (2, .int ((h.1 94 0) - 1)), (0, .ref 94), (1, .int x1)], [.int ((h.1 (94 + 1) (((h.1 94 0) - 1).toNatClampNeg)) - 1), .int ((h.1 94 0) - 1)], h)) 5 rfl).trans ?_
        refine (z_X_call (id := 42) (a := [.int ((h.1 94 0) - 1), .int ((h.1 (94 + 1) (((h.1 94 0) - 1).toNatClampNeg)) - 1)]) (c := 1) (s' := (34, [(3, .int ((h.1 (94 + 1) (((h.1 94 0) - 1).toNatClampNeg)) - 1)), (2, .int ((h.1 94 0) - 1)), (0, .ref 94), (1, .int x1)], [], h)) rfl ⟨Nat.le_of_ble_eq_true rfl, Nat.le_of_ble_eq_true rfl⟩).trans ?_
        refine z_bdc fun r1 h2 => ?_
        refine (z_X_steps (s' := (42, [(4, .int r1), (3, .int ((h.1 (94 + 1) (((h.1 94 0) - 1).toNatClampNeg)) - 1)), (2, .int ((h.1 94 0) - 1)), (0, .ref 94), (1, .int x1)], [.int r1, .ref (94 + 4)], h2)) 4 rfl).trans ?_
        refine (z_X_if (g := z_in r1 48) (s' := (43, [(4, .int r1), (3, .int ((h.1 (94 + 1) (((h.1 94 0) - 1).toNatClampNeg)) - 1)), (2, .int ((h.1 94 0) - 1)), (0, .ref 94), (1, .int x1)], [.int (h2.1 (94 + 4) (r1.toNatClampNeg))], h2)) rfl).trans (z_bifA ?_)
        refine (z_X_steps (s' := (44, [(4, .int r1), (3, .int ((h.1 (94 + 1) (((h.1 94 0) - 1).toNatClampNeg)) - 1)), (2, .int ((h.1 94 0) - 1)), (0, .ref 94), (1, .int x1)], [.int 2, .int (h2.1 (94 + 4) (r1.toNatClampNeg))], h2)) 1 rfl).trans ?_
        refine (z_X_br (c := (2 : Int32) ≤ h2.1 (94 + 4) (r1.toNatClampNeg)) (s1 := (76, [(4, .int r1), (3, .int ((h.1 (94 + 1) (((h.1 94 0) - 1).toNatClampNeg)) - 1)), (2, .int ((h.1 94 0) - 1)), (0, .ref 94), (1, .int x1)], [], h2)) (s2 := (47, [(4, .int r1), (3, .int ((h.1 (94 + 1) (((h.1 94 0) - 1).toNatClampNeg)) - 1)), (2, .int ((h.1 94 0) - 1)), (0, .ref 94), (1, .int x1)], [], h2)) rfl).trans (z_ite ?_ ?_)
        · exact z_X_ret rfl
        · refine (z_X_steps (s' := (59, [(4, .int r1), (3, .int ((h.1 (94 + 1) (((h.1 94 0) - 1).toNatClampNeg)) - 1)), (2, .int ((h.1 94 0) - 1)), (0, .ref 94), (1, .int x1)], [.int r1, .ref (94 + 4), .int ((h.1 (94 + 1) (((h.1 94 0) - 1).toNatClampNeg)) - 1), .int ((h.1 94 0) - 1), .ref (94 + 5)], h2)) 7 rfl).trans ?_
          refine (z_X_if (g := z_in r1 48) (s' := (60, [(4, .int r1), (3, .int ((h.1 (94 + 1) (((h.1 94 0) - 1).toNatClampNeg)) - 1)), (2, .int ((h.1 94 0) - 1)), (0, .ref 94), (1, .int x1)], [.int (h2.1 (94 + 4) (r1.toNatClampNeg)), .int ((h.1 (94 + 1) (((h.1 94 0) - 1).toNatClampNeg)) - 1), .int ((h.1 94 0) - 1), .ref (94 + 5)], h2)) rfl).trans (z_bifA ?_)
          refine (z_X_call (id := 43) (a := [.int ((h.1 94 0) - 1), .int ((h.1 (94 + 1) (((h.1 94 0) - 1).toNatClampNeg)) - 1), .int (h2.1 (94 + 4) (r1.toNatClampNeg))]) (c := 1) (s' := (63, [(4, .int r1), (3, .int ((h.1 (94 + 1) (((h.1 94 0) - 1).toNatClampNeg)) - 1)), (2, .int ((h.1 94 0) - 1)), (0, .ref 94), (1, .int x1)], [.ref (94 + 5)], h2)) rfl ⟨Nat.le_of_ble_eq_true rfl, Nat.le_of_ble_eq_true rfl⟩).trans ?_
          refine z_bdc fun r3 h4 => ?_
          refine (z_X_steps (s' := (64, [(4, .int r1), (3, .int ((h.1 (94 + 1) (((h.1 94 0) - 1).toNatClampNeg)) - 1)), (2, .int ((h.1 94 0) - 1)), (0, .ref 94), (1, .int x1)], [.int x1, .int r3, .ref (94 + 5)], h4)) 1 rfl).trans ?_
          refine (z_X_if (g := z_in r3 96) (s' := (65, [(4, .int r1), (3, .int ((h.1 (94 + 1) (((h.1 94 0) - 1).toNatClampNeg)) - 1)), (2, .int ((h.1 94 0) - 1)), (0, .ref 94), (1, .int x1)], [], (z_wI h4 (94 + 5) (r3.toNatClampNeg) x1))) rfl).trans (z_bifA ?_)
          refine (z_X_steps (s' := (72, [(4, .int r1), (3, .int ((h.1 (94 + 1) (((h.1 94 0) - 1).toNatClampNeg)) - 1)), (2, .int ((h.1 94 0) - 1)), (0, .ref 94), (1, .int x1)], [.int r1, .ref (94 + 4), .int r1, .ref (94 + 4)], (z_wI h4 (94 + 5) (r3.toNatClampNeg) x1))) 4 rfl).trans ?_
          refine (z_X_if (g := z_in r1 48) (s' := (73, [(4, .int r1), (3, .int ((h.1 (94 + 1) (((h.1 94 0) - 1).toNatClampNeg)) - 1)), (2, .int ((h.1 94 0) - 1)), (0, .ref 94), (1, .int x1)], [.int ((z_wI h4 (94 + 5) (r3.toNatClampNeg) x1).1 (94 + 4) (r1.toNatClampNeg)), .int r1, .ref (94 + 4)], (z_wI h4 (94 + 5) (r3.toNatClampNeg) x1))) rfl).trans (z_bifA ?_)
          refine (z_X_steps (s' := (75, [(4, .int r1), (3, .int ((h.1 (94 + 1) (((h.1 94 0) - 1).toNatClampNeg)) - 1)), (2, .int ((h.1 94 0) - 1)), (0, .ref 94), (1, .int x1)], [.int (((z_wI h4 (94 + 5) (r3.toNatClampNeg) x1).1 (94 + 4) (r1.toNatClampNeg)) + 1), .int r1, .ref (94 + 4)], (z_wI h4 (94 + 5) (r3.toNatClampNeg) x1))) 2 rfl).trans ?_
          refine (z_X_if (g := z_in r1 48) (s' := (76, [(4, .int r1), (3, .int ((h.1 (94 + 1) (((h.1 94 0) - 1).toNatClampNeg)) - 1)), (2, .int ((h.1 94 0) - 1)), (0, .ref 94), (1, .int x1)], [], (z_wI (z_wI h4 (94 + 5) (r3.toNatClampNeg) x1) (94 + 4) (r1.toNatClampNeg) (((z_wI h4 (94 + 5) (r3.toNatClampNeg) x1).1 (94 + 4) (r1.toNatClampNeg)) + 1)))) rfl).trans (z_bifA ?_)
          exact z_X_ret rfl
  · show z_X zc_P_appendNext 2 (0, [(0, .ref 102), (1, .int x1)], [], h) = _
    refine (z_X_steps (s' := (8, [(2, .int ((h.1 102 0) - 1)), (0, .ref 102), (1, .int x1)], [.int ((h.1 102 0) - 1)], h)) 6 rfl).trans ?_
    refine (z_X_br (c := (h.1 102 0) - 1 < 0) (s1 := (76, [(2, .int ((h.1 102 0) - 1)), (0, .ref 102), (1, .int x1)], [], h)) (s2 := (11, [(2, .int ((h.1 102 0) - 1)), (0, .ref 102), (1, .int x1)], [], h)) rfl).trans (z_ite ?_ ?_)
    · exact z_X_ret rfl
    · refine (z_X_steps (s' := (16, [(2, .int ((h.1 102 0) - 1)), (0, .ref 102), (1, .int x1)], [.int ((h.1 102 0) - 1), .ref (102 + 1)], h)) 3 rfl).trans ?_
      refine (z_X_if (g := z_in ((h.1 102 0) - 1) 6) (s' := (17, [(2, .int ((h.1 102 0) - 1)), (0, .ref 102), (1, .int x1)], [.int (h.1 (102 + 1) (((h.1 102 0) - 1).toNatClampNeg))], h)) rfl).trans (z_bifA ?_)
      refine (z_X_br (c := h.1 (102 + 1) (((h.1 102 0) - 1).toNatClampNeg) ≤ 0) (s1 := (76, [(2, .int ((h.1 102 0) - 1)), (0, .ref 102), (1, .int x1)], [], h)) (s2 := (20, [(2, .int ((h.1 102 0) - 1)), (0, .ref 102), (1, .int x1)], [], h)) rfl).trans (z_ite ?_ ?_)
      · exact z_X_ret rfl
      · refine (z_X_steps (s' := (25, [(2, .int ((h.1 102 0) - 1)), (0, .ref 102), (1, .int x1)], [.int ((h.1 102 0) - 1), .ref (102 + 1)], h)) 3 rfl).trans ?_
        refine (z_X_if (g := z_in ((h.1 102 0) - 1) 6) (s' := (26, [(2, .int ((h.1 102 0) - 1)), (0, .ref 102), (1, .int x1)], [.int (h.1 (102 + 1) (((h.1 102 0) - 1).toNatClampNeg))], h)) rfl).trans (z_bifA ?_)
        refine (z_X_steps (s' := (31, [(3, .int ((h.1 (102 + 1) (((h.1 102 0) - 1).toNatClampNeg)) - 1)), (2, .int ((h.1 102 0) - 1)), (0, .ref 102), (1, .int x1)], [.int ((h.1 (102 + 1) (((h.1 102 0) - 1).toNatClampNeg)) - 1), .int ((h.1 102 0) - 1)], h)) 5 rfl).trans ?_
        refine (z_X_call (id := 42) (a := [.int ((h.1 102 0) - 1), .int ((h.1 (102 + 1) (((h.1 102 0) - 1).toNatClampNeg)) - 1)]) (c := 1) (s' := (34, [(3, .int ((h.1 (102 + 1) (((h.1 102 0) - 1).toNatClampNeg)) - 1)), (2, .int ((h.1 102 0) - 1)), (0, .ref 102), (1, .int x1)], [], h)) rfl ⟨Nat.le_of_ble_eq_true rfl, Nat.le_of_ble_eq_true rfl⟩).trans ?_
        refine z_bdc fun r1 h2 => ?_
        refine (z_X_steps (s' := (42, [(4, .int r1), (3, .int ((h.1 (102 + 1) (((h.1 102 0) - 1).toNatClampNeg)) - 1)), (2, .int ((h.1 102 0) - 1)), (0, .ref 102), (1, .int x1)], [.int r1, .ref (102 + 4)], h2)) 4 rfl).trans ?_
        refine (z_X_if (g := z_in r1 48) (s' := (43, [(4, .int r1), (3, .int ((h.1 (102 + 1) (((h.1 102 0) - 1).toNatClampNeg)) - 1)), (2, .int ((h.1 102 0) - 1)), (0, .ref 102), (1, .int x1)], [.int (h2.1 (102 + 4) (r1.toNatClampNeg))], h2)) rfl).trans (z_bifA ?_)
        refine (z_X_steps (s' := (44, [(4, .int r1), (3, .int ((h.1 (102 + 1) (((h.1 102 0) - 1).toNatClampNeg)) - 1)), (2, .int ((h.1 102 0) - 1)), (0, .ref 102), (1, .int x1)], [.int 2, .int (h2.1 (102 + 4) (r1.toNatClampNeg))], h2)) 1 rfl).trans ?_
        refine (z_X_br (c := (2 : Int32) ≤ h2.1 (102 + 4) (r1.toNatClampNeg)) (s1 := (76, [(4, .int r1), (3, .int ((h.1 (102 + 1) (((h.1 102 0) - 1).toNatClampNeg)) - 1)), (2, .int ((h.1 102 0) - 1)), (0, .ref 102), (1, .int x1)], [], h2)) (s2 := (47, [(4, .int r1), (3, .int ((h.1 (102 + 1) (((h.1 102 0) - 1).toNatClampNeg)) - 1)), (2, .int ((h.1 102 0) - 1)), (0, .ref 102), (1, .int x1)], [], h2)) rfl).trans (z_ite ?_ ?_)
        · exact z_X_ret rfl
        · refine (z_X_steps (s' := (59, [(4, .int r1), (3, .int ((h.1 (102 + 1) (((h.1 102 0) - 1).toNatClampNeg)) - 1)), (2, .int ((h.1 102 0) - 1)), (0, .ref 102), (1, .int x1)], [.int r1, .ref (102 + 4), .int ((h.1 (102 + 1) (((h.1 102 0) - 1).toNatClampNeg)) - 1), .int ((h.1 102 0) - 1), .ref (102 + 5)], h2)) 7 rfl).trans ?_
          refine (z_X_if (g := z_in r1 48) (s' := (60, [(4, .int r1), (3, .int ((h.1 (102 + 1) (((h.1 102 0) - 1).toNatClampNeg)) - 1)), (2, .int ((h.1 102 0) - 1)), (0, .ref 102), (1, .int x1)], [.int (h2.1 (102 + 4) (r1.toNatClampNeg)), .int ((h.1 (102 + 1) (((h.1 102 0) - 1).toNatClampNeg)) - 1), .int ((h.1 102 0) - 1), .ref (102 + 5)], h2)) rfl).trans (z_bifA ?_)
          refine (z_X_call (id := 43) (a := [.int ((h.1 102 0) - 1), .int ((h.1 (102 + 1) (((h.1 102 0) - 1).toNatClampNeg)) - 1), .int (h2.1 (102 + 4) (r1.toNatClampNeg))]) (c := 1) (s' := (63, [(4, .int r1), (3, .int ((h.1 (102 + 1) (((h.1 102 0) - 1).toNatClampNeg)) - 1)), (2, .int ((h.1 102 0) - 1)), (0, .ref 102), (1, .int x1)], [.ref (102 + 5)], h2)) rfl ⟨Nat.le_of_ble_eq_true rfl, Nat.le_of_ble_eq_true rfl⟩).trans ?_
          refine z_bdc fun r3 h4 => ?_
          refine (z_X_steps (s' := (64, [(4, .int r1), (3, .int ((h.1 (102 + 1) (((h.1 102 0) - 1).toNatClampNeg)) - 1)), (2, .int ((h.1 102 0) - 1)), (0, .ref 102), (1, .int x1)], [.int x1, .int r3, .ref (102 + 5)], h4)) 1 rfl).trans ?_
          refine (z_X_if (g := z_in r3 96) (s' := (65, [(4, .int r1), (3, .int ((h.1 (102 + 1) (((h.1 102 0) - 1).toNatClampNeg)) - 1)), (2, .int ((h.1 102 0) - 1)), (0, .ref 102), (1, .int x1)], [], (z_wI h4 (102 + 5) (r3.toNatClampNeg) x1))) rfl).trans (z_bifA ?_)
          refine (z_X_steps (s' := (72, [(4, .int r1), (3, .int ((h.1 (102 + 1) (((h.1 102 0) - 1).toNatClampNeg)) - 1)), (2, .int ((h.1 102 0) - 1)), (0, .ref 102), (1, .int x1)], [.int r1, .ref (102 + 4), .int r1, .ref (102 + 4)], (z_wI h4 (102 + 5) (r3.toNatClampNeg) x1))) 4 rfl).trans ?_
          refine (z_X_if (g := z_in r1 48) (s' := (73, [(4, .int r1), (3, .int ((h.1 (102 + 1) (((h.1 102 0) - 1).toNatClampNeg)) - 1)), (2, .int ((h.1 102 0) - 1)), (0, .ref 102), (1, .int x1)], [.int ((z_wI h4 (102 + 5) (r3.toNatClampNeg) x1).1 (102 + 4) (r1.toNatClampNeg)), .int r1, .ref (102 + 4)], (z_wI h4 (102 + 5) (r3.toNatClampNeg) x1))) rfl).trans (z_bifA ?_)
          refine (z_X_steps (s' := (75, [(4, .int r1), (3, .int ((h.1 (102 + 1) (((h.1 102 0) - 1).toNatClampNeg)) - 1)), (2, .int ((h.1 102 0) - 1)), (0, .ref 102), (1, .int x1)], [.int (((z_wI h4 (102 + 5) (r3.toNatClampNeg) x1).1 (102 + 4) (r1.toNatClampNeg)) + 1), .int r1, .ref (102 + 4)], (z_wI h4 (102 + 5) (r3.toNatClampNeg) x1))) 2 rfl).trans ?_
          refine (z_X_if (g := z_in r1 48) (s' := (76, [(4, .int r1), (3, .int ((h.1 (102 + 1) (((h.1 102 0) - 1).toNatClampNeg)) - 1)), (2, .int ((h.1 102 0) - 1)), (0, .ref 102), (1, .int x1)], [], (z_wI (z_wI h4 (102 + 5) (r3.toNatClampNeg) x1) (102 + 4) (r1.toNatClampNeg) (((z_wI h4 (102 + 5) (r3.toNatClampNeg) x1).1 (102 + 4) (r1.toNatClampNeg)) + 1)))) rfl).trans (z_bifA ?_)
          exact z_X_ret rfl
set_option maxRecDepth 8000 in
set_option maxHeartbeats 2000000 in
theorem e_P_appendClass {o : Nat} (hi : o ∈ [4, 17, 25, 73, 81, 94, 102]) (x1 : Int32) (h : z_H) : z_M 88 [.ref o, .int x1] h = (if (4 : Int32) ≤ h.1 o 1 then some (0, h) else (bif z_in (h.1 o 1) 4 then some (0, (z_wI (z_wI h (o + 6) ((h.1 o 1).toNatClampNeg) x1) o 1 (((z_wI h (o + 6) ((h.1 o 1).toNatClampNeg) x1).1 o 1) + 1))) else none)) := by
  refine (z_M_eq (by decide)).trans ?_
  simp only [List.mem_cons, List.not_mem_nil, or_false, Prod.mk.injEq] at hi
  rcases hi with rfl | rfl | rfl | rfl | rfl | rfl | rfl
  · show z_X zc_P_appendClass 1 (0, [(0, .ref 4), (1, .int x1)], [], h) = _
    refine (z_X_steps (s' := (5, [(0, .ref 4), (1, .int x1)], [.int 4, .int (h.1 4 1)], h)) 3 rfl).trans ?_
    refine (z_X_br (c := (4 : Int32) ≤ h.1 4 1) (s1 := (28, [(0, .ref 4), (1, .int x1)], [], h)) (s2 := (8, [(0, .ref 4), (1, .int x1)], [], h)) rfl).trans (z_ite ?_ ?_)
    · exact z_X_ret rfl
    · refine (z_X_steps (s' := (17, [(0, .ref 4), (1, .int x1)], [.int x1, .int (h.1 4 1), .ref (4 + 6)], h)) 5 rfl).trans ?_
      refine (z_X_if (g := z_in (h.1 4 1) 4) (s' := (18, [(0, .ref 4), (1, .int x1)], [], (z_wI h (4 + 6) ((h.1 4 1).toNatClampNeg) x1))) rfl).trans (z_bifA ?_)
      refine (z_X_steps (s' := (28, [(0, .ref 4), (1, .int x1)], [], (z_wI (z_wI h (4 + 6) ((h.1 4 1).toNatClampNeg) x1) 4 1 (((z_wI h (4 + 6) ((h.1 4 1).toNatClampNeg) x1).1 4 1) + 1)))) 6 rfl).trans ?_
      exact z_X_ret rfl
  · show z_X zc_P_appendClass 1 (0, [(0, .ref 17), (1, .int x1)], [], h) = _
    refine (z_X_steps (s' := (5, [(0, .ref 17), (1, .int x1)], [.int 4, .int (h.1 17 1)], h)) 3 rfl).trans ?_
    refine (z_X_br (c := (4 : Int32) ≤ h.1 17 1) (s1 := (28, [(0, .ref 17), (1, .int x1)], [], h)) (s2 := (8, [(0, .ref 17), (1, .int x1)], [], h)) rfl).trans (z_ite ?_ ?_)
    · exact z_X_ret rfl
    · refine (z_X_steps (s' := (17, [(0, .ref 17), (1, .int x1)], [.int x1, .int (h.1 17 1), .ref (17 + 6)], h)) 5 rfl).trans ?_
      refine (z_X_if (g := z_in (h.1 17 1) 4) (s' := (18, [(0, .ref 17), (1, .int x1)], [], (z_wI h (17 + 6) ((h.1 17 1).toNatClampNeg) x1))) rfl).trans (z_bifA ?_)
      refine (z_X_steps (s' := (28, [(0, .ref 17), (1, .int x1)], [], (z_wI (z_wI h (17 + 6) ((h.1 17 1).toNatClampNeg) x1) 17 1 (((z_wI h (17 + 6) ((h.1 17 1).toNatClampNeg) x1).1 17 1) + 1)))) 6 rfl).trans ?_
      exact z_X_ret rfl
  · show z_X zc_P_appendClass 1 (0, [(0, .ref 25), (1, .int x1)], [], h) = _
    refine (z_X_steps (s' := (5, [(0, .ref 25), (1, .int x1)], [.int 4, .int (h.1 25 1)], h)) 3 rfl).trans ?_
    refine (z_X_br (c := (4 : Int32) ≤ h.1 25 1) (s1 := (28, [(0, .ref 25), (1, .int x1)], [], h)) (s2 := (8, [(0, .ref 25), (1, .int x1)], [], h)) rfl).trans (z_ite ?_ ?_)
    · exact z_X_ret rfl
    · refine (z_X_steps (s' := (17, [(0, .ref 25), (1, .int x1)], [.int x1, .int (h.1 25 1), .ref (25 + 6)], h)) 5 rfl).trans ?_
      refine (z_X_if (g := z_in (h.1 25 1) 4) (s' := (18, [(0, .ref 25), (1, .int x1)], [], (z_wI h (25 + 6) ((h.1 25 1).toNatClampNeg) x1))) rfl).trans (z_bifA ?_)
      refine (z_X_steps (s' := (28, [(0, .ref 25), (1, .int x1)], [], (z_wI (z_wI h (25 + 6) ((h.1 25 1).toNatClampNeg) x1) 25 1 (((z_wI h (25 + 6) ((h.1 25 1).toNatClampNeg) x1).1 25 1) + 1)))) 6 rfl).trans ?_
      exact z_X_ret rfl
  · show z_X zc_P_appendClass 1 (0, [(0, .ref 73), (1, .int x1)], [], h) = _
    refine (z_X_steps (s' := (5, [(0, .ref 73), (1, .int x1)], [.int 4, .int (h.1 73 1)], h)) 3 rfl).trans ?_
    refine (z_X_br (c := (4 : Int32) ≤ h.1 73 1) (s1 := (28, [(0, .ref 73), (1, .int x1)], [], h)) (s2 := (8, [(0, .ref 73), (1, .int x1)], [], h)) rfl).trans (z_ite ?_ ?_)
    · exact z_X_ret rfl
    · refine (z_X_steps (s' := (17, [(0, .ref 73), (1, .int x1)], [.int x1, .int (h.1 73 1), .ref (73 + 6)], h)) 5 rfl).trans ?_
      refine (z_X_if (g := z_in (h.1 73 1) 4) (s' := (18, [(0, .ref 73), (1, .int x1)], [], (z_wI h (73 + 6) ((h.1 73 1).toNatClampNeg) x1))) rfl).trans (z_bifA ?_)
      refine (z_X_steps (s' := (28, [(0, .ref 73), (1, .int x1)], [], (z_wI (z_wI h (73 + 6) ((h.1 73 1).toNatClampNeg) x1) 73 1 (((z_wI h (73 + 6) ((h.1 73 1).toNatClampNeg) x1).1 73 1) + 1)))) 6 rfl).trans ?_
      exact z_X_ret rfl
  · show z_X zc_P_appendClass 1 (0, [(0, .ref 81), (1, .int x1)], [], h) = _
    refine (z_X_steps (s' := (5, [(0, .ref 81), (1, .int x1)], [.int 4, .int (h.1 81 1)], h)) 3 rfl).trans ?_
    refine (z_X_br (c := (4 : Int32) ≤ h.1 81 1) (s1 := (28, [(0, .ref 81), (1, .int x1)], [], h)) (s2 := (8, [(0, .ref 81), (1, .int x1)], [], h)) rfl).trans (z_ite ?_ ?_)
    · exact z_X_ret rfl
    · refine (z_X_steps (s' := (17, [(0, .ref 81), (1, .int x1)], [.int x1, .int (h.1 81 1), .ref (81 + 6)], h)) 5 rfl).trans ?_
      refine (z_X_if (g := z_in (h.1 81 1) 4) (s' := (18, [(0, .ref 81), (1, .int x1)], [], (z_wI h (81 + 6) ((h.1 81 1).toNatClampNeg) x1))) rfl).trans (z_bifA ?_)
      refine (z_X_steps (s' := (28, [(0, .ref 81), (1, .int x1)], [], (z_wI (z_wI h (81 + 6) ((h.1 81 1).toNatClampNeg) x1) 81 1 (((z_wI h (81 + 6) ((h.1 81 1).toNatClampNeg) x1).1 81 1) + 1)))) 6 rfl).trans ?_
      exact z_X_ret rfl
  · show z_X zc_P_appendClass 1 (0, [(0, .ref 94), (1, .int x1)], [], h) = _
    refine (z_X_steps (s' := (5, [(0, .ref 94), (1, .int x1)], [.int 4, .int (h.1 94 1)], h)) 3 rfl).trans ?_
    refine (z_X_br (c := (4 : Int32) ≤ h.1 94 1) (s1 := (28, [(0, .ref 94), (1, .int x1)], [], h)) (s2 := (8, [(0, .ref 94), (1, .int x1)], [], h)) rfl).trans (z_ite ?_ ?_)
    · exact z_X_ret rfl
    · refine (z_X_steps (s' := (17, [(0, .ref 94), (1, .int x1)], [.int x1, .int (h.1 94 1), .ref (94 + 6)], h)) 5 rfl).trans ?_
      refine (z_X_if (g := z_in (h.1 94 1) 4) (s' := (18, [(0, .ref 94), (1, .int x1)], [], (z_wI h (94 + 6) ((h.1 94 1).toNatClampNeg) x1))) rfl).trans (z_bifA ?_)
      refine (z_X_steps (s' := (28, [(0, .ref 94), (1, .int x1)], [], (z_wI (z_wI h (94 + 6) ((h.1 94 1).toNatClampNeg) x1) 94 1 (((z_wI h (94 + 6) ((h.1 94 1).toNatClampNeg) x1).1 94 1) + 1)))) 6 rfl).trans ?_
      exact z_X_ret rfl
  · show z_X zc_P_appendClass 1 (0, [(0, .ref 102), (1, .int x1)], [], h) = _
    refine (z_X_steps (s' := (5, [(0, .ref 102), (1, .int x1)], [.int 4, .int (h.1 102 1)], h)) 3 rfl).trans ?_
    refine (z_X_br (c := (4 : Int32) ≤ h.1 102 1) (s1 := (28, [(0, .ref 102), (1, .int x1)], [], h)) (s2 := (8, [(0, .ref 102), (1, .int x1)], [], h)) rfl).trans (z_ite ?_ ?_)
    · exact z_X_ret rfl
    · refine (z_X_steps (s' := (17, [(0, .ref 102), (1, .int x1)], [.int x1, .int (h.1 102 1), .ref (102 + 6)], h)) 5 rfl).trans ?_
      refine (z_X_if (g := z_in (h.1 102 1) 4) (s' := (18, [(0, .ref 102), (1, .int x1)], [], (z_wI h (102 + 6) ((h.1 102 1).toNatClampNeg) x1))) rfl).trans (z_bifA ?_)
      refine (z_X_steps (s' := (28, [(0, .ref 102), (1, .int x1)], [], (z_wI (z_wI h (102 + 6) ((h.1 102 1).toNatClampNeg) x1) 102 1 (((z_wI h (102 + 6) ((h.1 102 1).toNatClampNeg) x1).1 102 1) + 1)))) 6 rfl).trans ?_
      exact z_X_ret rfl
noncomputable def zl_P_leadsOnlyToNodes_2 (o : Nat) (x1 : Int32) (h : z_H) : Option z_A := z_X zc_P_leadsOnlyToNodes 3 (2, [(0, .ref o), (1, .int x1)], [], h)
noncomputable def zl_P_leadsOnlyToNodes_12 (o : Nat) (x1 : Int32) (x2 : Int32) (h : z_H) : Option z_A := z_X zc_P_leadsOnlyToNodes 3 (12, [(0, .ref o), (1, .int x1), (2, .int x2)], [], h)
noncomputable def zl_P_leadsOnlyToNodes_24 (o : Nat) (x1 : Int32) (x2 : Int32) (x3 : Int32) (h : z_H) : Option z_A := z_X zc_P_leadsOnlyToNodes 3 (24, [(0, .ref o), (1, .int x1), (2, .int x2), (3, .int x3)], [], h)
set_option maxRecDepth 8000 in
set_option maxHeartbeats 2000000 in
theorem e_P_leadsOnlyToNodes {o : Nat} (hi : o ∈ [4, 17, 25, 73, 81, 94, 102]) (h : z_H) : z_M 89 [.ref o] h = zl_P_leadsOnlyToNodes_2 o 0 h := by
  refine (z_M_eq (by decide)).trans ?_
  simp only [List.mem_cons, List.not_mem_nil, or_false, Prod.mk.injEq] at hi
  rcases hi with rfl | rfl | rfl | rfl | rfl | rfl | rfl
  · show z_X zc_P_leadsOnlyToNodes 3 (0, [(0, .ref 4)], [], h) = _
    refine (z_X_steps (s' := (2, [(1, .int 0), (0, .ref 4)], [], h)) 2 rfl).trans ?_
    exact z_X_lab rfl
  · show z_X zc_P_leadsOnlyToNodes 3 (0, [(0, .ref 17)], [], h) = _
    refine (z_X_steps (s' := (2, [(1, .int 0), (0, .ref 17)], [], h)) 2 rfl).trans ?_
    exact z_X_lab rfl
  · show z_X zc_P_leadsOnlyToNodes 3 (0, [(0, .ref 25)], [], h) = _
    refine (z_X_steps (s' := (2, [(1, .int 0), (0, .ref 25)], [], h)) 2 rfl).trans ?_
    exact z_X_lab rfl
  · show z_X zc_P_leadsOnlyToNodes 3 (0, [(0, .ref 73)], [], h) = _
    refine (z_X_steps (s' := (2, [(1, .int 0), (0, .ref 73)], [], h)) 2 rfl).trans ?_
    exact z_X_lab rfl
  · show z_X zc_P_leadsOnlyToNodes 3 (0, [(0, .ref 81)], [], h) = _
    refine (z_X_steps (s' := (2, [(1, .int 0), (0, .ref 81)], [], h)) 2 rfl).trans ?_
    exact z_X_lab rfl
  · show z_X zc_P_leadsOnlyToNodes 3 (0, [(0, .ref 94)], [], h) = _
    refine (z_X_steps (s' := (2, [(1, .int 0), (0, .ref 94)], [], h)) 2 rfl).trans ?_
    exact z_X_lab rfl
  · show z_X zc_P_leadsOnlyToNodes 3 (0, [(0, .ref 102)], [], h) = _
    refine (z_X_steps (s' := (2, [(1, .int 0), (0, .ref 102)], [], h)) 2 rfl).trans ?_
    exact z_X_lab rfl
set_option maxRecDepth 8000 in
set_option maxHeartbeats 2000000 in
theorem e_P_leadsOnlyToNodes_2 {o : Nat} (hi : o ∈ [4, 17, 25, 73, 81, 94, 102]) (x1 : Int32) (h : z_H) : zl_P_leadsOnlyToNodes_2 o x1 h = (if h.1 o 0 ≤ x1 then some (1, h) else zl_P_leadsOnlyToNodes_12 o x1 0 h) := by
  simp only [List.mem_cons, List.not_mem_nil, or_false, Prod.mk.injEq] at hi
  rcases hi with rfl | rfl | rfl | rfl | rfl | rfl | rfl
  · show z_X zc_P_leadsOnlyToNodes 3 (2, [(0, .ref 4), (1, .int x1)], [], h) = _
    refine (z_X_steps (s' := (7, [(0, .ref 4), (1, .int x1)], [.int (h.1 4 0), .int x1], h)) 3 rfl).trans ?_
    refine (z_X_br (c := h.1 4 0 ≤ x1) (s1 := (86, [(0, .ref 4), (1, .int x1)], [], h)) (s2 := (10, [(0, .ref 4), (1, .int x1)], [], h)) rfl).trans (z_ite ?_ ?_)
    · refine (z_X_steps (s' := (87, [(0, .ref 4), (1, .int x1)], [.int 1], h)) 1 rfl).trans ?_
      exact z_X_ret rfl
    · refine (z_X_steps (s' := (12, [(2, .int 0), (0, .ref 4), (1, .int x1)], [], h)) 2 rfl).trans ?_
      exact z_X_lab rfl
  · show z_X zc_P_leadsOnlyToNodes 3 (2, [(0, .ref 17), (1, .int x1)], [], h) = _
    refine (z_X_steps (s' := (7, [(0, .ref 17), (1, .int x1)], [.int (h.1 17 0), .int x1], h)) 3 rfl).trans ?_
    refine (z_X_br (c := h.1 17 0 ≤ x1) (s1 := (86, [(0, .ref 17), (1, .int x1)], [], h)) (s2 := (10, [(0, .ref 17), (1, .int x1)], [], h)) rfl).trans (z_ite ?_ ?_)
    · refine (z_X_steps (s' := (87, [(0, .ref 17), (1, .int x1)], [.int 1], h)) 1 rfl).trans ?_
      exact z_X_ret rfl
    · refine (z_X_steps (s' := (12, [(2, .int 0), (0, .ref 17), (1, .int x1)], [], h)) 2 rfl).trans ?_
      exact z_X_lab rfl
  · show z_X zc_P_leadsOnlyToNodes 3 (2, [(0, .ref 25), (1, .int x1)], [], h) = _
    refine (z_X_steps (s' := (7, [(0, .ref 25), (1, .int x1)], [.int (h.1 25 0), .int x1], h)) 3 rfl).trans ?_
    refine (z_X_br (c := h.1 25 0 ≤ x1) (s1 := (86, [(0, .ref 25), (1, .int x1)], [], h)) (s2 := (10, [(0, .ref 25), (1, .int x1)], [], h)) rfl).trans (z_ite ?_ ?_)
    · refine (z_X_steps (s' := (87, [(0, .ref 25), (1, .int x1)], [.int 1], h)) 1 rfl).trans ?_
      exact z_X_ret rfl
    · refine (z_X_steps (s' := (12, [(2, .int 0), (0, .ref 25), (1, .int x1)], [], h)) 2 rfl).trans ?_
      exact z_X_lab rfl
  · show z_X zc_P_leadsOnlyToNodes 3 (2, [(0, .ref 73), (1, .int x1)], [], h) = _
    refine (z_X_steps (s' := (7, [(0, .ref 73), (1, .int x1)], [.int (h.1 73 0), .int x1], h)) 3 rfl).trans ?_
    refine (z_X_br (c := h.1 73 0 ≤ x1) (s1 := (86, [(0, .ref 73), (1, .int x1)], [], h)) (s2 := (10, [(0, .ref 73), (1, .int x1)], [], h)) rfl).trans (z_ite ?_ ?_)
    · refine (z_X_steps (s' := (87, [(0, .ref 73), (1, .int x1)], [.int 1], h)) 1 rfl).trans ?_
      exact z_X_ret rfl
    · refine (z_X_steps (s' := (12, [(2, .int 0), (0, .ref 73), (1, .int x1)], [], h)) 2 rfl).trans ?_
      exact z_X_lab rfl
  · show z_X zc_P_leadsOnlyToNodes 3 (2, [(0, .ref 81), (1, .int x1)], [], h) = _
    refine (z_X_steps (s' := (7, [(0, .ref 81), (1, .int x1)], [.int (h.1 81 0), .int x1], h)) 3 rfl).trans ?_
    refine (z_X_br (c := h.1 81 0 ≤ x1) (s1 := (86, [(0, .ref 81), (1, .int x1)], [], h)) (s2 := (10, [(0, .ref 81), (1, .int x1)], [], h)) rfl).trans (z_ite ?_ ?_)
    · refine (z_X_steps (s' := (87, [(0, .ref 81), (1, .int x1)], [.int 1], h)) 1 rfl).trans ?_
      exact z_X_ret rfl
    · refine (z_X_steps (s' := (12, [(2, .int 0), (0, .ref 81), (1, .int x1)], [], h)) 2 rfl).trans ?_
      exact z_X_lab rfl
  · show z_X zc_P_leadsOnlyToNodes 3 (2, [(0, .ref 94), (1, .int x1)], [], h) = _
    refine (z_X_steps (s' := (7, [(0, .ref 94), (1, .int x1)], [.int (h.1 94 0), .int x1], h)) 3 rfl).trans ?_
    refine (z_X_br (c := h.1 94 0 ≤ x1) (s1 := (86, [(0, .ref 94), (1, .int x1)], [], h)) (s2 := (10, [(0, .ref 94), (1, .int x1)], [], h)) rfl).trans (z_ite ?_ ?_)
    · refine (z_X_steps (s' := (87, [(0, .ref 94), (1, .int x1)], [.int 1], h)) 1 rfl).trans ?_
      exact z_X_ret rfl
    · refine (z_X_steps (s' := (12, [(2, .int 0), (0, .ref 94), (1, .int x1)], [], h)) 2 rfl).trans ?_
      exact z_X_lab rfl
  · show z_X zc_P_leadsOnlyToNodes 3 (2, [(0, .ref 102), (1, .int x1)], [], h) = _
    refine (z_X_steps (s' := (7, [(0, .ref 102), (1, .int x1)], [.int (h.1 102 0), .int x1], h)) 3 rfl).trans ?_
    refine (z_X_br (c := h.1 102 0 ≤ x1) (s1 := (86, [(0, .ref 102), (1, .int x1)], [], h)) (s2 := (10, [(0, .ref 102), (1, .int x1)], [], h)) rfl).trans (z_ite ?_ ?_)
    · refine (z_X_steps (s' := (87, [(0, .ref 102), (1, .int x1)], [.int 1], h)) 1 rfl).trans ?_
      exact z_X_ret rfl
    · refine (z_X_steps (s' := (12, [(2, .int 0), (0, .ref 102), (1, .int x1)], [], h)) 2 rfl).trans ?_
      exact z_X_lab rfl
set_option maxRecDepth 8000 in
set_option maxHeartbeats 2000000 in
theorem e_P_leadsOnlyToNodes_12 {o : Nat} (hi : o ∈ [4, 17, 25, 73, 81, 94, 102]) (x1 : Int32) (x2 : Int32) (h : z_H) : zl_P_leadsOnlyToNodes_12 o x1 x2 h = (bif z_in x1 6 then (if h.1 (o + 1) (x1.toNatClampNeg) ≤ x2 then zl_P_leadsOnlyToNodes_2 o (x1 + 1) h else zl_P_leadsOnlyToNodes_24 o x1 x2 0 h) else none) := by
  simp only [List.mem_cons, List.not_mem_nil, or_false, Prod.mk.injEq] at hi
  rcases hi with rfl | rfl | rfl | rfl | rfl | rfl | rfl
  · show z_X zc_P_leadsOnlyToNodes 3 (12, [(0, .ref 4), (1, .int x1), (2, .int x2)], [], h) = _
    refine (z_X_steps (s' := (18, [(0, .ref 4), (1, .int x1), (2, .int x2)], [.int x1, .ref (4 + 1), .int x2], h)) 4 rfl).trans ?_
    refine (z_X_if (g := z_in x1 6) (s' := (19, [(0, .ref 4), (1, .int x1), (2, .int x2)], [.int (h.1 (4 + 1) (x1.toNatClampNeg)), .int x2], h)) rfl).trans (z_bifA ?_)
    refine (z_X_br (c := h.1 (4 + 1) (x1.toNatClampNeg) ≤ x2) (s1 := (80, [(0, .ref 4), (1, .int x1), (2, .int x2)], [], h)) (s2 := (22, [(0, .ref 4), (1, .int x1), (2, .int x2)], [], h)) rfl).trans (z_ite ?_ ?_)
    · refine (z_X_steps (s' := (2, [(1, .int (x1 + 1)), (0, .ref 4), (2, .int x2)], [], h)) 2 rfl).trans ?_
      exact z_X_lab rfl
    · refine (z_X_steps (s' := (24, [(3, .int 0), (0, .ref 4), (1, .int x1), (2, .int x2)], [], h)) 2 rfl).trans ?_
      exact z_X_lab rfl
  · show z_X zc_P_leadsOnlyToNodes 3 (12, [(0, .ref 17), (1, .int x1), (2, .int x2)], [], h) = _
    refine (z_X_steps (s' := (18, [(0, .ref 17), (1, .int x1), (2, .int x2)], [.int x1, .ref (17 + 1), .int x2], h)) 4 rfl).trans ?_
    refine (z_X_if (g := z_in x1 6) (s' := (19, [(0, .ref 17), (1, .int x1), (2, .int x2)], [.int (h.1 (17 + 1) (x1.toNatClampNeg)), .int x2], h)) rfl).trans (z_bifA ?_)
    refine (z_X_br (c := h.1 (17 + 1) (x1.toNatClampNeg) ≤ x2) (s1 := (80, [(0, .ref 17), (1, .int x1), (2, .int x2)], [], h)) (s2 := (22, [(0, .ref 17), (1, .int x1), (2, .int x2)], [], h)) rfl).trans (z_ite ?_ ?_)
    · refine (z_X_steps (s' := (2, [(1, .int (x1 + 1)), (0, .ref 17), (2, .int x2)], [], h)) 2 rfl).trans ?_
      exact z_X_lab rfl
    · refine (z_X_steps (s' := (24, [(3, .int 0), (0, .ref 17), (1, .int x1), (2, .int x2)], [], h)) 2 rfl).trans ?_
      exact z_X_lab rfl
  · show z_X zc_P_leadsOnlyToNodes 3 (12, [(0, .ref 25), (1, .int x1), (2, .int x2)], [], h) = _
    refine (z_X_steps (s' := (18, [(0, .ref 25), (1, .int x1), (2, .int x2)], [.int x1, .ref (25 + 1), .int x2], h)) 4 rfl).trans ?_
    refine (z_X_if (g := z_in x1 6) (s' := (19, [(0, .ref 25), (1, .int x1), (2, .int x2)], [.int (h.1 (25 + 1) (x1.toNatClampNeg)), .int x2], h)) rfl).trans (z_bifA ?_)
    refine (z_X_br (c := h.1 (25 + 1) (x1.toNatClampNeg) ≤ x2) (s1 := (80, [(0, .ref 25), (1, .int x1), (2, .int x2)], [], h)) (s2 := (22, [(0, .ref 25), (1, .int x1), (2, .int x2)], [], h)) rfl).trans (z_ite ?_ ?_)
    · refine (z_X_steps (s' := (2, [(1, .int (x1 + 1)), (0, .ref 25), (2, .int x2)], [], h)) 2 rfl).trans ?_
      exact z_X_lab rfl
    · refine (z_X_steps (s' := (24, [(3, .int 0), (0, .ref 25), (1, .int x1), (2, .int x2)], [], h)) 2 rfl).trans ?_
      exact z_X_lab rfl
  · show z_X zc_P_leadsOnlyToNodes 3 (12, [(0, .ref 73), (1, .int x1), (2, .int x2)], [], h) = _
    refine (z_X_steps (s' := (18, [(0, .ref 73), (1, .int x1), (2, .int x2)], [.int x1, .ref (73 + 1), .int x2], h)) 4 rfl).trans ?_
    refine (z_X_if (g := z_in x1 6) (s' := (19, [(0, .ref 73), (1, .int x1), (2, .int x2)], [.int (h.1 (73 + 1) (x1.toNatClampNeg)), .int x2], h)) rfl).trans (z_bifA ?_)
    refine (z_X_br (c := h.1 (73 + 1) (x1.toNatClampNeg) ≤ x2) (s1 := (80, [(0, .ref 73), (1, .int x1), (2, .int x2)], [], h)) (s2 := (22, [(0, .ref 73), (1, .int x1), (2, .int x2)], [], h)) rfl).trans (z_ite ?_ ?_)
    · refine (z_X_steps (s' := (2, [(1, .int (x1 + 1)), (0, .ref 73), (2, .int x2)], [], h)) 2 rfl).trans ?_
      exact z_X_lab rfl
    · refine (z_X_steps (s' := (24, [(3, .int 0), (0, .ref 73), (1, .int x1), (2, .int x2)], [], h)) 2 rfl).trans ?_
      exact z_X_lab rfl
  · show z_X zc_P_leadsOnlyToNodes 3 (12, [(0, .ref 81), (1, .int x1), (2, .int x2)], [], h) = _
    refine (z_X_steps (s' := (18, [(0, .ref 81), (1, .int x1), (2, .int x2)], [.int x1, .ref (81 + 1), .int x2], h)) 4 rfl).trans ?_
    refine (z_X_if (g := z_in x1 6) (s' := (19, [(0, .ref 81), (1, .int x1), (2, .int x2)], [.int (h.1 (81 + 1) (x1.toNatClampNeg)), .int x2], h)) rfl).trans (z_bifA ?_)
    refine (z_X_br (c := h.1 (81 + 1) (x1.toNatClampNeg) ≤ x2) (s1 := (80, [(0, .ref 81), (1, .int x1), (2, .int x2)], [], h)) (s2 := (22, [(0, .ref 81), (1, .int x1), (2, .int x2)], [], h)) rfl).trans (z_ite ?_ ?_)
    · refine (z_X_steps (s' := (2, [(1, .int (x1 + 1)), (0, .ref 81), (2, .int x2)], [], h)) 2 rfl).trans ?_
      exact z_X_lab rfl
    · refine (z_X_steps (s' := (24, [(3, .int 0), (0, .ref 81), (1, .int x1), (2, .int x2)], [], h)) 2 rfl).trans ?_
      exact z_X_lab rfl
  · show z_X zc_P_leadsOnlyToNodes 3 (12, [(0, .ref 94), (1, .int x1), (2, .int x2)], [], h) = _
    refine (z_X_steps (s' := (18, [(0, .ref 94), (1, .int x1), (2, .int x2)], [.int x1, .ref (94 + 1), .int x2], h)) 4 rfl).trans ?_
    refine (z_X_if (g := z_in x1 6) (s' := (19, [(0, .ref 94), (1, .int x1), (2, .int x2)], [.int (h.1 (94 + 1) (x1.toNatClampNeg)), .int x2], h)) rfl).trans (z_bifA ?_)
    refine (z_X_br (c := h.1 (94 + 1) (x1.toNatClampNeg) ≤ x2) (s1 := (80, [(0, .ref 94), (1, .int x1), (2, .int x2)], [], h)) (s2 := (22, [(0, .ref 94), (1, .int x1), (2, .int x2)], [], h)) rfl).trans (z_ite ?_ ?_)
    · refine (z_X_steps (s' := (2, [(1, .int (x1 + 1)), (0, .ref 94), (2, .int x2)], [], h)) 2 rfl).trans ?_
      exact z_X_lab rfl
    · refine (z_X_steps (s' := (24, [(3, .int 0), (0, .ref 94), (1, .int x1), (2, .int x2)], [], h)) 2 rfl).trans ?_
      exact z_X_lab rfl
  · show z_X zc_P_leadsOnlyToNodes 3 (12, [(0, .ref 102), (1, .int x1), (2, .int x2)], [], h) = _
    refine (z_X_steps (s' := (18, [(0, .ref 102), (1, .int x1), (2, .int x2)], [.int x1, .ref (102 + 1), .int x2], h)) 4 rfl).trans ?_
    refine (z_X_if (g := z_in x1 6) (s' := (19, [(0, .ref 102), (1, .int x1), (2, .int x2)], [.int (h.1 (102 + 1) (x1.toNatClampNeg)), .int x2], h)) rfl).trans (z_bifA ?_)
    refine (z_X_br (c := h.1 (102 + 1) (x1.toNatClampNeg) ≤ x2) (s1 := (80, [(0, .ref 102), (1, .int x1), (2, .int x2)], [], h)) (s2 := (22, [(0, .ref 102), (1, .int x1), (2, .int x2)], [], h)) rfl).trans (z_ite ?_ ?_)
    · refine (z_X_steps (s' := (2, [(1, .int (x1 + 1)), (0, .ref 102), (2, .int x2)], [], h)) 2 rfl).trans ?_
      exact z_X_lab rfl
    · refine (z_X_steps (s' := (24, [(3, .int 0), (0, .ref 102), (1, .int x1), (2, .int x2)], [], h)) 2 rfl).trans ?_
      exact z_X_lab rfl
set_option maxRecDepth 8000 in
set_option maxHeartbeats 2000000 in
theorem e_P_leadsOnlyToNodes_24 {o : Nat} (hi : o ∈ [4, 17, 25, 73, 81, 94, 102]) (x1 : Int32) (x2 : Int32) (x3 : Int32) (h : z_H) : zl_P_leadsOnlyToNodes_24 o x1 x2 x3 h = z_bd (z_M 42 [.int x1, .int x2] h) (fun r1 h2 => (bif z_in r1 48 then (if h2.1 (o + 4) (r1.toNatClampNeg) ≤ x3 then zl_P_leadsOnlyToNodes_12 o x1 (x2 + 1) h2 else z_bd (z_M 75 [.ref o, .int x1, .int x2, .int x3] h2) (fun r3 h4 => (if r3 = 9 then zl_P_leadsOnlyToNodes_24 o x1 x2 (x3 + 1) h4 else z_bd (z_M 75 [.ref o, .int x1, .int x2, .int x3] h4) (fun r5 h6 => (bif z_in x1 6 then (if r5 < h6.1 (o + 1) (x1.toNatClampNeg) then zl_P_leadsOnlyToNodes_24 o x1 x2 (x3 + 1) h6 else some (0, h6)) else none))))) else none)) := by
  simp only [List.mem_cons, List.not_mem_nil, or_false, Prod.mk.injEq] at hi
  rcases hi with rfl | rfl | rfl | rfl | rfl | rfl | rfl
  · show z_X zc_P_leadsOnlyToNodes 3 (24, [(0, .ref 4), (1, .int x1), (2, .int x2), (3, .int x3)], [], h) = _
    refine (z_X_steps (s' := (31, [(0, .ref 4), (1, .int x1), (2, .int x2), (3, .int x3)], [.int x2, .int x1, .ref (4 + 4), .int x3], h)) 5 rfl).trans ?_
    refine (z_X_call (id := 42) (a := [.int x1, .int x2]) (c := 1) (s' := (34, [(0, .ref 4), (1, .int x1), (2, .int x2), (3, .int x3)], [.ref (4 + 4), .int x3], h)) rfl ⟨Nat.le_of_ble_eq_true rfl, Nat.le_of_ble_eq_true rfl⟩).trans ?_
    refine z_bdc fun r1 h2 => ?_
    refine (z_X_if (g := z_in r1 48) (s' := (35, [(0, .ref 4), (1, .int x1), (2, .int x2), (3, .int x3)], [.int (h2.1 (4 + 4) (r1.toNatClampNeg)), .int x3], h2)) rfl).trans (z_bifA ?_)
    refine (z_X_br (c := h2.1 (4 + 4) (r1.toNatClampNeg) ≤ x3) (s1 := (74, [(0, .ref 4), (1, .int x1), (2, .int x2), (3, .int x3)], [], h2)) (s2 := (38, [(0, .ref 4), (1, .int x1), (2, .int x2), (3, .int x3)], [], h2)) rfl).trans (z_ite ?_ ?_)
    · refine (z_X_steps (s' := (12, [(2, .int (x2 + 1)), (0, .ref 4), (1, .int x1), (3, .int x3)], [], h2)) 2 rfl).trans ?_
      exact z_X_lab rfl
    · refine (z_X_steps (s' := (42, [(0, .ref 4), (1, .int x1), (2, .int x2), (3, .int x3)], [.int x3, .int x2, .int x1, .ref 4], h2)) 4 rfl).trans ?_
      refine (z_X_call (id := 75) (a := [.ref 4, .int x1, .int x2, .int x3]) (c := 1) (s' := (45, [(0, .ref 4), (1, .int x1), (2, .int x2), (3, .int x3)], [], h2)) rfl ⟨Nat.le_of_ble_eq_true rfl, Nat.le_of_ble_eq_true rfl⟩).trans ?_
      refine z_bdc fun r3 h4 => ?_
      refine (z_X_steps (s' := (47, [(0, .ref 4), (1, .int x1), (2, .int x2), (3, .int x3)], [.int 9, .int r3], h4)) 1 rfl).trans ?_
      refine (z_X_br (c := r3 = 9) (s1 := (68, [(0, .ref 4), (1, .int x1), (2, .int x2), (3, .int x3)], [], h4)) (s2 := (50, [(0, .ref 4), (1, .int x1), (2, .int x2), (3, .int x3)], [], h4)) rfl).trans (z_ite ?_ ?_)
      · refine (z_X_steps (s' := (24, [(3, .int (x3 + 1)), (0, .ref 4), (1, .int x1), (2, .int x2)], [], h4)) 2 rfl).trans ?_
        exact z_X_lab rfl
      · refine (z_X_steps (s' := (54, [(0, .ref 4), (1, .int x1), (2, .int x2), (3, .int x3)], [.int x3, .int x2, .int x1, .ref 4], h4)) 4 rfl).trans ?_
        refine (z_X_call (id := 75) (a := [.ref 4, .int x1, .int x2, .int x3]) (c := 1) (s' := (57, [(0, .ref 4), (1, .int x1), (2, .int x2), (3, .int x3)], [], h4)) rfl ⟨Nat.le_of_ble_eq_true rfl, Nat.le_of_ble_eq_true rfl⟩).trans ?_
        refine z_bdc fun r5 h6 => ?_
        refine (z_X_steps (s' := (62, [(0, .ref 4), (1, .int x1), (2, .int x2), (3, .int x3)], [.int x1, .ref (4 + 1), .int r5], h6)) 3 rfl).trans ?_
        refine (z_X_if (g := z_in x1 6) (s' := (63, [(0, .ref 4), (1, .int x1), (2, .int x2), (3, .int x3)], [.int (h6.1 (4 + 1) (x1.toNatClampNeg)), .int r5], h6)) rfl).trans (z_bifA ?_)
        refine (z_X_br (c := r5 < h6.1 (4 + 1) (x1.toNatClampNeg)) (s1 := (68, [(0, .ref 4), (1, .int x1), (2, .int x2), (3, .int x3)], [], h6)) (s2 := (66, [(0, .ref 4), (1, .int x1), (2, .int x2), (3, .int x3)], [], h6)) rfl).trans (z_ite ?_ ?_)
        · refine (z_X_steps (s' := (24, [(3, .int (x3 + 1)), (0, .ref 4), (1, .int x1), (2, .int x2)], [], h6)) 2 rfl).trans ?_
          exact z_X_lab rfl
        · refine (z_X_steps (s' := (67, [(0, .ref 4), (1, .int x1), (2, .int x2), (3, .int x3)], [.int 0], h6)) 1 rfl).trans ?_
          exact z_X_ret rfl
  · show z_X zc_P_leadsOnlyToNodes 3 (24, [(0, .ref 17), (1, .int x1), (2, .int x2), (3, .int x3)], [], h) = _
    refine (z_X_steps (s' := (31, [(0, .ref 17), (1, .int x1), (2, .int x2), (3, .int x3)], [.int x2, .int x1, .ref (17 + 4), .int x3], h)) 5 rfl).trans ?_
    refine (z_X_call (id := 42) (a := [.int x1, .int x2]) (c := 1) (s' := (34, [(0, .ref 17), (1, .int x1), (2, .int x2), (3, .int x3)], [.ref (17 + 4), .int x3], h)) rfl ⟨Nat.le_of_ble_eq_true rfl, Nat.le_of_ble_eq_true rfl⟩).trans ?_
    refine z_bdc fun r1 h2 => ?_
    refine (z_X_if (g := z_in r1 48) (s' := (35, [(0, .ref 17), (1, .int x1), (2, .int x2), (3, .int x3)], [.int (h2.1 (17 + 4) (r1.toNatClampNeg)), .int x3], h2)) rfl).trans (z_bifA ?_)
    refine (z_X_br (c := h2.1 (17 + 4) (r1.toNatClampNeg) ≤ x3) (s1 := (74, [(0, .ref 17), (1, .int x1), (2, .int x2), (3, .int x3)], [], h2)) (s2 := (38, [(0, .ref 17), (1, .int x1), (2, .int x2), (3, .int x3)], [], h2)) rfl).trans (z_ite ?_ ?_)
    · refine (z_X_steps (s' := (12, [(2, .int (x2 + 1)), (0, .ref 17), (1, .int x1), (3, .int x3)], [], h2)) 2 rfl).trans ?_
      exact z_X_lab rfl
    · refine (z_X_steps (s' := (42, [(0, .ref 17), (1, .int x1), (2, .int x2), (3, .int x3)], [.int x3, .int x2, .int x1, .ref 17], h2)) 4 rfl).trans ?_
      refine (z_X_call (id := 75) (a := [.ref 17, .int x1, .int x2, .int x3]) (c := 1) (s' := (45, [(0, .ref 17), (1, .int x1), (2, .int x2), (3, .int x3)], [], h2)) rfl ⟨Nat.le_of_ble_eq_true rfl, Nat.le_of_ble_eq_true rfl⟩).trans ?_
      refine z_bdc fun r3 h4 => ?_
      refine (z_X_steps (s' := (47, [(0, .ref 17), (1, .int x1), (2, .int x2), (3, .int x3)], [.int 9, .int r3], h4)) 1 rfl).trans ?_
      refine (z_X_br (c := r3 = 9) (s1 := (68, [(0, .ref 17), (1, .int x1), (2, .int x2), (3, .int x3)], [], h4)) (s2 := (50, [(0, .ref 17), (1, .int x1), (2, .int x2), (3, .int x3)], [], h4)) rfl).trans (z_ite ?_ ?_)
      · refine (z_X_steps (s' := (24, [(3, .int (x3 + 1)), (0, .ref 17), (1, .int x1), (2, .int x2)], [], h4)) 2 rfl).trans ?_
        exact z_X_lab rfl
      · refine (z_X_steps (s' := (54, [(0, .ref 17), (1, .int x1), (2, .int x2), (3, .int x3)], [.int x3, .int x2, .int x1, .ref 17], h4)) 4 rfl).trans ?_
        refine (z_X_call (id := 75) (a := [.ref 17, .int x1, .int x2, .int x3]) (c := 1) (s' := (57, [(0, .ref 17), (1, .int x1), (2, .int x2), (3, .int x3)], [], h4)) rfl ⟨Nat.le_of_ble_eq_true rfl, Nat.le_of_ble_eq_true rfl⟩).trans ?_
        refine z_bdc fun r5 h6 => ?_
        refine (z_X_steps (s' := (62, [(0, .ref 17), (1, .int x1), (2, .int x2), (3, .int x3)], [.int x1, .ref (17 + 1), .int r5], h6)) 3 rfl).trans ?_
        refine (z_X_if (g := z_in x1 6) (s' := (63, [(0, .ref 17), (1, .int x1), (2, .int x2), (3, .int x3)], [.int (h6.1 (17 + 1) (x1.toNatClampNeg)), .int r5], h6)) rfl).trans (z_bifA ?_)
        refine (z_X_br (c := r5 < h6.1 (17 + 1) (x1.toNatClampNeg)) (s1 := (68, [(0, .ref 17), (1, .int x1), (2, .int x2), (3, .int x3)], [], h6)) (s2 := (66, [(0, .ref 17), (1, .int x1), (2, .int x2), (3, .int x3)], [], h6)) rfl).trans (z_ite ?_ ?_)
        · refine (z_X_steps (s' := (24, [(3, .int (x3 + 1)), (0, .ref 17), (1, .int x1), (2, .int x2)], [], h6)) 2 rfl).trans ?_
          exact z_X_lab rfl
        · refine (z_X_steps (s' := (67, [(0, .ref 17), (1, .int x1), (2, .int x2), (3, .int x3)], [.int 0], h6)) 1 rfl).trans ?_
          exact z_X_ret rfl
  · show z_X zc_P_leadsOnlyToNodes 3 (24, [(0, .ref 25), (1, .int x1), (2, .int x2), (3, .int x3)], [], h) = _
    refine (z_X_steps (s' := (31, [(0, .ref 25), (1, .int x1), (2, .int x2), (3, .int x3)], [.int x2, .int x1, .ref (25 + 4), .int x3], h)) 5 rfl).trans ?_
    refine (z_X_call (id := 42) (a := [.int x1, .int x2]) (c := 1) (s' := (34, [(0, .ref 25), (1, .int x1), (2, .int x2), (3, .int x3)], [.ref (25 + 4), .int x3], h)) rfl ⟨Nat.le_of_ble_eq_true rfl, Nat.le_of_ble_eq_true rfl⟩).trans ?_
    refine z_bdc fun r1 h2 => ?_
    refine (z_X_if (g := z_in r1 48) (s' := (35, [(0, .ref 25), (1, .int x1), (2, .int x2), (3, .int x3)], [.int (h2.1 (25 + 4) (r1.toNatClampNeg)), .int x3], h2)) rfl).trans (z_bifA ?_)
    refine (z_X_br (c := h2.1 (25 + 4) (r1.toNatClampNeg) ≤ x3) (s1 := (74, [(0, .ref 25), (1, .int x1), (2, .int x2), (3, .int x3)], [], h2)) (s2 := (38, [(0, .ref 25), (1, .int x1), (2, .int x2), (3, .int x3)], [], h2)) rfl).trans (z_ite ?_ ?_)
    · refine (z_X_steps (s' := (12, [(2, .int (x2 + 1)), (0, .ref 25), (1, .int x1), (3, .int x3)], [], h2)) 2 rfl).trans ?_
      exact z_X_lab rfl
    · refine (z_X_steps (s' := (42, [(0, .ref 25), (1, .int x1), (2, .int x2), (3, .int x3)], [.int x3, .int x2, .int x1, .ref 25], h2)) 4 rfl).trans ?_
      refine (z_X_call (id := 75) (a := [.ref 25, .int x1, .int x2, .int x3]) (c := 1) (s' := (45, [(0, .ref 25), (1, .int x1), (2, .int x2), (3, .int x3)], [], h2)) rfl ⟨Nat.le_of_ble_eq_true rfl, Nat.le_of_ble_eq_true rfl⟩).trans ?_
      refine z_bdc fun r3 h4 => ?_
      refine (z_X_steps (s' := (47, [(0, .ref 25), (1, .int x1), (2, .int x2), (3, .int x3)], [.int 9, .int r3], h4)) 1 rfl).trans ?_
      refine (z_X_br (c := r3 = 9) (s1 := (68, [(0, .ref 25), (1, .int x1), (2, .int x2), (3, .int x3)], [], h4)) (s2 := (50, [(0, .ref 25), (1, .int x1), (2, .int x2), (3, .int x3)], [], h4)) rfl).trans (z_ite ?_ ?_)
      · refine (z_X_steps (s' := (24, [(3, .int (x3 + 1)), (0, .ref 25), (1, .int x1), (2, .int x2)], [], h4)) 2 rfl).trans ?_
        exact z_X_lab rfl
      · refine (z_X_steps (s' := (54, [(0, .ref 25), (1, .int x1), (2, .int x2), (3, .int x3)], [.int x3, .int x2, .int x1, .ref 25], h4)) 4 rfl).trans ?_
        refine (z_X_call (id := 75) (a := [.ref 25, .int x1, .int x2, .int x3]) (c := 1) (s' := (57, [(0, .ref 25), (1, .int x1), (2, .int x2), (3, .int x3)], [], h4)) rfl ⟨Nat.le_of_ble_eq_true rfl, Nat.le_of_ble_eq_true rfl⟩).trans ?_
        refine z_bdc fun r5 h6 => ?_
        refine (z_X_steps (s' := (62, [(0, .ref 25), (1, .int x1), (2, .int x2), (3, .int x3)], [.int x1, .ref (25 + 1), .int r5], h6)) 3 rfl).trans ?_
        refine (z_X_if (g := z_in x1 6) (s' := (63, [(0, .ref 25), (1, .int x1), (2, .int x2), (3, .int x3)], [.int (h6.1 (25 + 1) (x1.toNatClampNeg)), .int r5], h6)) rfl).trans (z_bifA ?_)
        refine (z_X_br (c := r5 < h6.1 (25 + 1) (x1.toNatClampNeg)) (s1 := (68, [(0, .ref 25), (1, .int x1), (2, .int x2), (3, .int x3)], [], h6)) (s2 := (66, [(0, .ref 25), (1, .int x1), (2, .int x2), (3, .int x3)], [], h6)) rfl).trans (z_ite ?_ ?_)
        · refine (z_X_steps (s' := (24, [(3, .int (x3 + 1)), (0, .ref 25), (1, .int x1), (2, .int x2)], [], h6)) 2 rfl).trans ?_
          exact z_X_lab rfl
        · refine (z_X_steps (s' := (67, [(0, .ref 25), (1, .int x1), (2, .int x2), (3, .int x3)], [.int 0], h6)) 1 rfl).trans ?_
          exact z_X_ret rfl
  · show z_X zc_P_leadsOnlyToNodes 3 (24, [(0, .ref 73), (1, .int x1), (2, .int x2), (3, .int x3)], [], h) = _
    refine (z_X_steps (s' := (31, [(0, .ref 73), (1, .int x1), (2, .int x2), (3, .int x3)], [.int x2, .int x1, .ref (73 + 4), .int x3], h)) 5 rfl).trans ?_
    refine (z_X_call (id := 42) (a := [.int x1, .int x2]) (c := 1) (s' := (34, [(0, .ref 73), (1, .int x1), (2, .int x2), (3, .int x3)], [.ref (73 + 4), .int x3], h)) rfl ⟨Nat.le_of_ble_eq_true rfl, Nat.le_of_ble_eq_true rfl⟩).trans ?_
    refine z_bdc fun r1 h2 => ?_
    refine (z_X_if (g := z_in r1 48) (s' := (35, [(0, .ref 73), (1, .int x1), (2, .int x2), (3, .int x3)], [.int (h2.1 (73 + 4) (r1.toNatClampNeg)), .int x3], h2)) rfl).trans (z_bifA ?_)
    refine (z_X_br (c := h2.1 (73 + 4) (r1.toNatClampNeg) ≤ x3) (s1 := (74, [(0, .ref 73), (1, .int x1), (2, .int x2), (3, .int x3)], [], h2)) (s2 := (38, [(0, .ref 73), (1, .int x1), (2, .int x2), (3, .int x3)], [], h2)) rfl).trans (z_ite ?_ ?_)
    · refine (z_X_steps (s' := (12, [(2, .int (x2 + 1)), (0, .ref 73), (1, .int x1), (3, .int x3)], [], h2)) 2 rfl).trans ?_
      exact z_X_lab rfl
    · refine (z_X_steps (s' := (42, [(0, .ref 73), (1, .int x1), (2, .int x2), (3, .int x3)], [.int x3, .int x2, .int x1, .ref 73], h2)) 4 rfl).trans ?_
      refine (z_X_call (id := 75) (a := [.ref 73, .int x1, .int x2, .int x3]) (c := 1) (s' := (45, [(0, .ref 73), (1, .int x1), (2, .int x2), (3, .int x3)], [], h2)) rfl ⟨Nat.le_of_ble_eq_true rfl, Nat.le_of_ble_eq_true rfl⟩).trans ?_
      refine z_bdc fun r3 h4 => ?_
      refine (z_X_steps (s' := (47, [(0, .ref 73), (1, .int x1), (2, .int x2), (3, .int x3)], [.int 9, .int r3], h4)) 1 rfl).trans ?_
      refine (z_X_br (c := r3 = 9) (s1 := (68, [(0, .ref 73), (1, .int x1), (2, .int x2), (3, .int x3)], [], h4)) (s2 := (50, [(0, .ref 73), (1, .int x1), (2, .int x2), (3, .int x3)], [], h4)) rfl).trans (z_ite ?_ ?_)
      · refine (z_X_steps (s' := (24, [(3, .int (x3 + 1)), (0, .ref 73), (1, .int x1), (2, .int x2)], [], h4)) 2 rfl).trans ?_
        exact z_X_lab rfl
      · refine (z_X_steps (s' := (54, [(0, .ref 73), (1, .int x1), (2, .int x2), (3, .int x3)], [.int x3, .int x2, .int x1, .ref 73], h4)) 4 rfl).trans ?_
        refine (z_X_call (id := 75) (a := [.ref 73, .int x1, .int x2, .int x3]) (c := 1) (s' := (57, [(0, .ref 73), (1, .int x1), (2, .int x2), (3, .int x3)], [], h4)) rfl ⟨Nat.le_of_ble_eq_true rfl, Nat.le_of_ble_eq_true rfl⟩).trans ?_
        refine z_bdc fun r5 h6 => ?_
        refine (z_X_steps (s' := (62, [(0, .ref 73), (1, .int x1), (2, .int x2), (3, .int x3)], [.int x1, .ref (73 + 1), .int r5], h6)) 3 rfl).trans ?_
        refine (z_X_if (g := z_in x1 6) (s' := (63, [(0, .ref 73), (1, .int x1), (2, .int x2), (3, .int x3)], [.int (h6.1 (73 + 1) (x1.toNatClampNeg)), .int r5], h6)) rfl).trans (z_bifA ?_)
        refine (z_X_br (c := r5 < h6.1 (73 + 1) (x1.toNatClampNeg)) (s1 := (68, [(0, .ref 73), (1, .int x1), (2, .int x2), (3, .int x3)], [], h6)) (s2 := (66, [(0, .ref 73), (1, .int x1), (2, .int x2), (3, .int x3)], [], h6)) rfl).trans (z_ite ?_ ?_)
        · refine (z_X_steps (s' := (24, [(3, .int (x3 + 1)), (0, .ref 73), (1, .int x1), (2, .int x2)], [], h6)) 2 rfl).trans ?_
          exact z_X_lab rfl
        · refine (z_X_steps (s' := (67, [(0, .ref 73), (1, .int x1), (2, .int x2), (3, .int x3)], [.int 0], h6)) 1 rfl).trans ?_
          exact z_X_ret rfl
  · show z_X zc_P_leadsOnlyToNodes 3 (24, [(0, .ref 81), (1, .int x1), (2, .int x2), (3, .int x3)], [], h) = _
    refine (z_X_steps (s' := (31, [(0, .ref 81), (1, .int x1), (2, .int x2), (3, .int x3)], [.int x2, .int x1, .ref (81 + 4), .int x3], h)) 5 rfl).trans ?_
    refine (z_X_call (id := 42) (a := [.int x1, .int x2]) (c := 1) (s' := (34, [(0, .ref 81), (1, .int x1), (2, .int x2), (3, .int x3)], [.ref (81 + 4), .int x3], h)) rfl ⟨Nat.le_of_ble_eq_true rfl, Nat.le_of_ble_eq_true rfl⟩).trans ?_
    refine z_bdc fun r1 h2 => ?_
    refine (z_X_if (g := z_in r1 48) (s' := (35, [(0, .ref 81), (1, .int x1), (2, .int x2), (3, .int x3)], [.int (h2.1 (81 + 4) (r1.toNatClampNeg)), .int x3], h2)) rfl).trans (z_bifA ?_)
    refine (z_X_br (c := h2.1 (81 + 4) (r1.toNatClampNeg) ≤ x3) (s1 := (74, [(0, .ref 81), (1, .int x1), (2, .int x2), (3, .int x3)], [], h2)) (s2 := (38, [(0, .ref 81), (1, .int x1), (2, .int x2), (3, .int x3)], [], h2)) rfl).trans (z_ite ?_ ?_)
    · refine (z_X_steps (s' := (12, [(2, .int (x2 + 1)), (0, .ref 81), (1, .int x1), (3, .int x3)], [], h2)) 2 rfl).trans ?_
      exact z_X_lab rfl
    · refine (z_X_steps (s' := (42, [(0, .ref 81), (1, .int x1), (2, .int x2), (3, .int x3)], [.int x3, .int x2, .int x1, .ref 81], h2)) 4 rfl).trans ?_
      refine (z_X_call (id := 75) (a := [.ref 81, .int x1, .int x2, .int x3]) (c := 1) (s' := (45, [(0, .ref 81), (1, .int x1), (2, .int x2), (3, .int x3)], [], h2)) rfl ⟨Nat.le_of_ble_eq_true rfl, Nat.le_of_ble_eq_true rfl⟩).trans ?_
      refine z_bdc fun r3 h4 => ?_
      refine (z_X_steps (s' := (47, [(0, .ref 81), (1, .int x1), (2, .int x2), (3, .int x3)], [.int 9, .int r3], h4)) 1 rfl).trans ?_
      refine (z_X_br (c := r3 = 9) (s1 := (68, [(0, .ref 81), (1, .int x1), (2, .int x2), (3, .int x3)], [], h4)) (s2 := (50, [(0, .ref 81), (1, .int x1), (2, .int x2), (3, .int x3)], [], h4)) rfl).trans (z_ite ?_ ?_)
      · refine (z_X_steps (s' := (24, [(3, .int (x3 + 1)), (0, .ref 81), (1, .int x1), (2, .int x2)], [], h4)) 2 rfl).trans ?_
        exact z_X_lab rfl
      · refine (z_X_steps (s' := (54, [(0, .ref 81), (1, .int x1), (2, .int x2), (3, .int x3)], [.int x3, .int x2, .int x1, .ref 81], h4)) 4 rfl).trans ?_
        refine (z_X_call (id := 75) (a := [.ref 81, .int x1, .int x2, .int x3]) (c := 1) (s' := (57, [(0, .ref 81), (1, .int x1), (2, .int x2), (3, .int x3)], [], h4)) rfl ⟨Nat.le_of_ble_eq_true rfl, Nat.le_of_ble_eq_true rfl⟩).trans ?_
        refine z_bdc fun r5 h6 => ?_
        refine (z_X_steps (s' := (62, [(0, .ref 81), (1, .int x1), (2, .int x2), (3, .int x3)], [.int x1, .ref (81 + 1), .int r5], h6)) 3 rfl).trans ?_
        refine (z_X_if (g := z_in x1 6) (s' := (63, [(0, .ref 81), (1, .int x1), (2, .int x2), (3, .int x3)], [.int (h6.1 (81 + 1) (x1.toNatClampNeg)), .int r5], h6)) rfl).trans (z_bifA ?_)
        refine (z_X_br (c := r5 < h6.1 (81 + 1) (x1.toNatClampNeg)) (s1 := (68, [(0, .ref 81), (1, .int x1), (2, .int x2), (3, .int x3)], [], h6)) (s2 := (66, [(0, .ref 81), (1, .int x1), (2, .int x2), (3, .int x3)], [], h6)) rfl).trans (z_ite ?_ ?_)
        · refine (z_X_steps (s' := (24, [(3, .int (x3 + 1)), (0, .ref 81), (1, .int x1), (2, .int x2)], [], h6)) 2 rfl).trans ?_
          exact z_X_lab rfl
        · refine (z_X_steps (s' := (67, [(0, .ref 81), (1, .int x1), (2, .int x2), (3, .int x3)], [.int 0], h6)) 1 rfl).trans ?_
          exact z_X_ret rfl
  · show z_X zc_P_leadsOnlyToNodes 3 (24, [(0, .ref 94), (1, .int x1), (2, .int x2), (3, .int x3)], [], h) = _
    refine (z_X_steps (s' := (31, [(0, .ref 94), (1, .int x1), (2, .int x2), (3, .int x3)], [.int x2, .int x1, .ref (94 + 4), .int x3], h)) 5 rfl).trans ?_
    refine (z_X_call (id := 42) (a := [.int x1, .int x2]) (c := 1) (s' := (34, [(0, .ref 94), (1, .int x1), (2, .int x2), (3, .int x3)], [.ref (94 + 4), .int x3], h)) rfl ⟨Nat.le_of_ble_eq_true rfl, Nat.le_of_ble_eq_true rfl⟩).trans ?_
    refine z_bdc fun r1 h2 => ?_
    refine (z_X_if (g := z_in r1 48) (s' := (35, [(0, .ref 94), (1, .int x1), (2, .int x2), (3, .int x3)], [.int (h2.1 (94 + 4) (r1.toNatClampNeg)), .int x3], h2)) rfl).trans (z_bifA ?_)
    refine (z_X_br (c := h2.1 (94 + 4) (r1.toNatClampNeg) ≤ x3) (s1 := (74, [(0, .ref 94), (1, .int x1), (2, .int x2), (3, .int x3)], [], h2)) (s2 := (38, [(0, .ref 94), (1, .int x1), (2, .int x2), (3, .int x3)], [], h2)) rfl).trans (z_ite ?_ ?_)
    · refine (z_X_steps (s' := (12, [(2, .int (x2 + 1)), (0, .ref 94), (1, .int x1), (3, .int x3)], [], h2)) 2 rfl).trans ?_
      exact z_X_lab rfl
    · refine (z_X_steps (s' := (42, [(0, .ref 94), (1, .int x1), (2, .int x2), (3, .int x3)], [.int x3, .int x2, .int x1, .ref 94], h2)) 4 rfl).trans ?_
      refine (z_X_call (id := 75) (a := [.ref 94, .int x1, .int x2, .int x3]) (c := 1) (s' := (45, [(0, .ref 94), (1, .int x1), (2, .int x2), (3, .int x3)], [], h2)) rfl ⟨Nat.le_of_ble_eq_true rfl, Nat.le_of_ble_eq_true rfl⟩).trans ?_
      refine z_bdc fun r3 h4 => ?_
      refine (z_X_steps (s' := (47, [(0, .ref 94), (1, .int x1), (2, .int x2), (3, .int x3)], [.int 9, .int r3], h4)) 1 rfl).trans ?_
      refine (z_X_br (c := r3 = 9) (s1 := (68, [(0, .ref 94), (1, .int x1), (2, .int x2), (3, .int x3)], [], h4)) (s2 := (50, [(0, .ref 94), (1, .int x1), (2, .int x2), (3, .int x3)], [], h4)) rfl).trans (z_ite ?_ ?_)
      · refine (z_X_steps (s' := (24, [(3, .int (x3 + 1)), (0, .ref 94), (1, .int x1), (2, .int x2)], [], h4)) 2 rfl).trans ?_
        exact z_X_lab rfl
      · refine (z_X_steps (s' := (54, [(0, .ref 94), (1, .int x1), (2, .int x2), (3, .int x3)], [.int x3, .int x2, .int x1, .ref 94], h4)) 4 rfl).trans ?_
        refine (z_X_call (id := 75) (a := [.ref 94, .int x1, .int x2, .int x3]) (c := 1) (s' := (57, [(0, .ref 94), (1, .int x1), (2, .int x2), (3, .int x3)], [], h4)) rfl ⟨Nat.le_of_ble_eq_true rfl, Nat.le_of_ble_eq_true rfl⟩).trans ?_
        refine z_bdc fun r5 h6 => ?_
        refine (z_X_steps (s' := (62, [(0, .ref 94), (1, .int x1), (2, .int x2), (3, .int x3)], [.int x1, .ref (94 + 1), .int r5], h6)) 3 rfl).trans ?_
        refine (z_X_if (g := z_in x1 6) (s' := (63, [(0, .ref 94), (1, .int x1), (2, .int x2), (3, .int x3)], [.int (h6.1 (94 + 1) (x1.toNatClampNeg)), .int r5], h6)) rfl).trans (z_bifA ?_)
        refine (z_X_br (c := r5 < h6.1 (94 + 1) (x1.toNatClampNeg)) (s1 := (68, [(0, .ref 94), (1, .int x1), (2, .int x2), (3, .int x3)], [], h6)) (s2 := (66, [(0, .ref 94), (1, .int x1), (2, .int x2), (3, .int x3)], [], h6)) rfl).trans (z_ite ?_ ?_)
        · refine (z_X_steps (s' := (24, [(3, .int (x3 + 1)), (0, .ref 94), (1, .int x1), (2, .int x2)], [], h6)) 2 rfl).trans ?_
          exact z_X_lab rfl
        · refine (z_X_steps (s' := (67, [(0, .ref 94), (1, .int x1), (2, .int x2), (3, .int x3)], [.int 0], h6)) 1 rfl).trans ?_
          exact z_X_ret rfl
  · show z_X zc_P_leadsOnlyToNodes 3 (24, [(0, .ref 102), (1, .int x1), (2, .int x2), (3, .int x3)], [], h) = _
    refine (z_X_steps (s' := (31, [(0, .ref 102), (1, .int x1), (2, .int x2), (3, .int x3)], [.int x2, .int x1, .ref (102 + 4), .int x3], h)) 5 rfl).trans ?_
    refine (z_X_call (id := 42) (a := [.int x1, .int x2]) (c := 1) (s' := (34, [(0, .ref 102), (1, .int x1), (2, .int x2), (3, .int x3)], [.ref (102 + 4), .int x3], h)) rfl ⟨Nat.le_of_ble_eq_true rfl, Nat.le_of_ble_eq_true rfl⟩).trans ?_
    refine z_bdc fun r1 h2 => ?_
    refine (z_X_if (g := z_in r1 48) (s' := (35, [(0, .ref 102), (1, .int x1), (2, .int x2), (3, .int x3)], [.int (h2.1 (102 + 4) (r1.toNatClampNeg)), .int x3], h2)) rfl).trans (z_bifA ?_)
    refine (z_X_br (c := h2.1 (102 + 4) (r1.toNatClampNeg) ≤ x3) (s1 := (74, [(0, .ref 102), (1, .int x1), (2, .int x2), (3, .int x3)], [], h2)) (s2 := (38, [(0, .ref 102), (1, .int x1), (2, .int x2), (3, .int x3)], [], h2)) rfl).trans (z_ite ?_ ?_)
    · refine (z_X_steps (s' := (12, [(2, .int (x2 + 1)), (0, .ref 102), (1, .int x1), (3, .int x3)], [], h2)) 2 rfl).trans ?_
      exact z_X_lab rfl
    · refine (z_X_steps (s' := (42, [(0, .ref 102), (1, .int x1), (2, .int x2), (3, .int x3)], [.int x3, .int x2, .int x1, .ref 102], h2)) 4 rfl).trans ?_
      refine (z_X_call (id := 75) (a := [.ref 102, .int x1, .int x2, .int x3]) (c := 1) (s' := (45, [(0, .ref 102), (1, .int x1), (2, .int x2), (3, .int x3)], [], h2)) rfl ⟨Nat.le_of_ble_eq_true rfl, Nat.le_of_ble_eq_true rfl⟩).trans ?_
      refine z_bdc fun r3 h4 => ?_
      refine (z_X_steps (s' := (47, [(0, .ref 102), (1, .int x1), (2, .int x2), (3, .int x3)], [.int 9, .int r3], h4)) 1 rfl).trans ?_
      refine (z_X_br (c := r3 = 9) (s1 := (68, [(0, .ref 102), (1, .int x1), (2, .int x2), (3, .int x3)], [], h4)) (s2 := (50, [(0, .ref 102), (1, .int x1), (2, .int x2), (3, .int x3)], [], h4)) rfl).trans (z_ite ?_ ?_)
      · refine (z_X_steps (s' := (24, [(3, .int (x3 + 1)), (0, .ref 102), (1, .int x1), (2, .int x2)], [], h4)) 2 rfl).trans ?_
        exact z_X_lab rfl
      · refine (z_X_steps (s' := (54, [(0, .ref 102), (1, .int x1), (2, .int x2), (3, .int x3)], [.int x3, .int x2, .int x1, .ref 102], h4)) 4 rfl).trans ?_
        refine (z_X_call (id := 75) (a := [.ref 102, .int x1, .int x2, .int x3]) (c := 1) (s' := (57, [(0, .ref 102), (1, .int x1), (2, .int x2), (3, .int x3)], [], h4)) rfl ⟨Nat.le_of_ble_eq_true rfl, Nat.le_of_ble_eq_true rfl⟩).trans ?_
        refine z_bdc fun r5 h6 => ?_
        refine (z_X_steps (s' := (62, [(0, .ref 102), (1, .int x1), (2, .int x2), (3, .int x3)], [.int x1, .ref (102 + 1), .int r5], h6)) 3 rfl).trans ?_
        refine (z_X_if (g := z_in x1 6) (s' := (63, [(0, .ref 102), (1, .int x1), (2, .int x2), (3, .int x3)], [.int (h6.1 (102 + 1) (x1.toNatClampNeg)), .int r5], h6)) rfl).trans (z_bifA ?_)
        refine (z_X_br (c := r5 < h6.1 (102 + 1) (x1.toNatClampNeg)) (s1 := (68, [(0, .ref 102), (1, .int x1), (2, .int x2), (3, .int x3)], [], h6)) (s2 := (66, [(0, .ref 102), (1, .int x1), (2, .int x2), (3, .int x3)], [], h6)) rfl).trans (z_ite ?_ ?_)
        · refine (z_X_steps (s' := (24, [(3, .int (x3 + 1)), (0, .ref 102), (1, .int x1), (2, .int x2)], [], h6)) 2 rfl).trans ?_
          exact z_X_lab rfl
        · refine (z_X_steps (s' := (67, [(0, .ref 102), (1, .int x1), (2, .int x2), (3, .int x3)], [.int 0], h6)) 1 rfl).trans ?_
          exact z_X_ret rfl
