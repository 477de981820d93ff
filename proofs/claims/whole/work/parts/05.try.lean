theorem z_ite {c : Prop} [Decidable c] {α : Type} {a b a' b' : α} (h1 : a = a') (h2 : b = b') : (if c then a else b) = if c then a' else b' := by rw [h1, h2]
theorem z_bif {c : Bool} {α : Type} {a b a' b' : α} (h1 : a = a') (h2 : b = b') : (bif c then a else b) = bif c then a' else b' := by rw [h1, h2]
theorem z_bdc {a : Option z_A} {f g : Int32 → z_H → Option z_A} (h : ∀ r h', f r h' = g r h') : z_bd a f = z_bd a g := by
  have : f = g := by funext r h'; exact h r h'
  rw [this]
set_option maxRecDepth 4000 in
theorem t_hasMethod (o : Nat) (ho : o ∈ [4, 17, 25, 73, 81, 94, 102]) (m : Int32) (h : z_H) : z_M 70 [.ref o, .int m] h = (if m < 0 then some (0, h) else if h.1 o 0 ≤ m then some (0, h) else some (1, h)) := by
  simp only [List.mem_cons, List.not_mem_nil, or_false] at ho
  refine (z_M_eq (by decide)).trans ?_
  rcases ho with rfl | rfl | rfl | rfl | rfl | rfl | rfl
  all_goals
    refine (z_X_steps (C := zc_P_hasMethod) (s' := (1, [(0, .ref _), (1, .int m)], [.int m], h)) 1 rfl).trans ?_
    refine (z_X_br (c := m < 0) (s1 := (16, [(0, .ref _), (1, .int m)], [], h)) (s2 := (4, [(0, .ref _), (1, .int m)], [], h)) rfl).trans (z_ite ?_ ?_)
    · refine (z_X_steps (s' := (17, [(0, .ref _), (1, .int m)], [.int 0], h)) 1 rfl).trans ?_
      exact z_X_ret rfl
    · refine (z_X_steps (s' := (9, [(0, .ref _), (1, .int m)], [.int (h.1 _ 0), .int m], h)) 3 rfl).trans ?_
      refine (z_X_br (c := h.1 _ 0 ≤ m) (s1 := (16, [(0, .ref _), (1, .int m)], [], h)) (s2 := (12, [(0, .ref _), (1, .int m)], [], h)) rfl).trans (z_ite ?_ ?_)
      · refine (z_X_steps (s' := (17, [(0, .ref _), (1, .int m)], [.int 0], h)) 1 rfl).trans ?_
        exact z_X_ret rfl
      · refine (z_X_steps (s' := (17, [(0, .ref _), (1, .int m)], [.int 1], h)) 2 rfl).trans ?_
        exact z_X_ret rfl
