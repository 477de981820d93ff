/-! THE PURE PART: bounds, and the first small calls -/
theorem q_l64 (x : Int32) : x.toInt64.toInt = x.toInt := Int32.toInt_toInt64 x
theorem q_cmp_lt {a b : Int64} : lg_cmp a b < 0 ↔ a.toInt < b.toInt := by
  unfold lg_cmp
  by_cases h1 : a > b
  · rw [if_pos h1]
    have := Int64.lt_iff_toInt_lt.mp h1
    exact ⟨fun q => absurd q (by decide), fun q => absurd q (by omega)⟩
  · rw [if_neg h1]
    have h2 : ¬ b.toInt < a.toInt := fun q => h1 (Int64.lt_iff_toInt_lt.mpr q)
    by_cases h3 : a = b
    · rw [if_pos h3, h3]
      exact ⟨fun q => absurd q (by decide), fun q => absurd q (by omega)⟩
    · rw [if_neg h3]
      have h4 : a.toInt ≠ b.toInt := fun q => h3 (Int64.toInt_inj.mp q)
      exact ⟨fun _ => by omega, fun _ => by decide⟩
theorem q_cmp_gt {a b : Int64} : 0 < lg_cmp a b ↔ b.toInt < a.toInt := by
  unfold lg_cmp
  by_cases h1 : a > b
  · rw [if_pos h1]
    have := Int64.lt_iff_toInt_lt.mp h1
    exact ⟨fun _ => this, fun _ => by decide⟩
  · rw [if_neg h1]
    have h2 : ¬ b.toInt < a.toInt := fun q => h1 (Int64.lt_iff_toInt_lt.mpr q)
    by_cases h3 : a = b
    · rw [if_pos h3]
      exact ⟨fun q => absurd q (by decide), fun q => absurd q h2⟩
    · rw [if_neg h3]
      exact ⟨fun q => absurd q (by decide), fun q => absurd q h2⟩
/-- within bounds, by the reference -/
theorem q_within (x y z : Int32) (h : z_H) : z_M 127 [.long x.toInt64, .long y.toInt64, .long z.toInt64] h = some (if y.toInt ≤ x.toInt ∧ x.toInt ≤ z.toInt then 1 else 0, h) := by
  rw [e_M_in]
  by_cases h1 : x.toInt < y.toInt
  · rw [if_pos (q_cmp_lt.mpr (by rw [q_l64, q_l64]; exact h1)), if_neg (by omega)]
  · rw [if_neg (fun q => h1 (by have := q_cmp_lt.mp q; rw [q_l64, q_l64] at this; exact this))]
    by_cases h2 : z.toInt < x.toInt
    · rw [if_pos (q_cmp_gt.mpr (by rw [q_l64, q_l64]; exact h2)), if_neg (by omega)]
    · rw [if_neg (fun q => h2 (by have := q_cmp_gt.mp q; rw [q_l64, q_l64] at this; exact this)), if_pos (by omega)]
theorem q_within_neg {x : Int32} {n : Nat} (hx : x < 0) (z : Int32) (h : z_H) : z_M 127 [.long x.toInt64, .long (nI n).toInt64, .long z.toInt64] h = some (0, h) ∨ 2 ^ 31 ≤ n := by
  by_cases hn : n < 2 ^ 31
  · refine Or.inl ?_
    rw [q_within, if_neg]
    rw [nI_toInt hn]
    have := Int32.lt_iff_toInt_lt.mp hx
    have h0 : (0 : Int32).toInt = 0 := rfl
    omega
  · exact Or.inr (by omega)
theorem q_0neg {x : Int32} (hx : x < 0) (z : Int32) (h : z_H) : z_M 127 [.long x.toInt64, .long (0 : Int32).toInt64, .long z.toInt64] h = some (0, h) := by
  rw [q_within, if_neg]
  have := Int32.lt_iff_toInt_lt.mp hx
  have h0 : (0 : Int32).toInt = 0 := rfl
  omega
theorem q_0in {n k : Nat} (hn : n < 2 ^ 31) (hk : k < 2 ^ 31) (h : z_H) : z_M 127 [.long (nI n).toInt64, .long (0 : Int32).toInt64, .long (nI k).toInt64] h = some (if n ≤ k then 1 else 0, h) := by
  rw [q_within, nI_toInt hn, nI_toInt hk]
  have h0 : (0 : Int32).toInt = 0 := rfl
  by_cases hh : n ≤ k
  · rw [if_pos (by omega), if_pos hh]
  · rw [if_neg (by omega), if_neg hh]
/-- up to one less than a number of things -/
theorem q_0in1 {n k : Nat} (hn : n < 2 ^ 30) (hk : k < 2 ^ 30) (h : z_H) : z_M 127 [.long (nI n).toInt64, .long (0 : Int32).toInt64, .long (nI k - 1).toInt64] h = some (if n < k then 1 else 0, h) := by
  rw [q_within, nI_toInt (by omega), n_1, pk_sub_toInt hk (by decide)]
  have h0 : (0 : Int32).toInt = 0 := rfl
  by_cases hh : n < k
  · rw [if_pos (by omega), if_pos hh]
  · rw [if_neg (by omega), if_neg hh]
/-- the same, n any number of an int -/
theorem q_0in2 {n k : Nat} (hn : n < 2 ^ 31) (hk : k < 2 ^ 30) (h : z_H) : z_M 127 [.long (nI n).toInt64, .long (0 : Int32).toInt64, .long (nI k - 1).toInt64] h = some (if n < k then 1 else 0, h) := by
  rw [q_within, nI_toInt hn, n_1, pk_sub_toInt hk (by decide)]
  have h0 : (0 : Int32).toInt = 0 := rfl
  by_cases hh : n < k
  · rw [if_pos (by omega), if_pos hh]
  · rw [if_neg (by omega), if_neg hh]
/-! fault, torn -/
theorem q_op3 : z_opok q_inv 3 151 0 := by
  intro h hi as has
  have : as = [] := List.length_eq_zero_iff.mp has
  subst this
  obtain ⟨-, -, -, -, hf, -⟩ := id hi
  rw [q_mc rfl, q_mc rfl] at hf
  exact ⟨h.1 0 10, h, h, e_X_fault h, by rw [hf]; exact e_M_fault h, hi⟩
theorem q_op27 : z_opok q_inv 27 215 0 := by
  intro h hi as has
  have : as = [] := List.length_eq_zero_iff.mp has
  subst this
  obtain ⟨-, -, -, -, -, hf⟩ := id hi
  rw [q_mc rfl, q_mc rfl] at hf
  exact ⟨h.1 0 11, h, h, e_X_torn h, by rw [hf]; exact e_M_torn h, hi⟩
/-! one argument, two, three, four -/
theorem q_as1 {as : List Int32} (h : as.length = 1) : ∃ x, as = [x] := by
  match as, h with
  | [x], _ => exact ⟨x, rfl⟩
theorem q_as2 {as : List Int32} (h : as.length = 2) : ∃ x y, as = [x, y] := by
  match as, h with
  | [x, y], _ => exact ⟨x, y, rfl⟩
theorem q_as3 {as : List Int32} (h : as.length = 3) : ∃ x y z, as = [x, y, z] := by
  match as, h with
  | [x, y, z], _ => exact ⟨x, y, z, rfl⟩
theorem q_as4 {as : List Int32} (h : as.length = 4) : ∃ x y z w, as = [x, y, z, w] := by
  match as, h with
  | [x, y, z, w], _ => exact ⟨x, y, z, w, rfl⟩
