/-! THE PURE PART: what is there: methods, nodes, classes, tests, by both sides -/
def q_b (b : Bool) : Int32 := bif b then 1 else 0
theorem q_b1 (b : Bool) : q_b b &&& 1 = q_b b := by cases b <;> rfl
theorem q_b0 {b : Bool} : q_b b = 0 ↔ b = false := by cases b <;> decide
theorem q_in_neg {x : Int32} {n : Nat} (h : x < 0) : z_in x n = false := by
  unfold z_in
  rw [decide_eq_true h]
  rfl
theorem q_bnd {x : Int32} {n : Nat} (hn : n < 2 ^ 31) {α : Type} {u v : α} : (if x < 0 then u else if nI n ≤ x then u else v) = bif z_in x n then v else u := by
  rcases q_cases x with hx | ⟨c, hc, rfl⟩
  · rw [if_pos hx, q_in_neg hx]
    rfl
  · rw [if_neg (nI_pos hc), q_in hc]
    by_cases h : c < n
    · rw [if_neg (nI_ge h hn), decide_eq_true h]
      rfl
    · rw [if_pos (nI_le (by omega) hc), decide_eq_false h]
      rfl
theorem q_w1 {x : Int32} {n : Nat} (hn : n < 2 ^ 30) (h : z_H) : z_M 127 [.long x.toInt64, .long (0 : Int32).toInt64, .long (nI n - 1).toInt64] h = some (q_b (z_in x n), h) := by
  rcases q_cases x with hx | ⟨c, hc, rfl⟩
  · rw [q_0neg hx, q_in_neg hx]
    rfl
  · rw [q_0in2 hc hn, q_in hc]
    by_cases h : c < n
    · rw [if_pos h, decide_eq_true h]
      rfl
    · rw [if_neg h, decide_eq_false h]
      rfl
theorem q_w0 {x : Int32} {n : Nat} (hn : n < 2 ^ 30) (h : z_H) : z_M 127 [.long x.toInt64, .long (0 : Int32).toInt64, .long (nI n).toInt64] h = some (q_b (z_in x (n + 1)), h) := by
  rcases q_cases x with hx | ⟨c, hc, rfl⟩
  · rw [q_0neg hx, q_in_neg hx]
    rfl
  · rw [q_0in hc (by omega), q_in hc]
    by_cases h : c ≤ n
    · rw [if_pos h, decide_eq_true (by omega)]
      rfl
    · rw [if_neg h, decide_eq_false (by omega)]
      rfl
theorem q_inT {x : Int32} {n : Nat} (hn : n < 2 ^ 31) (h : z_in x n = true) : ∃ k, k < n ∧ x = nI k := z_in_nI hn h
def q_isN (a : Nat → Nat) (x y : Int32) : Bool := z_in x (a 0) && z_in y (a (7 + x.toNatClampNeg))
theorem q_vn {v : Nat} (h : v ≠ 999) : q_v v = nI v := by
  unfold q_v
  rw [z_beqF h]
  rfl
def q_oP : List Nat := [4, 17, 25, 73, 81, 94, 102]
/-- the program's rows as far as they say what is there -/
def q_sz (I : Nat → Nat → Int32) (o : Nat) (a : Nat → Nat) : Prop := I o 0 = nI (a 0) ∧ I o 1 = nI (a 1) ∧ a 0 ≤ 6 ∧ a 1 ≤ 4 ∧ (∀ m, m < a 0 → a (7 + m) ≤ 8 ∧ I (o + 1) m = nI (a (7 + m)))
theorem q_hasMethod {o : Nat} {a : Nat → Nat} {h : z_H} (hi : o ∈ [4, 17, 25, 73, 81, 94, 102]) (hs : q_sz h.1 o a) (x : Int32) : z_M 70 [.ref o, .int x] h = some (q_b (z_in x (a 0)), h) := by
  have h6 := hs.2.2.1
  rw [e_P_hasMethod hi, hs.1, q_bnd (by omega)]
  cases z_in x (a 0) <;> rfl
theorem q_hasClass {o : Nat} {a : Nat → Nat} {h : z_H} (hi : o ∈ [4, 17, 25, 73, 81, 94, 102]) (hs : q_sz h.1 o a) (x : Int32) : z_M 73 [.ref o, .int x] h = some (q_b (z_in x (a 1)), h) := by
  have h6 := hs.2.2.2.1
  rw [e_P_hasClass hi, hs.2.1, q_bnd (by omega)]
  cases z_in x (a 1) <;> rfl
theorem q_hasNode {o : Nat} {a : Nat → Nat} {h : z_H} (hi : o ∈ [4, 17, 25, 73, 81, 94, 102]) (hs : q_sz h.1 o a) (x y : Int32) : z_M 71 [.ref o, .int x, .int y] h = some (q_b (q_isN a x y), h) := by
  have h6 := hs.2.2.1
  rw [e_P_hasNode hi, q_hasMethod hi hs, z_bd_some]
  unfold q_isN
  cases hx : z_in x (a 0) with
  | false => rfl
  | true =>
    obtain ⟨m, hm, rfl⟩ := q_inT (by omega) hx
    obtain ⟨g1, g2⟩ := hs.2.2.2.2 m hm
    rw [if_neg (by decide), q_inC (show m < 6 by omega) (by decide), nI_clamp (by omega), g2, q_bnd (by omega)]
    cases z_in y (a (7 + m)) <;> rfl
/-- the reference's row, as far -/
def q_sr (I : Nat → Nat → Int32) (a : Nat → Nat) : Prop := I 123 0 = nI (a 0) ∧ I 123 1 = nI (a 1) ∧ I 123 2 = nI (a 2) ∧ a 0 ≤ 6 ∧ a 1 ≤ 4 ∧ a 2 ≤ 8 ∧ ∀ m, m < a 0 → a (7 + m) ≤ 8 ∧ I 123 (7 + m) = nI (a (7 + m))
theorem q_isMethod {a : Nat → Nat} {h : z_H} (hs : q_sr h.1 a) (x : Int32) : z_M 152 [.ref 122, .int x] h = some (q_b (z_in x (a 0)), h) := by
  have h6 := hs.2.2.2.1
  rw [e_M_isMethod, hs.1, q_w1 (by omega), z_bd_some, q_b1]
theorem q_isClass {a : Nat → Nat} {h : z_H} (hs : q_sr h.1 a) (x : Int32) : z_M 154 [.ref 122, .int x] h = some (q_b (z_in x (a 1)), h) := by
  have h6 := hs.2.2.2.2.1
  rw [e_M_isClass, hs.2.1, q_w1 (by omega), z_bd_some, q_b1]
theorem q_isTest {a : Nat → Nat} {h : z_H} (hs : q_sr h.1 a) (x : Int32) : z_M 156 [.ref 122, .int x] h = some (q_b (z_in x (a 2)), h) := by
  have h6 := hs.2.2.2.2.2.1
  rw [e_M_isTest, hs.2.2.1, q_w1 (by omega), z_bd_some, q_b1]
theorem q_isName (x : Int32) (h : z_H) : z_M 155 [.int x] h = some (q_b (z_in x 4), h) := by
  rw [e_M_isName, n_3, q_w0 (by decide), z_bd_some, q_b1]
theorem q_isPart (x : Int32) (h : z_H) : z_M 157 [.int x] h = some (q_b (z_in x 2), h) := by
  rw [e_M_isPart, show z_M 127 [.long x.toInt64, .long (0 : Int32).toInt64, .long (1 : Int32).toInt64] h = _ from q_w0 (n := 1) (by decide) h, z_bd_some, q_b1]
theorem q_isNode {a : Nat → Nat} {h : z_H} (hs : q_sr h.1 a) (x y : Int32) : z_M 153 [.ref 122, .int x, .int y] h = some (q_b (q_isN a x y), h) := by
  have h6 := hs.2.2.2.1
  rw [e_M_isNode, q_isMethod hs, z_bd_some]
  unfold q_isN
  cases hx : z_in x (a 0) with
  | false => rfl
  | true =>
    obtain ⟨m, hm, rfl⟩ := q_inT (by omega) hx
    obtain ⟨g1, g2⟩ := hs.2.2.2.2.2.2 m hm
    rw [if_neg (by decide), n_7, nI_add, q_inC (show 7 + m < 549 by omega) (by decide), nI_clamp (by omega), g2, q_w1 (by omega), z_bd_some, nI_clamp (by omega)]
    cases z_in y (a (7 + m)) <;> rfl
/-! out of the invariant -/
theorem q_mo {I : Nat → Nat → Int32} {o k : Nat} (h1 : 17 ≤ o) (h2 : o ≤ 36) : q_m I o k = I o k := by
  refine q_mc ?_
  unfold q_core
  rw [Nat.ble_eq_true_of_le h1, Nat.ble_eq_true_of_le h2]
  simp
theorem q_raw {h : z_H} {a : Nat → Nat} (hn : q_now (q_m h.1) a) : q_now h.1 a := hn.congr (fun o k q => by
  rcases q with rfl | ⟨q1, q2⟩
  · exact (q_mc rfl).symm
  · exact (q_mo q1 q2).symm)
theorem q_now.sr {I : Nat → Nat → Int32} {a : Nat → Nat} (h : q_now I a) : q_sr I a := by
  obtain ⟨⟨o0, o1, o2, o7, -⟩, hst, -⟩ := h
  exact ⟨(hst 0 (by omega)).trans (q_vn (by omega)), (hst 1 (by omega)).trans (q_vn (by omega)), (hst 2 (by omega)).trans (q_vn (by omega)), o0, o1, o2, fun m hm => ⟨o7 m hm, (hst (7 + m) (by omega)).trans (q_vn (by have := o7 m hm; omega))⟩⟩
theorem q_prg.sz {I : Nat → Nat → Int32} {o p : Nat} {a : Nat → Nat} (ho : q_ok a) (h : q_prg I o p a) : q_sz I o a := ⟨h.1, h.2.1, ho.1, ho.2.1, fun m hm => ⟨ho.2.2.2.1 m hm, h.2.2.1 m hm⟩⟩
