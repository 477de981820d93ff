/-! THE PURE PART: a line told to the class -/
def q_hi (lo : Int32) (c : Nat) : Int32 := if c = 0 then lo else nI (c - 1)
/-- the highest class and method named, one more -/
def q_hC (x : Nat) (V : Nat → Nat) (hc : Nat) : Nat := if x = 4 ∨ x = 5 then max hc (V 0 + 1) else hc
def q_hM (x : Nat) (V : Nat → Nat) (hm : Nat) : Nat := if x = 4 then max hm (V 2 + 1) else hm
def q_rm (a : Nat → Nat) (x : Nat) : Bool := match x with
  | 0 => decide (a 0 < 6)
  | 1 => decide (0 < a 0) && decide (q_lN a < 8)
  | 2 => decide (0 < a 0) && decide (q_lN a < 8)
  | 3 => decide (a 1 < 4)
  | 4 => true
  | _ => decide (a 2 < 8)
theorem q_hi_max {lo : Int32} {c v : Nat} (hlo : lo < 0) (hc : c < 300) (hv : v < 300) : (if q_hi lo c < nI v then nI v else q_hi lo c) = q_hi lo (max c (v + 1)) := by
  have e1 : q_hi lo (max c (v + 1)) = nI (max c (v + 1) - 1) := if_neg (by omega)
  rw [e1]
  unfold q_hi
  by_cases h0 : c = 0
  · have hl : lo < nI v := by
      have h1 : (0 : Int32) ≤ nI v := nI_le (a := 0) (Nat.zero_le v) (by omega)
      rw [Int32.lt_iff_toInt_lt] at hlo ⊢
      rw [Int32.le_iff_toInt_le] at h1
      omega
    rw [if_pos h0, if_pos hl, show max c (v + 1) - 1 = v by omega]
  · rw [if_neg h0]
    by_cases h1 : c - 1 < v
    · rw [if_pos (nI_lt h1 (by omega)), show max c (v + 1) - 1 = v by omega]
    · rw [if_neg (nI_nlt (by omega) (by omega)), show max c (v + 1) - 1 = c - 1 by omega]
section QCL
variable {a : Nat → Nat} {hc hm : Nat} {V : Nat → Nat}
/-- the row of a node's line, part by part -/
theorem q_nds_dk {y : Nat} (h : q_dk a hc hm) (h0 : 0 < a 0) (h8 : q_lN a < 8) (hy : y < 2) (hv : V 0 ≤ 9) (hyv : y = 1 → V 0 < 4) : ∀ j, j < 3 → (∀ i, 1 ≤ i → i ≤ j → V i = 9 ∨ V i < 8) → q_dk (q_nds a y V (j + 1)) hc hm ∧ q_nds a y V (j + 1) 0 = a 0 ∧ q_lN (q_nds a y V (j + 1)) = q_lN a + 1 ∧ q_lJ (q_nds a y V (j + 1)) = q_at 0 (a 0 - 1) (q_lN a) ∧ q_nds a y V (j + 1) (q_at 0 (a 0 - 1) (q_lN a) + 2) = j := by
  intro j
  induction j with
  | zero =>
    intro _ _
    exact q_dk.B h h0 h8 hy hv hyv
  | succ j ih =>
    intro hj hV
    obtain ⟨i1, i2, i3, i4, i5⟩ := ih (by omega) (fun i h1 h2 => hV i h1 (by omega))
    have e : q_nds a y V (j + 1 + 1) = q_rN (q_nds a y V (j + 1)) (V (j + 1)) := by
      show (if j + 1 = 0 then _ else _) = _
      rw [if_neg (by omega)]
    have n := q_dk.N (v := V (j + 1)) i1 (by omega) (by omega) (by rw [i4, i5]; omega) (hV (j + 1) (by omega) (by omega))
    rw [e]
    rw [i4] at n
    rw [i5] at n
    exact ⟨n.1, n.2.1.trans i2, n.2.2.1.trans i3, n.2.2.2.1, n.2.2.2.2⟩
theorem q_cNds {h : z_H} {y m : Nat} (hd : q_dk a hc hm) (hg : q_cDr h.1 a) (h0 : 0 < a 0) (h8 : q_lN a < 8) (hy : y < 2) (hv : V 0 ≤ 9) (hyv : y = 1 → V 0 < 4) (hm1 : 1 ≤ m) (hm3 : m ≤ 3) (hV : ∀ i, 1 ≤ i → i < m → V i = 9 ∨ V i < 8) (h16 : ∀ i, i < m → h.1 16 i = nI (V i)) : ∃ h', z_M 65 [.ref 3, .int (nI y), .int (nI m)] h = some (0, h') ∧ q_cDr h'.1 (q_nds a y V m) ∧ ∀ o k, ¬ (4 ≤ o ∧ o ≤ 15) → h'.1 o k = h.1 o k := by
  obtain ⟨h1, b1, b2, b3⟩ := q_cB (y := y) (v := V 0) hd hg h0 h8
  have loop : ∀ f j (h : z_H), j + 1 + f = m → q_cDr h.1 (q_nds a y V (j + 1)) → (∀ i, i < m → h.1 16 i = nI (V i)) → ∃ h', zl_Rd_tellNode_16 (nI m) (nI (j + 1)) h = some (0, h') ∧ q_cDr h'.1 (q_nds a y V m) ∧ ∀ o k, ¬ (4 ≤ o ∧ o ≤ 15) → h'.1 o k = h.1 o k := by
    intro f
    induction f with
    | zero =>
      intro j h hj hg hx
      rw [e_Rd_tellNode_16, if_pos (nI_le (by omega) (by omega))]
      exact ⟨h, rfl, by rw [← hj]; exact hg, fun _ _ _ => rfl⟩
    | succ f ih =>
      intro j h hj hg hx
      obtain ⟨i1, i2, i3, i4, i5⟩ := q_nds_dk hd h0 h8 hy hv hyv j (by omega) (fun i h1 h2 => hV i h1 (by omega))
      obtain ⟨h2, c1, c2, c3⟩ := q_cN (v := V (j + 1)) i1 hg (by omega) (by omega) (by rw [i4, i5]; omega)
      have e : q_nds a y V (j + 1 + 1) = q_rN (q_nds a y V (j + 1)) (V (j + 1)) := by
        show (if j + 1 = 0 then _ else _) = _
        rw [if_neg (by omega)]
      rw [← e] at c2
      obtain ⟨h', d1, d2, d3⟩ := ih (j + 1) h2 (by omega) c2 (fun i hi => (c3 _ _ (by omega)).trans (hx i hi))
      rw [e_Rd_tellNode_16, if_neg (nI_ge (show j + 1 < m by omega) (by omega)), q_inC (show j + 1 < 3 by omega) (by decide), nI_clamp (by omega), hx (j + 1) (by omega), c1, z_bd_some, nI_1]
      exact ⟨h', d1, d2, fun o k q => (d3 o k q).trans (c3 o k q)⟩
  obtain ⟨h', d1, d2, d3⟩ := loop (m - 1) 0 h1 (by omega) b2 (fun i hi => (b3 _ _ (by omega)).trans (h16 i hi))
  rw [e_Rd_tellNode, h16 0 (by omega), b1, z_bd_some]
  exact ⟨h', d1, d2, fun o k q => (d3 o k q).trans (b3 o k q)⟩
/-- the numbers of a faultless line are in bounds -/
def q_nums (a : Nat → Nat) (x : Nat) (V : Nat → Nat) (m : Nat) : Prop := q_lst x ≤ m ∧ m ≤ q_mst x ∧ ∀ i, i < m → q_wi a x i (V i) = true
theorem q_n1 {x m : Nat} (hx : x = 1 ∨ x = 2) (h : q_nums a x V m) : 1 ≤ m ∧ m ≤ 3 ∧ V 0 ≤ 9 ∧ (x = 2 → V 0 < 4) ∧ ∀ i, 1 ≤ i → i < m → V i = 9 ∨ V i < 8 := by
  obtain ⟨h1, h2, h3⟩ := h
  have nx : ∀ i, 1 ≤ i → i < m → V i = 9 ∨ V i < 8 := fun i i1 i2 => by
    have := h3 i i2
    rcases hx with rfl | rfl
    · unfold q_wi at this
      simp only [show ¬ i = 0 by omega, if_false, Bool.or_eq_true, decide_eq_true_eq] at this
      omega
    · unfold q_wi at this
      simp only [show ¬ i = 0 by omega, if_false, Bool.or_eq_true, decide_eq_true_eq] at this
      omega
  rcases hx with rfl | rfl
  · have h1 : 1 ≤ m := h1
    have h2 : m ≤ 3 := h2
    have := h3 0 (by omega)
    unfold q_wi at this
    simp only [if_true, decide_eq_true_eq] at this
    exact ⟨h1, h2, this, fun q => by omega, nx⟩
  · have h1 : 1 ≤ m := h1
    have h2 : m ≤ 3 := h2
    have := h3 0 (by omega)
    unfold q_wi at this
    simp only [if_true, decide_eq_true_eq] at this
    exact ⟨h1, h2, by omega, fun _ => this, nx⟩
theorem q_n3 {m : Nat} (h : q_nums a 3 V m) : m = 1 ∧ (V 0 = 9 ∨ V 0 < a 1) := by
  obtain ⟨h1, h2, h3⟩ := h
  have h1 : 1 ≤ m := h1
  have h2 : m ≤ 1 := h2
  have := h3 0 (by omega)
  unfold q_wi at this
  simp only [Bool.or_eq_true, decide_eq_true_eq] at this
  exact ⟨by omega, by omega⟩
theorem q_n4 {m : Nat} (h : q_nums a 4 V m) : m = 3 ∧ V 0 < 4 ∧ V 1 < 4 ∧ V 2 < 6 := by
  obtain ⟨h1, h2, h3⟩ := h
  have h1 : 3 ≤ m := h1
  have h2 : m ≤ 3 := h2
  have g0 := h3 0 (by omega)
  have g1 := h3 1 (by omega)
  have g2 := h3 2 (by omega)
  unfold q_wi at g0 g1 g2
  simp at g0 g1 g2
  exact ⟨by omega, g0, g1, g2⟩
theorem q_n5 {m : Nat} (h : q_nums a 5 V m) : m = 3 ∧ V 0 < 4 ∧ V 1 < 256 ∧ 1 ≤ V 2 ∧ V 2 ≤ 9 := by
  obtain ⟨h1, h2, h3⟩ := h
  have h1 : 3 ≤ m := h1
  have h2 : m ≤ 3 := h2
  have g0 := h3 0 (by omega)
  have g1 := h3 1 (by omega)
  have g2 := h3 2 (by omega)
  unfold q_wi at g0 g1 g2
  simp at g0 g1 g2
  exact ⟨by omega, g0, g1, g2.1, g2.2⟩
theorem q_row_dk {x m : Nat} (hd : q_dk a hc hm) (hx : x ≤ 5) (hr : q_rm a x = true) (hn : q_nums a x V m) : q_dk (q_row a x V m) (q_hC x V hc) (q_hM x V hm) := by
  rcases (show x = 0 ∨ x = 1 ∨ x = 2 ∨ x = 3 ∨ x = 4 ∨ x = 5 by omega) with rfl | rfl | rfl | rfl | rfl | rfl
  · exact hd.M (of_decide_eq_true hr)
  · obtain ⟨n1, n2, n3, n4, n5⟩ := q_n1 (Or.inl rfl) hn
    have hr : (decide (0 < a 0) && decide (q_lN a < 8)) = true := hr
    simp only [Bool.and_eq_true, decide_eq_true_eq] at hr
    have := (q_nds_dk (V := V) (y := 0) hd hr.1 hr.2 (by decide) n3 (fun q => by cases q) (m - 1) (by omega) (fun i i1 i2 => n5 i i1 (by omega))).1
    rw [show m - 1 + 1 = m by omega] at this
    exact this
  · obtain ⟨n1, n2, n3, n4, n5⟩ := q_n1 (Or.inr rfl) hn
    have hr : (decide (0 < a 0) && decide (q_lN a < 8)) = true := hr
    simp only [Bool.and_eq_true, decide_eq_true_eq] at hr
    have := (q_nds_dk (V := V) (y := 1) hd hr.1 hr.2 (by decide) n3 (fun _ => n4 rfl) (m - 1) (by omega) (fun i i1 i2 => n5 i i1 (by omega))).1
    rw [show m - 1 + 1 = m by omega] at this
    exact this
  · exact hd.C (of_decide_eq_true hr) (q_n3 hn).2
  · obtain ⟨_, n0, n1, n2⟩ := q_n4 hn
    exact hd.H n0 n1 n2
  · obtain ⟨_, n0, n1, n2⟩ := q_n5 hn
    exact hd.T (of_decide_eq_true hr) n0 n1 n2
end QCL
