/-! THE PURE PART: a node of the new program written -/
theorem q_wl1 (x : Int32) (h : z_H) : z_M 127 [.long x.toInt64, .long (0 : Int32).toInt64, .long (1 : Int32).toInt64] h = some (q_b (z_in x 2), h) := q_w0 (n := 1) (by decide) h
theorem q_wl2 (x : Int32) (h : z_H) : z_M 127 [.long x.toInt64, .long (0 : Int32).toInt64, .long (2 : Int32).toInt64] h = some (q_b (z_in x 3), h) := q_w0 (n := 2) (by decide) h
theorem q_wl3 (x : Int32) (h : z_H) : z_M 127 [.long x.toInt64, .long (0 : Int32).toInt64, .long (3 : Int32).toInt64] h = some (q_b (z_in x 4), h) := q_w0 (n := 3) (by decide) h
theorem q_wl9 (x : Int32) (h : z_H) : z_M 127 [.long x.toInt64, .long (0 : Int32).toInt64, .long (9 : Int32).toInt64] h = some (q_b (z_in x 10), h) := q_w0 (n := 9) (by decide) h
theorem q_wl10 (x : Int32) (h : z_H) : z_M 127 [.long x.toInt64, .long (0 : Int32).toInt64, .long (10 : Int32).toInt64] h = some (q_b (z_in x 11), h) := q_w0 (n := 10) (by decide) h
theorem q_wl14 (x : Int32) (h : z_H) : z_M 127 [.long x.toInt64, .long (0 : Int32).toInt64, .long (14 : Int32).toInt64] h = some (q_b (z_in x 15), h) := q_w0 (n := 14) (by decide) h
theorem q_wl255 (x : Int32) (h : z_H) : z_M 127 [.long x.toInt64, .long (0 : Int32).toInt64, .long (255 : Int32).toInt64] h = some (q_b (z_in x 256), h) := q_w0 (n := 255) (by decide) h
theorem q_place (m i : Nat) (h : z_H) : z_M 42 [.int (nI m), .int (nI i)] h = some (nI (8 * m + i), h) := by
  rw [e_X_placeOf, n_8, pk_mul, nI_add]
theorem q_edgeN (m i k : Nat) (h : z_H) : z_M 43 [.int (nI m), .int (nI i), .int (nI k)] h = some (nI (16 * m + 2 * i + k), h) := by
  rw [e_X_edgeOfNext, n_16, n_2, pk_mul, pk_mul, nI_add, nI_add]
theorem q_edgeC (c n : Nat) (h : z_H) : z_M 44 [.int (nI c), .int (nI n)] h = some (nI (200 + 4 * c + n), h) := by
  rw [e_X_edgeOfCall, n_200, n_4, pk_mul, nI_add, nI_add]
theorem q_nodeAt (p m i : Nat) (h : z_H) : z_M 129 [.int (nI p), .int (nI m), .int (nI i)] h = some (nI (q_at p m i), h) := by
  rw [e_M_nodeAt, n_13, n_256, n_5, n_8, pk_mul, pk_mul, nI_add, nI_add, pk_mul, nI_add]
  rfl
theorem q_nodeAt1 (m i : Nat) (h : z_H) : z_M 129 [.int 1, .int (nI m), .int (nI i)] h = some (nI (q_at 1 m i), h) := q_nodeAt 1 m i h
theorem q_nodeAt0 (m i : Nat) (h : z_H) : z_M 129 [.int 0, .int (nI m), .int (nI i)] h = some (nI (q_at 0 m i), h) := q_nodeAt 0 m i h
theorem q_atb {p m i : Nat} (hp : p < 2) (hm : m < 6) (hi : i < 8) : 13 + 256 * p ≤ q_at p m i ∧ q_at p m i + 5 ≤ 253 + 256 * p := by unfold q_at; omega
theorem q_ofN {p m i k : Nat} (hp : p < 2) (hm : m < 6) (hi : i < 8) (hk : k < 5) (h : z_H) : z_M 158 [.ref 122, .int (nI p), .int (nI m), .int (nI i), .int (nI k)] h = some (h.1 123 (q_at p m i + k), h) := by
  have hb := q_atb hp hm hi
  rw [e_M_ofNode, q_nodeAt, z_bd_some, nI_add, q_inC (show q_at p m i + k < 549 by omega) (by decide), nI_clamp (by omega)]
theorem q_ofN12 {m i : Nat} (hm : m < 6) (hi : i < 8) (h : z_H) : z_M 158 [.ref 122, .int 1, .int (nI m), .int (nI i), .int 2] h = some (h.1 123 (q_at 1 m i + 2), h) := q_ofN (p := 1) (k := 2) (by decide) hm hi (by decide) h
def q_upN (a : Nat → Nat) (J : Nat) (v : Nat → Nat) : Nat → Nat := fun j => if J ≤ j ∧ j < J + 5 then v (j - J) else a j
theorem q_upN_in {a : Nat → Nat} {J : Nat} {v : Nat → Nat} {c : Nat} (h : c < 5) : q_upN a J v (J + c) = v c := by
  unfold q_upN
  rw [if_pos (by omega), show J + c - J = c by omega]
theorem q_upN_out {a : Nat → Nat} {J : Nat} {v : Nat → Nat} {j : Nat} (h : ¬ (J ≤ j ∧ j < J + 5)) : q_upN a J v j = a j := if_neg h
def q_nok (v : Nat → Nat) (w : Nat) : Prop := v 0 < 2 ∧ v 1 ≤ 9 ∧ (v 0 = 1 → v 1 < 4) ∧ v 2 ≤ 2 ∧ ∀ k, k < v 2 → v (3 + k) = 9 ∨ v (3 + k) < w
section QND
variable {a v : Nat → Nat} {m i : Nat}
theorem q_ok.node (ho : q_ok a) (hm : m < a 0) (hi : i < a (7 + m)) (hv : q_nok v (a (7 + m))) : q_ok (q_upN a (q_at 1 m i) v) := by
  have o0 := ho.1
  have o7 := ho.2.2.2.1
  have o7m := o7 m hm
  have hb := q_atb (p := 1) (by decide) (show m < 6 by omega) (show i < 8 by omega)
  have out : ∀ j, j < 269 → q_upN a (q_at 1 m i) v j = a j := fun j hj => q_upN_out (by omega)
  have out2 : ∀ j, 509 ≤ j → q_upN a (q_at 1 m i) v j = a j := fun j hj => q_upN_out (by omega)
  refine ⟨by rw [out 0 (by omega)]; exact o0, by rw [out 1 (by omega)]; exact ho.2.1, by rw [out 2 (by omega)]; exact ho.2.2.1, fun m' hm' => ?_, fun p m' i' hp hm' hi' => ?_, fun c hc => ?_, fun p c n hp hc hn => ?_, fun t ht => ?_⟩
  · rw [out 0 (by omega)] at hm'
    rw [out (7 + m') (by omega)]
    exact o7 m' hm'
  · rw [out 0 (by omega)] at hm'
    rw [out (7 + m') (by omega)] at hi' ⊢
    have o7' := o7 m' hm'
    have hg := ho.2.2.2.2.1 p m' i' hp hm' hi'
    by_cases hs : p = 1 ∧ m' = m ∧ i' = i
    · obtain ⟨rfl, rfl, rfl⟩ := hs
      have e0 : q_upN a (q_at 1 m' i') v (q_at 1 m' i') = v 0 := q_upN_in (c := 0) (by omega)
      rw [e0, q_upN_in (c := 1) (by omega), q_upN_in (c := 2) (by omega)]
      refine ⟨hv.1, hv.2.1, hv.2.2.1, hv.2.2.2.1, fun k hk => ?_⟩
      have hk2 := hv.2.2.2.1
      rw [show q_at 1 m' i' + 3 + k = q_at 1 m' i' + (3 + k) by omega, q_upN_in (c := 3 + k) (by omega)]
      exact hv.2.2.2.2 k hk
    · have hd : ∀ c, c < 5 → ¬ (q_at 1 m i ≤ q_at p m' i' + c ∧ q_at p m' i' + c < q_at 1 m i + 5) := fun c hc => by
        unfold q_at
        rcases (show p = 0 ∨ p = 1 by omega) with rfl | rfl
        · omega
        · omega
      rw [show q_upN a (q_at 1 m i) v (q_at p m' i') = a (q_at p m' i') from q_upN_out (hd 0 (by omega)), q_upN_out (hd 1 (by omega)), q_upN_out (hd 2 (by omega))]
      refine ⟨hg.1, hg.2.1, hg.2.2.1, hg.2.2.2.1, fun k hk => ?_⟩
      have hk2 := hg.2.2.2.1
      rw [show q_at p m' i' + 3 + k = q_at p m' i' + (3 + k) by omega, q_upN_out (hd (3 + k) (by omega)), ← show q_at p m' i' + 3 + k = q_at p m' i' + (3 + k) by omega]
      exact hg.2.2.2.2 k hk
  · rw [out 1 (by omega)] at hc
    have o1 := ho.2.1
    rw [out (3 + c) (by omega)]
    exact ho.2.2.2.2.2.1 c hc
  · rw [out 1 (by omega)] at hc
    have o1 := ho.2.1
    rw [out 0 (by omega), show q_upN a (q_at 1 m i) v (q_hs p c n) = a (q_hs p c n) from q_upN_out (by unfold q_hs; omega)]
    exact ho.2.2.2.2.2.2.1 p c n hp hc hn
  · rw [out 2 (by omega)] at ht
    rw [out 1 (by omega), out2 _ (by omega), out2 _ (by omega), out2 _ (by omega)]
    exact ho.2.2.2.2.2.2.2 t ht
theorem q_prg.node {I I1 : Nat → Nat → Int32} (ho : q_ok a) (hm : m < a 0) (hi : i < a (7 + m)) (h : q_prg I 25 1 a)
    (e : ∀ o k, 25 ≤ o → o ≤ 32 → ¬ ((o = 27 ∨ o = 28 ∨ o = 29) ∧ k = 8 * m + i) → ¬ (o = 30 ∧ 16 * m + 2 * i ≤ k ∧ k < 16 * m + 2 * i + 2) → I1 o k = I o k)
    (e0 : I1 27 (8 * m + i) = nI (v 0)) (e1 : I1 28 (8 * m + i) = nI (v 1)) (e2 : I1 29 (8 * m + i) = nI (v 2)) (e3 : ∀ k, k < 2 → I1 30 (16 * m + 2 * i + k) = if k < v 2 then nI (v (3 + k)) else -4) : q_prg I1 25 1 (q_upN a (q_at 1 m i) v) := by
  have o0 := ho.1
  have o1 := ho.2.1
  have o7 := ho.2.2.2.1
  have o7m := o7 m hm
  obtain ⟨h1, h2, h3, h4, h5, h6⟩ := h
  have hb := q_atb (p := 1) (by decide) (show m < 6 by omega) (show i < 8 by omega)
  have out : ∀ j, j < 269 → q_upN a (q_at 1 m i) v j = a j := fun j hj => q_upN_out (by omega)
  refine ⟨?_, ?_, fun m' hm' => ?_, fun m' i' hm' hi' => ?_, fun c hc => ?_, fun c n hc hn => ?_⟩
  · rw [out 0 (by omega), e 25 0 (by omega) (by omega) (by omega) (by omega)]
    exact h1
  · rw [out 1 (by omega), e 25 1 (by omega) (by omega) (by omega) (by omega)]
    exact h2
  · rw [out 0 (by omega)] at hm'
    rw [out (7 + m') (by omega), e (25 + 1) m' (by omega) (by omega) (by omega) (by omega)]
    exact h3 m' hm'
  · rw [out 0 (by omega)] at hm'
    rw [out (7 + m') (by omega)] at hi'
    have o7' := o7 m' hm'
    by_cases hs : m' = m ∧ i' = i
    · obtain ⟨rfl, rfl⟩ := hs
      have q0 : q_upN a (q_at 1 m' i') v (q_at 1 m' i') = v 0 := q_upN_in (c := 0) (by omega)
      rw [q0, q_upN_in (c := 1) (by omega), q_upN_in (c := 2) (by omega)]
      refine ⟨e0, e1, e2, fun k hk => ?_⟩
      rw [show q_at 1 m' i' + 3 + k = q_at 1 m' i' + (3 + k) by omega, q_upN_in (c := 3 + k) (by omega)]
      exact e3 k hk
    · have hd : ∀ c, c < 5 → ¬ (q_at 1 m i ≤ q_at 1 m' i' + c ∧ q_at 1 m' i' + c < q_at 1 m i + 5) := fun c hc => by
        unfold q_at
        omega
      obtain ⟨g1, g2, g3, g4⟩ := h4 m' i' hm' hi'
      rw [show q_upN a (q_at 1 m i) v (q_at 1 m' i') = a (q_at 1 m' i') from q_upN_out (hd 0 (by omega)), q_upN_out (hd 1 (by omega)), q_upN_out (hd 2 (by omega))]
      rw [e (25 + 2) _ (by omega) (by omega) (by omega) (by omega), e (25 + 3) _ (by omega) (by omega) (by omega) (by omega), e (25 + 4) _ (by omega) (by omega) (by omega) (by omega)]
      refine ⟨g1, g2, g3, fun k hk => ?_⟩
      rw [show q_at 1 m' i' + 3 + k = q_at 1 m' i' + (3 + k) by omega, q_upN_out (hd (3 + k) (by omega)), ← show q_at 1 m' i' + 3 + k = q_at 1 m' i' + (3 + k) by omega, e (25 + 5) _ (by omega) (by omega) (by omega) (by omega)]
      exact g4 k hk
  · rw [out 1 (by omega)] at hc
    rw [out (3 + c) (by omega), e (25 + 6) c (by omega) (by omega) (by omega) (by omega)]
    exact h5 c hc
  · rw [out 1 (by omega)] at hc
    rw [e (25 + 7) _ (by omega) (by omega) (by omega) (by omega), show q_upN a (q_at 1 m i) v (q_hs 1 c n) = a (q_hs 1 c n) from q_upN_out (by unfold q_hs; omega)]
    exact h6 c n hc hn
/-- the state and the new program's node written alike -/
theorem q_now.node {I I1 : Nat → Nat → Int32} (h : q_now I a) (hm : m < a 0) (hi : i < a (7 + m)) (hv : q_nok v (a (7 + m)))
    (e : ∀ o k, (17 ≤ o ∧ o ≤ 36) → ¬ ((o = 27 ∨ o = 28 ∨ o = 29) ∧ k = 8 * m + i) → ¬ (o = 30 ∧ 16 * m + 2 * i ≤ k ∧ k < 16 * m + 2 * i + 2) → I1 o k = I o k)
    (f : ∀ k, ¬ (q_at 1 m i ≤ k ∧ k < q_at 1 m i + 5) → I1 123 k = I 123 k) (f1 : ∀ c, c < 5 → I1 123 (q_at 1 m i + c) = q_v (v c))
    (e0 : I1 27 (8 * m + i) = nI (v 0)) (e1 : I1 28 (8 * m + i) = nI (v 1)) (e2 : I1 29 (8 * m + i) = nI (v 2)) (e3 : ∀ k, k < 2 → I1 30 (16 * m + 2 * i + k) = if k < v 2 then nI (v (3 + k)) else -4) : q_now I1 (q_upN a (q_at 1 m i) v) := by
  obtain ⟨ho, hst, hp0, hp1, ht⟩ := h
  have o0 := ho.1
  have o7m := ho.2.2.2.1 m hm
  have hb := q_atb (p := 1) (by decide) (show m < 6 by omega) (show i < 8 by omega)
  have out : ∀ j, (j < 269 ∨ 509 ≤ j) → q_upN a (q_at 1 m i) v j = a j := fun j hj => q_upN_out (by omega)
  refine ⟨ho.node hm hi hv, fun j hj => ?_, ?_, hp1.node ho hm hi (fun o k g1 g2 => e o k (by omega)) e0 e1 e2 e3, ?_⟩
  · by_cases hj : q_at 1 m i ≤ j ∧ j < q_at 1 m i + 5
    · have hc := f1 (j - q_at 1 m i) (by omega)
      have hc2 : q_upN a (q_at 1 m i) v (q_at 1 m i + (j - q_at 1 m i)) = v (j - q_at 1 m i) := q_upN_in (by omega)
      rw [show q_at 1 m i + (j - q_at 1 m i) = j by omega] at hc hc2
      rw [hc, hc2]
    · rw [f j hj, q_upN_out hj]
      exact hst j (by omega)
  · exact (hp0.cgA ho (by decide) (fun j hj => out j (by omega))).congr (fun o k g1 g2 => e o k (by omega) (by omega) (by omega))
  · exact (ht.cgA (out 2 (by omega)) (fun j hj => out j (by omega))).congr (fun o k g1 g2 => e o k (by omega) (by omega) (by omega))
end QND
theorem q_isNT {a : Nat → Nat} {x y : Int32} (ho : q_ok a) (h : q_isN a x y = true) : ∃ m i, m < a 0 ∧ i < a (7 + m) ∧ m < 6 ∧ i < 8 ∧ x = nI m ∧ y = nI i := by
  have o0 := ho.1
  unfold q_isN at h
  rw [Bool.and_eq_true] at h
  obtain ⟨h1, h2⟩ := h
  obtain ⟨m, hm, rfl⟩ := q_inT (by omega) h1
  have o7 := ho.2.2.2.1 m hm
  rw [nI_clamp (by omega)] at h2
  obtain ⟨i, hi, rfl⟩ := q_inT (by omega) h2
  exact ⟨m, i, hm, hi, by omega, by omega, rfl, rfl⟩
