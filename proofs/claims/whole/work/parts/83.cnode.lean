/-! THE PURE PART: a node told to the class's draft -/
section QCN
variable {a : Nat → Nat} {hc hm : Nat}
theorem q_cB {h : z_H} {y v : Nat} (hd : q_dk a hc hm) (hg : q_cDr h.1 a) (h0 : 0 < a 0) (h8 : q_lN a < 8) : ∃ h', z_M 86 [.ref 4, .int (nI y), .int (nI v)] h = some (0, h') ∧ q_cDr h'.1 (q_rB a y v) ∧ ∀ o k, ¬ (4 ≤ o ∧ o ≤ 15) → h'.1 o k = h.1 o k := by
  obtain ⟨g1, g2, g3, g4, g5⟩ := hg
  obtain ⟨d1, d2, d3, d4, d5, d6⟩ := hd
  obtain ⟨m, em⟩ : ∃ m, m = a 0 - 1 := ⟨_, rfl⟩
  obtain ⟨i, ei⟩ : ∃ i, i = q_lN a := ⟨_, rfl⟩
  have h06 := d1.1
  have eim : a (7 + m) = i := by rw [ei, em]; rfl
  have hm6 : m < 6 := by omega
  have hb := q_atb (p := 0) (by decide) hm6 (show i < 8 by omega)
  have E : q_rB a y v = q_s1 (q_s1 (q_s1 a (7 + m) (i + 1)) (q_at 0 m i) y) (q_at 0 m i + 1) v := by unfold q_rB; rw [← em, ← ei]
  have o : ∀ j, j ≠ 7 + m → j ≠ q_at 0 m i → j ≠ q_at 0 m i + 1 → q_rB a y v j = a j := fun j h1 h2 h3 => by rw [E, q_s1_o h3, q_s1_o h2, q_s1_o h1]
  have i7 : q_rB a y v (7 + m) = i + 1 := by rw [E, q_s1_o (by omega), q_s1_o (by omega), q_s1_i]
  have iJ : q_rB a y v (q_at 0 m i) = y := by rw [E, q_s1_o (by omega), q_s1_i]
  have iJ1 : q_rB a y v (q_at 0 m i + 1) = v := by rw [E, q_s1_i]
  have iJ2 : q_rB a y v (q_at 0 m i + 2) = 0 := by
    rw [o _ (by omega) (by omega) (by omega)]
    exact (d2 m i hm6 (by omega)).1 (by omega)
  have e5 : h.1 5 m = nI i := by rw [g1.2.2 m (by omega), eim]
  have w5 : (z_wI (z_wI (z_wI h 6 (8 * m + i) (nI y)) 7 (8 * m + i) (nI v)) 8 (8 * m + i) 0).1 5 m = nI i := by
    rw [z_wI1, if_neg (by omega), z_wI1, if_neg (by omega), z_wI1, if_neg (by omega)]; exact e5
  obtain ⟨h', eh⟩ : ∃ h', h' = z_wI (z_wI (z_wI (z_wI h 6 (8 * m + i) (nI y)) 7 (8 * m + i) (nI v)) 8 (8 * m + i) 0) 5 m (nI (i + 1)) := ⟨_, rfl⟩
  have r : ∀ o k, ¬ ((o = 6 ∨ o = 7 ∨ o = 8) ∧ k = 8 * m + i) → ¬ (o = 5 ∧ k = m) → h'.1 o k = h.1 o k := fun o k q q' => by
    rw [eh, z_wI1, if_neg q', z_wI1, if_neg (by omega), z_wI1, if_neg (by omega), z_wI1, if_neg (by omega)]
  have r5 : h'.1 5 m = nI (i + 1) := by rw [eh, z_wI1, if_pos ⟨rfl, rfl⟩]
  have r6 : h'.1 6 (8 * m + i) = nI y := by rw [eh, z_wI1, if_neg (by omega), z_wI1, if_neg (by omega), z_wI1, if_neg (by omega), z_wI1, if_pos ⟨rfl, rfl⟩]
  have r7 : h'.1 7 (8 * m + i) = nI v := by rw [eh, z_wI1, if_neg (by omega), z_wI1, if_neg (by omega), z_wI1, if_pos ⟨rfl, rfl⟩]
  have r8 : h'.1 8 (8 * m + i) = nI 0 := by rw [eh, z_wI1, if_neg (by omega), z_wI1, if_pos ⟨rfl, rfl⟩]; rfl
  refine ⟨h', ?_, ⟨⟨?_, ?_, fun m' hm' => ?_⟩, fun m' i' hm' hi' => ?_, g3.cg d1.2.1 (fun k => r _ _ (by omega) (by omega)) (fun j _ _ _ => o j (by omega) (by omega) (by omega)), g4.cg (fun k => r _ _ (by omega) (by omega)) (fun j _ _ => o j (by omega) (by omega) (by omega)), (g5.congr (fun o k _ _ => r o k (by omega) (by omega))).cgA (o 2 (by omega) (by omega) (by omega)) (fun j _ => o j (by omega) (by omega) (by omega))⟩, fun o k q => r o k (by omega) (by omega)⟩
  · have s0 : nI (a 0) - 1 = nI m := by rw [n_1, q_sub h0, em]
    rw [e_P_appendNode (by decide), g1.1, s0, if_neg (nI_pos (show m < 2 ^ 31 by omega)), q_inC hm6 (by decide), nI_clamp (show m < 2 ^ 31 by omega)]
    show (if (8 : Int32) ≤ h.1 5 m then some ((0 : Int32), h) else (bif z_in (nI m) 6 then z_bd (z_M 42 [.int (nI m), .int (h.1 5 m)] h) (fun r1 h2 => (bif z_in r1 48 then (bif z_in r1 48 then (bif z_in r1 48 then (bif z_in (nI m) 6 then (bif z_in (nI m) 6 then some (0, (z_wI (z_wI (z_wI (z_wI h2 6 (r1.toNatClampNeg) (nI y)) 7 (r1.toNatClampNeg) (nI v)) 8 (r1.toNatClampNeg) 0) 5 m (((z_wI (z_wI (z_wI h2 6 (r1.toNatClampNeg) (nI y)) 7 (r1.toNatClampNeg) (nI v)) 8 (r1.toNatClampNeg) 0).1 5 m) + 1))) else none) else none) else none) else none) else none)) else none)) = _
    rw [e5, if_neg (show ¬ (8 : Int32) ≤ nI i from nI_ge (b := 8) (by omega) (by decide)), q_inC hm6 (by decide), q_place, z_bd_some, q_inC (show 8 * m + i < 48 by omega) (by decide), q_inC (show 8 * m + i < 48 by omega) (by decide), q_inC (show 8 * m + i < 48 by omega) (by decide), q_inC hm6 (by decide), q_inC hm6 (by decide), nI_clamp (show 8 * m + i < 2 ^ 31 by omega), w5, nI_1, ← eh]
  · rw [r _ _ (by omega) (by omega), o 0 (by omega) (by omega) (by omega)]; exact g1.1
  · rw [r _ _ (by omega) (by omega), o 1 (by omega) (by omega) (by omega)]; exact g1.2.1
  · rw [o 0 (by omega) (by omega) (by omega)] at hm'
    by_cases q : m' = m
    · rw [q, r5, i7]
    · rw [r _ _ (by omega) (by omega), o (7 + m') (by omega) (by omega) (by omega)]
      exact g1.2.2 m' hm'
  · obtain ⟨k1, k2⟩ := g2 m' i' hm' hi'
    have hb' := q_atb (p := 0) (by decide) hm' hi'
    have i2 := (d2 m i hm6 (by omega)).1 (by omega)
    by_cases q : m' = m ∧ i' = i
    · obtain ⟨rfl, rfl⟩ := q
      rw [iJ, iJ1, iJ2, r6, r7, r8]
      refine ⟨fun _ => ⟨rfl, rfl, rfl⟩, fun k hk => ?_⟩
      have := k2 k hk
      rw [i2] at this
      rw [r _ _ (by omega) (by omega), this, if_neg (by omega), if_neg (by omega)]
    · have ne : ∀ c, c < 5 → q_rB a y v (q_at 0 m' i' + c) = a (q_at 0 m' i' + c) := fun c hc => o _ (by omega) (fun z => by
        have := q_atI (c' := 0) hi' (show i < 8 by omega) hc (by omega) z
        omega) (fun z => by
        have := q_atI (c' := 1) hi' (show i < 8 by omega) hc (by omega) z
        omega)
      have ne0 : q_rB a y v (q_at 0 m' i') = a (q_at 0 m' i') := ne 0 (by omega)
      rw [ne0, ne 1 (by omega), ne 2 (by omega)]
      refine ⟨fun z => ?_, fun k hk => ?_⟩
      · have : i' < a (7 + m') := by
          by_cases qm : m' = m
          · rw [qm] at z q ⊢
            rw [i7] at z
            omega
          · rw [o (7 + m') (by omega) (by omega) (by omega)] at z
            exact z
        rw [r 6 _ (by omega) (by omega), r 7 _ (by omega) (by omega), r 8 _ (by omega) (by omega)]
        exact k1 this
      · rw [show q_at 0 m' i' + 3 + k = q_at 0 m' i' + (3 + k) by omega, ne (3 + k) (by omega), r _ _ (by omega) (by omega), ← show q_at 0 m' i' + 3 + k = q_at 0 m' i' + (3 + k) by omega]
        exact k2 k hk
theorem q_cN {h : z_H} {v : Nat} (hd : q_dk a hc hm) (hg : q_cDr h.1 a) (h0 : 0 < a 0) (hl : 0 < q_lN a) (h2 : a (q_lJ a + 2) < 2) : ∃ h', z_M 87 [.ref 4, .int (nI v)] h = some (0, h') ∧ q_cDr h'.1 (q_rN a v) ∧ ∀ o k, ¬ (4 ≤ o ∧ o ≤ 15) → h'.1 o k = h.1 o k := by
  obtain ⟨g1, g2, g3, g4, g5⟩ := hg
  obtain ⟨d1, d2, d3, d4, d5, d6⟩ := hd
  obtain ⟨m, em⟩ : ∃ m, m = a 0 - 1 := ⟨_, rfl⟩
  obtain ⟨i, ei⟩ : ∃ i, i = q_lN a - 1 := ⟨_, rfl⟩
  obtain ⟨J, eJ⟩ : ∃ J, J = q_lJ a := ⟨_, rfl⟩
  obtain ⟨c, ec⟩ : ∃ c, c = a (J + 2) := ⟨_, rfl⟩
  have h06 := d1.1
  have hm6 : m < 6 := by omega
  have eim : a (7 + m) = i + 1 := by
    have : q_lN a = a (7 + m) := by rw [em]; rfl
    omega
  have h8 := (d1.2.2.2 m hm6).1
  have eJa : J = q_at 0 m i := by rw [eJ, em, ei]; rfl
  have hb := q_atb (p := 0) (by decide) hm6 (show i < 8 by omega)
  rw [← eJ] at h2
  rw [← ec] at h2
  have E : q_rN a v = q_s1 (q_s1 a (J + 3 + c) v) (J + 2) (c + 1) := by unfold q_rN; rw [← eJ, ← ec]
  have o : ∀ j, j ≠ J + 3 + c → j ≠ J + 2 → q_rN a v j = a j := fun j h1 h2 => by rw [E, q_s1_o h2, q_s1_o h1]
  have iJ2 : q_rN a v (J + 2) = c + 1 := by rw [E, q_s1_i]
  have iJ3 : q_rN a v (J + 3 + c) = v := by rw [E, q_s1_o (by omega), q_s1_i]
  have e7 : ∀ j, j < 13 → q_rN a v j = a j := fun j hj => o j (by omega) (by omega)
  have e5 : h.1 5 m = nI (i + 1) := by rw [g1.2.2 m (by omega), eim]
  have e8 : h.1 8 (8 * m + i) = nI c := by
    have := ((g2 m i hm6 (by omega)).1 (by omega)).2.2
    rw [this, ec, eJa]
  have w8 : (z_wI h 9 (16 * m + 2 * i + c) (nI v)).1 8 (8 * m + i) = nI c := by
    rw [z_wI1, if_neg (by omega)]; exact e8
  obtain ⟨h', eh⟩ : ∃ h', h' = z_wI (z_wI h 9 (16 * m + 2 * i + c) (nI v)) 8 (8 * m + i) (nI (c + 1)) := ⟨_, rfl⟩
  have r : ∀ o k, ¬ (o = 9 ∧ k = 16 * m + 2 * i + c) → ¬ (o = 8 ∧ k = 8 * m + i) → h'.1 o k = h.1 o k := fun o k q q' => by
    rw [eh, z_wI1, if_neg q', z_wI1, if_neg q]
  have r9 : h'.1 9 (16 * m + 2 * i + c) = nI v := by rw [eh, z_wI1, if_neg (by omega), z_wI1, if_pos ⟨rfl, rfl⟩]
  have r8 : h'.1 8 (8 * m + i) = nI (c + 1) := by rw [eh, z_wI1, if_pos ⟨rfl, rfl⟩]
  refine ⟨h', ?_, ⟨g1.cg d1 (fun k => ⟨r _ _ (by omega) (by omega), r _ _ (by omega) (by omega)⟩) e7, fun m' i' hm' hi' => ?_, g3.cg d1.2.1 (fun k => r _ _ (by omega) (by omega)) (fun j _ _ _ => o j (by omega) (by omega)), g4.cg (fun k => r _ _ (by omega) (by omega)) (fun j _ _ => o j (by omega) (by omega)), (g5.congr (fun o k _ _ => r o k (by omega) (by omega))).cgA (o 2 (by omega) (by omega)) (fun j _ => o j (by omega) (by omega))⟩, fun o k q => r o k (by omega) (by omega)⟩
  · have s0 : nI (a 0) - 1 = nI m := by rw [n_1, q_sub h0, em]
    have s1 : nI (i + 1) - 1 = nI i := by rw [n_1, q_sub (by omega), show i + 1 - 1 = i by omega]
    rw [e_P_appendNext (by decide), g1.1, s0, if_neg (nI_pos (show m < 2 ^ 31 by omega)), q_inC hm6 (by decide), nI_clamp (show m < 2 ^ 31 by omega)]
    show (if h.1 5 m ≤ 0 then some ((0 : Int32), h) else (bif z_in (nI m) 6 then z_bd (z_M 42 [.int (nI m), .int ((h.1 5 m) - 1)] h) (fun r1 h2 => (bif z_in r1 48 then (if (2 : Int32) ≤ h2.1 8 (r1.toNatClampNeg) then some (0, h2) else (bif z_in r1 48 then z_bd (z_M 43 [.int (nI m), .int ((h.1 5 m) - 1), .int (h2.1 8 (r1.toNatClampNeg))] h2) (fun r3 h4 => (bif z_in r3 96 then (bif z_in r1 48 then (bif z_in r1 48 then some (0, (z_wI (z_wI h4 9 (r3.toNatClampNeg) (nI v)) 8 (r1.toNatClampNeg) (((z_wI h4 9 (r3.toNatClampNeg) (nI v)).1 8 (r1.toNatClampNeg)) + 1))) else none) else none) else none)) else none)) else none)) else none)) = _
    rw [e5, if_neg (show ¬ nI (i + 1) ≤ 0 from nI_ge (a := 0) (by omega) (by omega)), q_inC hm6 (by decide), s1, q_place, z_bd_some, q_inC (show 8 * m + i < 48 by omega) (by decide), nI_clamp (show 8 * m + i < 2 ^ 31 by omega), e8, if_neg (show ¬ (2 : Int32) ≤ nI c from nI_ge (b := 2) h2 (by decide)), q_inC (show 8 * m + i < 48 by omega) (by decide), q_edgeN, z_bd_some, q_inC (show 16 * m + 2 * i + c < 96 by omega) (by decide), q_inC (show 8 * m + i < 48 by omega) (by decide), q_inC (show 8 * m + i < 48 by omega) (by decide), nI_clamp (show 16 * m + 2 * i + c < 2 ^ 31 by omega), w8, nI_1, ← eh]
  · obtain ⟨k1, k2⟩ := g2 m' i' hm' hi'
    have hb' := q_atb (p := 0) (by decide) hm' hi'
    rw [e7 (7 + m') (by omega)]
    by_cases q : m' = m ∧ i' = i
    · obtain ⟨rfl, rfl⟩ := q
      rw [← eJa] at k1 k2 hb' ⊢
      rw [iJ2, o J (by omega) (by omega), o (J + 1) (by omega) (by omega), r 6 _ (by omega) (by omega), r 7 _ (by omega) (by omega), r8]
      refine ⟨fun z => ⟨(k1 z).1, (k1 z).2.1, rfl⟩, fun k hk => ?_⟩
      by_cases qk : k = c
      · rw [qk, r9, if_pos (by omega), iJ3]
      · have := k2 k hk
        rw [← ec] at this
        rw [r _ _ (by omega) (by omega), this, o _ (by omega) (by omega)]
        by_cases ql : k < c
        · rw [if_pos ql, if_pos (by omega)]
        · rw [if_neg ql, if_neg (by omega)]
    · have ne : ∀ x, x < 5 → q_rN a v (q_at 0 m' i' + x) = a (q_at 0 m' i' + x) := fun x hx => o _ (fun z => by
        rw [eJa] at z
        have := q_atI (m := m') (i := i') (m' := m) (i' := i) (c := x) (c' := 3 + c) hi' (show i < 8 by omega) hx (by omega) (by omega)
        omega) (fun z => by
        rw [eJa] at z
        have := q_atI (m := m') (i := i') (m' := m) (i' := i) (c := x) (c' := 2) hi' (show i < 8 by omega) hx (by omega) z
        omega)
      have ne0 : q_rN a v (q_at 0 m' i') = a (q_at 0 m' i') := ne 0 (by omega)
      rw [ne0, ne 1 (by omega), ne 2 (by omega), r 6 _ (by omega) (by omega), r 7 _ (by omega) (by omega), r 8 _ (by omega) (by omega)]
      refine ⟨k1, fun k hk => ?_⟩
      rw [show q_at 0 m' i' + 3 + k = q_at 0 m' i' + (3 + k) by omega, ne (3 + k) (by omega), r _ _ (by omega) (by omega), ← show q_at 0 m' i' + 3 + k = q_at 0 m' i' + (3 + k) by omega]
      exact k2 k hk
end QCN
