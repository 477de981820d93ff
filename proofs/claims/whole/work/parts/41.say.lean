/-! THE PURE PART: say, lead -/
theorem q_cNode (x y : Int32) (h : z_H) : z_M 38 [.int x, .int y] h = some (q_b (z_in x 2 && z_in y (if x = 0 then 10 else 4)), h) := by
  rw [e_X_isNode]
  by_cases hx : x = 0
  · subst hx
    have e14 : zl_X_isNode_14 0 y h = some (0, h) := by rw [e_X_isNode_14, if_pos (by decide)]
    rw [if_neg (fun q => q rfl), if_pos rfl, show z_in (0 : Int32) 2 = true by decide, Bool.true_and]
    rcases q_cases y with hy | ⟨c, hc, rfl⟩
    · rw [if_pos hy, e14, q_in_neg hy]
      rfl
    · rw [if_neg (nI_pos hc), q_in hc, n_9]
      by_cases h9 : c ≤ 9
      · rw [if_pos (nI_le h9 (by decide)), decide_eq_true (by omega)]
        rfl
      · rw [if_neg (nI_ge (by omega) hc), e14, decide_eq_false (by omega)]
        rfl
  · rw [if_pos hx, if_neg hx, e_X_isNode_14]
    by_cases h1 : x = 1
    · subst h1
      rw [if_neg (fun q => q rfl), q_cName, z_bd_some, show z_in (1 : Int32) 2 = true by decide, Bool.true_and]
      cases z_in y 4 <;> rfl
    · rw [if_pos h1]
      have hz : z_in x 2 = false := by
        cases hz : z_in x 2 with
        | false => rfl
        | true =>
          exfalso
          obtain ⟨k, hk, rfl⟩ := q_inT (by decide) hz
          rcases (show k = 0 ∨ k = 1 by omega) with rfl | rfl
          · exact hx rfl
          · exact h1 rfl
      rw [hz]
      rfl
theorem q_op13 : z_opok q_inv 13 198 4 := by
  intro h hi as has
  obtain ⟨x, y, z, w, rfl⟩ := q_as4 has
  obtain ⟨⟨a, ha⟩, -⟩ := id hi
  have ha := q_raw ha
  obtain ⟨ho, hst, hp0, hp1, ht⟩ := id ha
  have hsr := ha.sr
  show ∃ r h1 h2, z_M 13 [.ref 0, .int x, .int y, .int z, .int w] h = some (r, h1) ∧ z_M 198 [.ref 122, .int x, .int y, .int z, .int w] h1 = some (r, h2) ∧ q_inv h2
  rw [e_X_say, q_hasNode (by decide) (hp1.sz ho), z_bd_some]
  cases hx : q_isN a x y with
  | false => exact ⟨-1, h, h, by rw [if_pos (by decide)], by rw [e_M_say, q_isNode hsr, hx, z_bd_some, if_pos (by decide)], hi⟩
  | true =>
    rw [if_neg (by decide), q_cNode, z_bd_some]
    cases hz : z_in z 2 with
    | false => exact ⟨-1, h, h, by rw [Bool.false_and, if_neg (fun q => q (by decide))], by rw [e_M_say, q_isNode hsr, hx, z_bd_some, if_neg (by decide), q_isPart, z_bd_some, hz, if_pos (by decide)], hi⟩
    | true =>
      rw [Bool.true_and]
      have em : ∀ h1, q_sr h1.1 a → z_M 198 [.ref 122, .int x, .int y, .int z, .int w] h1 = (if ¬ q_b (z_in w (if z = 0 then 10 else 4)) = 0 then z_bd (z_M 129 [.int 1, .int x, .int y] h1) (fun r3 h4 => (bif z_in (r3 + 0) 549 then (bif z_in (r3 + 1) 549 then (bif z_in (r3 + 0) 549 then (bif z_in (r3 + 1) 549 then some ((10 * (h4.1 123 ((r3 + 0).toNatClampNeg))) + (h4.1 123 ((r3 + 1).toNatClampNeg)), (z_wI (z_wI h4 123 ((r3 + 0).toNatClampNeg) z) 123 ((r3 + 1).toNatClampNeg) w)) else none) else none) else none) else none)) else some ((-1), h1)) := fun h1 hs1 => by
        rw [e_M_say, q_isNode hs1, hx, z_bd_some, if_neg (by decide), q_isPart, z_bd_some, hz, if_neg (by decide)]
        by_cases h0 : z = 0
        · rw [if_neg (fun q => q h0), e_M_say_33, q_wl9, z_bd_some, if_pos h0]
        · rw [if_pos h0, e_M_say_33, q_wl3, z_bd_some, if_neg h0]
      obtain ⟨m, i, hm, hi', hm6, hi8, rfl, rfl⟩ := q_isNT ho hx
      obtain ⟨kd, hkd, rfl⟩ := q_inT (by decide) hz
      have hL : (if nI kd = 0 then 10 else 4) = if kd = 0 then 10 else 4 := by
        rcases (show kd = 0 ∨ kd = 1 by omega) with rfl | rfl <;> rfl
      rw [hL] at em ⊢
      cases hw : z_in w (if kd = 0 then 10 else 4) with
      | false => exact ⟨-1, h, h, by rw [if_neg (fun q => q (by decide))], by rw [em h hsr, hw, if_neg (fun q => q (by decide))], hi⟩
      | true =>
        obtain ⟨n, hn, rfl⟩ := q_inT (by split <;> decide) hw
        have hn9 : n ≤ 9 ∧ (kd = 1 → n < 4) := by
          rcases (show kd = 0 ∨ kd = 1 by omega) with rfl | rfl
          · rw [if_pos rfl] at hn
            omega
          · rw [if_neg (by decide)] at hn
            omega
        obtain ⟨g1, g2, g3, g4⟩ := hp1.2.2.2.1 m i hm hi'
        have hb := q_atb (p := 1) (by decide) hm6 hi8
        rw [if_pos (by decide), q_place, z_bd_some, q_inC (show 8 * m + i < 48 by omega) (by decide), q_inC (show 8 * m + i < 48 by omega) (by decide), q_inC (show 8 * m + i < 48 by omega) (by decide), q_inC (show 8 * m + i < 48 by omega) (by decide), nI_clamp (by omega)]
        have hx1 : ∀ o k, o ≠ 27 → o ≠ 28 → (z_wI (z_wI h 27 (8 * m + i) (nI kd)) 28 (8 * m + i) (nI n)).1 o k = h.1 o k := fun o k q1 q2 => by
          rw [z_wI1, if_neg (by omega), z_wI1, if_neg (by omega)]
        have hs1 : q_sr (z_wI (z_wI h 27 (8 * m + i) (nI kd)) 28 (8 * m + i) (nI n)).1 a := by
          unfold q_sr
          simp only [hx1 123 _ (by decide) (by decide)]
          exact hsr
        refine ⟨_, _, z_wI (z_wI (z_wI (z_wI h 27 (8 * m + i) (nI kd)) 28 (8 * m + i) (nI n)) 123 (q_at 1 m i) (nI kd)) 123 (q_at 1 m i + 1) (nI n), rfl, ?_, ?_⟩
        · rw [em _ hs1, hw, if_pos (by decide), q_nodeAt1, z_bd_some, n_0, n_1, nI_add, nI_add, Nat.add_zero, q_inC (show q_at 1 m i < 549 by omega) (by decide), q_inC (show q_at 1 m i + 1 < 549 by omega) (by decide), q_inC (show q_at 1 m i < 549 by omega) (by decide), q_inC (show q_at 1 m i + 1 < 549 by omega) (by decide), nI_clamp (by omega), nI_clamp (by omega), hx1 123 _ (by decide) (by decide), hx1 123 _ (by decide) (by decide), hst _ (by omega), hst _ (by omega)]
          have b := ho.2.2.2.2.1 1 m i (by decide) hm hi'
          rw [q_vn (show a (q_at 1 m i) ≠ 999 by omega), q_vn (show a (q_at 1 m i + 1) ≠ 999 by omega), ← g1, ← g2]
        · refine hi.now (fun o k q1 q2 => ?_) ⟨q_upN a (q_at 1 m i) (fun c => if c = 0 then kd else if c = 1 then n else a (q_at 1 m i + c)), ha.node hm hi' ?_ ?_ ?_ ?_ ?_ ?_ ?_ ?_⟩
          · rw [z_wI1, if_neg (by omega), z_wI1, if_neg (by omega), z_wI1, if_neg (by omega), z_wI1, if_neg (by omega)]
          · have b := ho.2.2.2.2.1 1 m i (by decide) hm hi'
            refine ⟨by simpa using hkd, by simpa using hn9.1, by simpa using hn9.2, by simpa using b.2.2.2.1, fun k hk => ?_⟩
            have := b.2.2.2.2 k (by simpa using hk)
            simp only [show ¬ 3 + k = 0 by omega, show ¬ 3 + k = 1 by omega, if_false]
            rw [← Nat.add_assoc]
            exact this
          · intro o k q1 q2 q3
            rw [z_wI1, if_neg (by omega), z_wI1, if_neg (by omega), z_wI1, if_neg (by omega), z_wI1, if_neg (by omega)]
          · intro k q1
            rw [z_wI1, if_neg (by omega), z_wI1, if_neg (by omega), z_wI1, if_neg (by omega), z_wI1, if_neg (by omega)]
          · intro c hc
            by_cases c1 : c = 1
            · subst c1
              rw [z_wI1, if_pos ⟨rfl, rfl⟩, if_neg (by decide), if_pos rfl, q_vn (by omega)]
            · rw [z_wI1, if_neg (by omega), z_wI1]
              by_cases c0 : c = 0
              · subst c0
                rw [if_pos ⟨rfl, rfl⟩, if_pos rfl, q_vn (by omega)]
              · rw [if_neg (by omega), z_wI1, if_neg (by omega), z_wI1, if_neg (by omega), if_neg c0, if_neg c1]
                exact hst _ (by omega)
          · rw [z_wI1, if_neg (by omega), z_wI1, if_neg (by omega), z_wI1, if_neg (by omega), z_wI1, if_pos ⟨rfl, rfl⟩]
            rfl
          · rw [z_wI1, if_neg (by omega), z_wI1, if_neg (by omega), z_wI1, if_pos ⟨rfl, rfl⟩]
            rfl
          · rw [z_wI1, if_neg (by omega), z_wI1, if_neg (by omega), z_wI1, if_neg (by omega), z_wI1, if_neg (by omega)]
            exact g3
          · intro k hk
            rw [z_wI1, if_neg (by omega), z_wI1, if_neg (by omega), z_wI1, if_neg (by omega), z_wI1, if_neg (by omega)]
            simp only [show ¬ 3 + k = 0 by omega, show ¬ 3 + k = 1 by omega, if_false]
            rw [← Nat.add_assoc]
            exact g4 k hk
