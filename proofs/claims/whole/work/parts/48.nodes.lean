/-! THE PURE PART: node -/
def q_part (a : Nat → Nat) (p m i w : Nat) : Int32 := if w < 3 then nI (a (q_at p m i + w)) else if w - 3 < a (q_at p m i + 2) then nI (a (q_at p m i + w)) else -4
theorem q_cPart {o p : Nat} {a : Nat → Nat} {h : z_H} (hi : o ∈ [4, 17, 25, 73, 81, 94, 102]) (ho : q_ok a) (hg : q_prg h.1 o p a) {m i w : Nat} (hm : m < a 0) (hi' : i < a (7 + m)) (hw : w ≤ 4) : z_M 80 [.ref o, .int (nI m), .int (nI i), .int (nI w)] h = some (q_part a p m i w, h) := by
  have o0 := ho.1
  have o7 := ho.2.2.2.1 m hm
  obtain ⟨g1, g2, g3, g4⟩ := hg.2.2.2.1 m i hm hi'
  have e0 : ∀ k, k < 2 → z_M 75 [.ref o, .int (nI m), .int (nI i), .int (nI k)] h = some (if k < a (q_at p m i + 2) then nI (a (q_at p m i + 3 + k)) else -4, h) := fun k hk => by
    rw [e_P_nextOf hi, q_edgeN, z_bd_some, q_inC (show 16 * m + 2 * i + k < 96 by omega) (by decide), nI_clamp (by omega), g4 k hk]
  have l0 : (nI w = 0) = (w = 0) := propext (nI_eq (by omega) (by decide))
  have l1 : (nI w = 1) = (w = 1) := propext (nI_eq (by omega) (by decide))
  have l2 : (nI w = 2) = (w = 2) := propext (nI_eq (by omega) (by decide))
  have l3 : (nI w = 3) = (w = 3) := propext (nI_eq (by omega) (by decide))
  rw [e_P_partOf hi, q_place, z_bd_some, q_int (show 8 * m + i < 48 by omega) (by decide), nI_clamp (by omega)]
  simp only [cond_true, l0, l1, l2, l3]
  unfold q_part
  rcases (show w = 0 ∨ w = 1 ∨ w = 2 ∨ w = 3 ∨ w = 4 by omega) with rfl | rfl | rfl | rfl | rfl
  · rw [if_pos rfl, if_pos (by decide), g1]
    rfl
  · rw [if_neg (by decide), if_pos rfl, if_pos (by decide), g2]
  · rw [if_neg (by decide), if_neg (by decide), if_pos rfl, if_pos (by decide), g3]
  · rw [if_neg (by decide), if_neg (by decide), if_neg (by decide), if_pos rfl, if_neg (by decide)]
    have := e0 0 (by decide)
    rw [show z_M 75 [.ref o, .int (nI m), .int (nI i), .int 0] h = _ from this, z_bd_some]
  · rw [if_neg (by decide), if_neg (by decide), if_neg (by decide), if_neg (by decide), if_neg (by decide)]
    have := e0 1 (by decide)
    rw [show z_M 75 [.ref o, .int (nI m), .int (nI i), .int 1] h = _ from this, z_bd_some]
theorem q_op5 : z_opok q_inv 5 184 3 := by
  intro h hi as has
  obtain ⟨x, y, z, rfl⟩ := q_as3 has
  obtain ⟨⟨a, ha⟩, -⟩ := id hi
  have ha := q_raw ha
  obtain ⟨ho, hst, hp0, hp1, ht⟩ := id ha
  have hsr := ha.sr
  show ∃ r h1 h2, z_M 5 [.ref 0, .int x, .int y, .int z] h = some (r, h1) ∧ z_M 184 [.ref 122, .int x, .int y, .int z] h1 = some (r, h2) ∧ q_inv h2
  rw [e_X_node, q_hasNode (by decide) (hp0.sz ho), z_bd_some]
  cases hx : q_isN a x y with
  | false => exact ⟨-1, h, h, by rw [if_neg (fun q => q (by decide))], by rw [e_M_node, q_isNode hsr, hx, z_bd_some, if_pos (by decide)], hi⟩
  | true =>
    rw [if_pos (by decide)]
    have em : z_M 184 [.ref 122, .int x, .int y, .int z] h = (if q_b (z_in z 15) = 0 then some ((-1), h) else (if z - z / 10 * 10 ≤ 4 then (if (3 : Int32) ≤ z - z / 10 * 10 then z_bd (z_M 158 [.ref 122, .int (z / 10), .int x, .int y, .int 2] h) (fun r5 h6 => (if r5 ≤ (z - z / 10 * 10) - 3 then some ((-4), h6) else z_bd (z_M 158 [.ref 122, .int (z / 10), .int x, .int y, .int (z - z / 10 * 10)] h6) (fun r7 h8 => some (r7, h8)))) else z_bd (z_M 158 [.ref 122, .int (z / 10), .int x, .int y, .int (z - z / 10 * 10)] h) (fun r9 h10 => some (r9, h10))) else some ((-1), h))) := by
      rw [e_M_node, q_isNode hsr, hx, z_bd_some, if_neg (by decide), q_wl14, z_bd_some]
    obtain ⟨m, i, hm, hi', hm6, hi8, rfl, rfl⟩ := q_isNT ho hx
    rcases q_cases z with hz | ⟨c, hc, rfl⟩
    · have h10 : z < 10 := Int32.lt_iff_toInt_lt.mpr (by
        have := Int32.lt_iff_toInt_lt.mp hz
        have h0 : (0 : Int32).toInt = 0 := rfl
        have h1 : (10 : Int32).toInt = 10 := rfl
        omega)
      exact ⟨-1, h, h, by rw [if_pos hz, e_X_node_34, if_pos h10], by rw [em, q_in_neg hz, if_pos (by decide)], hi⟩
    · have d1 : nI c / 10 = nI (c / 10) := pk_div (d := 10) hc (by decide) (by decide)
      have d2 : nI c - nI c / 10 * 10 = nI (c % 10) := pk_rem (d := 10) hc (by decide) (by decide)
      rw [d2, d1] at em
      have es : ∀ p w, p < 2 → w ≤ 4 → c / 10 = p → c % 10 = w → z_M 184 [.ref 122, .int (nI m), .int (nI i), .int (nI c)] h = some (q_part a p m i w, h) := fun p w hp hw e1 e2 => by
        have b := ho.2.2.2.2.1 p m i hp hm hi'
        have hb := q_atb hp hm6 hi8
        have q2 : z_M 158 [.ref 122, .int (nI p), .int (nI m), .int (nI i), .int 2] h = some (nI (a (q_at p m i + 2)), h) := by
          have := q_ofN (k := 2) hp hm6 hi8 (by decide) h
          rw [hst _ (by omega), q_vn (by omega)] at this
          exact this
        rw [em, e1, e2, q_int (show c < 15 by omega) (by decide), if_neg (by decide), show (4 : Int32) = nI 4 from rfl, if_pos (nI_le hw (by decide)), q_ofN hp hm6 hi8 (by omega), hst _ (by omega), z_bd_some, q2, z_bd_some, q_ofN hp hm6 hi8 (by omega), hst _ (by omega), z_bd_some, n_3]
        unfold q_part
        by_cases h3 : w < 3
        · rw [if_neg (nI_ge h3 (by decide)), if_pos h3, q_vn (by
            rcases (show w = 0 ∨ w = 1 ∨ w = 2 by omega) with rfl | rfl | rfl
            · rw [Nat.add_zero]; omega
            · omega
            · omega)]
        · rw [if_pos (nI_le (by omega) (by omega)), if_neg h3, q_sub (by omega)]
          by_cases h4 : w - 3 < a (q_at p m i + 2)
          · have b5 := b.2.2.2.2 (w - 3) h4
            have o7 := ho.2.2.2.1 m hm
            rw [if_neg (nI_ge h4 (by omega)), if_pos h4]
            rw [show q_at p m i + 3 + (w - 3) = q_at p m i + w by omega] at b5
            rw [q_vn (by omega)]
          · rw [if_pos (nI_le (by omega) (by omega)), if_neg h4]
            rfl
      rw [if_neg (nI_pos hc)]
      by_cases c4 : c ≤ 4
      · refine ⟨q_part a 0 m i c, h, h, ?_, es 0 c (by decide) c4 (by omega) (by omega), hi⟩
        rw [show (4 : Int32) = nI 4 from rfl, if_neg (nI_nlt c4 (by decide)), q_cPart (by decide) ho hp0 hm hi' c4, z_bd_some]
      · rw [show (4 : Int32) = nI 4 from rfl, if_pos (nI_lt (by omega) hc), e_X_node_34, n_10, show (14 : Int32) = nI 14 from rfl]
        by_cases c10 : c < 10
        · refine ⟨-1, h, h, by rw [if_pos (nI_lt c10 (by decide))], ?_, hi⟩
          rw [em, q_int (show c < 15 by omega) (by decide), if_neg (by decide), show (4 : Int32) = nI 4 from rfl, if_neg (nI_ge (by omega) (by omega))]
        · rw [if_neg (nI_nlt (by omega) hc)]
          by_cases c14 : c ≤ 14
          · refine ⟨q_part a 1 m i (c - 10), h, h, ?_, es 1 (c - 10) (by decide) (by omega) (by omega) (by omega), hi⟩
            rw [if_neg (nI_nlt c14 (by decide)), q_sub (by omega), q_cPart (by decide) ho hp1 hm hi' (by omega), z_bd_some]
          · refine ⟨-1, h, h, by rw [if_pos (nI_lt (by omega) hc)], ?_, hi⟩
            rw [em, q_in hc, decide_eq_false (by omega), if_pos (by decide)]
