/-! THE PURE PART: nexts -/
def q_nxv (a : Nat → Nat) (J n : Nat) : Nat → Nat := fun c => if c < 2 then a (J + c) else if c = 2 then n else if c - 3 < n then (if c - 3 < a (J + 2) then a (J + c) else 9) else 0
theorem q_nxv0 {a : Nat → Nat} {J n : Nat} : q_nxv a J n 0 = a J := rfl
theorem q_nxv1 {a : Nat → Nat} {J n : Nat} : q_nxv a J n 1 = a (J + 1) := rfl
theorem q_nxv2 {a : Nat → Nat} {J n : Nat} : q_nxv a J n 2 = n := rfl
theorem q_nxv3 {a : Nat → Nat} {J n k : Nat} : q_nxv a J n (3 + k) = if k < n then (if k < a (J + 2) then a (J + 3 + k) else 9) else 0 := by
  unfold q_nxv
  rw [if_neg (by omega), if_neg (by omega), show 3 + k - 3 = k by omega, Nat.add_assoc]
theorem q_nx_nok {a : Nat → Nat} {m i n : Nat} (ho : q_ok a) (hm : m < a 0) (hi : i < a (7 + m)) (hn : n ≤ 2) : q_nok (q_nxv a (q_at 1 m i) n) (a (7 + m)) := by
  have b := ho.2.2.2.2.1 1 m i (by decide) hm hi
  refine ⟨b.1, b.2.1, b.2.2.1, hn, fun k hk => ?_⟩
  have hk : k < n := hk
  rw [q_nxv3, if_pos hk]
  by_cases h1 : k < a (q_at 1 m i + 2)
  · rw [if_pos h1]
    exact b.2.2.2.2 k h1
  · rw [if_neg h1]
    exact Or.inl rfl
theorem q_wid {m i n w k : Nat} {h : z_H} (hm : m < 6) (hi : i < 8) (hk : k < 2) (hn : n ≤ 2) (hw : w ≤ 2) (hh : h.1 (25 + 4) (8 * m + i) = nI w) : zl_P_widen_10 25 (nI m) (nI i) (nI n) (nI (8 * m + i)) (nI k) h = zl_P_widen_10 25 (nI m) (nI i) (nI n) (nI (8 * m + i)) (nI (k + 1)) (if k < n ∧ k < w then h else z_wI h 30 (16 * m + 2 * i + k) (if k < n then 9 else -4)) := by
  rw [e_P_widen_10 (by decide), n_2, if_neg (nI_ge hk (by decide)), q_edgeN, z_bd_some, z_bd_some, q_inC (show 8 * m + i < 48 by omega) (by decide), q_inC (show 16 * m + 2 * i + k < 96 by omega) (by decide), q_inC (show 16 * m + 2 * i + k < 96 by omega) (by decide), nI_clamp (show 8 * m + i < 2 ^ 31 by omega), hh, nI_1, nI_clamp (by omega)]
  by_cases h1 : k < n
  · rw [if_pos (nI_lt h1 (by omega))]
    by_cases h2 : k < w
    · rw [if_pos (nI_lt h2 (by omega)), if_pos ⟨h1, h2⟩]
    · rw [if_neg (nI_nlt (by omega) (by omega)), if_neg (fun q => h2 q.2), if_pos h1]
  · rw [if_neg (nI_nlt (by omega) (by omega)), if_neg (fun q => h1 q.1), if_neg h1]
theorem q_mNx46 {J n w : Nat} (hJ : J + 5 ≤ 549) (hn : n ≤ 2) (hw : w ≤ 2) (h : z_H) : ∃ h1, zl_M_nexts_46 (nI n) (nI J) (nI w) (nI w) h = zl_M_nexts_75 (nI n) (nI J) (nI w) (nI n) h1 ∧ ∀ o k, h1.1 o k = if o = 123 ∧ J + 3 + w ≤ k ∧ k < J + 3 + n then 9 else h.1 o k := by
  by_cases hc : w ≤ n
  · refine ⟨q_it (fun i h => z_wI h 123 (J + 3 + i) 9) w (n - w) h, ?_, fun o k => ?_⟩
    · refine q_loop (L := fun x h => zl_M_nexts_46 (nI n) (nI J) (nI w) x h) (K := fun h => zl_M_nexts_75 (nI n) (nI J) (nI w) (nI n) h) (N := n) (fun i h hi => ?_) (fun h => ?_) (n - w) w h (by omega)
      · show zl_M_nexts_46 (nI n) (nI J) (nI w) (nI i) h = _
        rw [e_M_nexts_46, if_neg (nI_ge hi (by omega)), n_3, nI_add, nI_add, q_inC (show J + 3 + i < 549 by omega) (by decide), nI_clamp (by omega)]
      · show zl_M_nexts_46 (nI n) (nI J) (nI w) (nI n) h = _
        rw [e_M_nexts_46, if_pos (nI_le (Nat.le_refl _) (by omega))]
    · have := (q_fill (o := 123) (c := J + 3) (v := fun _ => 9) (n - w) w h).1 o k
      rw [this]
      by_cases hk : o = 123 ∧ J + 3 + w ≤ k ∧ k < J + 3 + n
      · rw [if_pos (by omega), if_pos hk]
      · rw [if_neg (by omega), if_neg hk]
  · refine ⟨h, by rw [e_M_nexts_46, if_pos (nI_le (by omega) (by omega))], fun o k => ?_⟩
    rw [if_neg (by omega)]
theorem q_mNx75 {J n w : Nat} (hJ : J + 5 ≤ 549) (hn : n ≤ 2) (h : z_H) : ∃ h1, zl_M_nexts_75 (nI n) (nI J) (nI w) (nI n) h = some (nI w, z_wI h1 123 (J + 2) (nI n)) ∧ ∀ o k, h1.1 o k = if o = 123 ∧ J + 3 + n ≤ k ∧ k < J + 5 then 0 else h.1 o k := by
  refine ⟨q_it (fun i h => z_wI h 123 (J + 3 + i) 0) n (2 - n) h, ?_, fun o k => ?_⟩
  · refine q_loop (L := fun x h => zl_M_nexts_75 (nI n) (nI J) (nI w) x h) (K := fun h => some (nI w, z_wI h 123 (J + 2) (nI n))) (N := 2) (fun i h hi => ?_) (fun h => ?_) (2 - n) n h (by omega)
    · show zl_M_nexts_75 (nI n) (nI J) (nI w) (nI i) h = _
      rw [e_M_nexts_75, n_2, if_neg (nI_ge hi (by omega)), n_3, nI_add, nI_add, q_inC (show J + 3 + i < 549 by omega) (by decide), nI_clamp (by omega)]
    · show zl_M_nexts_75 (nI n) (nI J) (nI w) (nI 2) h = _
      rw [e_M_nexts_75, if_pos (by decide), n_2, nI_add, q_inC (show J + 2 < 549 by omega) (by decide), nI_clamp (by omega)]
  · have := (q_fill (o := 123) (c := J + 3) (v := fun _ => 0) (2 - n) n h).1 o k
    rw [this]
    by_cases hk : o = 123 ∧ J + 3 + n ≤ k ∧ k < J + 5
    · rw [if_pos (by omega), if_pos hk]
    · rw [if_neg (by omega), if_neg hk]
theorem q_op15 : z_opok q_inv 15 200 3 := by
  intro h hi as has
  obtain ⟨x, y, z, rfl⟩ := q_as3 has
  obtain ⟨⟨a, ha⟩, -⟩ := id hi
  have ha := q_raw ha
  obtain ⟨ho, hst, hp0, hp1, ht⟩ := id ha
  have hsr := ha.sr
  show ∃ r h1 h2, z_M 15 [.ref 0, .int x, .int y, .int z] h = some (r, h1) ∧ z_M 200 [.ref 122, .int x, .int y, .int z] h1 = some (r, h2) ∧ q_inv h2
  rw [e_X_nexts, q_hasNode (by decide) (hp1.sz ho), z_bd_some]
  cases hx : q_isN a x y with
  | false => exact ⟨-1, h, h, by rw [if_pos (by decide)], by rw [e_M_nexts, q_isNode hsr, hx, z_bd_some, if_pos (by decide)], hi⟩
  | true =>
    have em : ∀ h1, q_sr h1.1 a → z_M 200 [.ref 122, .int x, .int y, .int z] h1 = (if ¬ q_b (z_in z 3) = 0 then z_bd (z_M 129 [.int 1, .int x, .int y] h1) (fun r5 h6 => (bif z_in (r5 + 2) 549 then zl_M_nexts_46 z r5 (h6.1 123 ((r5 + 2).toNatClampNeg)) (h6.1 123 ((r5 + 2).toNatClampNeg)) h6 else none)) else some ((-1), h1)) := fun h1 hs1 => by
      rw [e_M_nexts, q_isNode hs1, hx, z_bd_some, if_neg (by decide), q_wl2, z_bd_some]
    obtain ⟨m, i, hm, hi', hm6, hi8, rfl, rfl⟩ := q_isNT ho hx
    have b := ho.2.2.2.2.1 1 m i (by decide) hm hi'
    have hb := q_atb (p := 1) (by decide) hm6 hi8
    obtain ⟨g1, g2, g3, g4⟩ := hp1.2.2.2.1 m i hm hi'
    rw [if_neg (by decide)]
    rcases q_cases z with hz | ⟨n, hn, rfl⟩
    · exact ⟨-1, h, h, by rw [if_pos hz], by rw [em h hsr, q_in_neg hz, if_neg (fun q => q (by decide))], hi⟩
    · by_cases hn2 : n ≤ 2
      · obtain ⟨W, hW⟩ : ∃ W, W = a (q_at 1 m i + 2) := ⟨_, rfl⟩
        have hW2 : W ≤ 2 := by omega
        have ew : ∃ h1, z_M 78 [.ref 25, .int (nI m), .int (nI i), .int (nI n)] h = some (0, h1) ∧ (∀ o k, o ≠ 29 → ¬ (o = 30 ∧ 16 * m + 2 * i ≤ k ∧ k < 16 * m + 2 * i + 2) → h1.1 o k = h.1 o k) ∧ (∀ k, h1.1 29 k = if k = 8 * m + i then nI n else h.1 29 k) ∧ ∀ k, k < 2 → h1.1 30 (16 * m + 2 * i + k) = if k < n ∧ k < W then h.1 30 (16 * m + 2 * i + k) else if k < n then 9 else -4 := by
          have hh0 : h.1 (25 + 4) (8 * m + i) = nI W := by rw [hW]; exact g3
          obtain ⟨H1, e1⟩ : ∃ H1, H1 = (if 0 < n ∧ 0 < W then h else z_wI h 30 (16 * m + 2 * i + 0) (if 0 < n then 9 else -4)) := ⟨_, rfl⟩
          have r1 : ∀ o k, H1.1 o k = if o = 30 ∧ k = 16 * m + 2 * i then (if 0 < n ∧ 0 < W then h.1 30 (16 * m + 2 * i) else if 0 < n then 9 else -4) else h.1 o k := fun o k => by
            rw [e1]
            by_cases c1 : 0 < n ∧ 0 < W
            · rw [if_pos c1, if_pos c1]
              by_cases c2 : o = 30 ∧ k = 16 * m + 2 * i
              · rw [if_pos c2, c2.1, c2.2]
              · rw [if_neg c2]
            · rw [if_neg c1, if_neg c1, z_wI1]
              rfl
          have hh1 : H1.1 (25 + 4) (8 * m + i) = nI W := by rw [r1, if_neg (by omega)]; exact hh0
          obtain ⟨H2, e2⟩ : ∃ H2, H2 = (if 1 < n ∧ 1 < W then H1 else z_wI H1 30 (16 * m + 2 * i + 1) (if 1 < n then 9 else -4)) := ⟨_, rfl⟩
          have r2 : ∀ o k, H2.1 o k = if o = 30 ∧ k = 16 * m + 2 * i + 1 then (if 1 < n ∧ 1 < W then h.1 30 (16 * m + 2 * i + 1) else if 1 < n then 9 else -4) else H1.1 o k := fun o k => by
            rw [e2]
            by_cases c1 : 1 < n ∧ 1 < W
            · rw [if_pos c1, if_pos c1]
              by_cases c2 : o = 30 ∧ k = 16 * m + 2 * i + 1
              · rw [if_pos c2, c2.1, c2.2, r1, if_neg (by omega)]
              · rw [if_neg c2]
            · rw [if_neg c1, if_neg c1, z_wI1]
          refine ⟨z_wI H2 29 (8 * m + i) (nI n), ?_, fun o k q1 q2 => ?_, fun k => ?_, fun k hk => ?_⟩
          · rw [e_P_widen (by decide), q_place, z_bd_some]
            refine (q_wid (k := 0) hm6 hi8 (by decide) hn2 hW2 hh0).trans ?_
            rw [← e1]
            refine (q_wid (k := 1) hm6 hi8 (by decide) hn2 hW2 hh1).trans ?_
            rw [← e2, e_P_widen_10 (by decide), if_pos (by decide), q_inC (show 8 * m + i < 48 by omega) (by decide), nI_clamp (by omega)]
          · rw [z_wI1, if_neg (by omega), r2, if_neg (by omega), r1, if_neg (by omega)]
          · rw [z_wI1]
            by_cases c1 : k = 8 * m + i
            · rw [if_pos ⟨rfl, c1⟩, if_pos c1]
            · rw [if_neg (fun q => c1 q.2), if_neg c1, r2, if_neg (by omega), r1, if_neg (by omega)]
          · rw [z_wI1, if_neg (by omega), r2]
            rcases (show k = 0 ∨ k = 1 by omega) with rfl | rfl
            · rw [if_neg (by omega), r1, if_pos (by omega)]
              rfl
            · rw [if_pos (by omega)]
        obtain ⟨h1, w1, w2, w3, w4⟩ := ew
        have hx1 : ∀ j, h1.1 123 j = h.1 123 j := fun j => w2 _ _ (by decide) (by omega)
        have hs1 : q_sr h1.1 a := by
          unfold q_sr
          simp only [hx1]
          exact hsr
        have hb2 : h1.1 123 (q_at 1 m i + 2) = nI W := by rw [hx1, hst _ (by omega), q_vn (by omega), hW]
        obtain ⟨h2, v1, v2⟩ := q_mNx46 (J := q_at 1 m i) (n := n) (w := W) (by omega) hn2 hW2 h1
        obtain ⟨h3, u1, u2⟩ := q_mNx75 (J := q_at 1 m i) (n := n) (w := W) (by omega) hn2 h2
        refine ⟨nI W, h1, z_wI h3 123 (q_at 1 m i + 2) (nI n), ?_, ?_, ?_⟩
        · rw [if_neg (nI_pos hn), n_2, if_pos (nI_le hn2 (by decide)), q_place, z_bd_some, q_inC (show 8 * m + i < 48 by omega) (by decide), w1, z_bd_some, nI_clamp (by omega)]
          have : h.1 29 (8 * m + i) = nI W := by rw [hW]; exact g3
          rw [this]
        · rw [em h1 hs1, q_int (show n < 3 by omega) (by decide), if_pos (by decide), q_nodeAt1, z_bd_some, n_2, nI_add, q_inC (show q_at 1 m i + 2 < 549 by omega) (by decide), nI_clamp (by omega), hb2, v1, u1]
        · refine hi.now (fun o k q1 q2 => ?_) ⟨q_upN a (q_at 1 m i) (q_nxv a (q_at 1 m i) n), ha.node hm hi' (q_nx_nok ho hm hi' hn2) ?_ ?_ ?_ ?_ ?_ ?_ ?_⟩
          · rw [z_wI1, if_neg (by omega), u2, if_neg (by omega), v2, if_neg (by omega)]
            exact w2 o k (by omega) (by omega)
          · intro o k q1 q2 q3
            rw [z_wI1, if_neg (by omega), u2, if_neg (by omega), v2, if_neg (by omega)]
            by_cases h29 : o = 29
            · subst h29
              rw [w3, if_neg (by omega)]
            · exact w2 o k h29 q3
          · intro k q1
            rw [z_wI1, if_neg (by omega), u2, if_neg (by omega), v2, if_neg (by omega)]
            exact hx1 k
          · intro c hc
            rw [z_wI1]
            by_cases c2 : c = 2
            · subst c2
              rw [if_pos ⟨rfl, rfl⟩, q_nxv2, q_vn (by omega)]
            · rw [if_neg (by omega), u2]
              by_cases c3 : c < 2
              · rw [if_neg (by omega), v2, if_neg (by omega), hx1, hst _ (by omega)]
                rcases (show c = 0 ∨ c = 1 by omega) with rfl | rfl <;> rfl
              · obtain ⟨k, rfl⟩ : ∃ k, c = 3 + k := ⟨c - 3, by omega⟩
                rw [q_nxv3]
                by_cases c4 : k < n
                · rw [if_pos c4, if_neg (by omega), v2, ← hW]
                  by_cases c5 : k < W
                  · rw [if_pos c5, if_neg (by omega), hx1, hst _ (by omega), Nat.add_assoc]
                  · rw [if_neg c5, if_pos (by omega)]
                    rfl
                · rw [if_neg c4, if_pos (by omega)]
                  rfl
          · rw [z_wI1, if_neg (by omega), u2, if_neg (by omega), v2, if_neg (by omega), w2 _ _ (by decide) (by omega)]
            exact g1
          · rw [z_wI1, if_neg (by omega), u2, if_neg (by omega), v2, if_neg (by omega), w2 _ _ (by decide) (by omega)]
            exact g2
          · rw [z_wI1, if_neg (by omega), u2, if_neg (by omega), v2, if_neg (by omega), w3, if_pos rfl]
            rfl
          · intro k hk
            rw [z_wI1, if_neg (by omega), u2, if_neg (by omega), v2, if_neg (by omega), w4 k hk, q_nxv2, q_nxv3, ← hW]
            by_cases c4 : k < n
            · rw [if_pos c4, if_pos c4, if_pos c4]
              by_cases c5 : k < W
              · rw [if_pos ⟨c4, c5⟩, if_pos c5]
                have := g4 k hk
                rw [if_pos (by omega)] at this
                exact this
              · rw [if_neg (fun q => c5 q.2), if_neg c5]
                rfl
            · rw [if_neg (fun q => c4 q.1), if_neg c4, if_neg c4]
      · refine ⟨-1, h, h, ?_, ?_, hi⟩
        · rw [if_neg (nI_pos hn), n_2, if_neg (nI_ge (by omega) hn)]
        · rw [em h hsr, q_in hn, decide_eq_false (by omega), if_neg (fun q => q (by decide))]
