/-! THE PURE PART: lead -/
def q_hasN (a : Nat → Nat) (p : Nat) (x y z : Int32) : Bool := q_isN a x y && z_in z (a (q_at p x.toNatClampNeg y.toNatClampNeg + 2))
def q_mayT (a : Nat → Nat) (x y z w : Int32) : Bool := q_hasN a 1 x y z && (decide (w = 9) || q_isN a x w)
theorem q_hasNext {o p : Nat} {a : Nat → Nat} {h : z_H} (hi : o ∈ [4, 17, 25, 73, 81, 94, 102]) (hp : p < 2) (ho : q_ok a) (hg : q_prg h.1 o p a) (x y z : Int32) : z_M 72 [.ref o, .int x, .int y, .int z] h = some (q_b (q_hasN a p x y z), h) := by
  rw [e_P_hasNext hi, q_hasNode hi (hg.sz ho), z_bd_some]
  unfold q_hasN
  cases hx : q_isN a x y with
  | false => rw [if_pos (by decide)]; rfl
  | true =>
    obtain ⟨m, i, hm, hi', hm6, hi8, rfl, rfl⟩ := q_isNT ho hx
    obtain ⟨-, -, g3, -⟩ := hg.2.2.2.1 m i hm hi'
    have b := ho.2.2.2.2.1 p m i hp hm hi'
    rw [if_neg (by decide), nI_clamp (by omega), nI_clamp (by omega), Bool.true_and]
    rcases q_cases z with hz | ⟨k, hk, rfl⟩
    · rw [if_pos hz, q_in_neg hz]
      rfl
    · rw [if_neg (nI_pos hk), q_place, z_bd_some, q_inC (show 8 * m + i < 48 by omega) (by decide), nI_clamp (by omega), g3, q_in hk]
      by_cases h1 : k < a (q_at p m i + 2)
      · rw [if_neg (nI_ge h1 (by omega)), decide_eq_true h1]
        rfl
      · rw [if_pos (nI_le (by omega) hk), decide_eq_false h1]
        rfl
theorem q_cMay {a : Nat → Nat} {h : z_H} (ho : q_ok a) (hg : q_prg h.1 25 1 a) (x y z w : Int32) : z_M 76 [.ref 25, .int x, .int y, .int z, .int w] h = some (q_b (q_mayT a x y z w), h) := by
  rw [e_P_mayTurn (by decide), q_hasNext (by decide) (by decide) ho hg, z_bd_some]
  unfold q_mayT
  cases hx : q_hasN a 1 x y z with
  | false => rw [if_pos (by decide)]; rfl
  | true =>
    rw [if_neg (by decide), Bool.true_and]
    by_cases hw : w = 9
    · rw [if_pos hw, decide_eq_true hw]
      rfl
    · rw [if_neg hw, q_hasNode (by decide) (hg.sz ho), z_bd_some, decide_eq_false hw, Bool.false_or]
      cases q_isN a x w <;> rfl
theorem q_mMay {a : Nat → Nat} {h : z_H} (ho : q_ok a) (hst : ∀ j, j < 549 → h.1 123 j = q_v (a j)) (hs : q_sr h.1 a) (x y z w : Int32) : z_M 199 [.ref 122, .int x, .int y, .int z, .int w] h = bif q_mayT a x y z w then some (h.1 123 (q_at 1 x.toNatClampNeg y.toNatClampNeg + 3 + z.toNatClampNeg), z_wI h 123 (q_at 1 x.toNatClampNeg y.toNatClampNeg + 3 + z.toNatClampNeg) w) else some (-1, h) := by
  rw [e_M_lead, q_isNode hs, z_bd_some]
  unfold q_mayT q_hasN
  cases hx : q_isN a x y with
  | false => rw [if_pos (by decide)]; rfl
  | true =>
    obtain ⟨m, i, hm, hi', hm6, hi8, rfl, rfl⟩ := q_isNT ho hx
    have b := ho.2.2.2.2.1 1 m i (by decide) hm hi'
    have hb := q_atb (p := 1) (by decide) hm6 hi8
    rw [if_neg (by decide), q_ofN12 hm6 hi8, z_bd_some, hst _ (by omega), q_vn (by omega), q_w1 (by omega), z_bd_some, nI_clamp (by omega), nI_clamp (by omega), Bool.true_and]
    cases hz : z_in z (a (q_at 1 m i + 2)) with
    | false => rw [if_pos (by decide)]; rfl
    | true =>
      obtain ⟨k, hk, rfl⟩ := q_inT (by omega) hz
      have e48 : zl_M_lead_48 (nI m) (nI i) (nI k) w h = some (h.1 123 (q_at 1 m i + 3 + k), z_wI h 123 (q_at 1 m i + 3 + k) w) := by
        rw [e_M_lead_48, q_nodeAt1, z_bd_some, n_3, nI_add, nI_add, q_inC (show q_at 1 m i + 3 + k < 549 by omega) (by decide), q_inC (show q_at 1 m i + 3 + k < 549 by omega) (by decide), nI_clamp (by omega)]
      rw [if_neg (by decide), nI_clamp (show k < 2 ^ 31 by omega), Bool.true_and]
      by_cases hw : w = 9
      · rw [if_pos hw, e48, decide_eq_true hw]
        rfl
      · rw [if_neg hw, q_isNode hs, z_bd_some, decide_eq_false hw, Bool.false_or]
        cases q_isN a (nI m) w with
        | false => rw [if_neg (fun q => q (by decide))]; rfl
        | true => rw [if_pos (by decide), e48]; rfl
theorem q_mayTT {a : Nat → Nat} {x y z w : Int32} (ho : q_ok a) (h : q_mayT a x y z w = true) : ∃ m i k t, m < a 0 ∧ i < a (7 + m) ∧ m < 6 ∧ i < 8 ∧ k < a (q_at 1 m i + 2) ∧ k < 2 ∧ t < 10 ∧ (t = 9 ∨ t < a (7 + m)) ∧ x = nI m ∧ y = nI i ∧ z = nI k ∧ w = nI t := by
  unfold q_mayT q_hasN at h
  rw [Bool.and_eq_true, Bool.and_eq_true, Bool.or_eq_true] at h
  obtain ⟨⟨h1, h2⟩, h3⟩ := h
  obtain ⟨m, i, hm, hi', hm6, hi8, rfl, rfl⟩ := q_isNT ho h1
  have b := ho.2.2.2.2.1 1 m i (by decide) hm hi'
  have o7 := ho.2.2.2.1 m hm
  rw [nI_clamp (by omega), nI_clamp (by omega)] at h2
  obtain ⟨k, hk, rfl⟩ := q_inT (by omega) h2
  have ht : ∃ t, t < 10 ∧ (t = 9 ∨ t < a (7 + m)) ∧ w = nI t := by
    rcases h3 with h3 | h3
    · exact ⟨9, by omega, Or.inl rfl, of_decide_eq_true h3⟩
    · unfold q_isN at h3
      rw [Bool.and_eq_true, nI_clamp (by omega)] at h3
      obtain ⟨t, ht, rfl⟩ := q_inT (by omega) h3.2
      exact ⟨t, by omega, Or.inr ht, rfl⟩
  obtain ⟨t, t1, t2, rfl⟩ := ht
  exact ⟨m, i, k, t, hm, hi', hm6, hi8, hk, by omega, t1, t2, rfl, rfl, rfl, rfl⟩
/-- the row behind a lead -/
def q_ldv (a : Nat → Nat) (J k t c : Nat) : Nat := if c = 3 + k then t else a (J + c)
theorem q_ldv_k {a : Nat → Nat} {J k t : Nat} : q_ldv a J k t (3 + k) = t := if_pos rfl
theorem q_ldv_o {a : Nat → Nat} {J k t c : Nat} (h : ¬ c = 3 + k) : q_ldv a J k t c = a (J + c) := if_neg h
def q_ld (a : Nat → Nat) (m i k t : Nat) : Nat → Nat := q_upN a (q_at 1 m i) (q_ldv a (q_at 1 m i) k t)
theorem q_ld_at {a : Nat → Nat} {m i k t j : Nat} (hk : k < 2) : q_ld a m i k t j = if j = q_at 1 m i + 3 + k then t else a j := by
  unfold q_ld q_upN
  by_cases hj : q_at 1 m i ≤ j ∧ j < q_at 1 m i + 5
  · rw [if_pos hj]
    by_cases h3 : j = q_at 1 m i + 3 + k
    · rw [if_pos h3, show j - q_at 1 m i = 3 + k by omega, q_ldv_k]
    · rw [if_neg h3, q_ldv_o (by omega), show q_at 1 m i + (j - q_at 1 m i) = j by omega]
  · rw [if_neg hj, if_neg (by omega)]
section QLD
variable {a : Nat → Nat} {m i k t : Nat}
theorem q_ld_nok (ho : q_ok a) (hm : m < a 0) (hi : i < a (7 + m)) (hk : k < 2) (ht : t = 9 ∨ t < a (7 + m)) : q_nok (q_ldv a (q_at 1 m i) k t) (a (7 + m)) := by
  have b := ho.2.2.2.2.1 1 m i (by decide) hm hi
  unfold q_nok
  rw [q_ldv_o (show ¬ 0 = 3 + k by omega), q_ldv_o (show ¬ 1 = 3 + k by omega), q_ldv_o (show ¬ 2 = 3 + k by omega)]
  refine ⟨b.1, b.2.1, b.2.2.1, b.2.2.2.1, fun j hj => ?_⟩
  by_cases h3 : j = k
  · subst h3
    rw [q_ldv_k]
    exact ht
  · rw [q_ldv_o (by omega), ← Nat.add_assoc]
    exact b.2.2.2.2 j hj
theorem q_ld_ok (ho : q_ok a) (hm : m < a 0) (hi : i < a (7 + m)) (hk : k < 2) (ht : t = 9 ∨ t < a (7 + m)) : q_ok (q_ld a m i k t) := ho.node hm hi (q_ld_nok ho hm hi hk ht)
theorem q_ld_st {h : z_H} (hst : ∀ j, j < 549 → h.1 123 j = q_v (a j)) (hk : k < 2) (ht : t < 10) : ∀ j, j < 549 → (z_wI h 123 (q_at 1 m i + 3 + k) (nI t)).1 123 j = q_v (q_ld a m i k t j) := by
  intro j hj
  rw [z_wI1, q_ld_at hk]
  by_cases h3 : j = q_at 1 m i + 3 + k
  · rw [if_pos ⟨rfl, h3⟩, if_pos h3, q_vn (by omega)]
  · rw [if_neg (fun q => h3 q.2), if_neg h3]
    exact hst j hj
theorem q_ld_prg {h : z_H} (ho : q_ok a) (hg : q_prg h.1 25 1 a) (hm : m < a 0) (hi : i < a (7 + m)) (hk : k < a (q_at 1 m i + 2)) : q_prg (z_wI h 30 (16 * m + 2 * i + k) (nI t)).1 25 1 (q_ld a m i k t) := by
  have b := ho.2.2.2.2.1 1 m i (by decide) hm hi
  obtain ⟨g1, g2, g3, g4⟩ := hg.2.2.2.1 m i hm hi
  refine hg.node ho hm hi (fun o k' q1 q2 q3 q4 => ?_) ?_ ?_ ?_ (fun j hj => ?_)
  · rw [z_wI1, if_neg (by omega)]
  · rw [z_wI1, if_neg (by omega), q_ldv_o (by omega)]; exact g1
  · rw [z_wI1, if_neg (by omega), q_ldv_o (by omega)]; exact g2
  · rw [z_wI1, if_neg (by omega), q_ldv_o (by omega)]; exact g3
  · rw [z_wI1, q_ldv_o (show ¬ 2 = 3 + k by omega)]
    by_cases h3 : j = k
    · subst h3
      rw [if_pos ⟨rfl, rfl⟩, if_pos hk, q_ldv_k]
    · rw [if_neg (by omega), q_ldv_o (show ¬ 3 + j = 3 + k by omega), ← Nat.add_assoc]
      exact g4 j hj
theorem q_cTurn {h : z_H} (ho : q_ok a) (hg : q_prg h.1 25 1 a) (hm : m < a 0) (hi : i < a (7 + m)) (hk : k < a (q_at 1 m i + 2)) (w : Int32) : z_M 77 [.ref 25, .int (nI m), .int (nI i), .int (nI k), .int w] h = some (0, z_wI h 30 (16 * m + 2 * i + k) w) := by
  have b := ho.2.2.2.2.1 1 m i (by decide) hm hi
  have o0 := ho.1
  have o7 := ho.2.2.2.1 m hm
  have hh : q_hasN a 1 (nI m) (nI i) (nI k) = true := by
    unfold q_hasN q_isN
    rw [nI_clamp (by omega), nI_clamp (by omega), q_int hm (by omega), q_int hi (by omega), q_int hk (by omega)]
    rfl
  rw [e_P_turn (by decide), q_hasNext (by decide) (by decide) ho hg, z_bd_some, hh, if_neg (by decide), q_edgeN, z_bd_some, q_inC (show 16 * m + 2 * i + k < 96 by omega) (by decide), nI_clamp (by omega)]
end QLD
theorem q_op14 : z_opok q_inv 14 199 4 := by
  intro h hi as has
  obtain ⟨x, y, z, w, rfl⟩ := q_as4 has
  obtain ⟨⟨a, ha⟩, -⟩ := id hi
  have ha := q_raw ha
  obtain ⟨ho, hst, hp0, hp1, ht⟩ := id ha
  have hsr := ha.sr
  show ∃ r h1 h2, z_M 14 [.ref 0, .int x, .int y, .int z, .int w] h = some (r, h1) ∧ z_M 199 [.ref 122, .int x, .int y, .int z, .int w] h1 = some (r, h2) ∧ q_inv h2
  rw [e_X_lead, q_cMay ho hp1, z_bd_some]
  cases hx : q_mayT a x y z w with
  | false => exact ⟨-1, h, h, by rw [if_neg (fun q => q (by decide))], by rw [q_mMay ho hst hsr, hx]; rfl, hi⟩
  | true =>
    obtain ⟨m, i, k, t, hm, hi', hm6, hi8, hk, hk2, ht10, ht9, rfl, rfl, rfl, rfl⟩ := q_mayTT ho hx
    have b := ho.2.2.2.2.1 1 m i (by decide) hm hi'
    have hb := q_atb (p := 1) (by decide) hm6 hi8
    have o7 := ho.2.2.2.1 m hm
    obtain ⟨g1, g2, g3, g4⟩ := hp1.2.2.2.1 m i hm hi'
    have g4k := g4 k hk2
    rw [if_pos hk] at g4k
    have hx1 : ∀ j, (z_wI h 30 (16 * m + 2 * i + k) (nI t)).1 123 j = h.1 123 j := fun j => by rw [z_wI1, if_neg (by omega)]
    have hs1 : q_sr (z_wI h 30 (16 * m + 2 * i + k) (nI t)).1 a := by
      unfold q_sr
      simp only [hx1]
      exact hsr
    have hst1 : ∀ j, j < 549 → (z_wI h 30 (16 * m + 2 * i + k) (nI t)).1 123 j = q_v (a j) := fun j hj => (hx1 j).trans (hst j hj)
    refine ⟨h.1 (25 + 5) (16 * m + 2 * i + k), z_wI h 30 (16 * m + 2 * i + k) (nI t), z_wI (z_wI h 30 (16 * m + 2 * i + k) (nI t)) 123 (q_at 1 m i + 3 + k) (nI t), ?_, ?_, ?_⟩
    · rw [if_pos (by decide), e_P_nextOf (by decide), q_edgeN, z_bd_some, q_inC (show 16 * m + 2 * i + k < 96 by omega) (by decide), z_bd_some, q_cTurn ho hp1 hm hi' hk, z_bd_some, nI_clamp (by omega)]
    · rw [q_mMay ho hst1 hs1, hx, nI_clamp (by omega), nI_clamp (by omega), nI_clamp (by omega), hx1, hst _ (by omega)]
      have b5 := b.2.2.2.2 k hk
      show some (q_v (a (q_at 1 m i + 3 + k)), _) = _
      rw [q_vn (by omega), ← g4k]
    · refine hi.now (fun o k' q1 q2 => ?_) ⟨q_ld a m i k t, q_ld_ok ho hm hi' hk2 ht9, q_ld_st hst1 hk2 ht10, ?_, ?_, ?_⟩
      · rw [z_wI1, if_neg (by omega), z_wI1, if_neg (by omega)]
      · refine (hp0.cgA ho (by decide) (fun j hj => ?_)).congr (fun o k' q1 q2 => ?_)
        · rw [q_ld_at hk2, if_neg (by omega)]
        · rw [z_wI1, if_neg (by omega), z_wI1, if_neg (by omega)]
      · refine (q_ld_prg ho hp1 hm hi' hk).congr (fun o k' q1 q2 => ?_)
        rw [z_wI1, if_neg (by omega)]
      · refine (ht.cgA ?_ (fun j hj => ?_)).congr (fun o k' q1 q2 => ?_)
        · rw [q_ld_at hk2, if_neg (by omega)]
        · rw [q_ld_at hk2, if_neg (by omega)]
        · rw [z_wI1, if_neg (by omega), z_wI1, if_neg (by omega)]
