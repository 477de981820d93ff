/-! THE PURE PART: the class chooses and orders -/
theorem q_cvI : ∀ t, t < 8 → (54 + 2 * t, 38) ∈ [(50, 41), (54, 38), (56, 38), (58, 38), (60, 38), (62, 38), (64, 38), (66, 38), (68, 38)] ∧ (54 + 2 * t, 41) ∈ [(41, 41), (52, 52), (54, 54), (56, 56), (58, 58), (60, 60), (62, 62), (64, 64), (66, 66), (68, 68), (54, 41), (56, 41), (58, 41), (60, 41), (62, 41), (64, 41), (66, 41), (68, 41), (54, 50), (56, 50), (58, 50), (60, 50), (62, 50), (64, 50), (66, 50), (68, 50)] ∧ (54 + 2 * t, 50) ∈ [(41, 41), (52, 52), (54, 54), (56, 56), (58, 58), (60, 60), (62, 62), (64, 64), (66, 66), (68, 68), (54, 41), (56, 41), (58, 41), (60, 41), (62, 41), (64, 41), (66, 41), (68, 41), (54, 50), (56, 50), (58, 50), (60, 50), (62, 50), (64, 50), (66, 50), (68, 50)] ∧ (50, 54 + 2 * t) ∈ [(50, 54), (50, 56), (50, 58), (50, 60), (50, 62), (50, 64), (50, 66), (50, 68)] ∧ (52, 54 + 2 * t) ∈ [(52, 54), (52, 56), (52, 58), (52, 60), (52, 62), (52, 64), (52, 66), (52, 68)] ∧ 54 + 2 * t ∈ [41, 52, 54, 56, 58, 60, 62, 64, 66, 68] ∧ 54 + 2 * t ∈ [38, 41, 50, 52, 54, 56, 58, 60, 62, 64, 66, 68] := fun t ht => by
  rcases (show t = 0 ∨ t = 1 ∨ t = 2 ∨ t = 3 ∨ t = 4 ∨ t = 5 ∨ t = 6 ∨ t = 7 by omega) with rfl | rfl | rfl | rfl | rfl | rfl | rfl | rfl <;> exact ⟨by decide, by decide, by decide, by decide, by decide, by decide, by decide⟩
/-- what each test covers, and the edges in danger -/
def q_cc (a : Nat → Nat) (L : Nat → Nat → Int64) (n : Nat) : Prop := q_es L 41 (q_dg a) ∧ ∀ t, t < n → q_es L (54 + 2 * t) (q_cv a t)
def q_co (a : Nat → Nat) (I : Nat → Nat → Int32) (L : Nat → Nat → Int64) (s : q_O) : Prop := I 45 0 = nI s.1 ∧ (∀ i, i < s.1 → I 46 i = nI (s.2.1 i) ∧ I 47 i = nI (s.2.2.1 i)) ∧ (∀ t, t < 8 → I 48 t = q_v (s.2.2.2.1 t)) ∧ q_es L 50 s.2.2.2.2 ∧ q_cc a L (a 2)
/-- only the choice's own is written -/
def q_frO (I I' : Nat → Nat → Int32) (L L' : Nat → Nat → Int64) : Prop := (∀ o k, ¬ (37 ≤ o ∧ o ≤ 48) → I' o k = I o k) ∧ ∀ o k, ¬ (39 ≤ o ∧ o ≤ 69) → L' o k = L o k
theorem q_frO.refl {I : Nat → Nat → Int32} {L : Nat → Nat → Int64} : q_frO I I L L := ⟨fun _ _ _ => rfl, fun _ _ _ => rfl⟩
theorem q_frO.trans {I I' I2 : Nat → Nat → Int32} {L L' L2 : Nat → Nat → Int64} (h1 : q_frO I I' L L') (h2 : q_frO I' I2 L' L2) : q_frO I I2 L L2 := ⟨fun o k q => (h2.1 o k q).trans (h1.1 o k q), fun o k q => (h2.2 o k q).trans (h1.2 o k q)⟩
theorem q_frO.K {I I' : Nat → Nat → Int32} {L L' : Nat → Nat → Int64} {d d' : Nat} (h : q_frO I I' L L') : q_frK (I, L, d) (I', L', d') := fun o k q => h.1 o k (by omega)
theorem q_frO.now {I I' : Nat → Nat → Int32} {L L' : Nat → Nat → Int64} {a : Nat → Nat} (h : q_frO I I' L L') (ha : q_now I a) : q_now I' a := ha.K (h := (I, L, 0)) (h1 := (I', L', 0)) h.K
section QCO
variable {a : Nat → Nat}
theorem q_cCover : ∀ n t I L d, t + n = a 2 → q_now I a → q_cc a L t → ∃ I' L' d', zl_Ch_choose_9 (nI t) (I, L, d) = z_bd (z_M 119 [.ref 45] (I', L', d')) (fun r1 h2 => some (0, h2)) ∧ q_frO I I' L L' ∧ q_cc a L' (a 2) := by
  intro n
  induction n with
  | zero =>
    intro t I L d ht ha hc
    obtain rfl : t = a 2 := by omega
    have o2 := ha.1.2.2.1
    refine ⟨I, L, d, ?_, q_frO.refl, hc⟩
    rw [e_Ch_choose_9]
    show (if I 33 0 ≤ nI (a 2) then _ else _) = _
    rw [show I 33 0 = nI (a 2) from ha.2.2.2.2.1, if_pos (nI_le (Nat.le_refl _) (by omega))]
  | succ n ih =>
    intro t I L d ht ha hc
    have o2 := ha.1.2.2.1
    have htl : t < a 2 := by omega
    have bt := ha.1.2.2.2.2.2.2.2 t htl
    obtain ⟨t1, t2, t3⟩ := ha.2.2.2.2.2 t htl
    have t1 : I 34 t = nI (a (525 + 3 * t)) := t1
    have t2 : I 35 t = nI (a (525 + 3 * t + 1)) := t2
    obtain ⟨I1, L1, d1, k1, k2, k3, k4, k5⟩ := q_cBegin (L := L) (d := d) (c := a (525 + 3 * t)) (b := a (525 + 3 * t + 1)) (o := 17) (p := 0) (Or.inl ⟨rfl, rfl⟩) ha.1 bt.1 bt.2.1 ha.2.2.1
    obtain ⟨L2, j1, j2, j3⟩ := q_es_as (I := I1) (d := d1) (q_cvI t (by omega)).1 k4
    have f1 : q_frO I I1 L L2 := ⟨fun o k q => k5.1 o k (by omega), fun o k q => (j3 o k (by omega)).trans (k5.2 o k (by omega))⟩
    have hc2 : q_cc a L2 (t + 1) := by
      refine ⟨hc.1.congr (fun k => (j3 _ k (by omega)).trans (k5.2 _ k (by omega))), fun u hu => ?_⟩
      by_cases hut : u = t
      · rw [hut]
        exact j2
      · exact (hc.2 u (by omega)).congr (fun k => (j3 _ k (by omega)).trans (k5.2 _ k (by omega)))
    obtain ⟨I', L', d', u1, u2, u3⟩ := ih (t + 1) I1 L2 d1 (by omega) (f1.now ha) hc2
    refine ⟨I', L', d', ?_, f1.trans u2, u3⟩
    rw [e_Ch_choose_9]
    show (if I 33 0 ≤ nI t then _ else (bif z_in (nI t) 8 then (bif z_in (nI t) 8 then z_bd (z_M 95 [.ref 37, .ref 17, .int (I 34 ((nI t).toNatClampNeg)), .int (I 35 ((nI t).toNatClampNeg))] (I, L, d)) _ else none) else none)) = _
    rw [show I 33 0 = nI (a 2) from ha.2.2.2.2.1, if_neg (nI_ge (by omega) (by omega)), q_inC (show t < 8 by omega) (by decide), q_inC (show t < 8 by omega) (by decide), nI_clamp (by omega), t1, t2, k1, z_bd_some, q_inC (show t < 8 by omega) (by decide), j1, z_bd_some, nI_1]
    exact u1
theorem q_cNextOne {I : Nat → Nat → Int32} {L : Nat → Nat → Int64} {d : Nat} {s : q_O} (ha : q_now I a) (hr : q_co a I L s) (hs : q_oi a s) : ∀ f t b w, t + f = a 2 → (b = 999 ∨ b < t) → w ≤ 216 → zl_Ch_nextOne_7 (q_v b) (nI w) (nI t) (I, L, d) = some (q_v (q_bs a s.2.2.2.1 s.2.2.2.2 f t b w).1, (I, L, d)) := by
  have o2 := ha.1.2.2.1
  obtain ⟨r0, r1, r2, r3, r4⟩ := hr
  intro f
  induction f with
  | zero =>
    intro t b w ht hb hw
    rw [e_Ch_nextOne_7]
    show (if I 33 0 ≤ nI t then _ else _) = _
    rw [show I 33 0 = nI (a 2) from ha.2.2.2.2.1, if_pos (nI_le (by omega) (by omega))]
    rfl
  | succ f ih =>
    intro t b w ht hb hw
    have htl : t < a 2 := by omega
    have ew : z_M 108 [.ref (54 + 2 * t), .ref 41] (I, L, d) = some (nI (q_da a t), (I, L, d)) := q_es_sw (h := (I, L, d)) (q_cvI t (by omega)).2.1 (r4.2 t htl) r4.1
    have ef : z_M 108 [.ref (54 + 2 * t), .ref 50] (I, L, d) = some (nI (q_fs a s.2.2.2.2 t), (I, L, d)) := q_es_sw (h := (I, L, d)) (q_cvI t (by omega)).2.2.1 (r4.2 t htl) r3
    have hda := q_da_b a t
    have hfs := q_fs_b a s.2.2.2.2 t
    have hct := q_cs2_b ha.1 htl
    have e1 : zl_Ch_nextOne_7 (q_v b) (nI w) (nI t) (I, L, d) = (if ¬ q_v (s.2.2.2.1 t) = (-4) then zl_Ch_nextOne_7 (q_v b) (nI w) (nI (t + 1)) (I, L, d) else (if nI (q_da a t) ≤ 0 then zl_Ch_nextOne_7 (q_v b) (nI w) (nI (t + 1)) (I, L, d) else (if q_v b = (-4) then zl_Ch_nextOne_7 (nI t) (nI (q_fs a s.2.2.2.2 t)) (nI (t + 1)) (I, L, d) else (bif z_in (q_v b) 8 then (if nI (q_fs a s.2.2.2.2 t) * I 36 ((q_v b).toNatClampNeg) ≤ nI w * I 36 t then zl_Ch_nextOne_7 (q_v b) (nI w) (nI (t + 1)) (I, L, d) else zl_Ch_nextOne_7 (nI t) (nI (q_fs a s.2.2.2.2 t)) (nI (t + 1)) (I, L, d)) else none)))) := by
      rw [e_Ch_nextOne_7]
      show (if I 33 0 ≤ nI t then _ else _) = _
      have ti : z_in (nI t) 8 = true := q_int (by omega) (by decide)
      rw [show I 33 0 = nI (a 2) from ha.2.2.2.2.1, if_neg (nI_ge (by omega) (by omega)), ti, nI_clamp (by omega)]
      simp only [cond_true]
      rw [ew, z_bd_some, ef, z_bd_some, nI_1]
      show (if ¬ I 48 t = (-4) then _ else _) = _
      rw [r2 t (by omega)]
    rw [e1]
    have hri := hs.2.2.1 t
    have hle := q_oi_le hs
    by_cases h9 : s.2.2.2.1 t = 999
    · rw [h9, if_neg (show ¬ ¬ q_v 999 = -4 from fun q => q rfl)]
      by_cases hd0 : q_da a t = 0
      · rw [hd0, if_pos (by decide), ih (t + 1) b w (by omega) (by omega) hw, q_bs_n (fun h => by have := h.2.1; omega)]
      · rw [if_neg (nI_nle (by omega) (by omega))]
        by_cases hb9 : b = 999
        · have := ih (t + 1) t (q_fs a s.2.2.2.2 t) (by omega) (Or.inr (by omega)) hfs
          rw [q_vn (by omega)] at this
          rw [hb9, if_pos (show q_v 999 = -4 from rfl), this, q_bs_y ⟨h9, by omega, Or.inl rfl⟩]
        · have hbt := hb.resolve_left hb9
          have hcb := q_cs2_b ha.1 (show b < a 2 by omega)
          obtain ⟨-, -, c3⟩ := ha.2.2.2.2.2 t htl
          obtain ⟨-, -, c4⟩ := ha.2.2.2.2.2 b (by omega)
          have c3 : I 36 t = nI (q_cs2 a t) := c3
          have c4 : I 36 b = nI (q_cs2 a b) := c4
          have m1 : q_fs a s.2.2.2.2 t * q_cs2 a b ≤ 216 * 9 := Nat.mul_le_mul hfs hcb.2
          have m2 : w * q_cs2 a t ≤ 216 * 9 := Nat.mul_le_mul hw hct.2
          rw [q_vn hb9, if_neg (fun q => by
            have := q_vm (v := b) (by omega)
            rw [q_vn hb9] at this
            exact this q), q_inC (show b < 8 by omega) (by decide), nI_clamp (by omega), c3, c4, pk_mul, pk_mul]
          by_cases hcmp : w * q_cs2 a t < q_fs a s.2.2.2.2 t * q_cs2 a b
          · have := ih (t + 1) t (q_fs a s.2.2.2.2 t) (by omega) (Or.inr (by omega)) hfs
            rw [q_vn (show t ≠ 999 by omega)] at this
            rw [if_neg (nI_ge hcmp (by omega)), this, q_bs_y ⟨h9, by omega, Or.inr hcmp⟩]
          · have := ih (t + 1) b w (by omega) (by omega) hw
            rw [q_vn hb9] at this
            rw [if_pos (nI_le (by omega) (by omega)), this, q_bs_n (fun h => by
              rcases h.2.2 with h | h
              · exact hb9 h
              · exact hcmp h)]
    · rw [if_pos (q_vm (by omega)), ih (t + 1) b w (by omega) (by omega) hw, q_bs_n (fun h => h9 h.1)]
theorem q_cRank {I : Nat → Nat → Int32} {L : Nat → Nat → Int64} {d b : Nat} {s : q_O} (ha : q_now I a) (hr : q_co a I L s) (hs : q_oi a s) (hb : b < a 2) (hk : s.1 < a 2) (hrb : s.2.2.2.1 b = 999) : ∃ I' L', z_M 121 [.ref 45, .int (nI b)] (I, L, d) = some (0, (I', L', d)) ∧ q_frO I I' L L' ∧ q_co a I' L' (q_ou a s b) := by
  have o2 := ha.1.2.2.1
  obtain ⟨r0, r1, r2, r3, r4⟩ := hr
  obtain ⟨I1, eI1⟩ : ∃ I1, I1 = q_wr I 46 s.1 (nI b) := ⟨_, rfl⟩
  have n1 : ∀ o k, I1 o k = if o = 46 ∧ k = s.1 then nI b else I o k := fun o k => by rw [eI1, q_wr1]
  have i45 : I1 45 0 = nI s.1 := by rw [n1, if_neg (by omega)]; exact r0
  have ef : z_M 108 [.ref (54 + 2 * b), .ref 50] (I1, L, d) = some (nI (q_fs a s.2.2.2.2 b), (I1, L, d)) := q_es_sw (h := (I1, L, d)) (q_cvI b (by omega)).2.2.1 (r4.2 b hb) r3
  obtain ⟨J, eJ⟩ : ∃ J, J = q_wr (q_wr (q_wr I1 47 s.1 (nI (q_fs a s.2.2.2.2 b))) 48 b (nI s.1)) 45 0 (nI (s.1 + 1)) := ⟨_, rfl⟩
  have n2 : ∀ o k, J o k = if o = 45 ∧ k = 0 then nI (s.1 + 1) else if o = 48 ∧ k = b then nI s.1 else if o = 47 ∧ k = s.1 then nI (q_fs a s.2.2.2.2 b) else if o = 46 ∧ k = s.1 then nI b else I o k := fun o k => by rw [eJ, q_wr1, q_wr1, q_wr1, n1]
  obtain ⟨L', j1, j2, j3⟩ := q_es_out (I := J) (d := d) (q_cvI b (by omega)).2.2.2.1 r3 (r4.2 b hb)
  have w1 : q_wr I1 47 s.1 (nI (q_fs a s.2.2.2.2 b)) 45 0 = nI s.1 := by rw [q_wr1, if_neg (by omega)]; exact i45
  have w2 : q_wr (q_wr I1 47 s.1 (nI (q_fs a s.2.2.2.2 b))) 48 b (nI s.1) 45 0 = nI s.1 := by rw [q_wr1, if_neg (by omega)]; exact w1
  refine ⟨J, L', ?_, ⟨fun o k q => ?_, fun o k q => j3 o k (by omega)⟩, ⟨?_, fun i hi => ?_, fun t ht => ?_, j2, ?_, fun t ht => ?_⟩⟩
  · rw [e_Ch_rank]
    show (bif z_in (I 45 0) 8 then (bif z_in (nI b) 8 then z_bd (z_M 108 [.ref (54 + 2 * (nI b).toNatClampNeg), .ref 50] (q_wr I 46 ((I 45 0).toNatClampNeg) (nI b), L, d)) _ else none) else none) = _
    rw [r0, q_inC (show s.1 < 8 by omega) (by decide), q_inC (show b < 8 by omega) (by decide), nI_clamp (show s.1 < 2 ^ 31 by omega), nI_clamp (show b < 2 ^ 31 by omega), ← eI1, ef, z_bd_some]
    have z1 : (z_wI (I, L, d) 46 ((((I, L, d) : z_H).1 45 0).toNatClampNeg) (nI b)).1 45 0 = nI s.1 := by
      show q_wr I 46 ((I 45 0).toNatClampNeg) (nI b) 45 0 = _
      rw [q_wr1, if_neg (by omega)]
      exact r0
    rw [show (I, L, d).1 45 0 = nI s.1 from r0, nI_clamp (show s.1 < 2 ^ 31 by omega)] at z1
    show (bif z_in (q_wr I 46 s.1 (nI b) 45 0) 8 then (bif z_in (nI b) 8 then (bif z_in (nI b) 8 then z_bd (z_M 105 [.ref 50, .ref (54 + 2 * b)] (q_wr (q_wr (q_wr I1 47 ((q_wr I 46 s.1 (nI b) 45 0).toNatClampNeg) (nI (q_fs a s.2.2.2.2 b))) 48 b (q_wr I1 47 ((q_wr I 46 s.1 (nI b) 45 0).toNatClampNeg) (nI (q_fs a s.2.2.2.2 b)) 45 0)) 45 0 (q_wr (q_wr I1 47 ((q_wr I 46 s.1 (nI b) 45 0).toNatClampNeg) (nI (q_fs a s.2.2.2.2 b))) 48 b (q_wr I1 47 ((q_wr I 46 s.1 (nI b) 45 0).toNatClampNeg) (nI (q_fs a s.2.2.2.2 b)) 45 0) 45 0 + 1), L, d)) (fun r3 h4 => some (0, h4)) else none) else none) else none) = _
    rw [show q_wr I 46 s.1 (nI b) 45 0 = nI s.1 from z1, q_inC (show s.1 < 8 by omega) (by decide), q_inC (show b < 8 by omega) (by decide), q_inC (show b < 8 by omega) (by decide), nI_clamp (show s.1 < 2 ^ 31 by omega), w1, w2, nI_1, ← eJ, j1, z_bd_some]
  · rw [n2, if_neg (by omega), if_neg (by omega), if_neg (by omega), if_neg (by omega)]
  · rw [n2, if_pos ⟨rfl, rfl⟩]
    rfl
  · have hi : i < s.1 + 1 := hi
    show _ = nI (if i = s.1 then b else s.2.1 i) ∧ _ = nI (if i = s.1 then q_fs a s.2.2.2.2 b else s.2.2.1 i)
    have j46 : J 46 i = if i = s.1 then nI b else I 46 i := by
      rw [n2, if_neg (show ¬ (46 = 45 ∧ i = 0) by omega), if_neg (show ¬ (46 = 48 ∧ i = b) by omega), if_neg (show ¬ (46 = 47 ∧ i = s.1) by omega)]
      by_cases his : i = s.1
      · rw [if_pos ⟨rfl, his⟩, if_pos his]
      · rw [if_neg (fun q => his q.2), if_neg his]
    have j47 : J 47 i = if i = s.1 then nI (q_fs a s.2.2.2.2 b) else I 47 i := by
      rw [n2, if_neg (show ¬ (47 = 45 ∧ i = 0) by omega), if_neg (show ¬ (47 = 48 ∧ i = b) by omega)]
      by_cases his : i = s.1
      · rw [if_pos ⟨rfl, his⟩, if_pos his]
      · rw [if_neg (fun q => his q.2), if_neg his, if_neg (by omega)]
    rw [j46, j47]
    by_cases his : i = s.1
    · rw [if_pos his, if_pos his, if_pos his, if_pos his]
      exact ⟨rfl, rfl⟩
    · rw [if_neg his, if_neg his, if_neg his, if_neg his]
      exact r1 i (by omega)
  · show _ = q_v (if t = b then s.1 else s.2.2.2.1 t)
    rw [n2, if_neg (by omega)]
    by_cases htb : t = b
    · rw [if_pos ⟨rfl, htb⟩, if_pos htb, q_vn (by omega)]
    · rw [if_neg (fun q => htb q.2), if_neg htb, if_neg (by omega), if_neg (by omega)]
      exact r2 t ht
  · exact r4.1.congr (fun k => j3 _ k (by omega))
  · exact (r4.2 t ht).congr (fun k => j3 _ k (by omega))
theorem q_cRankAll : ∀ f i s I L d, i + f = a 2 → s.1 = i → q_now I a → q_co a I L s → q_oi a s → ∃ I' L', zl_Ch_rankAll_30 (nI i) (I, L, d) = some (0, (I', L', d)) ∧ q_frO I I' L L' ∧ q_co a I' L' (q_od a f s) := by
  intro f
  induction f with
  | zero =>
    intro i s I L d hi hk ha hr hs
    have o2 := ha.1.2.2.1
    refine ⟨I, L, ?_, q_frO.refl, hr⟩
    rw [e_Ch_rankAll_30]
    show (if I 33 0 ≤ nI i then _ else _) = _
    rw [show I 33 0 = nI (a 2) from ha.2.2.2.2.1, if_pos (nI_le (by omega) (by omega))]
  | succ f ih =>
    intro i s I L d hi hk ha hr hs
    have o2 := ha.1.2.2.1
    have hn := q_cNextOne (d := d) ha hr hs (a 2) 0 999 0 (by omega) (Or.inl rfl) (by decide)
    have e1 : zl_Ch_rankAll_30 (nI i) (I, L, d) = (if ¬ q_v (q_bb a s).1 = (-4) then z_bd (z_M 121 [.ref 45, .int (q_v (q_bb a s).1)] (I, L, d)) (fun r3 h4 => zl_Ch_rankAll_30 (nI (i + 1)) h4) else some (0, (I, L, d))) := by
      rw [e_Ch_rankAll_30]
      show (if I 33 0 ≤ nI i then _ else _) = _
      rw [show I 33 0 = nI (a 2) from ha.2.2.2.2.1, if_neg (nI_ge (by omega) (by omega)), e_Ch_nextOne, show zl_Ch_nextOne_7 (-4) 0 0 (I, L, d) = _ from hn, z_bd_some, nI_1]
      rfl
    have eo : q_od a (f + 1) s = (if (q_bb a s).1 = 999 then s else q_od a f (q_ou a s (q_bb a s).1)) := rfl
    rw [e1, eo]
    by_cases hb : (q_bb a s).1 = 999
    · rw [hb, if_neg (show ¬ ¬ q_v 999 = -4 from fun q => q rfl), if_pos rfl]
      exact ⟨I, L, rfl, q_frO.refl, hr⟩
    · have g := (q_bb_ok ha.1 s).1.resolve_left hb
      rw [if_pos (q_vm (by omega)), if_neg hb, q_vn hb]
      obtain ⟨I1, L1, t1, t2, t3⟩ := q_cRank (d := d) ha hr hs g.1 (by omega) g.2.1
      obtain ⟨I', L', u1, u2, u3⟩ := ih (i + 1) (q_ou a s (q_bb a s).1) I1 L1 d (by omega) (by show s.1 + 1 = i + 1; omega) (t2.now ha) t3 (q_ou_ok ha.1 hs g.1 g.2.1).1
      exact ⟨I', L', by rw [t1, z_bd_some]; exact u1, t2.trans u2, u3⟩
theorem q_cChoose {I : Nat → Nat → Int32} {L : Nat → Nat → Int64} {d : Nat} (ha : q_now I a) : ∃ I' L' d', z_M 114 [.ref 45] (I, L, d) = some (0, (I', L', d')) ∧ q_frO I I' L L' ∧ q_co a I' L' (q_or a) := by
  obtain ⟨I1, L1, k1, k2, k3⟩ := q_cCompare (L := L) (d := d) ha
  have f1 : q_frO I I1 L L1 := ⟨fun o k q => k2.1 o k (by omega), fun o k q => k2.2 o k (by omega)⟩
  obtain ⟨I2, L2, d2, j1, j2, j3⟩ := q_cCover (a := a) (a 2) 0 I1 L1 d (by omega) (f1.now ha) ⟨k3, fun t ht => absurd ht (Nat.not_lt_zero t)⟩
  have ha2 := j2.now (f1.now ha)
  obtain ⟨I3, w1, w2⟩ := q_fillI (o := 48) (by decide +kernel) (-4) (q_wr I2 45 0 0) L2 d2
  obtain ⟨L3, u1, u2, u3⟩ := q_es_as (o := 50) (p := 41) (I := I3) (d := d2) (by decide) j3.1
  have f3 : q_frO I2 I3 L2 L3 := ⟨fun o k q => by rw [w2, if_neg (by omega), q_wr1, if_neg (by omega)], fun o k q => u3 o k (by omega)⟩
  have hr0 : q_co a I3 L3 (q_o0 a) := ⟨by rw [w2, if_neg (by omega), q_wr1, if_pos ⟨rfl, rfl⟩]; rfl, fun i hi => absurd hi (Nat.not_lt_zero i), fun t _ => by rw [w2, if_pos rfl]; rfl, u2, j3.1.congr (fun k => u3 _ k (by omega)), fun t ht => (j3.2 t ht).congr (fun k => u3 _ k (by omega))⟩
  obtain ⟨I4, L4, t1, t2, t3⟩ := q_cRankAll (a := a) (a 2) 0 (q_o0 a) I3 L3 d2 (by omega) rfl (f3.now ha2) hr0 (q_o0_ok a ha.1)
  refine ⟨I4, L4, d2, ?_, ((f1.trans j2).trans f3).trans t2, t3⟩
  rw [e_Ch_choose, k1, z_bd_some, show zl_Ch_choose_9 0 (I1, L1, d) = _ from j1, e_Ch_rankAll]
  show z_bd (z_bd (z_M 902 [.ref 48, .int (-4)] (q_wr I2 45 0 0, L2, d2)) _) _ = _
  rw [w1, z_bd_some, u1, z_bd_some, show zl_Ch_rankAll_30 0 (I3, L3, d2) = _ from t1, z_bd_some]
end QCO
