/-! THE PURE PART: read -/
def q_fr (R : Nat → Bool) : Nat → Nat → Nat
  | 0, i => i
  | n + 1, i => if R i = true then q_fr R n (i + 1) else i
theorem q_fr_all {R : Nat → Bool} : ∀ n i, q_fr R n i = i + n ↔ ∀ j, i ≤ j → j < i + n → R j = true := by
  intro n
  induction n with
  | zero => intro i; exact ⟨fun _ j j1 j2 => absurd j2 (by omega), fun _ => rfl⟩
  | succ n ih =>
    intro i
    unfold q_fr
    by_cases hr : R i = true
    · rw [if_pos hr, show i + (n + 1) = i + 1 + n by omega, ih (i + 1)]
      constructor
      · intro q j j1 j2
        by_cases hj : j = i
        · rw [hj]; exact hr
        · exact q j (by omega) (by omega)
      · intro q j j1 j2
        exact q j (by omega) (by omega)
    · rw [if_neg hr]
      constructor
      · intro q
        omega
      · intro q
        exact absurd (q i (Nat.le_refl _) (by omega)) hr
theorem q_fr_le {R : Nat → Bool} : ∀ n i, i ≤ q_fr R n i ∧ q_fr R n i ≤ i + n := by
  intro n
  induction n with
  | zero => intro i; exact ⟨Nat.le_refl _, Nat.le_refl _⟩
  | succ n ih =>
    intro i
    unfold q_fr
    have := ih (i + 1)
    split
    · omega
    · omega
theorem q_isN_ld {a : Nat → Nat} {m i k t : Nat} (ho : q_ok a) (hm : m < 6) (hi : i < 8) (hk : k < 2) (x y : Int32) : q_isN (q_ld a m i k t) x y = q_isN a x y := by
  have o0 := ho.1
  have hb := q_atb (p := 1) (by decide) hm hi
  have e : ∀ j, j < 269 → q_ld a m i k t j = a j := fun j hj => by rw [q_ld_at hk, if_neg (by omega)]
  unfold q_isN
  rw [e 0 (by omega)]
  cases hx : z_in x (a 0) with
  | false => rfl
  | true =>
    obtain ⟨n, hn, rfl⟩ := q_inT (by omega) hx
    rw [nI_clamp (by omega), e (7 + n) (by omega)]
theorem q_mayT_ld {a : Nat → Nat} {m i k t : Nat} (ho : q_ok a) (hm : m < 6) (hi : i < 8) (hk : k < 2) (x y z w : Int32) : q_mayT (q_ld a m i k t) x y z w = q_mayT a x y z w := by
  unfold q_mayT q_hasN
  rw [q_isN_ld ho hm hi hk, q_isN_ld ho hm hi hk]
  cases hx : q_isN a x y with
  | false => rfl
  | true =>
    obtain ⟨m', i', hm', hi', hm6, hi8, rfl, rfl⟩ := q_isNT ho hx
    rw [nI_clamp (by omega), nI_clamp (by omega), q_ld_at hk, if_neg (by unfold q_at; omega)]
def q_rdR (a : Nat → Nat) (C : Nat → Int32) (f i : Nat) : Bool := q_mayT a (C (f + 4 * i)) (C (f + 4 * i + 1)) (C (f + 4 * i + 2)) (C (f + 4 * i + 3))
def q_lds (a : Nat → Nat) (C : Nat → Int32) (f : Nat) : Nat → Nat → Nat
  | 0 => a
  | i + 1 => q_ld (q_lds a C f i) (C (f + 4 * i)).toNatClampNeg (C (f + 4 * i + 1)).toNatClampNeg (C (f + 4 * i + 2)).toNatClampNeg (C (f + 4 * i + 3)).toNatClampNeg
theorem q_lds_ok {a : Nat → Nat} {C : Nat → Int32} {f : Nat} (ho : q_ok a) : ∀ i, (∀ j, j < i → q_rdR a C f j = true) → q_ok (q_lds a C f i) ∧ (∀ x y z w, q_mayT (q_lds a C f i) x y z w = q_mayT a x y z w) ∧ ∀ j, (j < 269 ∨ 509 ≤ j) → q_lds a C f i j = a j := by
  intro i
  induction i with
  | zero => intro _; exact ⟨ho, fun _ _ _ _ => rfl, fun _ _ => rfl⟩
  | succ i ih =>
    intro hR
    obtain ⟨g1, g2, g3⟩ := ih (fun j hj => hR j (by omega))
    have hr : q_mayT (q_lds a C f i) (C (f + 4 * i)) (C (f + 4 * i + 1)) (C (f + 4 * i + 2)) (C (f + 4 * i + 3)) = true := (g2 _ _ _ _).trans (hR i (by omega))
    obtain ⟨m, n, k, t, hm, hn, hm6, hn8, hk, hk2, ht10, ht9, e1, e2, e3, e4⟩ := q_mayTT g1 hr
    have c1 : (C (f + 4 * i)).toNatClampNeg = m := by rw [e1]; exact nI_clamp (by omega)
    have c2 : (C (f + 4 * i + 1)).toNatClampNeg = n := by rw [e2]; exact nI_clamp (by omega)
    have c3 : (C (f + 4 * i + 2)).toNatClampNeg = k := by rw [e3]; exact nI_clamp (by omega)
    have c4 : (C (f + 4 * i + 3)).toNatClampNeg = t := by rw [e4]; exact nI_clamp (by omega)
    have hb := q_atb (p := 1) (by decide) hm6 hn8
    unfold q_lds
    rw [c1, c2, c3, c4]
    refine ⟨q_ld_ok g1 hm hn hk2 ht9, fun x y z w => (q_mayT_ld g1 hm6 hn8 hk2 x y z w).trans (g2 x y z w), fun j hj => ?_⟩
    rw [q_ld_at hk2, if_neg (by omega)]
    exact g3 j hj
section QRD
variable {a : Nat → Nat} {o s f W : Nat} {x2 : Int32} {C : Nat → Int32}
theorem q_cell {h : z_H} {j : Nat} (hi : o ∈ [114, 116, 118, 120]) (h1 : h.1 o 1 = nI s) (hs : s ≤ 40) (hj : j < s) (hC : ∀ j, j < 40 → h.1 (o + 1) j = C j) : z_M 124 [.ref o, .int (nI j)] h = some (C j, h) := by
  rw [e_Sh_cellAt hi, if_neg (nI_pos (by omega)), h1, if_neg (nI_ge hj (by omega)), q_inC (show j < 40 by omega) (by decide), nI_clamp (by omega), hC j (by omega)]
theorem q_cFirst {h : z_H} (hi : o ∈ [114, 116, 118, 120]) (ho : q_ok a) (hg : q_prg h.1 25 1 a) (h1 : h.1 o 1 = nI s) (hs : s ≤ 40) (hW : W ≤ 10) (hC : ∀ j, j < 40 → h.1 (o + 1) j = C j) (hx : 0 < W → x2 = nI f ∧ f + 4 * W ≤ s) : ∀ n i, i + n = W → zl_X_firstRefused_3 o x2 (nI W) (nI i) h = some (nI (q_fr (q_rdR a C f) n i), h) := by
  intro n
  induction n with
  | zero =>
    intro i hi'
    obtain rfl : i = W := by omega
    rw [e_X_firstRefused_3 hi, if_pos (nI_le (by omega) (by omega))]
    rfl
  | succ n ih =>
    intro i hi'
    obtain ⟨hx2, hf⟩ := hx (by omega)
    have e0 : x2 + 4 * nI i = nI (f + 4 * i) := by rw [hx2, n_4, pk_mul, nI_add]
    have e1 : nI (f + 4 * i) + 1 = nI (f + 4 * i + 1) := nI_add _ 1
    have e2 : nI (f + 4 * i) + 2 = nI (f + 4 * i + 2) := nI_add _ 2
    have e3 : nI (f + 4 * i) + 3 = nI (f + 4 * i + 3) := nI_add _ 3
    rw [e_X_firstRefused_3 hi, if_neg (nI_ge (by omega) (by omega)), e0, e1, e2, e3, q_cell hi h1 hs (by omega) hC, z_bd_some, q_cell hi h1 hs (by omega) hC, z_bd_some, q_cell hi h1 hs (by omega) hC, z_bd_some, q_cell hi h1 hs (by omega) hC, z_bd_some, q_cMay ho hg, z_bd_some, nI_1]
    show (if ¬ q_b (q_rdR a C f i) = 0 then _ else _) = some (nI (if q_rdR a C f i = true then _ else _), h)
    cases hr : q_rdR a C f i with
    | false => rw [if_neg (fun q => q (by decide)), if_neg (by decide)]
    | true =>
      rw [if_pos (by decide), if_pos rfl]
      exact ih (i + 1) (by omega)
theorem q_cTurnAll (hi : o ∈ [114, 116, 118, 120]) (ho : q_ok a) (hs : s ≤ 40) (hW : W ≤ 10) (hx : 0 < W → x2 = nI f ∧ f + 4 * W ≤ s) (hR : ∀ j, j < W → q_rdR a C f j = true) : ∀ n i h, i + n = W → q_prg h.1 25 1 (q_lds a C f i) → h.1 o 1 = nI s → (∀ j, j < 40 → h.1 (o + 1) j = C j) → ∃ h1, zl_X_turnAll_3 o x2 (nI W) (nI i) h = some (0, h1) ∧ q_prg h1.1 25 1 (q_lds a C f W) ∧ ∀ o j, o ≠ 30 → h1.1 o j = h.1 o j := by
  have ho4 : o = 114 ∨ o = 116 ∨ o = 118 ∨ o = 120 := by simpa using hi
  intro n
  induction n with
  | zero =>
    intro i h hi' hg h1 hC
    obtain rfl : i = W := by omega
    exact ⟨h, by rw [e_X_turnAll_3 hi, if_pos (nI_le (by omega) (by omega))], hg, fun _ _ _ => rfl⟩
  | succ n ih =>
    intro i h hi' hg h1 hC
    obtain ⟨hx2, hf⟩ := hx (by omega)
    have e0 : x2 + 4 * nI i = nI (f + 4 * i) := by rw [hx2, n_4, pk_mul, nI_add]
    have e1 : nI (f + 4 * i) + 1 = nI (f + 4 * i + 1) := nI_add _ 1
    have e2 : nI (f + 4 * i) + 2 = nI (f + 4 * i + 2) := nI_add _ 2
    have e3 : nI (f + 4 * i) + 3 = nI (f + 4 * i + 3) := nI_add _ 3
    obtain ⟨g1, g2, g3⟩ := q_lds_ok ho i (fun j hj => hR j (by omega))
    have hr : q_mayT (q_lds a C f i) (C (f + 4 * i)) (C (f + 4 * i + 1)) (C (f + 4 * i + 2)) (C (f + 4 * i + 3)) = true := (g2 _ _ _ _).trans (hR i (by omega))
    obtain ⟨m, v, k, t, hm, hn, hm6, hn8, hk, hk2, ht10, ht9, c1, c2, c3, c4⟩ := q_mayTT g1 hr
    have hl : q_lds a C f (i + 1) = q_ld (q_lds a C f i) m v k t := by
      show q_ld (q_lds a C f i) _ _ _ _ = _
      rw [c1, c2, c3, c4, nI_clamp (by omega), nI_clamp (by omega), nI_clamp (by omega), nI_clamp (by omega)]
    have hg' := q_ld_prg (t := t) g1 hg hm hn hk
    rw [← hl] at hg'
    obtain ⟨h2, k1, k2, k3⟩ := ih (i + 1) (z_wI h 30 (16 * m + 2 * v + k) (nI t)) (by omega) hg' (by rw [z_wI1, if_neg (by omega)]; exact h1) (fun j hj => by rw [z_wI1, if_neg (by omega)]; exact hC j hj)
    refine ⟨h2, ?_, k2, fun o j q => ?_⟩
    · rw [e_X_turnAll_3 hi, if_neg (nI_ge (by omega) (by omega)), e0, e1, e2, e3, q_cell hi h1 hs (by omega) hC, z_bd_some, q_cell hi h1 hs (by omega) hC, z_bd_some, q_cell hi h1 hs (by omega) hC, z_bd_some, q_cell hi h1 hs (by omega) hC, z_bd_some, c1, c2, c3, c4, q_cTurn g1 hg hm hn hk, z_bd_some, nI_1]
      exact k1
    · rw [k3 o j q, z_wI1, if_neg (by omega)]
end QRD
/-! the reference's walk over the cells -/
theorem q_p64 (x : Int32) {u v : Nat} (hu : u < 2 ^ 31) (hv : v < 2 ^ 31) : ((x.toInt64 + (nI u).toInt64) + (nI v).toInt64).toInt = x.toInt + u + v := by
  have h1 := Int32.le_toInt x
  have h2 := Int32.toInt_lt x
  have a1 : (x.toInt64 + (nI u).toInt64).toInt = x.toInt + u := by
    rw [Int64.toInt_add, Int32.toInt_toInt64, Int32.toInt_toInt64, nI_toInt hu]
    exact Int.bmod_eq_of_le (by omega) (by omega)
  rw [Int64.toInt_add, a1, Int32.toInt_toInt64, nI_toInt hv]
  exact Int.bmod_eq_of_le (by omega) (by omega)
section QR2
variable {k l s i n : Nat} {f : Int32} {h : z_H} {x6 : Int32}
theorem q_r78 {c : Nat} (hk : k < 4) (hc : c < 4) (hi : i < 10) (h137 : h.1 137 k = nI l) (h138 : h.1 138 k = nI s) (hl : l < 3) (hs : s ≤ 40) : zl_M_read_78 (nI k) (nI l) f (nI n) 0 x6 (nI i) (nI c) h = if f.toInt + (4 * i : Nat) + c < 0 ∨ (s : Int) ≤ f.toInt + (4 * i : Nat) + c then zl_M_read_165 (nI k) (nI l) f (nI n) 2 x6 (nI i) h else zl_M_read_78 (nI k) (nI l) f (nI n) 0 x6 (nI i) (nI (c + 1)) h := by
  have c1 : ¬ nI l = -4 := fun q => by
    have h1 : nI l < 0 := by rw [q]; decide
    exact nI_pos (by omega) h1
  have o2 : ∀ x8, zl_M_read_78 (nI k) (nI l) f (nI n) 2 x6 (nI i) x8 h = zl_M_read_165 (nI k) (nI l) f (nI n) 2 x6 (nI i) h := fun x8 => by
    rw [e_M_read_78]
    by_cases q : (4 : Int32) ≤ x8
    · rw [if_pos q]
    · rw [if_neg q, if_pos (by decide)]
  have e4 : (4 : Int32) * nI i = nI (4 * i) := by rw [n_4, pk_mul]
  rw [e_M_read_78, n_4, if_neg (nI_ge hc (by decide)), if_neg (fun q => q rfl), q_int hk (by decide), nI_clamp (by omega), h137, h138, o2, nI_1]
  simp only [cond_true]
  rw [show (-nI 4 : Int32) = -4 from rfl, if_pos c1, if_pos trivial, show nI 4 * nI i = nI (4 * i) from pk_mul 4 i]
  have hp := q_p64 f (u := 4 * i) (v := c) (by omega) (by omega)
  by_cases q1 : f.toInt + (4 * i : Nat) + c < 0
  · rw [if_pos (q_cmp_lt.mpr (by rw [hp]; exact q1)), if_pos (Or.inl q1)]
  · rw [if_neg (fun q => q1 (by have := q_cmp_lt.mp q; rw [hp] at this; exact this))]
    by_cases q2 : f.toInt + (4 * i : Nat) + c < (s : Int)
    · rw [if_pos (q_cmp_lt.mpr (by rw [hp, q_l64, nI_toInt (by omega)]; exact q2)), if_neg (by omega)]
    · rw [if_neg (fun q => q2 (by have := q_cmp_lt.mp q; rw [hp, q_l64, nI_toInt (by omega)] at this; exact this)), if_pos (by omega)]
theorem q_r63 {r : Int32} (hr : ¬ r = 0) {x7 : Int32} : zl_M_read_63 (nI k) (nI l) f (nI n) r x6 x7 h = some (x6, z_wI h 122 33 r) := by
  rw [e_M_read_63]
  by_cases q : nI n ≤ x7
  · rw [if_pos q]
  · rw [if_neg q, if_pos hr]
theorem q_r165 {r : Int32} (hr : ¬ r = 0) {x7 : Int32} : zl_M_read_165 (nI k) (nI l) f (nI n) r x6 x7 h = some (x6, z_wI h 122 33 r) := by
  rw [e_M_read_165, if_pos hr, q_r63 hr]
/-- not all four of them are there -/
theorem q_r78out (hk : k < 4) (hi : i < 10) (h137 : h.1 137 k = nI l) (h138 : h.1 138 k = nI s) (hl : l < 3) (hs : s ≤ 40) (ho : f.toInt + (4 * i : Nat) < 0 ∨ (s : Int) ≤ f.toInt + (4 * i : Nat) + 3) : zl_M_read_78 (nI k) (nI l) f (nI n) 0 x6 (nI i) 0 h = some (x6, z_wI h 122 33 2) := by
  have st := fun c (hc : c < 4) => q_r78 (f := f) (n := n) (x6 := x6) hk hc hi h137 h138 hl hs
  have e2 : zl_M_read_165 (nI k) (nI l) f (nI n) 2 x6 (nI i) h = some (x6, z_wI h 122 33 2) := q_r165 (by decide)
  refine (st 0 (by decide)).trans ?_
  split
  · exact e2
  · refine (st 1 (by decide)).trans ?_
    split
    · exact e2
    · refine (st 2 (by decide)).trans ?_
      split
      · exact e2
      · refine (st 3 (by decide)).trans ?_
        rw [if_pos (by omega)]
        exact e2
theorem q_r78in (hk : k < 4) (hi : i < 10) (h137 : h.1 137 k = nI l) (h138 : h.1 138 k = nI s) (hl : l < 3) (hs : s ≤ 40) (h0 : 0 ≤ f.toInt) (h3 : f.toInt + (4 * i : Nat) + 3 < (s : Int)) : zl_M_read_78 (nI k) (nI l) f (nI n) 0 x6 (nI i) 0 h = zl_M_read_165 (nI k) (nI l) f (nI n) 0 x6 (nI i) h := by
  have st := fun c (hc : c < 4) => q_r78 (f := f) (n := n) (x6 := x6) hk hc hi h137 h138 hl hs
  refine (st 0 (by decide)).trans ?_
  rw [if_neg (by omega)]
  refine (st 1 (by decide)).trans ?_
  rw [if_neg (by omega)]
  refine (st 2 (by decide)).trans ?_
  rw [if_neg (by omega)]
  refine (st 3 (by decide)).trans ?_
  rw [if_neg (by omega), e_M_read_78, if_pos (by decide)]
end QR2
theorem q_r227 (i : Nat) (h : z_H) : ∃ h1, zl_M_read_227 (nI i) 0 h = some (-20 - nI i, h1) ∧ (∀ j, j < 549 → h1.1 123 j = h.1 140 j) ∧ ∀ o j, o ≠ 123 → h1.1 o j = h.1 o j := by
  refine ⟨q_it (fun i h => z_wI h 123 (0 + i) (h.1 140 (0 + i))) 0 549 h, ?_, fun j hj => ?_, fun o j q => ?_⟩
  · refine q_loop (L := fun x h => zl_M_read_227 (nI i) x h) (K := fun h => some (-20 - nI i, h)) (N := 549) (fun j h hj => ?_) (fun h => ?_) 549 0 _ rfl
    · show zl_M_read_227 (nI i) (nI j) h = _
      rw [e_M_read_227, n_549, if_neg (nI_ge hj (by decide)), q_inC hj (by decide), q_inC hj (by decide), nI_clamp (by omega), Nat.zero_add]
    · show zl_M_read_227 (nI i) (nI 549) h = _
      rw [e_M_read_227, if_pos (by decide)]
  · have := (q_copy (o := 123) (c := 0) (o2 := 140) (d := 0) (N := 549) (fun i j _ _ => by omega) 549 0 h (by omega)).1 123 j
    rw [this, if_pos (by omega), Nat.sub_zero, Nat.zero_add]
  · have := (q_copy (o := 123) (c := 0) (o2 := 140) (d := 0) (N := 549) (fun i j _ _ => by omega) 549 0 h (by omega)).1 o j
    rw [this, if_neg (by omega)]
