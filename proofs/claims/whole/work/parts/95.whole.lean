/-! THE PURE PART: whether a draft is whole: told, and asked by both -/
def q_aA (p : Nat → Bool) : Nat → Nat → Bool
  | 0, _ => true
  | f + 1, k => p k && q_aA p f (k + 1)
theorem q_aA_iff {p : Nat → Bool} : ∀ f k, q_aA p f k = true ↔ ∀ j, k ≤ j → j < k + f → p j = true := by
  intro f
  induction f with
  | zero => intro k; exact ⟨fun _ j h1 h2 => absurd h2 (by omega), fun _ => rfl⟩
  | succ f ih =>
    intro k
    show (p k && q_aA p f (k + 1)) = true ↔ _
    rw [Bool.and_eq_true, ih]
    refine ⟨fun h j h1 h2 => ?_, fun h => ⟨h k (Nat.le_refl _) (by omega), fun j h1 h2 => h j (by omega) (by omega)⟩⟩
    by_cases hj : j = k
    · rw [hj]; exact h.1
    · exact h.2 j (by omega) (by omega)
def q_l3 (a : Nat → Nat) (m i k : Nat) : Bool := decide (a (q_at 0 m i + 3 + k) = 9) || decide (a (q_at 0 m i + 3 + k) < a (7 + m))
def q_l2 (a : Nat → Nat) (m i : Nat) : Bool := q_aA (q_l3 a m i) (a (q_at 0 m i + 2)) 0
def q_l1 (a : Nat → Nat) (m : Nat) : Bool := q_aA (q_l2 a m) (a (7 + m)) 0
def q_l0 (a : Nat → Nat) : Bool := q_aA (q_l1 a) (a 0) 0
def q_wh (a : Nat → Nat) (hc hm : Nat) : Bool := decide (hc ≤ a 1) && (decide (hm ≤ a 0) && q_l0 a)
theorem q_hi_c {lo : Int32} {A c : Nat} (hlo : lo < 0) (hA : A < 300) (hc : c < 300) : (nI A ≤ q_hi lo c) = ¬ c ≤ A := by
  unfold q_hi
  by_cases h0 : c = 0
  · rw [if_pos h0]
    refine propext ⟨fun q => ?_, fun q => absurd (by omega : c ≤ A) q⟩
    exfalso
    have h1 : (0 : Int32) ≤ nI A := nI_le (a := 0) (Nat.zero_le A) (by omega)
    rw [Int32.lt_iff_toInt_lt] at hlo
    rw [Int32.le_iff_toInt_le] at h1 q
    omega
  · rw [if_neg h0]
    refine propext ⟨fun q r => ?_, fun q => nI_le (by omega) (by omega)⟩
    exact absurd q (nI_ge (by omega) (by omega))
theorem q_e24 (x1 x2 x3 : Int32) (h : z_H) : zl_P_leadsOnlyToNodes_24 4 x1 x2 x3 h = z_bd (z_M 42 [.int x1, .int x2] h) (fun r1 h2 => (bif z_in r1 48 then (if h2.1 8 (r1.toNatClampNeg) ≤ x3 then zl_P_leadsOnlyToNodes_12 4 x1 (x2 + 1) h2 else z_bd (z_M 75 [.ref 4, .int x1, .int x2, .int x3] h2) (fun r3 h4 => (if r3 = 9 then zl_P_leadsOnlyToNodes_24 4 x1 x2 (x3 + 1) h4 else z_bd (z_M 75 [.ref 4, .int x1, .int x2, .int x3] h4) (fun r5 h6 => (bif z_in x1 6 then (if r5 < h6.1 5 (x1.toNatClampNeg) then zl_P_leadsOnlyToNodes_24 4 x1 x2 (x3 + 1) h6 else some (0, h6)) else none))))) else none)) := e_P_leadsOnlyToNodes_24 (o := 4) (by decide) x1 x2 x3 h
theorem q_e12 (x1 x2 : Int32) (h : z_H) : zl_P_leadsOnlyToNodes_12 4 x1 x2 h = (bif z_in x1 6 then (if h.1 5 (x1.toNatClampNeg) ≤ x2 then zl_P_leadsOnlyToNodes_2 4 (x1 + 1) h else zl_P_leadsOnlyToNodes_24 4 x1 x2 0 h) else none) := e_P_leadsOnlyToNodes_12 (o := 4) (by decide) x1 x2 h
theorem q_e2 (x1 : Int32) (h : z_H) : zl_P_leadsOnlyToNodes_2 4 x1 h = (if h.1 4 0 ≤ x1 then some (1, h) else zl_P_leadsOnlyToNodes_12 4 x1 0 h) := e_P_leadsOnlyToNodes_2 (o := 4) (by decide) x1 h
section QWH
variable {a : Nat → Nat} {hc hm : Nat}
theorem q_nx4 {m i k : Nat} (hm : m < 6) (hi : i < 8) (hk : k < 2) (h : z_H) : z_M 75 [.ref 4, .int (nI m), .int (nI i), .int (nI k)] h = some (h.1 9 (16 * m + 2 * i + k), h) := by
  rw [e_P_nextOf (o := 4) (by decide), q_edgeN, z_bd_some, q_inC (show 16 * m + 2 * i + k < 96 by omega) (by decide), nI_clamp (by omega)]
theorem q_c24 {h : z_H} {m i : Nat} (hd : q_dk a hc hm) (hg : q_cDr h.1 a) (hm0 : m < a 0) (hi : i < a (7 + m)) : ∀ f k, k + f = a (q_at 0 m i + 2) → zl_P_leadsOnlyToNodes_24 4 (nI m) (nI i) (nI k) h = if q_aA (q_l3 a m i) f k = true then zl_P_leadsOnlyToNodes_12 4 (nI m) (nI (i + 1)) h else some (0, h) := by
  have hm6 : m < 6 := by have := hd.1.1; omega
  have hi8 : i < 8 := by have := (hd.1.2.2.2 m hm6).1; omega
  obtain ⟨c1, c2⟩ := hg.2.1 m i hm6 hi8
  have g8 := (c1 hi).2.2
  have g5 := hg.1.2.2 m hm0
  obtain ⟨_, _, _, w2, w5⟩ := (hd.2.1 m i hm6 hi8).2 hi
  have h7 := (hd.1.2.2.2 m hm6).1
  intro f
  induction f with
  | zero =>
    intro k hk
    rw [q_e24, q_place, z_bd_some, q_inC (show 8 * m + i < 48 by omega) (by decide), nI_clamp (by omega), g8, if_pos (nI_le (by omega) (by omega)), nI_1]
    rfl
  | succ f ih =>
    intro k hk
    obtain ⟨v, ev⟩ : ∃ v, v = a (q_at 0 m i + 3 + k) := ⟨_, rfl⟩
    have g9 : h.1 9 (16 * m + 2 * i + k) = nI v := by
      rw [c2 k (by omega), if_pos (by omega), ev]
    have hv := w5 k (by omega)
    rw [← ev] at hv
    have hl : q_l3 a m i k = (decide (v = 9) || decide (v < a (7 + m))) := by rw [ev]; rfl
    rw [q_e24, q_place, z_bd_some, q_inC (show 8 * m + i < 48 by omega) (by decide), nI_clamp (by omega), g8, if_neg (nI_ge (by omega) (by omega)), q_nx4 hm6 hi8 (by omega), z_bd_some, g9]
    show _ = if (q_l3 a m i k && q_aA (q_l3 a m i) f (k + 1)) = true then _ else _
    rw [hl]
    by_cases h9 : v = 9
    · rw [if_pos (show nI v = 9 by rw [h9]; rfl), decide_eq_true h9, Bool.true_or, Bool.true_and, nI_1]
      exact ih (k + 1) (by omega)
    · rw [if_neg (show ¬ nI v = 9 from fun q => h9 ((nI_eq (b := 9) (by omega) (by decide)).mp q)), decide_eq_false h9, Bool.false_or, q_nx4 hm6 hi8 (by omega), z_bd_some, g9, q_inC hm6 (by decide), nI_clamp (by omega), g5]
      by_cases hlt : v < a (7 + m)
      · rw [if_pos (nI_lt hlt (by omega)), decide_eq_true hlt, Bool.true_and, nI_1]
        exact ih (k + 1) (by omega)
      · rw [if_neg (nI_nlt (by omega) (by omega)), decide_eq_false hlt, Bool.false_and, if_neg (by decide)]
theorem q_c12 {h : z_H} {m : Nat} (hd : q_dk a hc hm) (hg : q_cDr h.1 a) (hm0 : m < a 0) : ∀ f i, i + f = a (7 + m) → zl_P_leadsOnlyToNodes_12 4 (nI m) (nI i) h = if q_aA (q_l2 a m) f i = true then zl_P_leadsOnlyToNodes_2 4 (nI (m + 1)) h else some (0, h) := by
  have hm6 : m < 6 := by have := hd.1.1; omega
  have g5 := hg.1.2.2 m hm0
  have h7 := (hd.1.2.2.2 m hm6).1
  intro f
  induction f with
  | zero =>
    intro i hi
    rw [q_e12, q_inC hm6 (by decide), nI_clamp (by omega), g5, if_pos (nI_le (by omega) (by omega)), nI_1]
    rfl
  | succ f ih =>
    intro i hi
    have e0 := q_c24 (i := i) hd hg hm0 (by omega) (a (q_at 0 m i + 2)) 0 (Nat.zero_add _)
    have e0 : zl_P_leadsOnlyToNodes_24 4 (nI m) (nI i) 0 h = if q_l2 a m i = true then zl_P_leadsOnlyToNodes_12 4 (nI m) (nI (i + 1)) h else some (0, h) := e0
    rw [q_e12, q_inC hm6 (by decide), nI_clamp (by omega), g5, if_neg (nI_ge (by omega) (by omega)), e0]
    show _ = if (q_l2 a m i && q_aA (q_l2 a m) f (i + 1)) = true then _ else _
    cases q_l2 a m i with
    | true => rw [if_pos rfl, Bool.true_and]; exact ih (i + 1) (by omega)
    | false => rw [if_neg (by decide), Bool.false_and, if_neg (by decide)]
theorem q_c2w {h : z_H} (hd : q_dk a hc hm) (hg : q_cDr h.1 a) : ∀ f m, m + f = a 0 → zl_P_leadsOnlyToNodes_2 4 (nI m) h = some (q_b (q_aA (q_l1 a) f m), h) := by
  have h06 := hd.1.1
  intro f
  induction f with
  | zero =>
    intro m hm
    rw [q_e2, hg.1.1, if_pos (nI_le (by omega) (by omega))]
    rfl
  | succ f ih =>
    intro m hm
    have e0 := q_c12 (m := m) hd hg (by omega) (a (7 + m)) 0 (Nat.zero_add _)
    have e0 : zl_P_leadsOnlyToNodes_12 4 (nI m) 0 h = if q_l1 a m = true then zl_P_leadsOnlyToNodes_2 4 (nI (m + 1)) h else some (0, h) := e0
    rw [q_e2, hg.1.1, if_neg (nI_ge (by omega) (by omega)), e0]
    show _ = some (q_b (q_l1 a m && q_aA (q_l1 a) f (m + 1)), h)
    cases q_l1 a m with
    | true => rw [if_pos rfl, Bool.true_and]; exact ih (m + 1) (by omega)
    | false => rw [if_neg (by decide), Bool.false_and]; rfl
theorem q_cWh {h : z_H} (hs : q_cS h.1 a hc hm) : z_M 67 [.ref 3] h = some (q_b (!q_wh a hc hm), h) := by
  obtain ⟨hd, hg, h7, h8⟩ := hs
  have h06 := hd.1.1
  have h14 := hd.1.2.1
  have hcl := hd.2.2.2.2.2
  have e0 : z_M 89 [.ref 4] h = some (q_b (q_l0 a), h) := by
    rw [e_P_leadsOnlyToNodes (o := 4) (by decide)]
    exact q_c2w hd hg (a 0) 0 (Nat.zero_add _)
  rw [e_Rd_tellsWhatIsNotThere, hg.1.1, hg.1.2.1, h7, h8, e0, z_bd_some]
  simp only [q_hi_c (lo := -4) (A := a 1) (c := hc) (by decide) (by omega) (by omega), q_hi_c (lo := -4) (A := a 0) (c := hm) (by decide) (by omega) (by omega)]
  unfold q_wh
  by_cases q1 : hc ≤ a 1
  · rw [if_neg (fun q => q q1), decide_eq_true q1, Bool.true_and]
    by_cases q2 : hm ≤ a 0
    · rw [if_neg (fun q => q q2), decide_eq_true q2, Bool.true_and]
      cases q_l0 a <;> rfl
    · rw [if_pos q2, decide_eq_false q2, Bool.false_and]
      rfl
  · rw [if_pos q1, decide_eq_false q1, Bool.false_and]
    rfl
theorem q_m70 {h : z_H} {m i : Nat} (hd : q_dk a hc hm) (hg : ∀ j, j < 549 → h.1 126 j = q_v (a j)) (hm0 : m < a 0) (hi : i < a (7 + m)) : ∀ f k x, k + f = a (q_at 0 m i + 2) → zl_M_isWhole_70 (q_b x) (nI m) (nI i) (nI (q_at 0 m i)) (nI k) h = zl_M_isWhole_46 (q_b (x && q_aA (q_l3 a m i) f k)) (nI m) (nI (i + 1)) h := by
  have hm6 : m < 6 := by have := hd.1.1; omega
  have hi8 : i < 8 := by have := (hd.1.2.2.2 m hm6).1; omega
  obtain ⟨_, _, _, w2, w5⟩ := (hd.2.1 m i hm6 hi8).2 hi
  have h7 := (hd.1.2.2.2 m hm6).1
  have hb := q_atb (p := 0) (by decide) hm6 hi8
  have g2 : h.1 126 (q_at 0 m i + 2) = nI (a (q_at 0 m i + 2)) := (hg _ (by omega)).trans (q_vn (by omega))
  have g7 : h.1 126 (7 + m) = nI (a (7 + m)) := (hg _ (by omega)).trans (q_vn (by omega))
  have e2 : nI (q_at 0 m i) + 2 = nI (q_at 0 m i + 2) := by rw [n_2, nI_add]
  have e7 : (7 : Int32) + nI m = nI (7 + m) := by rw [n_7, nI_add]
  intro f
  induction f with
  | zero =>
    intro k x hk
    rw [e_M_isWhole_70, e2, q_inC (show q_at 0 m i + 2 < 549 by omega) (by decide), nI_clamp (by omega), g2, if_pos (nI_le (by omega) (by omega)), nI_1]
    show _ = zl_M_isWhole_46 (q_b (x && true)) _ _ _
    rw [Bool.and_true]
  | succ f ih =>
    intro k x hk
    obtain ⟨v, ev⟩ : ∃ v, v = a (q_at 0 m i + 3 + k) := ⟨_, rfl⟩
    have hv := w5 k (by omega)
    rw [← ev] at hv
    have g3 : h.1 126 (q_at 0 m i + 3 + k) = nI v := by
      rw [hg _ (by omega), ← ev, q_vn (by omega)]
    have e3 : nI (q_at 0 m i) + 3 + nI k = nI (q_at 0 m i + 3 + k) := by rw [n_3, nI_add, nI_add]
    have hl : q_l3 a m i k = (decide (v = 9) || decide (v < a (7 + m))) := by rw [ev]; rfl
    rw [e_M_isWhole_70, e2, q_inC (show q_at 0 m i + 2 < 549 by omega) (by decide), nI_clamp (by omega), g2, if_neg (nI_ge (by omega) (by omega)), nI_1, e3]
    show _ = zl_M_isWhole_46 (q_b (x && (q_l3 a m i k && q_aA (q_l3 a m i) f (k + 1)))) _ _ _
    rw [hl]
    have i0 := ih (k + 1) false (by omega)
    have i1 := ih (k + 1) true (by omega)
    have i0 : zl_M_isWhole_70 0 (nI m) (nI i) (nI (q_at 0 m i)) (nI (k + 1)) h = zl_M_isWhole_46 0 (nI m) (nI (i + 1)) h := i0
    have i1 : zl_M_isWhole_70 1 (nI m) (nI i) (nI (q_at 0 m i)) (nI (k + 1)) h = zl_M_isWhole_46 (q_b (q_aA (q_l3 a m i) f (k + 1))) (nI m) (nI (i + 1)) h := i1
    cases x with
    | false =>
      rw [if_pos (show q_b false = 0 from rfl), i0, Bool.false_and]
      rfl
    | true =>
      rw [if_neg (show ¬ q_b true = 0 by decide), Bool.true_and, q_inC (show q_at 0 m i + 3 + k < 549 by omega) (by decide), nI_clamp (show q_at 0 m i + 3 + k < 2 ^ 31 by omega), g3]
      by_cases h9 : v = 9
      · rw [if_pos (show nI v = 9 by rw [h9]; rfl), decide_eq_true h9, Bool.true_or, Bool.true_and, i1]
      · rw [if_neg (show ¬ nI v = 9 from fun q => h9 ((nI_eq (b := 9) (by omega) (by decide)).mp q)), decide_eq_false h9, Bool.false_or, q_inC (show q_at 0 m i + 3 + k < 549 by omega) (by decide), e7, q_inC (show 7 + m < 549 by omega) (by decide), nI_clamp (show 7 + m < 2 ^ 31 by omega), g7]
        by_cases hlt : v < a (7 + m)
        · rw [if_neg (nI_ge hlt (by omega)), decide_eq_true hlt, Bool.true_and, i1]
        · rw [if_pos (nI_le (by omega) (by omega)), decide_eq_false hlt, Bool.false_and, i0]
          rfl
theorem q_m46 {h : z_H} {m : Nat} (hd : q_dk a hc hm) (hg : ∀ j, j < 549 → h.1 126 j = q_v (a j)) (hm0 : m < a 0) : ∀ f i x, i + f = a (7 + m) → zl_M_isWhole_46 (q_b x) (nI m) (nI i) h = zl_M_isWhole_34 (q_b (x && q_aA (q_l2 a m) f i)) (nI (m + 1)) h := by
  have hm6 : m < 6 := by have := hd.1.1; omega
  have h7 := (hd.1.2.2.2 m hm6).1
  have g7 : h.1 126 (7 + m) = nI (a (7 + m)) := (hg _ (by omega)).trans (q_vn (by omega))
  have e7 : (7 : Int32) + nI m = nI (7 + m) := by rw [n_7, nI_add]
  intro f
  induction f with
  | zero =>
    intro i x hi
    rw [e_M_isWhole_46, e7, q_inC (show 7 + m < 549 by omega) (by decide), nI_clamp (show 7 + m < 2 ^ 31 by omega), g7, if_pos (nI_le (by omega) (by omega)), nI_1]
    show _ = zl_M_isWhole_34 (q_b (x && true)) _ _
    rw [Bool.and_true]
  | succ f ih =>
    intro i x hi
    have e0 := q_m70 (i := i) hd hg hm0 (by omega) (a (q_at 0 m i + 2)) 0 x (Nat.zero_add _)
    have e0 : zl_M_isWhole_70 (q_b x) (nI m) (nI i) (nI (q_at 0 m i)) 0 h = zl_M_isWhole_46 (q_b (x && q_l2 a m i)) (nI m) (nI (i + 1)) h := e0
    rw [e_M_isWhole_46, e7, q_inC (show 7 + m < 549 by omega) (by decide), nI_clamp (show 7 + m < 2 ^ 31 by omega), g7, if_neg (nI_ge (by omega) (by omega)), q_nodeAt0, z_bd_some, e0, ih (i + 1) _ (by omega)]
    show _ = zl_M_isWhole_34 (q_b (x && (q_l2 a m i && q_aA (q_l2 a m) f (i + 1)))) _ _
    rw [Bool.and_assoc]
theorem q_m34 {h : z_H} (hd : q_dk a hc hm) (hg : ∀ j, j < 549 → h.1 126 j = q_v (a j)) : ∀ f m x, m + f = a 0 → zl_M_isWhole_34 (q_b x) (nI m) h = some (q_b (x && q_aA (q_l1 a) f m), h) := by
  have h06 := hd.1.1
  have g0 : h.1 126 0 = nI (a 0) := (hg _ (by omega)).trans (q_vn (by omega))
  intro f
  induction f with
  | zero =>
    intro m x hm
    rw [e_M_isWhole_34, g0, if_pos (nI_le (by omega) (by omega))]
    show _ = some (q_b (x && true), h)
    rw [Bool.and_true]
    cases x <;> rfl
  | succ f ih =>
    intro m x hm
    have e0 := q_m46 (m := m) hd hg (by omega) (a (7 + m)) 0 x (Nat.zero_add _)
    have e0 : zl_M_isWhole_46 (q_b x) (nI m) 0 h = zl_M_isWhole_34 (q_b (x && q_l1 a m)) (nI (m + 1)) h := e0
    rw [e_M_isWhole_34, g0, if_neg (nI_ge (by omega) (by omega)), e0, ih (m + 1) _ (by omega)]
    show _ = some (q_b (x && (q_l1 a m && q_aA (q_l1 a) f (m + 1))), h)
    rw [Bool.and_assoc]
theorem q_mWh {h : z_H} (hs : q_mS h.1 a hc hm) : z_M 149 [.ref 122] h = some (q_b (q_wh a hc hm), h) := by
  obtain ⟨hd, hg, h4, h5⟩ := hs
  have h06 := hd.1.1
  have h14 := hd.1.2.1
  have hcl := hd.2.2.2.2.2
  have g0 : h.1 126 0 = nI (a 0) := (hg _ (by omega)).trans (q_vn (by omega))
  have g1 : h.1 126 1 = nI (a 1) := (hg _ (by omega)).trans (q_vn (by omega))
  have f0 := q_m34 hd hg (a 0) 0 false (Nat.zero_add _)
  have f1 := q_m34 hd hg (a 0) 0 true (Nat.zero_add _)
  have f0 : zl_M_isWhole_34 0 0 h = some (0, h) := f0
  have f1 : zl_M_isWhole_34 1 0 h = some (q_b (q_l0 a), h) := f1
  rw [e_M_isWhole, g0, g1, h4, h5, f0, f1]
  simp only [q_hi_c (lo := -1) (A := a 1) (c := hc) (by decide) (by omega) (by omega), q_hi_c (lo := -1) (A := a 0) (c := hm) (by decide) (by omega) (by omega)]
  unfold q_wh
  by_cases q1 : hc ≤ a 1
  · rw [if_neg (fun q => q q1), decide_eq_true q1, Bool.true_and]
    by_cases q2 : hm ≤ a 0
    · rw [if_neg (fun q => q q2), decide_eq_true q2, Bool.true_and]
    · rw [if_pos q2, decide_eq_false q2, Bool.false_and]
      rfl
  · rw [if_pos q1, decide_eq_false q1, Bool.false_and]
    rfl
end QWH
