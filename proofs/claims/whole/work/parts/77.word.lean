/-! THE PURE PART: the words of a line -/
def q_wd (j : Nat) : List Nat := match j with
  | 0 => [109, 101, 116, 104, 111, 100]
  | 1 => [115, 97, 121]
  | 2 => [99, 97, 108, 108]
  | 3 => [99, 108, 97, 115, 115]
  | 4 => [104, 97, 115]
  | _ => [116, 101, 115, 116]
def q_eqb (b : Nat → Nat) (s : Nat) (l : List Nat) : Nat → Nat → Bool
  | 0, _ => true
  | f + 1, k => decide (b (s + k) = l.getD k 0) && q_eqb b s l f (k + 1)
def q_isw (b : Nat → Nat) (n s j : Nat) : Bool := decide (q_kd b n s = 1) && (decide (q_te b n s - s = (q_wd j).length) && q_eqb b s (q_wd j) (q_wd j).length 0)
def q_lnF (b : Nat → Nat) (n s : Nat) : Nat → Nat → Nat
  | 0, _ => 6
  | f + 1, j => if q_isw b n s j = true then j else q_lnF b n s f (j + 1)
def q_ln (b : Nat → Nat) (n s : Nat) : Nat := q_lnF b n s 6 0
theorem q_wdT : ∀ j, j < 6 → z_txt (1000 + j) = (q_wd j).map nI ∧ (q_wd j).length ≤ 6 ∧ ∀ k, k < (q_wd j).length → (q_wd j).getD k 0 < 128 ∧ (z_txt (1000 + j)).getD k 0 = nI ((q_wd j).getD k 0) := by decide +kernel
theorem q_kd1 {b : Nat → Nat} {n s : Nat} (h : q_kd b n s = 1) : s < n ∧ q_te b n s = q_we b n s ∧ q_we b n s ≤ n ∧ s < q_we b n s := by
  unfold q_kd at h
  by_cases h1 : n ≤ s
  · rw [if_pos h1] at h; cases h
  rw [if_neg h1] at h
  by_cases h2 : b s = 59
  · rw [if_pos h2] at h; cases h
  rw [if_neg h2] at h
  by_cases h3 : q_lt b s = true
  · have e := q_en_le (p := q_lt b) (n := n) (n - s) s (by omega) (Nat.le_refl _)
    refine ⟨by omega, ?_, e.2.1, ?_⟩
    · unfold q_te
      rw [if_neg h1, if_neg h2, if_pos h3]
    · unfold q_we
      rcases Nat.lt_or_ge s (q_en (q_lt b) n (n - s) s) with q | q
      · exact q
      · have e1 := e.2.2.2 (by omega)
        have : q_en (q_lt b) n (n - s) s = s := by omega
        rw [this, h3] at e1
        cases e1
  · rw [if_neg h3] at h
    by_cases h4 : q_fg b s = true
    · rw [if_pos h4] at h
      by_cases h5 : q_fe b n s - s ≤ 3
      · rw [if_pos h5] at h; cases h
      · rw [if_neg h5] at h; cases h
    · rw [if_neg h4] at h; cases h
theorem q_kd4 (b : Nat → Nat) (n s : Nat) : q_kd b n s ≤ 4 := by
  unfold q_kd
  repeat' split
  all_goals omega
theorem q_txL {j : Nat} (hj : j < 6) (h : z_H) : z_M 907 [.ref (1000 + j)] h = some (nI (q_wd j).length, h) := by
  rw [z_M_prim (by decide)]
  show (bif Nat.ble 1000 (1000 + j) && Nat.ble (1000 + j) 1005 then some (Int32.ofNat (z_txt (1000 + j)).length, h) else none) = _
  rw [Nat.ble_eq_true_of_le (by omega), Nat.ble_eq_true_of_le (show 1000 + j ≤ 1005 by omega), (q_wdT j hj).1, List.length_map]
  rfl
theorem q_txC {j k : Nat} (hj : j < 6) (hk : k < (q_wd j).length) (h : z_H) : z_M 908 [.ref (1000 + j), .int (nI k)] h = some (nI ((q_wd j).getD k 0), h) := by
  have h6 := (q_wdT j hj).2.1
  rw [z_M_prim (by decide)]
  show (bif Nat.ble 1000 (1000 + j) && Nat.ble (1000 + j) 1005 && z_in (nI k) (z_txt (1000 + j)).length then some ((z_txt (1000 + j)).getD (nI k).toNatClampNeg 0, h) else none) = _
  have hl : (z_txt (1000 + j)).length = (q_wd j).length := by rw [(q_wdT j hj).1, List.length_map]
  rw [Nat.ble_eq_true_of_le (show 1000 ≤ 1000 + j by omega), Nat.ble_eq_true_of_le (show 1000 + j ≤ 1005 by omega), hl, q_in (by omega), decide_eq_true hk, nI_clamp (by omega), ((q_wdT j hj).2.2 k hk).2]
  rfl
section QWD
variable {b : Nat → Nat} {n s : Nat}
theorem q_mem6 {j : Nat} (hj : j < 6) : 1000 + j ∈ [1000, 1001, 1002, 1003, 1004, 1005] := by
  revert j; decide
theorem q_cW {j : Nat} (hj : j < 6) {h : z_H} (ht : q_tC h.1 b n) (hs : s + (q_wd j).length ≤ n) (h2 : h.1 1 2 = nI s) : ∀ f k, k + f = (q_wd j).length → zl_Tp_isWord_28 (1000 + j) (nI k) h = some (q_b (q_eqb b s (q_wd j) f k), h) := by
  have hn := ht.1
  have h6 := (q_wdT j hj).2.1
  intro f
  induction f with
  | zero =>
    intro k hk
    rw [e_Tp_isWord_28 (q_mem6 hj), q_txL hj, z_bd_some, if_pos (nI_le (by omega) (by omega))]
    rfl
  | succ f ih =>
    intro k hk
    obtain ⟨b1, b2⟩ := ht.2.2 (s + k) (by omega)
    have c1 := ((q_wdT j hj).2.2 k (by omega)).1
    rw [e_Tp_isWord_28 (q_mem6 hj), q_txL hj, z_bd_some, if_neg (nI_ge (by omega) (by omega)), h2, nI_add, q_inC (show s + k < 320 by omega) (by decide), q_txC hj (by omega), z_bd_some, nI_clamp (by omega), b2]
    show _ = some (q_b (decide (b (s + k) = (q_wd j).getD k 0) && q_eqb b s (q_wd j) f (k + 1)), h)
    by_cases hc : b (s + k) = (q_wd j).getD k 0
    · rw [if_pos (show nI (b (s + k)) = nI ((q_wd j).getD k 0) by rw [hc]), decide_eq_true hc, Bool.true_and, nI_1]
      exact ih (k + 1) (by omega)
    · rw [if_neg (show ¬ nI (b (s + k)) = nI ((q_wd j).getD k 0) from fun q => hc ((nI_eq (by omega) (by omega)).mp q)), decide_eq_false hc, Bool.false_and]
      rfl
theorem q_cIsW {j : Nat} (hj : j < 6) {h : z_H} (ht : q_tC h.1 b n) (h1 : h.1 1 1 = nI (q_kd b n s)) (h2 : h.1 1 2 = nI s) (h4 : h.1 1 4 = nI (q_te b n s)) : z_M 48 [.ref 1, .ref (1000 + j)] h = some (q_b (q_isw b n s j), h) := by
  have hn := ht.1
  have h6 := (q_wdT j hj).2.1
  have hk := q_kd4 b n s
  unfold q_isw
  rw [e_Tp_isWord (q_mem6 hj), h1]
  by_cases hk1 : q_kd b n s = 1
  · obtain ⟨k1, k2, k3, k4⟩ := q_kd1 hk1
    rw [hk1, if_neg (show ¬ ¬ nI 1 = 1 from fun q => q rfl), q_txL hj, z_bd_some, h4, h2, k2, q_sub (by omega), decide_eq_true rfl, Bool.true_and]
    by_cases hl : q_we b n s - s = (q_wd j).length
    · rw [hl, if_pos rfl, decide_eq_true rfl, Bool.true_and]
      exact q_cW hj ht (by omega) h2 _ 0 (by omega)
    · rw [if_neg (show ¬ nI (q_we b n s - s) = nI (q_wd j).length from fun q => hl ((nI_eq (by omega) (by omega)).mp q)), decide_eq_false hl, Bool.false_and]
      rfl
  · rw [if_pos (show ¬ nI (q_kd b n s) = 1 from fun q => hk1 ((nI_eq (b := 1) (by omega) (by decide)).mp q)), decide_eq_false hk1, Bool.false_and]
    rfl
theorem q_cLn {h : z_H} (ht : q_tC h.1 b n) (h1 : h.1 1 1 = nI (q_kd b n s)) (h2 : h.1 1 2 = nI s) (h4 : h.1 1 4 = nI (q_te b n s)) : z_M 57 [.ref 3] h = some (nI (q_ln b n s), h) := by
  have hW : ∀ j, j < 6 → z_M 48 [.ref 1, .ref (1000 + j)] h = some (q_b (q_isw b n s j), h) := fun j hj => q_cIsW hj ht h1 h2 h4
  have w0 : z_M 48 [.ref 1, .ref 1000] h = some (q_b (q_isw b n s 0), h) := hW 0 (by decide)
  have w1 : z_M 48 [.ref 1, .ref 1001] h = some (q_b (q_isw b n s 1), h) := hW 1 (by decide)
  have w2 : z_M 48 [.ref 1, .ref 1002] h = some (q_b (q_isw b n s 2), h) := hW 2 (by decide)
  have w3 : z_M 48 [.ref 1, .ref 1003] h = some (q_b (q_isw b n s 3), h) := hW 3 (by decide)
  have w4 : z_M 48 [.ref 1, .ref 1004] h = some (q_b (q_isw b n s 4), h) := hW 4 (by decide)
  have w5 : z_M 48 [.ref 1, .ref 1005] h = some (q_b (q_isw b n s 5), h) := hW 5 (by decide)
  have v6 : zl_Rd_lineOfWord_2 6 h = some (nI (q_lnF b n s 0 6), h) := by
    rw [e_Rd_lineOfWord_2, if_pos (show (6 : Int32) ≤ 6 by decide)]; rfl
  have v5 : zl_Rd_lineOfWord_2 5 h = some (nI (q_lnF b n s 1 5), h) := by
    rw [e_Rd_lineOfWord_2, if_neg (show ¬ (6 : Int32) ≤ 5 by decide), if_neg (show ¬ (5 : Int32) = 0 by decide), if_neg (show ¬ (5 : Int32) = 1 by decide), if_neg (show ¬ (5 : Int32) = 2 by decide), if_neg (show ¬ (5 : Int32) = 3 by decide), if_neg (show ¬ (5 : Int32) = 4 by decide), w5, z_bd_some]
    unfold q_lnF
    cases q_isw b n s 5 with
    | true => rfl
    | false => exact v6
  have v4 : zl_Rd_lineOfWord_2 4 h = some (nI (q_lnF b n s 2 4), h) := by
    rw [e_Rd_lineOfWord_2, if_neg (show ¬ (6 : Int32) ≤ 4 by decide), if_neg (show ¬ (4 : Int32) = 0 by decide), if_neg (show ¬ (4 : Int32) = 1 by decide), if_neg (show ¬ (4 : Int32) = 2 by decide), if_neg (show ¬ (4 : Int32) = 3 by decide), if_pos (show (4 : Int32) = 4 by decide), w4, z_bd_some]
    unfold q_lnF
    cases q_isw b n s 4 with
    | true => rfl
    | false => exact v5
  have v3 : zl_Rd_lineOfWord_2 3 h = some (nI (q_lnF b n s 3 3), h) := by
    rw [e_Rd_lineOfWord_2, if_neg (show ¬ (6 : Int32) ≤ 3 by decide), if_neg (show ¬ (3 : Int32) = 0 by decide), if_neg (show ¬ (3 : Int32) = 1 by decide), if_neg (show ¬ (3 : Int32) = 2 by decide), if_pos (show (3 : Int32) = 3 by decide), w3, z_bd_some]
    unfold q_lnF
    cases q_isw b n s 3 with
    | true => rfl
    | false => exact v4
  have v2 : zl_Rd_lineOfWord_2 2 h = some (nI (q_lnF b n s 4 2), h) := by
    rw [e_Rd_lineOfWord_2, if_neg (show ¬ (6 : Int32) ≤ 2 by decide), if_neg (show ¬ (2 : Int32) = 0 by decide), if_neg (show ¬ (2 : Int32) = 1 by decide), if_pos (show (2 : Int32) = 2 by decide), w2, z_bd_some]
    unfold q_lnF
    cases q_isw b n s 2 with
    | true => rfl
    | false => exact v3
  have v1 : zl_Rd_lineOfWord_2 1 h = some (nI (q_lnF b n s 5 1), h) := by
    rw [e_Rd_lineOfWord_2, if_neg (show ¬ (6 : Int32) ≤ 1 by decide), if_neg (show ¬ (1 : Int32) = 0 by decide), if_pos (show (1 : Int32) = 1 by decide), w1, z_bd_some]
    unfold q_lnF
    cases q_isw b n s 1 with
    | true => rfl
    | false => exact v2
  rw [e_Rd_lineOfWord, e_Rd_lineOfWord_2, if_neg (show ¬ (6 : Int32) ≤ 0 by decide), if_pos (show (0 : Int32) = 0 by decide), w0, z_bd_some]
  unfold q_ln q_lnF
  cases q_isw b n s 0 with
  | true => rfl
  | false => exact v1
/-- the reference's 'is' -/
def q_is3 (b : Nat → Nat) (n s x1 x2 c3 c4 c5 : Nat) : Bool := decide (q_kd b n s = 1) && (decide (q_te b n s - s = x1) && (decide (b (s + x2) = c3) && (decide (b (s + x2 + 1) = c4) && decide (b (s + x2 + 2) = c5))))
theorem q_mIs {x1 x2 c3 c4 c5 : Nat} {h : z_H} (ht : q_tM h.1 b n) (h10 : h.1 122 10 = nI (q_kd b n s % 4)) (h9 : h.1 122 9 = nI s) (h8 : h.1 122 8 = nI (q_te b n s)) (hx : x2 + 3 ≤ x1) (h6 : x1 ≤ 6) (c3l : c3 < 128) (c4l : c4 < 128) (c5l : c5 < 128) : z_M 137 [.ref 122, .int (nI x1), .int (nI x2), .int (nI c3), .int (nI c4), .int (nI c5)] h = some (q_b (q_is3 b n s x1 x2 c3 c4 c5), h) := by
  have hn := ht.1
  have hk := q_kd4 b n s
  have hbb : ∀ i, i < n → b i < 128 := fun i hi => (ht.2.2 i hi).1
  unfold q_is3
  rw [e_M_is, h10]
  by_cases hk1 : q_kd b n s = 1
  · obtain ⟨k1, k2, k3, k4⟩ := q_kd1 hk1
    rw [hk1, if_neg (show ¬ ¬ nI (1 % 4) = 1 from fun q => q rfl), h8, h9, k2, q_sub (by omega), decide_eq_true rfl, Bool.true_and]
    by_cases hl : q_we b n s - s = x1
    · have y0 : q_by b n (s + x2) = nI (b (s + x2)) := if_pos (by omega)
      have y1 : q_by b n (s + x2 + 1) = nI (b (s + x2 + 1)) := if_pos (by omega)
      have y2 : q_by b n (s + x2 + 2) = nI (b (s + x2 + 2)) := if_pos (by omega)
      rw [hl, if_neg (show ¬ ¬ nI x1 = nI x1 from fun q => q rfl), decide_eq_true rfl, Bool.true_and, nI_add, q_mByte ht (by omega), z_bd_some, y0]
      by_cases e3 : b (s + x2) = c3
      · rw [e3, if_neg (show ¬ ¬ nI c3 = nI c3 from fun q => q rfl), decide_eq_true rfl, Bool.true_and, h9, nI_add, nI_1, q_mByte ht (by omega), z_bd_some, y1]
        by_cases e4 : b (s + x2 + 1) = c4
        · rw [e4, if_neg (show ¬ ¬ nI c4 = nI c4 from fun q => q rfl), decide_eq_true rfl, Bool.true_and, h9, nI_add, n_2, nI_add, q_mByte ht (by omega), z_bd_some, y2]
          by_cases e5 : b (s + x2 + 2) = c5
          · rw [e5, if_neg (show ¬ ¬ nI c5 = nI c5 from fun q => q rfl), decide_eq_true rfl]
            rfl
          · rw [if_pos (show ¬ nI (b (s + x2 + 2)) = nI c5 from fun q => e5 ((nI_eq (by have := hbb (s + x2 + 2) (by omega); omega) (by omega)).mp q)), decide_eq_false e5]
            rfl
        · rw [if_pos (show ¬ nI (b (s + x2 + 1)) = nI c4 from fun q => e4 ((nI_eq (by have := hbb (s + x2 + 1) (by omega); omega) (by omega)).mp q)), decide_eq_false e4]
          rfl
      · rw [if_pos (show ¬ nI (b (s + x2)) = nI c3 from fun q => e3 ((nI_eq (by have := hbb (s + x2) (by omega); omega) (by omega)).mp q)), decide_eq_false e3]
        rfl
    · rw [if_pos (show ¬ nI (q_we b n s - s) = nI x1 from fun q => hl ((nI_eq (by omega) (by omega)).mp q)), decide_eq_false hl]
      rfl
  · rw [if_pos (show ¬ nI (q_kd b n s % 4) = 1 from fun q => by
      have := (nI_eq (b := 1) (by omega) (by decide)).mp q
      omega), decide_eq_false hk1]
    rfl
theorem q_isw0 : q_isw b n s 0 = (q_is3 b n s 6 0 109 101 116 && q_is3 b n s 6 3 104 111 100) := by
  unfold q_isw q_is3
  by_cases hk : q_kd b n s = 1
  · by_cases hl : q_te b n s - s = 6
    · simp [hk, hl, q_wd, q_eqb, Nat.add_assoc, Bool.and_assoc]
    · simp [hk, hl, q_wd]
  · simp [hk]
theorem q_isw1 : q_isw b n s 1 = q_is3 b n s 3 0 115 97 121 := by
  unfold q_isw q_is3
  by_cases hk : q_kd b n s = 1
  · by_cases hl : q_te b n s - s = 3
    · simp [hk, hl, q_wd, q_eqb, Nat.add_assoc, Bool.and_assoc]
    · simp [hk, hl, q_wd]
  · simp [hk]
theorem q_isw4 : q_isw b n s 4 = q_is3 b n s 3 0 104 97 115 := by
  unfold q_isw q_is3
  by_cases hk : q_kd b n s = 1
  · by_cases hl : q_te b n s - s = 3
    · simp [hk, hl, q_wd, q_eqb, Nat.add_assoc, Bool.and_assoc]
    · simp [hk, hl, q_wd]
  · simp [hk]
theorem q_isw2 : q_isw b n s 2 = (q_is3 b n s 4 0 99 97 108 && decide (s + 3 < n ∧ b (s + 3) = 108)) := by
  unfold q_isw q_is3
  by_cases hk : q_kd b n s = 1
  · by_cases hl : q_te b n s - s = 4
    · have k := q_kd1 hk
      have : s + 3 < n := by omega
      simp [hk, hl, q_wd, q_eqb, Nat.add_assoc, Bool.and_assoc, this]
    · simp [hk, hl, q_wd]
  · simp [hk]
theorem q_isw5 : q_isw b n s 5 = (q_is3 b n s 4 0 116 101 115 && decide (s + 3 < n ∧ b (s + 3) = 116)) := by
  unfold q_isw q_is3
  by_cases hk : q_kd b n s = 1
  · by_cases hl : q_te b n s - s = 4
    · have k := q_kd1 hk
      have : s + 3 < n := by omega
      simp [hk, hl, q_wd, q_eqb, Nat.add_assoc, Bool.and_assoc, this]
    · simp [hk, hl, q_wd]
  · simp [hk]
theorem q_isw3 : q_isw b n s 3 = (q_is3 b n s 5 0 99 108 97 && (decide (s + 3 < n ∧ b (s + 3) = 115) && decide (s + 4 < n ∧ b (s + 4) = 115))) := by
  unfold q_isw q_is3
  by_cases hk : q_kd b n s = 1
  · by_cases hl : q_te b n s - s = 5
    · have k := q_kd1 hk
      have h3 : s + 3 < n := by omega
      have h4 : s + 4 < n := by omega
      simp [hk, hl, q_wd, q_eqb, Nat.add_assoc, Bool.and_assoc, h3, h4]
    · simp [hk, hl, q_wd]
  · simp [hk]
def q_lnM (b : Nat → Nat) (n s : Nat) : Int32 := if q_ln b n s = 6 then -4 else nI (q_ln b n s)
theorem q_mLn {h : z_H} (ht : q_tM h.1 b n) (hs : s ≤ n) (h10 : h.1 122 10 = nI (q_kd b n s % 4)) (h9 : h.1 122 9 = nI s) (h8 : h.1 122 8 = nI (q_te b n s)) : z_M 138 [.ref 122] h = some (q_lnM b n s, h) := by
  have hn := ht.1
  have hbb : ∀ i, i < n → b i < 128 := fun i hi => (ht.2.2 i hi).1
  have m1 : z_M 137 [.ref 122, .int 6, .int 0, .int 109, .int 101, .int 116] h = _ := q_mIs (x1 := 6) (x2 := 0) (c3 := 109) (c4 := 101) (c5 := 116) ht h10 h9 h8 (by decide) (by decide) (by decide) (by decide) (by decide)
  have m2 : z_M 137 [.ref 122, .int 6, .int 3, .int 104, .int 111, .int 100] h = _ := q_mIs (x1 := 6) (x2 := 3) (c3 := 104) (c4 := 111) (c5 := 100) ht h10 h9 h8 (by decide) (by decide) (by decide) (by decide) (by decide)
  have a1 : z_M 137 [.ref 122, .int 3, .int 0, .int 115, .int 97, .int 121] h = _ := q_mIs (x1 := 3) (x2 := 0) (c3 := 115) (c4 := 97) (c5 := 121) ht h10 h9 h8 (by decide) (by decide) (by decide) (by decide) (by decide)
  have a2 : z_M 137 [.ref 122, .int 4, .int 0, .int 99, .int 97, .int 108] h = _ := q_mIs (x1 := 4) (x2 := 0) (c3 := 99) (c4 := 97) (c5 := 108) ht h10 h9 h8 (by decide) (by decide) (by decide) (by decide) (by decide)
  have a3 : z_M 137 [.ref 122, .int 5, .int 0, .int 99, .int 108, .int 97] h = _ := q_mIs (x1 := 5) (x2 := 0) (c3 := 99) (c4 := 108) (c5 := 97) ht h10 h9 h8 (by decide) (by decide) (by decide) (by decide) (by decide)
  have a4 : z_M 137 [.ref 122, .int 3, .int 0, .int 104, .int 97, .int 115] h = _ := q_mIs (x1 := 3) (x2 := 0) (c3 := 104) (c4 := 97) (c5 := 115) ht h10 h9 h8 (by decide) (by decide) (by decide) (by decide) (by decide)
  have a5 : z_M 137 [.ref 122, .int 4, .int 0, .int 116, .int 101, .int 115] h = _ := q_mIs (x1 := 4) (x2 := 0) (c3 := 116) (c4 := 101) (c5 := 115) ht h10 h9 h8 (by decide) (by decide) (by decide) (by decide) (by decide)
  have y3 : z_M 136 [.ref 122, .int (h.1 122 9 + 3)] h = some (q_by b n (s + 3), h) := by
    rw [h9, n_3, nI_add]; exact q_mByte ht (by omega)
  have y4 : z_M 136 [.ref 122, .int (h.1 122 9 + 4)] h = some (q_by b n (s + 4), h) := by
    rw [h9, n_4, nI_add]; exact q_mByte ht (by omega)
  have z1 : (q_by b n (s + 3) = 108) = (s + 3 < n ∧ b (s + 3) = 108) := q_byNe (c := 108) hbb (by decide)
  have z2 : (q_by b n (s + 3) = 115) = (s + 3 < n ∧ b (s + 3) = 115) := q_byNe (c := 115) hbb (by decide)
  have z3 : (q_by b n (s + 4) = 115) = (s + 4 < n ∧ b (s + 4) = 115) := q_byNe (c := 115) hbb (by decide)
  have z4 : (q_by b n (s + 3) = 116) = (s + 3 < n ∧ b (s + 3) = 116) := q_byNe (c := 116) hbb (by decide)
  have hite : ∀ {α : Type} (p : Prop) [Decidable p] (x y : α), (if ¬ p then x else y) = if decide p = true then y else x := by
    intro α p _ x y
    by_cases hp : p <;> simp [hp]
  have hb0 : ∀ {α : Type} (p : Bool) (x y : α), (if q_b p = 0 then x else y) = if p = true then y else x := by
    intro α p x y
    cases p <;> rfl
  have r130 : zl_M_lineNow_130 h = some ((if q_isw b n s 4 = true then 4 else if q_isw b n s 5 = true then 5 else -4), h) := by
    rw [e_M_lineNow_130, a4, z_bd_some, a5, z_bd_some, y3, z_bd_some, hb0, hb0, hite, ← q_isw4, q_isw5]
    simp only [z4]
    cases q_isw b n s 4 <;> cases q_is3 b n s 4 0 116 101 115 <;> cases decide (s + 3 < n ∧ b (s + 3) = 116) <;> rfl
  have r83 : zl_M_lineNow_83 h = some ((if q_isw b n s 3 = true then 3 else if q_isw b n s 4 = true then 4 else if q_isw b n s 5 = true then 5 else -4), h) := by
    rw [e_M_lineNow_83, a3, z_bd_some, y3, z_bd_some, y4, z_bd_some, hb0, hite, hite, r130, q_isw3]
    simp only [z2, z3]
    cases q_is3 b n s 5 0 99 108 97 <;> cases decide (s + 3 < n ∧ b (s + 3) = 115) <;> cases decide (s + 4 < n ∧ b (s + 4) = 115) <;> rfl
  have r34 : zl_M_lineNow_34 h = some ((if q_isw b n s 1 = true then 1 else if q_isw b n s 2 = true then 2 else if q_isw b n s 3 = true then 3 else if q_isw b n s 4 = true then 4 else if q_isw b n s 5 = true then 5 else -4), h) := by
    rw [e_M_lineNow_34, a1, z_bd_some, a2, z_bd_some, y3, z_bd_some, hb0, hb0, hite, r83, ← q_isw1, q_isw2]
    simp only [z1]
    cases q_isw b n s 1 <;> cases q_is3 b n s 4 0 99 97 108 <;> cases decide (s + 3 < n ∧ b (s + 3) = 108) <;> rfl
  rw [e_M_lineNow, m1, z_bd_some, m2, z_bd_some, hb0, hb0, r34]
  have e0 := q_isw0 (b := b) (n := n) (s := s)
  unfold q_lnM q_ln q_lnF q_lnF q_lnF q_lnF q_lnF q_lnF q_lnF
  rw [e0]
  cases q_is3 b n s 6 0 109 101 116 <;> cases q_is3 b n s 6 3 104 111 100 <;> cases q_isw b n s 1 <;> cases q_isw b n s 2 <;> cases q_isw b n s 3 <;> cases q_isw b n s 4 <;> cases q_isw b n s 5 <;> rfl
theorem q_ln6 : q_ln b n s ≤ 6 := by
  unfold q_ln q_lnF q_lnF q_lnF q_lnF q_lnF q_lnF q_lnF
  repeat' split
  all_goals omega
end QWD
