/-! THE PURE PART: the numbers of a line, told; the class reads them -/
def q_tkn (b : Nat → Nat) (n e : Nat) : Nat → Nat
  | 0 => q_ts b n e
  | j + 1 => q_ts b n (q_te b n (q_tkn b n e j))
def q_wi (a : Nat → Nat) (x j v : Nat) : Bool := match x with
  | 1 => if j = 0 then decide (v ≤ 9) else (decide (v < 8) || decide (v = 9))
  | 2 => if j = 0 then decide (v < 4) else (decide (v < 8) || decide (v = 9))
  | 3 => decide (v < a 1) || decide (v = 9)
  | 4 => if j = 0 then decide (v < 4) else if j = 1 then decide (v < 4) else decide (v < 6)
  | _ => if j = 0 then decide (v < 4) else if j = 1 then decide (v < 256) else decide (1 ≤ v) && decide (v ≤ 9)
def q_lst (x : Nat) : Nat := match x with
  | 0 => 0
  | 1 => 1
  | 2 => 1
  | 3 => 1
  | _ => 3
def q_mst (x : Nat) : Nat := match x with
  | 0 => 0
  | 3 => 1
  | _ => 3
def q_gz (b : Nat → Nat) (n e L j : Nat) : Nat × Nat := if q_kd b n (q_tkn b n e j) = 0 then (1, j) else if j < L then (2, j) else if q_kd b n (q_tkn b n e j) = 3 then (0, j) else (2, j)
def q_ga (b : Nat → Nat) (n e : Nat) (a : Nat → Nat) (x : Nat) : Nat → Nat → Nat × Nat
  | 0, j => q_gz b n e (q_lst x) j
  | f + 1, j => if q_kd b n (q_tkn b n e j) = 0 then (1, j) else if q_kd b n (q_tkn b n e j) = 2 then (if q_wi a x j (q_tv b n (q_tkn b n e j)) = true then q_ga b n e a x f (j + 1) else (3, j)) else q_gz b n e (q_lst x) j
theorem q_en0 {p : Nat → Bool} {n s f : Nat} (h : n ≤ s) : q_en p n f s = s := by
  cases f with
  | zero => rfl
  | succ f =>
    unfold q_en
    rw [if_neg (fun q => absurd q.1 (by omega))]
theorem q_te_le {b : Nat → Nat} {n s : Nat} (h : s ≤ n) : s ≤ q_te b n s ∧ q_te b n s ≤ n := by
  unfold q_te
  by_cases h1 : n ≤ s
  · rw [if_pos h1]; omega
  rw [if_neg h1]
  by_cases h2 : b s = 59
  · rw [if_pos h2]; omega
  rw [if_neg h2]
  by_cases h3 : q_lt b s = true
  · rw [if_pos h3]
    have := q_en_le (p := q_lt b) (n := n) (n - s) s h (Nat.le_refl _)
    exact ⟨this.1, this.2.1⟩
  rw [if_neg h3]
  by_cases h4 : q_fg b s = true
  · rw [if_pos h4]
    have := q_en_le (p := q_fg b) (n := n) (n - s) s h (Nat.le_refl _)
    exact ⟨this.1, this.2.1⟩
  rw [if_neg h4]
  omega
theorem q_ts_le {b : Nat → Nat} {n s : Nat} (h : s ≤ n) : s ≤ q_ts b n s ∧ q_ts b n s ≤ n := by
  have := q_en_le (p := q_bl b) (n := n) (n - s) s h (Nat.le_refl _)
  exact ⟨this.1, this.2.1⟩
theorem q_tkn_le {b : Nat → Nat} {n e : Nat} (h : e ≤ n) : ∀ j, e ≤ q_tkn b n e j ∧ q_tkn b n e j ≤ n := by
  intro j
  induction j with
  | zero => exact q_ts_le h
  | succ j ih =>
    have h1 := q_te_le (b := b) ih.2
    have h2 := q_ts_le (b := b) h1.2
    exact ⟨by show e ≤ q_ts b n (q_te b n (q_tkn b n e j)); omega, h2.2⟩
theorem q_dvl_le {b : Nat → Nat} {f i c : Nat} (hb : ∀ j, j < f → b (i + j) < 128) (hf : f ≤ 3) (hc : c ≤ 0) : q_dvl b f i c < 10000 := by
  have h0 : ∀ j, j < f → b (i + j) < 128 := hb
  match f, hf with
  | 0, _ => show c < 10000; omega
  | 1, _ =>
    have := h0 0 (by omega)
    show 10 * c + b i - 48 < 10000
    have e : b (i + 0) = b i := rfl
    omega
  | 2, _ =>
    have h1 := h0 0 (by omega)
    have h2 := h0 1 (by omega)
    show 10 * (10 * c + b i - 48) + b (i + 1) - 48 < 10000
    have e : b (i + 0) = b i := rfl
    omega
  | 3, _ =>
    have h1 := h0 0 (by omega)
    have h2 := h0 1 (by omega)
    have h3 := h0 2 (by omega)
    show 10 * (10 * (10 * c + b i - 48) + b (i + 1) - 48) + b (i + 1 + 1) - 48 < 10000
    have e : b (i + 0) = b i := rfl
    have e' : b (i + 1 + 1) = b (i + 2) := rfl
    omega
theorem q_kd2 {b : Nat → Nat} {n s : Nat} (hb : ∀ i, i < n → b i < 128) (h : q_kd b n s = 2) : q_tv b n s < 10000 := by
  unfold q_kd at h
  by_cases h1 : n ≤ s
  · rw [if_pos h1] at h; cases h
  rw [if_neg h1] at h
  by_cases h2 : b s = 59
  · rw [if_pos h2] at h; cases h
  rw [if_neg h2] at h
  by_cases h3 : q_lt b s = true
  · rw [if_pos h3] at h; cases h
  rw [if_neg h3] at h
  by_cases h4 : q_fg b s = true
  · rw [if_pos h4] at h
    by_cases h5 : q_fe b n s - s ≤ 3
    · have e := q_en_le (p := q_fg b) (n := n) (n - s) s (by omega) (Nat.le_refl _)
      refine q_dvl_le (fun j hj => hb _ ?_) h5 (Nat.le_refl _)
      have : q_fe b n s ≤ n := e.2.1
      omega
    · rw [if_neg h5] at h; cases h
  · rw [if_neg h4] at h; cases h
/-- the class stands at the token that starts at s -/
def q_cT (I : Nat → Nat → Int32) (b : Nat → Nat) (n s : Nat) : Prop := q_tC I b n ∧ I 1 1 = nI (q_kd b n s) ∧ I 1 2 = nI s ∧ I 1 4 = nI (q_te b n s) ∧ (q_kd b n s = 2 → I 1 3 = nI (q_tv b n s)) ∧ (q_kd b n s ≠ 0 → I 3 0 = 0) ∧ (q_kd b n s = 0 → I 3 0 = 1 ∧ I 3 1 = nI s)
section QAR
variable {b : Nat → Nat} {n : Nat}
theorem q_tC.fr {h h1 : z_H} (ht : q_tC h.1 b n) (e : ∀ o k, ¬ (o = 1 ∧ 1 ≤ k) → o ≠ 3 → o ≠ 16 → h1.1 o k = h.1 o k) : q_tC h1.1 b n := ⟨ht.1, by rw [e _ _ (by omega) (by omega) (by omega)]; exact ht.2.1, fun i hi => ⟨(ht.2.2 i hi).1, by rw [e _ _ (by omega) (by omega) (by omega)]; exact (ht.2.2 i hi).2⟩⟩
theorem q_cAdvR {h : z_H} {p : Nat} (ht : q_tC h.1 b n) (hp : p ≤ n) (h4 : h.1 1 4 = nI p) (h30 : h.1 3 0 = 0) : ∃ h', z_M 55 [.ref 3] h = some (0, h') ∧ q_cT h'.1 b n (q_ts b n p) ∧ ∀ o k, ¬ (o = 1 ∧ 1 ≤ k ∧ k ≤ 4) → ¬ (o = 3 ∧ k ≤ 1) → h'.1 o k = h.1 o k := by
  obtain ⟨h1, a1, a2, a3, a4, a5, a6⟩ := q_cAdv ht hp h4
  have hk := q_kd4 b n (q_ts b n p)
  have ht1 : q_tC h1.1 b n := ht.fr (fun o k q _ _ => a6 o k (by omega))
  rw [e_Rd_advance, a1, z_bd_some, a2]
  by_cases h0 : q_kd b n (q_ts b n p) = 0
  · rw [h0, if_neg (show ¬ ¬ nI 0 = 0 from fun q => q rfl), e_Rd_fail, z_bd_some]
    have w2 : (z_wI h1 3 0 1).1 1 2 = nI (q_ts b n p) := by rw [z_wI1, if_neg (by omega)]; exact a3
    rw [w2]
    refine ⟨z_wI (z_wI h1 3 0 1) 3 1 (nI (q_ts b n p)), rfl, ⟨ht1.fr (fun o k _ q _ => by rw [z_wI1, if_neg (by omega), z_wI1, if_neg (by omega)]), ?_, ?_, ?_, ?_, fun q => absurd h0 q, fun _ => ⟨?_, ?_⟩⟩, fun o k q q' => ?_⟩
    · rw [z_wI1, if_neg (by omega), z_wI1, if_neg (by omega)]; exact a2
    · rw [z_wI1, if_neg (by omega)]; exact w2
    · rw [z_wI1, if_neg (by omega), z_wI1, if_neg (by omega)]; exact a4
    · intro q
      rw [h0] at q
      cases q
    · rw [z_wI1, if_neg (by omega), z_wI1, if_pos ⟨rfl, rfl⟩]
    · rw [z_wI1, if_pos ⟨rfl, rfl⟩]
    · rw [z_wI1, if_neg (by omega), z_wI1, if_neg (by omega)]
      exact a6 o k q
  · rw [if_pos (show ¬ nI (q_kd b n (q_ts b n p)) = 0 from fun q => h0 ((nI_eq (b := 0) (by omega) (by decide)).mp q))]
    exact ⟨h1, rfl, ⟨ht1, a2, a3, a4, a5, fun _ => (a6 _ _ (by omega)).trans h30, fun q => absurd q h0⟩, fun o k q _ => a6 o k q⟩
theorem q_cWi {h : z_H} {a : Nat → Nat} {x j v : Nat} (hx : 1 ≤ x ∧ x ≤ 5) (hj : j < 3) (hv : v < 10000) (h41 : h.1 4 1 = nI (a 1)) (ha : a 1 ≤ 4) : z_M 63 [.ref 3, .int (nI x), .int (nI j), .int (nI v)] h = some (q_b (q_wi a x j v), h) := by
  have lt : ∀ c, c < 300 → (nI v < nI c) = (v < c) := fun c hc => propext ⟨fun q => by
    rcases Nat.lt_or_ge v c with r | r
    · exact r
    · exact absurd q (nI_nlt r (by omega)), fun q => nI_lt q (by omega)⟩
  have gt : ∀ c, c < 300 → (nI c < nI v) = (c < v) := fun c hc => propext ⟨fun q => by
    rcases Nat.lt_or_ge c v with r | r
    · exact r
    · exact absurd q (nI_nlt r (by omega)), fun q => nI_lt q (by omega)⟩
  have ge : ∀ c, c < 300 → (nI c ≤ nI v) = (c ≤ v) := fun c hc => propext ⟨fun q => by
    rcases Nat.lt_or_ge v c with r | r
    · exact absurd q (nI_ge r (by omega))
    · exact r, fun q => nI_le q (by omega)⟩
  have ne : ∀ c, c < 300 → (nI v = nI c) = (v = c) := fun c hc => propext (nI_eq (by omega) (by omega))
  have l8 : (nI v < 8) = (v < 8) := lt 8 (by decide)
  have l1 : (nI v < 1) = (v < 1) := lt 1 (by decide)
  have e9 : (nI v = 9) = (v = 9) := ne 9 (by decide)
  have g9 : ((9 : Int32) < nI v) = (9 < v) := gt 9 (by decide)
  have g255 : ((255 : Int32) < nI v) = (255 < v) := gt 255 (by decide)
  have g4 : ((4 : Int32) ≤ nI v) = (4 ≤ v) := ge 4 (by decide)
  have g6 : ((6 : Int32) ≤ nI v) = (6 ≤ v) := ge 6 (by decide)
  have la : (nI v < nI (a 1)) = (v < a 1) := lt (a 1) (by omega)
  have l0 : (nI v < 0) = False := eq_false (nI_pos (by omega))
  have j0 : (nI j = 0) = (j = 0) := propext (nI_eq (b := 0) (by omega) (by decide))
  have j1 : (nI j = 1) = (j = 1) := propext (nI_eq (b := 1) (by omega) (by decide))
  have hnm : z_M 37 [.int (nI v)] h = some (q_b (decide (v < 4)), h) := by
    rw [e_X_isName]
    simp only [l0, g4, if_false]
    by_cases q : v < 4
    · rw [if_neg (by omega), decide_eq_true q]; rfl
    · rw [if_pos (by omega), decide_eq_false q]; rfl
  have qb1 : ∀ p : Bool, q_b p &&& 1 = q_b p := by intro p; cases p <;> decide
  rw [e_Rd_isWithin]
  rcases (show x = 1 ∨ x = 2 ∨ x = 3 ∨ x = 4 ∨ x = 5 by omega) with rfl | rfl | rfl | rfl | rfl
  · rw [if_pos (show nI 1 = 1 from rfl)]
    simp only [l8, e9, g9, j0]
    unfold q_wi
    by_cases q0 : j = 0
    · simp only [q0, not_true, if_false, if_true]
      by_cases q : v ≤ 9
      · rw [if_neg (by omega), decide_eq_true q]; rfl
      · rw [if_pos (by omega), decide_eq_false q]; rfl
    · simp only [q0, not_false_eq_true, if_true, if_false]
      by_cases q : v < 8
      · rw [if_pos q, decide_eq_true q]; rfl
      · rw [if_neg q, decide_eq_false q]
        by_cases q' : v = 9
        · rw [if_neg (fun z => z q'), decide_eq_true q']; rfl
        · rw [if_pos q', decide_eq_false q']; rfl
  · rw [if_neg (show ¬ nI 2 = 1 by decide), if_pos (show nI 2 = 2 from rfl), hnm, z_bd_some, qb1]
    simp only [l8, e9, j0]
    unfold q_wi
    by_cases q0 : j = 0
    · simp only [q0, not_true, if_false, if_true]
    · simp only [q0, not_false_eq_true, if_true, if_false]
      by_cases q : v < 8
      · rw [if_pos q, decide_eq_true q]; rfl
      · rw [if_neg q, decide_eq_false q]
        by_cases q' : v = 9
        · rw [if_neg (fun z => z q'), decide_eq_true q']; rfl
        · rw [if_pos q', decide_eq_false q']; rfl
  · rw [if_neg (show ¬ nI 3 = 1 by decide), if_neg (show ¬ nI 3 = 2 by decide), if_pos (show nI 3 = 3 from rfl), h41]
    simp only [la, e9]
    unfold q_wi
    by_cases q : v < a 1
    · rw [if_pos q]; simp [q]; rfl
    · rw [if_neg q]
      by_cases q' : v = 9
      · rw [if_neg (fun z => z q')]; simp [q']; rfl
      · rw [if_pos q']; simp [q, q']; rfl
  · rw [if_neg (show ¬ nI 4 = 1 by decide), if_neg (show ¬ nI 4 = 2 by decide), if_neg (show ¬ nI 4 = 3 by decide), if_pos (show nI 4 = 4 from rfl), hnm, z_bd_some, qb1]
    simp only [g4, g6, j0, j1]
    unfold q_wi
    by_cases q0 : j = 0
    · simp only [q0, not_true, if_false, if_true]
      by_cases q : v < 4
      · rw [if_neg (by omega), decide_eq_true q]; rfl
      · rw [if_pos (by omega), decide_eq_false q]; rfl
    · simp only [q0, not_false_eq_true, if_true, if_false]
      by_cases q1 : j = 1
      · simp only [q1, not_true, if_false, if_true]
      · simp only [q1, not_false_eq_true, if_true, if_false]
        by_cases q : v < 6
        · rw [if_neg (by omega), decide_eq_true q]; rfl
        · rw [if_pos (by omega), decide_eq_false q]; rfl
  · rw [if_neg (show ¬ nI 5 = 1 by decide), if_neg (show ¬ nI 5 = 2 by decide), if_neg (show ¬ nI 5 = 3 by decide), if_neg (show ¬ nI 5 = 4 by decide)]
    simp only [g4, g9, g255, l1, j0, j1]
    unfold q_wi
    by_cases q0 : j = 0
    · simp only [q0, not_true, if_false, if_true]
      by_cases q : v < 4
      · rw [if_neg (by omega), decide_eq_true q]; rfl
      · rw [if_pos (by omega), decide_eq_false q]; rfl
    · simp only [q0, not_false_eq_true, if_true, if_false]
      by_cases q1 : j = 1
      · simp only [q1, not_true, if_false, if_true]
        by_cases q : v < 256
        · rw [if_neg (by omega), decide_eq_true q]; rfl
        · rw [if_pos (by omega), decide_eq_false q]; rfl
      · simp only [q1, not_false_eq_true, if_true, if_false]
        by_cases q : v < 1
        · rw [if_pos q, decide_eq_false (show ¬ 1 ≤ v by omega)]; rfl
        · rw [if_neg q, decide_eq_true (show 1 ≤ v by omega)]
          by_cases q' : 9 < v
          · rw [if_pos q', decide_eq_false (show ¬ v ≤ 9 by omega)]; rfl
          · rw [if_neg q', decide_eq_true (show v ≤ 9 by omega)]; rfl
theorem q_cLst {x : Nat} (hx : x ≤ 5) (h : z_H) : z_M 61 [.int (nI x)] h = some (nI (q_lst x), h) := by
  rw [e_Rd_leastArguments]
  rcases (show x = 0 ∨ x = 1 ∨ x = 2 ∨ x = 3 ∨ x = 4 ∨ x = 5 by omega) with rfl | rfl | rfl | rfl | rfl | rfl <;> rfl
theorem q_cMst {x : Nat} (hx : x ≤ 5) (h : z_H) : z_M 62 [.int (nI x)] h = some (nI (q_mst x), h) := by
  rw [e_Rd_mostArguments]
  rcases (show x = 0 ∨ x = 1 ∨ x = 2 ∨ x = 3 ∨ x = 4 ∨ x = 5 by omega) with rfl | rfl | rfl | rfl | rfl | rfl <;> rfl
end QAR
