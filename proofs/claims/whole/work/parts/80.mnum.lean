/-! THE PURE PART: the reference reads a number of a line -/
def q_mT (I : Nat → Nat → Int32) (b : Nat → Nat) (n s : Nat) : Prop := q_tM I b n ∧ (q_kd b n s ≠ 0 → I 122 12 = 0 ∧ I 122 9 = nI s ∧ I 122 8 = nI (q_te b n s) ∧ I 122 10 = nI (q_kd b n s % 4) ∧ (q_kd b n s = 2 → I 122 11 = nI (q_tv b n s))) ∧ (q_kd b n s = 0 → I 122 12 = 1 ∧ I 122 13 = nI s)
def q_rf (h h' : z_H) : Prop := ∀ o k, ¬ (o = 122 ∧ 8 ≤ k ∧ k ≤ 13) → h'.1 o k = h.1 o k
theorem q_rf.trans {h h1 h2 : z_H} (a : q_rf h h1) (b : q_rf h1 h2) : q_rf h h2 := fun o k q => (b o k q).trans (a o k q)
section QMN
variable {b : Nat → Nat} {n s : Nat}
theorem q_mRd {h : z_H} {i : Nat} (ht : q_tM h.1 b n) (hi : i ≤ n) (h8 : h.1 122 8 = nI i) (h12 : h.1 122 12 = 0) : ∃ h', z_M 139 [.ref 122] h = some (0, h') ∧ q_mT h'.1 b n (q_ts b n i) ∧ q_rf h h' := by
  obtain ⟨h', a1, a2, a3, a4⟩ := q_mReads ht hi h8 h12
  exact ⟨h', a1, ⟨ht.fr (fun o k q _ => a4 o k (by omega)), a2, a3⟩, a4⟩
theorem q_mRq {h : z_H} {c : Nat} (hc : 0 < c) (hc' : c < 100) (h12 : h.1 122 12 = nI c) : z_M 139 [.ref 122] h = some (0, h) := by
  rw [e_M_reads, h12, if_neg (show ¬ nI c ≤ 0 from nI_ge (a := 0) hc (by omega))]
theorem q_nz {c : Nat} (hc : 0 < c) (hc' : c < 100) : ¬ nI c = 0 := fun q => by
  have := (nI_eq (b := 0) (by omega) (by decide)).mp q
  omega
theorem q_mQq {h : z_H} {c : Nat} (hc : 0 < c) (hc' : c < 100) (h12 : h.1 122 12 = nI c) (x y : Int32) : z_M 135 [.ref 122, .int x, .int y] h = some (0, h) := by
  rw [e_M_requires, h12, if_pos (q_nz hc hc')]
  split <;> rfl
theorem q_mNq {h : z_H} {c : Nat} (hc : 0 < c) (hc' : c < 100) (h12 : h.1 122 12 = nI c) (x1 x2 x3 : Int32) : z_M 140 [.ref 122, .int x1, .int x2, .int x3] h = some (0, h) := by
  have hz := q_nz hc hc'
  rw [e_M_readNumber, h12, if_pos hz, e_M_readNumber_25, h12, if_pos hz, e_M_readNumber_65, h12, if_pos hz, q_mRq hc hc' h12, z_bd_some]
/-- a requirement that holds, and one that does not -/
theorem q_mQt {h : z_H} (y : Int32) : z_M 135 [.ref 122, .int 1, .int y] h = some (0, h) := by
  rw [e_M_requires, if_pos (by decide)]
theorem q_mQf {h : z_H} {y : Nat} (h12 : h.1 122 12 = 0) (h9 : h.1 122 9 = nI s) : ∃ h', z_M 135 [.ref 122, .int 0, .int (nI y)] h = some (0, h') ∧ h'.1 122 12 = nI y ∧ h'.1 122 13 = nI s ∧ ∀ o k, ¬ (o = 122 ∧ 12 ≤ k ∧ k ≤ 13) → h'.1 o k = h.1 o k := by
  have w9 : (z_wI h 122 12 (nI y)).1 122 9 = nI s := by rw [z_wI1, if_neg (by omega)]; exact h9
  refine ⟨z_wI (z_wI h 122 12 (nI y)) 122 13 (nI s), ?_, ?_, ?_, fun o k q => ?_⟩
  · rw [e_M_requires, if_neg (fun q => q rfl), h12, if_neg (fun q => q rfl), w9]
  · rw [z_wI1, if_neg (by omega), z_wI1, if_pos ⟨rfl, rfl⟩]
  · rw [z_wI1, if_pos ⟨rfl, rfl⟩]
  · rw [z_wI1, if_neg (by omega), z_wI1, if_neg (by omega)]
/-- the fault is told at s -/
def q_mF (I : Nat → Nat → Int32) (c s : Nat) : Prop := I 122 12 = nI c ∧ I 122 13 = nI s
theorem q_mNum2 {h : z_H} {x1 x2 x3 : Int32} (hs : s ≤ n) (ht : q_mT h.1 b n s) (h0 : ¬ q_kd b n s = 0) (h2 : ¬ q_kd b n s = 2) : ∃ h', z_M 140 [.ref 122, .int x1, .int x2, .int x3] h = some (0, h') ∧ q_mF h'.1 2 s ∧ q_rf h h' := by
  obtain ⟨t1, t2, t3, t4, t5⟩ := ht.2.1 h0
  have hk := q_kd4 b n s
  obtain ⟨h', a1, a2, a3, a4⟩ := q_mQf (y := 2) t1 t2
  have a1 : z_M 135 [.ref 122, .int 0, .int 2] h = some (0, h') := a1
  have hn : ¬ nI (q_kd b n s % 4) = 2 := fun q => by
    have := (nI_eq (b := 2) (by omega) (by decide)).mp q
    omega
  have hz := q_nz (c := 2) (by decide) (by decide)
  refine ⟨h', ?_, ⟨a2, a3⟩, fun o k q => a4 o k (by omega)⟩
  rw [e_M_readNumber, t1, if_neg (show ¬ ¬ (0 : Int32) = 0 from fun q => q rfl), t4, if_pos hn, a1, z_bd_some, e_M_readNumber_25, a2, if_pos hz, e_M_readNumber_65, a2, if_pos hz, q_mRq (by decide) (by decide) a2, z_bd_some]
theorem q_mNum3 {h : z_H} {x1 x2 x3 : Int32} {w z : Bool} (hs : s ≤ n) (ht : q_mT h.1 b n s) (h2 : q_kd b n s = 2) (hw : ∀ h, z_M 127 [.long (nI (q_tv b n s)).toInt64, .long x1.toInt64, .long x2.toInt64] h = some (q_b w, h)) (hz : (nI (q_tv b n s) = x3) = (z = true)) : ∃ h', ((w || z) = false → z_M 140 [.ref 122, .int x1, .int x2, .int x3] h = some (0, h') ∧ q_mF h'.1 3 s) ∧ ((w || z) = true → z_M 140 [.ref 122, .int x1, .int x2, .int x3] h = some (nI (q_tv b n s), h') ∧ q_mT h'.1 b n (q_ts b n (q_te b n s))) ∧ q_rf h h' := by
  obtain ⟨t1, t2, t3, t4, t5⟩ := ht.2.1 (by omega)
  have t5 := t5 h2
  have hte := q_te_le (b := b) hs
  obtain ⟨h1, c1, c2, c3⟩ := q_mRd ht.1 hte.2 t3 t1
  obtain ⟨h', a1, a2, a3, a4⟩ := q_mQf (y := 3) t1 t2
  have a1 : z_M 135 [.ref 122, .int 0, .int 3] h = some (0, h') := a1
  have hn : ¬ ¬ nI (q_kd b n s % 4) = 2 := fun q => q (by rw [h2]; rfl)
  have hnz := q_nz (c := 3) (by decide) (by decide)
  have e1 : z_M 140 [.ref 122, .int x1, .int x2, .int x3] h = if ¬ q_b w = 0 then zl_M_readNumber_65 h else if ¬ nI (q_tv b n s) = x3 then zl_M_readNumber_65 h' else zl_M_readNumber_65 h := by
    rw [e_M_readNumber, t1, if_neg (show ¬ ¬ (0 : Int32) = 0 from fun q => q rfl), t4, if_neg hn, q_mQt, z_bd_some, e_M_readNumber_25, t1, if_neg (show ¬ ¬ (0 : Int32) = 0 from fun q => q rfl), t5, hw, z_bd_some, q_mQt, z_bd_some, t5, a1, z_bd_some]
  have good : zl_M_readNumber_65 h = some (nI (q_tv b n s), h1) := by
    rw [e_M_readNumber_65, t1, if_neg (show ¬ ¬ (0 : Int32) = 0 from fun q => q rfl), c1, z_bd_some, t5]
  have bad : zl_M_readNumber_65 h' = some (0, h') := by
    rw [e_M_readNumber_65, a2, if_pos hnz, q_mRq (by decide) (by decide) a2, z_bd_some]
  rw [e1, good, bad]
  cases w with
  | true =>
    rw [if_pos (show ¬ q_b true = 0 by decide)]
    exact ⟨h1, fun q => (Bool.noConfusion q), fun _ => ⟨rfl, c2⟩, c3⟩
  | false =>
    rw [if_neg (show ¬ ¬ q_b false = 0 by decide)]
    cases z with
    | true =>
      rw [if_neg (show ¬ ¬ nI (q_tv b n s) = x3 from fun q => q (hz.mpr rfl))]
      exact ⟨h1, fun q => (Bool.noConfusion q), fun _ => ⟨rfl, c2⟩, c3⟩
    | false =>
      rw [if_pos (show ¬ nI (q_tv b n s) = x3 from fun q => Bool.noConfusion (hz.mp q))]
      exact ⟨h', fun _ => ⟨rfl, a2, a3⟩, fun q => (Bool.noConfusion q), fun o k q => a4 o k (by omega)⟩
/-- number j of a line of kind x, as the reference asks for it -/
def q_mAsk (a : Nat → Nat) (x j : Nat) (x1 x2 x3 : Int32) : Prop := match x with
  | 1 => if j = 0 then x1 = 0 ∧ x2 = 9 ∧ x3 = -4 else x1 = 0 ∧ x2 = 7 ∧ x3 = 9
  | 2 => if j = 0 then x1 = 0 ∧ x2 = 3 ∧ x3 = -4 else x1 = 0 ∧ x2 = 7 ∧ x3 = 9
  | 3 => x1 = 0 ∧ x2 = nI (a 1) - 1 ∧ x3 = 9
  | 4 => if j = 0 then x1 = 0 ∧ x2 = 3 ∧ x3 = -4 else if j = 1 then x1 = 0 ∧ x2 = 3 ∧ x3 = -4 else x1 = 0 ∧ x2 = 5 ∧ x3 = -4
  | _ => if j = 0 then x1 = 0 ∧ x2 = 3 ∧ x3 = -4 else if j = 1 then x1 = 0 ∧ x2 = 255 ∧ x3 = -4 else x1 = 1 ∧ x2 = 9 ∧ x3 = -4
theorem q_mAskT {a : Nat → Nat} {x j v : Nat} {x1 x2 x3 : Int32} (hx : 1 ≤ x ∧ x ≤ 5) (ha : a 1 ≤ 4) (hv : v < 10000) (h : q_mAsk a x j x1 x2 x3) : ∃ w z : Bool, (∀ h, z_M 127 [.long (nI v).toInt64, .long x1.toInt64, .long x2.toInt64] h = some (q_b w, h)) ∧ (nI v = x3) = (z = true) ∧ (w || z) = q_wi a x j v := by
  have neg : (nI v = -4) = (false = true) := propext ⟨fun q => by
    have h1 : nI v < 0 := by rw [q]; decide
    exact absurd h1 (nI_pos (by omega)), fun q => Bool.noConfusion q⟩
  have nine : (nI v = 9) = (decide (v = 9) = true) := propext ⟨fun q => decide_eq_true ((nI_eq (b := 9) (by omega) (by decide)).mp q), fun q => by
    have := of_decide_eq_true q
    rw [this]; rfl⟩
  have win : ∀ l u, l < 300 → u < 300 → ∀ h, z_M 127 [.long (nI v).toInt64, .long (nI l).toInt64, .long (nI u).toInt64] h = some (q_b (decide (l ≤ v) && decide (v ≤ u)), h) := by
    intro l u hl hu h
    rw [q_wnI (by omega) (by omega) (by omega)]
    by_cases h1 : l ≤ v <;> by_cases h2 : v ≤ u <;> simp [h1, h2] <;> rfl
  have cnv : ∀ l u, (decide (l ≤ v) && decide (v ≤ u) || false) = (decide (l ≤ v) && decide (v ≤ u)) := fun l u => Bool.or_false _
  have lo : ∀ u, (decide (0 ≤ v) && decide (v ≤ u)) = decide (v < u + 1) := fun u => by
    by_cases h1 : v ≤ u
    · rw [decide_eq_true h1, decide_eq_true (show v < u + 1 by omega), decide_eq_true (Nat.zero_le v)]; rfl
    · rw [decide_eq_false h1, decide_eq_false (show ¬ v < u + 1 by omega), Bool.and_false]
  rcases (show x = 1 ∨ x = 2 ∨ x = 3 ∨ x = 4 ∨ x = 5 by omega) with rfl | rfl | rfl | rfl | rfl
  · unfold q_mAsk at h
    unfold q_wi
    by_cases q0 : j = 0
    · simp only [q0, if_true] at h ⊢
      obtain ⟨rfl, rfl, rfl⟩ := h
      refine ⟨_, _, win 0 9 (by decide) (by decide), neg, ?_⟩
      rw [cnv, decide_eq_true (Nat.zero_le v), Bool.true_and]
    · simp only [q0, if_false] at h ⊢
      obtain ⟨rfl, rfl, rfl⟩ := h
      exact ⟨_, _, win 0 7 (by decide) (by decide), nine, by rw [lo]⟩
  · unfold q_mAsk at h
    unfold q_wi
    by_cases q0 : j = 0
    · simp only [q0, if_true] at h ⊢
      obtain ⟨rfl, rfl, rfl⟩ := h
      exact ⟨_, _, win 0 3 (by decide) (by decide), neg, by rw [cnv, lo]⟩
    · simp only [q0, if_false] at h ⊢
      obtain ⟨rfl, rfl, rfl⟩ := h
      exact ⟨_, _, win 0 7 (by decide) (by decide), nine, by rw [lo]⟩
  · unfold q_mAsk at h
    unfold q_wi
    obtain ⟨rfl, rfl, rfl⟩ := h
    rcases Nat.eq_zero_or_pos (a 1) with q | q
    · refine ⟨false, _, fun h => ?_, nine, ?_⟩
      · rw [q, q_within, if_neg (fun z => by
          have h1 := z.2
          have h2 : (nI v).toInt = (v : Int) := nI_toInt (by omega)
          have h3 : (nI 0 - 1 : Int32).toInt = -1 := rfl
          omega)]
        rfl
      · rw [decide_eq_false (show ¬ v < a 1 by omega)]
        rfl
    · have e : nI (a 1) - 1 = nI (a 1 - 1) := by rw [n_1, q_sub q]
      rw [e]
      refine ⟨_, _, win 0 (a 1 - 1) (by decide) (by omega), nine, ?_⟩
      rw [lo, show a 1 - 1 + 1 = a 1 by omega]
      rfl
  · unfold q_mAsk at h
    unfold q_wi
    by_cases q0 : j = 0
    · simp only [q0, if_true] at h ⊢
      obtain ⟨rfl, rfl, rfl⟩ := h
      exact ⟨_, _, win 0 3 (by decide) (by decide), neg, by rw [cnv, lo]⟩
    · simp only [q0, if_false] at h ⊢
      by_cases q1 : j = 1
      · simp only [q1, if_true] at h ⊢
        obtain ⟨rfl, rfl, rfl⟩ := h
        exact ⟨_, _, win 0 3 (by decide) (by decide), neg, by rw [cnv, lo]⟩
      · simp only [q1, if_false] at h ⊢
        obtain ⟨rfl, rfl, rfl⟩ := h
        exact ⟨_, _, win 0 5 (by decide) (by decide), neg, by rw [cnv, lo]⟩
  · unfold q_mAsk at h
    unfold q_wi
    by_cases q0 : j = 0
    · simp only [q0, if_true] at h ⊢
      obtain ⟨rfl, rfl, rfl⟩ := h
      exact ⟨_, _, win 0 3 (by decide) (by decide), neg, by rw [cnv, lo]⟩
    · simp only [q0, if_false] at h ⊢
      by_cases q1 : j = 1
      · simp only [q1, if_true] at h ⊢
        obtain ⟨rfl, rfl, rfl⟩ := h
        exact ⟨_, _, win 0 255 (by decide) (by decide), neg, by rw [cnv, lo]⟩
      · simp only [q1, if_false] at h ⊢
        obtain ⟨rfl, rfl, rfl⟩ := h
        exact ⟨_, _, win 1 9 (by decide) (by decide), neg, by rw [cnv]⟩
end QMN
