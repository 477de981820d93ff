/-! THE PURE PART: the reference reads the rest of a line -/
def q_mOut (b : Nat → Nat) (n e : Nat) (a : Nat → Nat) (x hc hm : Nat) (h' : z_H) (r : Nat × Nat) : Prop :=
  (¬ r.1 = 0 ∧ r.1 ≤ 3 ∧ q_mF h'.1 r.1 (q_tkn b n e r.2)) ∨
  (∃ m, r = ((if q_kd b n (q_tkn b n e m) = 3 then 0 else 2), m) ∧ q_mT h'.1 b n (q_tkn b n e m) ∧ ¬ q_kd b n (q_tkn b n e m) = 0 ∧ (q_kd b n (q_tkn b n e m) = 3 → q_mS h'.1 (q_row a x (fun i => q_tv b n (q_tkn b n e i)) m) (q_hC x (fun i => q_tv b n (q_tkn b n e i)) hc) (q_hM x (fun i => q_tv b n (q_tkn b n e i)) hm)))
section QML
variable {a : Nat → Nat} {hc hm : Nat} {b : Nat → Nat} {n e s : Nat}
theorem q_mT.k {h h1 : z_H} (ht : q_mT h.1 b n s) (r : ∀ o k, o ≠ 126 → ¬ (o = 122 ∧ 4 ≤ k ∧ k ≤ 5) → h1.1 o k = h.1 o k) : q_mT h1.1 b n s := by
  obtain ⟨t1, t2, t3⟩ := ht
  refine ⟨⟨t1.1, by rw [r _ _ (by omega) (by omega)]; exact t1.2.1, fun i hi => ⟨(t1.2.2 i hi).1, by rw [r _ _ (by omega) (by omega)]; exact (t1.2.2 i hi).2⟩⟩, fun q => ?_, fun q => ?_⟩
  · rw [r _ _ (by omega) (by omega), r _ _ (by omega) (by omega), r _ _ (by omega) (by omega), r _ _ (by omega) (by omega), r 122 11 (by omega) (by omega)]
    exact t2 q
  · rw [r _ _ (by omega) (by omega), r _ _ (by omega) (by omega)]
    exact t3 q
theorem q_mF.k {h h1 : z_H} {c : Nat} (hF : q_mF h.1 c s) (r : ∀ o k, o ≠ 126 → ¬ (o = 122 ∧ 4 ≤ k ∧ k ≤ 5) → h1.1 o k = h.1 o k) : q_mF h1.1 c s := ⟨(r _ _ (by omega) (by omega)).trans hF.1, (r _ _ (by omega) (by omega)).trans hF.2⟩
theorem q_gz1 {L j : Nat} (h0 : ¬ q_kd b n (q_tkn b n e j) = 0) (hL : L ≤ j) : q_gz b n e L j = ((if q_kd b n (q_tkn b n e j) = 3 then 0 else 2), j) := by
  unfold q_gz
  rw [if_neg h0, if_neg (by omega)]
  split <;> rfl
theorem q_nc3 {x j : Nat} : q_nc b n a x j s ≤ 3 := by
  unfold q_nc
  repeat' split
  all_goals omega
theorem q_mL0 {h : z_H} (ht : q_mT h.1 b n (q_tkn b n e 0)) (h0 : ¬ q_kd b n (q_tkn b n e 0) = 0) (hs : q_mS h.1 a hc hm) (hr : q_rm a 0 = true) : ∃ h', z_M 147 [.ref 122, .int (nI 0)] h = some (0, h') ∧ q_rg h h' ∧ q_mOut b n e a 0 hc hm h' (q_ga b n e a 0 (q_mst 0) 0) := by
  have h06 := hs.1.1.1
  have g0 : h.1 126 0 = nI (a 0) := (hs.2.1 0 (by omega)).trans (q_vn (by omega))
  have r : ∀ o k, o ≠ 126 → (z_wI h 126 0 (nI (a 0 + 1))).1 o k = h.1 o k := fun o k q => by rw [z_wI1, if_neg (by omega)]
  refine ⟨z_wI h 126 0 (nI (a 0 + 1)), ?_, fun o k _ q => r o k q, Or.inr ⟨0, q_gz1 h0 (Nat.le_refl _), ht.k (fun o k q _ => r o k q), h0, fun _ => ⟨?_, ?_, (r _ _ (by omega)).trans hs.2.2.1, (r _ _ (by omega)).trans hs.2.2.2⟩⟩⟩
  · rw [e_M_readLineOf, if_pos (show nI 0 = 0 from rfl), g0, nI_1]
  · exact hs.1.M (of_decide_eq_true hr)
  · exact q_st1 hs.2.1 (by omega)
theorem q_mL3 {h : z_H} (hen : e ≤ n) (ht : q_mT h.1 b n (q_tkn b n e 0)) (h0 : ¬ q_kd b n (q_tkn b n e 0) = 0) (hs : q_mS h.1 a hc hm) (hr : q_rm a 3 = true) : ∃ h', z_M 147 [.ref 122, .int (nI 3)] h = some (0, h') ∧ q_rg h h' ∧ q_mOut b n e a 3 hc hm h' (q_ga b n e a 3 (q_mst 3) 0) := by
  have h1 : a 1 < 4 := of_decide_eq_true hr
  have g1 : h.1 126 1 = nI (a 1) := (hs.2.1 1 (by omega)).trans (q_vn (by omega))
  have hle := q_tkn_le (b := b) hen 0
  obtain ⟨v, h2, b1, b2, b3, b4⟩ := q_mStep (a := a) (x := 3) (j := 0) (x1 := 0) (x2 := nI (a 1) - 1) (x3 := 9) hle.2 ht (by omega) (by omega) ⟨rfl, rfl, rfl⟩
  have hs2 := hs.rf b2
  have w1 : (z_wI h2 126 (3 + a 1) (nI v)).1 126 1 = nI (a 1) := by
    rw [z_wI1, if_neg (by omega), b2 _ _ (by omega)]; exact g1
  obtain ⟨h', eh⟩ : ∃ h', h' = z_wI (z_wI h2 126 (3 + a 1) (nI v)) 126 1 (nI (a 1 + 1)) := ⟨_, rfl⟩
  have r : ∀ o k, o ≠ 126 → h'.1 o k = h2.1 o k := fun o k q => by rw [eh, z_wI1, if_neg (by omega), z_wI1, if_neg (by omega)]
  have E : z_M 147 [.ref 122, .int (nI 3)] h = some (0, h') := by
    rw [e_M_readLineOf, if_neg (show ¬ nI 3 = 0 by decide), if_neg (show ¬ nI 3 = 1 by decide), if_neg (show ¬ nI 3 = 2 by decide), if_pos (show nI 3 = 3 from rfl), g1, b1, z_bd_some, n_3, nI_add, q_inC (show 3 + a 1 < 549 by omega) (by decide), nI_clamp (by omega), w1, nI_1, ← eh]
  refine ⟨h', E, fun o k q q' => (r o k q').trans (b2 o k (by omega)), ?_⟩
  show q_mOut b n e a 3 hc hm h' (q_ga b n e a 3 (0 + 1) 0)
  rw [q_ga_nc]
  by_cases hn : q_nc b n a 3 0 (q_tkn b n e 0) = 0
  · obtain ⟨c1, c2, c3⟩ := b3 hn
    have c3 : q_mT h2.1 b n (q_tkn b n e 1) := c3
    rw [if_pos hn]
    show q_mOut b n e a 3 hc hm h' (q_gz b n e 1 1)
    by_cases hk : q_kd b n (q_tkn b n e 1) = 0
    · have z := (c3.2.2 hk)
      have ez : q_gz b n e 1 1 = (1, 1) := by unfold q_gz; rw [if_pos hk]
      rw [ez]
      exact Or.inl ⟨by decide, by decide, (show q_mF h2.1 1 _ from z).k (fun o k q _ => r o k q)⟩
    · refine Or.inr ⟨1, q_gz1 hk (Nat.le_refl _), c3.k (fun o k q _ => r o k q), hk, fun _ => ⟨?_, ?_, (r _ _ (by omega)).trans hs2.2.2.1, (r _ _ (by omega)).trans hs2.2.2.2⟩⟩
      · refine hs.1.C h1 ?_
        rw [c1] at c2
        unfold q_wi at c2
        simp only [Bool.or_eq_true, decide_eq_true_eq] at c2
        show q_tv b n (q_tkn b n e 0) = 9 ∨ q_tv b n (q_tkn b n e 0) < a 1
        omega
      · have hv : v < 900 := by
          unfold q_wi at c2
          simp only [Bool.or_eq_true, decide_eq_true_eq] at c2
          omega
        rw [eh]
        have := q_st1 (J := 1) (v := a 1 + 1) (q_st1 (J := 3 + a 1) hs2.2.1 hv) (by omega)
        show ∀ j, j < 549 → _ = q_v (q_s1 (q_s1 a (3 + a 1) (q_tv b n (q_tkn b n e 0))) 1 (a 1 + 1) j)
        rw [← c1]
        exact this
  · obtain ⟨c1, c2⟩ := b4 hn
    rw [if_neg hn]
    by_cases hk2 : q_kd b n (q_tkn b n e 0) = 0 ∨ q_kd b n (q_tkn b n e 0) = 2
    · rw [if_pos hk2]
      exact Or.inl ⟨hn, q_nc3, c2.k (fun o k q _ => r o k q)⟩
    · rw [if_neg hk2]
      have e2 : q_nc b n a 3 0 (q_tkn b n e 0) = 2 := by
        unfold q_nc
        rw [if_neg (by omega), if_neg (by omega)]
      have ez : q_gz b n e (q_lst 3) 0 = (2, 0) := by
        unfold q_gz
        rw [if_neg h0, if_pos (show 0 < q_lst 3 by decide)]
      rw [ez]
      rw [e2] at c2
      exact Or.inl ⟨by decide, by decide, c2.k (fun o k q _ => r o k q)⟩
end QML
