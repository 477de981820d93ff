/-! THE PURE PART: the reference reads a test -/
section QMX
variable {a : Nat → Nat} {hc hm : Nat} {b : Nat → Nat} {n e s : Nat}
theorem q_mL5 {h : z_H} (hen : e ≤ n) (ht : q_mT h.1 b n (q_tkn b n e 0)) (hs : q_mS h.1 a hc hm) (hr : q_rm a 5 = true) : ∃ h', z_M 147 [.ref 122, .int (nI 5)] h = some (0, h') ∧ q_rg h h' ∧ q_mOut b n e a 5 hc hm h' (q_ga b n e a 5 (q_mst 5) 0) := by
  obtain ⟨r, er⟩ : ∃ r, r = q_ga b n e a 5 (q_mst 5) 0 := ⟨_, rfl⟩
  have h8 : a 2 < 8 := of_decide_eq_true hr
  have ha := hs.1.1.2.1
  have hcl := hs.1.2.2.2.2.2
  have g2 : h.1 126 2 = nI (a 2) := (hs.2.1 2 (by omega)).trans (q_vn (by omega))
  obtain ⟨g, eg⟩ : ∃ g, g = z_wI h 126 2 (nI (a 2 + 1)) := ⟨_, rfl⟩
  have rg : ∀ o k, o ≠ 126 → g.1 o k = h.1 o k := fun o k q => by rw [eg, z_wI1, if_neg (by omega)]
  obtain ⟨v0, h1, a1, a2, a3, a4, a5, a6⟩ := q_mCls (x := 5) (r := r) (h := g) hen (Or.inr ⟨ht.k (fun o k q _ => rg o k q), er⟩) (Or.inr rfl) ha ((rg _ _ (by omega)).trans hs.2.2.1) hcl.1
  obtain ⟨k1, ek1⟩ : ∃ k1, k1 = z_wI h1 126 (525 + 3 * a 2) (nI v0) := ⟨_, rfl⟩
  have rk1 : ∀ o k, o ≠ 126 → k1.1 o k = h1.1 o k := fun o k q => by rw [ek1, z_wI1, if_neg (by omega)]
  obtain ⟨v1, h2, b1, b2, b3, b4, b5⟩ := q_mPs (h := k1) (x1 := 0) (x2 := 255) (x3 := -4) hen (a3.k (fun o k q _ => rk1 o k q)) (by omega) ha (by decide) (by decide) ⟨rfl, rfl, rfl⟩
  obtain ⟨k2, ek2⟩ : ∃ k2, k2 = z_wI h2 126 (525 + 3 * a 2 + 1) (nI v1) := ⟨_, rfl⟩
  have rk2 : ∀ o k, o ≠ 126 → k2.1 o k = h2.1 o k := fun o k q => by rw [ek2, z_wI1, if_neg (by omega)]
  obtain ⟨v2, h3, c1, c2, c3, c4, c5⟩ := q_mPs (h := k2) (x1 := 1) (x2 := 9) (x3 := -4) hen (b3.k (fun o k q _ => rk2 o k q)) (by omega) ha (by decide) (by decide) ⟨rfl, rfl, rfl⟩
  have hv1 : v1 < 256 := by
    rcases b4 with q | q
    · omega
    · unfold q_wi at q
      simp at q
      exact q
  have hv2 : v2 ≤ 9 := by
    rcases c4 with q | q
    · omega
    · unfold q_wi at q
      simp at q
      exact q.2
  obtain ⟨h', eh⟩ : ∃ h', h' = z_wI h3 126 (525 + 3 * a 2 + 2) (nI v2) := ⟨_, rfl⟩
  have r4 : ∀ o k, o ≠ 126 → h'.1 o k = h3.1 o k := fun o k q => by rw [eh, z_wI1, if_neg (by omega)]
  have r3 : ∀ o k, o ≠ 126 → ¬ (o = 122 ∧ (k = 4 ∨ 8 ≤ k ∧ k ≤ 13)) → h3.1 o k = h.1 o k := fun o k q' q => by
    rw [c2 o k (by omega), rk2 o k q', b2 o k (by omega), rk1 o k q', a2 o k q, rg o k q']
  have E : z_M 147 [.ref 122, .int (nI 5)] h = some (0, h') := by
    have i0 : (525 : Int32) + 3 * nI (a 2) = nI (525 + 3 * a 2) := by rw [n_525, n_3, pk_mul, nI_add]
    rw [e_M_readLineOf, if_neg (show ¬ nI 5 = 0 by decide), if_neg (show ¬ nI 5 = 1 by decide), if_neg (show ¬ nI 5 = 2 by decide), if_neg (show ¬ nI 5 = 3 by decide), if_neg (show ¬ nI 5 = 4 by decide), e_M_readTest, g2, nI_1, ← eg, a1, z_bd_some, i0, q_inC (show 525 + 3 * a 2 < 549 by omega) (by decide), nI_clamp (show 525 + 3 * a 2 < 2 ^ 31 by omega), ← ek1, b1, z_bd_some, nI_1, q_inC (show 525 + 3 * a 2 + 1 < 549 by omega) (by decide), nI_clamp (show 525 + 3 * a 2 + 1 < 2 ^ 31 by omega), ← ek2, c1, z_bd_some, n_2, nI_add, q_inC (show 525 + 3 * a 2 + 2 < 549 by omega) (by decide), nI_clamp (show 525 + 3 * a 2 + 2 < 2 ^ 31 by omega), ← eh, z_bd_some]
  refine ⟨h', E, fun o k q q' => (r4 o k q').trans (r3 o k q' (by omega)), ?_⟩
  rw [← er]
  refine q_mPe (x := 5) (c3.k (fun o k q q' => r4 o k q)) (by decide) (fun q q3 => ?_)
  have u0 := a5 q
  have u1 := b5 q
  have u2 := c5 q
  have hn := q_ga_m (b := b) (n := n) (e := e) (x := 5) (a := a) (f := q_mst 5) (j := 0) (Nat.zero_add _) (by rw [← er]; exact q)
  have q3 : r.2 = 3 := q3
  rw [← er, q3] at hn
  have w2 := hn.2.2.2 2 (by omega) (by omega)
  unfold q_wi at w2
  simp at w2
  rw [← u2] at w2
  refine ⟨?_, ?_, ?_, ?_⟩
  · show q_dk (q_ap a (q_tv b n (q_tkn b n e 0)) (q_tv b n (q_tkn b n e 1)) (q_tv b n (q_tkn b n e 2))) (max hc (q_tv b n (q_tkn b n e 0) + 1)) hm
    rw [← u0, ← u1, ← u2]
    exact hs.1.T h8 a4 hv1 w2
  · show ∀ j, j < 549 → _ = q_v (q_ap a (q_tv b n (q_tkn b n e 0)) (q_tv b n (q_tkn b n e 1)) (q_tv b n (q_tkn b n e 2)) j)
    rw [← u0, ← u1, ← u2]
    intro j hj
    have f1 : ∀ k, h3.1 126 k = k2.1 126 k := fun k => c2 _ _ (by omega)
    have f2 : ∀ k, h2.1 126 k = k1.1 126 k := fun k => b2 _ _ (by omega)
    have f3 : ∀ k, h1.1 126 k = g.1 126 k := fun k => a2 _ _ (by omega)
    unfold q_ap
    rw [eh, z_wI1]
    by_cases j5 : j = 525 + 3 * a 2 + 2
    · rw [if_pos ⟨rfl, j5⟩, if_neg (by omega), if_neg (by omega), if_neg (by omega), if_pos j5, q_vn (by omega)]
    rw [if_neg (by omega), f1, ek2, z_wI1]
    by_cases j4 : j = 525 + 3 * a 2 + 1
    · rw [if_pos ⟨rfl, j4⟩, if_neg (by omega), if_neg (by omega), if_pos j4, q_vn (by omega)]
    rw [if_neg (by omega), f2, ek1, z_wI1]
    by_cases j3 : j = 525 + 3 * a 2
    · rw [if_pos ⟨rfl, j3⟩, if_neg (by omega), if_pos j3, q_vn (by omega)]
    rw [if_neg (by omega), f3, eg, z_wI1]
    by_cases j2 : j = 2
    · rw [if_pos ⟨rfl, j2⟩, if_pos j2, q_vn (by omega)]
    rw [if_neg (by omega), if_neg j2, if_neg j3, if_neg j4, if_neg j5]
    exact hs.2.1 j hj
  · show h'.1 122 4 = q_hi (-1) (max hc (q_tv b n (q_tkn b n e 0) + 1))
    rw [← u0, r4 _ _ (by omega), c2 _ _ (by omega), rk2 _ _ (by omega), b2 _ _ (by omega), rk1 _ _ (by omega)]
    exact a6
  · show h'.1 122 5 = q_hi (-1) hm
    rw [r4 _ _ (by omega), r3 _ _ (by omega) (by omega)]
    exact hs.2.2.2
end QMX
