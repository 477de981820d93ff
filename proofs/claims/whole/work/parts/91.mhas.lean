/-! THE PURE PART: the reference reads what a class has -/
section QMH
variable {a : Nat → Nat} {hc hm : Nat} {b : Nat → Nat} {n e s : Nat}
theorem q_mL4 {h : z_H} (hen : e ≤ n) (ht : q_mT h.1 b n (q_tkn b n e 0)) (hs : q_mS h.1 a hc hm) : ∃ h', z_M 147 [.ref 122, .int (nI 4)] h = some (0, h') ∧ q_rg h h' ∧ q_mOut b n e a 4 hc hm h' (q_ga b n e a 4 (q_mst 4) 0) := by
  obtain ⟨r, er⟩ : ∃ r, r = q_ga b n e a 4 (q_mst 4) 0 := ⟨_, rfl⟩
  have ha := hs.1.1.2.1
  have hcl := hs.1.2.2.2.2.2
  obtain ⟨v0, h1, a1, a2, a3, a4, a5, a6⟩ := q_mCls (x := 4) (r := r) hen (Or.inr ⟨ht, er⟩) (Or.inl rfl) ha hs.2.2.1 hcl.1
  obtain ⟨v1, h2, b1, b2, b3, b4, b5⟩ := q_mPs (x1 := 0) (x2 := 3) (x3 := -4) hen a3 (by omega) ha (by decide) (by decide) ⟨rfl, rfl, rfl⟩
  obtain ⟨v2, h3, c1, c2, c3, c4, c5⟩ := q_mPs (x1 := 0) (x2 := 5) (x3 := -4) hen b3 (by omega) ha (by decide) (by decide) ⟨rfl, rfl, rfl⟩
  have hv1 : v1 < 4 := by
    rcases b4 with q | q
    · omega
    · unfold q_wi at q
      simp at q
      exact q
  have hv2 : v2 < 6 := by
    rcases c4 with q | q
    · omega
    · unfold q_wi at q
      simp at q
      exact q
  have r3 : ∀ o k, ¬ (o = 122 ∧ (k = 4 ∨ 8 ≤ k ∧ k ≤ 13)) → h3.1 o k = h.1 o k := fun o k q => by
    rw [c2 o k (by omega), b2 o k (by omega), a2 o k q]
  have e5 : h3.1 122 5 = q_hi (-1) hm := (r3 _ _ (by omega)).trans hs.2.2.2
  have e4 : h3.1 122 4 = q_hi (-1) (max hc (v0 + 1)) := by
    rw [c2 _ _ (by omega), b2 _ _ (by omega)]; exact a6
  obtain ⟨h', eh⟩ : ∃ h', h' = z_wI (z_wI h3 122 5 (q_hi (-1) (max hm (v2 + 1)))) 126 (q_hs 0 v0 v1) (nI v2) := ⟨_, rfl⟩
  have hb := q_hsb a4 hv1
  have r4 : ∀ o k, o ≠ 126 → ¬ (o = 122 ∧ k = 5) → h'.1 o k = h3.1 o k := fun o k q q' => by
    rw [eh, z_wI1, if_neg (by omega), z_wI1, if_neg (by omega)]
  have H40 : ∀ y, zl_M_readHas_40 (nI v0) (nI v1) (nI v2) y h3 = some (0, z_wI (z_wI h3 122 5 y) 126 (q_hs 0 v0 v1) (nI v2)) := fun y => by
    have eA : z_M 130 [.int 0, .int (nI v0), .int (nI v1)] (z_wI h3 122 5 y) = some (nI (q_hs 0 v0 v1), z_wI h3 122 5 y) := by
      rw [e_M_hasAt]
      show some ((((13 + (256 * (0 : Int32))) + 240) + (4 * nI v0)) + nI v1, _) = _
      rw [show ((13 : Int32) + (256 * 0)) + 240 = nI 253 from rfl, n_4, pk_mul, nI_add, nI_add]
      rfl
    rw [e_M_readHas_40, eA, z_bd_some, q_inC (show q_hs 0 v0 v1 < 549 by omega) (by decide), nI_clamp (by omega)]
  have E : z_M 147 [.ref 122, .int (nI 4)] h = some (0, h') := by
    rw [e_M_readLineOf, if_neg (show ¬ nI 4 = 0 by decide), if_neg (show ¬ nI 4 = 1 by decide), if_neg (show ¬ nI 4 = 2 by decide), if_neg (show ¬ nI 4 = 3 by decide), if_pos (show nI 4 = 4 from rfl), e_M_readHas, a1, z_bd_some, b1, z_bd_some, c1, z_bd_some, e5]
    rw [q_hi_le (by decide) (by omega) (by omega) (fun y => zl_M_readHas_40 (nI v0) (nI v1) (nI v2) y h3), H40, ← eh, z_bd_some]
  refine ⟨h', E, fun o k q q' => (r4 o k q' (by omega)).trans (r3 o k (by omega)), ?_⟩
  rw [← er]
  refine q_mPe (x := 4) (c3.k (fun o k q q' => r4 o k q (by omega))) (by decide) (fun q _ => ?_)
  have u0 := a5 q
  have u1 := b5 q
  have u2 := c5 q
  refine ⟨?_, ?_, ?_, ?_⟩
  · show q_dk (q_rH a (q_tv b n (q_tkn b n e 0)) (q_tv b n (q_tkn b n e 1)) (q_tv b n (q_tkn b n e 2))) (max hc (q_tv b n (q_tkn b n e 0) + 1)) (max hm (q_tv b n (q_tkn b n e 2) + 1))
    rw [← u0, ← u1, ← u2]
    exact hs.1.H a4 hv1 hv2
  · show ∀ j, j < 549 → _ = q_v (q_s1 a (q_hs 0 (q_tv b n (q_tkn b n e 0)) (q_tv b n (q_tkn b n e 1))) (q_tv b n (q_tkn b n e 2)) j)
    rw [← u0, ← u1, ← u2, eh]
    refine q_st1 (fun j hj => ?_) (by omega)
    rw [z_wI1, if_neg (by omega), r3 _ _ (by omega)]
    exact hs.2.1 j hj
  · show h'.1 122 4 = q_hi (-1) (max hc (q_tv b n (q_tkn b n e 0) + 1))
    rw [← u0, r4 _ _ (by omega) (by omega)]
    exact e4
  · show h'.1 122 5 = q_hi (-1) (max hm (q_tv b n (q_tkn b n e 2) + 1))
    rw [← u2, eh, z_wI1, if_neg (by omega), z_wI1, if_pos ⟨rfl, rfl⟩]
end QMH
