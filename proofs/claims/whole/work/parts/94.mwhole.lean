/-! THE PURE PART: the reference reads a line whole -/
section QMW
variable {a : Nat → Nat} {hc hm : Nat} {b : Nat → Nat} {n s : Nat}
theorem q_nle {c : Nat} (hc : 0 < c) (hc' : c < 100) : ¬ nI c ≤ 0 := nI_ge (a := 0) hc (by omega)
theorem q_ga0 {e x f j : Nat} (h : q_kd b n (q_tkn b n e j) = 0) : q_ga b n e a x f j = (1, j) := by
  cases f with
  | zero =>
    show q_gz b n e (q_lst x) j = _
    unfold q_gz
    rw [if_pos h]
  | succ f =>
    unfold q_ga
    rw [if_pos h]
theorem q_m83f {h : z_H} {p : Nat} (h12 : h.1 122 12 = 0) (h9 : h.1 122 9 = nI p) : ∃ h', zl_M_readLine_83 0 h = some (0, h') ∧ q_mF h'.1 2 p ∧ q_rf h h' := by
  obtain ⟨h', a1, a2, a3, a4⟩ := q_mQf (y := 2) h12 h9
  have a1 : z_M 135 [.ref 122, .int 0, .int 2] h = some (0, h') := a1
  refine ⟨h', ?_, ⟨a2, a3⟩, fun o k q => a4 o k (by omega)⟩
  rw [e_M_readLine_83, a1, z_bd_some, q_mRq (by decide) (by decide) a2, z_bd_some]
theorem q_mLine {h : z_H} (hsn : s ≤ n) (ht : q_mT h.1 b n s) (h0 : ¬ q_kd b n s = 0) (hs : q_mS h.1 a hc hm) : ∃ h', z_M 148 [.ref 122] h = some (0, h') ∧ q_rg h h' ∧ (¬ (q_lr b n a s).1 = 0 → q_mF h'.1 (q_lr b n a s).1 (q_lr b n a s).2) ∧ ((q_lr b n a s).1 = 0 → q_mT h'.1 b n (q_lr b n a s).2 ∧ ¬ q_kd b n (q_lr b n a s).2 = 0 ∧ q_mS h'.1 (q_la b n a s) (q_hC (q_ln b n s) (q_lV b n s) hc) (q_hM (q_ln b n s) (q_lV b n s) hm)) := by
  have hl6 := q_ln6 (b := b) (n := n) (s := s)
  obtain ⟨t12, t9, t8, t10, _⟩ := ht.2.1 h0
  have hte := q_te_le (b := b) hsn
  have zz : ¬ ¬ (0 : Int32) = 0 := fun q => q rfl
  rw [e_M_readLine, q_mLn ht.1 hsn t10 t9 t8, z_bd_some]
  unfold q_lnM q_lr
  by_cases hx : q_ln b n s = 6
  · obtain ⟨h', a1, a2, a3, a4⟩ := q_mQf (y := 2) t12 t9
    have a1 : z_M 135 [.ref 122, .int 0, .int 2] h = some (0, h') := a1
    rw [if_pos hx, if_pos hx, if_pos rfl, e_M_readLine_17, a1, z_bd_some, if_pos rfl, e_M_readLine_41, q_mQt, z_bd_some, q_mRq (by decide) (by decide) a2, z_bd_some, a2, if_neg (q_nle (c := 2) (by decide) (by decide))]
    exact ⟨h', rfl, fun o k q _ => a4 o k (by omega), fun _ => ⟨a2, a3⟩, fun q => by cases q⟩
  have hx5 : q_ln b n s ≤ 5 := by omega
  have hx4 : ¬ nI (q_ln b n s) = -4 := fun q => by
    have h1 : nI (q_ln b n s) < 0 := by rw [q]; decide
    exact absurd h1 (nI_pos (by omega))
  rw [if_neg hx, if_neg hx, if_neg hx4, e_M_readLine_17, q_mQt, z_bd_some, if_neg hx4, q_mRoom hs hx5, z_bd_some]
  cases hr : q_rm a (q_ln b n s) with
  | false =>
    obtain ⟨h', a1, a2, a3, a4⟩ := q_mQf (y := 5) t12 t9
    have a1 : z_M 135 [.ref 122, .int 0, .int 5] h = some (0, h') := a1
    rw [if_pos (show q_b false = 0 from rfl), if_pos rfl, e_M_readLine_41, a1, z_bd_some, q_mRq (by decide) (by decide) a2, z_bd_some, a2, if_neg (q_nle (c := 5) (by decide) (by decide))]
    exact ⟨h', rfl, fun o k q _ => a4 o k (by omega), fun _ => ⟨a2, a3⟩, fun q => by cases q⟩
  | true =>
    obtain ⟨h1, b1, b2, b3⟩ := q_mRd ht.1 hte.2 t8 t12
    have b2 : q_mT h1.1 b n (q_tkn b n (q_te b n s) 0) := b2
    rw [if_neg (show ¬ q_b true = 0 by decide), if_neg (show ¬ true = false by decide), e_M_readLine_41, q_mQt, z_bd_some, b1, z_bd_some]
    by_cases hk0 : q_kd b n (q_tkn b n (q_te b n s) 0) = 0
    · have eg : q_lg b n a s = (1, 0) := q_ga0 hk0
      obtain ⟨u1, u2⟩ := b2.2.2 hk0
      rw [u1, if_neg (show ¬ (1 : Int32) ≤ 0 by decide), eg, if_pos (show ¬ (1 : Nat) = 0 by decide)]
      exact ⟨h1, rfl, b3.rg, fun _ => ⟨u1, u2⟩, fun q => by cases q⟩
    obtain ⟨u12, _⟩ := b2.2.1 hk0
    obtain ⟨h2, c1, c2, c3⟩ := q_mLO hte.2 hx5 b2 hk0 (hs.rf b3) hr
    have eg : q_ga b n (q_te b n s) a (q_ln b n s) (q_mst (q_ln b n s)) 0 = q_lg b n a s := rfl
    rw [eg] at c3
    rw [u12, if_pos (show (0 : Int32) ≤ 0 by decide), c1, z_bd_some]
    rcases c3 with ⟨d1, d2, d3⟩ | ⟨m, d1, d2, d3, d4⟩
    · rw [d3.1, if_pos (q_nz (by omega) (by omega)), q_mRq (by omega) (by omega) d3.1, z_bd_some, if_pos d1]
      exact ⟨h2, rfl, b3.rg.trans c2, fun _ => d3, fun q => absurd q d1⟩
    · obtain ⟨w12, w9, w8, w10, _⟩ := d2.2.1 d3
      have hk := q_kd4 b n (q_tkn b n (q_te b n s) m)
      rw [w12, if_neg zz, w10]
      by_cases h3 : q_kd b n (q_tkn b n (q_te b n s) m) = 3
      · have hS := d4 h3
        rw [if_pos h3] at d1
        have htk := q_tkn_le (b := b) hte.2 m
        have hte2 := q_te_le (b := b) htk.2
        obtain ⟨h3', f1, f2, f3⟩ := q_mRd d2.1 hte2.2 w8 w12
        have f2 : q_mT h3'.1 b n (q_tkn b n (q_te b n s) (m + 1)) := f2
        rw [if_neg (show ¬ ¬ nI (q_kd b n (q_tkn b n (q_te b n s) m) % 4) = 3 from fun q => q (by rw [h3]; rfl)), e_M_readLine_83, q_mQt, z_bd_some, f1, z_bd_some, d1, if_neg (show ¬ ¬ (0 : Nat) = 0 from fun q => q rfl)]
        have rg := (b3.rg.trans c2).trans f3.rg
        by_cases hk1 : q_kd b n (q_tkn b n (q_te b n s) (m + 1)) = 0
        · rw [if_pos hk1]
          exact ⟨h3', rfl, rg, fun _ => f2.2.2 hk1, fun q => by cases q⟩
        · rw [if_neg hk1]
          refine ⟨h3', rfl, rg, fun q => absurd rfl q, fun _ => ⟨f2, hk1, ?_⟩⟩
          unfold q_la
          rw [d1]
          exact hS.rf f3
      · rw [if_neg h3] at d1
        obtain ⟨h', f1, f2, f3⟩ := q_m83f w12 w9
        rw [if_pos (show ¬ nI (q_kd b n (q_tkn b n (q_te b n s) m) % 4) = 3 from fun q => by
          have := (nI_eq (b := 3) (by omega) (by decide)).mp q
          omega), f1, d1, if_pos (show ¬ (2 : Nat) = 0 by decide)]
        exact ⟨h', rfl, (b3.rg.trans c2).trans f3.rg, fun _ => f2, fun q => by cases q⟩
end QMW
