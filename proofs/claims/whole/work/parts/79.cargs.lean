/-! THE PURE PART: the class reads the numbers of a line -/
def q_cRes (E : Option (Int32 × z_H)) (b : Nat → Nat) (n e x : Nat) (h : z_H) (r : Nat × Nat) : Prop := ∃ h', (∀ o k, o ≠ 16 → ¬ (o = 1 ∧ 1 ≤ k ∧ k ≤ 4) → ¬ (o = 3 ∧ k ≤ 1) → h'.1 o k = h.1 o k) ∧
  (r.1 ≠ 0 → E = some (0, h') ∧ h'.1 3 0 = nI r.1 ∧ h'.1 3 1 = nI (q_tkn b n e r.2)) ∧
  (r.1 = 0 → E = zl_Rd_readRest_108 (nI x) (nI r.2) h' ∧ q_cT h'.1 b n (q_tkn b n e r.2) ∧ q_kd b n (q_tkn b n e r.2) = 3 ∧ ∀ i, i < r.2 → h'.1 16 i = nI (q_tv b n (q_tkn b n e i)))
section QCA
variable {b : Nat → Nat} {n e x : Nat} {a : Nat → Nat}
theorem q_c2 {h : z_H} {s : Nat} (ht : q_cT h.1 b n s) {c : Int32} (hc : ¬ c = 0) {x1 x2 : Int32} : ∃ h', z_bd (z_M 54 [.ref 3, .int c] h) (fun r3 h4 => zl_Rd_readRest_108 x1 x2 h4) = some (0, h') ∧ z_bd (z_M 54 [.ref 3, .int c] h) (fun r3 h4 => some ((0 : Int32), h4)) = some (0, h') ∧ h'.1 3 0 = c ∧ h'.1 3 1 = nI s ∧ ∀ o k, ¬ (o = 3 ∧ k ≤ 1) → h'.1 o k = h.1 o k := by
  have w2 : (z_wI h 3 0 c).1 1 2 = nI s := by rw [z_wI1, if_neg (by omega)]; exact ht.2.2.1
  refine ⟨z_wI (z_wI h 3 0 c) 3 1 (nI s), ?_, ?_, ?_, ?_, fun o k q => ?_⟩
  · have w0 : (z_wI (z_wI h 3 0 c) 3 1 (nI s)).1 3 0 = c := by rw [z_wI1, if_neg (by omega), z_wI1, if_pos ⟨rfl, rfl⟩]
    rw [e_Rd_fail, z_bd_some, w2, e_Rd_readRest_108, w0, if_pos hc]
  · rw [e_Rd_fail, z_bd_some, w2]
  · rw [z_wI1, if_neg (by omega), z_wI1, if_pos ⟨rfl, rfl⟩]
  · rw [z_wI1, if_pos ⟨rfl, rfl⟩]
  · rw [z_wI1, if_neg (by omega), z_wI1, if_neg (by omega)]
theorem q_c77 {h : z_H} {j : Nat} (hx : x ≤ 5) (hj : j ≤ 3) (ht : q_cT h.1 b n (q_tkn b n e j)) (h0 : ¬ q_kd b n (q_tkn b n e j) = 0) (hv : ∀ i, i < j → h.1 16 i = nI (q_tv b n (q_tkn b n e i))) : q_cRes (zl_Rd_readRest_77 (nI x) (nI j) h) b n e x h (q_gz b n e (q_lst x) j) := by
  have hk := q_kd4 b n (q_tkn b n e j)
  have h30 := ht.2.2.2.2.2.1 h0
  have hl : q_lst x ≤ 3 := by unfold q_lst; split <;> omega
  unfold q_gz
  rw [if_neg h0, e_Rd_readRest_77, h30, if_neg (show ¬ ¬ (0 : Int32) = 0 from fun q => q rfl), q_cLst hx, z_bd_some, ht.2.1]
  obtain ⟨h', f1, _, f2, f3, f4⟩ := q_c2 (x1 := nI x) (x2 := nI j) ht (c := 2) (by decide)
  by_cases h1 : j < q_lst x
  · rw [if_pos h1, if_pos (nI_lt h1 (by omega)), f1]
    exact ⟨h', fun o k _ _ q => f4 o k q, fun _ => ⟨rfl, f2, f3⟩, fun q => by cases q⟩
  · rw [if_neg h1, if_neg (nI_nlt (by omega) (by omega))]
    by_cases h3 : q_kd b n (q_tkn b n e j) = 3
    · rw [if_pos h3, if_pos (show nI (q_kd b n (q_tkn b n e j)) = 3 by rw [h3]; rfl)]
      exact ⟨h, fun o k _ _ _ => rfl, fun q => absurd rfl q, fun _ => ⟨rfl, ht, h3, hv⟩⟩
    · rw [if_neg h3, if_neg (show ¬ nI (q_kd b n (q_tkn b n e j)) = 3 from fun q => h3 ((nI_eq (b := 3) (by omega) (by decide)).mp q)), f1]
      exact ⟨h', fun o k _ _ q => f4 o k q, fun _ => ⟨rfl, f2, f3⟩, fun q => by cases q⟩
theorem q_cArgs (hx : x ≤ 5) (he : e ≤ n) (ha : a 1 ≤ 4) : ∀ f j h, j + f = q_mst x → q_cT h.1 b n (q_tkn b n e j) → h.1 4 1 = nI (a 1) → (∀ i, i < j → h.1 16 i = nI (q_tv b n (q_tkn b n e i))) → q_cRes (zl_Rd_readRest_6 (nI x) (nI j) h) b n e x h (q_ga b n e a x f j) := by
  have hm : q_mst x ≤ 3 := by unfold q_mst; split <;> omega
  have zero : ∀ j h, q_cT h.1 b n (q_tkn b n e j) → q_kd b n (q_tkn b n e j) = 0 → q_cRes (zl_Rd_readRest_6 (nI x) (nI j) h) b n e x h (1, j) := by
    intro j h ht h0
    obtain ⟨g1, g2⟩ := ht.2.2.2.2.2.2 h0
    refine ⟨h, fun o k _ _ _ => rfl, fun _ => ⟨?_, g1, g2⟩, fun q => by cases q⟩
    rw [e_Rd_readRest_6, g1, if_pos (by decide), e_Rd_readRest_77, g1, if_pos (by decide), e_Rd_readRest_108, g1, if_pos (by decide)]
  intro f
  induction f with
  | zero =>
    intro j h hj ht h41 hv
    by_cases h0 : q_kd b n (q_tkn b n e j) = 0
    · have := zero j h ht h0
      show q_cRes _ b n e x h (q_gz b n e (q_lst x) j)
      unfold q_gz
      rw [if_pos h0]
      exact this
    · have h30 := ht.2.2.2.2.2.1 h0
      rw [e_Rd_readRest_6, h30, if_neg (show ¬ ¬ (0 : Int32) = 0 from fun q => q rfl), q_cMst hx, z_bd_some, if_pos (nI_le (by omega) (by omega))]
      exact q_c77 hx (by omega) ht h0 hv
  | succ f ih =>
    intro j h hj ht h41 hv
    have hk := q_kd4 b n (q_tkn b n e j)
    unfold q_ga
    by_cases h0 : q_kd b n (q_tkn b n e j) = 0
    · rw [if_pos h0]
      exact zero j h ht h0
    · have h30 := ht.2.2.2.2.2.1 h0
      rw [if_neg h0, e_Rd_readRest_6, h30, if_neg (show ¬ ¬ (0 : Int32) = 0 from fun q => q rfl), q_cMst hx, z_bd_some, if_neg (nI_ge (by omega) (by omega)), ht.2.1]
      by_cases h2 : q_kd b n (q_tkn b n e j) = 2
      · have hv1 := ht.2.2.2.2.1 h2
        have hvl := q_kd2 (fun i hi => (ht.1.2.2 i hi).1) h2
        have hx1 : 1 ≤ x := by
          rcases Nat.eq_zero_or_pos x with q | q
          · rw [q] at hj
            have : q_mst 0 = 0 := rfl
            omega
          · exact q
        rw [if_pos h2, if_neg (show ¬ ¬ nI (q_kd b n (q_tkn b n e j)) = 2 from fun q => q (by rw [h2]; rfl)), hv1, q_cWi ⟨hx1, hx⟩ (by omega) hvl h41 ha, z_bd_some]
        cases hw : q_wi a x j (q_tv b n (q_tkn b n e j)) with
        | false =>
          obtain ⟨h', _, f1, f2, f3, f4⟩ := q_c2 (x1 := nI x) (x2 := nI j) ht (c := 3) (by decide)
          rw [if_neg (show ¬ ¬ q_b false = 0 by decide), if_neg (show ¬ false = true by decide), f1]
          exact ⟨h', fun o k _ _ q => f4 o k q, fun _ => ⟨rfl, f2, f3⟩, fun q => by cases q⟩
        | true =>
          have hle := q_tkn_le (b := b) he j
          have hte := q_te_le (b := b) hle.2
          obtain ⟨h1, w1⟩ : ∃ h1, h1 = z_wI h 16 j (nI (q_tv b n (q_tkn b n e j))) := ⟨_, rfl⟩
          have r1 : ∀ o k, ¬ (o = 16 ∧ k = j) → h1.1 o k = h.1 o k := fun o k q => by rw [w1, z_wI1, if_neg q]
          have t1 : q_tC h1.1 b n := ht.1.fr (fun o k _ _ q => r1 o k (by omega))
          obtain ⟨h2, a1, a2, a3⟩ := q_cAdvR (p := q_te b n (q_tkn b n e j)) t1 hte.2 ((r1 _ _ (by omega)).trans ht.2.2.2.1) ((r1 _ _ (by omega)).trans h30)
          obtain ⟨h', g1, g2, g3⟩ := ih (j + 1) h2 (by omega) a2 ((a3 _ _ (by omega) (by omega)).trans ((r1 _ _ (by omega)).trans h41)) (fun i hi => by
            rw [a3 _ _ (by omega) (by omega)]
            by_cases hij : i = j
            · rw [hij, w1, z_wI1, if_pos ⟨rfl, rfl⟩]
            · rw [r1 _ _ (by omega)]
              exact hv i (by omega))
          have E : (if ¬ q_b true = 0 then (bif z_in (nI j) 3 then z_bd (z_M 55 [.ref 3] (z_wI h 16 ((nI j).toNatClampNeg) (nI (q_tv b n (q_tkn b n e j))))) (fun r5 h6 => zl_Rd_readRest_6 (nI x) (nI j + 1) h6) else none) else z_bd (z_M 54 [.ref 3, .int 3] h) (fun r7 h8 => some (0, h8))) = zl_Rd_readRest_6 (nI x) (nI (j + 1)) h2 := by
            rw [if_pos (by decide), q_inC (show j < 3 by omega) (by decide), nI_clamp (by omega), ← w1, a1, z_bd_some, nI_1]
          rw [hv1, E, if_pos rfl]
          exact ⟨h', fun o k q1 q2 q3 => (g1 o k q1 q2 q3).trans ((a3 o k q2 q3).trans (r1 o k (by omega))), g2, g3⟩
      · rw [if_neg h2, if_pos (show ¬ nI (q_kd b n (q_tkn b n e j)) = 2 from fun q => h2 ((nI_eq (b := 2) (by omega) (by decide)).mp q))]
        exact q_c77 hx (by omega) ht h0 hv
theorem q_ga_m {f j : Nat} (hj : j + f = q_mst x) (h : (q_ga b n e a x f j).1 = 0) : q_lst x ≤ (q_ga b n e a x f j).2 ∧ (q_ga b n e a x f j).2 ≤ q_mst x ∧ j ≤ (q_ga b n e a x f j).2 ∧ (∀ i, j ≤ i → i < (q_ga b n e a x f j).2 → q_wi a x i (q_tv b n (q_tkn b n e i)) = true) := by
  have gz : ∀ j, (q_gz b n e (q_lst x) j).1 = 0 → (q_gz b n e (q_lst x) j).2 = j ∧ q_lst x ≤ j := by
    intro j
    unfold q_gz
    by_cases h0 : q_kd b n (q_tkn b n e j) = 0
    · rw [if_pos h0]; intro q; cases q
    · rw [if_neg h0]
      by_cases h1 : j < q_lst x
      · rw [if_pos h1]; intro q; cases q
      · rw [if_neg h1]
        by_cases h3 : q_kd b n (q_tkn b n e j) = 3
        · rw [if_pos h3]; intro _; exact ⟨rfl, by omega⟩
        · rw [if_neg h3]; intro q; cases q
  induction f generalizing j with
  | zero =>
    have := gz j h
    show q_lst x ≤ (q_gz b n e (q_lst x) j).2 ∧ (q_gz b n e (q_lst x) j).2 ≤ q_mst x ∧ j ≤ (q_gz b n e (q_lst x) j).2 ∧ ∀ i, j ≤ i → i < (q_gz b n e (q_lst x) j).2 → _
    exact ⟨by omega, by omega, by omega, fun i i1 i2 => absurd i2 (by omega)⟩
  | succ f ih =>
    unfold q_ga at h ⊢
    by_cases h0 : q_kd b n (q_tkn b n e j) = 0
    · rw [if_pos h0] at h; cases h
    rw [if_neg h0] at h ⊢
    by_cases h2 : q_kd b n (q_tkn b n e j) = 2
    · rw [if_pos h2] at h ⊢
      cases hw : q_wi a x j (q_tv b n (q_tkn b n e j)) with
      | false => rw [hw, if_neg (by decide)] at h; cases h
      | true =>
        rw [hw, if_pos rfl] at h
        rw [if_pos rfl]
        have := ih (j := j + 1) (by omega) h
        refine ⟨this.1, this.2.1, by omega, fun i i1 i2 => ?_⟩
        by_cases hij : i = j
        · rw [hij]; exact hw
        · exact this.2.2.2 i (by omega) i2
    · rw [if_neg h2] at h ⊢
      have := gz j h
      exact ⟨by omega, by omega, by omega, fun i i1 i2 => absurd i2 (by omega)⟩
end QCA
