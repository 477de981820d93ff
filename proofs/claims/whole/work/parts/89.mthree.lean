/-! THE PURE PART: the reference reads the numbers of a line one after another -/
def q_mP (b : Nat → Nat) (n e : Nat) (a : Nat → Nat) (x j : Nat) (h : z_H) (r : Nat × Nat) : Prop :=
  (¬ r.1 = 0 ∧ r.1 ≤ 3 ∧ q_mF h.1 r.1 (q_tkn b n e r.2)) ∨ (q_mT h.1 b n (q_tkn b n e j) ∧ r = q_ga b n e a x (q_mst x - j) j)
section QM3
variable {a : Nat → Nat} {hc hm : Nat} {b : Nat → Nat} {n e s : Nat}
theorem q_mP.k {h h1 : z_H} {x j : Nat} {r : Nat × Nat} (hp : q_mP b n e a x j h r) (f : ∀ o k, o ≠ 126 → ¬ (o = 122 ∧ 4 ≤ k ∧ k ≤ 5) → h1.1 o k = h.1 o k) : q_mP b n e a x j h1 r := by
  rcases hp with ⟨p1, p2, p3⟩ | ⟨p1, p2⟩
  · exact Or.inl ⟨p1, p2, p3.k f⟩
  · exact Or.inr ⟨p1.k f, p2⟩
theorem q_mPs {h : z_H} {x j : Nat} {r : Nat × Nat} {x1 x2 x3 : Int32} (hen : e ≤ n) (hp : q_mP b n e a x j h r) (hx : 1 ≤ x ∧ x ≤ 5) (ha : a 1 ≤ 4) (hj : j < q_mst x) (hl : j < q_lst x) (hk : q_mAsk a x j x1 x2 x3) : ∃ v h', z_M 140 [.ref 122, .int x1, .int x2, .int x3] h = some (nI v, h') ∧ q_rf h h' ∧ q_mP b n e a x (j + 1) h' r ∧ (v = 0 ∨ q_wi a x j v = true) ∧ (r.1 = 0 → v = q_tv b n (q_tkn b n e j)) := by
  rcases hp with ⟨p1, p2, p3⟩ | ⟨p1, p2⟩
  · exact ⟨0, h, q_mStepF p3 (by omega) (by omega) x1 x2 x3, fun _ _ _ => rfl, Or.inl ⟨p1, p2, p3⟩, Or.inl rfl, fun q => absurd q p1⟩
  · have hle := q_tkn_le (b := b) hen j
    obtain ⟨v, h2, b1, b2, b3, b4⟩ := q_mStep hle.2 p1 hx ha hk
    have em : q_mst x - j = (q_mst x - (j + 1)) + 1 := by omega
    rw [em, q_ga_nc] at p2
    by_cases hn : q_nc b n a x j (q_tkn b n e j) = 0
    · obtain ⟨c1, c2, c3⟩ := b3 hn
      rw [if_pos hn] at p2
      exact ⟨v, h2, b1, b2, Or.inr ⟨c3, p2⟩, Or.inr c2, fun _ => c1⟩
    · obtain ⟨c1, c2⟩ := b4 hn
      rw [if_neg hn] at p2
      refine ⟨v, h2, b1, b2, Or.inl ?_, Or.inl c1, fun q => ?_⟩
      · by_cases hk2 : q_kd b n (q_tkn b n e j) = 0 ∨ q_kd b n (q_tkn b n e j) = 2
        · rw [if_pos hk2] at p2
          rw [p2]
          exact ⟨hn, q_nc3, c2⟩
        · have e2 : q_nc b n a x j (q_tkn b n e j) = 2 := by
            unfold q_nc
            rw [if_neg (by omega), if_neg (by omega)]
          have ez : q_gz b n e (q_lst x) j = (2, j) := by
            unfold q_gz
            rw [if_neg (by omega), if_pos hl]
          rw [if_neg hk2, ez] at p2
          rw [e2] at c2
          rw [p2]
          exact ⟨by show ¬ 2 = 0; omega, by show 2 ≤ 3; omega, c2⟩
      · exfalso
        by_cases hk2 : q_kd b n (q_tkn b n e j) = 0 ∨ q_kd b n (q_tkn b n e j) = 2
        · rw [if_pos hk2] at p2
          rw [p2] at q
          exact hn q
        · have ez : q_gz b n e (q_lst x) j = (2, j) := by
            unfold q_gz
            rw [if_neg (by omega), if_pos hl]
          rw [if_neg hk2, ez] at p2
          rw [p2] at q
          cases q
/-- all the numbers are read -/
theorem q_mPe {h : z_H} {x : Nat} {r : Nat × Nat} (hp : q_mP b n e a x (q_mst x) h r) (hl : q_lst x ≤ q_mst x) (hS : r.1 = 0 → r.2 = q_mst x → q_mS h.1 (q_row a x (fun i => q_tv b n (q_tkn b n e i)) (q_mst x)) (q_hC x (fun i => q_tv b n (q_tkn b n e i)) hc) (q_hM x (fun i => q_tv b n (q_tkn b n e i)) hm)) : q_mOut b n e a x hc hm h r := by
  rcases hp with ⟨p1, p2, p3⟩ | ⟨p1, p2⟩
  · exact Or.inl ⟨p1, p2, p3⟩
  · rw [Nat.sub_self] at p2
    have p2 : r = q_gz b n e (q_lst x) (q_mst x) := p2
    by_cases hk : q_kd b n (q_tkn b n e (q_mst x)) = 0
    · have ez : q_gz b n e (q_lst x) (q_mst x) = (1, q_mst x) := by unfold q_gz; rw [if_pos hk]
      rw [p2, ez]
      exact Or.inl ⟨by show ¬ 1 = 0; omega, by show 1 ≤ 3; omega, p1.2.2 hk⟩
    · have ez := q_gz1 hk hl
      rw [ez] at p2
      refine Or.inr ⟨q_mst x, p2, p1, hk, fun h3 => hS ?_ ?_⟩
      · rw [p2, if_pos h3]
      · rw [p2]
end QM3
