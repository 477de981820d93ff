/-! THE PURE PART: the reference reads a class's number and keeps the highest -/
theorem q_hi_le {lo : Int32} {c v : Nat} (hlo : lo < 0) (hc : c < 300) (hv : v < 300) {α : Type} (F : Int32 → α) : (if nI v ≤ q_hi lo c then F (q_hi lo c) else F (nI v)) = F (q_hi lo (max c (v + 1))) := by
  rw [← q_hi_max hlo hc hv]
  by_cases h : q_hi lo c < nI v
  · rw [if_pos h, if_neg (fun q => by
      rw [Int32.lt_iff_toInt_lt] at h
      rw [Int32.le_iff_toInt_le] at q
      omega)]
  · rw [if_neg h, if_pos (by
      rw [Int32.lt_iff_toInt_lt] at h
      rw [Int32.le_iff_toInt_le]
      omega)]
section QMC
variable {a : Nat → Nat} {hc hm : Nat} {b : Nat → Nat} {n e s : Nat}
theorem q_mCls {h : z_H} {x : Nat} {r : Nat × Nat} (hen : e ≤ n) (hp : q_mP b n e a x 0 h r) (hx : x = 4 ∨ x = 5) (ha : a 1 ≤ 4) (h4 : h.1 122 4 = q_hi (-1) hc) (hc4 : hc ≤ 4) : ∃ v h', z_M 143 [.ref 122] h = some (nI v, h') ∧ (∀ o k, ¬ (o = 122 ∧ (k = 4 ∨ 8 ≤ k ∧ k ≤ 13)) → h'.1 o k = h.1 o k) ∧ q_mP b n e a x 1 h' r ∧ v < 4 ∧ (r.1 = 0 → v = q_tv b n (q_tkn b n e 0)) ∧ h'.1 122 4 = q_hi (-1) (max hc (v + 1)) := by
  have hask : q_mAsk a x 0 0 3 (-4) := by
    rcases hx with rfl | rfl
    · exact ⟨rfl, rfl, rfl⟩
    · exact ⟨rfl, rfl, rfl⟩
  have hm3 : q_mst x = 3 ∧ q_lst x = 3 := by
    rcases hx with rfl | rfl
    · exact ⟨rfl, rfl⟩
    · exact ⟨rfl, rfl⟩
  obtain ⟨v, h2, b1, b2, b3, b4, b5⟩ := q_mPs hen hp (by omega) ha (by omega) (by omega) hask
  have hv : v < 4 := by
    rcases b4 with q | q
    · omega
    · rcases hx with rfl | rfl
      · unfold q_wi at q
        simp at q
        exact q
      · unfold q_wi at q
        simp at q
        exact q
  have e4 : h2.1 122 4 = q_hi (-1) hc := (b2 _ _ (by omega)).trans h4
  refine ⟨v, z_wI h2 122 4 (q_hi (-1) (max hc (v + 1))), ?_, fun o k q => ?_, b3.k (fun o k q q' => by rw [z_wI1, if_neg (by omega)]), hv, b5, by rw [z_wI1, if_pos ⟨rfl, rfl⟩]⟩
  · rw [e_M_readClass, b1, z_bd_some, e4]
    exact q_hi_le (by decide) (by omega) (by omega) (fun y => some (nI v, z_wI h2 122 4 y))
  · rw [z_wI1, if_neg (by omega)]
    exact b2 o k (by omega)
end QMC
