/-! THE PURE PART: meant -/
theorem q_now.cl {I : Nat → Nat → Int32} {o p : Nat} {a : Nat → Nat} (h : q_prg I o p a) : q_cl I o p a := h.2.2.2.2
theorem q_meantC {o p : Nat} {a : Nat → Nat} {h : z_H} (hi : o ∈ [4, 17, 25, 73, 81, 94, 102]) (hp : p < 2) (ho : q_ok a) (hg : q_prg h.1 o p a) {c n : Nat} (hc : c < a 1) (hn : n < 4) : z_M 79 [.ref o, .int (nI c), .int (nI n)] h = some (q_v (q_mean a p n 4 c), h) := by
  have o0 := ho.1
  have o1 := ho.2.1
  rw [e_P_meantBy hi]
  refine q_cMeant hi (hg.sz ho) (q_now.cl hg) (fun c hc => ?_) (fun c n hc hn => ?_) hn 4 c (Nat.le_refl _) (by omega)
  · have := ho.2.2.2.2.2.1 c hc
    omega
  · have := ho.2.2.2.2.2.2.1 p c n hp hc hn
    omega
theorem q_meantM {p : Nat} {a : Nat → Nat} {h : z_H} (hp : p < 2) (ho : q_ok a) (hst : ∀ j, j < 549 → h.1 123 j = q_v (a j)) {c n : Nat} (hc : c < a 1) (hn : n < 4) : z_M 159 [.ref 122, .int (nI p), .int (nI c), .int (nI n)] h = some (q_v (q_mean a p n 4 c), h) := by
  have o1 := ho.2.1
  rw [e_M_meantBy]
  exact q_mMeant hp ho hst hn 4 c (Or.inr ⟨by omega, hc⟩)
theorem q_op6 : z_opok q_inv 6 185 3 := by
  intro h hi as has
  obtain ⟨x, y, w, rfl⟩ := q_as3 has
  obtain ⟨⟨a, ha⟩, -⟩ := id hi
  have ha := q_raw ha
  obtain ⟨ho, hst, hp0, hp1, -⟩ := id ha
  have hsr := ha.sr
  have o1 := ho.2.1
  show ∃ r h1 h2, z_M 6 [.ref 0, .int x, .int y, .int w] h = some (r, h1) ∧ z_M 185 [.ref 122, .int x, .int y, .int w] h1 = some (r, h2) ∧ q_inv h2
  rw [e_X_meant, q_hasClass (by decide) (hp0.sz ho), z_bd_some]
  cases hx : z_in x (a 1) with
  | false => exact ⟨-1, h, h, by rw [if_pos (by decide)], by rw [e_M_meant, q_isClass hsr, hx, z_bd_some, if_pos (by decide)], hi⟩
  | true =>
    obtain ⟨c, hc, rfl⟩ := q_inT (by omega) hx
    rw [if_neg (by decide), q_cName, z_bd_some]
    cases hy : z_in y 4 with
    | false => exact ⟨-1, h, h, by rw [if_pos (by decide)], by rw [e_M_meant, q_isClass hsr, hx, z_bd_some, if_neg (by decide), q_isName, hy, z_bd_some, if_pos (by decide)], hi⟩
    | true =>
      obtain ⟨n, hn, rfl⟩ := q_inT (by decide) hy
      rw [if_neg (by decide)]
      have em : z_M 185 [.ref 122, .int (nI c), .int (nI n), .int w] h = (if q_b (z_in w 2) = 0 then some ((-1), h) else z_bd (z_M 159 [.ref 122, .int w, .int (nI c), .int (nI n)] h) (fun r7 h8 => some (r7, h8))) := by
        rw [e_M_meant, q_isClass hsr, hx, z_bd_some, if_neg (by decide), q_isName, hy, z_bd_some, if_neg (by decide), q_isPart, z_bd_some]
      rcases q_cases w with hw | ⟨k, hk, rfl⟩
      · exact ⟨-1, h, h, by rw [if_pos hw], by rw [em, q_in_neg hw, if_pos (by decide)], hi⟩
      · by_cases hk1 : k ≤ 1
        · have hin : z_in (nI k) 2 = true := q_int (by omega) (by decide)
          refine ⟨q_v (q_mean a k n 4 c), h, h, ?_, ?_, hi⟩
          · rw [if_neg (nI_pos hk), n_1, if_pos (nI_le hk1 (by decide))]
            rcases (show k = 0 ∨ k = 1 by omega) with rfl | rfl
            · rw [if_neg (fun q => q rfl), q_meantC (o := 17) (by decide) (by decide) ho hp0 hc hn, z_bd_some]
            · rw [if_pos (by decide), q_meantC (o := 25) (by decide) (by decide) ho hp1 hc hn, z_bd_some]
          · rw [em, hin, if_neg (by decide), q_meantM (by omega) ho hst hc hn, z_bd_some]
        · have hin : z_in (nI k) 2 = false := by rw [q_in hk]; exact decide_eq_false (by omega)
          refine ⟨-1, h, h, ?_, ?_, hi⟩
          · rw [if_neg (nI_pos hk), n_1, if_neg (nI_ge (by omega) hk)]
          · rw [em, hin, if_pos (by decide)]
