/-! THE PURE PART: has, whole -/
theorem q_op16 : z_opok q_inv 16 201 3 := by
  intro h hi as has
  obtain ⟨x, y, w, rfl⟩ := q_as3 has
  obtain ⟨⟨a, ha⟩, -⟩ := id hi
  have ha := q_raw ha
  obtain ⟨ho, hst, hp0, hp1, -⟩ := id ha
  have hsr := ha.sr
  have o0 := ho.1
  have o1 := ho.2.1
  show ∃ r h1 h2, z_M 16 [.ref 0, .int x, .int y, .int w] h = some (r, h1) ∧ z_M 201 [.ref 122, .int x, .int y, .int w] h1 = some (r, h2) ∧ q_inv h2
  rw [e_X_has, q_hasClass (by decide) (hp1.sz ho), z_bd_some]
  cases hx : z_in x (a 1) with
  | false => exact ⟨-1, h, h, by rw [if_pos (by decide)], by rw [e_M_has, q_isClass hsr, hx, z_bd_some, if_pos (by decide)], hi⟩
  | true =>
    obtain ⟨c, hc, rfl⟩ := q_inT (by omega) hx
    rw [if_neg (by decide), q_cName, z_bd_some]
    cases hy : z_in y 4 with
    | false => exact ⟨-1, h, h, by rw [if_pos (by decide)], by rw [e_M_has, q_isClass hsr, hx, z_bd_some, if_neg (by decide), q_isName, hy, z_bd_some, if_pos (by decide)], hi⟩
    | true =>
      obtain ⟨n, hn, rfl⟩ := q_inT (by decide) hy
      rw [if_neg (by decide)]
      have em : ∀ h1, q_sr h1.1 a → z_M 201 [.ref 122, .int (nI c), .int (nI n), .int w] h1 = (if w = (-4) then zl_M_has_31 (nI c) (nI n) w h1 else (if ¬ q_b (z_in w (a 0)) = 0 then zl_M_has_31 (nI c) (nI n) w h1 else some ((-1), h1))) := fun h1 hs1 => by
        rw [e_M_has, q_isClass hs1, hx, z_bd_some, if_neg (by decide), q_isName, hy, z_bd_some, if_neg (by decide), q_isMethod hs1, z_bd_some]
      have ec : ∀ v, zl_X_has_37 (nI c) (nI n) v h = some (h.1 32 (4 * c + n), z_wI h 32 (4 * c + n) v) := fun v => by
        rw [e_X_has_37, n_4, pk_mul, nI_add, q_inC (show 4 * c + n < 16 by omega) (by decide), q_inC (show 4 * c + n < 16 by omega) (by decide), nI_clamp (by omega)]
      have hs1 : ∀ v, q_sr (z_wI h 32 (4 * c + n) v).1 a := fun v => by
        have hk : ∀ k, (z_wI h 32 (4 * c + n) v).1 123 k = h.1 123 k := fun k => by rw [z_wI1, if_neg (by omega)]
        unfold q_sr
        simp only [hk]
        exact hsr
      have go : ∀ v, (v = 999 ∨ v < a 0) → w = q_v v → ∃ r h1 h2, zl_X_has_37 (nI c) (nI n) w h = some (r, h1) ∧ zl_M_has_31 (nI c) (nI n) w h1 = some (r, h2) ∧ q_inv h2 ∧ q_sr h1.1 a := fun v hv hw => by
        subst hw
        obtain ⟨r, h1, h2, g1, g2, g3⟩ := q_hasDo hi ha hc hn hv
        refine ⟨r, h1, h2, g1, g2, g3, ?_⟩
        have := (ec (q_v v)).symm.trans g1
        cases this
        exact hs1 _
      by_cases h4 : w = -4
      · obtain ⟨r, h1, h2, g1, g2, g3, g4⟩ := go 999 (Or.inl rfl) h4
        exact ⟨r, h1, h2, by rw [if_pos h4]; exact g1, by rw [em h1 g4, if_pos h4]; exact g2, g3⟩
      · rw [if_neg h4, q_hasMethod (by decide) (hp1.sz ho), z_bd_some]
        cases hw : z_in w (a 0) with
        | false => exact ⟨-1, h, h, by rw [if_neg (fun q => q (by decide))], by rw [em h hsr, if_neg h4, hw, if_neg (fun q => q (by decide))], hi⟩
        | true =>
          obtain ⟨m, hm, hwm⟩ := q_inT (by omega) hw
          obtain ⟨r, h1, h2, g1, g2, g3, g4⟩ := go m (Or.inr hm) (by rw [hwm, q_vn (by omega)])
          exact ⟨r, h1, h2, by rw [if_pos (by decide)]; exact g1, by rw [em h1 g4, if_neg h4, hw, if_pos (by decide)]; exact g2, g3⟩
