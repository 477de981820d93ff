/-! THE PURE PART: sheets, lay, node -/
theorem q_prim {id : Nat} {a : List Value} {h : z_H} {r : z_A} (h9 : 900 ≤ id) (e : z_prim id a h = some r) : z_M id a h = some r := z_M_iff.mpr ⟨1, by
  unfold z_ev
  rw [if_pos h9]
  exact e⟩
theorem q_fi {o : Nat} (hk : z_K o = 20) (x : Int32) (h : z_H) : z_M 902 [.ref o, .int x] h = some (0, z_fiI h o x) := q_prim (by decide) (by
  show (bif Nat.beq (z_K o) 20 then some (0, z_fiI h o x) else none) = _
  rw [hk]
  rfl)
theorem q_fi1 (h : z_H) (o : Nat) (x : Int32) (o' k' : Nat) : (z_fiI h o x).1 o' k' = if o' = o then x else h.1 o' k' := by
  unfold z_fiI
  by_cases h1 : o' = o
  · simp [h1]
  · simp [h1, z_beqF h1]
theorem q_rawS {h : z_H} (g : q_shs (q_m h.1)) : q_shs h.1 := g.congr (fun o k q => by
  rcases q with ⟨q1, q2⟩ | ⟨q1, q2⟩
  · exact (q_mi (by omega) q2).symm
  · rcases (show o = 137 ∨ o = 138 ∨ o = 139 by omega) with rfl | rfl | rfl <;> exact (q_mc rfl).symm)
theorem q_wrapS {h : z_H} (g : q_shs h.1) : q_shs (q_m h.1) := g.congr (fun o k q => by
  rcases q with ⟨q1, q2⟩ | ⟨q1, q2⟩
  · exact q_mi (by omega) q2
  · rcases (show o = 137 ∨ o = 138 ∨ o = 139 by omega) with rfl | rfl | rfl <;> exact q_mc rfl)
/-- only the sheets have changed -/
theorem q_inv.shs {h h1 : z_H} (hi : q_inv h) (e : ∀ o k, ¬ (114 ≤ o ∧ o ≤ 121) → ¬ (137 ≤ o ∧ o ≤ 139) → h1.1 o k = h.1 o k) (hn : q_shs h1.1) : q_inv h1 := by
  obtain ⟨⟨a, ha⟩, h2, -, h4, h5, h6⟩ := hi
  refine ⟨⟨a, ha.congr fun o k q => q_mcong (e o k (by omega) (by omega))⟩, h2.congr fun o k q => q_mcong (e o k (by omega) (by omega)), q_wrapS hn, h4.congr fun o k q => q_mcong (e o k (by omega) (by omega)), ?_, ?_⟩
  · rw [q_mcong (e 0 10 (by omega) (by omega)), q_mcong (e 122 12 (by omega) (by omega))]
    exact h5
  · rw [q_mcong (e 0 11 (by omega) (by omega)), q_mcong (e 122 33 (by omega) (by omega))]
    exact h6
theorem q_cSheet (x : Int32) (h : z_H) : z_M 40 [.int x] h = some (q_b (z_in x 4), h) := by
  rw [e_X_isSheet, n_4, q_bnd (by decide)]
  cases z_in x 4 <;> rfl
theorem q_cLane (x : Int32) (h : z_H) : z_M 41 [.int x] h = some (q_b (z_in x 3), h) := by
  rw [e_X_isLane, n_2]
  rcases q_cases x with hx | ⟨c, hc, rfl⟩
  · rw [if_pos hx, q_in_neg hx]
    rfl
  · rw [if_neg (nI_pos hc), q_in hc]
    by_cases h3 : c < 3
    · rw [if_neg (nI_nlt (by omega) (by decide)), decide_eq_true h3]
      rfl
    · rw [if_pos (nI_lt (by omega) hc), decide_eq_false h3]
      rfl
theorem q_mSheet (x y : Int32) (h : z_H) : z_M 211 [.int x, .int y] h = some (q_b (z_in x 4 && z_in y 3), h) := by
  rw [e_M_isSheet, q_wl3, z_bd_some, q_wl2, z_bd_some]
  cases z_in x 4 with
  | false => rfl
  | true => cases z_in y 3 <;> rfl
theorem q_le40 {x : Int32} (hx : x < 0) : x ≤ 40 ∧ ¬ (0 : Int32) ≤ x := by
  have h1 := Int32.lt_iff_toInt_lt.mp hx
  have h0 : (0 : Int32).toInt = 0 := rfl
  have h4 : (40 : Int32).toInt = 40 := rfl
  exact ⟨Int32.le_iff_toInt_le.mpr (by omega), fun q => by have := Int32.le_iff_toInt_le.mp q; omega⟩
theorem q_shs.put {I I1 : Nat → Nat → Int32} {k : Nat} (h : q_shs I) (e1 : ∀ o j, 114 ≤ o → o ≤ 121 → o ≠ 114 + 2 * k → o ≠ 115 + 2 * k → I1 o j = I o j) (e2 : ∀ o j, 137 ≤ o → o ≤ 138 → j ≠ k → I1 o j = I o j) (e3 : ∀ j, ¬ (40 * k ≤ j ∧ j < 40 * k + 40) → I1 139 j = I 139 j)
    (g : I1 (114 + 2 * k) 0 = 1 ∧ ∃ l s, l < 3 ∧ s ≤ 40 ∧ I1 137 k = nI l ∧ I1 (114 + 2 * k) 2 = nI l ∧ I1 138 k = nI s ∧ I1 (114 + 2 * k) 1 = nI s ∧ ∀ i, i < 40 → I1 (115 + 2 * k) i = I1 139 (40 * k + i)) : q_shs I1 := by
  intro k' hk'
  by_cases hkk : k' = k
  · subst hkk
    exact Or.inr g
  · have a1 : ∀ j, I1 (114 + 2 * k') j = I (114 + 2 * k') j := fun j => e1 _ _ (by omega) (by omega) (by omega) (by omega)
    have a2 : ∀ j, I1 (115 + 2 * k') j = I (115 + 2 * k') j := fun j => e1 _ _ (by omega) (by omega) (by omega) (by omega)
    rw [a1, e2 137 k' (by omega) (by omega) hkk]
    rcases h k' hk' with h | ⟨h1, l, s, l3, s40, g1, g2, g3, g4, g5⟩
    · exact Or.inl h
    · refine Or.inr ⟨h1, l, s, l3, s40, g1, (a1 2).trans g2, (e2 138 k' (by omega) (by omega) hkk).trans g3, (a1 1).trans g4, fun i hi => ?_⟩
      rw [a2, e3 _ (by omega)]
      exact g5 i hi
theorem q_op24 : z_opok q_inv 24 212 3 := by
  intro h hi as has
  obtain ⟨x, y, z, rfl⟩ := q_as3 has
  obtain ⟨-, -, hg, -⟩ := id hi
  have hg := q_rawS hg
  show ∃ r h1 h2, z_M 24 [.ref 0, .int x, .int y, .int z] h = some (r, h1) ∧ z_M 212 [.ref 122, .int x, .int y, .int z] h1 = some (r, h2) ∧ q_inv h2
  have em : ∀ h1, z_M 212 [.ref 122, .int x, .int y, .int z] h1 = (if q_b (z_in x 4 && z_in y 3) = 0 then some ((-1), h1) else (if z ≤ 40 then (if (0 : Int32) ≤ z then (bif z_in x 4 then (bif z_in x 4 then zl_M_sheet_40 x 0 (z_wI (z_wI h1 137 (x.toNatClampNeg) y) 138 (x.toNatClampNeg) z) else none) else none) else some ((-14), h1)) else some ((-1), h1))) := fun h1 => by
    rw [e_M_sheet, q_mSheet, z_bd_some]
  rw [e_X_sheet, q_cSheet, z_bd_some]
  cases hx : z_in x 4 with
  | false => exact ⟨-1, h, h, by rw [if_pos (by decide)], by rw [em, hx, Bool.false_and, if_pos (by decide)], hi⟩
  | true =>
    rw [if_neg (by decide), q_cLane, z_bd_some]
    cases hy : z_in y 3 with
    | false => exact ⟨-1, h, h, by rw [if_pos (by decide)], by rw [em, hx, hy, if_pos (by decide)], hi⟩
    | true =>
      rw [if_neg (by decide)]
      rw [hx, hy] at em
      obtain ⟨k, hk, rfl⟩ := q_inT (by decide) hx
      obtain ⟨l, hl, rfl⟩ := q_inT (by decide) hy
      rcases q_cases z with hz | ⟨n, hn, rfl⟩
      · obtain ⟨z1, z2⟩ := q_le40 hz
        exact ⟨-14, h, h, by rw [if_pos z1, if_neg z2], by rw [em, if_neg (by decide), if_pos z1, if_neg z2], hi⟩
      · have z0 : (0 : Int32) ≤ nI n := nI_pos' hn
        by_cases hn4 : n ≤ 40
        · have z1 : nI n ≤ (40 : Int32) := nI_le hn4 (by decide)
          have hk4 : k = 0 ∨ k = 1 ∨ k = 2 ∨ k = 3 := by omega
          obtain ⟨HC, eC⟩ : ∃ HC, HC = z_fiI (z_wI (z_wI (z_wI h (114 + 2 * k) 0 1) (114 + 2 * k) 2 (nI l)) (114 + 2 * k) 1 (nI n)) (114 + 2 * k + 1) 0 := ⟨_, rfl⟩
          have rC : ∀ o j, HC.1 o j = if o = 115 + 2 * k then 0 else if o = 114 + 2 * k ∧ j = 1 then nI n else if o = 114 + 2 * k ∧ j = 2 then nI l else if o = 114 + 2 * k ∧ j = 0 then 1 else h.1 o j := fun o j => by
            rw [eC, q_fi1, show 114 + 2 * k + 1 = 115 + 2 * k by omega, z_wI1, z_wI1, z_wI1]
          obtain ⟨H, eH⟩ : ∃ H, H = q_it (fun i h => z_wI h 139 (40 * k + i) 0) 0 40 (z_wI (z_wI HC 137 k (nI l)) 138 k (nI n)) := ⟨_, rfl⟩
          have rH := (q_fill (o := 139) (c := 40 * k) (v := fun _ => 0) 40 0 (z_wI (z_wI HC 137 k (nI l)) 138 k (nI n))).1
          rw [← eH] at rH
          have e40 : zl_M_sheet_40 (nI k) 0 (z_wI (z_wI HC 137 k (nI l)) 138 k (nI n)) = some (1, H) := by
            rw [eH]
            refine q_loop (L := fun x h => zl_M_sheet_40 (nI k) x h) (K := fun h => some (1, h)) (N := 40) (fun i h hi => ?_) (fun h => ?_) 40 0 _ rfl
            · show zl_M_sheet_40 (nI k) (nI i) h = _
              rw [e_M_sheet_40, n_40, if_neg (nI_ge hi (by decide)), pk_mul, nI_add, q_inC (show 40 * k + i < 160 by omega) (by decide), nI_clamp (by omega)]
            · show zl_M_sheet_40 (nI k) (nI 40) h = _
              rw [e_M_sheet_40, if_pos (by decide)]
          refine ⟨1, HC, H, ?_, ?_, ?_⟩
          · rw [if_pos z1, if_pos z0, cond_true, nI_clamp (by omega), e_Sh_renew (by rcases hk4 with rfl | rfl | rfl | rfl <;> decide), q_fi (by rcases hk4 with rfl | rfl | rfl | rfl <;> decide +kernel), z_bd_some, z_bd_some, ← eC]
          · rw [em, if_neg (by decide), if_pos z1, if_pos z0, nI_clamp (by omega)]
            exact e40
          · have r139 : ∀ j, H.1 139 j = if 40 * k ≤ j ∧ j < 40 * k + 40 then 0 else h.1 139 j := fun j => by
              rw [rH]
              by_cases c : 40 * k ≤ j ∧ j < 40 * k + 40
              · rw [if_pos (by omega), if_pos c]
              · rw [if_neg (by omega), if_neg c, z_wI1, if_neg (by omega), z_wI1, if_neg (by omega), rC, if_neg (by omega), if_neg (by omega), if_neg (by omega), if_neg (by omega)]
            have rr : ∀ o j, o ≠ 139 → ¬ (o = 138 ∧ j = k) → ¬ (o = 137 ∧ j = k) → H.1 o j = HC.1 o j := fun o j q1 q2 q3 => by
              rw [rH, if_neg (by omega), z_wI1, if_neg (by omega), z_wI1, if_neg (by omega)]
            refine hi.shs (fun o j q1 q2 => ?_) (hg.put (k := k) (fun o j q1 q2 q3 q4 => ?_) (fun o j q1 q2 q3 => ?_) (fun j q1 => ?_) ⟨?_, l, n, hl, hn4, ?_, ?_, ?_, ?_, fun i hi' => ?_⟩)
            · rw [rr o j (by omega) (by omega) (by omega), rC, if_neg (by omega), if_neg (by omega), if_neg (by omega), if_neg (by omega)]
            · rw [rr o j (by omega) (by omega) (by omega), rC, if_neg (by omega), if_neg (by omega), if_neg (by omega), if_neg (by omega)]
            · rw [rr o j (by omega) (by omega) (by omega), rC, if_neg (by omega), if_neg (by omega), if_neg (by omega), if_neg (by omega)]
            · rw [r139, if_neg q1]
            · rw [rr _ _ (by omega) (by omega) (by omega), rC, if_neg (by omega), if_neg (by omega), if_neg (by omega), if_pos (by omega)]
            · rw [rH, if_neg (by omega), z_wI1, if_neg (by omega), z_wI1, if_pos ⟨rfl, rfl⟩]
            · rw [rr _ _ (by omega) (by omega) (by omega), rC, if_neg (by omega), if_neg (by omega), if_pos (by omega)]
            · rw [rH, if_neg (by omega), z_wI1, if_pos ⟨rfl, rfl⟩]
            · rw [rr _ _ (by omega) (by omega) (by omega), rC, if_neg (by omega), if_pos (by omega)]
            · rw [rr _ _ (by omega) (by omega) (by omega), rC, if_pos (by omega), r139, if_pos (by omega)]
        · have z1 : ¬ nI n ≤ (40 : Int32) := nI_ge (a := 40) (by omega) hn
          exact ⟨-1, h, h, by rw [if_neg z1], by rw [em, if_neg (by decide), if_neg z1], hi⟩
theorem q_op25 : z_opok q_inv 25 213 3 := by
  intro h hi as has
  obtain ⟨x, y, z, rfl⟩ := q_as3 has
  obtain ⟨-, -, hg, -⟩ := id hi
  have hg := q_rawS hg
  show ∃ r h1 h2, z_M 25 [.ref 0, .int x, .int y, .int z] h = some (r, h1) ∧ z_M 213 [.ref 122, .int x, .int y, .int z] h1 = some (r, h2) ∧ q_inv h2
  rw [e_X_lay, q_cSheet, z_bd_some]
  have ms : ∀ h1, z_M 211 [.int x, .int 0] h1 = some (q_b (z_in x 4), h1) := fun h1 => by
    rw [q_mSheet, show z_in (0 : Int32) 3 = true by decide, Bool.and_true]
  cases hx : z_in x 4 with
  | false => exact ⟨-1, h, h, by rw [if_neg (fun q => q (by decide))], by rw [e_M_lay, ms, hx, z_bd_some, if_neg (fun q => q (by decide))], hi⟩
  | true =>
    rw [hx] at ms
    obtain ⟨k, hk, rfl⟩ := q_inT (by decide) hx
    have hk4 : k = 0 ∨ k = 1 ∨ k = 2 ∨ k = 3 := by omega
    have hkc : (nI k).toNatClampNeg = k := nI_clamp (by omega)
    rw [if_pos (by decide), hkc]
    simp only [cond_true]
    rcases hg k hk with ⟨g0, g1⟩ | ⟨g0, l, s, l3, s40, g1, g2, g3, g4, g5⟩
    · refine ⟨-11, h, h, by rw [if_neg (fun q => q g0)], ?_, hi⟩
      rw [e_M_lay, ms, z_bd_some, if_pos (by decide), hx, hkc]
      simp only [cond_true]
      rw [if_neg (fun q => q g1)]
    · have c0 : ¬ h.1 (114 + 2 * k) 0 = 0 := by rw [g0]; decide
      have c1 : ¬ nI l = -4 := fun q => by
        have h1 : nI l < 0 := by rw [q]; decide
        exact nI_pos (by omega) h1
      have em : ∀ h1 : z_H, h1.1 137 k = nI l → h1.1 138 k = nI s → z_M 213 [.ref 122, .int (nI k), .int y, .int z] h1 = (if ¬ q_b (z_in y s) = 0 then (if ¬ nI l = 0 then (if ¬ nI l = 1 then (bif z_in ((40 * nI k) + y) 160 then some (1, (z_wI h1 139 (((40 * nI k) + y).toNatClampNeg) z)) else none) else (bif z_in ((40 * nI k) + y) 160 then some (1, (z_wI h1 139 (((40 * nI k) + y).toNatClampNeg) (z.toInt16.toInt32))) else none)) else (bif z_in ((40 * nI k) + y) 160 then some (1, (z_wI h1 139 (((40 * nI k) + y).toNatClampNeg) (z.toInt8.toInt32))) else none)) else some ((-12), h1)) := fun h1 q1 q2 => by
        rw [e_M_lay, ms, z_bd_some, if_pos (by decide), hx, hkc, q1, q2, q_w1 (by omega), z_bd_some, q1]
        simp only [cond_true]
        rw [if_pos c1]
      rw [if_pos c0, g4]
      rcases q_cases y with hy | ⟨i, hi', rfl⟩
      · exact ⟨-12, h, h, by rw [if_pos hy], by rw [em h g1 g3, q_in_neg hy, if_neg (fun q => q (by decide))], hi⟩
      · rw [if_neg (nI_pos hi')]
        by_cases his : i < s
        · obtain ⟨v, hv⟩ : ∃ v, v = if l = 0 then z.toInt8.toInt32 else if l = 1 then z.toInt16.toInt32 else z := ⟨_, rfl⟩
          have l0 : (nI l = 0) = (l = 0) := propext (nI_eq (by omega) (by decide))
          have l1 : (nI l = 1) = (l = 1) := propext (nI_eq (by omega) (by decide))
          have fr : ∀ o j, o ≠ 115 + 2 * k → (z_wI h (115 + 2 * k) i v).1 o j = h.1 o j := fun o j q => by rw [z_wI1, if_neg (fun c => q c.1)]
          refine ⟨1, z_wI h (115 + 2 * k) i v, z_wI (z_wI h (115 + 2 * k) i v) 139 (40 * k + i) v, ?_, ?_, ?_⟩
          · rw [if_pos (nI_lt his (by omega)), e_Sh_put (by rcases hk4 with rfl | rfl | rfl | rfl <;> decide), g2, q_int (show i < 40 by omega) (by decide), nI_clamp (by omega), show 114 + 2 * k + 1 = 115 + 2 * k by omega]
            simp only [cond_true, l0, l1]
            rw [hv]
            by_cases c0 : l = 0
            · rw [if_neg (fun q => q c0), if_pos c0, z_bd_some]
            · by_cases c1 : l = 1
              · rw [if_pos c0, if_neg (fun q => q c1), if_neg c0, if_pos c1, z_bd_some]
              · rw [if_pos c0, if_pos c1, if_neg c0, if_neg c1, z_bd_some]
          · rw [em _ ((fr _ _ (by omega)).trans g1) ((fr _ _ (by omega)).trans g3), q_int his (by omega), if_pos (by decide), n_40, pk_mul, nI_add, q_int (show 40 * k + i < 160 by omega) (by decide), nI_clamp (by omega)]
            simp only [cond_true, l0, l1]
            rw [hv]
            by_cases c0 : l = 0
            · rw [if_neg (fun q => q c0), if_pos c0]
            · by_cases c1 : l = 1
              · rw [if_pos c0, if_neg (fun q => q c1), if_neg c0, if_pos c1]
              · rw [if_pos c0, if_pos c1, if_neg c0, if_neg c1]
          · have r2 : ∀ o j, o ≠ 115 + 2 * k → o ≠ 139 → (z_wI (z_wI h (115 + 2 * k) i v) 139 (40 * k + i) v).1 o j = h.1 o j := fun o j q1 q2 => by
              rw [z_wI1, if_neg (by omega), fr o j q1]
            refine hi.shs (fun o j q1 q2 => r2 o j (by omega) (by omega)) (hg.put (k := k) (fun o j q1 q2 q3 q4 => r2 o j q4 (by omega)) (fun o j q1 q2 q3 => r2 o j (by omega) (by omega)) (fun j q1 => ?_) ⟨(r2 _ _ (by omega) (by omega)).trans g0, l, s, l3, s40, (r2 _ _ (by omega) (by omega)).trans g1, (r2 _ _ (by omega) (by omega)).trans g2, (r2 _ _ (by omega) (by omega)).trans g3, (r2 _ _ (by omega) (by omega)).trans g4, fun j hj => ?_⟩)
            · rw [z_wI1, if_neg (by omega), fr _ _ (by omega)]
            · rw [z_wI1, if_neg (by omega), z_wI1, z_wI1]
              by_cases c : j = i
              · subst c
                rw [if_pos ⟨rfl, rfl⟩, if_pos ⟨rfl, rfl⟩]
              · rw [if_neg (fun q => c q.2), if_neg (by omega), fr _ _ (by omega)]
                exact g5 j hj
        · exact ⟨-12, h, h, by rw [if_neg (nI_nlt (by omega) hi')], by rw [em h g1 g3, q_in hi', decide_eq_false his, if_neg (fun q => q (by decide))], hi⟩
