/-! THE PURE PART: read, whole -/
theorem q_srOf {I : Nat → Nat → Int32} {a : Nat → Nat} (ho : q_ok a) (hst : ∀ j, j < 549 → I 123 j = q_v (a j)) : q_sr I a := by
  obtain ⟨o0, o1, o2, o7, -⟩ := ho
  exact ⟨(hst 0 (by omega)).trans (q_vn (by omega)), (hst 1 (by omega)).trans (q_vn (by omega)), (hst 2 (by omega)).trans (q_vn (by omega)), o0, o1, o2, fun m hm => ⟨o7 m hm, (hst (7 + m) (by omega)).trans (q_vn (by have := o7 m hm; omega))⟩⟩
theorem q_mRead {k l s n W F : Nat} {f : Int32} {a : Nat → Nat} {C : Nat → Int32} (hk : k < 4) (hl : l < 3) (hs : s ≤ 40) (ho : q_ok a) (hn : n ≤ 10) (hWn : W ≤ n) (hx : 0 < W → f = nI F ∧ F + 4 * W ≤ s) (hN : W < n → (W = 0 ∧ f.toInt < 0) ∨ (s : Int) ≤ f.toInt + (4 * W : Nat) + 3) : ∀ r i h, i + r = W → (∀ j, j < i → q_rdR a C F j = true) → h.1 137 k = nI l → h.1 138 k = nI s → (∀ j, j < 40 → h.1 139 (40 * k + j) = C j) → (∀ j, j < 549 → h.1 123 j = q_v (q_lds a C F i j)) → (∀ j, j < 549 → h.1 140 j = q_v (a j)) →
    (q_fr (q_rdR a C F) r i = W ∧ ∃ h1, zl_M_read_63 (nI k) (nI l) f (nI n) 0 (nI i) (nI i) h = some (nI W, h1) ∧ (∀ j, j < 549 → h1.1 123 j = q_v (q_lds a C F W j)) ∧ h1.1 122 33 = (if W < n then 2 else 0) ∧ ∀ o j, o ≠ 123 → ¬ (o = 122 ∧ j = 33) → h1.1 o j = h.1 o j) ∨
    (q_fr (q_rdR a C F) r i < W ∧ ∃ h1, zl_M_read_63 (nI k) (nI l) f (nI n) 0 (nI i) (nI i) h = some (-20 - nI (q_fr (q_rdR a C F) r i), h1) ∧ (∀ j, j < 549 → h1.1 123 j = q_v (a j)) ∧ ∀ o j, o ≠ 123 → h1.1 o j = h.1 o j) := by
  intro r
  induction r with
  | zero =>
    intro i h hi hR h137 h138 hC hst hsv
    obtain rfl : i = W := by omega
    refine Or.inl ⟨rfl, ?_⟩
    by_cases hin : i < n
    · refine ⟨z_wI h 122 33 2, ?_, fun j hj => ?_, ?_, fun o j q1 q2 => ?_⟩
      · rw [e_M_read_63, if_neg (nI_ge hin (by omega)), if_neg (fun q => q rfl)]
        refine q_r78out hk (by omega) h137 h138 hl hs ?_
        rcases hN hin with ⟨q1, q2⟩ | q
        · exact Or.inl (by subst q1; omega)
        · exact Or.inr q
      · rw [z_wI1, if_neg (by omega)]
        exact hst j hj
      · rw [z_wI1, if_pos ⟨rfl, rfl⟩, if_pos hin]
      · rw [z_wI1, if_neg q2]
    · refine ⟨z_wI h 122 33 0, ?_, fun j hj => ?_, ?_, fun o j q1 q2 => ?_⟩
      · rw [e_M_read_63, if_pos (nI_le (by omega) (by omega))]
      · rw [z_wI1, if_neg (by omega)]
        exact hst j hj
      · rw [z_wI1, if_pos ⟨rfl, rfl⟩, if_neg hin]
      · rw [z_wI1, if_neg q2]
  | succ r ih =>
    intro i h hi hR h137 h138 hC hst hsv
    obtain ⟨hf, hF⟩ := hx (by omega)
    obtain ⟨g1, g2, g3⟩ := q_lds_ok ho i hR
    have hsr := q_srOf g1 hst
    have hfi : f.toInt = (F : Int) := by rw [hf]; exact nI_toInt (by omega)
    have e0 : ∀ c, c < 4 → (40 : Int32) * nI k + f + 4 * nI i = nI (40 * k + (F + 4 * i)) := fun c hc => by
      rw [hf, n_40, n_4, pk_mul, nI_add, pk_mul, nI_add, Nat.add_assoc]
    have e1 : nI (40 * k + (F + 4 * i)) + 1 = nI (40 * k + (F + 4 * i + 1)) := nI_add _ 1
    have e2 : nI (40 * k + (F + 4 * i)) + 2 = nI (40 * k + (F + 4 * i + 2)) := nI_add _ 2
    have e3 : nI (40 * k + (F + 4 * i)) + 3 = nI (40 * k + (F + 4 * i + 3)) := nI_add _ 3
    have e63 : zl_M_read_63 (nI k) (nI l) f (nI n) 0 (nI i) (nI i) h = z_bd (z_M 199 [.ref 122, .int (C (F + 4 * i)), .int (C (F + 4 * i + 1)), .int (C (F + 4 * i + 2)), .int (C (F + 4 * i + 3))] h) (fun r1 h2 => (if (0 : Int32) ≤ r1 then zl_M_read_63 (nI k) (nI l) f (nI n) 0 (nI i + 1) (nI i + 1) h2 else zl_M_read_227 (nI i) 0 h2)) := by
      rw [e_M_read_63, if_neg (nI_ge (by omega) (by omega)), if_neg (fun q => q rfl), q_r78in hk (by omega) h137 h138 hl hs (by omega) (by omega), e_M_read_165, if_neg (fun q => q rfl), e0 0 (by decide), e1, e2, e3, q_inC (show 40 * k + (F + 4 * i) < 160 by omega) (by decide), q_inC (show 40 * k + (F + 4 * i + 1) < 160 by omega) (by decide), q_inC (show 40 * k + (F + 4 * i + 2) < 160 by omega) (by decide), q_inC (show 40 * k + (F + 4 * i + 3) < 160 by omega) (by decide), nI_clamp (by omega), nI_clamp (by omega), nI_clamp (by omega), nI_clamp (by omega), hC _ (by omega), hC _ (by omega), hC _ (by omega), hC _ (by omega)]
    rw [q_mMay g1 hst hsr, g2] at e63
    cases hr : q_rdR a C F i with
    | false =>
      have hr' : q_mayT a (C (F + 4 * i)) (C (F + 4 * i + 1)) (C (F + 4 * i + 2)) (C (F + 4 * i + 3)) = false := hr
      have efr : q_fr (q_rdR a C F) (r + 1) i = i := by
        show (if q_rdR a C F i = true then _ else _) = i
        rw [hr, if_neg (by decide)]
      rw [hr', cond_false, z_bd_some, if_neg (by decide)] at e63
      obtain ⟨h1, k1, k2, k3⟩ := q_r227 i h
      refine Or.inr ⟨by omega, h1, ?_, fun j hj => (k2 j hj).trans (hsv j hj), k3⟩
      rw [efr, e63]
      exact k1
    | true =>
      have hr' : q_mayT a (C (F + 4 * i)) (C (F + 4 * i + 1)) (C (F + 4 * i + 2)) (C (F + 4 * i + 3)) = true := hr
      have efr : q_fr (q_rdR a C F) (r + 1) i = q_fr (q_rdR a C F) r (i + 1) := by
        show (if q_rdR a C F i = true then _ else _) = _
        rw [hr, if_pos rfl]
      have hr2 : q_mayT (q_lds a C F i) (C (F + 4 * i)) (C (F + 4 * i + 1)) (C (F + 4 * i + 2)) (C (F + 4 * i + 3)) = true := (g2 _ _ _ _).trans hr'
      obtain ⟨m, v, kk, t, hm, hv, hm6, hv8, hkk, hk2, ht10, ht9, c1, c2, c3, c4⟩ := q_mayTT g1 hr2
      have d1 : (C (F + 4 * i)).toNatClampNeg = m := by rw [c1]; exact nI_clamp (by omega)
      have d2 : (C (F + 4 * i + 1)).toNatClampNeg = v := by rw [c2]; exact nI_clamp (by omega)
      have d3 : (C (F + 4 * i + 2)).toNatClampNeg = kk := by rw [c3]; exact nI_clamp (by omega)
      have d4 : (C (F + 4 * i + 3)).toNatClampNeg = t := by rw [c4]; exact nI_clamp (by omega)
      have hb := q_atb (p := 1) (by decide) hm6 hv8
      have b := g1.2.2.2.2.1 1 m v (by decide) hm hv
      have b5 := b.2.2.2.2 kk hkk
      have o7 := g1.2.2.2.1 m hm
      have hnn : (0 : Int32) ≤ h.1 123 (q_at 1 m v + 3 + kk) := by
        rw [hst _ (by omega), q_vn (by omega)]
        exact nI_pos' (by omega)
      rw [hr', cond_true, z_bd_some, d1, d2, d3, if_pos hnn, nI_1, c4] at e63
      have hl : q_lds a C F (i + 1) = q_ld (q_lds a C F i) m v kk t := by
        show q_ld (q_lds a C F i) _ _ _ _ = _
        rw [d1, d2, d3, d4]
      have fr : ∀ o j, o ≠ 123 → (z_wI h 123 (q_at 1 m v + 3 + kk) (nI t)).1 o j = h.1 o j := fun o j q => by rw [z_wI1, if_neg (by omega)]
      have hrec := ih (i + 1) (z_wI h 123 (q_at 1 m v + 3 + kk) (nI t)) (by omega) (fun j hj => by
          by_cases hj2 : j = i
          · rw [hj2]; exact hr
          · exact hR j (by omega)) ((fr _ _ (by decide)).trans h137) ((fr _ _ (by decide)).trans h138) (fun j hj => (fr _ _ (by decide)).trans (hC j hj)) (by rw [hl]; exact q_ld_st hst hk2 ht10) (fun j hj => (fr _ _ (by decide)).trans (hsv j hj))
      rw [efr, e63]
      rcases hrec with ⟨q1, h1, q2, q3, q4, q5⟩ | ⟨q1, h1, q2, q3, q4⟩
      · exact Or.inl ⟨q1, h1, q2, q3, q4, fun o j j1 j2 => (q5 o j j1 j2).trans (fr o j j1)⟩
      · exact Or.inr ⟨q1, h1, q2, q3, fun o j j1 => (q4 o j j1).trans (fr o j j1)⟩
/-- the state, the new program and the two faults of sheets have changed -/
theorem q_inv.nowT {h h1 : z_H} (hi : q_inv h) (e : ∀ o k, o ≠ 123 → ¬ (17 ≤ o ∧ o ≤ 36) → ¬ (o = 0 ∧ k = 11) → ¬ (o = 122 ∧ k = 33) → q_core o k = true → h1.1 o k = h.1 o k) (hn : ∃ a, q_now h1.1 a) (hT : h1.1 0 11 = h1.1 122 33) : q_inv h1 := by
  obtain ⟨-, h2, h3, h4, h5, -⟩ := hi
  obtain ⟨a, ha⟩ := hn
  have ec : ∀ o k, o ≠ 123 → ¬ (17 ≤ o ∧ o ≤ 36) → ¬ (o = 0 ∧ k = 11) → ¬ (o = 122 ∧ k = 33) → q_m h1.1 o k = q_m h.1 o k := fun o k q1 q2 q3 q4 => by
    unfold q_m
    cases hc : q_core o k with
    | false => rfl
    | true => exact e o k q1 q2 q3 q4 hc
  refine ⟨⟨a, ha.congr fun o k q => ?_⟩, h2.congr fun o k q => ec o k (by omega) (by omega) (by omega) (by omega), h3.congr fun o k q => ec o k (by omega) (by omega) (by omega) (by omega), h4.congr fun o k q => ec o k (by omega) (by omega) (by omega) (by omega), ?_, ?_⟩
  · rcases q with rfl | ⟨q1, q2⟩
    · exact q_mc rfl
    · exact q_mo q1 q2
  · rw [ec 0 10 (by omega) (by omega) (by omega) (by omega), ec 122 12 (by omega) (by omega) (by omega) (by omega)]
    exact h5
  · rw [q_mc rfl, q_mc rfl]
    exact hT
theorem q_cRd0 {k n : Nat} (hk : k < 4) (hn : n ≤ 10) (f r : Int32) (h : z_H) : zl_X_read_70 (nI k) f (nI n) r 0 h = some (0, z_wI h 0 11 (if ¬ r = 0 then r else if n = 0 then 0 else 2)) := by
  have hk4 : k = 0 ∨ k = 1 ∨ k = 2 ∨ k = 3 := by omega
  have hin : 114 + 2 * k ∈ [114, 116, 118, 120] := by rcases hk4 with rfl | rfl | rfl | rfl <;> decide
  have e1 : zl_X_firstRefused_3 (114 + 2 * k) f 0 0 h = some (0, h) := by rw [e_X_firstRefused_3 hin, if_pos (by decide)]
  have e2 : zl_X_turnAll_3 (114 + 2 * k) f 0 0 h = some (0, h) := by rw [e_X_turnAll_3 hin, if_pos (by decide)]
  rw [e_X_read_70, q_int hk (by decide), nI_clamp (by omega), cond_true, e_X_firstRefused hin, e1, z_bd_some, if_pos (by decide), cond_true, e_X_turnAll hin, e2, z_bd_some]
  by_cases hr : r = 0
  · have hr2 : ¬ ¬ r = 0 := fun q => q hr
    rw [if_neg hr2, if_neg hr2]
    by_cases h0 : n = 0
    · rw [if_pos h0, h0, if_pos (show nI 0 ≤ 0 by decide), hr]
    · rw [if_neg h0, if_neg (show ¬ nI n ≤ 0 from nI_nle (by omega) (by omega))]
  · rw [if_pos hr, if_pos hr]
theorem q_cWhole {k n s : Nat} {f : Int32} {h : z_H} (hin : 114 + 2 * k ∈ [114, 116, 118, 120]) (hn : n ≤ 10) (hs : s ≤ 40) (h1 : h.1 (114 + 2 * k) 1 = nI s) : ∃ W F, z_M 126 [.ref (114 + 2 * k), .int f, .int (nI n)] h = some (nI W, h) ∧ W ≤ n ∧ (0 < W → f = nI F ∧ F + 4 * W ≤ s) ∧ (W < n → (W = 0 ∧ f.toInt < 0) ∨ (s : Int) ≤ f.toInt + (4 * W : Nat) + 3) := by
  rw [e_Sh_wholeFrom hin, h1]
  rcases q_cases f with hf | ⟨F, hF, rfl⟩
  · have hneg : f.toInt < 0 := Int32.lt_iff_toInt_lt.mp hf
    exact ⟨0, 0, by rw [if_pos hf]; rfl, by omega, fun q => absurd q (by omega), fun _ => Or.inl ⟨rfl, hneg⟩⟩
  · rw [if_neg (nI_pos hF)]
    by_cases hFs : F ≤ s
    · rw [if_pos (nI_le hFs (by omega)), q_sub hFs, n_4, pk_div (by omega) (by decide) (by decide)]
      by_cases hm : (s - F) / 4 < n
      · refine ⟨(s - F) / 4, F, by rw [if_pos (nI_lt hm (by omega))], by omega, fun _ => ⟨rfl, by omega⟩, fun _ => Or.inr ?_⟩
        rw [nI_toInt hF]
        omega
      · exact ⟨n, F, by rw [if_neg (nI_nlt (by omega) (by omega))], Nat.le_refl _, fun _ => ⟨rfl, by omega⟩, fun q => absurd q (by omega)⟩
    · refine ⟨0, 0, by rw [if_neg (nI_ge (by omega) hF)]; rfl, by omega, fun q => absurd q (by omega), fun _ => Or.inr ?_⟩
      rw [nI_toInt hF]
      omega
theorem q_cWhole0 {o : Nat} (hin : o ∈ [114, 116, 118, 120]) (f : Int32) (h : z_H) : z_M 126 [.ref o, .int f, .int 0] h = some (0, h) := by
  rw [e_Sh_wholeFrom hin]
  rcases q_cases f with hf | ⟨F, hF, rfl⟩
  · rw [if_pos hf]
  · rw [if_neg (nI_pos hF)]
    by_cases hle : nI F ≤ h.1 o 1
    · rw [if_pos hle]
      rcases q_cases (h.1 o 1) with hx | ⟨S, hS, hx⟩
      · exfalso
        have a1 := Int32.le_iff_toInt_le.mp hle
        have a2 := Int32.lt_iff_toInt_lt.mp hx
        rw [nI_toInt hF] at a1
        have h0 : (0 : Int32).toInt = 0 := rfl
        omega
      · rw [hx] at hle ⊢
        have hFS : F ≤ S := (nI_leI hF hS).mp hle
        rw [q_sub hFS, n_4, pk_div (by omega) (by decide) (by decide), if_neg (nI_pos (by omega))]
    · rw [if_neg hle]
