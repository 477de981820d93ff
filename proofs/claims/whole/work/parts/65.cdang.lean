/-! THE PURE PART: the class finds the edges in danger -/
def q_cd (I : Nat → Nat → Int32) (L : Nat → Nat → Int64) (P : Nat → Bool) (q : Nat → Nat) (F : Nat) (E : Nat → Bool) : Prop := I 40 5 = nI F ∧ (∀ x, x < 64 → I 43 x = q_b (P x)) ∧ (∀ p, p < F → I 44 p = nI (q p)) ∧ q_es L 41 E
def q_ls (P : Nat → Bool) (q : Nat → Nat) (F : Nat) : Prop := F = fb_ct P 64 ∧ (∀ p, p < F → q p < 64 ∧ P (q p) = true) ∧ ∀ x, x < 64 → P x = true → ∃ p, p < F ∧ q p = x
def q_frD (I I' : Nat → Nat → Int32) (L L' : Nat → Nat → Int64) : Prop := (∀ o k, ¬ (40 ≤ o ∧ o ≤ 44) → I' o k = I o k) ∧ ∀ o k, o ≠ 42 → L' o k = L o k
theorem q_frD.refl {I : Nat → Nat → Int32} {L : Nat → Nat → Int64} : q_frD I I L L := ⟨fun _ _ _ => rfl, fun _ _ _ => rfl⟩
theorem q_frD.trans {I I' I2 : Nat → Nat → Int32} {L L' L2 : Nat → Nat → Int64} (h1 : q_frD I I' L L') (h2 : q_frD I' I2 L' L2) : q_frD I I2 L L2 := ⟨fun o k q => (h2.1 o k q).trans (h1.1 o k q), fun o k q => (h2.2 o k q).trans (h1.2 o k q)⟩
theorem q_frD.K {I I' : Nat → Nat → Int32} {L L' : Nat → Nat → Int64} {d d' : Nat} (h : q_frD I I' L L') : q_frK (I, L, d) (I', L', d') := fun o k q => h.1 o k (by omega)
theorem q_frD.now {I I' : Nat → Nat → Int32} {L L' : Nat → Nat → Int64} {a : Nat → Nat} (h : q_frD I I' L L') (ha : q_now I a) : q_now I' a := ha.K (h := (I, L, 0)) (h1 := (I', L', 0)) h.K
section QCD
variable {a : Nat → Nat} {I : Nat → Nat → Int32} {L : Nat → Nat → Int64} {d m i j k : Nat} {P E E0 : Nat → Bool} {q : Nat → Nat} {F : Nat}
theorem q_cAlike (ha : q_now I a) (hm : m < a 0) (hi : i < a (7 + m)) (hj : j < a (7 + m)) : z_M 113 [.ref 40, .int (nI (8 * m + i)), .int (nI (8 * m + j))] (I, L, d) = some (q_b (q_al a m i j), (I, L, d)) := by
  have o0 := ha.1.1
  have o7 := ha.1.2.2.2.1 m hm
  have b0 := ha.1.2.2.2.2.1 0 m i (by decide) hm hi
  have b1 := ha.1.2.2.2.2.1 1 m j (by decide) hm hj
  obtain ⟨g1, g2, g3, -⟩ := ha.2.2.1.2.2.2.1 m i hm hi
  obtain ⟨k1, k2, k3, -⟩ := ha.2.2.2.1.2.2.2.1 m j hm hj
  rw [e_Dg_areAlike, q_int (show 8 * m + i < 48 by omega) (by decide), q_int (show 8 * m + j < 48 by omega) (by decide), nI_clamp (by omega), nI_clamp (by omega)]
  simp only [cond_true]
  show (if ¬ I (17 + 2) (8 * m + i) = I (25 + 2) (8 * m + j) then _ else (if ¬ I (17 + 3) (8 * m + i) = I (25 + 3) (8 * m + j) then _ else (if ¬ I (17 + 4) (8 * m + i) = I (25 + 4) (8 * m + j) then _ else _))) = _
  rw [g1, g2, g3, k1, k2, k3]
  unfold q_al
  by_cases c1 : a (q_at 0 m i) = a (q_at 1 m j)
  · rw [if_neg (fun q => q (by rw [c1])), decide_eq_true c1, Bool.true_and]
    by_cases c2 : a (q_at 0 m i + 1) = a (q_at 1 m j + 1)
    · rw [if_neg (fun q => q (by rw [c2])), decide_eq_true c2, Bool.true_and]
      by_cases c3 : a (q_at 0 m i + 2) = a (q_at 1 m j + 2)
      · rw [if_neg (fun q => q (by rw [c3])), decide_eq_true c3]
        rfl
      · rw [if_pos (show ¬ nI (a (q_at 0 m i + 2)) = nI (a (q_at 1 m j + 2)) from fun q => c3 ((nI_eq (by omega) (by omega)).mp q)), decide_eq_false c3]
        rfl
    · rw [if_pos (show ¬ nI (a (q_at 0 m i + 1)) = nI (a (q_at 1 m j + 1)) from fun q => c2 ((nI_eq (by omega) (by omega)).mp q)), decide_eq_false c2]
      rfl
  · rw [if_pos (show ¬ nI (a (q_at 0 m i)) = nI (a (q_at 1 m j)) from fun q => c1 ((nI_eq (by omega) (by omega)).mp q)), decide_eq_false c1]
    rfl
theorem q_cPair (ha : q_now I a) (hm : m < a 0) (hi : i < a (7 + m)) (hj : j < a (7 + m)) (hd : q_cd I L P q F E) (hl : q_ls P q F) : ∃ I', z_M 112 [.ref 40, .int (nI m), .int (nI i), .int (nI j)] (I, L, d) = some (q_b (q_al a m i j), (I', L, d)) ∧ q_frD I I' L L ∧ (q_al a m i j = false → I' = I) ∧ (q_al a m i j = true → ∃ q' F', q_cd I' L (q_pt P (8 * i + j)) q' F' E ∧ q_ls (q_pt P (8 * i + j)) q' F' ∧ F ≤ F' ∧ ∀ p, p < F → q' p = q p) := by
  have o0 := ha.1.1
  have o7 := ha.1.2.2.2.1 m hm
  obtain ⟨d1, d2, d3, d4⟩ := id hd
  obtain ⟨l1, l2, l3⟩ := id hl
  have hx : 8 * i + j < 64 := by omega
  obtain ⟨x, hxe⟩ : ∃ x, x = 8 * i + j := ⟨_, rfl⟩
  have ex : (8 : Int32) * nI i + nI j = nI x := by rw [n_8, pk_mul, nI_add, hxe]
  have e1 : z_M 112 [.ref 40, .int (nI m), .int (nI i), .int (nI j)] (I, L, d) = (if ¬ q_b (q_al a m i j) = 0 then (if ¬ I 43 x = 0 then some (1, (I, L, d)) else (if (64 : Int32) ≤ I 40 5 then some (1, (I, L, d)) else (bif z_in ((q_wr I 43 x 1) 40 5) 64 then some (1, (q_wr (q_wr (q_wr I 43 x 1) 44 (((q_wr I 43 x 1) 40 5).toNatClampNeg) (nI x)) 40 5 ((q_wr (q_wr I 43 x 1) 44 (((q_wr I 43 x 1) 40 5).toNatClampNeg) (nI x)) 40 5 + 1), L, d)) else none))) else some (0, (I, L, d))) := by
    rw [e_Dg_pairUp, q_place, z_bd_some, q_place, z_bd_some, q_cAlike ha hm hi hj, z_bd_some, ex, q_int (show x < 64 by omega) (by decide), nI_clamp (by omega)]
    rfl
  rw [← hxe] at hx ⊢
  cases hal : q_al a m i j with
  | false =>
    refine ⟨I, by rw [e1, hal, if_neg (fun q => q (by decide))]; rfl, q_frD.refl, fun _ => rfl, fun q => absurd q (by decide)⟩
  | true =>
    rw [hal, if_pos (by decide), d2 x hx] at e1
    cases hP : P x with
    | true =>
      have hPx : q_pt P x = P := by
        funext y
        unfold q_pt
        by_cases hy : y = x
        · rw [hy, hP, Bool.or_true]
        · rw [decide_eq_false hy, Bool.false_or]
      rw [hP, if_pos (by decide)] at e1
      exact ⟨I, e1, q_frD.refl, fun q => absurd q (by decide), fun _ => ⟨q, F, by rw [hPx]; exact hd, by rw [hPx]; exact hl, Nat.le_refl _, fun _ _ => rfl⟩⟩
    | false =>
      have hF : F < 64 := by
        have h1 := q_pt_ct hx hP
        have h2 := fb_ct_le (q_pt P x) 64
        omega
      have w1 : (q_wr I 43 x 1) 40 5 = nI F := by rw [q_wr1, if_neg (by omega)]; exact d1
      have w2 : (q_wr (q_wr I 43 x 1) 44 F (nI x)) 40 5 = nI F := by rw [q_wr1, if_neg (by omega)]; exact w1
      rw [hP, if_neg (fun q => q (by decide)), d1, n_64, if_neg (nI_ge hF (by decide)), w1, q_inC hF (by decide), nI_clamp (by omega), w2, nI_1] at e1
      obtain ⟨I', eI⟩ : ∃ I', I' = q_wr (q_wr (q_wr I 43 x 1) 44 F (nI x)) 40 5 (nI (F + 1)) := ⟨_, rfl⟩
      rw [← eI] at e1
      have n1 : ∀ o' k', I' o' k' = if o' = 40 ∧ k' = 5 then nI (F + 1) else if o' = 44 ∧ k' = F then nI x else if o' = 43 ∧ k' = x then 1 else I o' k' := fun o' k' => by rw [eI, q_wr1, q_wr1, q_wr1]
      refine ⟨I', e1, ⟨fun o' k' hq => by rw [n1, if_neg (by omega), if_neg (by omega), if_neg (by omega)], fun _ _ _ => rfl⟩, fun q => absurd q (by decide), fun _ => ⟨fun p => if p = F then x else q p, F + 1, ⟨?_, fun y hy => ?_, fun p hp => ?_, d4⟩, ⟨?_, fun p hp => ?_, fun y hy hPy => ?_⟩, by omega, fun p hp => if_neg (by omega)⟩⟩
      · rw [n1, if_pos ⟨rfl, rfl⟩]
      · rw [n1, if_neg (by omega), if_neg (by omega)]
        unfold q_pt
        by_cases hy2 : y = x
        · rw [if_pos ⟨rfl, hy2⟩, decide_eq_true hy2]; rfl
        · rw [if_neg (fun q => hy2 q.2), decide_eq_false hy2, Bool.false_or]; exact d2 y hy
      · rw [n1, if_neg (by omega)]
        by_cases hp2 : p = F
        · show _ = nI (if p = F then x else q p)
          rw [if_pos ⟨rfl, hp2⟩, if_pos hp2]
        · show _ = nI (if p = F then x else q p)
          rw [if_neg (fun q => hp2 q.2), if_neg (by omega), if_neg hp2]; exact d3 p (by omega)
      · rw [q_pt_ct hx hP, l1]
      · by_cases hp2 : p = F
        · simp only [if_pos hp2]
          exact ⟨hx, q_pt_self⟩
        · simp only [if_neg hp2]
          have := l2 p (by omega)
          exact ⟨this.1, q_pt_le _ this.2⟩
      · rcases q_pt_or hPy with rfl | hPy
        · exact ⟨F, by omega, if_pos rfl⟩
        · obtain ⟨p, p1, p2⟩ := l3 y hy hPy
          exact ⟨p, by omega, (if_neg (by omega)).trans p2⟩
theorem q_cPutD {e : Nat} (hd : q_cd I L P q F E) (he : e < 216) : ∃ L', z_M 103 [.ref 41, .int (nI e)] (I, L, d) = some (0, (I, L', d)) ∧ q_cd I L' P q F (q_pt E e) ∧ q_frD I I L L' := by
  obtain ⟨d1, d2, d3, d4⟩ := hd
  obtain ⟨L', k1, k2, k3⟩ := q_es_put (o := 41) (I := I) (d := d) (by decide) d4 he
  exact ⟨L', k1, ⟨d1, d2, d3, k2⟩, fun _ _ _ => rfl, k3⟩
theorem q_cNext {o p : Nat} (hop : q_op2 o p) (ha : q_now I a) (hm : m < a 0) (hi : i < a (7 + m)) (hk : k < a (q_at p m i + 2)) : z_M 75 [.ref o, .int (nI m), .int (nI i), .int (nI k)] (I, L, d) = some (nI (a (q_at p m i + 3 + k)), (I, L, d)) := by
  have o0 := ha.1.1
  have o7 := ha.1.2.2.2.1 m hm
  have b0 := ha.1.2.2.2.2.1 p m i hop.lt.1 hm hi
  obtain ⟨-, -, -, g4⟩ := (ha.prg hop).2.2.2.1 m i hm hi
  have := g4 k (by omega)
  rw [if_pos hk] at this
  rw [e_P_nextOf hop.in7, q_edgeN, z_bd_some, q_inC (show 16 * m + 2 * i + k < 96 by omega) (by decide), nI_clamp (by omega)]
  show some (I (o + 5) (16 * m + 2 * i + k), _) = _
  rw [this]
theorem q_cNexts (hm : m < a 0) (hn : ¬ a (7 + m) = 0) (hal : q_al a m 0 0 = true) (hp : q_P a m i j) : ∀ n k P E q F I L, k + n = a (q_at 0 m i + 2) → q_now I a → q_cd I L P q F E → q_ls P q F → q_sd a m P E E0 → ∃ I' L' P' E' q' F', zl_Dg_compareNexts_3 (nI m) (nI i) (nI j) (nI k) (I, L, d) = some (0, (I', L', d)) ∧ q_frD I I' L L' ∧ q_cd I' L' P' q' F' E' ∧ q_ls P' q' F' ∧ q_sd a m P' E' E0 ∧ q_le P P' ∧ q_le E E' ∧ F ≤ F' ∧ (∀ p, p < F → q' p = q p) ∧ ∀ k', k ≤ k' → k' < a (q_at 0 m i + 2) → q_dn a m P' E' i j k' := by
  intro n
  induction n with
  | zero =>
    intro k P E q F I L hk ha hd hl hs
    obtain ⟨hi, hj, hij⟩ := q_P_ok ha.1 hm hn hal hp
    have o0 := ha.1.1
    have o7 := ha.1.2.2.2.1 m hm
    have b0 := ha.1.2.2.2.2.1 0 m i (by decide) hm hi
    obtain ⟨-, -, g3, -⟩ := ha.2.2.1.2.2.2.1 m i hm hi
    have g3 : I 21 (8 * m + i) = nI (a (q_at 0 m i + 2)) := g3
    refine ⟨I, L, P, E, q, F, ?_, q_frD.refl, hd, hl, hs, q_le.refl, q_le.refl, Nat.le_refl _, fun _ _ => rfl, fun k' k1 k2 => absurd k2 (by omega)⟩
    rw [e_Dg_compareNexts_3, q_place, z_bd_some, q_inC (show 8 * m + i < 48 by omega) (by decide), nI_clamp (by omega)]
    show (if I 21 (8 * m + i) ≤ nI k then _ else _) = _
    rw [g3, if_pos (nI_le (by omega) (by omega))]
  | succ n ih =>
    intro k P E q F I L hk ha hd hl hs
    obtain ⟨hi, hj, hij⟩ := q_P_ok ha.1 hm hn hal hp
    have o0 := ha.1.1
    have o7 := ha.1.2.2.2.1 m hm
    have b0 := ha.1.2.2.2.2.1 0 m i (by decide) hm hi
    have b1 := ha.1.2.2.2.2.1 1 m j (by decide) hm hj
    have hww : a (q_at 0 m i + 2) = a (q_at 1 m j + 2) := by
      unfold q_al at hij
      rw [Bool.and_eq_true, Bool.and_eq_true] at hij
      exact of_decide_eq_true hij.2.2
    obtain ⟨-, -, g3, -⟩ := ha.2.2.1.2.2.2.1 m i hm hi
    have g3 : I 21 (8 * m + i) = nI (a (q_at 0 m i + 2)) := g3
    obtain ⟨w, hw⟩ : ∃ w, w = q_w0' a m i k := ⟨_, rfl⟩
    obtain ⟨v, hv⟩ : ∃ v, v = q_i1' a m j k := ⟨_, rfl⟩
    have bw : w = 9 ∨ w < a (7 + m) := by rw [hw]; exact b0.2.2.2.2 k (by omega)
    have bv : v = 9 ∨ v < a (7 + m) := by rw [hv]; exact b1.2.2.2.2 k (by omega)
    have c1 : z_M 75 [.ref 17, .int (nI m), .int (nI i), .int (nI k)] (I, L, d) = some (nI w, (I, L, d)) := by
      rw [hw]
      exact q_cNext (Or.inl ⟨rfl, rfl⟩) ha hm hi (by omega)
    have c2 : z_M 75 [.ref 25, .int (nI m), .int (nI j), .int (nI k)] (I, L, d) = some (nI v, (I, L, d)) := by
      rw [hv]
      exact q_cNext (Or.inr ⟨rfl, rfl⟩) ha hm hj (by omega)
    have ew : (nI w = 9) = (w = 9) := propext (nI_eq (b := 9) (by omega) (by decide))
    have ev : (nI v = 9) = (v = 9) := propext (nI_eq (b := 9) (by omega) (by decide))
    have e1 : zl_Dg_compareNexts_3 (nI m) (nI i) (nI j) (nI k) (I, L, d) = (if w = 9 ∧ v = 9 then zl_Dg_compareNexts_3 (nI m) (nI i) (nI j) (nI (k + 1)) (I, L, d) else if w = 9 ∨ v = 9 then zl_Dg_compareNexts_111 (nI m) (nI i) (nI j) (nI k) (I, L, d) else z_bd (z_M 112 [.ref 40, .int (nI m), .int (nI w), .int (nI v)] (I, L, d)) (fun r1 h2 => (if ¬ r1 = 0 then zl_Dg_compareNexts_3 (nI m) (nI i) (nI j) (nI k + 1) h2 else zl_Dg_compareNexts_111 (nI m) (nI i) (nI j) (nI k) h2))) := by
      rw [e_Dg_compareNexts_3, q_place, z_bd_some, q_inC (show 8 * m + i < 48 by omega) (by decide), nI_clamp (by omega)]
      show (if I 21 (8 * m + i) ≤ nI k then _ else z_bd (z_M 75 [.ref 17, .int (nI m), .int (nI i), .int (nI k)] (I, L, d)) _) = _
      rw [g3, if_neg (nI_ge (by omega) (by omega)), c1, z_bd_some, c2, z_bd_some]
      simp only [e_Dg_compareNexts_66, e_Dg_compareNexts_87, ew, ev, nI_1]
      by_cases w9 : w = 9
      · by_cases v9 : v = 9
        · simp [w9, v9]
        · simp [w9, v9]
      · by_cases v9 : v = 9
        · simp [w9, v9]
        · simp [w9, v9]
    -- behind one that is not alike: an edge
    have edge : q_bad a m i j k → ∀ I1, q_now I1 a → q_frD I I1 L L → q_cd I1 L P q F E → ∃ I' L' P' E' q' F', zl_Dg_compareNexts_111 (nI m) (nI i) (nI j) (nI k) (I1, L, d) = some (0, (I', L', d)) ∧ q_frD I I' L L' ∧ q_cd I' L' P' q' F' E' ∧ q_ls P' q' F' ∧ q_sd a m P' E' E0 ∧ q_le P P' ∧ q_le E E' ∧ F ≤ F' ∧ (∀ p, p < F → q' p = q p) ∧ ∀ k', k ≤ k' → k' < a (q_at 0 m i + 2) → q_dn a m P' E' i j k' := fun hb I1 ha1 f1 hd1 => by
      obtain ⟨L1, p1, p2, p3⟩ := q_cPutD (d := d) (e := 16 * m + 2 * i + k) hd1 (by omega)
      obtain ⟨s1, s2⟩ := hs.edge hp (by omega) hb
      obtain ⟨I', L', P', E', q', F', t1, t2, t3, t4, t5, t6, t7, t8, t9, t10⟩ := ih (k + 1) P (q_pt E (16 * m + 2 * i + k)) q F I1 L1 (by omega) (p3.now ha1) p2 hl s1
      refine ⟨I', L', P', E', q', F', ?_, (f1.trans p3).trans t2, t3, t4, t5, t6, q_pt_le.trans t7, t8, t9, fun k' k1 k2 => ?_⟩
      · rw [e_Dg_compareNexts_111, q_edgeN, z_bd_some, p1, z_bd_some, nI_1]
        exact t1
      · by_cases hk2 : k' = k
        · rw [hk2]
          exact s2.mono t6 t7
        · exact t10 k' (by omega) k2
    rw [e1]
    by_cases h99 : w = 9 ∧ v = 9
    · rw [if_pos h99]
      obtain ⟨I', L', P', E', q', F', t1, t2, t3, t4, t5, t6, t7, t8, t9, t10⟩ := ih (k + 1) P E q F I L (by omega) ha hd hl hs
      refine ⟨I', L', P', E', q', F', t1, t2, t3, t4, t5, t6, t7, t8, t9, fun k' k1 k2 => ?_⟩
      by_cases hk2 : k' = k
      · rw [hk2]
        exact q_dn.both (hw ▸ h99.1) (hv ▸ h99.2)
      · exact t10 k' (by omega) k2
    · rw [if_neg h99]
      have hb1 : ¬ (q_w0' a m i k = 9 ∧ q_i1' a m j k = 9) := by rw [← hw, ← hv]; exact h99
      by_cases h9 : w = 9 ∨ v = 9
      · rw [if_pos h9]
        have hng : ¬ q_good a m i j k := fun g => by
          rcases h9 with h9 | h9
          · exact g.1 (hw ▸ h9)
          · exact g.2.1 (hv ▸ h9)
        exact edge ⟨hb1, hng⟩ I ha q_frD.refl hd
      · rw [if_neg h9]
        have hw7 := bw.resolve_left (fun c => h9 (Or.inl c))
        have hv7 := bv.resolve_left (fun c => h9 (Or.inr c))
        obtain ⟨I1, p1, p2, p3, p4⟩ := q_cPair (d := d) ha hm hw7 hv7 hd hl
        rw [p1, z_bd_some]
        cases hwv : q_al a m w v with
        | false =>
          have hng : ¬ q_good a m i j k := fun g => by
            have := g.2.2
            rw [← hw, ← hv, hwv] at this
            cases this
          have := p3 hwv
          subst this
          rw [if_neg (fun q => q (by decide))]
          exact edge ⟨hb1, hng⟩ I1 ha q_frD.refl hd
        | true =>
          have hg : q_good a m i j k := ⟨by rw [← hw]; omega, by rw [← hv]; omega, by rw [← hw, ← hv]; exact hwv⟩
          obtain ⟨q1, F1, u1, u2, u3, u4⟩ := p4 hwv
          obtain ⟨s1, s2⟩ := hs.pair hp (by omega) hg (by rw [← hv]; omega)
          rw [← hw, ← hv] at s1 s2
          obtain ⟨I', L', P', E', q', F', t1, t2, t3, t4, t5, t6, t7, t8, t9, t10⟩ := ih (k + 1) (q_pt P (8 * w + v)) E q1 F1 I1 L (by omega) (p2.now ha) u1 u2 s1
          refine ⟨I', L', P', E', q', F', ?_, p2.trans t2, t3, t4, t5, q_pt_le.trans t6, t7, by omega, fun p hp => ?_, fun k' k1 k2 => ?_⟩
          · rw [if_pos (by decide), nI_1]
            exact t1
          · rw [t9 p (by omega), u4 p hp]
          · by_cases hk2 : k' = k
            · rw [hk2]
              exact s2.mono t6 t7
            · exact t10 k' (by omega) k2
/-- the pairs followed, from one on -/
theorem q_cFollow (hm : m < a 0) (hn : ¬ a (7 + m) = 0) (hal : q_al a m 0 0 = true) : ∀ n c P E q F I L, c + n = 64 → c ≤ F → q_now I a → q_cd I L P q F E → q_ls P q F → q_sd a m P E E0 → (∀ p, p < c → ∀ k, k < a (q_at 0 m (q p / 8) + 2) → q_dn a m P E (q p / 8) (q p % 8) k) → ∃ I' L' P' E' q' F', zl_Dg_compareMethod_49 (nI m) (nI c) (I, L, d) = some (0, (I', L', d)) ∧ q_frD I I' L L' ∧ q_cd I' L' P' q' F' E' ∧ q_ls P' q' F' ∧ q_sd a m P' E' E0 ∧ q_le P P' ∧ ∀ p, p < F' → ∀ k, k < a (q_at 0 m (q' p / 8) + 2) → q_dn a m P' E' (q' p / 8) (q' p % 8) k := by
  intro n
  induction n with
  | zero =>
    intro c P E q F I L hc hcF ha hd hl hs hdn
    have hF : F ≤ 64 := by rw [hl.1]; exact fb_ct_le P 64
    obtain rfl : F = c := by omega
    refine ⟨I, L, P, E, q, F, ?_, q_frD.refl, hd, hl, hs, q_le.refl, hdn⟩
    rw [e_Dg_compareMethod_49]
    show (if I 40 5 ≤ nI F then _ else _) = _
    rw [hd.1, if_pos (nI_le (Nat.le_refl _) (by omega))]
  | succ n ih =>
    intro c P E q F I L hc hcF ha hd hl hs hdn
    have hF : F ≤ 64 := by rw [hl.1]; exact fb_ct_le P 64
    by_cases hcF2 : c = F
    · subst hcF2
      refine ⟨I, L, P, E, q, c, ?_, q_frD.refl, hd, hl, hs, q_le.refl, hdn⟩
      rw [e_Dg_compareMethod_49]
      show (if I 40 5 ≤ nI c then _ else _) = _
      rw [hd.1, if_pos (nI_le (Nat.le_refl _) (by omega))]
    · have hq := hl.2.1 c (by omega)
      have hp := hs.1 (q c) hq.1 hq.2
      have d1 : nI (q c) / 8 = nI (q c / 8) := pk_div (d := 8) (by omega) (by decide) (by decide)
      have d2 : nI (q c) - nI (q c) / 8 * 8 = nI (q c % 8) := pk_rem (d := 8) (by omega) (by decide) (by decide)
      obtain ⟨I1, L1, P1, E1, q1, F1, t1, t2, t3, t4, t5, t6, t7, t8, t9, t10⟩ := q_cNexts (d := d) (E0 := E0) hm hn hal hp (a (q_at 0 m (q c / 8) + 2)) 0 P E q F I L (by omega) ha hd hl hs
      obtain ⟨I', L', P', E', q', F', u1, u2, u3, u4, u5, u6, u7⟩ := ih (c + 1) P1 E1 q1 F1 I1 L1 (by omega) (by omega) (t2.now ha) t3 t4 t5 (fun p hp k hk => by
        by_cases hpc : p = c
        · rw [hpc, t9 c (by omega)] at hk ⊢
          exact t10 k (Nat.zero_le _) hk
        · rw [t9 p (by omega)] at hk ⊢
          exact (hdn p (by omega) k hk).mono t6 t7)
      refine ⟨I', L', P', E', q', F', ?_, t2.trans u2, u3, u4, u5, t6.trans u6, u7⟩
      rw [e_Dg_compareMethod_49]
      show (if I 40 5 ≤ nI c then _ else (if (64 : Int32) ≤ nI c then _ else (bif z_in (nI c) 64 then (bif z_in (nI c) 64 then z_bd (z_M 111 [.ref 40, .int (nI m), .int ((I 44 ((nI c).toNatClampNeg)) / 8), .int ((I 44 ((nI c).toNatClampNeg)) - (I 44 ((nI c).toNatClampNeg)) / 8 * 8)] (I, L, d)) _ else none) else none))) = _
      rw [hd.1, if_neg (nI_ge (by omega) (by omega)), n_64, if_neg (nI_ge (by omega) (by decide)), q_inC (show c < 64 by omega) (by decide), q_inC (show c < 64 by omega) (by decide), nI_clamp (by omega), hd.2.2.1 c (by omega), d2, d1, e_Dg_compareNexts, show zl_Dg_compareNexts_3 (nI m) (nI (q c / 8)) (nI (q c % 8)) 0 (I, L, d) = _ from t1, z_bd_some, nI_1]
      exact u1
end QCD
