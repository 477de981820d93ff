/-! THE PURE PART: the reference finds the edges in danger -/
def q_md (I : Nat → Nat → Int32) (P E : Nat → Bool) : Prop := (∀ x, x < 64 → I 132 x = q_b (P x)) ∧ ∀ e, e < 216 → I 131 e = q_b (E e)
def q_frE (I I' : Nat → Nat → Int32) : Prop := ∀ o k, o ≠ 131 → o ≠ 132 → I' o k = I o k
theorem q_frE.refl {I : Nat → Nat → Int32} : q_frE I I := fun _ _ _ _ => rfl
theorem q_frE.trans {I I' I2 : Nat → Nat → Int32} (h1 : q_frE I I') (h2 : q_frE I' I2) : q_frE I I2 := fun o k q1 q2 => (h2 o k q1 q2).trans (h1 o k q1 q2)
theorem q_frE.st {I I' : Nat → Nat → Int32} {a : Nat → Nat} (h : q_frE I I') (hst : ∀ j, j < 549 → I 123 j = q_v (a j)) : ∀ j, j < 549 → I' 123 j = q_v (a j) := fun j hj => (h 123 j (by decide) (by decide)).trans (hst j hj)
theorem q_frE.R {I I' : Nat → Nat → Int32} {L L' : Nat → Nat → Int64} {d d' : Nat} (h : q_frE I I') : q_frR (I, L, d) (I', L', d') := fun o k _ q2 => h o k (by omega) (by omega)
theorem q_md.pair {I : Nat → Nat → Int32} {P E : Nat → Bool} {x : Nat} (h : q_md I P E) : q_md (q_wr I 132 x 1) (q_pt P x) E := ⟨fun y hy => by
  rw [q_wr1]
  unfold q_pt
  by_cases hyx : y = x
  · rw [if_pos ⟨rfl, hyx⟩, decide_eq_true hyx]; rfl
  · rw [if_neg (fun q => hyx q.2), decide_eq_false hyx, Bool.false_or]; exact h.1 y hy, fun e he => by rw [q_wr1, if_neg (by omega)]; exact h.2 e he⟩
theorem q_md.edge {I : Nat → Nat → Int32} {P E : Nat → Bool} {x : Nat} (h : q_md I P E) : q_md (q_wr I 131 x 1) P (q_pt E x) := ⟨fun y hy => by rw [q_wr1, if_neg (by omega)]; exact h.1 y hy, fun e he => by
  rw [q_wr1]
  unfold q_pt
  by_cases hyx : e = x
  · rw [if_pos ⟨rfl, hyx⟩, decide_eq_true hyx]; rfl
  · rw [if_neg (fun q => hyx q.2), decide_eq_false hyx, Bool.false_or]; exact h.2 e he⟩
theorem q_frE.wr {I : Nat → Nat → Int32} {o k : Nat} {x : Int32} (h : o = 131 ∨ o = 132) : q_frE I (q_wr I o k x) := fun o' k' q1 q2 => by rw [q_wr1, if_neg (by omega)]
theorem q_pt_of {P : Nat → Bool} {x : Nat} (h : P x = true) : q_pt P x = P := by
  funext y
  unfold q_pt
  by_cases hy : y = x
  · rw [hy, h, Bool.or_true]
  · rw [decide_eq_false hy, Bool.false_or]
theorem q_le_ct {P Q : Nat → Bool} (h : q_le P Q) : fb_ct P 64 ≤ fb_ct Q 64 := fb_ct_sub (fun k _ hk => h k hk)
section QMD
variable {a : Nat → Nat} {L : Nat → Nat → Int64} {d m i j : Nat} {E0 : Nat → Bool}
theorem q_mAlike {I : Nat → Nat → Int32} (ho : q_ok a) (hst : ∀ j, j < 549 → I 123 j = q_v (a j)) (hm : m < a 0) (hi : i < a (7 + m)) (hj : j < a (7 + m)) : z_M 169 [.ref 122, .int (nI m), .int (nI i), .int (nI j)] (I, L, d) = some (q_b (q_al a m i j), (I, L, d)) := by
  have b0 := ho.2.2.2.2.1 0 m i (by decide) hm hi
  have b1 := ho.2.2.2.2.1 1 m j (by decide) hm hj
  have p0 : ∀ k, k < 3 → z_M 158 [.ref 122, .int 0, .int (nI m), .int (nI i), .int (nI k)] (I, L, d) = some (nI (a (q_at 0 m i + k)), (I, L, d)) := fun k hk => q_of (p := 0) ho (by decide) hst hm hi (by omega)
  have p1 : ∀ k, k < 3 → z_M 158 [.ref 122, .int 1, .int (nI m), .int (nI j), .int (nI k)] (I, L, d) = some (nI (a (q_at 1 m j + k)), (I, L, d)) := fun k hk => q_of (p := 1) ho (by decide) hst hm hj (by omega)
  have st : ∀ k f, k < 3 → a (q_at 0 m i + k) < 10 → a (q_at 1 m j + k) < 10 → zl_M_areAlike_6 (nI m) (nI i) (nI j) (q_b f) (nI k) (I, L, d) = zl_M_areAlike_6 (nI m) (nI i) (nI j) (q_b (f && decide (a (q_at 0 m i + k) = a (q_at 1 m j + k)))) (nI (k + 1)) (I, L, d) := fun k f hk h0 h1 => by
    rw [e_M_areAlike_6, if_neg (show ¬ (2 : Int32) < nI k from nI_nlt (a := 2) (by omega) (by decide)), nI_1]
    cases f with
    | false => rw [if_pos (by decide)]; rfl
    | true =>
      rw [if_neg (by decide), p0 k hk, z_bd_some, p1 k hk, z_bd_some, Bool.true_and]
      by_cases he : a (q_at 0 m i + k) = a (q_at 1 m j + k)
      · rw [if_neg (fun q => q (by rw [he])), decide_eq_true he]
        rfl
      · rw [if_pos (show ¬ nI (a (q_at 0 m i + k)) = nI (a (q_at 1 m j + k)) from fun q => he ((nI_eq (by omega) (by omega)).mp q)), decide_eq_false he]
        rfl
  rw [e_M_areAlike, show zl_M_areAlike_6 (nI m) (nI i) (nI j) 1 0 (I, L, d) = _ from st 0 true (by decide) (by rw [Nat.add_zero]; omega) (by rw [Nat.add_zero]; omega), st 1 _ (by decide) (by omega) (by omega), st 2 _ (by decide) (by omega) (by omega), e_M_areAlike_6, if_pos (by decide), q_b1]
  unfold q_al
  rw [Bool.true_and, Bool.and_assoc]
  rfl
theorem q_mPairs (ho : q_ok a) (hm : m < a 0) (hn : ¬ a (7 + m) = 0) (hal : q_al a m 0 0 = true) (hp : q_P a m i j) : ∀ n k f P E I, k + n = a (q_at 0 m i + 2) → (∀ j, j < 549 → I 123 j = q_v (a j)) → q_md I P E → q_sd a m P E E0 → ∃ I' P' E' f', zl_M_pairsOn_6 (nI m) (nI i) (nI j) (q_b f) (nI k) (I, L, d) = some (q_b f', (I', L, d)) ∧ q_frE I I' ∧ q_md I' P' E' ∧ q_sd a m P' E' E0 ∧ q_le P P' ∧ q_le E E' ∧ (f' = false → f = false ∧ P' = P) ∧ (f' = true → f = true ∨ fb_ct P 64 < fb_ct P' 64) ∧ ∀ k', k ≤ k' → k' < a (q_at 0 m i + 2) → q_dn a m P' E' i j k' := by
  obtain ⟨hi, hj, hij⟩ := q_P_ok ho hm hn hal hp
  have o0 := ho.1
  have o7 := ho.2.2.2.1 m hm
  have b0 := ho.2.2.2.2.1 0 m i (by decide) hm hi
  have b1 := ho.2.2.2.2.1 1 m j (by decide) hm hj
  have hww : a (q_at 0 m i + 2) = a (q_at 1 m j + 2) := by
    unfold q_al at hij
    rw [Bool.and_eq_true, Bool.and_eq_true] at hij
    exact of_decide_eq_true hij.2.2
  intro n
  induction n with
  | zero =>
    intro k f P E I hk hst hd hs
    have q2 : z_M 158 [.ref 122, .int 0, .int (nI m), .int (nI i), .int 2] (I, L, d) = some (nI (a (q_at 0 m i + 2)), (I, L, d)) := q_of (p := 0) (k := 2) ho (by decide) hst hm hi (by omega)
    refine ⟨I, P, E, f, ?_, q_frE.refl, hd, hs, q_le.refl, q_le.refl, fun h => ⟨h, rfl⟩, fun h => Or.inl h, fun k' k1 k2 => absurd k2 (by omega)⟩
    rw [e_M_pairsOn_6, q2, z_bd_some, if_pos (nI_le (by omega) (by omega)), q_b1]
  | succ n ih =>
    intro k f P E I hk hst hd hs
    have q2 : z_M 158 [.ref 122, .int 0, .int (nI m), .int (nI i), .int 2] (I, L, d) = some (nI (a (q_at 0 m i + 2)), (I, L, d)) := q_of (p := 0) (k := 2) ho (by decide) hst hm hi (by omega)
    obtain ⟨w, hw⟩ : ∃ w, w = q_w0' a m i k := ⟨_, rfl⟩
    obtain ⟨v, hv⟩ : ∃ v, v = q_i1' a m j k := ⟨_, rfl⟩
    have bw : w = 9 ∨ w < a (7 + m) := by rw [hw]; exact b0.2.2.2.2 k (by omega)
    have bv : v = 9 ∨ v < a (7 + m) := by rw [hv]; exact b1.2.2.2.2 k (by omega)
    have e3 : (3 : Int32) + nI k = nI (3 + k) := by rw [n_3, nI_add]
    have c1 : z_M 158 [.ref 122, .int 0, .int (nI m), .int (nI i), .int (nI (3 + k))] (I, L, d) = some (nI w, (I, L, d)) := by
      have := q_of (L := L) (d := d) (p := 0) (k := 3 + k) ho (by decide) hst hm hi (by omega)
      rw [hw]
      unfold q_w0'
      rw [Nat.add_assoc]
      exact this
    have c2 : z_M 158 [.ref 122, .int 1, .int (nI m), .int (nI j), .int (nI (3 + k))] (I, L, d) = some (nI v, (I, L, d)) := by
      have := q_of (L := L) (d := d) (p := 1) (k := 3 + k) ho (by decide) hst hm hj (by omega)
      rw [hv]
      unfold q_i1'
      rw [Nat.add_assoc]
      exact this
    have ew : (nI w = 9) = (w = 9) := propext (nI_eq (b := 9) (by omega) (by decide))
    have ev : (nI v = 9) = (v = 9) := propext (nI_eq (b := 9) (by omega) (by decide))
    have ewv : (nI w = nI v) = (w = v) := propext (nI_eq (by omega) (by omega))
    have e16 : (16 : Int32) * nI m + 2 * nI i + nI k = nI (16 * m + 2 * i + k) := by rw [n_16, n_2, pk_mul, pk_mul, nI_add, nI_add]
    have e1 : zl_M_pairsOn_6 (nI m) (nI i) (nI j) (q_b f) (nI k) (I, L, d) = (if w = 9 then zl_M_pairsOn_64 (nI m) (nI i) (nI j) (q_b f) (nI k) (nI w) (nI v) 0 (I, L, d) else (if v = 9 then zl_M_pairsOn_64 (nI m) (nI i) (nI j) (q_b f) (nI k) (nI w) (nI v) 0 (I, L, d) else zl_M_pairsOn_64 (nI m) (nI i) (nI j) (q_b f) (nI k) (nI w) (nI v) 1 (I, L, d))) := by
      rw [e_M_pairsOn_6, q2, z_bd_some, if_neg (nI_ge (by omega) (by omega)), e3, c1, z_bd_some, c2, z_bd_some]
      simp only [ew, ev]
    -- an edge more
    have edge : q_bad a m i j k → ∃ I' P' E' f', zl_M_pairsOn_140 (nI m) (nI i) (nI j) (q_b f) (nI k) (I, L, d) = some (q_b f', (I', L, d)) ∧ q_frE I I' ∧ q_md I' P' E' ∧ q_sd a m P' E' E0 ∧ q_le P P' ∧ q_le E E' ∧ (f' = false → f = false ∧ P' = P) ∧ (f' = true → f = true ∨ fb_ct P 64 < fb_ct P' 64) ∧ ∀ k', k ≤ k' → k' < a (q_at 0 m i + 2) → q_dn a m P' E' i j k' := fun hb => by
      obtain ⟨s1, s2⟩ := hs.edge hp (by omega) hb
      have fw : q_frE I (q_wr I 131 (16 * m + 2 * i + k) 1) := q_frE.wr (Or.inl rfl)
      obtain ⟨I', P', E', f', t1, t2, t3, t4, t5, t6, t7, t8, t9⟩ := ih (k + 1) f P (q_pt E (16 * m + 2 * i + k)) (q_wr I 131 (16 * m + 2 * i + k) 1) (by omega) (fw.st hst) hd.edge s1
      refine ⟨I', P', E', f', ?_, fw.trans t2, t3, t4, t5, q_pt_le.trans t6, t7, t8, fun k' k1 k2 => ?_⟩
      · rw [e_M_pairsOn_140, e16, q_inC (show 16 * m + 2 * i + k < 216 by omega) (by decide), nI_clamp (by omega), nI_1]
        exact t1
      · by_cases hk2 : k' = k
        · rw [hk2]
          exact s2.mono t5 t6
        · exact t9 k' (by omega) k2
    have e128 : ∀ s0 : Int32, zl_M_pairsOn_128 (nI m) (nI i) (nI j) (q_b f) (nI k) (nI w) (nI v) s0 (I, L, d) = (if ¬ s0 = 0 then zl_M_pairsOn_140 (nI m) (nI i) (nI j) (q_b f) (nI k) (I, L, d) else (if w = v then zl_M_pairsOn_6 (nI m) (nI i) (nI j) (q_b f) (nI (k + 1)) (I, L, d) else zl_M_pairsOn_140 (nI m) (nI i) (nI j) (q_b f) (nI k) (I, L, d))) := fun s0 => by
      rw [e_M_pairsOn_128, nI_1]
      simp only [ewv]
    rw [e1]
    by_cases h9 : w = 9 ∨ v = 9
    · have e64 : (if w = 9 then zl_M_pairsOn_64 (nI m) (nI i) (nI j) (q_b f) (nI k) (nI w) (nI v) 0 (I, L, d) else (if v = 9 then zl_M_pairsOn_64 (nI m) (nI i) (nI j) (q_b f) (nI k) (nI w) (nI v) 0 (I, L, d) else zl_M_pairsOn_64 (nI m) (nI i) (nI j) (q_b f) (nI k) (nI w) (nI v) 1 (I, L, d))) = (if w = v then zl_M_pairsOn_6 (nI m) (nI i) (nI j) (q_b f) (nI (k + 1)) (I, L, d) else zl_M_pairsOn_140 (nI m) (nI i) (nI j) (q_b f) (nI k) (I, L, d)) := by
        have e0 : zl_M_pairsOn_64 (nI m) (nI i) (nI j) (q_b f) (nI k) (nI w) (nI v) 0 (I, L, d) = (if w = v then zl_M_pairsOn_6 (nI m) (nI i) (nI j) (q_b f) (nI (k + 1)) (I, L, d) else zl_M_pairsOn_140 (nI m) (nI i) (nI j) (q_b f) (nI k) (I, L, d)) := by
          rw [e_M_pairsOn_64, if_pos rfl, e128, if_neg (fun q => q rfl)]
        rcases h9 with h9 | h9
        · rw [if_pos h9, e0]
        · by_cases w9 : w = 9
          · rw [if_pos w9, e0]
          · rw [if_neg w9, if_pos h9, e0]
      rw [e64]
      by_cases hwv : w = v
      · have w9 : w = 9 ∧ v = 9 := by omega
        rw [if_pos hwv]
        obtain ⟨I', P', E', f', t1, t2, t3, t4, t5, t6, t7, t8, t9⟩ := ih (k + 1) f P E I (by omega) hst hd hs
        refine ⟨I', P', E', f', t1, t2, t3, t4, t5, t6, t7, t8, fun k' k1 k2 => ?_⟩
        by_cases hk2 : k' = k
        · rw [hk2]
          exact q_dn.both (hw ▸ w9.1) (hv ▸ w9.2)
        · exact t9 k' (by omega) k2
      · rw [if_neg hwv]
        refine edge ⟨fun c => ?_, fun g => ?_⟩
        · rw [← hw, ← hv] at c
          omega
        · have g1 := g.1
          have g2 := g.2.1
          rw [← hw] at g1
          rw [← hv] at g2
          omega
    · have w9 : ¬ w = 9 := fun c => h9 (Or.inl c)
      have v9 : ¬ v = 9 := fun c => h9 (Or.inr c)
      have hw7 := bw.resolve_left w9
      have hv7 := bv.resolve_left v9
      have ea := q_mAlike (L := L) (d := d) ho hst hm hw7 hv7
      have ex : (8 : Int32) * nI w + nI v = nI (8 * w + v) := by rw [n_8, pk_mul, nI_add]
      rw [if_neg w9, if_neg v9, e_M_pairsOn_64, if_neg (by decide), ea, z_bd_some]
      cases hwv : q_al a m w v with
      | false =>
        rw [if_pos (by decide), e128, if_pos (by decide)]
        refine edge ⟨fun c => ?_, fun g => ?_⟩
        · rw [← hw] at c
          omega
        · have := g.2.2
          rw [← hw, ← hv, hwv] at this
          cases this
      | true =>
        have hg : q_good a m i j k := ⟨by rw [← hw]; omega, by rw [← hv]; omega, by rw [← hw, ← hv]; exact hwv⟩
        obtain ⟨s1, s2⟩ := hs.pair hp (by omega) hg (by rw [← hv]; omega)
        rw [← hw, ← hv] at s1 s2
        have fw : q_frE I (q_wr I 132 (8 * w + v) 1) := q_frE.wr (Or.inr rfl)
        obtain ⟨f1, hf1⟩ : ∃ f1, f1 = (f || !P (8 * w + v)) := ⟨_, rfl⟩
        obtain ⟨I', P', E', f', t1, t2, t3, t4, t5, t6, t7, t8, t9⟩ := ih (k + 1) f1 (q_pt P (8 * w + v)) E (q_wr I 132 (8 * w + v) 1) (by omega) (fw.st hst) hd.pair s1
        refine ⟨I', P', E', f', ?_, fw.trans t2, t3, t4, q_pt_le.trans t5, t6, fun h => ?_, fun h => ?_, fun k' k1 k2 => ?_⟩
        · have e109 : zl_M_pairsOn_109 (nI m) (nI i) (nI j) (nI k) (nI w) (nI v) (q_b f1) (I, L, d) = some (q_b f', (I', L, d)) := by
            rw [e_M_pairsOn_109, ex, q_inC (show 8 * w + v < 64 by omega) (by decide), nI_clamp (by omega), nI_1]
            exact t1
          rw [if_neg (by decide)]
          cases f with
          | true =>
            rw [if_pos (by decide)]
            rw [hf1] at e109
            exact e109
          | false =>
            rw [if_neg (fun q => q (by decide)), ex, q_inC (show 8 * w + v < 64 by omega) (by decide), nI_clamp (by omega)]
            show (if ¬ I 132 (8 * w + v) = 0 then _ else _) = _
            rw [hd.1 _ (by omega)]
            rw [hf1] at e109
            cases hP : P (8 * w + v) with
            | true =>
              rw [hP] at e109
              rw [if_pos (by decide)]
              exact e109
            | false =>
              rw [hP] at e109
              rw [if_neg (fun q => q (by decide))]
              exact e109
        · obtain ⟨h1, h2⟩ := t7 h
          rw [hf1, Bool.or_eq_false_iff] at h1
          have hP : P (8 * w + v) = true := by
            have := h1.2
            cases hP : P (8 * w + v) with
            | true => rfl
            | false => rw [hP] at this; cases this
          exact ⟨h1.1, by rw [h2, q_pt_of hP]⟩
        · rcases t8 h with h1 | h1
          · rw [hf1, Bool.or_eq_true] at h1
            rcases h1 with h1 | h1
            · exact Or.inl h1
            · have hP : P (8 * w + v) = false := by
                cases hP : P (8 * w + v) with
                | false => rfl
                | true => rw [hP] at h1; cases h1
              have c1 := q_pt_ct (x := 8 * w + v) (by omega) hP
              have c2 := q_le_ct t5
              exact Or.inr (by omega)
          · have c2 := q_le_ct (q_pt_le (E := P) (e := 8 * w + v))
            exact Or.inr (by omega)
        · by_cases hk2 : k' = k
          · rw [hk2]
            exact s2.mono t5 t6
          · exact t9 k' (by omega) k2
/-- once over all pairs, from one on -/
theorem q_mPass (ho : q_ok a) (hm : m < a 0) (hn : ¬ a (7 + m) = 0) (hal : q_al a m 0 0 = true) : ∀ n x f P E I, x + n = 64 → (∀ j, j < 549 → I 123 j = q_v (a j)) → q_md I P E → q_sd a m P E E0 → ∃ I' P' E' f', zl_M_findPairs_59 (nI m) (q_b f) (nI x) (I, L, d) = zl_M_findPairs_51 (nI m) (q_b f') (I', L, d) ∧ q_frE I I' ∧ q_md I' P' E' ∧ q_sd a m P' E' E0 ∧ q_le P P' ∧ q_le E E' ∧ (f' = false → f = false ∧ P' = P) ∧ (f' = true → f = true ∨ fb_ct P 64 < fb_ct P' 64) ∧ (f' = false → ∀ y, x ≤ y → y < 64 → P y = true → ∀ k, k < a (q_at 0 m (y / 8) + 2) → q_dn a m P' E' (y / 8) (y % 8) k) := by
  intro n
  induction n with
  | zero =>
    intro x f P E I hx hst hd hs
    obtain rfl : x = 64 := by omega
    exact ⟨I, P, E, f, by rw [e_M_findPairs_59, if_pos (by decide)], q_frE.refl, hd, hs, q_le.refl, q_le.refl, fun h => ⟨h, rfl⟩, fun h => Or.inl h, fun _ y y1 y2 => absurd y2 (by omega)⟩
  | succ n ih =>
    intro x f P E I hx hst hd hs
    have d1 : nI x / 8 = nI (x / 8) := pk_div (d := 8) (by omega) (by decide) (by decide)
    have d2 : nI x - nI x / 8 * 8 = nI (x % 8) := pk_rem (d := 8) (by omega) (by decide) (by decide)
    have e90 : ∀ f I, zl_M_findPairs_90 (nI m) (q_b f) (nI x) (I, L, d) = zl_M_findPairs_59 (nI m) (q_b f) (nI (x + 1)) (I, L, d) := fun f I => by
      rw [e_M_findPairs_90, nI_1]
      cases f <;> rfl
    have e1 : zl_M_findPairs_59 (nI m) (q_b f) (nI x) (I, L, d) = (if q_b (P x) = 0 then zl_M_findPairs_90 (nI m) (q_b f) (nI x) (I, L, d) else z_bd (z_M 170 [.ref 122, .int (nI m), .int (nI (x / 8)), .int (nI (x % 8))] (I, L, d)) (fun r1 h2 => (if ¬ r1 = 0 then zl_M_findPairs_59 (nI m) 1 (nI x + 1) h2 else zl_M_findPairs_90 (nI m) (q_b f) (nI x) h2))) := by
      rw [e_M_findPairs_59, n_64, if_neg (nI_ge (by omega) (by decide)), q_inC (show x < 64 by omega) (by decide), nI_clamp (by omega), d2, d1]
      show (if I 132 x = 0 then _ else _) = _
      rw [hd.1 x (by omega)]
    rw [e1]
    cases hP : P x with
    | false =>
      rw [if_pos (by decide), e90]
      obtain ⟨I', P', E', f', t1, t2, t3, t4, t5, t6, t7, t8, t9⟩ := ih (x + 1) f P E I (by omega) hst hd hs
      refine ⟨I', P', E', f', t1, t2, t3, t4, t5, t6, t7, t8, fun h y y1 y2 hy => ?_⟩
      by_cases hyx : y = x
      · rw [hyx, hP] at hy
        cases hy
      · exact t9 h y (by omega) y2 hy
    | true =>
      have hp := hs.1 x (by omega) hP
      obtain ⟨I1, P1, E1, f1, u1, u2, u3, u4, u5, u6, u7, u8, u9⟩ := q_mPairs (L := L) (d := d) (E0 := E0) ho hm hn hal hp (a (q_at 0 m (x / 8) + 2)) 0 false P E I (by omega) hst hd hs
      obtain ⟨I', P', E', f', t1, t2, t3, t4, t5, t6, t7, t8, t9⟩ := ih (x + 1) (f || f1) P1 E1 I1 (by omega) (u2.st hst) u3 u4
      refine ⟨I', P', E', f', ?_, u2.trans t2, t3, t4, u5.trans t5, u6.trans t6, fun h => ?_, fun h => ?_, fun h y y1 y2 hy => ?_⟩
      · rw [if_neg (by decide), e_M_pairsOn, show zl_M_pairsOn_6 (nI m) (nI (x / 8)) (nI (x % 8)) 0 0 (I, L, d) = _ from u1, z_bd_some, nI_1]
        cases hf1 : f1 with
        | true =>
          rw [hf1, Bool.or_true] at t1
          rw [if_pos (by decide)]
          exact t1
        | false =>
          rw [hf1, Bool.or_false] at t1
          rw [if_neg (fun q => q (by decide)), e90]
          exact t1
      · obtain ⟨h1, h2⟩ := t7 h
        rw [Bool.or_eq_false_iff] at h1
        exact ⟨h1.1, by rw [h2, (u7 h1.2).2]⟩
      · rcases t8 h with h1 | h1
        · rw [Bool.or_eq_true] at h1
          rcases h1 with h1 | h1
          · exact Or.inl h1
          · rcases u8 h1 with h3 | h3
            · cases h3
            · have := q_le_ct t5
              exact Or.inr (by omega)
        · have := q_le_ct u5
          exact Or.inr (by omega)
      · obtain ⟨h1, h2⟩ := t7 h
        rw [Bool.or_eq_false_iff] at h1
        have hP1 := (u7 h1.2).2
        by_cases hyx : y = x
        · rw [hyx]
          intro k hk
          exact (u9 k (Nat.zero_le _) hk).mono t5 t6
        · exact t9 h y (by omega) y2 (by rw [hP1]; exact hy)
/-- over and over, till no pair comes -/
theorem q_mPasses (ho : q_ok a) (hm : m < a 0) (hn : ¬ a (7 + m) = 0) (hal : q_al a m 0 0 = true) : ∀ n P E I, 64 - fb_ct P 64 ≤ n → (∀ j, j < 549 → I 123 j = q_v (a j)) → q_md I P E → q_sd a m P E E0 → ∃ I' P' E', zl_M_findPairs_51 (nI m) 1 (I, L, d) = some (0, (I', L, d)) ∧ q_frE I I' ∧ q_md I' P' E' ∧ q_sd a m P' E' E0 ∧ q_le P P' ∧ ∀ y, y < 64 → P' y = true → ∀ k, k < a (q_at 0 m (y / 8) + 2) → q_dn a m P' E' (y / 8) (y % 8) k := by
  intro n
  induction n with
  | zero =>
    intro P E I hc hst hd hs
    obtain ⟨I', P', E', f', t1, t2, t3, t4, t5, t6, t7, t8, t9⟩ := q_mPass (L := L) (d := d) (E0 := E0) ho hm hn hal 64 0 false P E I rfl hst hd hs
    have hf : f' = false := by
      cases hf : f' with
      | false => rfl
      | true =>
        rcases t8 hf with h | h
        · cases h
        · have := fb_ct_le P' 64
          omega
    refine ⟨I', P', E', ?_, t2, t3, t4, t5, fun y y2 hy => t9 hf y (Nat.zero_le _) y2 (by rw [← (t7 hf).2]; exact hy)⟩
    rw [e_M_findPairs_51, if_neg (by decide), show zl_M_findPairs_59 (nI m) 0 0 (I, L, d) = _ from t1, hf, e_M_findPairs_51, if_pos (by decide)]
  | succ n ih =>
    intro P E I hc hst hd hs
    obtain ⟨I1, P1, E1, f1, t1, t2, t3, t4, t5, t6, t7, t8, t9⟩ := q_mPass (L := L) (d := d) (E0 := E0) ho hm hn hal 64 0 false P E I rfl hst hd hs
    have e0 : zl_M_findPairs_51 (nI m) 1 (I, L, d) = zl_M_findPairs_51 (nI m) (q_b f1) (I1, L, d) := by
      rw [e_M_findPairs_51, if_neg (by decide)]
      exact t1
    rw [e0]
    cases hf : f1 with
    | false =>
      refine ⟨I1, P1, E1, ?_, t2, t3, t4, t5, fun y y2 hy => t9 hf y (Nat.zero_le _) y2 (by rw [← (t7 hf).2]; exact hy)⟩
      rw [e_M_findPairs_51, if_pos (by decide)]
    | true =>
      have hlt : fb_ct P 64 < fb_ct P1 64 := (t8 hf).resolve_left (by decide)
      obtain ⟨I', P', E', u1, u2, u3, u4, u5, u6⟩ := ih P1 E1 I1 (by omega) (t2.st hst) t3 t4
      exact ⟨I', P', E', u1, t2.trans u2, u3, u4, t5.trans u5, u6⟩
end QMD
