/-! THE PURE PART: read, by both sides -/
theorem q_mCopy140 (k l : Nat) (f n : Int32) (h : z_H) : ∃ h1, zl_M_read_26 (nI k) (nI l) f n 0 h = zl_M_read_63 (nI k) (nI l) f n 0 0 0 h1 ∧ (∀ j, j < 549 → h1.1 140 j = h.1 123 j) ∧ ∀ o j, o ≠ 140 → h1.1 o j = h.1 o j := by
  refine ⟨q_it (fun i h => z_wI h 140 (0 + i) (h.1 123 (0 + i))) 0 549 h, ?_, fun j hj => ?_, fun o j q => ?_⟩
  · refine q_loop (L := fun x h => zl_M_read_26 (nI k) (nI l) f n x h) (K := fun h => zl_M_read_63 (nI k) (nI l) f n 0 0 0 h) (N := 549) (fun j h hj => ?_) (fun h => ?_) 549 0 _ rfl
    · show zl_M_read_26 (nI k) (nI l) f n (nI j) h = _
      rw [e_M_read_26, n_549, if_neg (nI_ge hj (by decide)), q_inC hj (by decide), q_inC hj (by decide), nI_clamp (by omega), Nat.zero_add]
    · show zl_M_read_26 (nI k) (nI l) f n (nI 549) h = _
      rw [e_M_read_26, if_pos (by decide)]
  · have := (q_copy (o := 140) (c := 0) (o2 := 123) (d := 0) (N := 549) (fun i j _ _ => by omega) 549 0 h (by omega)).1 140 j
    rw [this, if_pos (by omega), Nat.sub_zero, Nat.zero_add]
  · have := (q_copy (o := 140) (c := 0) (o2 := 123) (d := 0) (N := 549) (fun i j _ _ => by omega) 549 0 h (by omega)).1 o j
    rw [this, if_neg (by omega)]
theorem q_op26 : z_opok q_inv 26 214 4 := by
  intro h hi as has
  obtain ⟨x, y, f, z, rfl⟩ := q_as4 has
  obtain ⟨⟨a, ha⟩, -, hg, -⟩ := id hi
  have ha := q_raw ha
  have hg := q_rawS hg
  obtain ⟨ho, hst, hp0, hp1, ht⟩ := id ha
  show ∃ r h1 h2, z_M 26 [.ref 0, .int x, .int y, .int f, .int z] h = some (r, h1) ∧ z_M 214 [.ref 122, .int x, .int y, .int f, .int z] h1 = some (r, h2) ∧ q_inv h2
  have em : ∀ h1, z_M 214 [.ref 122, .int x, .int y, .int f, .int z] h1 = (if q_b (z_in x 4 && z_in y 3) = 0 then some ((-1), h1) else (if ¬ q_b (z_in z 11) = 0 then zl_M_read_26 x y f z 0 h1 else some ((-1), h1))) := fun h1 => by
    rw [e_M_read, q_mSheet, z_bd_some, q_wl10, z_bd_some]
  rw [e_X_read, q_cSheet, z_bd_some]
  cases hx : z_in x 4 with
  | false => exact ⟨-1, h, h, by rw [if_pos (by decide)], by rw [em, hx, Bool.false_and, if_pos (by decide)], hi⟩
  | true =>
  rw [if_neg (by decide), q_cLane, z_bd_some]
  cases hy : z_in y 3 with
  | false => exact ⟨-1, h, h, by rw [if_pos (by decide)], by rw [em, hx, hy, if_pos (by decide)], hi⟩
  | true =>
  rw [hx, hy] at em
  rw [if_neg (by decide)]
  obtain ⟨k, hk, rfl⟩ := q_inT (by decide) hx
  obtain ⟨l, hl, rfl⟩ := q_inT (by decide) hy
  have hk4 : k = 0 ∨ k = 1 ∨ k = 2 ∨ k = 3 := by omega
  have hin : 114 + 2 * k ∈ [114, 116, 118, 120] := by rcases hk4 with rfl | rfl | rfl | rfl <;> decide
  rcases q_cases z with hz | ⟨n, hn, rfl⟩
  · exact ⟨-1, h, h, by rw [if_pos hz], by rw [em, if_neg (by decide), q_in_neg hz, if_neg (fun q => q (by decide))], hi⟩
  rw [if_neg (nI_pos hn), n_10, cond_true, nI_clamp (show k < 2 ^ 31 by omega)]
  by_cases hn10 : n ≤ 10
  · rw [q_int (show n < 11 by omega) (by decide)] at em
    have em2 : ∀ h1, z_M 214 [.ref 122, .int (nI k), .int (nI l), .int f, .int (nI n)] h1 = zl_M_read_26 (nI k) (nI l) f (nI n) 0 h1 := fun h1 => by
      rw [em, if_neg (by decide), if_pos (by decide)]
    rw [if_pos (nI_le hn10 (by decide))]
    -- what comes of nothing read: a fault r
    have zero : ∀ r : Int32, (n = 0 → r = 0) → (¬ n = 0 → ¬ r = 0) → (∀ h1 : z_H, (∀ j, h1.1 137 j = h.1 137 j) → zl_M_read_63 (nI k) (nI l) f (nI n) 0 0 0 h1 = some (0, z_wI h1 122 33 r)) → ∃ r' h1 h2, zl_X_read_70 (nI k) f (nI n) r 0 h = some (r', h1) ∧ z_M 214 [.ref 122, .int (nI k), .int (nI l), .int f, .int (nI n)] h1 = some (r', h2) ∧ q_inv h2 := fun r r0 r1 hm => by
      have hrr : (if ¬ r = 0 then r else if n = 0 then 0 else 2) = r := by
        by_cases c : n = 0
        · rw [r0 c]; rw [if_neg (fun q => q rfl), if_pos c]
        · rw [if_pos (r1 c)]
      obtain ⟨h1, k1, k2, k3⟩ := q_mCopy140 k l f (nI n) (z_wI h 0 11 r)
      have fr : ∀ o j, o ≠ 140 → ¬ (o = 0 ∧ j = 11) → h1.1 o j = h.1 o j := fun o j q1 q2 => by
        rw [k3 o j q1, z_wI1, if_neg q2]
      refine ⟨0, z_wI h 0 11 r, z_wI h1 122 33 r, ?_, ?_, ?_⟩
      · rw [q_cRd0 hk hn10, hrr]
      · rw [em2, k1, hm h1 (fun j => fr _ _ (by decide) (by omega))]
      · refine hi.nowT (fun o j q1 q2 q3 q4 q5 => ?_) ⟨a, ha.congr fun o j q => ?_⟩ ?_
        · rw [z_wI1, if_neg q4, fr o j (fun q => by subst q; simp [q_core] at q5) q3]
        · rw [z_wI1, if_neg (by omega), fr o j (by omega) (by omega)]
        · rw [z_wI1, if_neg (by omega), k3 _ _ (by decide), z_wI1, if_pos ⟨rfl, rfl⟩, z_wI1, if_pos ⟨rfl, rfl⟩]
    by_cases n0 : n = 0
    · subst n0
      have e63 : ∀ h1 : z_H, zl_M_read_63 (nI k) (nI l) f (nI 0) 0 0 0 h1 = some (0, z_wI h1 122 33 0) := fun h1 => by rw [e_M_read_63, if_pos (by decide)]
      rw [if_neg (fun q => q rfl), e_X_read_47, if_pos rfl, q_int hk (by decide), nI_clamp (by omega), cond_true, show (nI 0 : Int32) = 0 from rfl, q_cWhole0 hin, z_bd_some]
      exact zero 0 (fun _ => rfl) (fun q => absurd rfl q) (fun h1 _ => e63 h1)
    · have nn0 : ¬ nI n = 0 := nI_ne0 (by omega) hn
      have e63 : ∀ h1 : z_H, zl_M_read_63 (nI k) (nI l) f (nI n) 0 0 0 h1 = zl_M_read_78 (nI k) (nI l) f (nI n) 0 0 0 0 h1 := fun h1 => by rw [e_M_read_63, if_neg (nI_nle (by omega) hn), if_neg (fun q => q rfl)]
      rw [if_pos nn0, e_Sh_faultAs hin]
      have e78 : ∀ h1 : z_H, ∀ r : Int32, ¬ r = 0 → ∀ x8, zl_M_read_78 (nI k) (nI l) f (nI n) r 0 0 x8 h1 = some (0, z_wI h1 122 33 r) := fun h1 r hr x8 => by
        rw [e_M_read_78]
        by_cases q : (4 : Int32) ≤ x8
        · rw [if_pos q, q_r165 hr]
        · rw [if_neg q, if_pos hr, q_r165 hr]
      rcases hg k hk with ⟨g0, g1⟩ | ⟨g0, l', s, l3, s40, g1, g2, g3, g4, g5⟩
      · rw [if_neg (fun q => q g0), z_bd_some, e_X_read_47, if_neg (by decide)]
        refine zero 1 (fun q => absurd q n0) (fun _ => by decide) (fun h1 e => ?_)
        rw [e63, e_M_read_78, if_neg (by decide), if_neg (fun q => q rfl), q_int hk (by decide), nI_clamp (by omega), cond_true, e, g1, if_neg (fun q => q rfl), e78 _ _ (by decide)]
      · have c0 : ¬ h.1 (114 + 2 * k) 0 = 0 := by rw [g0]; decide
        have c1 : ¬ nI l' = -4 := fun q => by
          have h1 : nI l' < 0 := by rw [q]; decide
          exact nI_pos (by omega) h1
        rw [if_pos c0, g2]
        by_cases hll : l' = l
        · subst hll
          rw [if_pos rfl, z_bd_some, e_X_read_47, if_pos rfl, q_int hk (by decide), nI_clamp (by omega), cond_true]
          obtain ⟨W, F, w1, w2, w3, w4⟩ := q_cWhole (f := f) (n := n) hin hn10 s40 g4
          rw [w1, z_bd_some]
          obtain ⟨C, hC⟩ : ∃ C : Nat → Int32, C = fun j => h.1 139 (40 * k + j) := ⟨_, rfl⟩
          have hC1 : ∀ j, j < 40 → h.1 (114 + 2 * k + 1) j = C j := fun j hj => by
            rw [hC, show 114 + 2 * k + 1 = 115 + 2 * k by omega]
            exact g5 j hj
          have hcf := q_cFirst (a := a) (x2 := f) (f := F) hin ho hp1 g4 s40 (show W ≤ 10 by omega) hC1 w3 W 0 (by omega)
          have e70 : zl_X_read_70 (nI k) f (nI n) 0 (nI W) h = (if nI W ≤ nI (q_fr (q_rdR a C F) W 0) then z_bd (z_M 36 [.ref 0, .ref (114 + 2 * k), .int f, .int (nI W)] h) (fun r3 h4 => (if nI n ≤ nI W then some (nI W, (z_wI h4 0 11 0)) else some (nI W, (z_wI h4 0 11 2)))) else some ((-20) - nI (q_fr (q_rdR a C F) W 0), h)) := by
            rw [e_X_read_70, q_int hk (by decide), nI_clamp (by omega), cond_true, e_X_firstRefused hin]
            rw [show zl_X_firstRefused_3 (114 + 2 * k) f (nI W) 0 h = _ from hcf, z_bd_some, cond_true]
            simp only [not_true_eq_false, if_false]
          have hfl := q_fr_le (R := q_rdR a C F) W 0
          rw [e70]
          by_cases hall : q_fr (q_rdR a C F) W 0 = W
          · have hR : ∀ j, j < W → q_rdR a C F j = true := fun j hj => ((q_fr_all (R := q_rdR a C F) W 0).mp (by omega)) j (by omega) (by omega)
            obtain ⟨h1, t1, t2, t3⟩ := q_cTurnAll (a := a) (x2 := f) (f := F) (C := C) hin ho s40 (show W ≤ 10 by omega) w3 hR W 0 h (by omega) hp1 g4 hC1
            obtain ⟨v, hv⟩ : ∃ v : Int32, v = if W < n then 2 else 0 := ⟨_, rfl⟩
            have fr1 : ∀ o j, o ≠ 30 → ¬ (o = 0 ∧ j = 11) → (z_wI h1 0 11 v).1 o j = h.1 o j := fun o j q1 q2 => by
              rw [z_wI1, if_neg q2, t3 o j q1]
            obtain ⟨h2, k1, k2, k3⟩ := q_mCopy140 k l' f (nI n) (z_wI h1 0 11 v)
            have fr2 : ∀ o j, o ≠ 140 → o ≠ 30 → ¬ (o = 0 ∧ j = 11) → h2.1 o j = h.1 o j := fun o j q0 q1 q2 => by
              rw [k3 o j q0, fr1 o j q1 q2]
            have hm := q_mRead (a := a) (C := C) (F := F) hk l3 s40 ho hn10 w2 w3 w4 W 0 h2 (by omega) (fun j hj => absurd hj (by omega)) ((fr2 _ _ (by decide) (by decide) (by omega)).trans g1) ((fr2 _ _ (by decide) (by decide) (by omega)).trans g3) (fun j hj => (fr2 _ _ (by decide) (by decide) (by omega)).trans (by rw [hC])) (fun j hj => (fr2 _ _ (by decide) (by decide) (by omega)).trans (hst j hj)) (fun j hj => (k2 j hj).trans ((fr1 _ _ (by decide) (by omega)).trans (hst j hj)))
            rcases hm with ⟨-, h3, m1, m2, m3, m4⟩ | ⟨m0, -⟩
            · obtain ⟨l1, l2, l3'⟩ := q_lds_ok (C := C) (f := F) ho W hR
              have fr3 : ∀ o j, o ≠ 123 → o ≠ 140 → o ≠ 30 → ¬ (o = 0 ∧ j = 11) → ¬ (o = 122 ∧ j = 33) → h3.1 o j = h.1 o j := fun o j q1 q2 q3 q4 q5 => by
                rw [m4 o j q1 q5, fr2 o j q2 q3 q4]
              refine ⟨nI W, z_wI h1 0 11 v, h3, ?_, ?_, ?_⟩
              · rw [hall, if_pos (nI_le (Nat.le_refl _) (by omega)), e_X_turnAll hin]
                rw [show zl_X_turnAll_3 (114 + 2 * k) f (nI W) 0 h = _ from t1, z_bd_some, hv]
                by_cases c : W < n
                · rw [if_pos c, if_neg (nI_ge c (by omega))]
                · rw [if_neg c, if_pos (nI_le (by omega) (by omega))]
              · rw [em2, k1]
                exact m1
              · refine hi.nowT (fun o j q1 q2 q3 q4 q5 => fr3 o j q1 (fun q => by subst q; simp [q_core] at q5) (by omega) q3 q4) ⟨q_lds a C F W, l1, m2, ?_, ?_, ?_⟩ ?_
                · exact (hp0.cgA ho (by decide) (fun j hj => l3' j (by omega))).congr (fun o j q1 q2 => fr3 o j (by omega) (by omega) (by omega) (by omega) (by omega))
                · refine t2.congr (fun o j q1 q2 => ?_)
                  rw [m4 o j (by omega) (by omega), k3 o j (by omega), z_wI1, if_neg (by omega)]
                · exact (ht.cgA (l3' 2 (by omega)) (fun j hj => l3' j (by omega))).congr (fun o j q1 q2 => fr3 o j (by omega) (by omega) (by omega) (by omega) (by omega))
                · rw [m3, m4 _ _ (by decide) (by omega), k3 _ _ (by decide), z_wI1, if_pos ⟨rfl, rfl⟩, hv]
            · omega
          · obtain ⟨h2, k1, k2, k3⟩ := q_mCopy140 k l' f (nI n) h
            have hm := q_mRead (a := a) (C := C) (F := F) hk l3 s40 ho hn10 w2 w3 w4 W 0 h2 (by omega) (fun j hj => absurd hj (by omega)) ((k3 _ _ (by decide)).trans g1) ((k3 _ _ (by decide)).trans g3) (fun j hj => (k3 _ _ (by decide)).trans (by rw [hC])) (fun j hj => (k3 _ _ (by decide)).trans (hst j hj)) (fun j hj => (k2 j hj).trans (hst j hj))
            rcases hm with ⟨m0, -⟩ | ⟨m0, h3, m1, m2, m3⟩
            · exact absurd m0 hall
            · refine ⟨(-20) - nI (q_fr (q_rdR a C F) W 0), h, h3, ?_, ?_, ?_⟩
              · rw [if_neg (nI_ge (by omega) (by omega))]
              · rw [em2, k1]
                exact m1
              · have fr3 : ∀ o j, o ≠ 123 → o ≠ 140 → h3.1 o j = h.1 o j := fun o j q1 q2 => by
                  rw [m3 o j q1, k3 o j q2]
                obtain ⟨-, -, -, -, -, hT⟩ := id hi
                rw [q_mc rfl, q_mc rfl] at hT
                refine hi.nowT (fun o j q1 q2 q3 q4 q5 => fr3 o j q1 (fun q => by subst q; simp [q_core] at q5)) ⟨a, ho, m2, hp0.congr (fun o j q1 q2 => fr3 o j (by omega) (by omega)), hp1.congr (fun o j q1 q2 => fr3 o j (by omega) (by omega)), ht.congr (fun o j q1 q2 => fr3 o j (by omega) (by omega))⟩ ?_
                rw [fr3 _ _ (by decide) (by decide), fr3 _ _ (by decide) (by decide)]
                exact hT
        · have hll2 : ¬ nI l' = nI l := fun q => hll ((nI_eq (by omega) (by omega)).mp q)
          rw [if_neg hll2, z_bd_some, e_X_read_47, if_neg (by decide)]
          refine zero 3 (fun q => absurd q n0) (fun _ => by decide) (fun h1 e => ?_)
          rw [e63, e_M_read_78, if_neg (by decide), if_neg (fun q => q rfl), q_int hk (by decide), nI_clamp (by omega), cond_true, e, g1, if_pos c1, cond_true, if_neg hll2, e78 _ _ (by decide)]
  · exact ⟨-1, h, h, by rw [if_neg (nI_ge (by omega) hn)], by rw [em, if_neg (by decide), q_in hn, decide_eq_false (by omega), if_neg (fun q => q (by decide))], hi⟩
