/-! THE PURE PART: order, edge, test -/
theorem q_v_lt {x : Int32} (hx : x < 0) (n : Nat) (hn : n < 2 ^ 31) : x < nI n := Int32.lt_iff_toInt_lt.mpr (by
  have := Int32.lt_iff_toInt_lt.mp hx
  have h0 : (0 : Int32).toInt = 0 := rfl
  rw [nI_toInt hn]
  omega)
theorem q_op11 : z_opok q_inv 11 196 2 := by
  rintro ⟨I, L, d⟩ hi as has
  obtain ⟨x, y, rfl⟩ := q_as2 has
  obtain ⟨⟨a, ha⟩, -⟩ := id hi
  have ha : q_now I a := q_raw ha
  have o2 := ha.1.2.2.1
  show ∃ r h1 h2, z_M 11 [.ref 0, .int x, .int y] (I, L, d) = some (r, h1) ∧ z_M 196 [.ref 122, .int x, .int y] h1 = some (r, h2) ∧ q_inv h2
  rw [e_X_order]
  rcases q_cases x with hx | ⟨i, hi', rfl⟩
  · exact ⟨-1, (I, L, d), (I, L, d), by rw [if_pos hx], by rw [e_M_order, if_pos hx], hi⟩
  · rw [if_neg (nI_pos hi'), q_leP]
    cases hy : z_in y 2 with
    | false => exact ⟨-1, (I, L, d), (I, L, d), rfl, by rw [e_M_order, if_neg (nI_pos hi'), q_isPart, z_bd_some, hy, if_neg (fun q => q (by decide))], hi⟩
    | true =>
      obtain ⟨p, hp, rfl⟩ := q_inP hy
      obtain ⟨I1, L1, d1, k1, k2, k3⟩ := q_cChoose (L := L) (d := d) ha
      have ha1 := k2.now ha
      obtain ⟨J, mt, m1, m2, m3⟩ := q_mOrder (L := L1) (d := d1) ha1.1 ha1.2.1
      have hs := q_or_ok ha.1
      have hle := q_oi_le hs
      have em : z_M 196 [.ref 122, .int (nI i), .int (nI p)] (I1, L1, d1) = (if nI i < nI (q_or a).1 then (if ¬ nI p = 0 then (bif z_in (nI i) 8 then some (J 136 i, (J, L1, d1)) else none) else (bif z_in (nI i) 8 then some (J 135 i, (J, L1, d1)) else none)) else some ((-4), (J, L1, d1))) := by
        rw [e_M_order, if_neg (nI_pos hi'), q_isPart, z_bd_some, hy, if_pos (by decide), m1, z_bd_some]
        show (if nI i < J 122 28 then (if ¬ nI p = 0 then (bif z_in (nI i) 8 then some (J 136 ((nI i).toNatClampNeg), (J, L1, d1)) else none) else (bif z_in (nI i) 8 then some (J 135 ((nI i).toNatClampNeg), (J, L1, d1)) else none)) else some ((-4), (J, L1, d1))) = _
        rw [m3.1, nI_clamp hi']
      have ec : (bif true then z_bd (z_M 114 [.ref 45] (I, L, d)) (fun r1 h2 => (if nI i < h2.1 45 0 then (if ¬ nI p = 0 then (bif z_in (nI i) 8 then some (h2.1 47 ((nI i).toNatClampNeg), h2) else none) else (bif z_in (nI i) 8 then some (h2.1 46 ((nI i).toNatClampNeg), h2) else none)) else some ((-4), h2))) else some ((-1), (I, L, d))) = (if nI i < nI (q_or a).1 then (if ¬ nI p = 0 then (bif z_in (nI i) 8 then some (I1 47 i, (I1, L1, d1)) else none) else (bif z_in (nI i) 8 then some (I1 46 i, (I1, L1, d1)) else none)) else some ((-4), (I1, L1, d1))) := by
        rw [cond_true, k1, z_bd_some]
        show (if nI i < I1 45 0 then (if ¬ nI p = 0 then (bif z_in (nI i) 8 then some (I1 47 ((nI i).toNatClampNeg), (I1, L1, d1)) else none) else (bif z_in (nI i) 8 then some (I1 46 ((nI i).toNatClampNeg), (I1, L1, d1)) else none)) else some ((-4), (I1, L1, d1))) = _
        rw [k3.1, nI_clamp hi']
      have hinv := hi.scr (h1 := (I1, L1, d1)) k2.K (m2.R (L := L1) (L' := L1) (d := d1) (d' := d1))
      rw [ec]
      by_cases hik : i < (q_or a).1
      · obtain ⟨c1, c2⟩ := k3.2.1 i hik
        obtain ⟨c3, c4⟩ := m3.2.1 i hik
        rw [if_pos (nI_lt hik (by omega)), q_int (show i < 8 by omega) (by decide)] at em ⊢
        simp only [cond_true] at em ⊢
        by_cases hp0 : nI p = 0
        · rw [if_neg (fun q => q hp0)] at em ⊢
          exact ⟨_, _, _, by rw [c1], by rw [em, c3], hinv⟩
        · rw [if_pos hp0] at em ⊢
          exact ⟨_, _, _, by rw [c2], by rw [em, c4], hinv⟩
      · rw [if_neg (nI_nlt (by omega) hi')] at em ⊢
        exact ⟨-4, _, _, rfl, em, hinv⟩
section QAT
variable {a : Nat → Nat}
theorem q_cOver {I : Nat → Nat → Int32} {L : Nat → Nat → Int64} {d e : Nat} (ha : q_now I a) (hc : q_cc a L (a 2)) (he : e < 216) : z_M 117 [.ref 45, .int (nI e)] (I, L, d) = some (nI (fb_ct (fun t => q_cv a t e) (a 2)), (I, L, d)) := by
  have o2 := ha.1.2.2.1
  have hl : ∀ n t, t + n = a 2 → zl_Ch_testsOver_4 (nI e) (nI (fb_ct (fun t => q_cv a t e) t)) (nI t) (I, L, d) = some (nI (fb_ct (fun t => q_cv a t e) (a 2)), (I, L, d)) := by
    intro n
    induction n with
    | zero =>
      intro t ht
      obtain rfl : t = a 2 := by omega
      rw [e_Ch_testsOver_4]
      show (if I 33 0 ≤ nI (a 2) then _ else _) = _
      rw [show I 33 0 = nI (a 2) from ha.2.2.2.2.1, if_pos (nI_le (Nat.le_refl _) (by omega))]
    | succ n ih =>
      intro t ht
      have := ih (t + 1) (by omega)
      rw [fb_ct_succ] at this
      rw [e_Ch_testsOver_4]
      show (if I 33 0 ≤ nI t then _ else _) = _
      rw [show I 33 0 = nI (a 2) from ha.2.2.2.2.1, if_neg (nI_ge (by omega) (by omega)), q_inC (show t < 8 by omega) (by decide), nI_clamp (by omega), q_es_holds (o := 54 + 2 * t) (h := (I, L, d)) (q_cvI t (by omega)).2.2.2.2.2.2 (hc.2 t (by omega)) he, z_bd_some, q_bI, nI_add, nI_1]
      exact this
  rw [e_Ch_testsOver]
  exact hl (a 2) 0 (by omega)
theorem q_mOvr {L : Nat → Nat → Int64} {d e : Nat} (ho : q_ok a) (he : e < 216) : ∀ n t I, t + n = a 2 → (∀ j, j < 549 → I 123 j = q_v (a j)) → ∃ J, zl_M_testsOver_4 (nI e) (nI (fb_ct (fun t => q_cv a t e) t)) (nI t) (I, L, d) = some (nI (fb_ct (fun t => q_cv a t e) (a 2)), (J, L, d)) ∧ q_frM 0 I J := by
  have o2 := ho.2.2.1
  intro n
  induction n with
  | zero =>
    intro t I ht hst
    obtain rfl : t = a 2 := by omega
    refine ⟨I, ?_, q_frM.refl⟩
    rw [e_M_testsOver_4]
    show (if I 123 2 ≤ nI (a 2) then _ else _) = _
    rw [hst 2 (by omega), q_vn (by omega), if_pos (nI_le (Nat.le_refl _) (by omega))]
  | succ n ih =>
    intro t I ht hst
    obtain ⟨J1, k1, k2, k3⟩ := q_mRunT (L := L) (d := d) (p := 0) ho hst (by decide) (show t < a 2 by omega)
    obtain ⟨J, j1, j2⟩ := ih (t + 1) J1 (by omega) (k3.st hst)
    refine ⟨J, ?_, k3.trans j2⟩
    rw [fb_ct_succ] at j1
    rw [e_M_testsOver_4]
    show (if I 123 2 ≤ nI t then _ else _) = _
    rw [hst 2 (by omega), q_vn (by omega), if_neg (nI_ge (by omega) (by omega)), show z_M 168 [.ref 122, .int 0, .int (nI t)] (I, L, d) = _ from k1, z_bd_some, q_inC he (by decide), nI_clamp (by omega)]
    show z_bd (z_M 128 [.int (J1 130 e)] (J1, L, d)) _ = _
    rw [show J1 130 e = q_b (q_cv a t e) from k2.2.2.2 e he, q_flag, z_bd_some, q_bI, nI_add, nI_1]
    exact j1
end QAT
theorem q_op9 : z_opok q_inv 9 194 2 := by
  rintro ⟨I, L, d⟩ hi as has
  obtain ⟨x, y, rfl⟩ := q_as2 has
  obtain ⟨⟨a, ha⟩, -⟩ := id hi
  have ha : q_now I a := q_raw ha
  have o2 := ha.1.2.2.1
  show ∃ r h1 h2, z_M 9 [.ref 0, .int x, .int y] (I, L, d) = some (r, h1) ∧ z_M 194 [.ref 122, .int x, .int y] h1 = some (r, h2) ∧ q_inv h2
  rw [e_X_edge]
  rcases q_cases x with hx | ⟨e, he, rfl⟩
  · exact ⟨-1, (I, L, d), (I, L, d), by rw [q_cEdgeN hx, z_bd_some, if_pos rfl], by rw [e_M_edge, q_mEdgeN hx, z_bd_some, if_pos rfl], hi⟩
  · rw [q_cEdge (h := (I, L, d)) ha.1 ha.2.2.1 he, z_bd_some]
    cases heB : q_eB a e with
    | false => exact ⟨-1, (I, L, d), (I, L, d), by rw [if_pos (by decide)], by rw [e_M_edge, q_mEdge ha.1 ha.2.1 he, heB, z_bd_some, if_pos (by decide)], hi⟩
    | true =>
      have h216 := q_eB_lt ha.1 he heB
      rw [if_neg (by decide), q_leP]
      cases hy : z_in y 2 with
      | false => exact ⟨-1, (I, L, d), (I, L, d), rfl, by rw [e_M_edge, q_mEdge ha.1 ha.2.1 he, heB, z_bd_some, if_neg (by decide), q_isPart, z_bd_some, hy, if_neg (fun q => q (by decide))], hi⟩
      | true =>
        obtain ⟨p, hp, rfl⟩ := q_inP hy
        obtain ⟨I1, L1, d1, k1, k2, k3⟩ := q_cChoose (L := L) (d := d) ha
        have ha1 := k2.now ha
        have hcc := k3.2.2.2.2
        rw [cond_true, k1, z_bd_some]
        have em : z_M 194 [.ref 122, .int (nI e), .int (nI p)] (I1, L1, d1) = (if ¬ nI p = 1 then z_bd (z_M 172 [.ref 122] (I1, L1, d1)) (fun r5 h6 => (bif z_in (nI e) 216 then z_bd (z_M 128 [.int (h6.1 131 ((nI e).toNatClampNeg))] h6) (fun r7 h8 => some (r7, h8)) else none)) else z_bd (z_M 193 [.ref 122, .int (nI e)] (I1, L1, d1)) (fun r9 h10 => some (r9, h10))) := by
          rw [e_M_edge, q_mEdge ha1.1 ha1.2.1 he, heB, z_bd_some, if_neg (by decide), q_isPart, z_bd_some, hy, if_pos (by decide)]
        rcases (show p = 0 ∨ p = 1 by omega) with rfl | rfl
        · obtain ⟨J, m1, m2, m3⟩ := q_mDanger (L := L1) (d := d1) ha1.1 ha1.2.1
          refine ⟨q_b (q_dg a e), (I1, L1, d1), (J, L1, d1), ?_, ?_, hi.scr (h1 := (I1, L1, d1)) k2.K m2.R⟩
          · rw [if_neg (show ¬ ¬ nI 0 = 0 from fun q => q rfl), q_es_holds (o := 41) (h := (I1, L1, d1)) (by decide) hcc.1 h216, z_bd_some]
          · rw [em, if_pos (by decide), m1, z_bd_some, q_inC h216 (by decide), nI_clamp (by omega)]
            show z_bd (z_M 128 [.int (J 131 e)] (J, L1, d1)) _ = _
            rw [m3 e h216, q_flag, z_bd_some]
        · obtain ⟨J, m1, m2⟩ := q_mOvr (L := L1) (d := d1) ha1.1 h216 (a 2) 0 I1 (by omega) ha1.2.1
          refine ⟨nI (fb_ct (fun t => q_cv a t e) (a 2)), (I1, L1, d1), (J, L1, d1), ?_, ?_, hi.scr (h1 := (I1, L1, d1)) k2.K m2.R⟩
          · rw [if_pos (by decide), q_cOver ha1 hcc h216, z_bd_some]
          · rw [em, if_neg (show ¬ ¬ nI 1 = 1 from fun q => q rfl), e_M_testsOver, show zl_M_testsOver_4 (nI e) 0 0 (I1, L1, d1) = _ from m1, z_bd_some]
section QAR
variable {a : Nat → Nat} {L : Nat → Nat → Int64} {d : Nat}
theorem q_mRankOf {J : Nat → Nat → Int32} {s : q_O} {mt : Nat → Bool} {t : Nat} (ho : q_ok a) (hs : q_oi a s) (hr : q_mq a J s mt) (ht : t < a 2) : z_M 177 [.ref 122, .int (nI t)] (J, L, d) = some (q_v (s.2.2.2.1 t), (J, L, d)) := by
  have o2 := ho.2.2.1
  have hle := q_oi_le hs
  have hl : ∀ n i, i + n = s.1 → (∀ j, j < i → s.2.1 j ≠ t) → zl_M_rankOf_2 (nI t) (nI i) (J, L, d) = some (q_v (s.2.2.2.1 t), (J, L, d)) := by
    intro n
    induction n with
    | zero =>
      intro i hi hj
      obtain rfl : i = s.1 := by omega
      have h9 : s.2.2.2.1 t = 999 := by
        rcases hs.2.2.1 t with g | ⟨g1, g2⟩
        · exact g
        · exact absurd g2 (hj _ g1)
      rw [e_M_rankOf_2]
      show (if J 122 28 ≤ nI s.1 then _ else _) = _
      rw [hr.1, if_pos (nI_le (Nat.le_refl _) (by omega)), h9]
      rfl
    | succ n ih =>
      intro i hi hj
      obtain ⟨c1, c2, -⟩ := hs.2.1 i (by omega)
      have j135 := (hr.2.1 i (by omega)).1
      rw [e_M_rankOf_2]
      show (if J 122 28 ≤ nI i then _ else (bif z_in (nI i) 8 then (if ¬ J 135 ((nI i).toNatClampNeg) = nI t then _ else _) else none)) = _
      rw [hr.1, if_neg (nI_ge (by omega) (by omega)), q_inC (show i < 8 by omega) (by decide), nI_clamp (by omega), j135, nI_1]
      by_cases hit : s.2.1 i = t
      · rw [hit] at c2
        rw [hit, if_neg (fun q => q rfl), c2, q_vn (by omega)]
      · rw [if_pos (show ¬ nI (s.2.1 i) = nI t from fun q => hit ((nI_eq (by omega) (by omega)).mp q))]
        exact ih (i + 1) (by omega) (fun j hj2 => by
          by_cases hji : j = i
          · rw [hji]; exact hit
          · exact hj j (by omega))
  rw [e_M_rankOf]
  exact hl s.1 0 (by omega) (fun j hj => absurd hj (Nat.not_lt_zero j))
theorem q_mCovMany {J : Nat → Nat → Int32} {E : Nat → Bool} (h : ∀ e, e < 216 → J 130 e = q_b (E e)) : z_M 186 [.ref 122] (J, L, d) = some (nI (fb_ct E 216), (J, L, d)) := by
  have hl : ∀ n e, e + n = 216 → zl_M_coveredMany_4 (nI (fb_ct E e)) (nI e) (J, L, d) = some (nI (fb_ct E 216), (J, L, d)) := by
    intro n
    induction n with
    | zero =>
      intro e he
      obtain rfl : e = 216 := by omega
      rw [e_M_coveredMany_4, if_pos (by decide)]
    | succ n ih =>
      intro e he
      have := ih (e + 1) (by omega)
      rw [fb_ct_succ] at this
      rw [e_M_coveredMany_4, n_216, if_neg (nI_ge (by omega) (by decide)), q_inC (show e < 216 by omega) (by decide), nI_clamp (by omega)]
      show z_bd (z_M 128 [.int (J 130 e)] (J, L, d)) _ = _
      rw [h e (by omega), q_flag, z_bd_some, q_bI, nI_add, nI_1]
      exact this
  rw [e_M_coveredMany]
  exact hl 216 0 rfl
theorem q_mDanBy {I : Nat → Nat → Int32} {t : Nat} (ho : q_ok a) (hst : ∀ j, j < 549 → I 123 j = q_v (a j)) (ht : t < a 2) : ∃ J, z_M 189 [.ref 122, .int (nI t)] (I, L, d) = some (nI (q_da a t), (J, L, d)) ∧ q_frQ I J := by
  obtain ⟨I1, k1, k2, k3⟩ := q_mDanger (L := L) (d := d) ho hst
  obtain ⟨J, j1, j2, j3⟩ := q_mRunT (L := L) (d := d) (p := 0) ho (k2.st hst) (by decide) ht
  have r4 : ∀ e, e < 216 → J 131 e = q_b (q_dg a e) := fun e he => (j3.1 131 e (by decide) (by decide) (by decide) (by decide)).trans (k3 e he)
  obtain ⟨G, hG⟩ : ∃ G : Nat → Bool, G = fun e => q_cv a t e && q_dg a e := ⟨_, rfl⟩
  have hl : ∀ n e, e + n = 216 → zl_M_dangersOf_11 0 (nI (fb_ct G e)) (nI e) (J, L, d) = some (nI (fb_ct G 216), (J, L, d)) := by
    intro n
    induction n with
    | zero =>
      intro e he
      obtain rfl : e = 216 := by omega
      rw [e_M_dangersOf_11, if_pos (by decide)]
    | succ n ih =>
      intro e he
      have hn := ih (e + 1) (by omega)
      rw [fb_ct_succ] at hn
      have ei : z_in (nI e) 216 = true := q_int (by omega) (by decide)
      have j130 : J 130 e = q_b (q_cv a t e) := j2.2.2.2 e (by omega)
      have f0 : ∀ h, z_M 128 [.int 0] h = some (nI 0, h) := fun h => q_flag false h
      have f1 : ∀ h, z_M 128 [.int 1] h = some (nI 1, h) := fun h => q_flag true h
      have e1 : zl_M_dangersOf_11 0 (nI (fb_ct G e)) (nI e) (J, L, d) = (if q_b (q_cv a t e) = 0 then zl_M_dangersOf_11 0 (nI (fb_ct G e + 0)) (nI (e + 1)) (J, L, d) else (if q_b (q_dg a e) = 0 then zl_M_dangersOf_11 0 (nI (fb_ct G e + 0)) (nI (e + 1)) (J, L, d) else zl_M_dangersOf_11 0 (nI (fb_ct G e + 1)) (nI (e + 1)) (J, L, d))) := by
        rw [e_M_dangersOf_11, n_216, if_neg (nI_ge (by omega) (by decide)), ei, nI_clamp (by omega), f0, f1, nI_1]
        simp only [cond_true, z_bd_some, nI_add, if_true]
        show (if J 130 e = 0 then _ else (if J 131 e = 0 then _ else _)) = _
        rw [j130, r4 e (by omega)]
      rw [e1]
      have hGe : G e = (q_cv a t e && q_dg a e) := by rw [hG]
      rw [hGe] at hn
      cases hc : q_cv a t e with
      | false =>
        rw [hc] at hn
        rw [if_pos (by decide)]
        exact hn
      | true =>
        rw [hc] at hn
        rw [if_neg (by decide)]
        cases hd : q_dg a e with
        | false =>
          rw [hd] at hn
          rw [if_pos (by decide)]
          exact hn
        | true =>
          rw [hd] at hn
          rw [if_neg (by decide)]
          exact hn
  refine ⟨J, ?_, k2.Q.trans j3.Q⟩
  have h0 := hl 216 0 rfl
  rw [hG] at h0
  rw [e_M_dangersBy, k1, z_bd_some, e_M_dangersOf, show z_M 168 [.ref 122, .int 0, .int (nI t)] (I1, L, d) = _ from j1, z_bd_some]
  show z_bd (zl_M_dangersOf_11 0 0 0 (J, L, d)) _ = _
  rw [show zl_M_dangersOf_11 0 0 0 (J, L, d) = _ from h0, z_bd_some]
  rfl
end QAR
