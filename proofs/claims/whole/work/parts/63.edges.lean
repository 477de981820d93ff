/-! THE PURE PART: which edges there are; covers -/
def q_eB (a : Nat → Nat) (e : Nat) : Bool := if e < 96 then q_hasN a 0 (nI (e / 16)) (nI (e / 2 % 8)) (nI (e % 2)) else if e < 200 then z_in (nI e - 100) (a 0) else z_in (nI ((e - 200) / 4)) (a 1)
theorem q_eB_lt {a : Nat → Nat} {e : Nat} (ho : q_ok a) (he : e < 2 ^ 31) (h : q_eB a e = true) : e < 216 := by
  have o0 := ho.1
  have o1 := ho.2.1
  unfold q_eB at h
  by_cases h1 : e < 96
  · omega
  · rw [if_neg h1] at h
    by_cases h2 : e < 200
    · omega
    · rw [if_neg h2, q_in (by omega)] at h
      have := of_decide_eq_true h
      omega
theorem q_cEdge {a : Nat → Nat} {h : z_H} (ho : q_ok a) (hg : q_prg h.1 17 0 a) {e : Nat} (he : e < 2 ^ 31) : z_M 74 [.ref 17, .int (nI e)] h = some (q_b (q_eB a e), h) := by
  have o1 := ho.2.1
  have e1 : nI e / 2 = nI (e / 2) := pk_div (d := 2) he (by decide) (by decide)
  have e2 : nI (e / 2) / 8 = nI (e / 2 / 8) := pk_div (d := 8) (by omega) (by decide) (by decide)
  have e3 : nI (e / 2) - nI (e / 2) / 8 * 8 = nI (e / 2 % 8) := pk_rem (d := 8) (by omega) (by decide) (by decide)
  have e4 : nI e - nI e / 2 * 2 = nI (e % 2) := pk_rem (d := 2) he (by decide) (by decide)
  rw [e_P_hasEdge (by decide), if_pos (nI_pos' he), e4, e1, e3, e2]
  unfold q_eB
  rw [n_96, n_200]
  by_cases h1 : e < 96
  · rw [if_neg (nI_ge h1 (by decide)), if_pos h1, q_hasNext (by decide) (by decide) ho hg, z_bd_some, q_b1, show e / 2 / 8 = e / 16 by omega]
  · rw [if_pos (nI_le (by omega) he), if_neg h1]
    by_cases h2 : e < 200
    · rw [if_neg (nI_ge h2 (by decide)), if_pos h2, q_hasMethod (by decide) (hg.sz ho), z_bd_some, q_b1]
    · rw [if_pos (nI_le (by omega) he), if_neg h2, q_sub (by omega), show nI (e - 200) / 4 = nI ((e - 200) / 4) from pk_div (d := 4) (by omega) (by decide) (by decide), q_hasClass (by decide) (hg.sz ho), z_bd_some, q_b1]
theorem q_cEdgeN {h : z_H} {x : Int32} (hx : x < 0) : z_M 74 [.ref 17, .int x] h = some (0, h) := by
  have : ¬ (0 : Int32) ≤ x := fun q => by
    have h1 := Int32.lt_iff_toInt_lt.mp hx
    have h2 := Int32.le_iff_toInt_le.mp q
    omega
  rw [e_P_hasEdge (by decide), if_neg this]
theorem q_wnI {e l u : Nat} (he : e < 2 ^ 31) (hl : l < 2 ^ 31) (hu : u < 2 ^ 31) (h : z_H) : z_M 127 [.long (nI e).toInt64, .long (nI l).toInt64, .long (nI u).toInt64] h = some (if l ≤ e ∧ e ≤ u then 1 else 0, h) := by
  rw [q_within, nI_toInt he, nI_toInt hl, nI_toInt hu]
  by_cases hh : l ≤ e ∧ e ≤ u
  · rw [if_pos hh, if_pos (by omega)]
  · rw [if_neg hh, if_neg (by omega)]
theorem q_mEdge {a : Nat → Nat} {h : z_H} (ho : q_ok a) (hst : ∀ j, j < 549 → h.1 123 j = q_v (a j)) {e : Nat} (he : e < 2 ^ 31) : z_M 192 [.ref 122, .int (nI e)] h = some (q_b (q_eB a e), h) := by
  have o0 := ho.1
  have o1 := ho.2.1
  have hs := q_srOf ho hst
  have w1 := q_wnI (l := 0) (u := 95) he (by decide) (by decide) h
  have w2 := q_wnI (l := 100) (u := 105) he (by decide) (by decide) h
  have w3 := q_wnI (l := 200) (u := 215) he (by decide) (by decide) h
  have e78 : zl_M_isEdge_78 (nI e) h = some (if 200 ≤ e ∧ e ≤ 215 then q_b (z_in (nI ((e - 200) / 4)) (a 1)) else 0, h) := by
    rw [e_M_isEdge_78, show z_M 127 [.long (nI e).toInt64, .long (200 : Int32).toInt64, .long (215 : Int32).toInt64] h = _ from w3, z_bd_some]
    by_cases hh : 200 ≤ e ∧ e ≤ 215
    · rw [if_pos hh, if_neg (by decide), if_pos hh, n_200, q_sub (by omega), show nI (e - 200) / 4 = nI ((e - 200) / 4) from pk_div (d := 4) (by omega) (by decide) (by decide), q_isClass hs, z_bd_some]
      cases z_in (nI ((e - 200) / 4)) (a 1) <;> rfl
    · rw [if_neg hh, if_pos rfl, if_neg hh]
  rw [e_M_isEdge, show z_M 127 [.long (nI e).toInt64, .long (0 : Int32).toInt64, .long (95 : Int32).toInt64] h = _ from w1, z_bd_some]
  unfold q_eB
  by_cases h1 : e < 96
  · have d1 : nI e / 16 = nI (e / 16) := pk_div (d := 16) he (by decide) (by decide)
    have d2 : nI e - nI e / 16 * 16 = nI (e % 16) := pk_rem (d := 16) he (by decide) (by decide)
    have d3 : nI (e % 16) / 2 = nI (e % 16 / 2) := pk_div (d := 2) (by omega) (by decide) (by decide)
    have d4 : nI e - nI e / 2 * 2 = nI (e % 2) := pk_rem (d := 2) he (by decide) (by decide)
    rw [if_pos (show 0 ≤ e ∧ e ≤ 95 by omega), if_neg (by decide), d4, d2, d1, d3, if_pos h1, q_isNode hs, z_bd_some, show e % 16 / 2 = e / 2 % 8 by omega]
    unfold q_hasN
    cases hn : q_isN a (nI (e / 16)) (nI (e / 2 % 8)) with
    | false => rw [if_pos (by decide)]; rfl
    | true =>
      obtain ⟨m, i, hm, hi, hm6, hi8, em, ei⟩ := q_isNT ho hn
      have em := (nI_eq (by omega) (by omega)).mp em
      have ei := (nI_eq (by omega) (by omega)).mp ei
      have bb := ho.2.2.2.2.1 0 m i (by decide) hm hi
      have hb := q_atb (p := 0) (by decide) hm6 hi8
      have q2 : z_M 158 [.ref 122, .int 0, .int (nI m), .int (nI i), .int 2] h = some (nI (a (q_at 0 m i + 2)), h) := by
        have := q_ofN (p := 0) (k := 2) (by decide) hm6 hi8 (by decide) h
        rw [hst _ (by omega), q_vn (by omega)] at this
        exact this
      rw [if_neg (by decide), em, ei, q2, z_bd_some, nI_clamp (by omega), nI_clamp (by omega), Bool.true_and, q_in (by omega)]
      by_cases hk : e % 2 < a (q_at 0 m i + 2)
      · rw [if_neg (nI_ge hk (by omega)), decide_eq_true hk]
        rfl
      · rw [if_pos (nI_le (by omega) (by omega)), decide_eq_false hk]
        rfl
  · rw [if_neg (show ¬ (0 ≤ e ∧ e ≤ 95) by omega), if_pos rfl, show z_M 127 [.long (nI e).toInt64, .long (100 : Int32).toInt64, .long (105 : Int32).toInt64] h = _ from w2, z_bd_some, if_neg h1]
    by_cases h2 : 100 ≤ e ∧ e ≤ 105
    · rw [if_pos h2, if_neg (by decide), q_isMethod hs, z_bd_some, if_pos (show e < 200 by omega)]
      cases hm : z_in (nI e - 100) (a 0) with
      | true => rw [if_pos (by decide)]; rfl
      | false => rw [if_neg (fun q => q (by decide)), e78, if_neg (by omega)]; rfl
    · rw [if_neg h2, if_pos rfl, e78]
      by_cases h3 : e < 200
      · rw [if_pos h3, if_neg (by omega)]
        have : z_in (nI e - 100) (a 0) = false := by
          by_cases h4 : e < 100
          · have hneg : nI e - 100 < 0 := pk_sneg (a := e) (b := 100) (by decide) h4
            exact q_in_neg hneg
          · rw [n_100, q_sub (by omega), q_in (by omega)]
            exact decide_eq_false (by omega)
        rw [this]
        rfl
      · rw [if_neg h3]
        by_cases h4 : e ≤ 215
        · rw [if_pos (by omega)]
        · rw [if_neg (by omega), q_in (by omega), decide_eq_false (by omega)]
          rfl
theorem q_mEdgeN {h : z_H} {x : Int32} (hx : x < 0) : z_M 192 [.ref 122, .int x] h = some (0, h) := by
  have h1 := Int32.lt_iff_toInt_lt.mp hx
  have h0 : (0 : Int32).toInt = 0 := rfl
  have h100 : (100 : Int32).toInt = 100 := rfl
  have h200 : (200 : Int32).toInt = 200 := rfl
  rw [e_M_isEdge, q_within, if_neg (by omega), z_bd_some, if_pos rfl, q_within, if_neg (by omega), z_bd_some, if_pos rfl, e_M_isEdge_78, q_within, if_neg (by omega), z_bd_some, if_pos rfl]
theorem q_op10 : z_opok q_inv 10 195 2 := by
  rintro ⟨I, L, d⟩ hi as has
  obtain ⟨x, y, rfl⟩ := q_as2 has
  obtain ⟨⟨a, ha⟩, -⟩ := id hi
  have ha : q_now I a := q_raw ha
  have hsr := ha.sr
  have o2 := ha.1.2.2.1
  show ∃ r h1 h2, z_M 10 [.ref 0, .int x, .int y] (I, L, d) = some (r, h1) ∧ z_M 195 [.ref 122, .int x, .int y] h1 = some (r, h2) ∧ q_inv h2
  rw [e_X_covers, q_cThere ha, z_bd_some]
  cases hx : z_in x (a 2) with
  | false => exact ⟨-1, (I, L, d), (I, L, d), by rw [if_pos (by decide)], by rw [e_M_covers, q_isTest hsr, hx, z_bd_some, if_pos (by decide)], hi⟩
  | true =>
    rw [if_neg (by decide)]
    rcases q_cases y with hy | ⟨e, he, rfl⟩
    · exact ⟨-1, (I, L, d), (I, L, d), by rw [q_cEdgeN hy, z_bd_some, if_neg (fun q => q rfl)], by rw [e_M_covers, q_isTest hsr, hx, z_bd_some, if_neg (by decide), q_mEdgeN hy, z_bd_some, if_neg (fun q => q rfl)], hi⟩
    · rw [q_cEdge (h := (I, L, d)) ha.1 ha.2.2.1 he, z_bd_some]
      cases heB : q_eB a e with
      | false => exact ⟨-1, (I, L, d), (I, L, d), by rw [if_neg (fun q => q (by decide))], by rw [e_M_covers, q_isTest hsr, hx, z_bd_some, if_neg (by decide), q_mEdge ha.1 ha.2.1 he, heB, z_bd_some, if_neg (fun q => q (by decide))], hi⟩
      | true =>
        have h216 := q_eB_lt ha.1 he heB
        obtain ⟨t, ht, rfl⟩ := q_inT (by omega) hx
        obtain ⟨I', L', d', k1, k2, k3, k4, k5⟩ := q_cRunT (L := L) (d := d) ha (o := 17) (p := 0) (Or.inl ⟨rfl, rfl⟩) ht
        have ha1 : q_now I' a := ha.K (h := (I, L, d)) (h1 := (I', L', d')) k5.K
        obtain ⟨J, m1, m2, m3⟩ := q_mRunT (L := L') (d := d') ha1.1 ha1.2.1 (p := 0) (by decide) ht
        refine ⟨q_b ((q_rt a 0 t).2.2.2.1 e), (I', L', d'), (J, L', d'), ?_, ?_, hi.scr (h1 := (I', L', d')) k5.K m3.R⟩
        · rw [if_pos (by decide), k1, z_bd_some, q_es_holds (o := 38) (h := (I', L', d')) (by decide) k4 h216, z_bd_some]
        · rw [e_M_covers, q_isTest ha1.sr, hx, z_bd_some, if_neg (by decide), q_mEdge ha1.1 ha1.2.1 he, heB, z_bd_some, if_pos (by decide), show z_M 168 [.ref 122, .int 0, .int (nI t)] (I', L', d') = _ from m1, z_bd_some, q_inC h216 (by decide), nI_clamp (by omega)]
          show z_bd (z_M 128 [.int (J 130 e)] (J, L', d')) _ = _
          rw [m2.2.2.2 e h216, q_flag, z_bd_some]
