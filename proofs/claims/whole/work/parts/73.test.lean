/-! THE PURE PART: test, rule -/
theorem q_op7 : z_opok q_inv 7 190 2 := by
  rintro ⟨I, L, d⟩ hi as has
  obtain ⟨x, y, rfl⟩ := q_as2 has
  obtain ⟨⟨a, ha⟩, -⟩ := id hi
  have ha : q_now I a := q_raw ha
  have hsr := ha.sr
  have o1 := ha.1.2.1
  have o2 := ha.1.2.2.1
  show ∃ r h1 h2, z_M 7 [.ref 0, .int x, .int y] (I, L, d) = some (r, h1) ∧ z_M 190 [.ref 122, .int x, .int y] h1 = some (r, h2) ∧ q_inv h2
  rw [e_X_test, q_cThere ha, z_bd_some]
  cases hx : z_in x (a 2) with
  | false => exact ⟨-1, (I, L, d), (I, L, d), by rw [if_neg (fun q => q (by decide))], by rw [e_M_test, q_isTest hsr, hx, z_bd_some, if_neg (fun q => q (by decide))], hi⟩
  | true =>
    rw [if_pos (by decide)]
    have em : ∀ h1, q_sr h1.1 a → z_M 190 [.ref 122, .int x, .int y] h1 = (if y = 0 then z_bd (z_M 167 [.ref 122, .int x, .int y] h1) (fun r3 h4 => some (r3, h4)) else (if y = 1 then z_bd (z_M 167 [.ref 122, .int x, .int y] h1) (fun r5 h6 => some (r5, h6)) else (if y = 2 then z_bd (z_M 167 [.ref 122, .int x, .int y] h1) (fun r7 h8 => some (r7, h8)) else (if y = 3 then z_bd (z_M 187 [.ref 122, .int (y - 3), .int x] h1) (fun r9 h10 => some (r9, h10)) else (if y = 4 then z_bd (z_M 187 [.ref 122, .int (y - 3), .int x] h1) (fun r11 h12 => some (r11, h12)) else (if y = 5 then z_bd (z_M 189 [.ref 122, .int x] h1) (fun r13 h14 => (if r13 ≤ 0 then z_bd (z_M 128 [.int 0] h14) (fun r15 h16 => some (r15, h16)) else z_bd (z_M 128 [.int 1] h14) (fun r17 h18 => some (r17, h18)))) else (if y = 6 then z_bd (z_M 175 [.ref 122] h1) (fun r19 h20 => z_bd (z_M 177 [.ref 122, .int x] h20) (fun r21 h22 => some (r21, h22))) else (if y = 7 then z_bd (z_M 188 [.ref 122, .int x] h1) (fun r23 h24 => some (r23, h24)) else (if y = 8 then z_bd (z_M 189 [.ref 122, .int x] h1) (fun r25 h26 => some (r25, h26)) else some ((-1), h1)))))))))) := fun h1 hs1 => by
      rw [e_M_test, q_isTest hs1, hx, z_bd_some, if_pos (by decide)]
    obtain ⟨t, ht, rfl⟩ := q_inT (by omega) hx
    have t8 : t < 8 := by omega
    have ti : z_in (nI t) 8 = true := q_int t8 (by decide)
    obtain ⟨t1, t2, t3⟩ := ha.2.2.2.2.2 t ht
    have t1 : I 34 t = nI (a (525 + 3 * t)) := t1
    have t2 : I 35 t = nI (a (525 + 3 * t + 1)) := t2
    have t3 : I 36 t = nI (a (525 + 3 * t + 2)) := t3
    have oft : ∀ k, k < 3 → z_M 167 [.ref 122, .int (nI t), .int (nI k)] (I, L, d) = some (nI (a (525 + 3 * t + k)), (I, L, d)) := fun k hk => q_ofT ha.1 ha.2.1 ht hk
    have steps : ∀ p o, q_op2 o p → ∃ I' L' d' J, z_M 30 [.ref 0, .ref o, .int (nI t)] (I, L, d) = some (0, (I', L', d')) ∧ I' 37 1 = nI (q_rt a p t).2.1 ∧ z_M 187 [.ref 122, .int (nI p), .int (nI t)] (I', L', d') = some (nI (q_rt a p t).2.1, (J, L', d')) ∧ q_inv (J, L', d') ∧ q_sr I' a := fun p o hop => by
      obtain ⟨I', L', d', k1, k2, k3, k4, k5⟩ := q_cRunT (L := L) (d := d) ha hop ht
      have ha1 : q_now I' a := ha.K (h := (I, L, d)) (h1 := (I', L', d')) k5.K
      obtain ⟨J, m1, m2, m3⟩ := q_mRunT (L := L') (d := d') ha1.1 ha1.2.1 hop.lt.1 ht
      refine ⟨I', L', d', J, k1, k3, ?_, hi.scr (h1 := (I', L', d')) k5.K m3.R, ha1.sr⟩
      rw [e_M_nodesRun, m1, z_bd_some]
      show some (J 122 18, _) = _
      rw [m2.1]
    by_cases y0 : y = 0
    · subst y0
      refine ⟨nI (a (525 + 3 * t)), (I, L, d), (I, L, d), ?_, ?_, hi⟩
      · rw [if_pos rfl, ti, cond_true, nI_clamp (by omega)]
        show some (I 34 t, _) = _
        rw [t1]
      · rw [em _ hsr, if_pos rfl, show z_M 167 [.ref 122, .int (nI t), .int 0] (I, L, d) = _ from oft 0 (by decide), z_bd_some]
        rfl
    rw [if_neg y0]
    by_cases y1 : y = 1
    · subst y1
      refine ⟨nI (a (525 + 3 * t + 1)), (I, L, d), (I, L, d), ?_, ?_, hi⟩
      · rw [if_pos rfl, ti, cond_true, nI_clamp (by omega)]
        show some (I 35 t, _) = _
        rw [t2]
      · rw [em _ hsr, if_neg y0, if_pos rfl, show z_M 167 [.ref 122, .int (nI t), .int 1] (I, L, d) = _ from oft 1 (by decide), z_bd_some]
    rw [if_neg y1]
    by_cases y2 : y = 2
    · subst y2
      refine ⟨nI (a (525 + 3 * t + 2)), (I, L, d), (I, L, d), ?_, ?_, hi⟩
      · rw [if_pos rfl, ti, cond_true, nI_clamp (by omega)]
        show some (I 36 t, _) = _
        rw [t3]
      · rw [em _ hsr, if_neg y0, if_neg y1, if_pos rfl, show z_M 167 [.ref 122, .int (nI t), .int 2] (I, L, d) = _ from oft 2 (by decide), z_bd_some]
    rw [if_neg y2]
    by_cases y3 : y = 3
    · subst y3
      obtain ⟨I', L', d', J, k1, k2, k3, k4, k5⟩ := steps 0 17 (Or.inl ⟨rfl, rfl⟩)
      refine ⟨nI (q_rt a 0 t).2.1, (I', L', d'), (J, L', d'), ?_, ?_, k4⟩
      · rw [if_pos rfl, k1, z_bd_some]
        show some (I' 37 1, _) = _
        rw [k2]
      · rw [em _ k5, if_neg y0, if_neg y1, if_neg y2, if_pos rfl, show (3 : Int32) - 3 = nI 0 from by decide, k3, z_bd_some]
    rw [if_neg y3]
    by_cases y4 : y = 4
    · subst y4
      obtain ⟨I', L', d', J, k1, k2, k3, k4, k5⟩ := steps 1 25 (Or.inr ⟨rfl, rfl⟩)
      refine ⟨nI (q_rt a 1 t).2.1, (I', L', d'), (J, L', d'), ?_, ?_, k4⟩
      · rw [if_pos rfl, k1, z_bd_some]
        show some (I' 37 1, _) = _
        rw [k2]
      · rw [em _ k5, if_neg y0, if_neg y1, if_neg y2, if_neg y3, if_pos rfl, show (4 : Int32) - 3 = nI 1 from by decide, k3, z_bd_some]
    rw [if_neg y4]
    obtain ⟨I1, L1, d1, c1, c2, c3⟩ := q_cChoose (L := L) (d := d) ha
    have ha1 := c2.now ha
    have hs := q_or_ok ha.1
    have hcc := c3.2.2.2.2
    have hri := hs.2.2.1 t
    have hle := q_oi_le hs
    have i48 : I1 48 t = q_v ((q_or a).2.2.2.1 t) := c3.2.2.1 t t8
    have hda := q_da_b a t
    by_cases y5 : y = 5
    · subst y5
      obtain ⟨J, m1, m2⟩ := q_mDanBy (L := L1) (d := d1) ha1.1 ha1.2.1 ht
      have hch := q_or_chosen ha.1 ht
      refine ⟨if 0 < q_da a t then 1 else 0, (I1, L1, d1), (J, L1, d1), ?_, ?_, hi.scr (h1 := (I1, L1, d1)) c2.K (m2.R (L := L1) (L' := L1) (d := d1) (d' := d1))⟩
      · rw [if_pos rfl, c1, z_bd_some, e_Ch_tellTest, if_pos rfl, ti, cond_true, nI_clamp (by omega)]
        show z_bd (if ¬ I1 48 t = (-4) then some (1, (I1, L1, d1)) else some (0, (I1, L1, d1))) _ = _
        rw [i48]
        by_cases hp : 0 < q_da a t
        · have := hch.mpr hp
          rw [if_pos (q_vm (by omega)), if_pos hp, z_bd_some]
        · have h9 : (q_or a).2.2.2.1 t = 999 := by
            rcases hri with h | h
            · exact h
            · exact absurd (hch.mp (by omega)) hp
          rw [h9, if_neg (show ¬ ¬ q_v 999 = -4 from fun q => q rfl), if_neg hp, z_bd_some]
      · rw [em _ ha1.sr, if_neg y0, if_neg y1, if_neg y2, if_neg y3, if_neg y4, if_pos rfl, m1, z_bd_some]
        by_cases hp : 0 < q_da a t
        · rw [if_neg (nI_nle hp (by omega)), if_pos hp, show z_M 128 [.int 1] (J, L1, d1) = some (1, (J, L1, d1)) from q_flag true _, z_bd_some]
        · rw [show q_da a t = 0 by omega, if_pos (by decide), if_neg (by decide), show z_M 128 [.int 0] (J, L1, d1) = some (0, (J, L1, d1)) from q_flag false _, z_bd_some]
    rw [if_neg y5]
    by_cases y6 : y = 6
    · subst y6
      obtain ⟨J, mt, m1, m2, m3⟩ := q_mOrder (L := L1) (d := d1) ha1.1 ha1.2.1
      refine ⟨q_v ((q_or a).2.2.2.1 t), (I1, L1, d1), (J, L1, d1), ?_, ?_, hi.scr (h1 := (I1, L1, d1)) c2.K (m2.R (L := L1) (L' := L1) (d := d1) (d' := d1))⟩
      · rw [if_pos rfl, c1, z_bd_some, e_Ch_tellTest, if_neg (by decide), if_pos rfl, ti, cond_true, nI_clamp (by omega)]
        show z_bd (some (I1 48 t, (I1, L1, d1))) _ = _
        rw [i48, z_bd_some]
      · rw [em _ ha1.sr, if_neg y0, if_neg y1, if_neg y2, if_neg y3, if_neg y4, if_neg y5, if_pos rfl, m1, z_bd_some, q_mRankOf ha.1 hs m3 ht, z_bd_some]
    rw [if_neg y6]
    by_cases y7 : y = 7
    · subst y7
      obtain ⟨J, m1, m2, m3⟩ := q_mRunT (L := L1) (d := d1) (p := 0) ha1.1 ha1.2.1 (by decide) ht
      refine ⟨nI (fb_ct (q_cv a t) 216), (I1, L1, d1), (J, L1, d1), ?_, ?_, hi.scr (h1 := (I1, L1, d1)) c2.K m3.R⟩
      · rw [if_pos rfl, c1, z_bd_some, e_Ch_tellTest, if_neg (by decide), if_neg (by decide), if_pos rfl, ti, cond_true, nI_clamp (by omega), q_es_size (o := 54 + 2 * t) (h := (I1, L1, d1)) (q_cvI t t8).2.2.2.2.2.1 (hcc.2 t ht), z_bd_some, z_bd_some]
      · rw [em _ ha1.sr, if_neg y0, if_neg y1, if_neg y2, if_neg y3, if_neg y4, if_neg y5, if_neg y6, if_pos rfl, e_M_coveredBy, show z_M 168 [.ref 122, .int 0, .int (nI t)] (I1, L1, d1) = _ from m1, z_bd_some, q_mCovMany (E := q_cv a t) m2.2.2.2, z_bd_some, z_bd_some]
    rw [if_neg y7]
    by_cases y8 : y = 8
    · subst y8
      obtain ⟨J, m1, m2⟩ := q_mDanBy (L := L1) (d := d1) ha1.1 ha1.2.1 ht
      refine ⟨nI (q_da a t), (I1, L1, d1), (J, L1, d1), ?_, ?_, hi.scr (h1 := (I1, L1, d1)) c2.K (m2.R (L := L1) (L' := L1) (d := d1) (d' := d1))⟩
      · rw [if_pos rfl, c1, z_bd_some, e_Ch_tellTest, if_neg (by decide), if_neg (by decide), if_neg (by decide), ti, cond_true, nI_clamp (by omega), q_es_sw (h := (I1, L1, d1)) (q_cvI t t8).2.1 (hcc.2 t ht) hcc.1, z_bd_some, z_bd_some]
        rfl
      · rw [em _ ha1.sr, if_neg y0, if_neg y1, if_neg y2, if_neg y3, if_neg y4, if_neg y5, if_neg y6, if_neg y7, if_pos rfl, m1, z_bd_some]
    rw [if_neg y8]
    exact ⟨-1, (I, L, d), (I, L, d), rfl, by rw [em _ hsr, if_neg y0, if_neg y1, if_neg y2, if_neg y3, if_neg y4, if_neg y5, if_neg y6, if_neg y7, if_neg y8], hi⟩
/-! rule -/
def q_su (f : Nat → Nat) : Nat → Nat
  | 0 => 0
  | n + 1 => q_su f n + f n
section QRU
variable {a : Nat → Nat} {L : Nat → Nat → Int64} {d : Nat}
theorem q_cAll {I : Nat → Nat → Int32} (ha : q_now I a) : z_M 81 [.ref 17] (I, L, d) = some (nI (q_su (fun m => a (7 + m)) (a 0)), (I, L, d)) := by
  have o0 := ha.1.1
  have hl : ∀ n m, m + n = a 0 → zl_P_nodesOfAll_4 17 (nI (q_su (fun m => a (7 + m)) m)) (nI m) (I, L, d) = some (nI (q_su (fun m => a (7 + m)) (a 0)), (I, L, d)) := by
    intro n
    induction n with
    | zero =>
      intro m hm
      obtain rfl : m = a 0 := by omega
      rw [e_P_nodesOfAll_4 (by decide)]
      show (if I 17 0 ≤ nI (a 0) then _ else _) = _
      rw [show I 17 0 = nI (a 0) from ha.2.2.1.1, if_pos (nI_le (Nat.le_refl _) (by omega))]
    | succ n ih =>
      intro m hm
      have h7 : I (17 + 1) m = nI (a (7 + m)) := ha.2.2.1.2.2.1 m (by omega)
      rw [e_P_nodesOfAll_4 (by decide)]
      show (if I 17 0 ≤ nI m then _ else (bif z_in (nI m) 6 then zl_P_nodesOfAll_4 17 (nI (q_su (fun m => a (7 + m)) m) + I (17 + 1) ((nI m).toNatClampNeg)) (nI m + 1) (I, L, d) else none)) = _
      rw [show I 17 0 = nI (a 0) from ha.2.2.1.1, if_neg (nI_ge (by omega) (by omega)), q_inC (show m < 6 by omega) (by decide), nI_clamp (by omega), h7, nI_add, nI_1]
      exact ih (m + 1) (by omega)
  rw [e_P_nodesOfAll (by decide)]
  exact hl (a 0) 0 (by omega)
theorem q_mAll {I : Nat → Nat → Int32} (ho : q_ok a) (hst : ∀ j, j < 549 → I 123 j = q_v (a j)) : z_M 178 [.ref 122] (I, L, d) = some (nI (q_su (fun m => a (7 + m)) (a 0)), (I, L, d)) := by
  have o0 := ho.1
  have hl : ∀ n m, m + n = a 0 → zl_M_nodesOfAll_4 (nI (q_su (fun m => a (7 + m)) m)) (nI m) (I, L, d) = some (nI (q_su (fun m => a (7 + m)) (a 0)), (I, L, d)) := by
    intro n
    induction n with
    | zero =>
      intro m hm
      obtain rfl : m = a 0 := by omega
      rw [e_M_nodesOfAll_4]
      show (if I 123 0 ≤ nI (a 0) then _ else _) = _
      rw [hst 0 (by omega), q_vn (by omega), if_pos (nI_le (Nat.le_refl _) (by omega))]
    | succ n ih =>
      intro m hm
      have o7 := ho.2.2.2.1 m (by omega)
      have e7 : (7 : Int32) + nI m = nI (7 + m) := by rw [n_7, nI_add]
      rw [e_M_nodesOfAll_4, e7, q_inC (show 7 + m < 549 by omega) (by decide), nI_clamp (by omega)]
      show (if I 123 0 ≤ nI m then _ else zl_M_nodesOfAll_4 (nI (q_su (fun m => a (7 + m)) m) + I 123 (7 + m)) (nI m + 1) (I, L, d)) = _
      rw [hst 0 (by omega), q_vn (by omega), if_neg (nI_ge (by omega) (by omega)), hst _ (by omega), q_vn (by omega), nI_add, nI_1]
      exact ih (m + 1) (by omega)
  rw [e_M_nodesOfAll]
  exact hl (a 0) 0 (by omega)
theorem q_cCost {I : Nat → Nat → Int32} {s : q_O} (ha : q_now I a) (hs : q_oi a s) (hr : q_co a I L s) : z_M 116 [.ref 45] (I, L, d) = some (nI (q_su (fun i => q_cs2 a (s.2.1 i)) s.1), (I, L, d)) := by
  have o2 := ha.1.2.2.1
  have hle := q_oi_le hs
  have hl : ∀ n i, i + n = s.1 → zl_Ch_costOfChosen_4 (nI (q_su (fun i => q_cs2 a (s.2.1 i)) i)) (nI i) (I, L, d) = some (nI (q_su (fun i => q_cs2 a (s.2.1 i)) s.1), (I, L, d)) := by
    intro n
    induction n with
    | zero =>
      intro i hi
      obtain rfl : i = s.1 := by omega
      rw [e_Ch_costOfChosen_4]
      show (if I 45 0 ≤ nI s.1 then _ else _) = _
      rw [hr.1, if_pos (nI_le (Nat.le_refl _) (by omega))]
    | succ n ih =>
      intro i hi
      obtain ⟨c1, -, -⟩ := hs.2.1 i (by omega)
      obtain ⟨-, -, c4⟩ := ha.2.2.2.2.2 (s.2.1 i) c1
      have c4 : I 36 (s.2.1 i) = nI (q_cs2 a (s.2.1 i)) := c4
      rw [e_Ch_costOfChosen_4]
      show (if I 45 0 ≤ nI i then _ else (bif z_in (nI i) 8 then (bif z_in (I 46 ((nI i).toNatClampNeg)) 8 then zl_Ch_costOfChosen_4 (nI (q_su (fun i => q_cs2 a (s.2.1 i)) i) + I 36 ((I 46 ((nI i).toNatClampNeg)).toNatClampNeg)) (nI i + 1) (I, L, d) else none) else none)) = _
      rw [hr.1, if_neg (nI_ge (by omega) (by omega)), q_inC (show i < 8 by omega) (by decide), nI_clamp (show i < 2 ^ 31 by omega), (hr.2.1 i (by omega)).1, q_inC (show s.2.1 i < 8 by omega) (by decide), nI_clamp (by omega), c4, nI_add, nI_1]
      exact ih (i + 1) (by omega)
  rw [e_Ch_costOfChosen]
  exact hl s.1 0 (by omega)
theorem q_mCost {J : Nat → Nat → Int32} {s : q_O} {mt : Nat → Bool} (ho : q_ok a) (hst : ∀ j, j < 549 → J 123 j = q_v (a j)) (hs : q_oi a s) (hr : q_mq a J s mt) : zl_M_costsChosen_8 0 0 (J, L, d) = some (nI (q_su (fun i => q_cs2 a (s.2.1 i)) s.1), (J, L, d)) := by
  have o2 := ho.2.2.1
  have hle := q_oi_le hs
  have hl : ∀ n i, i + n = s.1 → zl_M_costsChosen_8 (nI (q_su (fun i => q_cs2 a (s.2.1 i)) i)) (nI i) (J, L, d) = some (nI (q_su (fun i => q_cs2 a (s.2.1 i)) s.1), (J, L, d)) := by
    intro n
    induction n with
    | zero =>
      intro i hi
      obtain rfl : i = s.1 := by omega
      rw [e_M_costsChosen_8]
      show (if J 122 28 ≤ nI s.1 then _ else _) = _
      rw [hr.1, if_pos (nI_le (Nat.le_refl _) (by omega))]
    | succ n ih =>
      intro i hi
      obtain ⟨c1, -, -⟩ := hs.2.1 i (by omega)
      have c4 : z_M 167 [.ref 122, .int (nI (s.2.1 i)), .int 2] (J, L, d) = some (nI (q_cs2 a (s.2.1 i)), (J, L, d)) := q_ofT (k := 2) ho hst c1 (by decide)
      rw [e_M_costsChosen_8]
      show (if J 122 28 ≤ nI i then _ else (bif z_in (nI i) 8 then z_bd (z_M 167 [.ref 122, .int (J 135 ((nI i).toNatClampNeg)), .int 2] (J, L, d)) _ else none)) = _
      rw [hr.1, if_neg (nI_ge (by omega) (by omega)), q_inC (show i < 8 by omega) (by decide), nI_clamp (show i < 2 ^ 31 by omega), (hr.2.1 i (by omega)).1, c4, z_bd_some, nI_add, nI_1]
      exact ih (i + 1) (by omega)
  exact hl s.1 0 (by omega)
def q_so (a : Nat → Nat) (t : Nat) : Bool := !q_sm a (a (525 + 3 * t)) (a (525 + 3 * t + 1))
theorem q_cOthers : ∀ n t I L d, t + n = a 2 → q_now I a → ∃ I' L' d', zl_X_testsThatSayOther_4 (nI (fb_ct (q_so a) t)) (nI t) (I, L, d) = some (nI (fb_ct (q_so a) (a 2)), (I', L', d')) ∧ q_frC I I' L L' := by
  intro n
  induction n with
  | zero =>
    intro t I L d ht ha
    obtain rfl : t = a 2 := by omega
    have o2 := ha.1.2.2.1
    refine ⟨I, L, d, ?_, q_frC.refl⟩
    rw [e_X_testsThatSayOther_4]
    show (if I 33 0 ≤ nI (a 2) then _ else _) = _
    rw [show I 33 0 = nI (a 2) from ha.2.2.2.2.1, if_pos (nI_le (Nat.le_refl _) (by omega))]
  | succ n ih =>
    intro t I L d ht ha
    have o2 := ha.1.2.2.1
    have bt := ha.1.2.2.2.2.2.2.2 t (by omega)
    obtain ⟨t1, t2, -⟩ := ha.2.2.2.2.2 t (by omega)
    have t1 : I 34 t = nI (a (525 + 3 * t)) := t1
    have t2 : I 35 t = nI (a (525 + 3 * t + 1)) := t2
    obtain ⟨I1, L1, d1, k1, k2⟩ := q_cSame (L := L) (d := d) ha bt.1 bt.2.1
    obtain ⟨I', L', d', u1, u2⟩ := ih (t + 1) I1 L1 d1 (by omega) (ha.K (h := (I, L, d)) (h1 := (I1, L1, d1)) k2.K)
    refine ⟨I', L', d', ?_, k2.trans u2⟩
    rw [fb_ct_succ] at u1
    rw [e_X_testsThatSayOther_4]
    show (if I 33 0 ≤ nI t then _ else (bif z_in (nI t) 8 then (bif z_in (nI t) 8 then z_bd (z_M 32 [.ref 0, .int (I 34 ((nI t).toNatClampNeg)), .int (I 35 ((nI t).toNatClampNeg))] (I, L, d)) _ else none) else none)) = _
    rw [show I 33 0 = nI (a 2) from ha.2.2.2.2.1, if_neg (nI_ge (by omega) (by omega)), q_inC (show t < 8 by omega) (by decide), q_inC (show t < 8 by omega) (by decide), nI_clamp (show t < 2 ^ 31 by omega), t1, t2, k1, z_bd_some, nI_1, nI_1]
    have es : q_so a t = !q_sm a (a (525 + 3 * t)) (a (525 + 3 * t + 1)) := rfl
    rw [es] at u1
    cases hm : q_sm a (a (525 + 3 * t)) (a (525 + 3 * t + 1)) with
    | true =>
      rw [hm, if_neg (by decide)] at u1
      rw [if_pos (by decide)]
      exact u1
    | false =>
      rw [hm, if_pos (by decide)] at u1
      rw [if_neg (fun q => q (by decide))]
      exact u1
theorem q_mOthers (ho : q_ok a) : ∀ n t I, t + n = a 2 → (∀ j, j < 549 → I 123 j = q_v (a j)) → ∃ J, zl_M_others_4 (nI (fb_ct (q_so a) t)) (nI t) (I, L, d) = some (nI (fb_ct (q_so a) (a 2)), (J, L, d)) ∧ q_frM 0 I J := by
  have o2 := ho.2.2.1
  intro n
  induction n with
  | zero =>
    intro t I ht hst
    obtain rfl : t = a 2 := by omega
    refine ⟨I, ?_, q_frM.refl⟩
    rw [e_M_others_4]
    show (if I 123 2 ≤ nI (a 2) then _ else _) = _
    rw [hst 2 (by omega), q_vn (by omega), if_pos (nI_le (Nat.le_refl _) (by omega))]
  | succ n ih =>
    intro t I ht hst
    have htl : t < a 2 := by omega
    have bt := ho.2.2.2.2.2.2.2 t htl
    have c0 : z_M 167 [.ref 122, .int (nI t), .int 0] (I, L, d) = some (nI (a (525 + 3 * t)), (I, L, d)) := q_ofT (k := 0) ho hst htl (by decide)
    have c1 : z_M 167 [.ref 122, .int (nI t), .int 1] (I, L, d) = some (nI (a (525 + 3 * t + 1)), (I, L, d)) := q_ofT (k := 1) ho hst htl (by decide)
    obtain ⟨J1, k1, k2⟩ := q_mSame (L := L) (d := d) ho hst bt.1 bt.2.1
    obtain ⟨J, u1, u2⟩ := ih (t + 1) J1 (by omega) (k2.st hst)
    refine ⟨J, ?_, k2.trans u2⟩
    have f0 : ∀ h, z_M 128 [.int 0] h = some (nI 0, h) := fun h => q_flag false h
    have f1 : ∀ h, z_M 128 [.int 1] h = some (nI 1, h) := fun h => q_flag true h
    rw [fb_ct_succ] at u1
    rw [e_M_others_4]
    show (if I 123 2 ≤ nI t then _ else _) = _
    rw [hst 2 (by omega), q_vn (by omega), if_neg (nI_ge (by omega) (by omega)), c0, z_bd_some, c1, z_bd_some, k1, z_bd_some, f0, f1, z_bd_some, z_bd_some, nI_add, nI_add, nI_1]
    have es : q_so a t = !q_sm a (a (525 + 3 * t)) (a (525 + 3 * t + 1)) := rfl
    rw [es] at u1
    cases hm : q_sm a (a (525 + 3 * t)) (a (525 + 3 * t + 1)) with
    | true =>
      rw [hm, if_neg (by decide)] at u1
      rw [if_pos (by decide)]
      exact u1
    | false =>
      rw [hm, if_pos (by decide)] at u1
      rw [if_neg (fun q => q (by decide))]
      exact u1
end QRU
theorem q_op4 : z_opok q_inv 4 183 1 := by
  rintro ⟨I, L, d⟩ hi as has
  obtain ⟨x, rfl⟩ := q_as1 has
  obtain ⟨⟨a, ha⟩, -⟩ := id hi
  have ha : q_now I a := q_raw ha
  have hsr := ha.sr
  show ∃ r h1 h2, z_M 4 [.ref 0, .int x] (I, L, d) = some (r, h1) ∧ z_M 183 [.ref 122, .int x] h1 = some (r, h2) ∧ q_inv h2
  rw [e_X_rule]
  by_cases x0 : x = 0
  · refine ⟨nI (a 0), (I, L, d), (I, L, d), ?_, ?_, hi⟩
    · rw [if_pos x0]
      show some (I 17 0, _) = _
      rw [show I 17 0 = nI (a 0) from ha.2.2.1.1]
    · rw [e_M_rule, if_pos x0]
      show some (I 123 0, _) = _
      rw [show I 123 0 = nI (a 0) from hsr.1]
  rw [if_neg x0]
  by_cases x1 : x = 1
  · refine ⟨nI (q_su (fun m => a (7 + m)) (a 0)), (I, L, d), (I, L, d), ?_, ?_, hi⟩
    · rw [if_pos x1, q_cAll ha, z_bd_some]
    · rw [e_M_rule, if_neg x0, if_pos x1, q_mAll ha.1 ha.2.1, z_bd_some]
  rw [if_neg x1]
  by_cases x2 : x = 2
  · refine ⟨nI (a 1), (I, L, d), (I, L, d), ?_, ?_, hi⟩
    · rw [if_pos x2]
      show some (I 17 1, _) = _
      rw [show I 17 1 = nI (a 1) from ha.2.2.1.2.1]
    · rw [e_M_rule, if_neg x0, if_neg x1, if_pos x2]
      show some (I 123 1, _) = _
      rw [show I 123 1 = nI (a 1) from hsr.2.1]
  rw [if_neg x2]
  by_cases x3 : x = 3
  · refine ⟨nI (a 2), (I, L, d), (I, L, d), ?_, ?_, hi⟩
    · rw [if_pos x3]
      show some (I 33 0, _) = _
      rw [show I 33 0 = nI (a 2) from ha.2.2.2.2.1]
    · rw [e_M_rule, if_neg x0, if_neg x1, if_neg x2, if_pos x3]
      show some (I 123 2, _) = _
      rw [show I 123 2 = nI (a 2) from hsr.2.2.1]
  rw [if_neg x3]
  by_cases x4 : x = 4
  · obtain ⟨I1, L1, k1, k2⟩ := q_cDangers (L := L) (d := d) ha
    have ha1 := k2.now ha
    obtain ⟨J, m1, m2⟩ := q_mDangers (L := L1) (d := d) ha1.1 ha1.2.1
    refine ⟨nI (fb_ct (q_dg a) 216), (I1, L1, d), (J, L1, d), ?_, ?_, hi.scr (h1 := (I1, L1, d)) k2.K m2.R⟩
    · rw [if_pos x4, k1, z_bd_some]
    · rw [e_M_rule, if_neg x0, if_neg x1, if_neg x2, if_neg x3, if_pos x4, m1, z_bd_some]
  rw [if_neg x4]
  obtain ⟨I1, L1, d1, k1, k2, k3⟩ := q_cChoose (L := L) (d := d) ha
  have ha1 := k2.now ha
  obtain ⟨J, mt, m1, m2, m3⟩ := q_mOrder (L := L1) (d := d1) ha1.1 ha1.2.1
  have hs := q_or_ok ha.1
  have hinv := hi.scr (h1 := (I1, L1, d1)) k2.K (m2.R (L := L1) (L' := L1) (d := d1) (d' := d1))
  by_cases x5 : x = 5
  · refine ⟨nI (q_or a).1, (I1, L1, d1), (J, L1, d1), ?_, ?_, hinv⟩
    · rw [if_pos x5, k1, z_bd_some]
      show some (I1 45 0, _) = _
      rw [k3.1]
    · rw [e_M_rule, if_neg x0, if_neg x1, if_neg x2, if_neg x3, if_neg x4, if_pos x5, e_M_chosen, m1, z_bd_some, z_bd_some]
      show some (J 122 28, _) = _
      rw [m3.1]
  rw [if_neg x5]
  by_cases x6 : x = 6
  · refine ⟨nI (q_su (fun i => q_cs2 a ((q_or a).2.1 i)) (q_or a).1), (I1, L1, d1), (J, L1, d1), ?_, ?_, hinv⟩
    · rw [if_pos x6, k1, z_bd_some, q_cCost ha1 hs k3, z_bd_some]
    · rw [e_M_rule, if_neg x0, if_neg x1, if_neg x2, if_neg x3, if_neg x4, if_neg x5, if_pos x6, e_M_costsChosen, m1, z_bd_some, q_mCost ha.1 (m2.st ha1.2.1) hs m3, z_bd_some]
  rw [if_neg x6]
  by_cases x7 : x = 7
  · obtain ⟨I2, L2, d2, j1, j2⟩ := q_cOthers (a := a) (a 2) 0 I L d (by omega) ha
    have ha2 : q_now I2 a := ha.K (h := (I, L, d)) (h1 := (I2, L2, d2)) j2.K
    obtain ⟨J2, n1, n2⟩ := q_mOthers (L := L2) (d := d2) ha.1 (a 2) 0 I2 (by omega) ha2.2.1
    refine ⟨nI (fb_ct (q_so a) (a 2)), (I2, L2, d2), (J2, L2, d2), ?_, ?_, hi.scr (h1 := (I2, L2, d2)) j2.K n2.R⟩
    · rw [if_pos x7, e_X_testsThatSayOther, show zl_X_testsThatSayOther_4 0 0 (I, L, d) = _ from j1, z_bd_some]
    · rw [e_M_rule, if_neg x0, if_neg x1, if_neg x2, if_neg x3, if_neg x4, if_neg x5, if_neg x6, if_pos x7, e_M_others, show zl_M_others_4 0 0 (I2, L2, d2) = _ from n1, z_bd_some]
  rw [if_neg x7]
  exact ⟨-1, (I, L, d), (I, L, d), rfl, by rw [e_M_rule, if_neg x0, if_neg x1, if_neg x2, if_neg x3, if_neg x4, if_neg x5, if_neg x6, if_neg x7], hi⟩
