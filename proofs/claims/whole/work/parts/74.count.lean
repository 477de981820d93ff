/-! THE PURE PART: count -/
def q_cf (p : Nat → Bool) : Nat → Nat → Nat
  | _, 0 => 0
  | i, n + 1 => (if p i = true then 1 else 0) + q_cf p (i + 1) n
def q_sf (f : Nat → Nat) : Nat → Nat → Nat
  | _, 0 => 0
  | m, n + 1 => f m + q_sf f (m + 1) n
section QCN
variable {a : Nat → Nat} {L : Nat → Nat → Int64} {d : Nat}
def q_kc (a : Nat → Nat) (m i : Nat) : Bool := decide (a (q_at 0 m i) = 1)
theorem q_cCalls {I : Nat → Nat → Int32} (ha : q_now I a) : z_M 82 [.ref 17] (I, L, d) = some (nI (q_sf (fun m => q_cf (q_kc a m) 0 (a (7 + m))) 0 (a 0)), (I, L, d)) := by
  have o0 := ha.1.1
  have hin : ∀ m, m < a 0 → ∀ n i c, i + n = a (7 + m) → zl_P_nodesThatCall_14 17 (nI c) (nI m) (nI i) (I, L, d) = zl_P_nodesThatCall_4 17 (nI (c + q_cf (q_kc a m) i n)) (nI (m + 1)) (I, L, d) := by
    intro m hm n
    have o7 := ha.1.2.2.2.1 m hm
    have h7 : I (17 + 1) m = nI (a (7 + m)) := ha.2.2.1.2.2.1 m hm
    induction n with
    | zero =>
      intro i c hi
      rw [e_P_nodesThatCall_14 (by decide), q_inC (show m < 6 by omega) (by decide), nI_clamp (show m < 2 ^ 31 by omega)]
      show (if I (17 + 1) m ≤ nI i then _ else _) = _
      rw [h7, if_pos (nI_le (by omega) (by omega)), nI_1]
      rfl
    | succ n ih =>
      intro i c hi
      obtain ⟨g1, -, -, -⟩ := ha.2.2.1.2.2.2.1 m i hm (by omega)
      have b0 := ha.1.2.2.2.2.1 0 m i (by decide) hm (by omega)
      rw [e_P_nodesThatCall_14 (by decide), q_inC (show m < 6 by omega) (by decide), nI_clamp (show m < 2 ^ 31 by omega), q_place, z_bd_some, q_inC (show 8 * m + i < 48 by omega) (by decide), nI_clamp (show 8 * m + i < 2 ^ 31 by omega)]
      show (if I (17 + 1) m ≤ nI i then _ else (if ¬ I (17 + 2) (8 * m + i) = 1 then zl_P_nodesThatCall_14 17 (nI c) (nI m) (nI i + 1) (I, L, d) else zl_P_nodesThatCall_14 17 (nI c + 1) (nI m) (nI i + 1) (I, L, d))) = zl_P_nodesThatCall_4 17 (nI (c + ((if q_kc a m i = true then 1 else 0) + q_cf (q_kc a m) (i + 1) n))) (nI (m + 1)) (I, L, d)
      rw [h7, if_neg (nI_ge (by omega) (by omega)), g1, nI_1, nI_1]
      unfold q_kc
      by_cases hk : a (q_at 0 m i) = 1
      · rw [hk, if_neg (show ¬ ¬ nI 1 = 1 from fun q => q rfl), if_pos (decide_eq_true rfl), ← Nat.add_assoc]
        exact ih (i + 1) (c + 1) (by omega)
      · rw [if_pos (show ¬ nI (a (q_at 0 m i)) = 1 from fun q => hk ((nI_eq (b := 1) (by omega) (by decide)).mp q)), decide_eq_false hk, if_neg (by decide), Nat.zero_add]
        exact ih (i + 1) c (by omega)
  have hout : ∀ n m c, m + n = a 0 → zl_P_nodesThatCall_4 17 (nI c) (nI m) (I, L, d) = some (nI (c + q_sf (fun m => q_cf (q_kc a m) 0 (a (7 + m))) m n), (I, L, d)) := by
    intro n
    induction n with
    | zero =>
      intro m c hm
      rw [e_P_nodesThatCall_4 (by decide)]
      show (if I 17 0 ≤ nI m then _ else _) = _
      rw [show I 17 0 = nI (a 0) from ha.2.2.1.1, if_pos (nI_le (by omega) (by omega))]
      rfl
    | succ n ih =>
      intro m c hm
      rw [e_P_nodesThatCall_4 (by decide)]
      show (if I 17 0 ≤ nI m then _ else _) = _
      rw [show I 17 0 = nI (a 0) from ha.2.2.1.1, if_neg (nI_ge (by omega) (by omega)), show zl_P_nodesThatCall_14 17 (nI c) (nI m) 0 (I, L, d) = _ from hin m (by omega) (a (7 + m)) 0 c (by omega), ih (m + 1) _ (by omega), Nat.add_assoc]
      rfl
  rw [e_P_nodesThatCall (by decide), show zl_P_nodesThatCall_4 17 0 0 (I, L, d) = _ from hout (a 0) 0 0 (by omega), Nat.zero_add]
theorem q_mCalls {I : Nat → Nat → Int32} (ho : q_ok a) (hst : ∀ j, j < 549 → I 123 j = q_v (a j)) : z_M 216 [.ref 122] (I, L, d) = some (nI (q_sf (fun m => q_cf (q_kc a m) 0 (a (7 + m))) 0 (a 0)), (I, L, d)) := by
  have o0 := ho.1
  have hin : ∀ m, m < a 0 → ∀ n i c, i + n = a (7 + m) → zl_M_callsOld_16 (nI c) (nI m) (nI i) (I, L, d) = zl_M_callsOld_4 (nI (c + q_cf (q_kc a m) i n)) (nI (m + 1)) (I, L, d) := by
    intro m hm n
    have o7 := ho.2.2.2.1 m hm
    have e7 : (7 : Int32) + nI m = nI (7 + m) := by rw [n_7, nI_add]
    have h7 : I 123 (7 + m) = nI (a (7 + m)) := by rw [hst _ (by omega), q_vn (by omega)]
    induction n with
    | zero =>
      intro i c hi
      rw [e_M_callsOld_16, e7, q_inC (show 7 + m < 549 by omega) (by decide), nI_clamp (by omega)]
      show (if I 123 (7 + m) ≤ nI i then _ else _) = _
      rw [h7, if_pos (nI_le (by omega) (by omega)), nI_1]
      rfl
    | succ n ih =>
      intro i c hi
      have b0 := ho.2.2.2.2.1 0 m i (by decide) hm (by omega)
      have q0 : z_M 158 [.ref 122, .int 0, .int (nI m), .int (nI i), .int 0] (I, L, d) = some (nI (a (q_at 0 m i)), (I, L, d)) := q_of (p := 0) (k := 0) ho (by decide) hst hm (by omega) (by omega)
      rw [e_M_callsOld_16, e7, q_inC (show 7 + m < 549 by omega) (by decide), nI_clamp (by omega)]
      show (if I 123 (7 + m) ≤ nI i then _ else _) = zl_M_callsOld_4 (nI (c + ((if q_kc a m i = true then 1 else 0) + q_cf (q_kc a m) (i + 1) n))) (nI (m + 1)) (I, L, d)
      rw [h7, if_neg (nI_ge (by omega) (by omega)), q0, z_bd_some, nI_add, nI_1]
      unfold q_kc
      by_cases hk : a (q_at 0 m i) = 1
      · rw [hk, if_pos (decide_eq_true rfl), ← Nat.add_assoc]
        exact ih (i + 1) (c + 1) (by omega)
      · rw [show a (q_at 0 m i) = 0 by omega, if_neg (by decide), Nat.zero_add]
        exact ih (i + 1) c (by omega)
  have hout : ∀ n m c, m + n = a 0 → zl_M_callsOld_4 (nI c) (nI m) (I, L, d) = some (nI (c + q_sf (fun m => q_cf (q_kc a m) 0 (a (7 + m))) m n), (I, L, d)) := by
    intro n
    induction n with
    | zero =>
      intro m c hm
      rw [e_M_callsOld_4]
      show (if I 123 0 ≤ nI m then _ else _) = _
      rw [hst 0 (by omega), q_vn (by omega), if_pos (nI_le (by omega) (by omega))]
      rfl
    | succ n ih =>
      intro m c hm
      rw [e_M_callsOld_4]
      show (if I 123 0 ≤ nI m then _ else _) = _
      rw [hst 0 (by omega), q_vn (by omega), if_neg (nI_ge (by omega) (by omega)), show zl_M_callsOld_16 (nI c) (nI m) 0 (I, L, d) = _ from hin m (by omega) (a (7 + m)) 0 c (by omega), ih (m + 1) _ (by omega), Nat.add_assoc]
      rfl
  rw [e_M_callsOld, show zl_M_callsOld_4 0 0 (I, L, d) = _ from hout (a 0) 0 0 (by omega), Nat.zero_add]
/-! nodes that are other -/
def q_sp (a : Nat → Nat) (m i w : Nat) : Bool := decide (q_part a 1 m i w = q_part a 0 m i w)
def q_eqn (a : Nat → Nat) (m i : Nat) : Bool := q_sp a m i 0 && (q_sp a m i 1 && (q_sp a m i 2 && (q_sp a m i 3 && q_sp a m i 4)))
theorem q_cAsIn {I : Nat → Nat → Int32} {m i : Nat} (ha : q_now I a) (hm : m < a 0) (hi : i < a (7 + m)) : z_M 84 [.ref 25, .ref 17, .int (nI m), .int (nI i)] (I, L, d) = some (q_b (q_eqn a m i), (I, L, d)) := by
  have st : ∀ w, w ≤ 4 → zl_P_isNodeAsIn_3 25 17 (nI m) (nI i) (nI w) (I, L, d) = (if q_sp a m i w = true then zl_P_isNodeAsIn_3 25 17 (nI m) (nI i) (nI (w + 1)) (I, L, d) else some (0, (I, L, d))) := fun w hw => by
    have c1 := q_cPart (o := 25) (p := 1) (h := (I, L, d)) (w := w) (by decide) ha.1 ha.2.2.2.1 hm hi hw
    have c0 := q_cPart (o := 17) (p := 0) (h := (I, L, d)) (w := w) (by decide) ha.1 ha.2.2.1 hm hi hw
    rw [e_P_isNodeAsIn_3 (by decide), if_neg (show ¬ (4 : Int32) < nI w from nI_nlt (a := 4) hw (by decide)), c1, z_bd_some, c0, z_bd_some, nI_1]
    unfold q_sp
    by_cases he : q_part a 1 m i w = q_part a 0 m i w
    · rw [if_pos he, if_pos (decide_eq_true he)]
    · rw [if_neg he, decide_eq_false he, if_neg (by decide)]
  have e5 : zl_P_isNodeAsIn_3 25 17 (nI m) (nI i) (nI 5) (I, L, d) = some (1, (I, L, d)) := by
    rw [e_P_isNodeAsIn_3 (by decide), if_pos (by decide)]
  rw [e_P_isNodeAsIn (by decide), show zl_P_isNodeAsIn_3 25 17 (nI m) (nI i) 0 (I, L, d) = _ from st 0 (by decide), st 1 (by decide), st 2 (by decide), st 3 (by decide), st 4 (by decide), e5]
  unfold q_eqn
  cases q_sp a m i 0 <;> cases q_sp a m i 1 <;> cases q_sp a m i 2 <;> cases q_sp a m i 3 <;> cases q_sp a m i 4 <;> rfl
theorem q_mIsOther {I : Nat → Nat → Int32} {m i : Nat} (ho : q_ok a) (hst : ∀ j, j < 549 → I 123 j = q_v (a j)) (hm : m < a 0) (hi : i < a (7 + m)) : z_M 217 [.ref 122, .int (nI m), .int (nI i)] (I, L, d) = some (q_b (!q_eqn a m i), (I, L, d)) := by
  have o7 := ho.2.2.2.1 m hm
  have b0 := ho.2.2.2.2.1 0 m i (by decide) hm hi
  have b1 := ho.2.2.2.2.1 1 m i (by decide) hm hi
  have q2 : z_M 158 [.ref 122, .int 0, .int (nI m), .int (nI i), .int 2] (I, L, d) = some (nI (a (q_at 0 m i + 2)), (I, L, d)) := q_of (p := 0) (k := 2) ho (by decide) hst hm hi (by omega)
  have l1 : ∀ n k, k + n = a (q_at 0 m i + 2) → zl_M_isOther_19 (nI m) (nI i) 1 (nI k) (I, L, d) = some (1, (I, L, d)) := by
    intro n
    induction n with
    | zero =>
      intro k hk
      rw [e_M_isOther_19, q2, z_bd_some, if_pos (nI_le (by omega) (by omega))]
      rfl
    | succ n ih =>
      intro k hk
      rw [e_M_isOther_19, q2, z_bd_some, if_neg (nI_ge (by omega) (by omega)), if_pos (by decide), nI_1]
      exact ih (k + 1) (by omega)
  have hsp0 : q_sp a m i 0 = decide (a (q_at 0 m i) = a (q_at 1 m i)) := by
    unfold q_sp q_part
    rw [if_pos (by decide), if_pos (by decide), Nat.add_zero, Nat.add_zero]
    exact decide_eq_decide.mpr ⟨fun q => ((nI_eq (by omega) (by omega)).mp q).symm, fun q => by rw [q]⟩
  have hsp1 : q_sp a m i 1 = decide (a (q_at 0 m i + 1) = a (q_at 1 m i + 1)) := by
    unfold q_sp q_part
    rw [if_pos (by decide), if_pos (by decide)]
    exact decide_eq_decide.mpr ⟨fun q => ((nI_eq (by omega) (by omega)).mp q).symm, fun q => by rw [q]⟩
  have hsp2 : q_sp a m i 2 = decide (a (q_at 0 m i + 2) = a (q_at 1 m i + 2)) := by
    unfold q_sp q_part
    rw [if_pos (by decide), if_pos (by decide)]
    exact decide_eq_decide.mpr ⟨fun q => ((nI_eq (by omega) (by omega)).mp q).symm, fun q => by rw [q]⟩
  have heq : q_eqn a m i = (q_al a m i i && (q_sp a m i 3 && q_sp a m i 4)) := by
    unfold q_eqn q_al
    rw [hsp0, hsp1, hsp2, Bool.and_assoc, Bool.and_assoc]
  rw [e_M_isOther, q_mAlike ho hst hm hi hi, z_bd_some, heq]
  cases hal : q_al a m i i with
  | false =>
    rw [if_neg (fun q => q (by decide)), show zl_M_isOther_19 (nI m) (nI i) 1 0 (I, L, d) = _ from l1 (a (q_at 0 m i + 2)) 0 (by omega)]
    rfl
  | true =>
    have hww : a (q_at 0 m i + 2) = a (q_at 1 m i + 2) := by
      unfold q_al at hal
      rw [Bool.and_eq_true, Bool.and_eq_true] at hal
      exact of_decide_eq_true hal.2.2
    have hs3 : ∀ k, k < 2 → q_sp a m i (3 + k) = (decide (a (q_at 0 m i + 2) ≤ k) || decide (a (q_at 0 m i + (3 + k)) = a (q_at 1 m i + (3 + k)))) := fun k hk => by
      unfold q_sp q_part
      rw [if_neg (show ¬ 3 + k < 3 by omega), if_neg (show ¬ 3 + k < 3 by omega), show 3 + k - 3 = k by omega, ← hww]
      by_cases hkw : k < a (q_at 0 m i + 2)
      · have c0 := b0.2.2.2.2 k hkw
        have c1 := b1.2.2.2.2 k (by omega)
        rw [Nat.add_assoc] at c0 c1
        rw [if_pos hkw, if_pos hkw, decide_eq_false (show ¬ a (q_at 0 m i + 2) ≤ k by omega), Bool.false_or]
        exact decide_eq_decide.mpr ⟨fun q => ((nI_eq (by omega) (by omega)).mp q).symm, fun q => by rw [q]⟩
      · rw [if_neg hkw, if_neg hkw, decide_eq_true rfl, decide_eq_true (show a (q_at 0 m i + 2) ≤ k by omega), Bool.true_or]
    have l0 : ∀ k, k < 2 → zl_M_isOther_19 (nI m) (nI i) 0 (nI k) (I, L, d) = (if q_sp a m i (3 + k) = true then (if a (q_at 0 m i + 2) ≤ k then some (0, (I, L, d)) else zl_M_isOther_19 (nI m) (nI i) 0 (nI (k + 1)) (I, L, d)) else some (1, (I, L, d))) := fun k hk => by
      have e3 : (3 : Int32) + nI k = nI (3 + k) := by rw [n_3, nI_add]
      rw [e_M_isOther_19, q2, z_bd_some, hs3 k hk]
      by_cases hkw : a (q_at 0 m i + 2) ≤ k
      · rw [if_pos (nI_le hkw (by omega)), decide_eq_true hkw, Bool.true_or, if_pos rfl, if_pos hkw]
        rfl
      · have c0 := b0.2.2.2.2 k (by omega)
        have c1 := b1.2.2.2.2 k (by omega)
        rw [Nat.add_assoc] at c0 c1
        have p0 : z_M 158 [.ref 122, .int 0, .int (nI m), .int (nI i), .int (nI (3 + k))] (I, L, d) = some (nI (a (q_at 0 m i + (3 + k))), (I, L, d)) := q_of (p := 0) (k := 3 + k) ho (by decide) hst hm hi (by omega)
        have p1 : z_M 158 [.ref 122, .int 1, .int (nI m), .int (nI i), .int (nI (3 + k))] (I, L, d) = some (nI (a (q_at 1 m i + (3 + k))), (I, L, d)) := q_of (p := 1) (k := 3 + k) ho (by decide) hst hm hi (by omega)
        rw [if_neg (nI_ge (by omega) (by omega)), if_neg (fun q => q rfl), e3, p0, z_bd_some, p1, z_bd_some, decide_eq_false hkw, Bool.false_or, nI_1, if_neg hkw]
        by_cases he : a (q_at 0 m i + (3 + k)) = a (q_at 1 m i + (3 + k))
        · rw [if_pos (by rw [he]), decide_eq_true he, if_pos rfl]
        · rw [if_neg (show ¬ nI (a (q_at 0 m i + (3 + k))) = nI (a (q_at 1 m i + (3 + k))) from fun q => he ((nI_eq (by omega) (by omega)).mp q)), decide_eq_false he, if_neg (by decide)]
          exact l1 (a (q_at 0 m i + 2) - (k + 1)) (k + 1) (by omega)
    have e2 : zl_M_isOther_19 (nI m) (nI i) 0 (nI 2) (I, L, d) = some (0, (I, L, d)) := by
      rw [e_M_isOther_19, q2, z_bd_some, if_pos (nI_le (by omega) (by decide))]
      rfl
    rw [if_pos (by decide), show zl_M_isOther_19 (nI m) (nI i) 0 0 (I, L, d) = _ from l0 0 (by decide), l0 1 (by decide), e2, Bool.true_and]
    have h4 : q_sp a m i 4 = (decide (a (q_at 0 m i + 2) ≤ 1) || decide (a (q_at 0 m i + (3 + 1)) = a (q_at 1 m i + (3 + 1)))) := hs3 1 (by decide)
    show (if q_sp a m i 3 = true then (if a (q_at 0 m i + 2) ≤ 0 then some (0, (I, L, d)) else (if q_sp a m i 4 = true then (if a (q_at 0 m i + 2) ≤ 1 then some (0, (I, L, d)) else some (0, (I, L, d))) else some (1, (I, L, d)))) else some (1, (I, L, d))) = _
    cases h3 : q_sp a m i 3 with
    | false => rw [if_neg (by decide)]; rfl
    | true =>
      rw [if_pos rfl]
      by_cases hw0 : a (q_at 0 m i + 2) ≤ 0
      · rw [if_pos hw0, h4, decide_eq_true (show a (q_at 0 m i + 2) ≤ 1 by omega), Bool.true_or]
        rfl
      · rw [if_neg hw0]
        cases h5 : q_sp a m i 4 with
        | false => rw [if_neg (by decide)]; rfl
        | true =>
          rw [if_pos rfl]
          by_cases hw1 : a (q_at 0 m i + 2) ≤ 1
          · rw [if_pos hw1]; rfl
          · rw [if_neg hw1]; rfl
def q_no (a : Nat → Nat) (m i : Nat) : Bool := !q_eqn a m i
theorem q_cOther {I : Nat → Nat → Int32} (ha : q_now I a) : z_M 83 [.ref 25, .ref 17] (I, L, d) = some (nI (q_sf (fun m => q_cf (q_no a m) 0 (a (7 + m))) 0 (a 0)), (I, L, d)) := by
  have o0 := ha.1.1
  have hin : ∀ m, m < a 0 → ∀ n i c, i + n = a (7 + m) → zl_P_nodesOtherThan_15 25 17 (nI c) (nI m) (nI i) (I, L, d) = zl_P_nodesOtherThan_4 25 17 (nI (c + q_cf (q_no a m) i n)) (nI (m + 1)) (I, L, d) := by
    intro m hm n
    have o7 := ha.1.2.2.2.1 m hm
    have h7 : I (25 + 1) m = nI (a (7 + m)) := ha.2.2.2.1.2.2.1 m hm
    induction n with
    | zero =>
      intro i c hi
      rw [e_P_nodesOtherThan_15 (by decide), q_inC (show m < 6 by omega) (by decide), nI_clamp (show m < 2 ^ 31 by omega)]
      show (if I (25 + 1) m ≤ nI i then _ else _) = _
      rw [h7, if_pos (nI_le (by omega) (by omega)), nI_1]
      rfl
    | succ n ih =>
      intro i c hi
      rw [e_P_nodesOtherThan_15 (by decide), q_inC (show m < 6 by omega) (by decide), nI_clamp (show m < 2 ^ 31 by omega), q_cAsIn ha hm (show i < a (7 + m) by omega), z_bd_some]
      show (if I (25 + 1) m ≤ nI i then _ else _) = zl_P_nodesOtherThan_4 25 17 (nI (c + ((if (!q_eqn a m i) = true then 1 else 0) + q_cf (q_no a m) (i + 1) n))) (nI (m + 1)) (I, L, d)
      rw [h7, if_neg (nI_ge (by omega) (by omega)), nI_1, nI_1]
      cases hk : q_eqn a m i with
      | false =>
        rw [if_neg (fun q => q (by decide)), if_pos (by decide), ← Nat.add_assoc]
        exact ih (i + 1) (c + 1) (by omega)
      | true =>
        rw [if_pos (by decide), if_neg (by decide), Nat.zero_add]
        exact ih (i + 1) c (by omega)
  have hout : ∀ n m c, m + n = a 0 → zl_P_nodesOtherThan_4 25 17 (nI c) (nI m) (I, L, d) = some (nI (c + q_sf (fun m => q_cf (q_no a m) 0 (a (7 + m))) m n), (I, L, d)) := by
    intro n
    induction n with
    | zero =>
      intro m c hm
      rw [e_P_nodesOtherThan_4 (by decide)]
      show (if I 25 0 ≤ nI m then _ else _) = _
      rw [show I 25 0 = nI (a 0) from ha.2.2.2.1.1, if_pos (nI_le (by omega) (by omega))]
      rfl
    | succ n ih =>
      intro m c hm
      rw [e_P_nodesOtherThan_4 (by decide)]
      show (if I 25 0 ≤ nI m then _ else _) = _
      rw [show I 25 0 = nI (a 0) from ha.2.2.2.1.1, if_neg (nI_ge (by omega) (by omega)), show zl_P_nodesOtherThan_15 25 17 (nI c) (nI m) 0 (I, L, d) = _ from hin m (by omega) (a (7 + m)) 0 c (by omega), ih (m + 1) _ (by omega), Nat.add_assoc]
      rfl
  rw [e_P_nodesOtherThan (by decide), show zl_P_nodesOtherThan_4 25 17 0 0 (I, L, d) = _ from hout (a 0) 0 0 (by omega), Nat.zero_add]
theorem q_mOther {I : Nat → Nat → Int32} (ho : q_ok a) (hst : ∀ j, j < 549 → I 123 j = q_v (a j)) : z_M 218 [.ref 122] (I, L, d) = some (nI (q_sf (fun m => q_cf (q_no a m) 0 (a (7 + m))) 0 (a 0)), (I, L, d)) := by
  have o0 := ho.1
  have hin : ∀ m, m < a 0 → ∀ n i c, i + n = a (7 + m) → zl_M_nodesOther_16 (nI c) (nI m) (nI i) (I, L, d) = zl_M_nodesOther_4 (nI (c + q_cf (q_no a m) i n)) (nI (m + 1)) (I, L, d) := by
    intro m hm n
    have o7 := ho.2.2.2.1 m hm
    have e7 : (7 : Int32) + nI m = nI (7 + m) := by rw [n_7, nI_add]
    have h7 : I 123 (7 + m) = nI (a (7 + m)) := by rw [hst _ (by omega), q_vn (by omega)]
    induction n with
    | zero =>
      intro i c hi
      rw [e_M_nodesOther_16, e7, q_inC (show 7 + m < 549 by omega) (by decide), nI_clamp (by omega)]
      show (if I 123 (7 + m) ≤ nI i then _ else _) = _
      rw [h7, if_pos (nI_le (by omega) (by omega)), nI_1]
      rfl
    | succ n ih =>
      intro i c hi
      rw [e_M_nodesOther_16, e7, q_inC (show 7 + m < 549 by omega) (by decide), nI_clamp (by omega), q_mIsOther ho hst hm (show i < a (7 + m) by omega), z_bd_some, q_flag, z_bd_some]
      show (if I 123 (7 + m) ≤ nI i then _ else _) = zl_M_nodesOther_4 (nI (c + ((if (!q_eqn a m i) = true then 1 else 0) + q_cf (q_no a m) (i + 1) n))) (nI (m + 1)) (I, L, d)
      rw [h7, if_neg (nI_ge (by omega) (by omega)), q_bI, nI_add, nI_1, ← Nat.add_assoc]
      exact ih (i + 1) _ (by omega)
  have hout : ∀ n m c, m + n = a 0 → zl_M_nodesOther_4 (nI c) (nI m) (I, L, d) = some (nI (c + q_sf (fun m => q_cf (q_no a m) 0 (a (7 + m))) m n), (I, L, d)) := by
    intro n
    induction n with
    | zero =>
      intro m c hm
      rw [e_M_nodesOther_4]
      show (if I 123 0 ≤ nI m then _ else _) = _
      rw [hst 0 (by omega), q_vn (by omega), if_pos (nI_le (by omega) (by omega))]
      rfl
    | succ n ih =>
      intro m c hm
      rw [e_M_nodesOther_4]
      show (if I 123 0 ≤ nI m then _ else _) = _
      rw [hst 0 (by omega), q_vn (by omega), if_neg (nI_ge (by omega) (by omega)), show zl_M_nodesOther_16 (nI c) (nI m) 0 (I, L, d) = _ from hin m (by omega) (a (7 + m)) 0 c (by omega), ih (m + 1) _ (by omega), Nat.add_assoc]
      rfl
  rw [e_M_nodesOther, show zl_M_nodesOther_4 0 0 (I, L, d) = _ from hout (a 0) 0 0 (by omega), Nat.zero_add]
/-! edges that any test covers -/
def q_ov (a : Nat → Nat) : Nat → Nat → Bool
  | 0, _ => false
  | t + 1, e => q_ov a t e || q_cv a t e
theorem q_cEdges {I : Nat → Nat → Int32} (ha : q_now I a) (hc : q_cc a L (a 2)) : ∃ L', z_M 118 [.ref 45] (I, L, d) = some (nI (fb_ct (q_ov a (a 2)) 216), (I, L', d)) := by
  have o2 := ha.1.2.2.1
  obtain ⟨L1, k1, k2, k3⟩ := q_es_clear (o := 52) (by decide) I L d
  have hl : ∀ n t L, t + n = a 2 → q_es L 52 (q_ov a t) → (∀ u, u < a 2 → q_es L (54 + 2 * u) (q_cv a u)) → ∃ L', zl_Ch_edgesOver_9 (nI t) (I, L, d) = some (nI (fb_ct (q_ov a (a 2)) 216), (I, L', d)) := by
    intro n
    induction n with
    | zero =>
      intro t L ht hE _
      obtain rfl : t = a 2 := by omega
      refine ⟨L, ?_⟩
      rw [e_Ch_edgesOver_9]
      show (if I 33 0 ≤ nI (a 2) then _ else _) = _
      rw [show I 33 0 = nI (a 2) from ha.2.2.2.2.1, if_pos (nI_le (Nat.le_refl _) (by omega)), q_es_size (o := 52) (h := (I, L, d)) (by decide) hE, z_bd_some]
    | succ n ih =>
      intro t L ht hE hC
      obtain ⟨L2, j1, j2, j3⟩ := q_es_all (I := I) (d := d) (q_cvI t (by omega)).2.2.2.2.1 hE (hC t (by omega))
      obtain ⟨L', u1⟩ := ih (t + 1) L2 (by omega) j2 (fun u hu => (hC u hu).congr (fun k => j3 _ k (by omega)))
      refine ⟨L', ?_⟩
      rw [e_Ch_edgesOver_9]
      show (if I 33 0 ≤ nI t then _ else _) = _
      rw [show I 33 0 = nI (a 2) from ha.2.2.2.2.1, if_neg (nI_ge (by omega) (by omega)), q_inC (show t < 8 by omega) (by decide), nI_clamp (by omega), j1, z_bd_some, nI_1]
      exact u1
  obtain ⟨L', u1⟩ := hl (a 2) 0 L1 (by omega) k2 (fun u hu => (hc.2 u hu).congr (fun k => k3 _ k (by omega)))
  exact ⟨L', by rw [e_Ch_edgesOver, k1, z_bd_some]; exact u1⟩
theorem q_mEdges {I : Nat → Nat → Int32} (ho : q_ok a) (hst : ∀ j, j < 549 → I 123 j = q_v (a j)) : ∃ J, z_M 219 [.ref 122] (I, L, d) = some (nI (fb_ct (q_ov a (a 2)) 216), (J, L, d)) ∧ q_frQ I J := by
  have o2 := ho.2.2.1
  obtain ⟨H, eH⟩ : ∃ H : z_H, H = q_it (fun e h => z_wI h 133 (0 + e) 0) 0 216 (I, L, d) := ⟨_, rfl⟩
  have rH := q_fill (o := 133) (c := 0) (v := fun _ => 0) 216 0 (I, L, d)
  rw [← eH] at rH
  obtain ⟨I1, hH⟩ : ∃ I1, H = (I1, L, d) := ⟨H.1, by
    have : H.2 = (L, d) := rH.2
    exact Prod.ext rfl this⟩
  have r1 : ∀ o k, I1 o k = if o = 133 ∧ k < 216 then 0 else I o k := fun o k => by
    have g1 := rH.1 o k
    rw [hH, show (I1, L, d).1 o k = I1 o k from rfl] at g1
    rw [g1]
    by_cases hk : o = 133 ∧ k < 216
    · rw [if_pos (by omega), if_pos hk]
    · rw [if_neg (by omega), if_neg hk]
  have f1 : q_frQ I I1 := fun o k q1 q2 => by rw [r1, if_neg (by omega)]
  -- the inner walk
  have hin : ∀ t, ∀ n e (I : Nat → Nat → Int32) (M C : Nat → Bool), e + n = 216 → (∀ x, x < 216 → I 130 x = q_b (C x)) → (∀ x, x < e → I 133 x = q_b (M x || C x)) → (∀ x, e ≤ x → x < 216 → I 133 x = q_b (M x)) → ∃ J, zl_M_edgesOver_42 (nI t) (nI e) (I, L, d) = zl_M_edgesOver_24 (nI (t + 1)) (J, L, d) ∧ q_frQ I J ∧ ∀ x, x < 216 → J 133 x = q_b (M x || C x) := by
    intro t n
    induction n with
    | zero =>
      intro e I M C he h130 h1 h2
      obtain rfl : e = 216 := by omega
      exact ⟨I, by rw [e_M_edgesOver_42, if_pos (by decide), nI_1], q_frQ.refl, h1⟩
    | succ n ih =>
      intro e I M C he h130 h1 h2
      have ei : z_in (nI e) 216 = true := q_int (by omega) (by decide)
      have e1 : zl_M_edgesOver_42 (nI t) (nI e) (I, L, d) = zl_M_edgesOver_42 (nI t) (nI (e + 1)) (q_wr I 133 e (q_b (M e || C e)), L, d) := by
        rw [e_M_edgesOver_42, n_216, if_neg (nI_ge (by omega) (by decide)), ei, nI_clamp (by omega), nI_1]
        simp only [cond_true]
        show (if ¬ I 133 e = 0 then zl_M_edgesOver_42 (nI t) (nI (e + 1)) (q_wr I 133 e 1, L, d) else (if I 130 e = 0 then zl_M_edgesOver_42 (nI t) (nI (e + 1)) (q_wr I 133 e 0, L, d) else zl_M_edgesOver_42 (nI t) (nI (e + 1)) (q_wr I 133 e 1, L, d))) = _
        rw [h2 e (Nat.le_refl _) (by omega), h130 e (by omega)]
        cases M e with
        | true => rw [if_pos (by decide)]; rfl
        | false =>
          rw [if_neg (fun q => q (by decide))]
          cases C e with
          | false => rw [if_pos (by decide)]; rfl
          | true => rw [if_neg (by decide)]; rfl
      have fw : q_frQ I (q_wr I 133 e (q_b (M e || C e))) := fun o k q1 q2 => by rw [q_wr1, if_neg (by omega)]
      obtain ⟨J, u1, u2, u3⟩ := ih (e + 1) (q_wr I 133 e (q_b (M e || C e))) M C (by omega) (fun x hx => by rw [q_wr1, if_neg (by omega)]; exact h130 x hx) (fun x hx => by
        rw [q_wr1]
        by_cases hxe : x = e
        · rw [if_pos ⟨rfl, hxe⟩, hxe]
        · rw [if_neg (fun q => hxe q.2)]
          exact h1 x (by omega)) (fun x x1 x2 => by rw [q_wr1, if_neg (by omega)]; exact h2 x (by omega) x2)
      exact ⟨J, by rw [e1]; exact u1, fw.trans u2, u3⟩
  have hout : ∀ n t I, t + n = a 2 → (∀ j, j < 549 → I 123 j = q_v (a j)) → (∀ x, x < 216 → I 133 x = q_b (q_ov a t x)) → ∃ J, zl_M_edgesOver_24 (nI t) (I, L, d) = zl_M_edgesOver_94 0 0 (J, L, d) ∧ q_frQ I J ∧ ∀ x, x < 216 → J 133 x = q_b (q_ov a (a 2) x) := by
    intro n
    induction n with
    | zero =>
      intro t I ht hst h133
      obtain rfl : t = a 2 := by omega
      refine ⟨I, ?_, q_frQ.refl, h133⟩
      rw [e_M_edgesOver_24]
      show (if I 123 2 ≤ nI (a 2) then _ else _) = _
      rw [hst 2 (by omega), q_vn (by omega), if_pos (nI_le (Nat.le_refl _) (by omega))]
    | succ n ih =>
      intro t I ht hst h133
      obtain ⟨J1, k1, k2, k3⟩ := q_mRunT (L := L) (d := d) (p := 0) ho hst (by decide) (show t < a 2 by omega)
      obtain ⟨J2, j1, j2, j3⟩ := hin t 216 0 J1 (q_ov a t) (q_cv a t) rfl k2.2.2.2 (fun x hx => absurd hx (Nat.not_lt_zero x)) (fun x _ hx => (k3.1 133 x (by decide) (by decide) (by decide) (by decide)).trans (h133 x hx))
      obtain ⟨J, u1, u2, u3⟩ := ih (t + 1) J2 (by omega) ((k3.Q.trans j2).st hst) j3
      refine ⟨J, ?_, (k3.Q.trans j2).trans u2, u3⟩
      rw [e_M_edgesOver_24]
      show (if I 123 2 ≤ nI t then _ else _) = _
      rw [hst 2 (by omega), q_vn (by omega), if_neg (nI_ge (by omega) (by omega)), show z_M 168 [.ref 122, .int 0, .int (nI t)] (I, L, d) = _ from k1, z_bd_some, show zl_M_edgesOver_42 (nI t) 0 (J1, L, d) = _ from j1]
      exact u1
  obtain ⟨J, t1, t2, t3⟩ := hout (a 2) 0 I1 (by omega) (f1.st hst) (fun x hx => by rw [r1, if_pos ⟨rfl, hx⟩]; rfl)
  have hl : ∀ n e, e + n = 216 → zl_M_edgesOver_94 (nI (fb_ct (q_ov a (a 2)) e)) (nI e) (J, L, d) = some (nI (fb_ct (q_ov a (a 2)) 216), (J, L, d)) := by
    intro n
    induction n with
    | zero =>
      intro e he
      obtain rfl : e = 216 := by omega
      rw [e_M_edgesOver_94, if_pos (by decide)]
    | succ n ih =>
      intro e he
      have := ih (e + 1) (by omega)
      rw [fb_ct_succ] at this
      rw [e_M_edgesOver_94, n_216, if_neg (nI_ge (by omega) (by decide)), q_inC (show e < 216 by omega) (by decide), nI_clamp (by omega)]
      show z_bd (z_M 128 [.int (J 133 e)] (J, L, d)) _ = _
      rw [t3 e (by omega), q_flag, z_bd_some, q_bI, nI_add, nI_1]
      exact this
  refine ⟨J, ?_, f1.trans t2⟩
  have l1 := q_loop (L := fun x h => zl_M_edgesOver_2 x h) (K := fun h => zl_M_edgesOver_24 0 h) (N := 216) (w := fun i h => z_wI h 133 (0 + i) 0) (fun i h hi => by
    show zl_M_edgesOver_2 (nI i) h = _
    rw [e_M_edgesOver_2, n_216, if_neg (nI_ge hi (by decide)), q_inC hi (by decide), nI_clamp (by omega), Nat.zero_add]) (fun h => by
    show zl_M_edgesOver_2 (nI 216) h = _
    rw [e_M_edgesOver_2, if_pos (by decide)]) 216 0 (I, L, d) rfl
  rw [e_M_edgesOver]
  refine (show zl_M_edgesOver_2 0 (I, L, d) = _ from l1).trans ?_
  rw [← eH, hH]
  refine (show zl_M_edgesOver_24 0 (I1, L, d) = _ from t1).trans ?_
  exact hl 216 0 rfl
end QCN
theorem q_op28 : z_opok q_inv 28 220 1 := by
  rintro ⟨I, L, d⟩ hi as has
  obtain ⟨x, rfl⟩ := q_as1 has
  obtain ⟨⟨a, ha⟩, hg, hs, ht, -, -⟩ := id hi
  have ha : q_now I a := q_raw ha
  have hg : q_img I := q_rawI (h := (I, L, d)) hg
  have hs : q_shs I := q_rawS (h := (I, L, d)) hs
  show ∃ r h1 h2, z_M 28 [.ref 0, .int x] (I, L, d) = some (r, h1) ∧ z_M 220 [.ref 122, .int x] h1 = some (r, h2) ∧ q_inv h2
  rw [e_X_count]
  by_cases x0 : x = 0
  · obtain ⟨g0, b0, -⟩ := hg 0 (by decide)
    obtain ⟨g1, b1, -⟩ := hg 1 (by decide)
    have hb : ∀ k, (I 125 k = 0 ∨ I 125 k = 1) → ∃ b, I 125 k = q_b b := fun k h => by
      rcases h with h | h
      · exact ⟨false, h⟩
      · exact ⟨true, h⟩
    obtain ⟨v0, e0⟩ := hb 0 b0
    obtain ⟨v1, e1⟩ := hb 1 b1
    have g0 : I 72 0 = q_b v0 := g0.trans e0
    have g1 : I 93 0 = q_b v1 := g1.trans e1
    refine ⟨q_b v0 + q_b v1, (I, L, d), (I, L, d), ?_, ?_, hi⟩
    · have st : ∀ c k b, k < 2 → I (72 + 21 * k) 0 = q_b b → zl_X_imagesKept_4 c (nI k) (I, L, d) = zl_X_imagesKept_4 (c + q_b b) (nI (k + 1)) (I, L, d) := fun c k b hk h => by
        rw [e_X_imagesKept_4, n_2, if_neg (nI_ge hk (by decide)), q_inC hk (by decide), nI_clamp (by omega), nI_1]
        show (if I (72 + 21 * k) 0 = 0 then _ else _) = _
        rw [h]
        cases b with
        | false => rw [if_pos (by decide), show q_b false = 0 from rfl, Int32.add_zero]
        | true => rw [if_neg (by decide)]; rfl
      rw [if_pos x0, e_X_imagesKept, show zl_X_imagesKept_4 0 0 (I, L, d) = _ from st 0 0 v0 (by decide) g0, show zl_X_imagesKept_4 (0 + q_b v0) (nI (0 + 1)) (I, L, d) = _ from st _ 1 v1 (by decide) g1, e_X_imagesKept_4, if_pos (by decide), z_bd_some, Int32.zero_add]
    · rw [e_M_count, if_pos x0]
      show z_bd (z_M 128 [.int (I 125 0)] (I, L, d)) (fun r1 h2 => z_bd (z_M 128 [.int (h2.1 125 1)] h2) (fun r3 h4 => some (r1 + r3, h4))) = _
      rw [e0, q_flag, z_bd_some]
      show z_bd (z_M 128 [.int (I 125 1)] (I, L, d)) _ = _
      rw [e1, q_flag, z_bd_some]
  rw [if_neg x0]
  by_cases x1 : x = 1
  · refine ⟨_, (I, L, d), (I, L, d), by rw [if_pos x1, q_cCalls ha, z_bd_some], by rw [e_M_count, if_neg x0, if_pos x1, q_mCalls ha.1 ha.2.1, z_bd_some], hi⟩
  rw [if_neg x1]
  by_cases x2 : x = 2
  · obtain ⟨n, -, n2, n3, -⟩ := ht
    rw [q_mc rfl] at n2 n3
    have n2 : I 1 0 = nI n := n2
    have n3 : I 122 7 = nI n := n3
    refine ⟨nI n, (I, L, d), (I, L, d), ?_, ?_, hi⟩
    · rw [if_pos x2]
      show some (I 1 0, _) = _
      rw [n2]
    · rw [e_M_count, if_neg x0, if_neg x1, if_pos x2]
      show some (I 122 7, _) = _
      rw [n3]
  rw [if_neg x2]
  by_cases x3 : x = 3
  · have em : z_M 220 [.ref 122, .int x] (I, L, d) = (if ¬ I 137 0 = (-4) then some (I 138 0, (I, L, d)) else some ((-4), (I, L, d))) := by
      rw [e_M_count, if_neg x0, if_neg x1, if_neg x2, if_pos x3]
    rcases hs 0 (by decide) with ⟨c1, c2⟩ | ⟨c1, l, s, l3, s40, c2, -, c4, c5, -⟩
    · have c1 : I 114 0 = 0 := c1
      refine ⟨-4, (I, L, d), (I, L, d), ?_, ?_, hi⟩
      · rw [if_pos x3]
        show (if I 114 0 = 0 then _ else _) = _
        rw [c1, if_pos rfl]
      · rw [em, c2, if_neg (fun q => q rfl)]
    · have c1 : I 114 0 = 1 := c1
      have c5 : I 114 1 = nI s := c5
      refine ⟨nI s, (I, L, d), (I, L, d), ?_, ?_, hi⟩
      · rw [if_pos x3]
        show (if I 114 0 = 0 then _ else some (I 114 1, (I, L, d))) = _
        rw [c1, if_neg (by decide), c5]
      · rw [em, c2, if_pos (fun q => by
          have h1 : nI l < 0 := by rw [q]; decide
          exact nI_pos (by omega) h1), c4]
  rw [if_neg x3]
  by_cases x4 : x = 4
  · obtain ⟨I1, L1, d1, k1, k2, k3⟩ := q_cChoose (L := L) (d := d) ha
    have ha1 := k2.now ha
    obtain ⟨L2, j1⟩ := q_cEdges (d := d1) ha1 k3.2.2.2.2
    obtain ⟨J, m1, m2⟩ := q_mEdges (L := L2) (d := d1) ha1.1 ha1.2.1
    refine ⟨_, (I1, L2, d1), (J, L2, d1), by rw [if_pos x4, k1, z_bd_some, j1, z_bd_some], by rw [e_M_count, if_neg x0, if_neg x1, if_neg x2, if_neg x3, if_pos x4, m1, z_bd_some], hi.scr (h1 := (I1, L2, d1)) (fun o k q => k2.1 o k (by omega)) (m2.R (L := L2) (L' := L2) (d := d1) (d' := d1))⟩
  rw [if_neg x4]
  by_cases x5 : x = 5
  · refine ⟨_, (I, L, d), (I, L, d), by rw [if_pos x5, q_cOther ha, z_bd_some], by rw [e_M_count, if_neg x0, if_neg x1, if_neg x2, if_neg x3, if_neg x4, if_pos x5, q_mOther ha.1 ha.2.1, z_bd_some], hi⟩
  rw [if_neg x5]
  exact ⟨-1, (I, L, d), (I, L, d), rfl, by rw [e_M_count, if_neg x0, if_neg x1, if_neg x2, if_neg x3, if_neg x4, if_neg x5], hi⟩
