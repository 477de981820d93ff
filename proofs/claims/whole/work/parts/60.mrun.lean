/-! THE PURE PART: the reference's run: pictures, one node gone to -/
def q_rs (I : Nat → Nat → Int32) (s : q_R) : Prop := I 122 18 = nI s.2.1 ∧ I 122 19 = s.1 ∧ I 122 20 = nI s.2.2.1 ∧ ∀ e, e < 216 → I 130 e = q_b (s.2.2.2.1 e)
def q_frM (n : Nat) (I I' : Nat → Nat → Int32) : Prop := (∀ o k, o ≠ 122 → o ≠ 128 → o ≠ 129 → o ≠ 130 → I' o k = I o k) ∧ (∀ k, ¬ (17 ≤ k ∧ k ≤ 21) → I' 122 k = I 122 k) ∧ ∀ j, j < n → I' 128 j = I 128 j ∧ I' 129 j = I 129 j
theorem q_frM.refl {n : Nat} {I : Nat → Nat → Int32} : q_frM n I I := ⟨fun _ _ _ _ _ _ => rfl, fun _ _ => rfl, fun _ _ => ⟨rfl, rfl⟩⟩
theorem q_frM.trans {n : Nat} {I I' I2 : Nat → Nat → Int32} (h1 : q_frM n I I') (h2 : q_frM n I' I2) : q_frM n I I2 := ⟨fun o k q1 q2 q3 q4 => (h2.1 o k q1 q2 q3 q4).trans (h1.1 o k q1 q2 q3 q4), fun k q => (h2.2.1 k q).trans (h1.2.1 k q), fun j hj => ⟨((h2.2.2 j hj).1).trans (h1.2.2 j hj).1, ((h2.2.2 j hj).2).trans (h1.2.2 j hj).2⟩⟩
theorem q_frM.lo {n m : Nat} {I I' : Nat → Nat → Int32} (h : q_frM n I I') (hm : m ≤ n) : q_frM m I I' := ⟨h.1, h.2.1, fun j hj => h.2.2 j (by omega)⟩
theorem q_frM.st {n : Nat} {I I' : Nat → Nat → Int32} {a : Nat → Nat} (h : q_frM n I I') (hst : ∀ j, j < 549 → I 123 j = q_v (a j)) : ∀ j, j < 549 → I' 123 j = q_v (a j) := fun j hj => (h.1 123 j (by decide) (by decide) (by decide) (by decide)).trans (hst j hj)
/-- a place of Run's own written -/
theorem q_frM.wr {n : Nat} (I : Nat → Nat → Int32) {o k : Nat} (x : Int32) (h : (o = 122 ∧ 17 ≤ k ∧ k ≤ 21) ∨ (o = 128 ∧ n ≤ k) ∨ (o = 129 ∧ n ≤ k) ∨ o = 130) : q_frM n I (q_wr I o k x) := ⟨fun o' k' q1 q2 q3 q4 => by rw [q_wr1, if_neg (by omega)], fun k' q => by rw [q_wr1, if_neg (by omega)], fun j hj => ⟨by rw [q_wr1, if_neg (by omega)], by rw [q_wr1, if_neg (by omega)]⟩⟩
section QMR
variable {a : Nat → Nat} {p c b m i n : Nat} {s : q_R} {I : Nat → Nat → Int32} {L : Nat → Nat → Int64} {d : Nat}
theorem q_of (ho : q_ok a) (hp : p < 2) (hst : ∀ j, j < 549 → I 123 j = q_v (a j)) (hm : m < a 0) (hi : i < a (7 + m)) {k : Nat} (hk : k < 3 + a (q_at p m i + 2)) : z_M 158 [.ref 122, .int (nI p), .int (nI m), .int (nI i), .int (nI k)] (I, L, d) = some (nI (a (q_at p m i + k)), (I, L, d)) := by
  have o0 := ho.1
  have o7 := ho.2.2.2.1 m hm
  have bb := ho.2.2.2.2.1 p m i hp hm hi
  have hb := q_atb hp (show m < 6 by omega) (show i < 8 by omega)
  have h9 : a (q_at p m i + k) ≠ 999 := by
    by_cases h3 : k < 3
    · rcases (show k = 0 ∨ k = 1 ∨ k = 2 by omega) with rfl | rfl | rfl
      · rw [Nat.add_zero]; omega
      · omega
      · omega
    · have := bb.2.2.2.2 (k - 3) (by omega)
      rw [show q_at p m i + 3 + (k - 3) = q_at p m i + k by omega] at this
      omega
  rw [q_ofN hp (by omega) (by omega) (by omega)]
  show some (I 123 (q_at p m i + k), (I, L, d)) = _
  rw [hst _ (by omega), q_vn h9]
theorem q_mSays (x : Int32) : z_M 160 [.ref 122, .int x] (I, L, d) = some (0, (q_wr I 122 19 (31 * I 122 19 + x), L, d)) := e_M_says x (I, L, d)
/-- gone to a node, or cut off -/
theorem q_mGoTo (ho : q_ok a) (hp : p < 2) (hst : ∀ j, j < 549 → I 123 j = q_v (a j)) (hm : m < a 0) (hi : i < a (7 + m)) (hn : n ≤ 4) (h17 : I 122 17 = nI (n + 1)) (h128 : I 128 n = nI m) (hr : q_rs I s) (hk : q_sk s) : ∃ J, z_M 161 [.ref 122, .int (nI p), .int (nI i)] (I, L, d) = some (0, (J, L, d)) ∧ q_frM n I J ∧ ((60 ≤ s.2.1 ∧ q_rs J (q_ct s) ∧ J 122 21 = 1) ∨ (s.2.1 < 60 ∧ q_rs J (q_gt a p m i s) ∧ J 122 17 = nI (n + 1) ∧ J 122 21 = I 122 21 ∧ J 128 n = nI m ∧ J 129 n = nI i)) := by
  obtain ⟨r18, r19, r20, rE⟩ := hr
  have h60 := hk.1
  have bb := ho.2.2.2.2.1 p m i hp hm hi
  by_cases h6 : 60 ≤ s.2.1
  · refine ⟨q_wr I 122 21 1, ?_, q_frM.wr I 1 (Or.inl (by omega)), Or.inl ⟨h6, ⟨?_, ?_, ?_, fun e he => ?_⟩, ?_⟩⟩
    · rw [e_M_goesTo]
      show (if ¬ I 122 18 = 60 then _ else some (0, (q_wr I 122 21 1, L, d))) = _
      rw [r18, show s.2.1 = 60 by omega, if_neg (fun q => q rfl)]
    · rw [q_wr1, if_neg (by omega)]; exact r18
    · rw [q_wr1, if_neg (by omega)]; exact r19
    · rw [q_wr1, if_neg (by omega)]; exact r20
    · rw [q_wr1, if_neg (by omega)]; exact rE e he
    · rw [q_wr1, if_pos ⟨rfl, rfl⟩]
  · obtain ⟨J1, eJ1⟩ : ∃ J1, J1 = q_wr (q_wr I 122 18 (nI (s.2.1 + 1))) 129 n (nI i) := ⟨_, rfl⟩
    have n1 : ∀ o k, J1 o k = if o = 129 ∧ k = n then nI i else if o = 122 ∧ k = 18 then nI (s.2.1 + 1) else I o k := fun o k => by rw [eJ1, q_wr1, q_wr1]
    have fr1 : q_frM n I J1 := by
      rw [eJ1]
      exact (q_frM.wr I _ (Or.inl (by omega))).trans (q_frM.wr _ _ (Or.inr (Or.inr (Or.inl ⟨rfl, Nat.le_refl _⟩))))
    have hst1 := fr1.st hst
    have q1 : z_M 158 [.ref 122, .int (nI p), .int (nI m), .int (nI i), .int 1] (J1, L, d) = some (nI (a (q_at p m i + 1)), (J1, L, d)) := q_of (k := 1) ho hp hst1 hm hi (by omega)
    have q0 : z_M 158 [.ref 122, .int (nI p), .int (nI m), .int (nI i), .int 0] (J1, L, d) = some (nI (a (q_at p m i)), (J1, L, d)) := q_of (k := 0) ho hp hst1 hm hi (by omega)
    refine ⟨q_wr J1 122 19 (31 * s.1 + nI (a (q_at p m i + 1) + (if a (q_at p m i) = 1 then 11 else 1))), ?_, fr1.trans (q_frM.wr J1 _ (Or.inl (by omega))), Or.inr ⟨by omega, ⟨?_, ?_, ?_, fun e he => ?_⟩, ?_, ?_, ?_, ?_⟩⟩
    · rw [e_M_goesTo]
      have hx : ¬ I 122 18 = 60 := by
        rw [r18]
        intro q
        have := (nI_eq (b := 60) (by omega) (by decide)).mp q
        omega
      have e0 : I 122 17 - 1 = nI n := by rw [h17, nI_pred]
      have w17 : (q_wr I 122 18 (I 122 18 + 1)) 122 17 = I 122 17 := by rw [q_wr1, if_neg (by omega)]
      show (if ¬ I 122 18 = 60 then (bif z_in (I 122 17 - 1) 5 then (bif z_in ((q_wr I 122 18 (I 122 18 + 1)) 122 17 - 1) 5 then z_bd (z_M 158 [.ref 122, .int (nI p), .int (I 128 ((I 122 17 - 1).toNatClampNeg)), .int (nI i), .int 1] (q_wr (q_wr I 122 18 (I 122 18 + 1)) 129 (((q_wr I 122 18 (I 122 18 + 1)) 122 17 - 1).toNatClampNeg) (nI i), L, d)) (fun r1 h2 => z_bd (z_M 158 [.ref 122, .int (nI p), .int (I 128 ((I 122 17 - 1).toNatClampNeg)), .int (nI i), .int 0] h2) (fun r3 h4 => (if ¬ r3 = 0 then z_bd (z_M 160 [.ref 122, .int (r1 + 11)] h4) (fun r5 h6 => some (0, h6)) else z_bd (z_M 160 [.ref 122, .int (r1 + 1)] h4) (fun r7 h8 => some (0, h8))))) else none) else none) else _) = _
      rw [if_pos hx, w17, e0, q_inC (show n < 5 by omega) (by decide), q_inC (show n < 5 by omega) (by decide), nI_clamp (show n < 2 ^ 31 by omega), h128, r18, nI_1, ← eJ1, q1, z_bd_some, q0, z_bd_some]
      have j19 : J1 122 19 = s.1 := by rw [n1, if_neg (by omega), if_neg (by omega)]; exact r19
      by_cases hkd : a (q_at p m i) = 1
      · rw [if_pos (show ¬ nI (a (q_at p m i)) = 0 from nI_ne0 (by omega) (by omega)), q_mSays, z_bd_some, j19, if_pos hkd, show nI (a (q_at p m i + 1)) + 11 = nI (a (q_at p m i + 1) + 11) from nI_add _ 11]
      · rw [show a (q_at p m i) = 0 by omega, if_neg (show ¬ ¬ nI 0 = 0 from fun q => q rfl), q_mSays, z_bd_some, j19, if_neg (by decide), show nI (a (q_at p m i + 1)) + 1 = nI (a (q_at p m i + 1) + 1) from nI_add _ 1]
    · rw [q_wr1, if_neg (by omega), n1, if_neg (by omega), if_pos ⟨rfl, rfl⟩]; rfl
    · rw [q_wr1, if_pos ⟨rfl, rfl⟩]; rfl
    · rw [q_wr1, if_neg (by omega), n1, if_neg (by omega), if_neg (by omega)]; exact r20
    · rw [q_wr1, if_neg (by omega), n1, if_neg (by omega), if_neg (by omega)]; exact rE e he
    · rw [q_wr1, if_neg (by omega), n1, if_neg (by omega), if_neg (by omega)]; exact h17
    · rw [q_wr1, if_neg (by omega), n1, if_neg (by omega), if_neg (by omega)]
    · rw [q_wr1, if_neg (by omega), n1, if_neg (by omega), if_neg (by omega)]; exact h128
    · rw [q_wr1, if_neg (by omega), n1, if_pos ⟨rfl, rfl⟩]
/-- what the reference's loop comes to behind a method: over, or on in the one below -/
def q_af (p c b n : Nat) (L : Nat → Nat → Int64) (d : Nat) (I : Nat → Nat → Int32) (X : Option z_A) (s' : q_R) : Prop := ∃ I', q_frM n I I' ∧ q_rs I' s' ∧ (((s'.2.2.2.2 = true ∨ n = 0) ∧ X = some (0, (I', L, d))) ∨ (s'.2.2.2.2 = false ∧ 0 < n ∧ I' 122 17 = nI n ∧ I' 122 21 = 0 ∧ X = z_bd (zl_M_goesOn_2 (nI p) (nI b) 1 (I', L, d)) (fun _ h => zl_M_runs_77 (nI p) (nI c) (nI b) h)))
theorem q_af.fr {I I' : Nat → Nat → Int32} {X : Option z_A} {s' : q_R} (h : q_af p c b n L d I' X s') (f : q_frM n I I') : q_af p c b n L d I X s' := by
  obtain ⟨J, h1, h2⟩ := h
  exact ⟨J, f.trans h1, h2⟩
theorem q_mOver (h21 : I 122 21 = 1) : zl_M_runs_77 (nI p) (nI c) (nI b) (I, L, d) = some (0, (I, L, d)) := by
  rw [e_M_runs_77]
  show (if ¬ I 122 21 = 0 then _ else _) = _
  rw [h21, if_pos (by decide)]
/-- comes back from the method on top -/
theorem q_mBack (hn : n ≤ 4) (h17 : I 122 17 = nI (n + 1)) (hr : q_rs I s) (hcut : s.2.2.2.2 = false) : q_af p c b n L d I (z_bd (zl_M_goesOn_152 (nI p) (nI b) 9 1 (I, L, d)) (fun _ h => zl_M_runs_77 (nI p) (nI c) (nI b) h)) s := by
  obtain ⟨r18, r19, r20, rE⟩ := hr
  obtain ⟨J, eJ⟩ : ∃ J, J = q_wr (q_wr I 122 17 (nI n)) 122 21 (if n = 0 then 1 else 0) := ⟨_, rfl⟩
  have n1 : ∀ o k, J o k = if o = 122 ∧ k = 21 then (if n = 0 then 1 else 0) else if o = 122 ∧ k = 17 then nI n else I o k := fun o k => by rw [eJ, q_wr1, q_wr1]
  have fr : q_frM n I J := by
    rw [eJ]
    exact (q_frM.wr I _ (Or.inl (by omega))).trans (q_frM.wr _ _ (Or.inl (by omega)))
  have hr' : q_rs J s := by
    refine ⟨?_, ?_, ?_, fun e he => ?_⟩
    · rw [n1, if_neg (by omega), if_neg (by omega)]; exact r18
    · rw [n1, if_neg (by omega), if_neg (by omega)]; exact r19
    · rw [n1, if_neg (by omega), if_neg (by omega)]; exact r20
    · rw [n1, if_neg (by omega), if_neg (by omega)]; exact rE e he
  have e162 : z_M 162 [.ref 122] (I, L, d) = some (0, (J, L, d)) := by
    rw [e_M_comesBack]
    have e0 : I 122 17 - 1 = nI n := by rw [h17, nI_pred]
    show (if ¬ (q_wr I 122 17 (I 122 17 - 1)) 122 17 = 0 then some (0, (q_wr (q_wr I 122 17 (I 122 17 - 1)) 122 21 0, L, d)) else some (0, (q_wr (q_wr I 122 17 (I 122 17 - 1)) 122 21 1, L, d))) = _
    have w17 : q_wr I 122 17 (nI n) 122 17 = nI n := by rw [q_wr1, if_pos ⟨rfl, rfl⟩]
    rw [e0, w17, eJ]
    by_cases h0 : n = 0
    · rw [h0, if_neg (show ¬ ¬ nI 0 = 0 from fun q => q rfl), if_pos rfl]
    · rw [if_pos (show ¬ nI n = 0 from nI_ne0 (by omega) (by omega)), if_neg h0]
  have e152 : zl_M_goesOn_152 (nI p) (nI b) 9 1 (I, L, d) = zl_M_goesOn_2 (nI p) (nI b) 1 (J, L, d) := by
    rw [e_M_goesOn_152, if_neg (by decide), e162, z_bd_some]
  rw [e152]
  refine ⟨J, fr, hr', ?_⟩
  by_cases h0 : n = 0
  · have h21 : J 122 21 = 1 := by rw [n1, if_pos ⟨rfl, rfl⟩, if_pos h0]
    refine Or.inl ⟨Or.inr h0, ?_⟩
    have e2 : zl_M_goesOn_2 (nI p) (nI b) 1 (J, L, d) = some (0, (J, L, d)) := by
      rw [e_M_goesOn_2, if_neg (by decide)]
      show (if ¬ J 122 21 = 0 then some (0, (J, L, d)) else _) = _
      rw [h21, if_pos (by decide)]
    rw [e2, z_bd_some]
    exact q_mOver h21
  · refine Or.inr ⟨hcut, by omega, ?_, ?_, rfl⟩
    · rw [n1, if_neg (by omega), if_pos ⟨rfl, rfl⟩]
    · rw [n1, if_pos ⟨rfl, rfl⟩, if_neg h0]
theorem q_bitM {b k : Nat} (hb : b < 256) (hk : k < 2 ^ 31) : (nI b >>> ((nI k - nI k / 8 * 8) &&& 31)) &&& 1 = nI (b / 2 ^ (k % 8) % 2) := by
  rw [show nI k - nI k / 8 * 8 = nI (k % 8) from pk_rem (d := 8) hk (by decide) (by decide), pk_andN (n := k % 8) (m := 31) (by omega) 5 (by decide), show k % 8 % 2 ^ 5 = k % 8 by omega, pk_shrN (by omega) _ (k % 8) (q_smod8 _ (by omega)), pk_andN (m := 1) (Nat.lt_of_le_of_lt (Nat.div_le_self _ _) (by omega)) 1 (by decide)]
/-- on from the node on top: the next one, or back -/
theorem q_mOn (ho : q_ok a) (hp : p < 2) (hb : b < 256) (hst : ∀ j, j < 549 → I 123 j = q_v (a j)) (hm : m < a 0) (hi : i < a (7 + m)) (hn : n ≤ 4) (h17 : I 122 17 = nI (n + 1)) (h21 : I 122 21 = 0) (h128 : I 128 n = nI m) (h129 : I 129 n = nI i) (hr : q_rs I s) (hk : q_sk s) (ha : s.2.2.1 ≤ s.2.1) (hcut : s.2.2.2.2 = false) : ∃ J, q_frM n I J ∧ q_rs J (q_go a p m i b s) ∧ J 122 17 = nI (n + 1) ∧ J 122 21 = 0 ∧ J 128 n = nI m ∧ zl_M_goesOn_2 (nI p) (nI b) 1 (I, L, d) = zl_M_goesOn_140 (nI p) (nI b) (nI (q_nx a p m i b s)) (J, L, d) := by
  obtain ⟨r18, r19, r20, rE⟩ := id hr
  have h60 := hk.1
  have o0 := ho.1
  have o7 := ho.2.2.2.1 m hm
  have bb := ho.2.2.2.2.1 p m i hp hm hi
  have e0 : I 122 17 - 1 = nI n := by rw [h17, nI_pred]
  have q2 : z_M 158 [.ref 122, .int (nI p), .int (nI m), .int (nI i), .int 2] (I, L, d) = some (nI (a (q_at p m i + 2)), (I, L, d)) := q_of (k := 2) ho hp hst hm hi (by omega)
  have e2 : zl_M_goesOn_2 (nI p) (nI b) 1 (I, L, d) = (if nI (a (q_at p m i + 2)) ≤ 0 then zl_M_goesOn_140 (nI p) (nI b) 9 (I, L, d) else (if ¬ nI (a (q_at p m i + 2)) = 1 then zl_M_goesOn_81 (nI p) (nI b) (nI m) (nI i) (nI (a (q_at p m i + 2))) (nI (b / 2 ^ (s.2.2.1 % 8) % 2)) (I, L, d) else zl_M_goesOn_81 (nI p) (nI b) (nI m) (nI i) (nI (a (q_at p m i + 2))) 0 (I, L, d))) := by
    rw [e_M_goesOn_2, if_neg (by decide)]
    show (if ¬ I 122 21 = 0 then _ else (bif z_in (I 122 17 - 1) 5 then (bif z_in (I 122 17 - 1) 5 then z_bd (z_M 158 [.ref 122, .int (nI p), .int (I 128 ((I 122 17 - 1).toNatClampNeg)), .int (I 129 ((I 122 17 - 1).toNatClampNeg)), .int 2] (I, L, d)) _ else none) else none)) = _
    rw [h21, if_neg (fun q => q rfl), e0, q_inC (show n < 5 by omega) (by decide), q_inC (show n < 5 by omega) (by decide), nI_clamp (show n < 2 ^ 31 by omega), h128, h129, q2, z_bd_some]
    show (if nI (a (q_at p m i + 2)) ≤ 0 then zl_M_goesOn_140 (nI p) (nI b) 9 (I, L, d) else (if ¬ nI (a (q_at p m i + 2)) = 1 then zl_M_goesOn_81 (nI p) (nI b) (I 128 n) (I 129 n) (nI (a (q_at p m i + 2))) ((nI b >>> (((I 122 20) - (I 122 20) / 8 * 8) &&& 31)) &&& 1) (I, L, d) else zl_M_goesOn_81 (nI p) (nI b) (I 128 n) (I 129 n) (nI (a (q_at p m i + 2))) 0 (I, L, d))) = _
    rw [h128, h129, r20, q_bitM hb (by omega)]
  unfold q_nx q_go
  by_cases h0 : a (q_at p m i + 2) = 0
  · rw [if_pos h0, if_pos h0]
    refine ⟨I, q_frM.refl, hr, h17, h21, h128, ?_⟩
    rw [e2, h0, if_pos (by decide)]
    rfl
  · rw [if_neg h0, if_neg h0]
    have hkb := q_nk_b (b := b) ho hp hm hi s h0
    obtain ⟨K, hK⟩ : ∃ K, K = q_nk a p m i b s := ⟨_, rfl⟩
    rw [← hK] at hkb ⊢
    obtain ⟨W, hW⟩ : ∃ W, W = (if a (q_at p m i + 2) = 2 then 1 else 0) := ⟨_, rfl⟩
    rw [← hW]
    have e81 : zl_M_goesOn_2 (nI p) (nI b) 1 (I, L, d) = zl_M_goesOn_81 (nI p) (nI b) (nI m) (nI i) (nI (a (q_at p m i + 2))) (nI K) (I, L, d) := by
      rw [e2, if_neg (nI_nle (by omega) (by omega))]
      by_cases h1 : a (q_at p m i + 2) = 1
      · rw [h1, if_neg (show ¬ ¬ nI 1 = 1 from fun q => q rfl), hK]
        unfold q_nk
        rw [if_pos h1]
        rfl
      · rw [if_pos (show ¬ nI (a (q_at p m i + 2)) = 1 from fun q => h1 ((nI_eq (by omega) (by decide)).mp q)), hK]
        unfold q_nk
        rw [if_neg h1]
    obtain ⟨J1, eJ1⟩ : ∃ J1, J1 = q_wr I 122 20 (nI (s.2.2.1 + W)) := ⟨_, rfl⟩
    have n1 : ∀ o k, J1 o k = if o = 122 ∧ k = 20 then nI (s.2.2.1 + W) else I o k := fun o k => by rw [eJ1, q_wr1]
    have fr1 : q_frM n I J1 := by rw [eJ1]; exact q_frM.wr I _ (Or.inl (by omega))
    have e99 : zl_M_goesOn_81 (nI p) (nI b) (nI m) (nI i) (nI (a (q_at p m i + 2))) (nI K) (I, L, d) = z_bd (z_M 158 [.ref 122, .int (nI p), .int (nI m), .int (nI i), .int (3 + nI K)] (J1, L, d)) (fun r3 h4 => (bif z_in (((16 * nI m) + (2 * nI i)) + nI K) 216 then zl_M_goesOn_140 (nI p) (nI b) r3 (z_wI h4 130 ((((16 * nI m) + (2 * nI i)) + nI K).toNatClampNeg) 1) else none)) := by
      rw [e_M_goesOn_81]
      by_cases h2 : a (q_at p m i + 2) = 2
      · rw [h2, if_neg (show ¬ ¬ nI 2 = 2 from fun q => q rfl), e_M_goesOn_99, e_M_flag, if_neg (by decide), z_bd_some]
        show z_bd (z_M 158 _ (q_wr I 122 20 (I 122 20 + 1), L, d)) _ = _
        rw [r20, nI_1, eJ1, hW, if_pos h2]
      · rw [if_pos (show ¬ nI (a (q_at p m i + 2)) = 2 from fun q => h2 ((nI_eq (by omega) (by decide)).mp q)), e_M_goesOn_99, e_M_flag, if_pos rfl, z_bd_some]
        show z_bd (z_M 158 _ (q_wr I 122 20 (I 122 20 + 0), L, d)) _ = _
        rw [r20, show nI s.2.2.1 + 0 = nI (s.2.2.1 + 0) from nI_add _ 0, eJ1, hW, if_neg h2]
    have q3 : z_M 158 [.ref 122, .int (nI p), .int (nI m), .int (nI i), .int (nI (3 + K))] (J1, L, d) = some (nI (a (q_at p m i + (3 + K))), (J1, L, d)) := q_of (k := 3 + K) ho hp (fr1.st hst) hm hi (by omega)
    refine ⟨q_wr J1 130 (16 * m + 2 * i + K) 1, fr1.trans (q_frM.wr J1 _ (Or.inr (Or.inr (Or.inr rfl)))), ⟨?_, ?_, ?_, fun e he => ?_⟩, ?_, ?_, ?_, ?_⟩
    · rw [q_wr1, if_neg (by omega), n1, if_neg (by omega)]; exact r18
    · rw [q_wr1, if_neg (by omega), n1, if_neg (by omega)]; exact r19
    · rw [q_wr1, if_neg (by omega), n1, if_pos ⟨rfl, rfl⟩]; rfl
    · rw [q_wr1]
      show _ = q_b (decide (e = 16 * m + 2 * i + K) || s.2.2.2.1 e)
      by_cases he2 : e = 16 * m + 2 * i + K
      · rw [if_pos ⟨rfl, he2⟩, decide_eq_true he2]; rfl
      · rw [if_neg (fun q => he2 q.2), n1, if_neg (by omega), decide_eq_false he2, Bool.false_or]; exact rE e he
    · rw [q_wr1, if_neg (by omega), n1, if_neg (by omega)]; exact h17
    · rw [q_wr1, if_neg (by omega), n1, if_neg (by omega)]; exact h21
    · rw [q_wr1, if_neg (by omega), n1, if_neg (by omega)]; exact h128
    · have e3 : (3 : Int32) + nI K = nI (3 + K) := by rw [n_3, nI_add]
      have e16 : (16 : Int32) * nI m + 2 * nI i + nI K = nI (16 * m + 2 * i + K) := by rw [n_16, n_2, pk_mul, pk_mul, nI_add, nI_add]
      rw [e81, e99, e3, q3, z_bd_some, e16, q_inC (show 16 * m + 2 * i + K < 216 by omega) (by decide), nI_clamp (by omega), show q_at p m i + (3 + K) = q_at p m i + 3 + K by omega]
      rfl
end QMR
