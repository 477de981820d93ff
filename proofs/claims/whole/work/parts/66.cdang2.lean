/-! THE PURE PART: the class finds the edges in danger, whole -/
/-- a method's own -/
def q_D1 (a : Nat → Nat) (m e : Nat) : Prop := ¬ a (7 + m) = 0 ∧ ((q_al a m 0 0 = false ∧ e = 100 + m) ∨ (q_al a m 0 0 = true ∧ ∃ i j k, q_P a m i j ∧ k < a (q_at 0 m i + 2) ∧ q_bad a m i j k ∧ e = 16 * m + 2 * i + k))
/-- a class's own, from a name on -/
def q_D2 (a : Nat → Nat) (c n e : Nat) : Prop := ∃ n', n ≤ n' ∧ n' < 4 ∧ q_mean a 0 n' 4 c ≠ q_mean a 1 n' 4 c ∧ e = 200 + 4 * c + n'
theorem q_D_iff {a : Nat → Nat} {e : Nat} : q_D a e ↔ (∃ m, m < a 0 ∧ q_D1 a m e) ∨ ∃ c, c < a 1 ∧ q_D2 a c 0 e := by
  constructor
  · rintro (⟨m, h1, h2, h3, h4⟩ | ⟨m, h1, h2, h3, h4⟩ | ⟨c, n, h1, h2, h3, h4⟩)
    · exact Or.inl ⟨m, h1, h2, Or.inl ⟨h3, h4⟩⟩
    · exact Or.inl ⟨m, h1, h2, Or.inr ⟨h3, h4⟩⟩
    · exact Or.inr ⟨c, h1, n, Nat.zero_le _, h2, h3, h4⟩
  · rintro (⟨m, h1, h2, ⟨h3, h4⟩ | ⟨h3, h4⟩⟩ | ⟨c, h1, n, -, h2, h3, h4⟩)
    · exact Or.inl ⟨m, h1, h2, h3, h4⟩
    · exact Or.inr (Or.inl ⟨m, h1, h2, h3, h4⟩)
    · exact Or.inr (Or.inr ⟨c, n, h1, h2, h3, h4⟩)
theorem q_fillI {o : Nat} (hk : z_K o = 20) (x : Int32) (I : Nat → Nat → Int32) (L : Nat → Nat → Int64) (d : Nat) : ∃ I', z_M 902 [.ref o, .int x] (I, L, d) = some (0, (I', L, d)) ∧ ∀ o' k, I' o' k = if o' = o then x else I o' k := ⟨(z_fiI (I, L, d) o x).1, q_fi hk x (I, L, d), fun o' k => q_fi1 (I, L, d) o x o' k⟩
theorem q_ct0 : fb_ct (fun _ => false) 64 = 0 := fb_ct_zero.mpr (fun _ _ => rfl)
section QC2
variable {a : Nat → Nat} {d m : Nat}
theorem q_cMethod {I : Nat → Nat → Int32} {L : Nat → Nat → Int64} {E : Nat → Bool} (hm : m < a 0) (ha : q_now I a) (hE : q_es L 41 E) : ∃ I' L' E', z_M 110 [.ref 40, .int (nI m)] (I, L, d) = some (0, (I', L', d)) ∧ q_frD I I' L L' ∧ q_es L' 41 E' ∧ ∀ e, E' e = true ↔ (E e = true ∨ q_D1 a m e) := by
  have o0 := ha.1.1
  have o7 := ha.1.2.2.2.1 m hm
  obtain ⟨I1, f1, f2⟩ := q_fillI (o := 43) (by decide +kernel) 0 (q_wr I 40 5 0) L d
  have fr1 : q_frD I I1 L L := ⟨fun o' k' hq => by rw [f2, if_neg (by omega), q_wr1, if_neg (by omega)], fun _ _ _ => rfl⟩
  have ha1 := fr1.now ha
  have h18 : I1 18 m = nI (a (7 + m)) := ha1.2.2.1.2.2.1 m hm
  have d0 : q_cd I1 L (fun _ => false) (fun _ => 0) 0 E := ⟨by rw [f2, if_neg (by omega), q_wr1, if_pos ⟨rfl, rfl⟩]; rfl, fun x _ => by rw [f2, if_pos rfl]; rfl, fun p hp => absurd hp (by omega), hE⟩
  have l0 : q_ls (fun _ => false) (fun _ => 0) 0 := ⟨q_ct0.symm, fun p hp => absurd hp (by omega), fun x _ q => Bool.noConfusion q⟩
  have e1 : z_M 110 [.ref 40, .int (nI m)] (I, L, d) = (if ¬ nI (a (7 + m)) = 0 then z_bd (z_M 112 [.ref 40, .int (nI m), .int 0, .int 0] (I1, L, d)) (fun r3 h4 => (if ¬ r3 = 0 then zl_Dg_compareMethod_49 (nI m) 0 h4 else z_bd (z_M 103 [.ref 41, .int (100 + nI m)] h4) (fun r5 h6 => zl_Dg_compareMethod_49 (nI m) 0 h6))) else some (0, (I1, L, d))) := by
    rw [e_Dg_compareMethod]
    show z_bd (z_M 902 [.ref 43, .int 0] (q_wr I 40 5 0, L, d)) _ = _
    rw [f1, z_bd_some, q_inC (show m < 6 by omega) (by decide), nI_clamp (by omega)]
    show (if ¬ I1 18 m = 0 then _ else _) = _
    rw [h18]
  rw [e1]
  by_cases hn : a (7 + m) = 0
  · refine ⟨I1, L, E, by rw [hn, if_neg (show ¬ ¬ nI 0 = 0 from fun q => q rfl)], fr1, hE, fun e => ⟨Or.inl, ?_⟩⟩
    rintro (h | h)
    · exact h
    · exact absurd hn h.1
  · rw [if_pos (show ¬ nI (a (7 + m)) = 0 from nI_ne0 (by omega) (by omega))]
    obtain ⟨I2, p1, p2, p3, p4⟩ := q_cPair (i := 0) (j := 0) (d := d) ha1 hm (by omega) (by omega) d0 l0
    rw [show z_M 112 [.ref 40, .int (nI m), .int 0, .int 0] (I1, L, d) = _ from p1, z_bd_some]
    cases hal : q_al a m 0 0 with
    | false =>
      have := p3 hal
      subst this
      have e100 : (100 : Int32) + nI m = nI (100 + m) := by rw [n_100, nI_add]
      obtain ⟨L2, u1, u2, u3⟩ := q_cPutD (d := d) (e := 100 + m) d0 (by omega)
      refine ⟨I2, L2, q_pt E (100 + m), ?_, fr1.trans u3, u2.2.2.2, fun e => ⟨fun h => ?_, fun h => ?_⟩⟩
      · rw [if_neg (fun q => q (by decide)), e100, u1, z_bd_some, e_Dg_compareMethod_49]
        show (if I2 40 5 ≤ 0 then _ else _) = _
        rw [d0.1, if_pos (by decide)]
      · rcases q_pt_or h with h | h
        · exact Or.inr ⟨hn, Or.inl ⟨hal, h⟩⟩
        · exact Or.inl h
      · rcases h with h | ⟨-, ⟨-, h⟩ | ⟨h, -⟩⟩
        · exact q_pt_le e h
        · rw [h]; exact q_pt_self
        · rw [hal] at h; cases h
    | true =>
      obtain ⟨q1, F1, u1, u2, u3, u4⟩ := p4 hal
      have s00 : ∀ x, x < 64 → q_pt (fun _ => false) (8 * 0 + 0) x = true → q_P a m (x / 8) (x % 8) := fun x _ hx => by
        rcases q_pt_or hx with rfl | hx
        · exact q_P_0 a m
        · exact Bool.noConfusion hx
      have s0 : q_sd a m (q_pt (fun _ => false) (8 * 0 + 0)) E E := ⟨s00, fun _ h => h, fun e h => Or.inl h⟩
      obtain ⟨I', L', P', E', q', F', t1, t2, t3, t4, t5, t6, t7⟩ := q_cFollow (d := d) (E0 := E) hm hn hal 64 0 _ E q1 F1 I2 L rfl (Nat.zero_le _) (p2.now ha1) u1 u2 s0 (fun p hp => absurd hp (by omega))
      refine ⟨I', L', E', ?_, (fr1.trans p2).trans t2, t3.2.2.2, fun e => ?_⟩
      · rw [if_pos (by decide)]
        exact t1
      · have fin := t5.fin ha.1 hm hn hal (t6 0 q_pt_self) (fun x hx hP k hk => by
          obtain ⟨p, p1, p2⟩ := t4.2.2 x hx hP
          have := t7 p p1
          rw [p2] at this
          exact this k hk) e
        rw [fin]
        constructor
        · rintro (h | h)
          · exact Or.inl h
          · exact Or.inr ⟨hn, Or.inr ⟨hal, h⟩⟩
        · rintro (h | ⟨-, ⟨h, -⟩ | ⟨-, h⟩⟩)
          · exact Or.inl h
          · rw [hal] at h; cases h
          · exact Or.inr h
theorem q_cMethods : ∀ n m I L E, m + n = a 0 → q_now I a → q_es L 41 E → ∃ I' L' E', zl_Dg_compare_9 (nI m) (I, L, d) = zl_Dg_compare_33 0 (I', L', d) ∧ q_frD I I' L L' ∧ q_es L' 41 E' ∧ ∀ e, E' e = true ↔ (E e = true ∨ ∃ m', m ≤ m' ∧ m' < a 0 ∧ q_D1 a m' e) := by
  intro n
  induction n with
  | zero =>
    intro m I L E hm ha hE
    have o0 := ha.1.1
    refine ⟨I, L, E, ?_, q_frD.refl, hE, fun e => ⟨Or.inl, ?_⟩⟩
    · rw [e_Dg_compare_9]
      show (if I 17 0 ≤ nI m then _ else _) = _
      rw [show I 17 0 = nI (a 0) from ha.2.2.1.1, if_pos (nI_le (by omega) (by omega))]
    · rintro (h | ⟨m', h1, h2, -⟩)
      · exact h
      · omega
  | succ n ih =>
    intro m I L E hm ha hE
    have o0 := ha.1.1
    obtain ⟨I1, L1, E1, t1, t2, t3, t4⟩ := q_cMethod (d := d) (show m < a 0 by omega) ha hE
    obtain ⟨I', L', E', u1, u2, u3, u4⟩ := ih (m + 1) I1 L1 E1 (by omega) (t2.now ha) t3
    refine ⟨I', L', E', ?_, t2.trans u2, u3, fun e => ?_⟩
    · rw [e_Dg_compare_9]
      show (if I 17 0 ≤ nI m then _ else _) = _
      rw [show I 17 0 = nI (a 0) from ha.2.2.1.1, if_neg (nI_ge (by omega) (by omega)), t1, z_bd_some, nI_1]
      exact u1
    · rw [u4, t4]
      constructor
      · rintro ((h | h) | ⟨m', h1, h2, h3⟩)
        · exact Or.inl h
        · exact Or.inr ⟨m, Nat.le_refl _, by omega, h⟩
        · exact Or.inr ⟨m', by omega, h2, h3⟩
      · rintro (h | ⟨m', h1, h2, h3⟩)
        · exact Or.inl (Or.inl h)
        · by_cases hmm : m' = m
          · rw [hmm] at h3
            exact Or.inl (Or.inr h3)
          · exact Or.inr ⟨m', by omega, h2, h3⟩
theorem q_cNames {c : Nat} (hc : c < a 1) : ∀ r n I L E, n + r = 4 → q_now I a → q_es L 41 E → ∃ L' E', zl_Dg_compare_46 (nI c) (nI n) (I, L, d) = zl_Dg_compare_33 (nI (c + 1)) (I, L', d) ∧ q_frD I I L L' ∧ q_es L' 41 E' ∧ ∀ e, E' e = true ↔ (E e = true ∨ q_D2 a c n e) := by
  intro r
  induction r with
  | zero =>
    intro n I L E hn ha hE
    obtain rfl : n = 4 := by omega
    refine ⟨L, E, by rw [e_Dg_compare_46, if_pos (by decide), nI_1], q_frD.refl, hE, fun e => ⟨Or.inl, ?_⟩⟩
    rintro (h | ⟨n', h1, h2, -⟩)
    · exact h
    · omega
  | succ r ih =>
    intro n I L E hn ha hE
    have o0 := ha.1.1
    have o1 := ha.1.2.1
    have m0 : z_M 79 [.ref 17, .int (nI c), .int (nI n)] (I, L, d) = some (q_v (q_mean a 0 n 4 c), (I, L, d)) := q_meantC (h := (I, L, d)) (by decide) (by decide) ha.1 ha.2.2.1 hc (by omega)
    have m1 : z_M 79 [.ref 25, .int (nI c), .int (nI n)] (I, L, d) = some (q_v (q_mean a 1 n 4 c), (I, L, d)) := q_meantC (h := (I, L, d)) (by decide) (by decide) ha.1 ha.2.2.2.1 hc (by omega)
    have e1 : zl_Dg_compare_46 (nI c) (nI n) (I, L, d) = (if q_v (q_mean a 0 n 4 c) = q_v (q_mean a 1 n 4 c) then zl_Dg_compare_46 (nI c) (nI (n + 1)) (I, L, d) else z_bd (z_M 103 [.ref 41, .int (nI (200 + 4 * c + n))] (I, L, d)) (fun r7 h8 => zl_Dg_compare_46 (nI c) (nI (n + 1)) h8)) := by
      rw [e_Dg_compare_46, n_4, if_neg (nI_ge (by omega) (by decide)), m0, z_bd_some, m1, z_bd_some, q_edgeC, z_bd_some, nI_1]
    rw [e1]
    have b0 := q_mean_b ha.1 (p := 0) (by decide) (show n < 4 by omega) 4 c
    have b1 := q_mean_b ha.1 (p := 1) (by decide) (show n < 4 by omega) 4 c
    by_cases he : q_mean a 0 n 4 c = q_mean a 1 n 4 c
    · rw [if_pos (by rw [he])]
      obtain ⟨L', E', u1, u2, u3, u4⟩ := ih (n + 1) I L E (by omega) ha hE
      refine ⟨L', E', u1, u2, u3, fun e => ?_⟩
      rw [u4]
      constructor
      · rintro (h | ⟨n', h1, h2, h3⟩)
        · exact Or.inl h
        · exact Or.inr ⟨n', by omega, h2, h3⟩
      · rintro (h | ⟨n', h1, h2, h3⟩)
        · exact Or.inl h
        · by_cases hnn : n' = n
          · rw [hnn] at h3
            exact absurd he h3.1
          · exact Or.inr ⟨n', by omega, h2, h3⟩
    · have hv : ¬ q_v (q_mean a 0 n 4 c) = q_v (q_mean a 1 n 4 c) := fun q => by
        rcases b0 with h0 | h0 <;> rcases b1 with h1 | h1
        · exact he (h0.trans h1.symm)
        · rw [h0] at q
          exact q_vm (v := q_mean a 1 n 4 c) (by omega) q.symm
        · rw [h1] at q
          exact q_vm (v := q_mean a 0 n 4 c) (by omega) q
        · rw [q_vn (by omega), q_vn (by omega)] at q
          exact he ((nI_eq (by omega) (by omega)).mp q)
      obtain ⟨L1, p1, p2, p3⟩ := q_es_put (o := 41) (I := I) (d := d) (e := 200 + 4 * c + n) (by decide) hE (by omega)
      have f1 : q_frD I I L L1 := ⟨fun _ _ _ => rfl, p3⟩
      obtain ⟨L', E', u1, u2, u3, u4⟩ := ih (n + 1) I L1 _ (by omega) ha p2
      refine ⟨L', E', by rw [if_neg hv, p1, z_bd_some]; exact u1, f1.trans u2, u3, fun e => ?_⟩
      rw [u4]
      constructor
      · rintro (h | ⟨n', h1, h2, h3⟩)
        · rcases q_pt_or h with h | h
          · exact Or.inr ⟨n, Nat.le_refl _, by omega, he, h⟩
          · exact Or.inl h
        · exact Or.inr ⟨n', by omega, h2, h3⟩
      · rintro (h | ⟨n', h1, h2, h3⟩)
        · exact Or.inl (q_pt_le e h)
        · by_cases hnn : n' = n
          · rw [hnn] at h3
            rw [h3.2]
            exact Or.inl q_pt_self
          · exact Or.inr ⟨n', by omega, h2, h3⟩
theorem q_cClasses : ∀ r c I L E, c + r = a 1 → q_now I a → q_es L 41 E → ∃ L' E', zl_Dg_compare_33 (nI c) (I, L, d) = some (0, (I, L', d)) ∧ q_frD I I L L' ∧ q_es L' 41 E' ∧ ∀ e, E' e = true ↔ (E e = true ∨ ∃ c', c ≤ c' ∧ c' < a 1 ∧ q_D2 a c' 0 e) := by
  intro r
  induction r with
  | zero =>
    intro c I L E hc ha hE
    have o1 := ha.1.2.1
    refine ⟨L, E, ?_, q_frD.refl, hE, fun e => ⟨Or.inl, ?_⟩⟩
    · rw [e_Dg_compare_33]
      show (if I 17 1 ≤ nI c then _ else _) = _
      rw [show I 17 1 = nI (a 1) from ha.2.2.1.2.1, if_pos (nI_le (by omega) (by omega))]
    · rintro (h | ⟨c', h1, h2, -⟩)
      · exact h
      · omega
  | succ r ih =>
    intro c I L E hc ha hE
    have o1 := ha.1.2.1
    obtain ⟨L1, E1, t1, t2, t3, t4⟩ := q_cNames (d := d) (show c < a 1 by omega) 4 0 I L E rfl ha hE
    obtain ⟨L', E', u1, u2, u3, u4⟩ := ih (c + 1) I L1 E1 (by omega) ha t3
    refine ⟨L', E', ?_, t2.trans u2, u3, fun e => ?_⟩
    · rw [e_Dg_compare_33]
      show (if I 17 1 ≤ nI c then _ else _) = _
      rw [show I 17 1 = nI (a 1) from ha.2.2.1.2.1, if_neg (nI_ge (by omega) (by omega)), show zl_Dg_compare_46 (nI c) 0 (I, L, d) = _ from t1]
      exact u1
    · rw [u4, t4]
      constructor
      · rintro ((h | h) | ⟨c', h1, h2, h3⟩)
        · exact Or.inl h
        · exact Or.inr ⟨c, Nat.le_refl _, by omega, h⟩
        · exact Or.inr ⟨c', by omega, h2, h3⟩
      · rintro (h | ⟨c', h1, h2, h3⟩)
        · exact Or.inl (Or.inl h)
        · by_cases hcc : c' = c
          · rw [hcc] at h3
            exact Or.inl (Or.inr h3)
          · exact Or.inr ⟨c', by omega, h2, h3⟩
/-- the class compares: its set is that of the edges in danger -/
theorem q_cCompare {I : Nat → Nat → Int32} {L : Nat → Nat → Int64} (ha : q_now I a) : ∃ I' L', z_M 109 [.ref 40] (I, L, d) = some (0, (I', L', d)) ∧ q_frD I I' L L' ∧ q_es L' 41 (q_dg a) := by
  obtain ⟨L1, k1, k2, k3⟩ := q_es_clear (o := 41) (by decide) I L d
  have f1 : q_frD I I L L1 := ⟨fun _ _ _ => rfl, k3⟩
  obtain ⟨I2, L2, E2, t1, t2, t3, t4⟩ := q_cMethods (d := d) (a 0) 0 I L1 _ (by omega) ha k2
  obtain ⟨L3, E3, u1, u2, u3, u4⟩ := q_cClasses (d := d) (a 1) 0 I2 L2 E2 (by omega) (t2.now ha) t3
  have hE : E3 = q_dg a := by
    funext e
    refine q_dg_eq ha.1 u3.1 (fun e _ => ?_) e
    rw [u4, t4, q_D_iff]
    constructor
    · rintro ((h | ⟨m, -, h2, h3⟩) | ⟨c, -, h2, h3⟩)
      · exact Bool.noConfusion h
      · exact Or.inl ⟨m, h2, h3⟩
      · exact Or.inr ⟨c, h2, h3⟩
    · rintro (⟨m, h2, h3⟩ | ⟨c, h2, h3⟩)
      · exact Or.inl (Or.inr ⟨m, Nat.zero_le _, h2, h3⟩)
      · exact Or.inr ⟨c, Nat.zero_le _, h2, h3⟩
  refine ⟨I2, L3, ?_, (f1.trans t2).trans u2, hE ▸ u3⟩
  rw [e_Dg_compare, k1, z_bd_some, show zl_Dg_compare_9 0 (I, L1, d) = _ from t1]
  exact u1
end QC2
