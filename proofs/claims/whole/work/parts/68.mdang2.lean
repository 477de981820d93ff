/-! THE PURE PART: the reference finds the edges in danger, whole; take, leave -/
section QM2
variable {a : Nat → Nat} {L : Nat → Nat → Int64} {d m : Nat}
def q_mE (I : Nat → Nat → Int32) (E : Nat → Bool) : Prop := ∀ e, e < 216 → I 131 e = q_b (E e)
theorem q_mMethod {I : Nat → Nat → Int32} {E : Nat → Bool} (ho : q_ok a) (hst : ∀ j, j < 549 → I 123 j = q_v (a j)) (hm : m < a 0) (hn : ¬ a (7 + m) = 0) (hE : q_mE I E) : ∃ I' E', z_M 171 [.ref 122, .int (nI m)] (I, L, d) = some (0, (I', L, d)) ∧ q_frE I I' ∧ q_mE I' E' ∧ ∀ e, E' e = true ↔ (E e = true ∨ q_D1 a m e) := by
  have o0 := ho.1
  have o7 := ho.2.2.2.1 m hm
  obtain ⟨H, eH⟩ : ∃ H, H = q_it (fun i h => z_wI h 132 (0 + i) 0) 0 64 (I, L, d) := ⟨_, rfl⟩
  have rH := q_fill (o := 132) (c := 0) (v := fun _ => 0) 64 0 (I, L, d)
  rw [← eH] at rH
  obtain ⟨rH1, rH2⟩ := rH
  obtain ⟨I1, hH⟩ : ∃ I1, H = (I1, L, d) := ⟨H.1, by
    have : H.2 = (L, d) := rH2
    exact Prod.ext rfl this⟩
  rw [hH] at rH1 eH
  have r1 : ∀ o k, I1 o k = if o = 132 ∧ k < 64 then 0 else I o k := fun o k => by
    have := rH1 o k
    rw [show (I1, L, d).1 o k = I1 o k from rfl] at this
    rw [this]
    by_cases hk : o = 132 ∧ k < 64
    · rw [if_pos (by omega), if_pos hk]
    · rw [if_neg (by omega), if_neg hk]
  have fr1 : q_frE I I1 := fun o k q1 q2 => by rw [r1, if_neg (by omega)]
  have hst1 := fr1.st hst
  have e1 : z_M 171 [.ref 122, .int (nI m)] (I, L, d) = (if ¬ q_b (q_al a m 0 0) = 0 then zl_M_findPairs_51 (nI m) 1 (q_wr I1 132 0 1, L, d) else some (0, (q_wr I1 131 (100 + m) 1, L, d))) := by
    have hl := q_loop (L := fun x h => zl_M_findPairs_2 (nI m) x h) (K := fun h => zl_M_findPairs_2 (nI m) (nI 64) h) (N := 64) (w := fun i h => z_wI h 132 (0 + i) 0) (fun i h hi => by
      show zl_M_findPairs_2 (nI m) (nI i) h = _
      rw [e_M_findPairs_2, n_64, if_neg (nI_ge hi (by decide)), q_inC hi (by decide), nI_clamp (by omega), Nat.zero_add]) (fun h => rfl) 64 0 (I, L, d) rfl
    have e100 : (100 : Int32) + nI m = nI (100 + m) := by rw [n_100, nI_add]
    rw [e_M_findPairs]
    refine (show zl_M_findPairs_2 (nI m) 0 (I, L, d) = _ from hl).trans ?_
    rw [← eH, e_M_findPairs_2, if_pos (by decide), show z_M 169 [.ref 122, .int (nI m), .int 0, .int 0] (I1, L, d) = _ from q_mAlike (i := 0) (j := 0) ho hst1 hm (by omega) (by omega), z_bd_some, e100, q_inC (show 100 + m < 216 by omega) (by decide), nI_clamp (by omega)]
    rfl
  rw [e1]
  have md1 : q_md I1 (fun _ => false) E := ⟨fun x hx => by rw [r1, if_pos ⟨rfl, hx⟩]; rfl, fun e he => by rw [r1, if_neg (by omega)]; exact hE e he⟩
  cases hal : q_al a m 0 0 with
  | false =>
    rw [if_neg (fun q => q (by decide))]
    refine ⟨_, q_pt E (100 + m), rfl, fr1.trans (q_frE.wr (Or.inl rfl)), (md1.edge (x := 100 + m)).2, fun e => ⟨fun h => ?_, fun h => ?_⟩⟩
    · rcases q_pt_or h with h | h
      · exact Or.inr ⟨hn, Or.inl ⟨hal, h⟩⟩
      · exact Or.inl h
    · rcases h with h | ⟨-, ⟨-, h⟩ | ⟨h, -⟩⟩
      · exact q_pt_le e h
      · rw [h]; exact q_pt_self
      · rw [hal] at h; cases h
  | true =>
    rw [if_pos (by decide)]
    have s00 : ∀ x, x < 64 → q_pt (fun _ => false) 0 x = true → q_P a m (x / 8) (x % 8) := fun x _ hx => by
      rcases q_pt_or hx with rfl | hx
      · exact q_P_0 a m
      · exact Bool.noConfusion hx
    have s0 : q_sd a m (q_pt (fun _ => false) 0) E E := ⟨s00, fun _ h => h, fun e h => Or.inl h⟩
    have fw : q_frE I1 (q_wr I1 132 0 1) := q_frE.wr (Or.inr rfl)
    obtain ⟨I', P', E', t1, t2, t3, t4, t5, t6⟩ := q_mPasses (L := L) (d := d) (E0 := E) ho hm hn hal 64 _ E (q_wr I1 132 0 1) (by omega) (fw.st hst1) md1.pair s0
    refine ⟨I', E', t1, (fr1.trans fw).trans t2, t3.2, fun e => ?_⟩
    have fin := t4.fin ho hm hn hal (t5 0 q_pt_self) t6 e
    rw [fin]
    constructor
    · rintro (h | h)
      · exact Or.inl h
      · exact Or.inr ⟨hn, Or.inr ⟨hal, h⟩⟩
    · rintro (h | ⟨-, ⟨h, -⟩ | ⟨-, h⟩⟩)
      · exact Or.inl h
      · rw [hal] at h; cases h
      · exact Or.inr h
theorem q_D1_lt {e : Nat} (ho : q_ok a) (hm : m < a 0) (h : q_D1 a m e) : e < 200 := by
  have o0 := ho.1
  have o7 := ho.2.2.2.1 m hm
  obtain ⟨hn, ⟨-, rfl⟩ | ⟨hal, i, j, k, hp, hk, -, rfl⟩⟩ := h
  · omega
  · have := q_P_ok ho hm hn hal hp
    have b0 := ho.2.2.2.2.1 0 m i (by decide) hm this.1
    omega
theorem q_mMethods (ho : q_ok a) : ∀ n m I E, m + n = a 0 → (∀ j, j < 549 → I 123 j = q_v (a j)) → q_mE I E → ∃ I' E', zl_M_findDanger_24 (nI m) (I, L, d) = zl_M_findDanger_59 0 (I', L, d) ∧ q_frE I I' ∧ q_mE I' E' ∧ ∀ e, E' e = true ↔ (E e = true ∨ ∃ m', m ≤ m' ∧ m' < a 0 ∧ q_D1 a m' e) := by
  have o0 := ho.1
  intro n
  induction n with
  | zero =>
    intro m I E hm hst hE
    refine ⟨I, E, ?_, q_frE.refl, hE, fun e => ⟨Or.inl, ?_⟩⟩
    · rw [e_M_findDanger_24]
      show (if I 123 0 ≤ nI m then _ else _) = _
      rw [hst 0 (by omega), q_vn (by omega), if_pos (nI_le (by omega) (by omega))]
    · rintro (h | ⟨m', h1, h2, -⟩)
      · exact h
      · omega
  | succ n ih =>
    intro m I E hm hst hE
    have o7 := ho.2.2.2.1 m (by omega)
    have e1 : zl_M_findDanger_24 (nI m) (I, L, d) = (if nI (a (7 + m)) ≤ 0 then zl_M_findDanger_24 (nI (m + 1)) (I, L, d) else z_bd (z_M 171 [.ref 122, .int (nI m)] (I, L, d)) (fun r1 h2 => zl_M_findDanger_24 (nI (m + 1)) h2)) := by
      have a2 : (7 : Int32) + nI m = nI (7 + m) := by rw [n_7, nI_add]
      rw [e_M_findDanger_24]
      show (if I 123 0 ≤ nI m then _ else _) = _
      rw [hst 0 (by omega), q_vn (by omega), if_neg (nI_ge (by omega) (by omega)), a2, q_inC (show 7 + m < 549 by omega) (by decide), nI_clamp (by omega), nI_1]
      show (if I 123 (7 + m) ≤ 0 then _ else _) = _
      rw [hst _ (by omega), q_vn (by omega)]
    rw [e1]
    by_cases hn : a (7 + m) = 0
    · obtain ⟨I', E', u1, u2, u3, u4⟩ := ih (m + 1) I E (by omega) hst hE
      refine ⟨I', E', by rw [hn, if_pos (by decide)]; exact u1, u2, u3, fun e => ?_⟩
      rw [u4]
      constructor
      · rintro (h | ⟨m', h1, h2, h3⟩)
        · exact Or.inl h
        · exact Or.inr ⟨m', by omega, h2, h3⟩
      · rintro (h | ⟨m', h1, h2, h3⟩)
        · exact Or.inl h
        · by_cases hmm : m' = m
          · rw [hmm] at h3
            exact absurd hn h3.1
          · exact Or.inr ⟨m', by omega, h2, h3⟩
    · obtain ⟨I1, E1, t1, t2, t3, t4⟩ := q_mMethod (L := L) (d := d) ho hst (show m < a 0 by omega) hn hE
      obtain ⟨I', E', u1, u2, u3, u4⟩ := ih (m + 1) I1 E1 (by omega) (t2.st hst) t3
      refine ⟨I', E', by rw [if_neg (nI_nle (by omega) (by omega)), t1, z_bd_some]; exact u1, t2.trans u2, u3, fun e => ?_⟩
      rw [u4, t4]
      constructor
      · rintro ((h | h) | ⟨m', h1, h2, h3⟩)
        · exact Or.inl h
        · exact Or.inr ⟨m, Nat.le_refl _, by omega, h⟩
        · exact Or.inr ⟨m', by omega, h2, h3⟩
      · rintro (h | ⟨m', h1, h2, h3⟩)
        · exact Or.inl (Or.inl h)
        · by_cases hmm : m' = m
          · rw [hmm] at h3
            exact Or.inl (Or.inr h3)
          · exact Or.inr ⟨m', by omega, h2, h3⟩
theorem q_mNames {c : Nat} (ho : q_ok a) (hc : c < a 1) : ∀ r n I E, n + r = 4 → (∀ j, j < 549 → I 123 j = q_v (a j)) → q_mE I E → (∀ e, 200 + 4 * c + n ≤ e → E e = false) → ∃ I' E', zl_M_findDanger_71 (nI c) (nI n) (I, L, d) = zl_M_findDanger_59 (nI (c + 1)) (I', L, d) ∧ q_frE I I' ∧ q_mE I' E' ∧ (∀ e, 200 + 4 * (c + 1) ≤ e → E' e = false) ∧ ∀ e, E' e = true ↔ (E e = true ∨ q_D2 a c n e) := by
  have o0 := ho.1
  have o1 := ho.2.1
  intro r
  induction r with
  | zero =>
    intro n I E hn hst hE hz
    obtain rfl : n = 4 := by omega
    refine ⟨I, E, by rw [e_M_findDanger_71, if_pos (by decide), nI_1], q_frE.refl, hE, fun e he => hz e (by omega), fun e => ⟨Or.inl, ?_⟩⟩
    rintro (h | ⟨n', h1, h2, -⟩)
    · exact h
    · omega
  | succ r ih =>
    intro n I E hn hst hE hz
    have m0 : z_M 159 [.ref 122, .int 0, .int (nI c), .int (nI n)] (I, L, d) = some (q_v (q_mean a 0 n 4 c), (I, L, d)) := q_meantM (p := 0) (h := (I, L, d)) (by decide) ho hst hc (by omega)
    have m1 : z_M 159 [.ref 122, .int 1, .int (nI c), .int (nI n)] (I, L, d) = some (q_v (q_mean a 1 n 4 c), (I, L, d)) := q_meantM (p := 1) (h := (I, L, d)) (by decide) ho hst hc (by omega)
    obtain ⟨x, hx⟩ : ∃ x, x = 200 + 4 * c + n := ⟨_, rfl⟩
    have e200 : (200 : Int32) + 4 * nI c + nI n = nI x := by rw [n_200, n_4, pk_mul, nI_add, nI_add, hx]
    have e1 : zl_M_findDanger_71 (nI c) (nI n) (I, L, d) = (if q_v (q_mean a 0 n 4 c) = q_v (q_mean a 1 n 4 c) then zl_M_findDanger_71 (nI c) (nI (n + 1)) (q_wr I 131 x 0, L, d) else zl_M_findDanger_71 (nI c) (nI (n + 1)) (q_wr I 131 x 1, L, d)) := by
      rw [e_M_findDanger_71, n_4, if_neg (nI_ge (by omega) (by decide)), ← n_4, e200, m0, z_bd_some, m1, z_bd_some, q_inC (show x < 216 by omega) (by decide), q_inC (show x < 216 by omega) (by decide), nI_clamp (by omega), nI_1]
      rfl
    rw [e1]
    have b0 := q_mean_b ho (p := 0) (by decide) (show n < 4 by omega) 4 c
    have b1 := q_mean_b ho (p := 1) (by decide) (show n < 4 by omega) 4 c
    by_cases he : q_mean a 0 n 4 c = q_mean a 1 n 4 c
    · have fw : q_frE I (q_wr I 131 x 0) := q_frE.wr (Or.inl rfl)
      have hE1 : q_mE (q_wr I 131 x 0) E := fun e he => by
        rw [q_wr1]
        by_cases hex : e = x
        · rw [if_pos ⟨rfl, hex⟩, hz e (by omega)]
          rfl
        · rw [if_neg (fun q => hex q.2)]
          exact hE e he
      rw [if_pos (by rw [he])]
      obtain ⟨I', E', u1, u2, u3, u4, u5⟩ := ih (n + 1) _ E (by omega) (fw.st hst) hE1 (fun e he => hz e (by omega))
      refine ⟨I', E', u1, fw.trans u2, u3, u4, fun e => ?_⟩
      rw [u5]
      constructor
      · rintro (h | ⟨n', h1, h2, h3⟩)
        · exact Or.inl h
        · exact Or.inr ⟨n', by omega, h2, h3⟩
      · rintro (h | ⟨n', h1, h2, h3⟩)
        · exact Or.inl h
        · by_cases hnn : n' = n
          · rw [hnn] at h3
            exact absurd he h3.1
          · exact Or.inr ⟨n', by omega, h2, h3⟩
    · have hv : ¬ q_v (q_mean a 0 n 4 c) = q_v (q_mean a 1 n 4 c) := fun q => by
        rcases b0 with h0 | h0 <;> rcases b1 with h1 | h1
        · exact he (h0.trans h1.symm)
        · rw [h0] at q
          exact q_vm (v := q_mean a 1 n 4 c) (by omega) q.symm
        · rw [h1] at q
          exact q_vm (v := q_mean a 0 n 4 c) (by omega) q
        · rw [q_vn (by omega), q_vn (by omega)] at q
          exact he ((nI_eq (by omega) (by omega)).mp q)
      have fw : q_frE I (q_wr I 131 x 1) := q_frE.wr (Or.inl rfl)
      have hE1 : q_mE (q_wr I 131 x 1) (q_pt E x) := fun e he => by
        rw [q_wr1]
        unfold q_pt
        by_cases hex : e = x
        · rw [if_pos ⟨rfl, hex⟩, decide_eq_true hex]
          rfl
        · rw [if_neg (fun q => hex q.2), decide_eq_false hex, Bool.false_or]
          exact hE e he
      rw [if_neg hv]
      obtain ⟨I', E', u1, u2, u3, u4, u5⟩ := ih (n + 1) _ _ (by omega) (fw.st hst) hE1 (fun e he => by
        unfold q_pt
        rw [decide_eq_false (by omega), hz e (by omega)]
        rfl)
      refine ⟨I', E', u1, fw.trans u2, u3, u4, fun e => ?_⟩
      rw [u5]
      constructor
      · rintro (h | ⟨n', h1, h2, h3⟩)
        · rcases q_pt_or h with h | h
          · exact Or.inr ⟨n, Nat.le_refl _, by omega, he, h.trans hx⟩
          · exact Or.inl h
        · exact Or.inr ⟨n', by omega, h2, h3⟩
      · rintro (h | ⟨n', h1, h2, h3⟩)
        · exact Or.inl (q_pt_le e h)
        · by_cases hnn : n' = n
          · rw [hnn] at h3
            rw [h3.2, ← hx]
            exact Or.inl q_pt_self
          · exact Or.inr ⟨n', by omega, h2, h3⟩
theorem q_mClasses (ho : q_ok a) : ∀ r c I E, c + r = a 1 → (∀ j, j < 549 → I 123 j = q_v (a j)) → q_mE I E → (∀ e, 200 + 4 * c ≤ e → E e = false) → ∃ I' E', zl_M_findDanger_59 (nI c) (I, L, d) = some (0, (I', L, d)) ∧ q_frE I I' ∧ q_mE I' E' ∧ ∀ e, E' e = true ↔ (E e = true ∨ ∃ c', c ≤ c' ∧ c' < a 1 ∧ q_D2 a c' 0 e) := by
  have o1 := ho.2.1
  intro r
  induction r with
  | zero =>
    intro c I E hc hst hE hz
    refine ⟨I, E, ?_, q_frE.refl, hE, fun e => ⟨Or.inl, ?_⟩⟩
    · rw [e_M_findDanger_59]
      show (if I 123 1 ≤ nI c then _ else _) = _
      rw [hst 1 (by omega), q_vn (by omega), if_pos (nI_le (by omega) (by omega))]
    · rintro (h | ⟨c', h1, h2, -⟩)
      · exact h
      · omega
  | succ r ih =>
    intro c I E hc hst hE hz
    obtain ⟨I1, E1, t1, t2, t3, t4, t5⟩ := q_mNames (L := L) (d := d) ho (show c < a 1 by omega) 4 0 I E rfl hst hE hz
    obtain ⟨I', E', u1, u2, u3, u4⟩ := ih (c + 1) I1 E1 (by omega) (t2.st hst) t3 t4
    refine ⟨I', E', ?_, t2.trans u2, u3, fun e => ?_⟩
    · rw [e_M_findDanger_59]
      show (if I 123 1 ≤ nI c then _ else _) = _
      rw [hst 1 (by omega), q_vn (by omega), if_neg (nI_ge (by omega) (by omega)), show zl_M_findDanger_71 (nI c) 0 (I, L, d) = _ from t1]
      exact u1
    · rw [u4, t5]
      constructor
      · rintro ((h | h) | ⟨c', h1, h2, h3⟩)
        · exact Or.inl h
        · exact Or.inr ⟨c, Nat.le_refl _, by omega, h⟩
        · exact Or.inr ⟨c', by omega, h2, h3⟩
      · rintro (h | ⟨c', h1, h2, h3⟩)
        · exact Or.inl (Or.inl h)
        · by_cases hcc : c' = c
          · rw [hcc] at h3
            exact Or.inl (Or.inr h3)
          · exact Or.inr ⟨c', by omega, h2, h3⟩
/-- the reference's table is that of the edges in danger -/
theorem q_mDanger {I : Nat → Nat → Int32} (ho : q_ok a) (hst : ∀ j, j < 549 → I 123 j = q_v (a j)) : ∃ I', z_M 172 [.ref 122] (I, L, d) = some (0, (I', L, d)) ∧ q_frE I I' ∧ q_mE I' (q_dg a) := by
  obtain ⟨H, eH⟩ : ∃ H, H = q_it (fun i h => z_wI h 131 (0 + i) 0) 0 216 (I, L, d) := ⟨_, rfl⟩
  have rH := q_fill (o := 131) (c := 0) (v := fun _ => 0) 216 0 (I, L, d)
  rw [← eH] at rH
  obtain ⟨rH1, rH2⟩ := rH
  obtain ⟨I1, hH⟩ : ∃ I1, H = (I1, L, d) := ⟨H.1, by
    have : H.2 = (L, d) := rH2
    exact Prod.ext rfl this⟩
  rw [hH] at rH1 eH
  have r1 : ∀ o k, I1 o k = if o = 131 ∧ k < 216 then 0 else I o k := fun o k => by
    have := rH1 o k
    rw [show (I1, L, d).1 o k = I1 o k from rfl] at this
    rw [this]
    by_cases hk : o = 131 ∧ k < 216
    · rw [if_pos (by omega), if_pos hk]
    · rw [if_neg (by omega), if_neg hk]
  have fr1 : q_frE I I1 := fun o k q1 q2 => by rw [r1, if_neg (by omega)]
  have hE0 : q_mE I1 (fun _ => false) := fun e he => by rw [r1, if_pos ⟨rfl, he⟩]; rfl
  obtain ⟨I2, E2, t1, t2, t3, t4⟩ := q_mMethods (L := L) (d := d) ho (a 0) 0 I1 _ (by omega) (fr1.st hst) hE0
  have hz : ∀ e, 200 + 4 * 0 ≤ e → E2 e = false := fun e he => by
    cases hE : E2 e with
    | false => rfl
    | true =>
      rcases (t4 e).mp hE with h | ⟨m, -, h2, h3⟩
      · cases h
      · have := q_D1_lt ho h2 h3
        omega
  obtain ⟨I3, E3, u1, u2, u3, u4⟩ := q_mClasses (L := L) (d := d) ho (a 1) 0 I2 E2 (by omega) ((fr1.trans t2).st hst) t3 hz
  have hD : ∀ e, E3 e = true ↔ q_D a e := fun e => by
    rw [u4, t4, q_D_iff]
    constructor
    · rintro ((h | ⟨m, -, h2, h3⟩) | ⟨c, -, h2, h3⟩)
      · exact Bool.noConfusion h
      · exact Or.inl ⟨m, h2, h3⟩
      · exact Or.inr ⟨c, h2, h3⟩
    · rintro (⟨m, h2, h3⟩ | ⟨c, h2, h3⟩)
      · exact Or.inl (Or.inr ⟨m, Nat.zero_le _, h2, h3⟩)
      · exact Or.inr ⟨c, Nat.zero_le _, h2, h3⟩
  have hE : ∀ e, E3 e = q_dg a e := q_dg_eq ho (fun e he => by
    cases hE : E3 e with
    | false => rfl
    | true =>
      have := q_D_lt ho ((hD e).mp hE)
      omega) (fun e _ => hD e)
  refine ⟨I3, ?_, (fr1.trans t2).trans u2, fun e he => by rw [u3 e he, hE]⟩
  have hl := q_loop (L := fun x h => zl_M_findDanger_2 x h) (K := fun h => zl_M_findDanger_2 (nI 216) h) (N := 216) (w := fun i h => z_wI h 131 (0 + i) 0) (fun i h hi => by
    show zl_M_findDanger_2 (nI i) h = _
    rw [e_M_findDanger_2, n_216, if_neg (nI_ge hi (by decide)), q_inC hi (by decide), nI_clamp (by omega), Nat.zero_add]) (fun h => rfl) 216 0 (I, L, d) rfl
  rw [e_M_findDanger]
  refine (show zl_M_findDanger_2 0 (I, L, d) = _ from hl).trans ?_
  rw [← eH, e_M_findDanger_2, if_pos (by decide), show zl_M_findDanger_24 0 (I1, L, d) = _ from t1]
  exact u1
theorem q_mDangers {I : Nat → Nat → Int32} (ho : q_ok a) (hst : ∀ j, j < 549 → I 123 j = q_v (a j)) : ∃ I', z_M 173 [.ref 122] (I, L, d) = some (nI (fb_ct (q_dg a) 216), (I', L, d)) ∧ q_frE I I' := by
  obtain ⟨I', k1, k2, k3⟩ := q_mDanger (L := L) (d := d) ho hst
  have hl : ∀ n e, e + n = 216 → zl_M_dangers_8 (nI (fb_ct (q_dg a) e)) (nI e) (I', L, d) = some (nI (fb_ct (q_dg a) 216), (I', L, d)) := by
    intro n
    induction n with
    | zero =>
      intro e he
      obtain rfl : e = 216 := by omega
      rw [e_M_dangers_8, if_pos (by decide)]
    | succ n ih =>
      intro e he
      have := ih (e + 1) (by omega)
      rw [fb_ct_succ] at this
      rw [e_M_dangers_8, n_216, if_neg (nI_ge (by omega) (by decide)), q_inC (show e < 216 by omega) (by decide), nI_clamp (by omega)]
      show z_bd (z_M 128 [.int (I' 131 e)] (I', L, d)) _ = _
      rw [k3 e (by omega), q_flag, z_bd_some, q_bI, nI_add, nI_1]
      exact this
  refine ⟨I', ?_, k2⟩
  rw [e_M_dangers, k1, z_bd_some]
  exact hl 216 0 rfl
theorem q_cDangers {I : Nat → Nat → Int32} (ha : q_now I a) : ∃ I' L', z_M 31 [.ref 0] (I, L, d) = some (nI (fb_ct (q_dg a) 216), (I', L', d)) ∧ q_frD I I' L L' := by
  obtain ⟨I', L', k1, k2, k3⟩ := q_cCompare (L := L) (d := d) ha
  refine ⟨I', L', ?_, k2⟩
  rw [e_X_edgesInDanger, k1, z_bd_some, q_es_size (o := 41) (h := (I', L', d)) (by decide) k3, z_bd_some]
end QM2
/-! take, leave -/
def q_tk (a : Nat → Nat) (t f : Nat) : Nat → Nat := fun j => if 13 + 256 * t ≤ j ∧ j < 269 + 256 * t then a (j - 256 * t + 256 * f) else a j
theorem q_tk_in {a : Nat → Nat} {t f c : Nat} (hc : c < 256) : q_tk a t f (13 + 256 * t + c) = a (13 + 256 * f + c) := by
  unfold q_tk
  rw [if_pos (by omega), show 13 + 256 * t + c - 256 * t + 256 * f = 13 + 256 * f + c by omega]
theorem q_tk_out {a : Nat → Nat} {t f j : Nat} (h : ¬ (13 + 256 * t ≤ j ∧ j < 269 + 256 * t)) : q_tk a t f j = a j := if_neg h
theorem q_ok.tk {a a' : Nat → Nat} (ho : q_ok a) (e : ∀ j, (j < 13 ∨ 525 ≤ j) → a' j = a j) (f : ∀ p, p < 2 → ∃ p', p' < 2 ∧ ∀ c, c < 256 → a' (13 + 256 * p + c) = a (13 + 256 * p' + c)) : q_ok a' := by
  obtain ⟨o0, o1, o2, o7, o5, o6, oh, ot⟩ := ho
  have e0 := e 0 (by omega)
  have e1 := e 1 (by omega)
  have e2 := e 2 (by omega)
  refine ⟨by rw [e0]; exact o0, by rw [e1]; exact o1, by rw [e2]; exact o2, fun m hm => ?_, fun p m i hp hm hi => ?_, fun c hc => ?_, fun p c n hp hc hn => ?_, fun t ht => ?_⟩
  · rw [e0] at hm
    rw [e (7 + m) (by omega)]
    exact o7 m hm
  · rw [e0] at hm
    rw [e (7 + m) (by omega)] at hi ⊢
    have h7 := o7 m hm
    obtain ⟨p', p1, p2⟩ := f p hp
    have g : ∀ c, c < 5 → a' (q_at p m i + c) = a (q_at p' m i + c) := fun c hc => by
      have := p2 (5 * (8 * m + i) + c) (by omega)
      unfold q_at
      rw [Nat.add_assoc (13 + 256 * p), this, Nat.add_assoc (13 + 256 * p')]
    obtain ⟨g1, g2, g3, g4, g5⟩ := o5 p' m i p1 hm hi
    rw [show a' (q_at p m i) = a (q_at p' m i) from g 0 (by omega), g 1 (by omega), g 2 (by omega)]
    refine ⟨g1, g2, g3, g4, fun k hk => ?_⟩
    rw [Nat.add_assoc, g (3 + k) (by omega), ← Nat.add_assoc]
    exact g5 k hk
  · rw [e1] at hc
    rw [e (3 + c) (by omega)]
    exact o6 c hc
  · rw [e1] at hc
    obtain ⟨p', p1, p2⟩ := f p hp
    have := p2 (240 + 4 * c + n) (by omega)
    rw [e0, show q_hs p c n = 13 + 256 * p + (240 + 4 * c + n) by unfold q_hs; omega, this, show 13 + 256 * p' + (240 + 4 * c + n) = q_hs p' c n by unfold q_hs; omega]
    exact oh p' c n p1 hc hn
  · rw [e2] at ht
    rw [e1, e _ (by omega), e _ (by omega), e _ (by omega)]
    exact ot t ht
theorem q_becomes {I : Nat → Nat → Int32} {L : Nat → Nat → Int64} {d t f ot of : Nat} {a : Nat → Nat} (hi : q_inv (I, L, d)) (ha : q_now I a) (htf : (t = 0 ∧ f = 1 ∧ ot = 17 ∧ of = 25) ∨ (t = 1 ∧ f = 0 ∧ ot = 25 ∧ of = 17)) : ∃ r h1 h2, z_bd (z_M 31 [.ref 0] (I, L, d)) (fun r1 h2 => z_bd (z_M 69 [.ref ot, .ref of] h2) (fun r3 h4 => some (r1, h4))) = some (r, h1) ∧ z_M 202 [.ref 122, .int (nI t), .int (nI f)] h1 = some (r, h2) ∧ q_inv h2 := by
  obtain ⟨I1, L1, k1, k2⟩ := q_cDangers (L := L) (d := d) ha
  have ha1 := k2.now ha
  have hin : (ot, of) ∈ [(17, 4), (25, 4), (17, 25), (25, 17), (73, 17), (94, 17), (81, 25), (102, 25), (17, 73), (17, 94), (25, 81), (25, 102)] := by
    rcases htf with ⟨-, -, rfl, rfl⟩ | ⟨-, -, rfl, rfl⟩ <;> decide
  obtain ⟨h2, b1, b2, b3⟩ := q_becP hin (I1, L1, d)
  obtain ⟨I2, L2, d2⟩ := h2
  have b2 : ∀ o' k, ¬ (ot ≤ o' ∧ o' ≤ ot + 7) → I2 o' k = I1 o' k := b2
  have b3 : ∀ j k, j < 8 → k < q_len j → I2 (ot + j) k = I1 (of + j) k := b3
  have hst2 : ∀ j, j < 549 → I2 123 j = q_v (a j) := fun j hj => by
    rw [b2 _ _ (by omega)]
    exact ha1.2.1 j hj
  obtain ⟨I3, m1, m2⟩ := q_mDangers (L := L2) (d := d2) ha.1 hst2
  have hst3 := m2.st hst2
  obtain ⟨H, eH⟩ : ∃ H, H = q_it (fun i h => z_wI h 123 (13 + 256 * t + i) (h.1 123 (13 + 256 * f + i))) 0 256 (I3, L2, d2) := ⟨_, rfl⟩
  have rH := (q_copy (o := 123) (c := 13 + 256 * t) (o2 := 123) (d := 13 + 256 * f) (N := 256) (fun i j _ _ => by omega) 256 0 (I3, L2, d2) (by omega)).1
  rw [← eH] at rH
  have e8 : ∀ r, zl_M_becomes_8 (nI t) (nI f) r 0 (I3, L2, d2) = some (r, H) := fun r => by
    rw [eH]
    refine q_loop (L := fun x h => zl_M_becomes_8 (nI t) (nI f) r x h) (K := fun h => some (r, h)) (N := 256) (fun i h hi => ?_) (fun h => ?_) 256 0 _ rfl
    · show zl_M_becomes_8 (nI t) (nI f) r (nI i) h = _
      have et : (13 : Int32) + 256 * nI t + nI i = nI (13 + 256 * t + i) := by rw [n_13, n_256, pk_mul, nI_add, nI_add]
      have ef : (13 : Int32) + 256 * nI f + nI i = nI (13 + 256 * f + i) := by rw [n_13, n_256, pk_mul, nI_add, nI_add]
      rw [e_M_becomes_8, et, ef, if_neg (show ¬ (256 : Int32) ≤ nI i from nI_ge (b := 256) hi (by decide)), q_inC (show 13 + 256 * f + i < 549 by omega) (by decide), q_inC (show 13 + 256 * t + i < 549 by omega) (by decide), nI_clamp (by omega), nI_clamp (by omega)]
    · show zl_M_becomes_8 (nI t) (nI f) r (nI 256) h = _
      rw [e_M_becomes_8, if_pos (by decide)]
  refine ⟨nI (fb_ct (q_dg a) 216), (I2, L2, d2), H, ?_, ?_, ?_⟩
  · rw [k1, z_bd_some, b1, z_bd_some]
  · rw [e_M_becomes, m1, z_bd_some]
    exact e8 _
  · have r1 : ∀ o k, o ≠ 123 → H.1 o k = I3 o k := fun o k q => (rH o k).trans (if_neg (by omega))
    have r2 : ∀ o k, ¬ (o = 122 ∧ 17 ≤ k ∧ k ≤ 28) → ¬ (123 ≤ o ∧ o ≤ 136) → H.1 o k = I2 o k := fun o k _ q2 => by
      rw [r1 o k (by omega), m2 o k (by omega) (by omega)]
    have hok : q_ok (q_tk a t f) := ha.1.tk (fun j hj => q_tk_out (by omega)) (fun p hp => by
      by_cases hpt : p = t
      · exact ⟨f, by omega, fun c hc => by rw [hpt]; exact q_tk_in hc⟩
      · exact ⟨p, hp, fun c hc => q_tk_out (by omega)⟩)
    have hx : q_inv (I1, L1, d) := hi.scr (h1 := (I1, L1, d)) k2.K q_frR.refl
    have hcore : ∀ o k, q_core o k = true → o ≠ 123 → ¬ (17 ≤ o ∧ o ≤ 36) → H.1 o k = I1 o k := fun o k hc q1 q2 => by
      obtain ⟨c1, c2, c3⟩ := q_core_no hc
      by_cases h124 : o = 124 ∨ o = 125 ∨ o = 127
      · rw [r1 o k q1, m2 o k (by omega) (by omega), b2 o k (by omega)]
      · by_cases h126 : o = 126
        · subst h126
          simp [q_core] at hc
        · rw [r2 o k c2 (by omega), b2 o k (by omega)]
    have hmid : q_inv ((fun o k => bif q_core o k then H.1 o k else I1 o k), L1, d) := hx.now (fun o k q1 q2 => by
      show (bif q_core o k then H.1 o k else I1 o k) = I1 o k
      cases hc : q_core o k with
      | false => rfl
      | true => exact hcore o k hc q1 q2) ⟨q_tk a t f, by
      have hw : q_now H.1 (q_tk a t f) := by
        refine ⟨hok, fun j hj => ?_, ?_, ?_, ?_⟩
        · rw [rH]
          by_cases hjt : 13 + 256 * t ≤ j ∧ j < 269 + 256 * t
          · rw [if_pos (by omega)]
            show I3 123 _ = _
            rw [hst3 _ (by omega)]
            have := q_tk_in (a := a) (t := t) (f := f) (c := j - (13 + 256 * t)) (by omega)
            rw [show 13 + 256 * t + (j - (13 + 256 * t)) = j by omega] at this
            rw [this]
          · rw [if_neg (by omega), q_tk_out hjt]
            exact hst3 j hj
        · have e17 : ∀ o k, 17 ≤ o → o ≤ 36 → H.1 o k = I2 o k := fun o k q1 q2 => r2 o k (by omega) (by omega)
          rcases htf with ⟨rfl, rfl, rfl, rfl⟩ | ⟨rfl, rfl, rfl, rfl⟩
          · have hc : q_prg I2 17 1 a := ha1.2.2.2.1.copy (o := 17) ha.1 b3
            exact (hc.mv (q := 0) ha.1 (fun j hj => q_tk_out (by omega)) (fun j hj => q_tk_in hj)).congr (fun o k q1 q2 => e17 o k (by omega) (by omega))
          · have hc : q_prg I2 17 0 a := ha1.2.2.1.congr (fun o k q1 q2 => b2 o k (by omega))
            exact (hc.mv (q := 0) ha.1 (fun j hj => q_tk_out (by omega)) (fun j hj => q_tk_out (by omega))).congr (fun o k q1 q2 => e17 o k (by omega) (by omega))
        · have e17 : ∀ o k, 17 ≤ o → o ≤ 36 → H.1 o k = I2 o k := fun o k q1 q2 => r2 o k (by omega) (by omega)
          rcases htf with ⟨rfl, rfl, rfl, rfl⟩ | ⟨rfl, rfl, rfl, rfl⟩
          · have hc : q_prg I2 25 1 a := ha1.2.2.2.1.congr (fun o k q1 q2 => b2 o k (by omega))
            exact (hc.mv (q := 1) ha.1 (fun j hj => q_tk_out (by omega)) (fun j hj => q_tk_out (by omega))).congr (fun o k q1 q2 => e17 o k (by omega) (by omega))
          · have hc : q_prg I2 25 0 a := ha1.2.2.1.copy (o := 25) ha.1 b3
            exact (hc.mv (q := 1) ha.1 (fun j hj => q_tk_out (by omega)) (fun j hj => q_tk_in hj)).congr (fun o k q1 q2 => e17 o k (by omega) (by omega))
        · refine (ha1.2.2.2.2.cgA (q_tk_out (by omega)) (fun j hj => q_tk_out (by omega))).congr (fun o k q1 q2 => ?_)
          rw [r2 o k (by omega) (by omega), b2 o k (by omega)]
      refine hw.congr (fun o k q => ?_)
      show (bif q_core o k then H.1 o k else I1 o k) = H.1 o k
      have : q_core o k = true := by
        rcases q with rfl | ⟨q1, q2⟩
        · rfl
        · unfold q_core
          rw [Nat.ble_eq_true_of_le q1, Nat.ble_eq_true_of_le q2]
          simp
      rw [this]
      rfl⟩
    exact hmid.congr (fun o k hc => by
      show H.1 o k = (bif q_core o k then H.1 o k else I1 o k)
      rw [hc]
      rfl)
theorem q_op17 : z_opok q_inv 17 203 0 := by
  rintro ⟨I, L, d⟩ hi as has
  have : as = [] := List.length_eq_zero_iff.mp has
  subst this
  obtain ⟨⟨a, ha⟩, -⟩ := id hi
  have ha : q_now I a := q_raw ha
  obtain ⟨r, h1, h2, k1, k2, k3⟩ := q_becomes hi ha (t := 0) (f := 1) (Or.inl ⟨rfl, rfl, rfl, rfl⟩)
  exact ⟨r, h1, h2, (e_X_take _).trans k1, (e_M_take _).trans (by rw [show z_M 202 [.ref 122, .int 0, .int 1] h1 = _ from k2, z_bd_some]), k3⟩
theorem q_op18 : z_opok q_inv 18 204 0 := by
  rintro ⟨I, L, d⟩ hi as has
  have : as = [] := List.length_eq_zero_iff.mp has
  subst this
  obtain ⟨⟨a, ha⟩, -⟩ := id hi
  have ha : q_now I a := q_raw ha
  obtain ⟨r, h1, h2, k1, k2, k3⟩ := q_becomes hi ha (t := 1) (f := 0) (Or.inr ⟨rfl, rfl, rfl, rfl⟩)
  exact ⟨r, h1, h2, (e_X_leave _).trans k1, (e_M_leave _).trans (by rw [show z_M 202 [.ref 122, .int 1, .int 0] h1 = _ from k2, z_bd_some]), k3⟩
