/-! THE PURE PART: runs of tests by both sides; said, same -/
def q_frK (h h' : z_H) : Prop := ∀ o k, ¬ (37 ≤ o ∧ o ≤ 71) → h'.1 o k = h.1 o k
def q_frR (h h' : z_H) : Prop := ∀ o k, ¬ (o = 122 ∧ 17 ≤ k ∧ k ≤ 28) → ¬ (128 ≤ o ∧ o ≤ 136) → h'.1 o k = h.1 o k
theorem q_frK.refl {h : z_H} : q_frK h h := fun _ _ _ => rfl
theorem q_frR.refl {h : z_H} : q_frR h h := fun _ _ _ _ => rfl
theorem q_frK.trans {h h1 h2 : z_H} (a : q_frK h h1) (b : q_frK h1 h2) : q_frK h h2 := fun o k q => (b o k q).trans (a o k q)
theorem q_frR.trans {h h1 h2 : z_H} (a : q_frR h h1) (b : q_frR h1 h2) : q_frR h h2 := fun o k q1 q2 => (b o k q1 q2).trans (a o k q1 q2)
theorem q_frC.K {I I' : Nat → Nat → Int32} {L L' : Nat → Nat → Int64} {d d' : Nat} (h : q_frC I I' L L') : q_frK (I, L, d) (I', L', d') := fun o k q => h.1 o k (by omega)
theorem q_frM.R {I I' : Nat → Nat → Int32} {L L' : Nat → Nat → Int64} {d d' : Nat} (h : q_frM 0 I I') : q_frR (I, L, d) (I', L', d') := fun o k q1 q2 => by
  show I' o k = I o k
  by_cases h2 : o = 122
  · subst h2
    exact h.2.1 k (by omega)
  · exact h.1 o k h2 (by omega) (by omega) (by omega)
theorem q_core_no {o k : Nat} (h : q_core o k = true) : ¬ (37 ≤ o ∧ o ≤ 71) ∧ ¬ (o = 122 ∧ 17 ≤ k ∧ k ≤ 28) ∧ ¬ (128 ≤ o ∧ o ≤ 136) := by
  unfold q_core at h
  simp only [Bool.or_eq_true, Bool.and_eq_true] at h
  have eb : ∀ {x y : Nat}, Nat.beq x y = true → x = y := fun {x y} q => Nat.eq_of_beq_eq_true q
  have le : ∀ {x y : Nat}, Nat.ble x y = true → x ≤ y := fun {x y} q => Nat.le_of_ble_eq_true q
  rcases h with ((((((((h | h) | h) | h) | h) | h) | h) | h) | h) <;> first
    | (have h1 := eb h.1; have h2 := eb h.2; omega)
    | (have h1 := eb h.1; have h2 := le h.2; omega)
    | (have h1 := le h.1; have h2 := le h.2; omega)
    | (have h1 := eb h; omega)
    | (obtain ⟨h1, h2⟩ := h; have h1 := eb h1; rcases h2 with (h2 | h2) | h2 <;> (have h2 := eb h2; omega))
theorem q_inv.scr {h h1 h2 : z_H} (hi : q_inv h) (e1 : q_frK h h1) (e2 : q_frR h1 h2) : q_inv h2 := hi.congr (fun o k q => by
  obtain ⟨q1, q2, q3⟩ := q_core_no q
  rw [e2 o k q2 q3, e1 o k q1])
theorem q_now.K {h h1 : z_H} {a : Nat → Nat} (ha : q_now h.1 a) (e1 : q_frK h h1) : q_now h1.1 a := ha.congr (fun o k q => e1 o k (by omega))
theorem q_now.R {h h1 : z_H} {a : Nat → Nat} (ha : q_now h.1 a) (e1 : q_frR h h1) : q_now h1.1 a := ha.congr (fun o k q => e1 o k (by omega) (by omega))
def q_rt (a : Nat → Nat) (p t : Nat) : q_R := q_run a p (a (525 + 3 * t)) (a (525 + 3 * t + 1))
theorem q_now.prg {I : Nat → Nat → Int32} {a : Nat → Nat} (ha : q_now I a) {o p : Nat} (hop : q_op2 o p) : q_prg I o p a := by
  rcases hop with ⟨rfl, rfl⟩ | ⟨rfl, rfl⟩
  · exact ha.2.2.1
  · exact ha.2.2.2.1
section QRT
variable {a : Nat → Nat} {I : Nat → Nat → Int32} {L : Nat → Nat → Int64} {d o p t : Nat}
theorem q_cRunT (ha : q_now I a) (hop : q_op2 o p) (ht : t < a 2) : ∃ I' L' d', z_M 30 [.ref 0, .ref o, .int (nI t)] (I, L, d) = some (0, (I', L', d')) ∧ I' 37 0 = (q_rt a p t).1 ∧ I' 37 1 = nI (q_rt a p t).2.1 ∧ q_es L' 38 (q_rt a p t).2.2.2.1 ∧ q_frC I I' L L' := by
  obtain ⟨ho, hst, hp0, hp1, htt⟩ := id ha
  have o2 := ho.2.2.1
  have bt := ho.2.2.2.2.2.2.2 t ht
  obtain ⟨t1, t2, t3⟩ := htt.2 t ht
  obtain ⟨I', L', d', k1, k2, k3, k4, k5⟩ := q_cBegin (L := L) (d := d) (c := a (525 + 3 * t)) (b := a (525 + 3 * t + 1)) hop ho bt.1 bt.2.1 (ha.prg hop)
  refine ⟨I', L', d', ?_, k2, k3, k4, k5⟩
  rw [e_X_runTest hop.in2, q_inC (show t < 8 by omega) (by decide), q_inC (show t < 8 by omega) (by decide), nI_clamp (by omega)]
  show z_bd (z_M 95 [.ref 37, .ref o, .int (I 34 t), .int (I 35 t)] (I, L, d)) _ = _
  have t1 : I 34 t = nI (a (525 + 3 * t)) := t1
  have t2 : I 35 t = nI (a (525 + 3 * t + 1)) := t2
  rw [t1, t2, k1, z_bd_some]
theorem q_ofT {k : Nat} (ho : q_ok a) (hst : ∀ j, j < 549 → I 123 j = q_v (a j)) (ht : t < a 2) (hk : k < 3) : z_M 167 [.ref 122, .int (nI t), .int (nI k)] (I, L, d) = some (nI (a (525 + 3 * t + k)), (I, L, d)) := by
  have o1 := ho.2.1
  have o2 := ho.2.2.1
  have bt := ho.2.2.2.2.2.2.2 t ht
  have h9 : a (525 + 3 * t + k) ≠ 999 := by
    rcases (show k = 0 ∨ k = 1 ∨ k = 2 by omega) with rfl | rfl | rfl
    · rw [Nat.add_zero]; omega
    · omega
    · omega
  rw [e_M_ofTest, n_525, n_3, pk_mul, nI_add, nI_add, q_inC (show 525 + 3 * t + k < 549 by omega) (by decide), nI_clamp (by omega)]
  show some (I 123 (525 + 3 * t + k), _) = _
  rw [hst _ (by omega), q_vn h9]
theorem q_mRunT (ho : q_ok a) (hst : ∀ j, j < 549 → I 123 j = q_v (a j)) (hp : p < 2) (ht : t < a 2) : ∃ J, z_M 168 [.ref 122, .int (nI p), .int (nI t)] (I, L, d) = some (0, (J, L, d)) ∧ q_rs J (q_rt a p t) ∧ q_frM 0 I J := by
  have bt := ho.2.2.2.2.2.2.2 t ht
  obtain ⟨J, k1, k2, k3⟩ := q_mRuns (L := L) (d := d) (c := a (525 + 3 * t)) (b := a (525 + 3 * t + 1)) ho hp bt.1 bt.2.1 hst
  refine ⟨J, ?_, k2, k3⟩
  have q0 : z_M 167 [.ref 122, .int (nI t), .int 0] (I, L, d) = some (nI (a (525 + 3 * t)), (I, L, d)) := q_ofT (k := 0) ho hst ht (by decide)
  have q1 : z_M 167 [.ref 122, .int (nI t), .int 1] (I, L, d) = some (nI (a (525 + 3 * t + 1)), (I, L, d)) := q_ofT (k := 1) ho hst ht (by decide)
  rw [e_M_runsTest, q0, z_bd_some, q1, z_bd_some, k1, z_bd_some]
theorem q_cThere (ha : q_now I a) (x : Int32) : z_M 90 [.ref 33, .int x] (I, L, d) = some (q_b (z_in x (a 2)), (I, L, d)) := by
  have ht := ha.2.2.2.2
  have o2 := ha.1.2.2.1
  have h0 : (I, L, d).1 33 0 = nI (a 2) := ht.1
  rw [e_Ts_isThere (by decide), h0, q_bnd (by omega)]
  cases z_in x (a 2) <;> rfl
end QRT
theorem q_inP {x : Int32} (h : z_in x 2 = true) : ∃ p, p < 2 ∧ x = nI p := q_inT (by decide) h
theorem q_leP (x : Int32) {α : Type} {u v : α} : (if x < 0 then u else if x ≤ 1 then v else u) = bif z_in x 2 then v else u := by
  rcases q_cases x with hx | ⟨c, hc, rfl⟩
  · rw [if_pos hx, q_in_neg hx]
    rfl
  · rw [if_neg (nI_pos hc), q_in hc, n_1]
    by_cases h : c ≤ 1
    · rw [if_pos (nI_le h (by decide)), decide_eq_true (by omega)]
      rfl
    · rw [if_neg (nI_ge (by omega) hc), decide_eq_false (by omega)]
      rfl
theorem q_op8 : z_opok q_inv 8 191 2 := by
  rintro ⟨I, L, d⟩ hi as has
  obtain ⟨x, y, rfl⟩ := q_as2 has
  obtain ⟨⟨a, ha⟩, -⟩ := id hi
  have ha : q_now I a := q_raw ha
  have hsr := ha.sr
  have o2 := ha.1.2.2.1
  show ∃ r h1 h2, z_M 8 [.ref 0, .int x, .int y] (I, L, d) = some (r, h1) ∧ z_M 191 [.ref 122, .int x, .int y] h1 = some (r, h2) ∧ q_inv h2
  rw [e_X_said, q_cThere ha, z_bd_some]
  cases hx : z_in x (a 2) with
  | false => exact ⟨0, (I, L, d), (I, L, d), by rw [if_pos (by decide)], by rw [e_M_said, q_isTest hsr, hx, z_bd_some, if_pos (by decide)], hi⟩
  | true =>
    obtain ⟨t, ht, rfl⟩ := q_inT (by omega) hx
    rw [if_neg (by decide), q_leP]
    cases hy : z_in y 2 with
    | false => exact ⟨0, (I, L, d), (I, L, d), rfl, by rw [e_M_said, q_isTest hsr, hx, z_bd_some, if_neg (by decide), q_isPart, z_bd_some, hy, if_neg (fun q => q (by decide))], hi⟩
    | true =>
      obtain ⟨p, hp, rfl⟩ := q_inP hy
      rw [cond_true]
      obtain ⟨o, hop⟩ : ∃ o, q_op2 o p := by
        rcases (show p = 0 ∨ p = 1 by omega) with rfl | rfl
        · exact ⟨17, Or.inl ⟨rfl, rfl⟩⟩
        · exact ⟨25, Or.inr ⟨rfl, rfl⟩⟩
      obtain ⟨I', L', d', k1, k2, k3, k4, k5⟩ := q_cRunT (L := L) (d := d) ha hop ht
      have ha1 : q_now I' a := ha.K (h := (I, L, d)) (h1 := (I', L', d')) k5.K
      obtain ⟨J, m1, m2, m3⟩ := q_mRunT (L := L') (d := d') ha1.1 ha1.2.1 hp ht
      refine ⟨(q_rt a p t).1, (I', L', d'), (J, L', d'), ?_, ?_, hi.scr (h1 := (I', L', d')) k5.K m3.R⟩
      · have e0 : (nI p = 0) = (p = 0) := propext (nI_eq (by omega) (by decide))
        rcases hop with ⟨rfl, rfl⟩ | ⟨rfl, rfl⟩
        · rw [if_neg (show ¬ ¬ nI 0 = 0 from fun q => q rfl), k1, z_bd_some]
          show some (I' 37 0, _) = _
          rw [k2]
        · rw [if_pos (show ¬ nI 1 = 0 by decide), k1, z_bd_some]
          show some (I' 37 0, _) = _
          rw [k2]
      · rw [e_M_said, q_isTest ha1.sr, hx, z_bd_some, if_neg (by decide), q_isPart, z_bd_some, hy, if_pos (by decide), m1, z_bd_some]
        show some (J 122 19, _) = _
        rw [m2.2.1]
/-! same -/
def q_sm (a : Nat → Nat) (c b : Nat) : Bool := decide ((q_run a 0 c b).1 = (q_run a 1 c b).1)
theorem q_cSame {a : Nat → Nat} {I : Nat → Nat → Int32} {L : Nat → Nat → Int64} {d c b : Nat} (ha : q_now I a) (hc : c < a 1) (hb : b < 256) : ∃ I' L' d', z_M 32 [.ref 0, .int (nI c), .int (nI b)] (I, L, d) = some (q_b (q_sm a c b), (I', L', d')) ∧ q_frC I I' L L' := by
  have hop0 : q_op2 17 0 := Or.inl ⟨rfl, rfl⟩
  have hop1 : q_op2 25 1 := Or.inr ⟨rfl, rfl⟩
  obtain ⟨I1, L1, d1, k1, k2, k3, k4, k5⟩ := q_cBegin (L := L) (d := d) hop0 ha.1 hc hb (ha.prg hop0)
  have ha1 : q_now I1 a := ha.K (h := (I, L, d)) (h1 := (I1, L1, d1)) k5.K
  obtain ⟨I2, L2, d2, j1, j2, j3, j4, j5⟩ := q_cBegin (L := L1) (d := d1) hop1 ha1.1 hc hb (ha1.prg hop1)
  refine ⟨I2, L2, d2, ?_, k5.trans j5⟩
  rw [e_X_saysTheSame, k1, z_bd_some, j1, z_bd_some]
  show (if ¬ I1 37 0 = I2 37 0 then _ else _) = _
  rw [k2, j2]
  unfold q_sm
  by_cases he : (q_run a 0 c b).1 = (q_run a 1 c b).1
  · rw [if_neg (fun q => q he), decide_eq_true he]
    rfl
  · rw [if_pos he, decide_eq_false he]
    rfl
theorem q_mSame {a : Nat → Nat} {I : Nat → Nat → Int32} {L : Nat → Nat → Int64} {d c b : Nat} (ho : q_ok a) (hst : ∀ j, j < 549 → I 123 j = q_v (a j)) (hc : c < a 1) (hb : b < 256) : ∃ J, z_M 181 [.ref 122, .int (nI c), .int (nI b)] (I, L, d) = some (q_b (q_sm a c b), (J, L, d)) ∧ q_frM 0 I J := by
  obtain ⟨J1, k1, k2, k3⟩ := q_mRuns (L := L) (d := d) ho (p := 0) (by decide) hc hb hst
  obtain ⟨J2, j1, j2, j3⟩ := q_mRuns (L := L) (d := d) ho (p := 1) (by decide) hc hb (k3.st hst)
  refine ⟨J2, ?_, k3.trans j3⟩
  rw [e_M_areSame, show z_M 166 [.ref 122, .int 0, .int (nI c), .int (nI b)] (I, L, d) = _ from k1, z_bd_some, show z_M 166 [.ref 122, .int 1, .int (nI c), .int (nI b)] (J1, L, d) = _ from j1, z_bd_some]
  show (if ¬ J1 122 19 = J2 122 19 then _ else _) = _
  rw [k2.2.1, j2.2.1]
  unfold q_sm
  by_cases he : (q_run a 0 c b).1 = (q_run a 1 c b).1
  · rw [if_neg (fun q => q he), decide_eq_true he]
    rfl
  · rw [if_pos he, decide_eq_false he]
    rfl
theorem q_flag (b : Bool) (h : z_H) : z_M 128 [.int (q_b b)] h = some (q_b b, h) := by
  rw [e_M_flag]
  cases b <;> rfl
theorem q_bI (b : Bool) : q_b b = nI (if b = true then 1 else 0) := by cases b <;> rfl
theorem q_op12 : z_opok q_inv 12 197 1 := by
  rintro ⟨I, L, d⟩ hi as has
  obtain ⟨x, rfl⟩ := q_as1 has
  obtain ⟨⟨a, ha⟩, -⟩ := id hi
  have ha : q_now I a := q_raw ha
  have hsr := ha.sr
  have o1 := ha.1.2.1
  show ∃ r h1 h2, z_M 12 [.ref 0, .int x] (I, L, d) = some (r, h1) ∧ z_M 197 [.ref 122, .int x] h1 = some (r, h2) ∧ q_inv h2
  rw [e_X_same, q_hasClass (o := 17) (by decide) (ha.2.2.1.sz ha.1), z_bd_some]
  cases hx : z_in x (a 1) with
  | false => exact ⟨-1, (I, L, d), (I, L, d), by rw [if_neg (fun q => q (by decide))], by rw [e_M_same, q_isClass hsr, hx, z_bd_some, if_neg (fun q => q (by decide))], hi⟩
  | true =>
    obtain ⟨c, hc, rfl⟩ := q_inT (by omega) hx
    have hC : ∀ n b (I : Nat → Nat → Int32) (L : Nat → Nat → Int64) (d : Nat), b + n = 256 → q_now I a → ∃ I' L' d', zl_X_same_17 (nI c) (nI (fb_ct (fun b => q_sm a c b) b)) (nI b) (I, L, d) = some (nI (fb_ct (fun b => q_sm a c b) 256), (I', L', d')) ∧ q_frC I I' L L' := by
      intro n
      induction n with
      | zero =>
        intro b I L d hb ha
        obtain rfl : b = 256 := by omega
        exact ⟨I, L, d, by rw [e_X_same_17, if_pos (by decide)], q_frC.refl⟩
      | succ n ih =>
        intro b I L d hb ha
        obtain ⟨I1, L1, d1, k1, k2⟩ := q_cSame (L := L) (d := d) ha hc (show b < 256 by omega)
        obtain ⟨I2, L2, d2, j1, j2⟩ := ih (b + 1) I1 L1 d1 (by omega) (ha.K (h := (I, L, d)) (h1 := (I1, L1, d1)) k2.K)
        refine ⟨I2, L2, d2, ?_, k2.trans j2⟩
        rw [e_X_same_17, if_neg (show ¬ (255 : Int32) < nI b from nI_nlt (a := 255) (by omega) (by decide)), k1, z_bd_some, nI_1, nI_1]
        rw [fb_ct_succ] at j1
        cases hs : q_sm a c b with
        | true =>
          rw [hs, if_pos rfl] at j1
          rw [if_neg (by decide)]
          exact j1
        | false =>
          rw [hs, if_neg (by decide)] at j1
          rw [if_pos (by decide)]
          exact j1
    have hM : ∀ n b (I : Nat → Nat → Int32) (L : Nat → Nat → Int64) (d : Nat), b + n = 256 → (∀ j, j < 549 → I 123 j = q_v (a j)) → ∃ J, zl_M_same_14 (nI c) (nI (fb_ct (fun b => q_sm a c b) b)) (nI b) (I, L, d) = some (nI (fb_ct (fun b => q_sm a c b) 256), (J, L, d)) ∧ q_frM 0 I J := by
      intro n
      induction n with
      | zero =>
        intro b I L d hb hst
        obtain rfl : b = 256 := by omega
        exact ⟨I, by rw [e_M_same_14, if_pos (by decide)], q_frM.refl⟩
      | succ n ih =>
        intro b I L d hb hst
        obtain ⟨J1, k1, k2⟩ := q_mSame (L := L) (d := d) ha.1 hst hc (show b < 256 by omega)
        obtain ⟨J2, j1, j2⟩ := ih (b + 1) J1 L d (by omega) (k2.st hst)
        refine ⟨J2, ?_, k2.trans j2⟩
        rw [fb_ct_succ] at j1
        rw [e_M_same_14, n_256, if_neg (nI_ge (by omega) (by decide)), k1, z_bd_some, q_flag, z_bd_some, q_bI, nI_add, nI_1]
        exact j1
    obtain ⟨I', L', d', k1, k2⟩ := hC 256 0 I L d rfl ha
    have ha1 : q_now I' a := ha.K (h := (I, L, d)) (h1 := (I', L', d')) k2.K
    obtain ⟨J, m1, m2⟩ := hM 256 0 I' L' d' rfl ha1.2.1
    refine ⟨nI (fb_ct (fun b => q_sm a c b) 256), (I', L', d'), (J, L', d'), ?_, ?_, hi.scr (h1 := (I', L', d')) k2.K m2.R⟩
    · rw [if_pos (by decide)]
      exact k1
    · rw [e_M_same, q_isClass ha1.sr, hx, z_bd_some, if_pos (by decide)]
      exact m1
