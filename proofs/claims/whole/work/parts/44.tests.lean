/-! THE PURE PART: tests: one more, one less -/
section QTS
variable {I I1 : Nat → Nat → Int32} {a a' : Nat → Nat}
theorem q_prg.cgT {o p : Nat} (ho : q_ok a) (hp : p < 2) (e : ∀ j, j ≠ 2 → j < 525 → a' j = a j) (h : q_prg I o p a) : q_prg I o p a' := by
  obtain ⟨h1, h2, h3, h4, h5, h6⟩ := h
  have o0 := ho.1
  have o1 := ho.2.1
  have e0 := e 0 (by omega) (by omega)
  have e1 := e 1 (by omega) (by omega)
  refine ⟨by rw [e0]; exact h1, by rw [e1]; exact h2, fun m hm => ?_, fun m i hm hi => ?_, fun c hc => ?_, fun c n hc hn => ?_⟩
  · rw [e0] at hm
    rw [e (7 + m) (by omega) (by omega)]
    exact h3 m hm
  · rw [e0] at hm
    rw [e (7 + m) (by omega) (by omega)] at hi
    have o7 := ho.2.2.2.1 m hm
    have b1 := q_atb hp (show m < 6 by omega) (show i < 8 by omega)
    obtain ⟨g1, g2, g3, g4⟩ := h4 m i hm hi
    rw [e (q_at p m i) (by omega) (by omega), e (q_at p m i + 1) (by omega) (by omega), e (q_at p m i + 2) (by omega) (by omega)]
    refine ⟨g1, g2, g3, fun k hk => ?_⟩
    rw [e (q_at p m i + 3 + k) (by omega) (by omega)]
    exact g4 k hk
  · rw [e1] at hc
    rw [e (3 + c) (by omega) (by omega)]
    exact h5 c hc
  · rw [e1] at hc
    have b1 : 13 + 256 * p ≤ q_hs p c n ∧ q_hs p c n < 269 + 256 * p := by unfold q_hs; omega
    rw [e (q_hs p c n) (by omega) (by omega)]
    exact h6 c n hc hn
theorem q_ok.cgT (ho : q_ok a) (e : ∀ j, j ≠ 2 → j < 525 → a' j = a j) (e2 : a' 2 ≤ 8) (et : ∀ t, t < a' 2 → a' (525 + 3 * t) < a 1 ∧ a' (525 + 3 * t + 1) < 256 ∧ 1 ≤ a' (525 + 3 * t + 2) ∧ a' (525 + 3 * t + 2) ≤ 9) : q_ok a' := by
  obtain ⟨o0, o1, o2, o7, o5, o6, oh, ot⟩ := ho
  have e0 := e 0 (by omega) (by omega)
  have e1 := e 1 (by omega) (by omega)
  refine ⟨by rw [e0]; exact o0, by rw [e1]; exact o1, e2, fun m hm => ?_, fun p m i hp hm hi => ?_, fun c hc => ?_, fun p c n hp hc hn => ?_, fun t ht => ?_⟩
  · rw [e0] at hm
    rw [e (7 + m) (by omega) (by omega)]
    exact o7 m hm
  · rw [e0] at hm
    rw [e (7 + m) (by omega) (by omega)] at hi
    have h7 := o7 m hm
    have b1 := q_atb hp (show m < 6 by omega) (show i < 8 by omega)
    rw [e (q_at p m i) (by omega) (by omega), e (q_at p m i + 1) (by omega) (by omega), e (q_at p m i + 2) (by omega) (by omega), e (7 + m) (by omega) (by omega)]
    obtain ⟨g1, g2, g3, g4, g5⟩ := o5 p m i hp hm hi
    refine ⟨g1, g2, g3, g4, fun k hk => ?_⟩
    rw [e (q_at p m i + 3 + k) (by omega) (by omega)]
    exact g5 k hk
  · rw [e1] at hc
    rw [e (3 + c) (by omega) (by omega)]
    exact o6 c hc
  · rw [e1] at hc
    have b1 : 13 + 256 * p ≤ q_hs p c n ∧ q_hs p c n < 269 + 256 * p := by unfold q_hs; omega
    rw [e0, e (q_hs p c n) (by omega) (by omega)]
    exact oh p c n hp hc hn
  · rw [e1]
    exact et t ht
end QTS
/-- the row behind a test more -/
def q_ap (a : Nat → Nat) (c d s : Nat) : Nat → Nat := fun j => if j = 2 then a 2 + 1 else if j = 525 + 3 * a 2 then c else if j = 525 + 3 * a 2 + 1 then d else if j = 525 + 3 * a 2 + 2 then s else a j
theorem q_ap_c {a : Nat → Nat} {c d s : Nat} : q_ap a c d s (525 + 3 * a 2) = c := by
  unfold q_ap
  rw [if_neg (by omega), if_pos rfl]
theorem q_ap_d {a : Nat → Nat} {c d s : Nat} : q_ap a c d s (525 + 3 * a 2 + 1) = d := by
  unfold q_ap
  rw [if_neg (by omega), if_neg (by omega), if_pos rfl]
theorem q_ap_s {a : Nat → Nat} {c d s : Nat} : q_ap a c d s (525 + 3 * a 2 + 2) = s := by
  unfold q_ap
  rw [if_neg (by omega), if_neg (by omega), if_neg (by omega), if_pos rfl]
theorem q_ap_o {a : Nat → Nat} {c d s j : Nat} (h2 : ¬ j = 2) (h3 : ¬ j = 525 + 3 * a 2) (h4 : ¬ j = 525 + 3 * a 2 + 1) (h5 : ¬ j = 525 + 3 * a 2 + 2) : q_ap a c d s j = a j := by
  unfold q_ap
  rw [if_neg h2, if_neg h3, if_neg h4, if_neg h5]
theorem q_ap_ok {a : Nat → Nat} {c d s : Nat} (ho : q_ok a) (h8 : a 2 < 8) (hc : c < a 1) (hd : d < 256) (hs : 1 ≤ s ∧ s ≤ 9) : q_ok (q_ap a c d s) := by
  refine ho.cgT (fun j j1 j2 => ?_) (show a 2 + 1 ≤ 8 by omega) (fun t ht => ?_)
  · unfold q_ap
    rw [if_neg j1, if_neg (by omega), if_neg (by omega), if_neg (by omega)]
  · have ht : t < a 2 + 1 := ht
    unfold q_ap
    by_cases h1 : t = a 2
    · subst h1
      rw [if_neg (by omega), if_pos rfl, if_neg (by omega), if_neg (by omega), if_pos rfl, if_neg (by omega), if_neg (by omega), if_neg (by omega), if_pos rfl]
      exact ⟨hc, hd, hs.1, hs.2⟩
    · rw [if_neg (by omega), if_neg (by omega), if_neg (by omega), if_neg (by omega), if_neg (by omega), if_neg (by omega), if_neg (by omega), if_neg (by omega), if_neg (by omega), if_neg (by omega), if_neg (by omega), if_neg (by omega)]
      exact ho.2.2.2.2.2.2.2 t (by omega)
theorem q_cFull {a : Nat → Nat} {h : z_H} (ht : q_tst h.1 33 a) (h8 : a 2 ≤ 8) : z_M 91 [.ref 33] h = some (q_b (decide (a 2 = 8)), h) := by
  rw [e_Ts_isFull (by decide), ht.1, n_8]
  by_cases h1 : a 2 < 8
  · rw [if_pos (nI_lt h1 (by decide)), decide_eq_false (by omega)]
    rfl
  · rw [if_neg (nI_nlt (by omega) (by omega)), decide_eq_true (by omega)]
    rfl
theorem q_cApp {a : Nat → Nat} {h : z_H} {c d s : Nat} (ht : q_tst h.1 33 a) (h8 : a 2 < 8) : ∃ h1, z_M 93 [.ref 33, .int (nI c), .int (nI d), .int (nI s)] h = some (0, h1) ∧ q_tst h1.1 33 (q_ap a c d s) ∧ ∀ o k, ¬ (33 ≤ o ∧ o ≤ 36) → h1.1 o k = h.1 o k := by
  obtain ⟨t1, t2⟩ := id ht
  have r1 : ∀ x, (z_wI h (33 + 1) (a 2) x).1 33 0 = nI (a 2) := fun x => by rw [z_wI1, if_neg (by omega), t1]
  have r2 : ∀ x y, (z_wI (z_wI h (33 + 1) (a 2) x) (33 + 2) (a 2) y).1 33 0 = nI (a 2) := fun x y => by rw [z_wI1, if_neg (by omega), r1]
  have r3 : ∀ x y z, (z_wI (z_wI (z_wI h (33 + 1) (a 2) x) (33 + 2) (a 2) y) (33 + 3) (a 2) z).1 33 0 = nI (a 2) := fun x y z => by rw [z_wI1, if_neg (by omega), r2]
  refine ⟨z_wI (z_wI (z_wI (z_wI h 34 (a 2) (nI c)) 35 (a 2) (nI d)) 36 (a 2) (nI s)) 33 0 (nI (a 2 + 1)), ?_, ⟨?_, fun i hi => ?_⟩, fun o k q => ?_⟩
  · rw [e_Ts_append (by decide), q_cFull ht (by omega), z_bd_some, decide_eq_false (by omega), if_neg (fun q => q (by decide)), t1, q_inC h8 (by decide), nI_clamp (by omega), r1, q_inC h8 (by decide), nI_clamp (by omega), r2, q_inC h8 (by decide), nI_clamp (by omega), r3, nI_1]
  · rw [z_wI1, if_pos ⟨rfl, rfl⟩]
    rfl
  · have hi : i < a 2 + 1 := hi
    by_cases h1 : i = a 2
    · rw [h1, q_ap_c, q_ap_d, q_ap_s]
      refine ⟨?_, ?_, ?_⟩
      · rw [z_wI1, if_neg (by omega), z_wI1, if_neg (by omega), z_wI1, if_neg (by omega), z_wI1, if_pos ⟨rfl, rfl⟩]
      · rw [z_wI1, if_neg (by omega), z_wI1, if_neg (by omega), z_wI1, if_pos ⟨rfl, rfl⟩]
      · rw [z_wI1, if_neg (by omega), z_wI1, if_pos ⟨rfl, rfl⟩]
    · rw [q_ap_o (by omega) (by omega) (by omega) (by omega), q_ap_o (by omega) (by omega) (by omega) (by omega), q_ap_o (by omega) (by omega) (by omega) (by omega)]
      have := t2 i (by omega)
      refine ⟨?_, ?_, ?_⟩
      · rw [z_wI1, if_neg (by omega), z_wI1, if_neg (by omega), z_wI1, if_neg (by omega), z_wI1, if_neg (by omega)]
        exact this.1
      · rw [z_wI1, if_neg (by omega), z_wI1, if_neg (by omega), z_wI1, if_neg (by omega), z_wI1, if_neg (by omega)]
        exact this.2.1
      · rw [z_wI1, if_neg (by omega), z_wI1, if_neg (by omega), z_wI1, if_neg (by omega), z_wI1, if_neg (by omega)]
        exact this.2.2
  · rw [z_wI1, if_neg (by omega), z_wI1, if_neg (by omega), z_wI1, if_neg (by omega), z_wI1, if_neg (by omega)]
theorem q_mApp {a : Nat → Nat} {h : z_H} {c d s : Nat} (hst : ∀ j, j < 549 → h.1 123 j = q_v (a j)) (h8 : a 2 < 8) (hc : c < 900) (hd : d < 900) (hs : s < 900) : ∃ h1, z_M 205 [.ref 122, .int (nI c), .int (nI d), .int (nI s)] h = some (0, h1) ∧ (∀ j, j < 549 → h1.1 123 j = q_v (q_ap a c d s j)) ∧ ∀ o k, o ≠ 123 → h1.1 o k = h.1 o k := by
  have t1 : h.1 123 2 = nI (a 2) := by rw [hst 2 (by omega), q_vn (by omega)]
  refine ⟨z_wI (z_wI (z_wI (z_wI h 123 (525 + 3 * a 2) (nI c)) 123 (525 + 3 * a 2 + 1) (nI d)) 123 (525 + 3 * a 2 + 2) (nI s)) 123 2 (nI (a 2 + 1)), ?_, fun j hj => ?_, fun o k q => ?_⟩
  · have r3 : (z_wI (z_wI (z_wI h 123 (525 + 3 * a 2) (nI c)) 123 (525 + 3 * a 2 + 1) (nI d)) 123 (525 + 3 * a 2 + 2) (nI s)).1 123 2 = nI (a 2) := by
      rw [z_wI1, if_neg (by omega), z_wI1, if_neg (by omega), z_wI1, if_neg (by omega), t1]
    have e1 : (525 : Int32) + 3 * nI (a 2) = nI (525 + 3 * a 2) := by rw [n_525, n_3, pk_mul, nI_add]
    have e2 : nI (525 + 3 * a 2) + (1 : Int32) = nI (525 + 3 * a 2 + 1) := nI_add _ 1
    have e3 : nI (525 + 3 * a 2) + (2 : Int32) = nI (525 + 3 * a 2 + 2) := nI_add _ 2
    rw [e_M_comes, t1, e1, e2, e3, q_inC (show 525 + 3 * a 2 < 549 by omega) (by decide), q_inC (show 525 + 3 * a 2 + 1 < 549 by omega) (by decide), q_inC (show 525 + 3 * a 2 + 2 < 549 by omega) (by decide), nI_clamp (by omega), nI_clamp (by omega), nI_clamp (by omega), r3, nI_1]
  · unfold q_ap
    rw [z_wI1]
    by_cases j2 : j = 2
    · rw [if_pos ⟨rfl, j2⟩, if_pos j2, q_vn (by omega)]
    · rw [if_neg (fun q => j2 q.2), if_neg j2, z_wI1]
      by_cases k3 : j = 525 + 3 * a 2 + 2
      · rw [if_pos ⟨rfl, k3⟩, if_neg (by omega), if_neg (by omega), if_pos k3, q_vn (by omega)]
      · rw [if_neg (fun q => k3 q.2), z_wI1]
        by_cases k2 : j = 525 + 3 * a 2 + 1
        · rw [if_pos ⟨rfl, k2⟩, if_neg (by omega), if_pos k2, q_vn (by omega)]
        · rw [if_neg (fun q => k2 q.2), z_wI1]
          by_cases k1 : j = 525 + 3 * a 2
          · rw [if_pos ⟨rfl, k1⟩, if_pos k1, q_vn (by omega)]
          · rw [if_neg (fun q => k1 q.2), if_neg k1, if_neg k2, if_neg k3]
            exact hst j hj
  · rw [z_wI1, if_neg (by omega), z_wI1, if_neg (by omega), z_wI1, if_neg (by omega), z_wI1, if_neg (by omega)]
/-- the tests changed on both sides -/
theorem q_now.tests {I I1 : Nat → Nat → Int32} {a a' : Nat → Nat} (h : q_now I a) (ho' : q_ok a') (e : ∀ j, j ≠ 2 → j < 525 → a' j = a j) (hst : ∀ j, j < 549 → I1 123 j = q_v (a' j)) (ht : q_tst I1 33 a') (f : ∀ o k, 17 ≤ o → o ≤ 32 → I1 o k = I o k) : q_now I1 a' := by
  obtain ⟨ho, -, hp0, hp1, -⟩ := h
  exact ⟨ho', hst, (hp0.cgT ho (by decide) e).congr (fun o k q1 q2 => f o k (by omega) (by omega)), (hp1.cgT ho (by decide) e).congr (fun o k q1 q2 => f o k (by omega) (by omega)), ht⟩
theorem q_ap_e {a : Nat → Nat} {c d s : Nat} : ∀ j, j ≠ 2 → j < 525 → q_ap a c d s j = a j := fun j j1 j2 => by
  unfold q_ap
  rw [if_neg j1, if_neg (by omega), if_neg (by omega), if_neg (by omega)]
theorem q_srE {h h1 : z_H} {a : Nat → Nat} (e : ∀ j, h1.1 123 j = h.1 123 j) (hs : q_sr h.1 a) : q_sr h1.1 a := by
  unfold q_sr
  simp only [e]
  exact hs
theorem q_w19 (x : Int32) (h : z_H) : z_M 127 [.long x.toInt64, .long (1 : Int32).toInt64, .long (9 : Int32).toInt64] h = some (q_b (z_in x 10 && !decide (x = 0)), h) := by
  rw [q_within]
  have h1 : (1 : Int32).toInt = 1 := rfl
  have h9 : (9 : Int32).toInt = 9 := rfl
  rcases q_cases x with hx | ⟨c, hc, rfl⟩
  · have h0 : (0 : Int32).toInt = 0 := rfl
    have := Int32.lt_iff_toInt_lt.mp hx
    rw [if_neg (by omega), q_in_neg hx]
    rfl
  · rw [nI_toInt hc, q_in hc, n_0]
    have he : decide (nI c = nI 0) = decide (c = 0) := decide_eq_decide.mpr (nI_eq hc (by decide))
    rw [he]
    by_cases hh : 1 ≤ c ∧ c < 10
    · rw [if_pos (by omega), decide_eq_true hh.2, decide_eq_false (by omega)]
      rfl
    · rw [if_neg (by omega)]
      by_cases c0 : c = 0
      · rw [decide_eq_true c0, Bool.not_true, Bool.and_false]
        rfl
      · rw [decide_eq_false (show ¬ c < 10 by omega)]
        rfl
theorem q_op19 : z_opok q_inv 19 206 3 := by
  intro h hi as has
  obtain ⟨x, y, z, rfl⟩ := q_as3 has
  obtain ⟨⟨a, ha⟩, -⟩ := id hi
  have ha := q_raw ha
  obtain ⟨ho, hst, hp0, hp1, ht⟩ := id ha
  have hsr := ha.sr
  have o1 := ho.2.1
  have o2 := ho.2.2.1
  show ∃ r h1 h2, z_M 19 [.ref 0, .int x, .int y, .int z] h = some (r, h1) ∧ z_M 206 [.ref 122, .int x, .int y, .int z] h1 = some (r, h2) ∧ q_inv h2
  have em : ∀ h1, q_sr h1.1 a → z_M 206 [.ref 122, .int x, .int y, .int z] h1 = (if q_b (z_in x (a 1)) = 0 then some ((-1), h1) else (if q_b (z_in y 256) = 0 then some ((-1), h1) else (if ¬ q_b (z_in z 10 && !decide (z = 0)) = 0 then (if ¬ h1.1 123 2 = 8 then z_bd (z_M 205 [.ref 122, .int x, .int y, .int z] h1) (fun r7 h8 => some (h8.1 123 2, h8)) else some ((-3), h1)) else some ((-1), h1)))) := fun h1 hs1 => by
    rw [e_M_add, q_isClass hs1, z_bd_some, q_wl255, z_bd_some, q_w19, z_bd_some]
  rw [e_X_add, q_hasClass (by decide) (hp0.sz ho), z_bd_some]
  cases hx : z_in x (a 1) with
  | false => exact ⟨-1, h, h, by rw [if_pos (by decide)], by rw [em h hsr, hx, if_pos (by decide)], hi⟩
  | true =>
    rw [hx] at em
    rw [if_neg (by decide)]
    rcases q_cases y with hy | ⟨d, hd, rfl⟩
    · exact ⟨-1, h, h, by rw [if_pos hy], by rw [em h hsr, if_neg (by decide), q_in_neg hy, if_pos (by decide)], hi⟩
    rw [if_neg (nI_pos hd), n_255]
    by_cases hd1 : d < 256
    · rw [q_int hd1 (by decide)] at em
      rw [if_neg (nI_nlt (by omega) (by omega))]
      rcases q_cases z with hz | ⟨s, hs, rfl⟩
      · have : z < 1 := Int32.lt_iff_toInt_lt.mpr (by
          have := Int32.lt_iff_toInt_lt.mp hz
          have h0 : (0 : Int32).toInt = 0 := rfl
          have h1 : (1 : Int32).toInt = 1 := rfl
          omega)
        exact ⟨-1, h, h, by rw [if_pos this], by rw [em h hsr, if_neg (by decide), if_neg (by decide), q_in_neg hz, Bool.false_and, if_neg (fun q => q (by decide))], hi⟩
      · have he : decide (nI s = 0) = decide (s = 0) := decide_eq_decide.mpr (nI_eq hs (by decide))
        rw [he, q_in hs] at em
        rw [n_1, n_9]
        by_cases hs0 : s = 0
        · exact ⟨-1, h, h, by rw [if_pos (nI_lt (by omega) (by decide))]; rfl, by rw [em h hsr, if_neg (by decide), if_neg (by decide), decide_eq_true hs0, Bool.not_true, Bool.and_false, if_neg (fun q => q (by decide))], hi⟩
        · rw [if_neg (nI_nlt (by omega) (by omega))]
          by_cases hs9 : s ≤ 9
          · rw [decide_eq_true (show s < 10 by omega), decide_eq_false hs0] at em
            rw [if_pos (nI_le hs9 (by decide)), q_cFull ht o2, z_bd_some]
            have e2 : ∀ h1 : z_H, (∀ j, h1.1 123 j = h.1 123 j) → h1.1 123 2 = nI (a 2) := fun h1 e => by rw [e, hst 2 (by omega), q_vn (by omega)]
            by_cases h8 : a 2 = 8
            · refine ⟨-3, h, h, by rw [decide_eq_true h8, if_neg (by decide)], ?_, hi⟩
              rw [em h hsr, if_neg (by decide), if_neg (by decide), if_pos (by decide), e2 h (fun _ => rfl), h8, if_neg (fun q => q rfl)]
            · obtain ⟨c, hc, rfl⟩ := q_inT (by omega) hx
              obtain ⟨h1, c1, c2, c3⟩ := q_cApp (c := c) (d := d) (s := s) ht (by omega)
              have e1 : ∀ j, h1.1 123 j = h.1 123 j := fun j => c3 _ _ (by omega)
              obtain ⟨h2, m1, m2, m3⟩ := q_mApp (h := h1) (a := a) (c := c) (d := d) (s := s) (fun j hj => (e1 j).trans (hst j hj)) (by omega) (by omega) (by omega) (by omega)
              refine ⟨nI (a 2 + 1), h1, h2, ?_, ?_, ?_⟩
              · rw [decide_eq_false h8, if_pos (by decide), c1, z_bd_some, c2.1]
                rfl
              · rw [em h1 (q_srE e1 hsr), if_neg (by decide), if_neg (by decide), if_pos (by decide), e2 h1 e1, if_pos (show ¬ nI (a 2) = 8 from fun q => h8 ((nI_eq (by omega) (by decide)).mp q)), m1, z_bd_some, m2 2 (by omega)]
                show some (q_v (a 2 + 1), _) = _
                rw [q_vn (by omega)]
              · refine hi.now (fun o k q1 q2 => ?_) ⟨q_ap a c d s, ha.tests (q_ap_ok ho (by omega) hc hd1 (by omega)) q_ap_e m2 ?_ (fun o k q1 q2 => ?_)⟩
                · rw [m3 o k q1, c3 o k (by omega)]
                · exact c2.congr (fun o k q1 q2 => m3 o k (by omega))
                · rw [m3 o k (by omega), c3 o k (by omega)]
          · refine ⟨-1, h, h, by rw [if_neg (nI_ge (by omega) hs)]; rfl, ?_, hi⟩
            rw [em h hsr, if_neg (by decide), if_neg (by decide), decide_eq_false (show ¬ s < 10 by omega), Bool.false_and, if_neg (fun q => q (by decide))]
    · exact ⟨-1, h, h, by rw [if_pos (nI_lt (by omega) hd)], by rw [em h hsr, if_neg (by decide), q_in hd, decide_eq_false hd1, if_pos (by decide)], hi⟩
