/-! THE PURE PART: the draft's row, told; what holds of it between lines -/
def q_s1 (a : Nat → Nat) (J v : Nat) : Nat → Nat := fun j => if j = J then v else a j
theorem q_s1_i {a : Nat → Nat} {J v : Nat} : q_s1 a J v J = v := if_pos rfl
theorem q_s1_o {a : Nat → Nat} {J v j : Nat} (h : j ≠ J) : q_s1 a J v j = a j := if_neg h
def q_rM (a : Nat → Nat) : Nat → Nat := q_s1 a 0 (a 0 + 1)
def q_lN (a : Nat → Nat) : Nat := a (7 + (a 0 - 1))
def q_rB (a : Nat → Nat) (y v : Nat) : Nat → Nat := q_s1 (q_s1 (q_s1 a (7 + (a 0 - 1)) (q_lN a + 1)) (q_at 0 (a 0 - 1) (q_lN a)) y) (q_at 0 (a 0 - 1) (q_lN a) + 1) v
def q_lJ (a : Nat → Nat) : Nat := q_at 0 (a 0 - 1) (q_lN a - 1)
def q_rN (a : Nat → Nat) (v : Nat) : Nat → Nat := q_s1 (q_s1 a (q_lJ a + 3 + a (q_lJ a + 2)) v) (q_lJ a + 2) (a (q_lJ a + 2) + 1)
def q_rC (a : Nat → Nat) (v : Nat) : Nat → Nat := q_s1 (q_s1 a (3 + a 1) v) 1 (a 1 + 1)
def q_rH (a : Nat → Nat) (c n v : Nat) : Nat → Nat := q_s1 a (q_hs 0 c n) v
def q_nds (a : Nat → Nat) (y : Nat) (V : Nat → Nat) : Nat → Nat → Nat
  | 0 => a
  | j + 1 => if j = 0 then q_rB a y (V 0) else q_rN (q_nds a y V j) (V j)
def q_row (a : Nat → Nat) (x : Nat) (V : Nat → Nat) (m : Nat) : Nat → Nat := match x with
  | 0 => q_rM a
  | 1 => q_nds a 0 V m
  | 2 => q_nds a 1 V m
  | 3 => q_rC a (V 0)
  | 4 => q_rH a (V 0) (V 1) (V 2)
  | _ => q_ap a (V 0) (V 1) (V 2)
def q_ndok (a : Nat → Nat) (J : Nat) : Prop := a J < 2 ∧ a (J + 1) ≤ 9 ∧ (a J = 1 → a (J + 1) < 4) ∧ a (J + 2) ≤ 2 ∧ ∀ k, k < a (J + 2) → a (J + 3 + k) = 9 ∨ a (J + 3 + k) < 8
def q_d1 (a : Nat → Nat) : Prop := a 0 ≤ 6 ∧ a 1 ≤ 4 ∧ a 2 ≤ 8 ∧ ∀ m, m < 6 → a (7 + m) ≤ 8 ∧ (a 0 ≤ m → a (7 + m) = 0)
def q_d2z (a : Nat → Nat) : Prop := ∀ m i, m < 6 → i < 8 → (a (7 + m) ≤ i → a (q_at 0 m i + 2) = 0) ∧ (i < a (7 + m) → q_ndok a (q_at 0 m i))
def q_d3z (a : Nat → Nat) : Prop := ∀ c, c < a 1 → a (3 + c) = 9 ∨ a (3 + c) < c
def q_d4 (a : Nat → Nat) (hm : Nat) : Prop := ∀ c n, c < 4 → n < 4 → a (q_hs 0 c n) = 999 ∨ a (q_hs 0 c n) < hm
def q_d5 (a : Nat → Nat) (hc : Nat) : Prop := ∀ t, t < a 2 → a (525 + 3 * t) < hc ∧ a (525 + 3 * t + 1) < 256 ∧ 1 ≤ a (525 + 3 * t + 2) ∧ a (525 + 3 * t + 2) ≤ 9
def q_dk (a : Nat → Nat) (hc hm : Nat) : Prop := q_d1 a ∧ q_d2z a ∧ q_d3z a ∧ q_d4 a hm ∧ q_d5 a hc ∧ hc ≤ 4 ∧ hm ≤ 6
theorem q_atI {m i m' i' c c' : Nat} (hi : i < 8) (hi' : i' < 8) (hc : c < 5) (hc' : c' < 5) (h : q_at 0 m i + c = q_at 0 m' i' + c') : m = m' ∧ i = i' ∧ c = c' := by
  unfold q_at at h
  omega
theorem q_hsI {m i m' i' : Nat} (hi : i < 4) (hi' : i' < 4) (h : q_hs 0 m i = q_hs 0 m' i') : m = m' ∧ i = i' := by
  unfold q_hs at h
  omega
theorem q_hsb {c n : Nat} (hc : c < 4) (hn : n < 4) : 253 ≤ q_hs 0 c n ∧ q_hs 0 c n < 269 := by unfold q_hs; omega
theorem q_ndok.cg {a a' : Nat → Nat} {J : Nat} (h : q_ndok a J) (e : ∀ c, c < 5 → a' (J + c) = a (J + c)) : q_ndok a' J := by
  have e0 : a' J = a J := e 0 (by omega)
  obtain ⟨h1, h2, h3, h4, h5⟩ := h
  unfold q_ndok
  rw [e0, e 1 (by omega), e 2 (by omega)]
  refine ⟨h1, h2, h3, h4, fun k hk => ?_⟩
  rw [show J + 3 + k = J + (3 + k) by omega, e (3 + k) (by omega), ← show J + 3 + k = J + (3 + k) by omega]
  exact h5 k hk
theorem q_d2z.cg {a a' : Nat → Nat} (h : q_d2z a) (e : ∀ j, 7 ≤ j → j < 253 → a' j = a j) : q_d2z a' := by
  intro m i hm hi
  have hb := q_atb (p := 0) (by decide) hm hi
  obtain ⟨g1, g2⟩ := h m i hm hi
  rw [e (7 + m) (by omega) (by omega), e _ (by omega) (by omega)]
  exact ⟨g1, fun q => (g2 q).cg (fun c hc => e _ (by omega) (by omega))⟩
theorem q_d3z.cg {a a' : Nat → Nat} (ha : a 1 ≤ 4) (h : q_d3z a) (e : ∀ j, 1 ≤ j → j < 7 → j ≠ 2 → a' j = a j) : q_d3z a' := by
  intro c hc
  rw [e 1 (by omega) (by omega) (by omega)] at hc
  rw [e (3 + c) (by omega) (by omega) (by omega)]
  exact h c hc
theorem q_d4.cg {a a' : Nat → Nat} {hm : Nat} (h : q_d4 a hm) (e : ∀ j, 253 ≤ j → j < 269 → a' j = a j) : q_d4 a' hm := by
  intro c n hc hn
  have := q_hsb hc hn
  rw [e _ (by omega) (by omega)]
  exact h c n hc hn
theorem q_d5.cg {a a' : Nat → Nat} {hc : Nat} (h : q_d5 a hc) (e2 : a' 2 = a 2) (e : ∀ j, 525 ≤ j → a' j = a j) : q_d5 a' hc := by
  intro t ht
  rw [e2] at ht
  rw [e _ (by omega), e _ (by omega), e _ (by omega)]
  exact h t ht
theorem q_d1.cg {a a' : Nat → Nat} (h : q_d1 a) (e : ∀ j, j < 13 → a' j = a j) : q_d1 a' := by
  unfold q_d1
  rw [e 0 (by omega), e 1 (by omega), e 2 (by omega)]
  exact ⟨h.1, h.2.1, h.2.2.1, fun m hm => by rw [e _ (by omega)]; exact h.2.2.2 m hm⟩
section QRW
variable {a : Nat → Nat} {hc hm : Nat}
theorem q_dk.M (h : q_dk a hc hm) (h6 : a 0 < 6) : q_dk (q_rM a) hc hm := by
  obtain ⟨d1, d2, d3, d4, d5, d6⟩ := h
  have o : ∀ j, j ≠ 0 → q_rM a j = a j := fun j hj => q_s1_o hj
  have i0 : q_rM a 0 = a 0 + 1 := q_s1_i
  refine ⟨⟨by rw [i0]; omega, by rw [o 1 (by omega)]; exact d1.2.1, by rw [o 2 (by omega)]; exact d1.2.2.1, fun m hm => ?_⟩, d2.cg (fun j j1 _ => o j (by omega)), d3.cg d1.2.1 (fun j j1 _ _ => o j (by omega)), d4.cg (fun j j1 _ => o j (by omega)), d5.cg (o 2 (by omega)) (fun j j1 => o j (by omega)), d6⟩
  rw [o _ (by omega), i0]
  have := d1.2.2.2 m hm
  exact ⟨this.1, fun q => this.2 (by omega)⟩
theorem q_dk.C {v : Nat} (h : q_dk a hc hm) (h4 : a 1 < 4) (hv : v = 9 ∨ v < a 1) : q_dk (q_rC a v) hc hm := by
  obtain ⟨d1, d2, d3, d4, d5, d6⟩ := h
  have o : ∀ j, j ≠ 1 → j ≠ 3 + a 1 → q_rC a v j = a j := fun j hj hj' => (q_s1_o hj).trans (q_s1_o hj')
  have i1 : q_rC a v 1 = a 1 + 1 := q_s1_i
  have i3 : q_rC a v (3 + a 1) = v := (q_s1_o (by omega)).trans q_s1_i
  refine ⟨⟨by rw [o 0 (by omega) (by omega)]; exact d1.1, by rw [i1]; omega, by rw [o 2 (by omega) (by omega)]; exact d1.2.2.1, fun m hm => by rw [o _ (by omega) (by omega), o 0 (by omega) (by omega)]; exact d1.2.2.2 m hm⟩, d2.cg (fun j j1 _ => o j (by omega) (by omega)), fun c hc => ?_, d4.cg (fun j j1 _ => o j (by omega) (by omega)), d5.cg (o 2 (by omega) (by omega)) (fun j j1 => o j (by omega) (by omega)), d6⟩
  rw [i1] at hc
  by_cases q : c = a 1
  · rw [q, i3]; exact hv
  · rw [o _ (by omega) (by omega)]; exact d3 c (by omega)
theorem q_dk.H {c n v : Nat} (h : q_dk a hc hm) (h4 : c < 4) (hn : n < 4) (hv : v < 6) : q_dk (q_rH a c n v) (max hc (c + 1)) (max hm (v + 1)) := by
  obtain ⟨d1, d2, d3, d4, d5, d6⟩ := h
  have hb := q_hsb h4 hn
  have o : ∀ j, j ≠ q_hs 0 c n → q_rH a c n v j = a j := fun j hj => q_s1_o hj
  have i3 : q_rH a c n v (q_hs 0 c n) = v := q_s1_i
  refine ⟨d1.cg (fun j j1 => o j (by omega)), d2.cg (fun j j1 _ => o j (by omega)), d3.cg d1.2.1 (fun j j1 _ _ => o j (by omega)), fun c' n' hc' hn' => ?_, fun t ht => ?_, by omega, by omega⟩
  · by_cases q : q_hs 0 c' n' = q_hs 0 c n
    · rw [q, i3]; omega
    · rw [o _ q]
      have := d4 c' n' hc' hn'
      omega
  · have := d5.cg (o 2 (by omega)) (fun j j1 => o j (by omega)) t ht
    omega
theorem q_dk.T {c d s : Nat} (h : q_dk a hc hm) (h8 : a 2 < 8) (h4 : c < 4) (hd : d < 256) (hs : 1 ≤ s ∧ s ≤ 9) : q_dk (q_ap a c d s) (max hc (c + 1)) hm := by
  obtain ⟨d1, d2, d3, d4, d5, d6⟩ := h
  have o : ∀ j, j ≠ 2 → j < 525 → q_ap a c d s j = a j := fun j h1 h2 => q_ap_o (by omega) (by omega) (by omega) (by omega)
  have i2 : q_ap a c d s 2 = a 2 + 1 := rfl
  refine ⟨⟨by rw [o 0 (by omega) (by omega)]; exact d1.1, by rw [o 1 (by omega) (by omega)]; exact d1.2.1, by rw [i2]; omega, fun m hm => by rw [o _ (by omega) (by omega), o 0 (by omega) (by omega)]; exact d1.2.2.2 m hm⟩, d2.cg (fun j j1 _ => o j (by omega) (by omega)), d3.cg d1.2.1 (fun j j1 _ _ => o j (by omega) (by omega)), d4.cg (fun j j1 _ => o j (by omega) (by omega)), fun t ht => ?_, by omega, d6.2⟩
  rw [i2] at ht
  by_cases q : t = a 2
  · rw [q, q_ap_c, q_ap_d, q_ap_s]
    omega
  · rw [q_ap_o (by omega) (by omega) (by omega) (by omega), q_ap_o (by omega) (by omega) (by omega) (by omega), q_ap_o (by omega) (by omega) (by omega) (by omega)]
    have := d5 t (by omega)
    omega
theorem q_dk.B {y v : Nat} (h : q_dk a hc hm) (h0 : 0 < a 0) (h8 : q_lN a < 8) (hy : y < 2) (hv : v ≤ 9) (hyv : y = 1 → v < 4) : q_dk (q_rB a y v) hc hm ∧ q_rB a y v 0 = a 0 ∧ q_lN (q_rB a y v) = q_lN a + 1 ∧ q_lJ (q_rB a y v) = q_at 0 (a 0 - 1) (q_lN a) ∧ q_rB a y v (q_at 0 (a 0 - 1) (q_lN a) + 2) = 0 := by
  obtain ⟨d1, d2, d3, d4, d5, d6⟩ := h
  obtain ⟨m, em⟩ : ∃ m, m = a 0 - 1 := ⟨_, rfl⟩
  obtain ⟨i, ei⟩ : ∃ i, i = q_lN a := ⟨_, rfl⟩
  have h06 := d1.1
  have eim : a (7 + m) = i := by rw [ei, em]; rfl
  have hm6 : m < 6 := by omega
  have hb := q_atb (p := 0) (by decide) hm6 (show i < 8 by omega)
  have E : q_rB a y v = q_s1 (q_s1 (q_s1 a (7 + m) (i + 1)) (q_at 0 m i) y) (q_at 0 m i + 1) v := by unfold q_rB; rw [← em, ← ei]
  have o : ∀ j, j ≠ 7 + m → j ≠ q_at 0 m i → j ≠ q_at 0 m i + 1 → q_rB a y v j = a j := fun j h1 h2 h3 => by rw [E, q_s1_o h3, q_s1_o h2, q_s1_o h1]
  have i7 : q_rB a y v (7 + m) = i + 1 := by rw [E, q_s1_o (by omega), q_s1_o (by omega), q_s1_i]
  have iJ : q_rB a y v (q_at 0 m i) = y := by rw [E, q_s1_o (by omega), q_s1_i]
  have iJ1 : q_rB a y v (q_at 0 m i + 1) = v := by rw [E, q_s1_i]
  have iJ2 : q_rB a y v (q_at 0 m i + 2) = 0 := by
    rw [o _ (by omega) (by omega) (by omega)]
    exact (d2 m i hm6 (by omega)).1 (by omega)
  have e0 : q_rB a y v 0 = a 0 := o 0 (by omega) (by omega) (by omega)
  have eN : q_lN (q_rB a y v) = i + 1 := by unfold q_lN; rw [e0, ← em]; exact i7
  refine ⟨⟨⟨by rw [e0]; exact d1.1, by rw [o 1 (by omega) (by omega) (by omega)]; exact d1.2.1, by rw [o 2 (by omega) (by omega) (by omega)]; exact d1.2.2.1, fun m' hm' => ?_⟩, fun m' i' hm' hi' => ?_, d3.cg d1.2.1 (fun j j1 _ _ => o j (by omega) (by omega) (by omega)), d4.cg (fun j j1 _ => o j (by omega) (by omega) (by omega)), d5.cg (o 2 (by omega) (by omega) (by omega)) (fun j j1 => o j (by omega) (by omega) (by omega)), d6⟩, e0, by rw [eN, ei], ?_, by rw [← em, ← ei]; exact iJ2⟩
  · rw [e0]
    by_cases q : m' = m
    · rw [q, i7]
      exact ⟨by omega, fun q' => by omega⟩
    · rw [o _ (by omega) (by omega) (by omega)]
      exact d1.2.2.2 m' hm'
  · obtain ⟨g1, g2⟩ := d2 m' i' hm' hi'
    have hb' := q_atb (p := 0) (by decide) hm' hi'
    by_cases q : m' = m ∧ i' = i
    · obtain ⟨rfl, rfl⟩ := q
      refine ⟨fun _ => iJ2, fun _ => ⟨by rw [iJ]; exact hy, by rw [iJ1]; exact hv, by rw [iJ, iJ1]; exact hyv, by rw [iJ2]; omega, fun k hk => ?_⟩⟩
      rw [iJ2] at hk
      omega
    · have ne : ∀ c, c < 5 → q_rB a y v (q_at 0 m' i' + c) = a (q_at 0 m' i' + c) := fun c hc => o _ (by omega) (fun z => by
        have := q_atI (c' := 0) hi' (show i < 8 by omega) hc (by omega) z
        omega) (fun z => by
        have := q_atI (c' := 1) hi' (show i < 8 by omega) hc (by omega) z
        omega)
      by_cases qm : m' = m
      · rw [qm] at g1 g2 ne q hb' ⊢
        rw [i7, ne 2 (by omega)]
        exact ⟨fun z => g1 (by omega), fun z => (g2 (by omega)).cg ne⟩
      · rw [o (7 + m') (by omega) (by omega) (by omega), ne 2 (by omega)]
        exact ⟨g1, fun z => (g2 z).cg ne⟩
  · unfold q_lJ
    rw [e0, eN, ← ei]
    rfl
theorem q_dk.N {v : Nat} (h : q_dk a hc hm) (h0 : 0 < a 0) (hl : 0 < q_lN a) (h2 : a (q_lJ a + 2) < 2) (hv : v = 9 ∨ v < 8) : q_dk (q_rN a v) hc hm ∧ q_rN a v 0 = a 0 ∧ q_lN (q_rN a v) = q_lN a ∧ q_lJ (q_rN a v) = q_lJ a ∧ q_rN a v (q_lJ a + 2) = a (q_lJ a + 2) + 1 := by
  obtain ⟨d1, d2, d3, d4, d5, d6⟩ := h
  obtain ⟨m, em⟩ : ∃ m, m = a 0 - 1 := ⟨_, rfl⟩
  obtain ⟨i, ei⟩ : ∃ i, i = q_lN a - 1 := ⟨_, rfl⟩
  obtain ⟨J, eJ⟩ : ∃ J, J = q_lJ a := ⟨_, rfl⟩
  obtain ⟨c, ec⟩ : ∃ c, c = a (J + 2) := ⟨_, rfl⟩
  have h06 := d1.1
  have hm6 : m < 6 := by omega
  have eim : a (7 + m) = i + 1 := by
    have : q_lN a = a (7 + m) := by rw [em]; rfl
    omega
  have h8 := (d1.2.2.2 m hm6).1
  have eJa : J = q_at 0 m i := by rw [eJ, em, ei]; rfl
  have hb := q_atb (p := 0) (by decide) hm6 (show i < 8 by omega)
  rw [← eJ] at h2
  rw [← ec] at h2
  have E : q_rN a v = q_s1 (q_s1 a (J + 3 + c) v) (J + 2) (c + 1) := by unfold q_rN; rw [← eJ, ← ec]
  have o : ∀ j, j ≠ J + 3 + c → j ≠ J + 2 → q_rN a v j = a j := fun j h1 h2 => by rw [E, q_s1_o h2, q_s1_o h1]
  have iJ2 : q_rN a v (J + 2) = c + 1 := by rw [E, q_s1_i]
  have iJ3 : q_rN a v (J + 3 + c) = v := by rw [E, q_s1_o (by omega), q_s1_i]
  have e0 : q_rN a v 0 = a 0 := o 0 (by omega) (by omega)
  have e7 : ∀ j, j < 13 → q_rN a v j = a j := fun j hj => o j (by omega) (by omega)
  have eN : q_lN (q_rN a v) = q_lN a := by unfold q_lN; rw [e0]; exact e7 _ (by omega)
  have eJ' : q_lJ (q_rN a v) = J := by rw [eJ]; unfold q_lJ; rw [e0, eN]
  rw [← eJ]
  refine ⟨⟨d1.cg e7, fun m' i' hm' hi' => ?_, d3.cg d1.2.1 (fun j j1 _ _ => o j (by omega) (by omega)), d4.cg (fun j j1 _ => o j (by omega) (by omega)), d5.cg (o 2 (by omega) (by omega)) (fun j j1 => o j (by omega) (by omega)), d6⟩, e0, eN, eJ', by rw [iJ2, ec]⟩
  obtain ⟨g1, g2⟩ := d2 m' i' hm' hi'
  have hb' := q_atb (p := 0) (by decide) hm' hi'
  rw [e7 (7 + m') (by omega)]
  by_cases q : m' = m ∧ i' = i
  · obtain ⟨rfl, rfl⟩ := q
    rw [← eJa]
    refine ⟨fun z => by omega, fun z => ?_⟩
    obtain ⟨k1, k2, k3, k4, k5⟩ := g2 z
    rw [← eJa] at k1 k2 k3 k4 k5
    refine ⟨by rw [o _ (by omega) (by omega)]; exact k1, by rw [o _ (by omega) (by omega)]; exact k2, by rw [o J (by omega) (by omega), o (J + 1) (by omega) (by omega)]; exact k3, by rw [iJ2]; omega, fun k hk => ?_⟩
    rw [iJ2] at hk
    by_cases qk : k = c
    · rw [qk, iJ3]; exact hv
    · rw [o _ (by omega) (by omega)]
      exact k5 k (by omega)
  · have ne : ∀ x, x < 5 → q_rN a v (q_at 0 m' i' + x) = a (q_at 0 m' i' + x) := fun x hx => o _ (fun z => by
      rw [eJa] at z
      have := q_atI (m := m') (i := i') (m' := m) (i' := i) (c := x) (c' := 3 + c) hi' (show i < 8 by omega) hx (by omega) (by omega)
      omega) (fun z => by
      rw [eJa] at z
      have := q_atI (c' := 2) hi' (show i < 8 by omega) hx (by omega) z
      omega)
    rw [ne 2 (by omega)]
    exact ⟨g1, fun z => (g2 z).cg ne⟩
end QRW
