/-! THE PURE PART: the row that is taken; both sides read all -/
def q_fin (a : Nat → Nat) : Nat → Nat := fun j => if 269 ≤ j ∧ j < 525 then a (j - 256) else a j
theorem q_fin_o {a : Nat → Nat} {j : Nat} (h : j < 269 ∨ 525 ≤ j) : q_fin a j = a j := if_neg (by omega)
theorem q_fin_i {a : Nat → Nat} {j : Nat} (h : j < 256) : q_fin a (269 + j) = a (13 + j) := by
  unfold q_fin
  rw [if_pos (by omega), show 269 + j - 256 = 13 + j by omega]
theorem q_fin_n {a : Nat → Nat} {p m i c : Nat} (hp : p < 2) (hm : m < 6) (hi : i < 8) (hc : c < 5) : q_fin a (q_at p m i + c) = a (q_at 0 m i + c) := by
  rcases (show p = 0 ∨ p = 1 by omega) with rfl | rfl
  · exact q_fin_o (Or.inl (by unfold q_at; omega))
  · have := q_fin_i (a := a) (j := 5 * (8 * m + i) + c) (by omega)
    rw [show q_at 1 m i + c = 269 + (5 * (8 * m + i) + c) by unfold q_at; omega, this, show q_at 0 m i + c = 13 + (5 * (8 * m + i) + c) by unfold q_at; omega]
theorem q_fin_h {a : Nat → Nat} {p c n : Nat} (hp : p < 2) (hc : c < 4) (hn : n < 4) : q_fin a (q_hs p c n) = a (q_hs 0 c n) := by
  rcases (show p = 0 ∨ p = 1 by omega) with rfl | rfl
  · exact q_fin_o (Or.inl (by unfold q_hs; omega))
  · have := q_fin_i (a := a) (j := 240 + 4 * c + n) (by omega)
    rw [show q_hs 1 c n = 269 + (240 + 4 * c + n) by unfold q_hs; omega, this, show q_hs 0 c n = 13 + (240 + 4 * c + n) by unfold q_hs; omega]
section QFI
variable {a : Nat → Nat} {hc hm : Nat} {b : Nat → Nat} {n : Nat}
theorem q_fin_ok (hd : q_dk a hc hm) (hw : q_wh a hc hm = true) : q_ok (q_fin a) := by
  obtain ⟨d1, d2, d3, d4, d5, d6, d7⟩ := hd
  unfold q_wh at hw
  rw [Bool.and_eq_true, Bool.and_eq_true, decide_eq_true_eq, decide_eq_true_eq] at hw
  obtain ⟨w1, w2, w3⟩ := hw
  have f0 : ∀ j, j < 269 → q_fin a j = a j := fun j hj => q_fin_o (Or.inl hj)
  have lead : ∀ m i k, m < a 0 → i < a (7 + m) → k < a (q_at 0 m i + 2) → a (q_at 0 m i + 3 + k) = 9 ∨ a (q_at 0 m i + 3 + k) < a (7 + m) := by
    intro m i k hm hi hk
    have l1 := (q_aA_iff _ _).mp w3 m (Nat.zero_le _) (by omega)
    have l2 := (q_aA_iff _ _).mp l1 i (Nat.zero_le _) (by omega)
    have l3 := (q_aA_iff _ _).mp l2 k (Nat.zero_le _) (by omega)
    unfold q_l3 at l3
    rw [Bool.or_eq_true, decide_eq_true_eq, decide_eq_true_eq] at l3
    exact l3
  refine ⟨by rw [f0 0 (by omega)]; exact d1.1, by rw [f0 1 (by omega)]; exact d1.2.1, by rw [f0 2 (by omega)]; exact d1.2.2.1, fun m hm => ?_, fun p m i hp hm hi => ?_, fun c hc => ?_, fun p c n hp hc hn => ?_, fun t ht => ?_⟩
  · rw [f0 0 (by omega)] at hm
    have := d1.1
    rw [f0 (7 + m) (by omega)]
    exact (d1.2.2.2 m (by omega)).1
  · rw [f0 0 (by omega)] at hm
    have := d1.1
    have hm6 : m < 6 := by omega
    rw [f0 (7 + m) (by omega)] at hi ⊢
    have h7 := (d1.2.2.2 m hm6).1
    have fe : ∀ c, c < 5 → q_fin a (q_at p m i + c) = a (q_at 0 m i + c) := fun c hc => q_fin_n hp hm6 (by omega) hc
    obtain ⟨g1, g2, g3, g4, g5⟩ := (d2 m i hm6 (by omega)).2 hi
    rw [show q_fin a (q_at p m i) = a (q_at 0 m i) from fe 0 (by omega), fe 1 (by omega), fe 2 (by omega)]
    refine ⟨g1, g2, g3, g4, fun k hk => ?_⟩
    rw [show q_at p m i + 3 + k = q_at p m i + (3 + k) by omega, fe (3 + k) (by omega), ← Nat.add_assoc]
    exact lead m i k hm hi hk
  · rw [f0 1 (by omega)] at hc
    have := d1.2.1
    rw [f0 (3 + c) (by omega)]
    exact d3 c hc
  · rw [f0 1 (by omega)] at hc
    have := d1.2.1
    rw [f0 0 (by omega), q_fin_h hp (by omega) hn]
    have := d4 c n (by omega) hn
    omega
  · rw [f0 2 (by omega)] at ht
    rw [f0 1 (by omega), q_fin_o (Or.inr (by omega)), q_fin_o (Or.inr (by omega)), q_fin_o (Or.inr (by omega))]
    have := d5 t ht
    omega
theorem q_fin_p {I : Nat → Nat → Int32} {p : Nat} (hp : p < 2) (hd : q_dk a hc hm) (hg : q_cDr I a) : q_prg I 4 p (q_fin a) := by
  obtain ⟨⟨c0, c1, c5⟩, c2, c3, c4, _⟩ := hg
  have h06 := hd.1.1
  have h14 := hd.1.2.1
  have f0 : ∀ j, j < 269 → q_fin a j = a j := fun j hj => q_fin_o (Or.inl hj)
  refine ⟨by rw [f0 0 (by omega)]; exact c0, by rw [f0 1 (by omega)]; exact c1, fun m hm => ?_, fun m i hm hi => ?_, fun c hc => ?_, fun c n hc hn => ?_⟩
  · rw [f0 0 (by omega)] at hm
    rw [f0 (7 + m) (by omega)]
    exact c5 m hm
  · rw [f0 0 (by omega)] at hm
    have hm6 : m < 6 := by omega
    rw [f0 (7 + m) (by omega)] at hi
    have h7 := (hd.1.2.2.2 m hm6).1
    have fe : ∀ c, c < 5 → q_fin a (q_at p m i + c) = a (q_at 0 m i + c) := fun c hc => q_fin_n hp hm6 (by omega) hc
    obtain ⟨g1, g2⟩ := c2 m i hm6 (by omega)
    obtain ⟨k1, k2, k3⟩ := g1 hi
    rw [show q_fin a (q_at p m i) = a (q_at 0 m i) from fe 0 (by omega), fe 1 (by omega), fe 2 (by omega)]
    refine ⟨k1, k2, k3, fun k hk => ?_⟩
    rw [show q_at p m i + 3 + k = q_at p m i + (3 + k) by omega, fe (3 + k) (by omega), ← Nat.add_assoc]
    exact g2 k hk
  · rw [f0 1 (by omega)] at hc
    rw [f0 (3 + c) (by omega)]
    exact c3 c hc
  · rw [f0 1 (by omega)] at hc
    rw [q_fin_h hp (by omega) hn]
    exact c4 c n (by omega) hn
theorem q_fin_t {I : Nat → Nat → Int32} (hg : q_cDr I a) : q_tst I 12 (q_fin a) := q_tst.cgA (q_fin_o (Or.inl (by omega))) (fun j hj => q_fin_o (Or.inr hj)) hg.2.2.2.2
theorem q_a0_dk : q_dk q_a0 0 0 := by
  have z0 : q_a0 0 = 0 := rfl
  have z1 : q_a0 1 = 0 := rfl
  have z2 : q_a0 2 = 0 := rfl
  refine ⟨⟨by omega, by omega, by omega, fun m hm => ?_⟩, fun m i hm hi => ?_, fun c hc => by omega, fun c n hc hn => ?_, fun t ht => by omega, by omega, by omega⟩
  · rw [q_a0_out (by omega) (by omega)]
    omega
  · have hb := q_atb (p := 0) (by decide) hm hi
    rw [q_a0_out (j := 7 + m) (by omega) (by omega)]
    exact ⟨fun _ => q_a0_out (by omega) (by omega), fun q => absurd q (by omega)⟩
  · have := q_hsb hc hn
    exact Or.inl (q_a0_in (Or.inl this))
/-- what a text comes to -/
def q_tr (b : Nat → Nat) (n : Nat) : (Nat × Nat) × (Nat → Nat) × Nat × Nat × Nat := if q_kd b n (q_ts b n 0) = 0 then ((1, q_ts b n 0), q_a0, 0, 0, 0) else q_tx b n (n + 1) q_a0 0 0 (q_ts b n 0) 0
theorem q_tx_c : ∀ f (a : Nat → Nat) hc hm s L, (q_tx b n f a hc hm s L).1.1 ≤ 5 := by
  intro f
  induction f with
  | zero => intro a hc hm s L; show 0 ≤ 5; omega
  | succ f ih =>
    intro a hc hm s L
    show (if q_kd b n s = 4 then ((0, s), a, hc, hm, L) else if (q_lr b n a s).1 = 0 then q_tx b n f (q_la b n a s) (q_hC (q_ln b n s) (q_lV b n s) hc) (q_hM (q_ln b n s) (q_lV b n s) hm) (q_lr b n a s).2 (L + 1) else (q_lr b n a s, a, hc, hm, L)).1.1 ≤ 5
    by_cases h4 : q_kd b n s = 4
    · rw [if_pos h4]; show 0 ≤ 5; omega
    rw [if_neg h4]
    by_cases hr : (q_lr b n a s).1 = 0
    · rw [if_pos hr]; exact ih _ _ _ _ _
    · rw [if_neg hr]; exact q_lr_c
theorem q_tr_c : (q_tz (q_tr b n)).1 ≤ 6 := by
  have h5 : (q_tr b n).1.1 ≤ 5 := by
    unfold q_tr
    by_cases h0 : q_kd b n (q_ts b n 0) = 0
    · rw [if_pos h0]; show 1 ≤ 5; omega
    · rw [if_neg h0]; exact q_tx_c _ _ _ _ _ _
  unfold q_tz
  by_cases h1 : (q_tr b n).1.1 = 0
  · rw [if_pos h1]
    by_cases h2 : q_wh (q_tr b n).2.1 (q_tr b n).2.2.1 (q_tr b n).2.2.2.1 = true
    · rw [if_pos h2]; show 0 ≤ 6; omega
    · rw [if_neg h2]; show 6 ≤ 6; omega
  · rw [if_neg h1]; omega
theorem q_tz_w {r : (Nat × Nat) × (Nat → Nat) × Nat × Nat × Nat} (h : (q_tz r).1 = 0) : q_wh r.2.1 r.2.2.1 r.2.2.2.1 = true := by
  unfold q_tz at h
  by_cases h1 : r.1.1 = 0
  · rw [if_pos h1] at h
    by_cases h2 : q_wh r.2.1 r.2.2.1 r.2.2.2.1 = true
    · exact h2
    · rw [if_neg h2] at h; cases h
  · rw [if_neg h1] at h
    exact absurd h h1
theorem q_cRd {h : z_H} (ht : q_tC h.1 b n) : ∃ h', z_M 53 [.ref 3] h = some (0, h') ∧ q_cEnd h h' (q_tr b n) := by
  obtain ⟨g, eg⟩ : ∃ g, g = z_wI (z_wI (z_fiI (z_fiI (z_wI (z_wI (z_wI (z_wI (z_wI (z_wI h 3 0 0) 3 2 0) 3 7 (-4)) 3 8 (-4)) 4 0 0) 4 1 0) 9 (-4)) 11 (-4)) 12 0 0) 1 4 0 := ⟨_, rfl⟩
  have G : ∀ o k, g.1 o k = if o = 1 ∧ k = 4 then 0 else if o = 12 ∧ k = 0 then 0 else if o = 11 then -4 else if o = 9 then -4 else if o = 4 ∧ k = 1 then 0 else if o = 4 ∧ k = 0 then 0 else if o = 3 ∧ k = 8 then -4 else if o = 3 ∧ k = 7 then -4 else if o = 3 ∧ k = 2 then 0 else if o = 3 ∧ k = 0 then 0 else h.1 o k := by
    intro o k
    rw [eg, z_wI1, z_wI1, q_fi1, q_fi1, z_wI1, z_wI1, z_wI1, z_wI1, z_wI1, z_wI1]
  have E : z_M 53 [.ref 3] h = z_bd (z_M 55 [.ref 3] g) (fun r5 h6 => zl_Rd_readAll_50 0 h6) := by
    have f1 : ∀ h, z_M 902 [.ref (4 + 5), .int (-4)] h = some (0, z_fiI h 9 (-4)) := fun h => q_fi (o := 9) (by decide +kernel) (-4) h
    have f2 : ∀ h, z_M 902 [.ref (4 + 7), .int (-4)] h = some (0, z_fiI h 11 (-4)) := fun h => q_fi (o := 11) (by decide +kernel) (-4) h
    rw [e_Rd_readAll, e_P_clear (o := 4) (by decide), f1, z_bd_some, f2, z_bd_some, z_bd_some, e_Tp_rewind, z_bd_some, ← eg]
  have go : ∀ o k, ¬ (o = 1 ∧ 1 ≤ k ∧ k ≤ 4) → ¬ (3 ≤ o ∧ o ≤ 16) → g.1 o k = h.1 o k := fun o k q q' => by
    rw [G, if_neg (by omega), if_neg (by omega), if_neg (by omega), if_neg (by omega), if_neg (by omega), if_neg (by omega), if_neg (by omega), if_neg (by omega), if_neg (by omega), if_neg (by omega)]
  have tg : q_tC g.1 b n := ⟨ht.1, (go _ _ (by omega) (by omega)).trans ht.2.1, fun i hi => ⟨(ht.2.2 i hi).1, (go _ _ (by omega) (by omega)).trans (ht.2.2 i hi).2⟩⟩
  have g14 : g.1 1 4 = nI 0 := by rw [G, if_pos ⟨rfl, rfl⟩]; rfl
  have g30 : g.1 3 0 = 0 := by rw [G]; rfl
  have g32 : g.1 3 2 = nI 0 := by rw [G]; rfl
  have g37 : g.1 3 7 = -4 := by rw [G]; rfl
  have g38 : g.1 3 8 = -4 := by rw [G]; rfl
  have g40 : g.1 4 0 = nI 0 := by rw [G]; rfl
  have g41 : g.1 4 1 = nI 0 := by rw [G]; rfl
  have g9 : ∀ k, g.1 9 k = -4 := fun k => by rw [G, if_neg (by omega), if_neg (by omega), if_neg (by omega), if_pos rfl]
  have g11 : ∀ k, g.1 11 k = -4 := fun k => by rw [G, if_neg (by omega), if_neg (by omega), if_pos rfl]
  have g12 : g.1 12 0 = nI 0 := by rw [G]; rfl
  obtain ⟨h1, a1, a2, a3⟩ := q_cAdvR (p := 0) tg (Nat.zero_le n) g14 g30
  have z0 : q_a0 0 = 0 := rfl
  have z1 : q_a0 1 = 0 := rfl
  have z2 : q_a0 2 = 0 := rfl
  have hS : q_cS h1.1 q_a0 0 0 := by
    refine ⟨q_a0_dk, ⟨⟨?_, ?_, fun m hm => by omega⟩, fun m i hm hi => ⟨fun q => ?_, fun k hk => ?_⟩, fun c hc => by omega, fun c n hc hn => ?_, ?_, fun i hi => by omega⟩, ?_, ?_⟩
    · rw [a3 _ _ (by omega) (by omega), g40, z0]
    · rw [a3 _ _ (by omega) (by omega), g41, z1]
    · rw [q_a0_out (j := 7 + m) (by omega) (by omega)] at q
      omega
    · have hb := q_atb (p := 0) (by decide) hm hi
      rw [a3 _ _ (by omega) (by omega), g9, q_a0_out (j := q_at 0 m i + 2) (by omega) (by omega), if_neg (by omega)]
    · have := q_hsb hc hn
      rw [a3 _ _ (by omega) (by omega), g11, q_a0_in (Or.inl this)]
      rfl
    · rw [a3 _ _ (by omega) (by omega), g12, z2]
    · rw [a3 _ _ (by omega) (by omega), g37]; rfl
    · rw [a3 _ _ (by omega) (by omega), g38]; rfl
  have fr : ∀ o k, ¬ (o = 1 ∧ 1 ≤ k ∧ k ≤ 4) → ¬ (3 ≤ o ∧ o ≤ 16) → h1.1 o k = h.1 o k := fun o k q q' => (a3 o k q (by omega)).trans (go o k q q')
  have hts := q_ts_le (b := b) (Nat.zero_le n)
  rw [E, a1, z_bd_some]
  unfold q_tr
  by_cases h0 : q_kd b n (q_ts b n 0) = 0
  · obtain ⟨u1, u2⟩ := a2.2.2.2.2.2.2 h0
    have u1 : h1.1 3 0 = nI 1 := u1
    rw [if_pos h0]
    refine ⟨h1, q_c50F (by decide) (by decide) u1, fr, ?_, ?_⟩
    · rw [q_tzc (show ¬ (1 : Nat) = 0 by decide)]
      exact fun _ => ⟨u1, u2⟩
    · rw [q_tzc (show ¬ (1 : Nat) = 0 by decide)]
      exact fun q => by cases q
  · rw [if_neg h0]
    obtain ⟨h', d1, d2, d3, d4⟩ := q_cLp (n + 1) q_a0 0 0 (q_ts b n 0) 0 0 h1 (by omega) hts.2 (Nat.zero_le _) a2 h0 hS ((a3 _ _ (by omega) (by omega)).trans g32)
    exact ⟨h', d1, fun o k q q' => (d2 o k q q').trans (fr o k q q'), d3, d4⟩
theorem q_mRd0 {h : z_H} (ht : q_tM h.1 b n) : ∃ h' x, z_M 150 [.ref 122] h = zl_M_text_61 x h' ∧ q_mEnd h h' x (q_tr b n) := by
  obtain ⟨g, eg⟩ : ∃ g, g = z_wI (z_wI h 122 12 0) 122 8 0 := ⟨_, rfl⟩
  have go : ∀ o k, ¬ (o = 122 ∧ (k = 8 ∨ k = 12)) → g.1 o k = h.1 o k := fun o k q => by rw [eg, z_wI1, if_neg (by omega), z_wI1, if_neg (by omega)]
  obtain ⟨h1, d1, d2, _, d4, d5, d6⟩ := q_draft g
  have f1 : ∀ o k, ¬ (o = 122 ∧ (k = 4 ∨ k = 5 ∨ k = 8 ∨ k = 12)) → o ≠ 126 → h1.1 o k = h.1 o k := fun o k q q' => (d2 o k q' (by omega)).trans (go o k (by omega))
  have t1 : q_tM h1.1 b n := ⟨ht.1, (f1 _ _ (by omega) (by omega)).trans ht.2.1, fun i hi => ⟨(ht.2.2 i hi).1, (f1 _ _ (by omega) (by omega)).trans (ht.2.2 i hi).2⟩⟩
  have w8 : h1.1 122 8 = nI 0 := by rw [d2 _ _ (by omega) (by omega), eg, z_wI1, if_pos ⟨rfl, rfl⟩]; rfl
  have w12 : h1.1 122 12 = 0 := by rw [d2 _ _ (by omega) (by omega), eg, z_wI1, if_neg (by omega), z_wI1, if_pos ⟨rfl, rfl⟩]
  obtain ⟨h2, a1, a2, a3⟩ := q_mRd t1 (Nat.zero_le n) w8 w12
  have hS : q_mS h2.1 q_a0 0 0 := ⟨q_a0_dk, fun j hj => (a3 _ _ (by omega)).trans (d6 j hj), (a3 _ _ (by omega)).trans d4, (a3 _ _ (by omega)).trans d5⟩
  have rg : q_rg h h2 := fun o k q q' => (a3 o k (by omega)).trans (f1 o k (by omega) q')
  have hts := q_ts_le (b := b) (Nat.zero_le n)
  have E : z_M 150 [.ref 122] h = zl_M_text_20 (nI 0) h2 := by
    rw [e_M_text, ← eg, d1, z_bd_some, a1, z_bd_some]
    rfl
  rw [E]
  unfold q_tr
  by_cases h0 : q_kd b n (q_ts b n 0) = 0
  · obtain ⟨u1, u2⟩ := a2.2.2 h0
    have u1 : h2.1 122 12 = nI 1 := u1
    rw [if_pos h0]
    refine ⟨h2, nI 0, q_m20F (by decide) (by decide) u1, rg, ?_, ?_⟩
    · rw [q_tzc (show ¬ (1 : Nat) = 0 by decide)]
      exact fun _ => ⟨u1, u2⟩
    · rw [q_tzc (show ¬ (1 : Nat) = 0 by decide)]
      exact fun q => by cases q
  · rw [if_neg h0]
    obtain ⟨h', x, c1, c2, c3⟩ := q_mLp (n + 1) q_a0 0 0 (q_ts b n 0) 0 h2 (by omega) hts.2 a2 h0 hS
    exact ⟨h', x, c1, rg.trans c2, c3⟩
end QFI
