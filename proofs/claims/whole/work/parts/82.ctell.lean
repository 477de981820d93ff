/-! THE PURE PART: the class's draft, and how a line is told to it -/
def q_C1 (I : Nat → Nat → Int32) (a : Nat → Nat) : Prop := I 4 0 = nI (a 0) ∧ I 4 1 = nI (a 1) ∧ ∀ m, m < a 0 → I 5 m = nI (a (7 + m))
def q_C2 (I : Nat → Nat → Int32) (a : Nat → Nat) : Prop := ∀ m i, m < 6 → i < 8 → (i < a (7 + m) → I 6 (8 * m + i) = nI (a (q_at 0 m i)) ∧ I 7 (8 * m + i) = nI (a (q_at 0 m i + 1)) ∧ I 8 (8 * m + i) = nI (a (q_at 0 m i + 2))) ∧ ∀ k, k < 2 → I 9 (16 * m + 2 * i + k) = if k < a (q_at 0 m i + 2) then nI (a (q_at 0 m i + 3 + k)) else -4
def q_C3 (I : Nat → Nat → Int32) (a : Nat → Nat) : Prop := ∀ c, c < a 1 → I 10 c = nI (a (3 + c))
def q_C4 (I : Nat → Nat → Int32) (a : Nat → Nat) : Prop := ∀ c n, c < 4 → n < 4 → I 11 (4 * c + n) = q_v (a (q_hs 0 c n))
def q_cDr (I : Nat → Nat → Int32) (a : Nat → Nat) : Prop := q_C1 I a ∧ q_C2 I a ∧ q_C3 I a ∧ q_C4 I a ∧ q_tst I 12 a
section QCT
variable {a a' : Nat → Nat} {I I1 : Nat → Nat → Int32} {hc hm : Nat}
theorem q_C1.cg (d : q_d1 a) (h : q_C1 I a) (eI : ∀ k, I1 4 k = I 4 k ∧ I1 5 k = I 5 k) (e : ∀ j, j < 13 → a' j = a j) : q_C1 I1 a' := by
  have := d.1
  refine ⟨by rw [(eI 0).1, e 0 (by omega)]; exact h.1, by rw [(eI 1).1, e 1 (by omega)]; exact h.2.1, fun m hm => ?_⟩
  rw [e 0 (by omega)] at hm
  rw [(eI m).2, e (7 + m) (by omega)]
  exact h.2.2 m hm
theorem q_C2.cg (h : q_C2 I a) (eI : ∀ o k, 6 ≤ o → o ≤ 9 → I1 o k = I o k) (e : ∀ j, 7 ≤ j → j < 253 → a' j = a j) : q_C2 I1 a' := by
  intro m i hm hi
  have hb := q_atb (p := 0) (by decide) hm hi
  obtain ⟨g1, g2⟩ := h m i hm hi
  rw [e (7 + m) (by omega) (by omega), e (q_at 0 m i) (by omega) (by omega), e (q_at 0 m i + 1) (by omega) (by omega), e (q_at 0 m i + 2) (by omega) (by omega), eI 6 _ (by omega) (by omega), eI 7 _ (by omega) (by omega), eI 8 _ (by omega) (by omega)]
  refine ⟨g1, fun k hk => ?_⟩
  rw [eI 9 _ (by omega) (by omega), e (q_at 0 m i + 3 + k) (by omega) (by omega)]
  exact g2 k hk
theorem q_C3.cg (d : a 1 ≤ 4) (h : q_C3 I a) (eI : ∀ k, I1 10 k = I 10 k) (e : ∀ j, 1 ≤ j → j < 7 → j ≠ 2 → a' j = a j) : q_C3 I1 a' := by
  intro c hc
  rw [e 1 (by omega) (by omega) (by omega)] at hc
  rw [eI, e (3 + c) (by omega) (by omega) (by omega)]
  exact h c hc
theorem q_C4.cg (h : q_C4 I a) (eI : ∀ k, I1 11 k = I 11 k) (e : ∀ j, 253 ≤ j → j < 269 → a' j = a j) : q_C4 I1 a' := by
  intro c n hc hn
  have := q_hsb hc hn
  rw [eI, e _ (by omega) (by omega)]
  exact h c n hc hn
theorem q_cM {h : z_H} (hd : q_dk a hc hm) (hg : q_cDr h.1 a) (h6 : a 0 < 6) : ∃ h', z_M 85 [.ref 4] h = some (0, h') ∧ q_cDr h'.1 (q_rM a) ∧ ∀ o k, ¬ (4 ≤ o ∧ o ≤ 15) → h'.1 o k = h.1 o k := by
  obtain ⟨g1, g2, g3, g4, g5⟩ := hg
  obtain ⟨d1, _⟩ := hd
  have o : ∀ j, j ≠ 0 → q_rM a j = a j := fun j hj => q_s1_o hj
  have i0 : q_rM a 0 = a 0 + 1 := q_s1_i
  have w0 : (z_wI h 5 (a 0) 0).1 4 0 = nI (a 0) := by rw [z_wI1, if_neg (by omega)]; exact g1.1
  have r : ∀ o k, ¬ (o = 5 ∧ k = a 0) → ¬ (o = 4 ∧ k = 0) → (z_wI (z_wI h 5 (a 0) 0) 4 0 (nI (a 0 + 1))).1 o k = h.1 o k := fun o k q q' => by rw [z_wI1, if_neg q', z_wI1, if_neg q]
  refine ⟨z_wI (z_wI h 5 (a 0) 0) 4 0 (nI (a 0 + 1)), ?_, ⟨⟨?_, ?_, fun m hm => ?_⟩, g2.cg (fun o k _ _ => r o k (by omega) (by omega)) (fun j _ _ => o j (by omega)), g3.cg d1.2.1 (fun k => r _ _ (by omega) (by omega)) (fun j _ _ _ => o j (by omega)), g4.cg (fun k => r _ _ (by omega) (by omega)) (fun j _ _ => o j (by omega)), (g5.congr (fun o k _ _ => r o k (by omega) (by omega))).cgA (o 2 (by omega)) (fun j _ => o j (by omega))⟩, fun o k q => r o k (by omega) (by omega)⟩
  · rw [e_P_appendMethod (by decide), g1.1, if_neg (show ¬ (6 : Int32) ≤ nI (a 0) from nI_ge (b := 6) h6 (by decide)), q_inC h6 (by decide), nI_clamp (by omega)]
    show some ((0 : Int32), z_wI (z_wI h 5 (a 0) 0) 4 0 ((z_wI h 5 (a 0) 0).1 4 0 + 1)) = _
    rw [w0, nI_1]
  · rw [z_wI1, if_pos ⟨rfl, rfl⟩, i0]
  · rw [r _ _ (by omega) (by omega), o 1 (by omega)]; exact g1.2.1
  · rw [i0] at hm
    rw [o _ (by omega)]
    by_cases q : m = a 0
    · rw [q, z_wI1, if_neg (by omega), z_wI1, if_pos ⟨rfl, rfl⟩, (d1.2.2.2 (a 0) h6).2 (Nat.le_refl _)]
      rfl
    · rw [r _ _ (by omega) (by omega)]
      exact g1.2.2 m (by omega)
theorem q_cC {h : z_H} {v : Nat} (hd : q_dk a hc hm) (hg : q_cDr h.1 a) (h4 : a 1 < 4) : ∃ h', z_M 88 [.ref 4, .int (nI v)] h = some (0, h') ∧ q_cDr h'.1 (q_rC a v) ∧ ∀ o k, ¬ (4 ≤ o ∧ o ≤ 15) → h'.1 o k = h.1 o k := by
  obtain ⟨g1, g2, g3, g4, g5⟩ := hg
  obtain ⟨d1, _⟩ := hd
  have o : ∀ j, j ≠ 1 → j ≠ 3 + a 1 → q_rC a v j = a j := fun j hj hj' => (q_s1_o hj).trans (q_s1_o hj')
  have i1 : q_rC a v 1 = a 1 + 1 := q_s1_i
  have i3 : q_rC a v (3 + a 1) = v := (q_s1_o (by omega)).trans q_s1_i
  have w0 : (z_wI h 10 (a 1) (nI v)).1 4 1 = nI (a 1) := by rw [z_wI1, if_neg (by omega)]; exact g1.2.1
  have r : ∀ o k, ¬ (o = 10 ∧ k = a 1) → ¬ (o = 4 ∧ k = 1) → (z_wI (z_wI h 10 (a 1) (nI v)) 4 1 (nI (a 1 + 1))).1 o k = h.1 o k := fun o k q q' => by rw [z_wI1, if_neg q', z_wI1, if_neg q]
  refine ⟨z_wI (z_wI h 10 (a 1) (nI v)) 4 1 (nI (a 1 + 1)), ?_, ⟨⟨?_, ?_, fun m hm => ?_⟩, g2.cg (fun o k _ _ => r o k (by omega) (by omega)) (fun j _ _ => o j (by omega) (by omega)), fun c hc => ?_, g4.cg (fun k => r _ _ (by omega) (by omega)) (fun j _ _ => o j (by omega) (by omega)), (g5.congr (fun o k _ _ => r o k (by omega) (by omega))).cgA (o 2 (by omega) (by omega)) (fun j _ => o j (by omega) (by omega))⟩, fun o k q => r o k (by omega) (by omega)⟩
  · rw [e_P_appendClass (by decide), g1.2.1, if_neg (show ¬ (4 : Int32) ≤ nI (a 1) from nI_ge (b := 4) h4 (by decide)), q_inC h4 (by decide), nI_clamp (by omega)]
    show some ((0 : Int32), z_wI (z_wI h 10 (a 1) (nI v)) 4 1 ((z_wI h 10 (a 1) (nI v)).1 4 1 + 1)) = _
    rw [w0, nI_1]
  · rw [r _ _ (by omega) (by omega), o 0 (by omega) (by omega)]; exact g1.1
  · rw [z_wI1, if_pos ⟨rfl, rfl⟩, i1]
  · rw [o 0 (by omega) (by omega)] at hm
    rw [r _ _ (by omega) (by omega), o (7 + m) (by omega) (by omega)]
    exact g1.2.2 m hm
  · rw [i1] at hc
    by_cases q : c = a 1
    · rw [q, z_wI1, if_neg (by omega), z_wI1, if_pos ⟨rfl, rfl⟩, i3]
    · rw [r _ _ (by omega) (by omega), o _ (by omega) (by omega)]
      exact g3 c (by omega)
theorem q_cH {h h' : z_H} {c n v : Nat} (hd : q_dk a hc hm) (hg : q_cDr h.1 a) (h4 : c < 4) (hn : n < 4) (hv : v < 6) (e : ∀ o k, 4 ≤ o → o ≤ 15 → ¬ (o = 11 ∧ k = 4 * c + n) → h'.1 o k = h.1 o k) (e1 : h'.1 11 (4 * c + n) = nI v) : q_cDr h'.1 (q_rH a c n v) := by
  obtain ⟨g1, g2, g3, g4, g5⟩ := hg
  obtain ⟨d1, _⟩ := hd
  have hb := q_hsb h4 hn
  have o : ∀ j, j ≠ q_hs 0 c n → q_rH a c n v j = a j := fun j hj => q_s1_o hj
  refine ⟨g1.cg d1 (fun k => ⟨e _ _ (by omega) (by omega) (by omega), e _ _ (by omega) (by omega) (by omega)⟩) (fun j _ => o j (by omega)), g2.cg (fun o k _ _ => e o k (by omega) (by omega) (by omega)) (fun j _ _ => o j (by omega)), g3.cg d1.2.1 (fun k => e _ _ (by omega) (by omega) (by omega)) (fun j _ _ _ => o j (by omega)), fun c' n' hc' hn' => ?_, (g5.congr (fun o k _ _ => e o k (by omega) (by omega) (by omega))).cgA (o 2 (by omega)) (fun j _ => o j (by omega))⟩
  by_cases q : q_hs 0 c' n' = q_hs 0 c n
  · obtain ⟨rfl, rfl⟩ := q_hsI hn' hn q
    rw [e1, show q_rH a c' n' v (q_hs 0 c' n') = v from q_s1_i, q_vn (by omega)]
  · rw [o _ q, e _ _ (by omega) (by omega) (fun z => q (by unfold q_hs; omega))]
    exact g4 c' n' hc' hn'
theorem q_cTs {h : z_H} {c d s : Nat} (hd : q_dk a hc hm) (hg : q_cDr h.1 a) (h8 : a 2 < 8) : ∃ h1, z_M 93 [.ref 12, .int (nI c), .int (nI d), .int (nI s)] h = some (0, h1) ∧ q_cDr h1.1 (q_ap a c d s) ∧ ∀ o k, ¬ (4 ≤ o ∧ o ≤ 15) → h1.1 o k = h.1 o k := by
  obtain ⟨g1, g2, g3, g4, g5⟩ := hg
  obtain ⟨d1, _⟩ := hd
  obtain ⟨t1, t2⟩ := id g5
  have ho : ∀ j, j ≠ 2 → j < 525 → q_ap a c d s j = a j := fun j h1 h2 => q_ap_o (by omega) (by omega) (by omega) (by omega)
  have fl : z_M 91 [.ref 12] h = some (0, h) := by
    rw [e_Ts_isFull (by decide), t1, if_pos (show nI (a 2) < 8 from nI_lt (b := 8) h8 (by decide))]
  have r1 : ∀ x, (z_wI h 13 (a 2) x).1 12 0 = nI (a 2) := fun x => by rw [z_wI1, if_neg (by omega), t1]
  have r2 : ∀ x y, (z_wI (z_wI h 13 (a 2) x) 14 (a 2) y).1 12 0 = nI (a 2) := fun x y => by rw [z_wI1, if_neg (by omega), r1]
  have r3 : ∀ x y z, (z_wI (z_wI (z_wI h 13 (a 2) x) 14 (a 2) y) 15 (a 2) z).1 12 0 = nI (a 2) := fun x y z => by rw [z_wI1, if_neg (by omega), r2]
  have r : ∀ o k, ¬ (12 ≤ o ∧ o ≤ 15) → (z_wI (z_wI (z_wI (z_wI h 13 (a 2) (nI c)) 14 (a 2) (nI d)) 15 (a 2) (nI s)) 12 0 (nI (a 2 + 1))).1 o k = h.1 o k := fun o k q => by rw [z_wI1, if_neg (by omega), z_wI1, if_neg (by omega), z_wI1, if_neg (by omega), z_wI1, if_neg (by omega)]
  refine ⟨z_wI (z_wI (z_wI (z_wI h 13 (a 2) (nI c)) 14 (a 2) (nI d)) 15 (a 2) (nI s)) 12 0 (nI (a 2 + 1)), ?_, ⟨⟨?_, ?_, fun m hm => ?_⟩, g2.cg (fun o k _ _ => r o k (by omega)) (fun j _ _ => ho j (by omega) (by omega)), g3.cg d1.2.1 (fun k => r _ _ (by omega)) (fun j _ _ _ => ho j (by omega) (by omega)), g4.cg (fun k => r _ _ (by omega)) (fun j _ _ => ho j (by omega) (by omega)), ?_, fun i hi => ?_⟩, fun o k q => r o k (by omega)⟩
  · rw [e_Ts_append (by decide), fl, z_bd_some, if_neg (show ¬ ¬ (0 : Int32) = 0 from fun q => q rfl), t1, q_inC h8 (by decide), nI_clamp (by omega)]
    show (bif z_in ((z_wI h 13 (a 2) (nI c)).1 12 0) 8 then (bif z_in ((z_wI (z_wI h 13 (a 2) (nI c)) 14 ((z_wI h 13 (a 2) (nI c)).1 12 0).toNatClampNeg (nI d)).1 12 0) 8 then some ((0 : Int32), z_wI (z_wI (z_wI (z_wI h 13 (a 2) (nI c)) 14 ((z_wI h 13 (a 2) (nI c)).1 12 0).toNatClampNeg (nI d)) 15 ((z_wI (z_wI h 13 (a 2) (nI c)) 14 ((z_wI h 13 (a 2) (nI c)).1 12 0).toNatClampNeg (nI d)).1 12 0).toNatClampNeg (nI s)) 12 0 ((z_wI (z_wI (z_wI h 13 (a 2) (nI c)) 14 ((z_wI h 13 (a 2) (nI c)).1 12 0).toNatClampNeg (nI d)) 15 ((z_wI (z_wI h 13 (a 2) (nI c)) 14 ((z_wI h 13 (a 2) (nI c)).1 12 0).toNatClampNeg (nI d)).1 12 0).toNatClampNeg (nI s)).1 12 0 + 1)) else none) else none) = _
    rw [r1, q_inC h8 (by decide), nI_clamp (by omega), r2, q_inC h8 (by decide), nI_clamp (by omega), r3, nI_1]
  · rw [r _ _ (by omega), ho 0 (by omega) (by omega)]; exact g1.1
  · rw [r _ _ (by omega), ho 1 (by omega) (by omega)]; exact g1.2.1
  · have h06 := d1.1
    rw [ho 0 (by omega) (by omega)] at hm
    rw [r _ _ (by omega), ho (7 + m) (by omega) (by omega)]
    exact g1.2.2 m hm
  · rw [z_wI1, if_pos ⟨rfl, rfl⟩]
    rfl
  · have hi : i < a 2 + 1 := hi
    by_cases h1 : i = a 2
    · rw [h1, q_ap_c, q_ap_d, q_ap_s]
      refine ⟨?_, ?_, ?_⟩
      · rw [z_wI1, if_neg (by omega), z_wI1, if_neg (by omega), z_wI1, if_neg (by omega), z_wI1, if_pos ⟨rfl, rfl⟩]
      · rw [z_wI1, if_neg (by omega), z_wI1, if_neg (by omega), z_wI1, if_pos ⟨rfl, rfl⟩]
      · rw [z_wI1, if_neg (by omega), z_wI1, if_pos ⟨rfl, rfl⟩]
    · rw [q_ap_o (by omega) (by omega) (by omega) (by omega), q_ap_o (by omega) (by omega) (by omega) (by omega), q_ap_o (by omega) (by omega) (by omega) (by omega)]
      have := t2 i (by omega)
      refine ⟨?_, ?_, ?_⟩
      · rw [z_wI1, if_neg (by omega), z_wI1, if_neg (by omega), z_wI1, if_neg (by omega), z_wI1, if_neg (by omega)]
        exact this.1
      · rw [z_wI1, if_neg (by omega), z_wI1, if_neg (by omega), z_wI1, if_neg (by omega), z_wI1, if_neg (by omega)]
        exact this.2.1
      · rw [z_wI1, if_neg (by omega), z_wI1, if_neg (by omega), z_wI1, if_neg (by omega), z_wI1, if_neg (by omega)]
        exact this.2.2
end QCT
