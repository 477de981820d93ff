/-! THE PURE PART: the class tells a line, and reads it whole -/
section QCR
variable {a : Nat → Nat} {hc hm : Nat} {V : Nat → Nat}
theorem q_cDr.fr {I I1 : Nat → Nat → Int32} (hd : q_dk a hc hm) (h : q_cDr I a) (e : ∀ o k, 4 ≤ o → o ≤ 15 → I1 o k = I o k) : q_cDr I1 a :=
  ⟨h.1.cg hd.1 (fun k => ⟨e _ _ (by omega) (by omega), e _ _ (by omega) (by omega)⟩) (fun _ _ => rfl), h.2.1.cg (fun o k _ _ => e o k (by omega) (by omega)) (fun _ _ _ => rfl), h.2.2.1.cg hd.1.2.1 (fun k => e _ _ (by omega) (by omega)) (fun _ _ _ _ => rfl), h.2.2.2.1.cg (fun k => e _ _ (by omega) (by omega)) (fun _ _ _ => rfl), h.2.2.2.2.congr (fun o k _ _ => e o k (by omega) (by omega))⟩
/-- the class's draft with its marks -/
def q_cS (I : Nat → Nat → Int32) (a : Nat → Nat) (hc hm : Nat) : Prop := q_dk a hc hm ∧ q_cDr I a ∧ I 3 7 = q_hi (-4) hc ∧ I 3 8 = q_hi (-4) hm
theorem q_cRoom {h : z_H} {x : Nat} (hs : q_cS h.1 a hc hm) (hx : x ≤ 5) : z_M 59 [.ref 3, .int (nI x)] h = some (q_b (q_rm a x), h) := by
  obtain ⟨hd, hg, _⟩ := hs
  obtain ⟨g1, g2, g3, g4, g5⟩ := hg
  have d1 := hd.1
  have h06 := d1.1
  have node : (if h.1 4 0 ≤ 0 then some ((0 : Int32), h) else (bif z_in ((h.1 4 0) - 1) 6 then (if (8 : Int32) ≤ h.1 5 (((h.1 4 0) - 1).toNatClampNeg) then some (0, h) else some (1, h)) else none)) = some (q_b (decide (0 < a 0) && decide (q_lN a < 8)), h) := by
    rw [g1.1]
    by_cases h0 : 0 < a 0
    · have s0 : nI (a 0) - 1 = nI (a 0 - 1) := by rw [n_1, q_sub h0]
      have h8 := (d1.2.2.2 (a 0 - 1) (by omega)).1
      have eN : q_lN a = a (7 + (a 0 - 1)) := rfl
      rw [if_neg (show ¬ nI (a 0) ≤ 0 from nI_ge (a := 0) h0 (by omega)), s0, q_inC (show a 0 - 1 < 6 by omega) (by decide), nI_clamp (by omega), g1.2.2 _ (by omega), decide_eq_true h0, Bool.true_and, eN]
      by_cases q : a (7 + (a 0 - 1)) < 8
      · rw [if_neg (show ¬ (8 : Int32) ≤ nI (a (7 + (a 0 - 1))) from nI_ge (b := 8) q (by decide)), decide_eq_true q]
        rfl
      · rw [if_pos (show (8 : Int32) ≤ nI (a (7 + (a 0 - 1))) from nI_le (a := 8) (by omega) (by omega)), decide_eq_false q]
        rfl
    · rw [if_pos (show nI (a 0) ≤ 0 from nI_le (b := 0) (by omega) (by decide)), decide_eq_false h0]
      rfl
  rw [e_Rd_hasRoomFor]
  rcases (show x = 0 ∨ x = 1 ∨ x = 2 ∨ x = 3 ∨ x = 4 ∨ x = 5 by omega) with rfl | rfl | rfl | rfl | rfl | rfl
  · rw [if_pos (show nI 0 = 0 from rfl), g1.1]
    show _ = some (q_b (decide (a 0 < 6)), h)
    by_cases q : a 0 < 6
    · rw [if_neg (show ¬ (6 : Int32) ≤ nI (a 0) from nI_ge (b := 6) q (by decide)), decide_eq_true q]; rfl
    · rw [if_pos (show (6 : Int32) ≤ nI (a 0) from nI_le (a := 6) (by omega) (by omega)), decide_eq_false q]; rfl
  · rw [if_neg (show ¬ nI 1 = 0 by decide), if_pos (show nI 1 = 1 from rfl)]
    exact node
  · rw [if_neg (show ¬ nI 2 = 0 by decide), if_neg (show ¬ nI 2 = 1 by decide), if_pos (show nI 2 = 2 from rfl)]
    exact node
  · rw [if_neg (show ¬ nI 3 = 0 by decide), if_neg (show ¬ nI 3 = 1 by decide), if_neg (show ¬ nI 3 = 2 by decide), if_pos (show nI 3 = 3 from rfl), g1.2.1]
    show _ = some (q_b (decide (a 1 < 4)), h)
    by_cases q : a 1 < 4
    · rw [if_neg (show ¬ (4 : Int32) ≤ nI (a 1) from nI_ge (b := 4) q (by decide)), decide_eq_true q]; rfl
    · have := d1.2.1
      rw [if_pos (show (4 : Int32) ≤ nI (a 1) from nI_le (a := 4) (by omega) (by omega)), decide_eq_false q]; rfl
  · rw [if_neg (show ¬ nI 4 = 0 by decide), if_neg (show ¬ nI 4 = 1 by decide), if_neg (show ¬ nI 4 = 2 by decide), if_neg (show ¬ nI 4 = 3 by decide), if_pos (show nI 4 = 4 from rfl)]
    rfl
  · rw [if_neg (show ¬ nI 5 = 0 by decide), if_neg (show ¬ nI 5 = 1 by decide), if_neg (show ¬ nI 5 = 2 by decide), if_neg (show ¬ nI 5 = 3 by decide), if_neg (show ¬ nI 5 = 4 by decide), if_pos (show nI 5 = 5 from rfl), e_Ts_isFull (by decide), g5.1]
    show _ = some (q_b (decide (a 2 < 8)), h)
    by_cases q : a 2 < 8
    · rw [if_pos (show nI (a 2) < 8 from nI_lt (b := 8) q (by decide)), z_bd_some, if_neg (show ¬ ¬ (0 : Int32) = 0 from fun z => z rfl), decide_eq_true q]; rfl
    · have := d1.2.2.1
      rw [if_neg (show ¬ nI (a 2) < 8 from nI_nlt (b := 8) (by omega) (by omega)), z_bd_some, if_pos (show ¬ (1 : Int32) = 0 by decide), decide_eq_false q]; rfl
theorem q_cTell {h : z_H} {x m : Nat} (hs : q_cS h.1 a hc hm) (hx : x ≤ 5) (hr : q_rm a x = true) (hn : q_nums a x V m) (h16 : ∀ i, i < m → h.1 16 i = nI (V i)) : ∃ h', z_M 64 [.ref 3, .int (nI x), .int (nI m)] h = some (0, h') ∧ q_cS h'.1 (q_row a x V m) (q_hC x V hc) (q_hM x V hm) ∧ ∀ o k, ¬ (4 ≤ o ∧ o ≤ 15) → ¬ (o = 3 ∧ 7 ≤ k ∧ k ≤ 8) → h'.1 o k = h.1 o k := by
  obtain ⟨hd, hg, h7, h8⟩ := hs
  have hdk := q_row_dk hd hx hr hn
  have hcl := hd.2.2.2.2.2
  rw [e_Rd_tell]
  rcases (show x = 0 ∨ x = 1 ∨ x = 2 ∨ x = 3 ∨ x = 4 ∨ x = 5 by omega) with rfl | rfl | rfl | rfl | rfl | rfl
  · obtain ⟨h', b1, b2, b3⟩ := q_cM hd hg (of_decide_eq_true hr)
    rw [if_pos (show nI 0 = 0 from rfl), b1, z_bd_some]
    exact ⟨h', rfl, ⟨hdk, b2, (b3 _ _ (by omega)).trans h7, (b3 _ _ (by omega)).trans h8⟩, fun o k q _ => b3 o k q⟩
  · obtain ⟨n1, n2, n3, n4, n5⟩ := q_n1 (Or.inl rfl) hn
    have hr : (decide (0 < a 0) && decide (q_lN a < 8)) = true := hr
    simp only [Bool.and_eq_true, decide_eq_true_eq] at hr
    obtain ⟨h', b1, b2, b3⟩ := q_cNds (V := V) (y := 0) hd hg hr.1 hr.2 (by decide) n3 (fun q => by cases q) n1 n2 n5 h16
    have b1 : z_M 65 [.ref 3, .int 0, .int (nI m)] h = some (0, h') := b1
    rw [if_neg (show ¬ nI 1 = 0 by decide), if_pos (show nI 1 = 1 from rfl), b1, z_bd_some]
    exact ⟨h', rfl, ⟨hdk, b2, (b3 _ _ (by omega)).trans h7, (b3 _ _ (by omega)).trans h8⟩, fun o k q _ => b3 o k q⟩
  · obtain ⟨n1, n2, n3, n4, n5⟩ := q_n1 (Or.inr rfl) hn
    have hr : (decide (0 < a 0) && decide (q_lN a < 8)) = true := hr
    simp only [Bool.and_eq_true, decide_eq_true_eq] at hr
    obtain ⟨h', b1, b2, b3⟩ := q_cNds (V := V) (y := 1) hd hg hr.1 hr.2 (by decide) n3 (fun _ => n4 rfl) n1 n2 n5 h16
    have b1 : z_M 65 [.ref 3, .int 1, .int (nI m)] h = some (0, h') := b1
    rw [if_neg (show ¬ nI 2 = 0 by decide), if_neg (show ¬ nI 2 = 1 by decide), if_pos (show nI 2 = 2 from rfl), b1, z_bd_some]
    exact ⟨h', rfl, ⟨hdk, b2, (b3 _ _ (by omega)).trans h7, (b3 _ _ (by omega)).trans h8⟩, fun o k q _ => b3 o k q⟩
  · obtain ⟨rfl, _⟩ := q_n3 hn
    obtain ⟨h', b1, b2, b3⟩ := q_cC (v := V 0) hd hg (of_decide_eq_true hr)
    rw [if_neg (show ¬ nI 3 = 0 by decide), if_neg (show ¬ nI 3 = 1 by decide), if_neg (show ¬ nI 3 = 2 by decide), if_pos (show nI 3 = 3 from rfl), h16 0 (by omega), b1, z_bd_some]
    exact ⟨h', rfl, ⟨hdk, b2, (b3 _ _ (by omega)).trans h7, (b3 _ _ (by omega)).trans h8⟩, fun o k q _ => b3 o k q⟩
  · obtain ⟨rfl, n0, n1, n2⟩ := q_n4 hn
    have x0 := h16 0 (by omega)
    have x1 := h16 1 (by omega)
    have x2 := h16 2 (by omega)
    have u7 : (if h.1 3 7 < h.1 16 0 then h.1 16 0 else h.1 3 7) = q_hi (-4) (max hc (V 0 + 1)) := by
      rw [h7, x0]; exact q_hi_max (by decide) (by omega) (by omega)
    obtain ⟨h1, e1⟩ : ∃ h1, h1 = z_wI h 3 7 (q_hi (-4) (max hc (V 0 + 1))) := ⟨_, rfl⟩
    have r1 : ∀ o k, ¬ (o = 3 ∧ k = 7) → h1.1 o k = h.1 o k := fun o k q => by rw [e1, z_wI1, if_neg q]
    have u8 : (if h1.1 3 8 < h1.1 16 2 then h1.1 16 2 else h1.1 3 8) = q_hi (-4) (max hm (V 2 + 1)) := by
      rw [r1 _ _ (by omega), r1 _ _ (by omega), h8, x2]; exact q_hi_max (by decide) (by omega) (by omega)
    obtain ⟨h2, e2⟩ : ∃ h2, h2 = z_wI h1 3 8 (q_hi (-4) (max hm (V 2 + 1))) := ⟨_, rfl⟩
    have r2 : ∀ o k, ¬ (o = 3 ∧ 7 ≤ k ∧ k ≤ 8) → h2.1 o k = h.1 o k := fun o k q => by rw [e2, z_wI1, if_neg (by omega), r1 o k (by omega)]
    have ep : (4 * h2.1 16 0) + h2.1 16 1 = nI (4 * V 0 + V 1) := by
      rw [r2 _ _ (by omega), r2 _ _ (by omega), x0, x1, n_4, pk_mul, nI_add]
    obtain ⟨h3, e3⟩ : ∃ h3, h3 = z_wI h2 11 (4 * V 0 + V 1) (nI (V 2)) := ⟨_, rfl⟩
    have r3 : ∀ o k, ¬ (o = 11 ∧ k = 4 * V 0 + V 1) → h3.1 o k = h2.1 o k := fun o k q => by rw [e3, z_wI1, if_neg q]
    have hT : z_M 66 [.ref 3] h = some (0, h3) := by
      rw [e_Rd_tellHas, u7, ← e1, u8, ← e2, ep, q_inC (show 4 * V 0 + V 1 < 16 by omega) (by decide), nI_clamp (by omega), r2 16 2 (by omega), x2, ← e3]
    rw [if_neg (show ¬ nI 4 = 0 by decide), if_neg (show ¬ nI 4 = 1 by decide), if_neg (show ¬ nI 4 = 2 by decide), if_neg (show ¬ nI 4 = 3 by decide), if_pos (show nI 4 = 4 from rfl), hT, z_bd_some]
    refine ⟨h3, rfl, ⟨hdk, q_cH hd hg n0 n1 n2 (fun o k o1 o2 q => by rw [r3 o k q, r2 o k (by omega)]) (by rw [e3, z_wI1, if_pos ⟨rfl, rfl⟩]), ?_, ?_⟩, fun o k q q' => by rw [r3 o k (by omega), r2 o k q']⟩
    · rw [r3 _ _ (by omega), e2, z_wI1, if_neg (by omega), e1, z_wI1, if_pos ⟨rfl, rfl⟩]
      rfl
    · rw [r3 _ _ (by omega), e2, z_wI1, if_pos ⟨rfl, rfl⟩]
      rfl
  · obtain ⟨rfl, n0, n1, n2⟩ := q_n5 hn
    have x0 := h16 0 (by omega)
    have x1 := h16 1 (by omega)
    have x2 := h16 2 (by omega)
    have u7 : (if h.1 3 7 < h.1 16 0 then h.1 16 0 else h.1 3 7) = q_hi (-4) (max hc (V 0 + 1)) := by
      rw [h7, x0]; exact q_hi_max (by decide) (by omega) (by omega)
    obtain ⟨h1, e1⟩ : ∃ h1, h1 = z_wI h 3 7 (q_hi (-4) (max hc (V 0 + 1))) := ⟨_, rfl⟩
    have r1 : ∀ o k, ¬ (o = 3 ∧ k = 7) → h1.1 o k = h.1 o k := fun o k q => by rw [e1, z_wI1, if_neg q]
    obtain ⟨h', b1, b2, b3⟩ := q_cTs (h := h1) (c := V 0) (d := V 1) (s := V 2) hd (hg.fr hd (fun o k _ _ => r1 o k (by omega))) (of_decide_eq_true hr)
    rw [if_neg (show ¬ nI 5 = 0 by decide), if_neg (show ¬ nI 5 = 1 by decide), if_neg (show ¬ nI 5 = 2 by decide), if_neg (show ¬ nI 5 = 3 by decide), if_neg (show ¬ nI 5 = 4 by decide), u7, ← e1, r1 16 0 (by omega), r1 16 1 (by omega), r1 16 2 (by omega), x0, x1, x2, b1, z_bd_some]
    refine ⟨h', rfl, ⟨hdk, b2, ?_, ?_⟩, fun o k q q' => (b3 o k q).trans (r1 o k (by omega))⟩
    · rw [b3 _ _ (by omega), e1, z_wI1, if_pos ⟨rfl, rfl⟩]
      rfl
    · rw [b3 _ _ (by omega), r1 _ _ (by omega)]
      exact h8
end QCR
