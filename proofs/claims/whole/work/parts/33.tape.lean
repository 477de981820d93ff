/-! THE PURE PART: what each part of the invariant looks at; feed, end -/
section QCG
variable {I I1 : Nat → Nat → Int32}
theorem q_prg.congr {o p : Nat} {a : Nat → Nat} (e : ∀ o' k, o ≤ o' → o' ≤ o + 7 → I1 o' k = I o' k) (h : q_prg I o p a) : q_prg I1 o p a := by
  obtain ⟨h1, h2, h3, h4, h5, h6⟩ := h
  refine ⟨(e _ _ (by omega) (by omega)).trans h1, (e _ _ (by omega) (by omega)).trans h2, fun m hm => (e _ _ (by omega) (by omega)).trans (h3 m hm), fun m i hm hi => ?_, fun c hc => (e _ _ (by omega) (by omega)).trans (h5 c hc), fun c n hc hn => (e _ _ (by omega) (by omega)).trans (h6 c n hc hn)⟩
  obtain ⟨g1, g2, g3, g4⟩ := h4 m i hm hi
  exact ⟨(e _ _ (by omega) (by omega)).trans g1, (e _ _ (by omega) (by omega)).trans g2, (e _ _ (by omega) (by omega)).trans g3, fun k hk => (e _ _ (by omega) (by omega)).trans (g4 k hk)⟩
theorem q_tst.congr {t : Nat} {a : Nat → Nat} (e : ∀ o' k, t ≤ o' → o' ≤ t + 3 → I1 o' k = I o' k) (h : q_tst I t a) : q_tst I1 t a := by
  obtain ⟨h1, h2⟩ := h
  refine ⟨(e _ _ (by omega) (by omega)).trans h1, fun i hi => ?_⟩
  obtain ⟨g1, g2, g3⟩ := h2 i hi
  exact ⟨(e _ _ (by omega) (by omega)).trans g1, (e _ _ (by omega) (by omega)).trans g2, (e _ _ (by omega) (by omega)).trans g3⟩
theorem q_all.congr {o0 o1 t : Nat} {a : Nat → Nat} (e0 : ∀ o' k, o0 ≤ o' → o' ≤ o0 + 7 → I1 o' k = I o' k) (e1 : ∀ o' k, o1 ≤ o' → o' ≤ o1 + 7 → I1 o' k = I o' k) (e2 : ∀ o' k, t ≤ o' → o' ≤ t + 3 → I1 o' k = I o' k) (h : q_all I o0 o1 t a) : q_all I1 o0 o1 t a := ⟨h.1.congr e0, h.2.1.congr e1, h.2.2.congr e2⟩
theorem q_now.congr {a : Nat → Nat} (e : ∀ o k, (o = 123 ∨ (17 ≤ o ∧ o ≤ 36)) → I1 o k = I o k) (h : q_now I a) : q_now I1 a :=
  ⟨h.1, fun j hj => (e _ _ (Or.inl rfl)).trans (h.2.1 j hj), h.2.2.congr (fun o k _ _ => e o k (Or.inr (by omega))) (fun o k _ _ => e o k (Or.inr (by omega))) (fun o k _ _ => e o k (Or.inr (by omega)))⟩
theorem q_img.congr (e : ∀ o k, ((72 ≤ o ∧ o ≤ 113) ∨ o = 124 ∨ o = 125) → I1 o k = I o k) (h : q_img I) : q_img I1 := by
  intro k hk
  obtain ⟨h1, h2, h3⟩ := h k hk
  have e5 := e 125 k (Or.inr (Or.inr rfl))
  refine ⟨by rw [e _ _ (Or.inl (by omega)), e5]; exact h1, by rw [e5]; exact h2, fun q => ?_⟩
  rw [e5] at q
  obtain ⟨b, b1, b2, b3⟩ := h3 q
  exact ⟨b, b1, fun j hj => (e _ _ (Or.inr (Or.inl rfl))).trans (b2 j hj), b3.congr (fun o k _ _ => e o k (Or.inl (by omega))) (fun o k _ _ => e o k (Or.inl (by omega))) (fun o k _ _ => e o k (Or.inl (by omega)))⟩
theorem q_shs.congr (e : ∀ o k, ((114 ≤ o ∧ o ≤ 121) ∨ (137 ≤ o ∧ o ≤ 139)) → I1 o k = I o k) (h : q_shs I) : q_shs I1 := by
  intro k hk
  have e1 := e (114 + 2 * k) 0 (Or.inl (by omega))
  have e2 := e 137 k (Or.inr (by omega))
  rw [e1, e2]
  rcases h k hk with h | ⟨h1, l, s, l3, s40, g1, g2, g3, g4, g5⟩
  · exact Or.inl h
  · refine Or.inr ⟨h1, l, s, l3, s40, g1, (e _ _ (Or.inl (by omega))).trans g2, (e _ _ (Or.inr (by omega))).trans g3, (e _ _ (Or.inl (by omega))).trans g4, fun i hi => ?_⟩
    rw [e _ _ (Or.inl (by omega)), e _ _ (Or.inr (by omega))]
    exact g5 i hi
theorem q_tap.congr (e : ∀ o k, ((o = 1 ∧ k = 0) ∨ (o = 122 ∧ k = 7) ∨ o = 2 ∨ o = 127) → I1 o k = I o k) (h : q_tap I) : q_tap I1 := by
  obtain ⟨n, n1, n2, n3, n4⟩ := h
  refine ⟨n, n1, (e _ _ (Or.inl ⟨rfl, rfl⟩)).trans n2, (e _ _ (Or.inr (Or.inl ⟨rfl, rfl⟩))).trans n3, fun i hi => ?_⟩
  obtain ⟨b, b1, b2, b3⟩ := n4 i hi
  exact ⟨b, b1, (e _ _ (Or.inr (Or.inr (Or.inl rfl)))).trans b2, (e _ _ (Or.inr (Or.inr (Or.inr rfl)))).trans b3⟩
end QCG
theorem q_mcong {h h1 : z_H} {o k : Nat} (e : h1.1 o k = h.1 o k) : q_m h1.1 o k = q_m h.1 o k := by
  unfold q_m
  rw [e]
/-- only the tape has changed -/
theorem q_inv.tape {h h1 : z_H} (hi : q_inv h) (e : ∀ o k, ¬ (o = 1 ∧ k = 0) → ¬ (o = 122 ∧ k = 7) → o ≠ 2 → o ≠ 127 → h1.1 o k = h.1 o k) (ht : q_tap (q_m h1.1)) : q_inv h1 := by
  obtain ⟨⟨a, ha⟩, h2, h3, h4, h5, h6⟩ := hi
  refine ⟨⟨a, ha.congr fun o k q => q_mcong (e o k (by omega) (by omega) (by omega) (by omega))⟩, h2.congr fun o k q => q_mcong (e o k (by omega) (by omega) (by omega) (by omega)), h3.congr fun o k q => q_mcong (e o k (by omega) (by omega) (by omega) (by omega)), ht, ?_, ?_⟩
  · rw [q_mcong (e 0 10 (by omega) (by omega) (by omega) (by omega)), q_mcong (e 122 12 (by omega) (by omega) (by omega) (by omega))]
    exact h5
  · rw [q_mcong (e 0 11 (by omega) (by omega) (by omega) (by omega)), q_mcong (e 122 33 (by omega) (by omega) (by omega) (by omega))]
    exact h6
theorem q_i8 : ∀ b, b < 128 → (nI b).toInt8.toInt32 = nI b := by decide +kernel
set_option maxHeartbeats 1000000 in
theorem q_op0 : z_opok q_inv 0 133 1 := by
  intro h hi as has
  obtain ⟨x, rfl⟩ := q_as1 has
  obtain ⟨-, -, -, ⟨n, n1, n2, n3, n4⟩, -, -⟩ := id hi
  rw [q_mc rfl] at n2 n3
  show ∃ r h1 h2, z_M 0 [.ref 0, .int x] h = some (r, h1) ∧ z_M 133 [.ref 122, .int x] h1 = some (r, h2) ∧ q_inv h2
  rcases q_cases x with hx | ⟨c, hc, rfl⟩
  · exact ⟨-1, h, h, by rw [e_X_feed, if_pos hx], by rw [e_M_feed, q_0neg hx, z_bd_some, if_neg (by decide)], hi⟩
  · by_cases hc1 : c ≤ 127
    · have hm : ∀ h', z_M 127 [.long (nI c).toInt64, .long (0 : Int32).toInt64, .long (127 : Int32).toInt64] h' = some (1, h') := fun h' => (q_0in hc (by decide) h').trans (by rw [if_pos hc1])
      by_cases hn : n < 320
      · refine ⟨nI (n + 1), z_wI (z_wI h 2 n (nI c)) 1 0 (nI (n + 1)), z_wI (z_wI (z_wI (z_wI h 2 n (nI c)) 1 0 (nI (n + 1))) 127 n (nI c)) 122 7 (nI (n + 1)), ?_, ?_, ?_⟩
        · have e1 : (z_wI h 2 n (nI c)).1 1 0 = nI n := by rw [z_wI1, if_neg (by omega), n2]
          rw [e_X_feed, if_neg (nI_pos hc), n_127, if_pos (nI_le hc1 (by decide)), n2, n_320, if_pos (nI_lt hn (by decide)), e_Tp_append, n2, n_320, if_neg (nI_ge hn (by decide)), q_inC hn (by decide), z_bd_some, nI_clamp (by omega), q_i8 c (by omega), q_i8 c (by omega), e1, nI_1, z_wI1, if_pos ⟨rfl, rfl⟩]
        · have e7 : (z_wI (z_wI h 2 n (nI c)) 1 0 (nI (n + 1))).1 122 7 = nI n := by
            rw [z_wI1, if_neg (by omega), z_wI1, if_neg (by omega), n3]
          rw [e_M_feed, hm, z_bd_some, if_pos (by decide), e7, if_pos (by rw [n_320]; exact fun q => by have := (nI_eq (by omega) (by decide)).mp q; omega), q_inC hn (by decide), nI_clamp (by omega)]
          have e8 : (z_wI (z_wI (z_wI h 2 n (nI c)) 1 0 (nI (n + 1))) 127 n (nI c)).1 122 7 = nI n := by
            rw [z_wI1, if_neg (by omega), e7]
          rw [e8, nI_1, z_wI1, if_pos ⟨rfl, rfl⟩]
        · refine hi.tape (fun o k q1 q2 q3 q4 => ?_) ⟨n + 1, by omega, ?_, ?_, fun i hi' => ?_⟩
          · rw [z_wI1, if_neg q2, z_wI1, if_neg (by omega), z_wI1, if_neg q1, z_wI1, if_neg (by omega)]
          · rw [q_mc rfl, z_wI1, if_neg (by omega), z_wI1, if_neg (by omega), z_wI1, if_pos ⟨rfl, rfl⟩]
          · rw [q_mc rfl, z_wI1, if_pos ⟨rfl, rfl⟩]
          · have r2 : (z_wI (z_wI (z_wI (z_wI h 2 n (nI c)) 1 0 (nI (n + 1))) 127 n (nI c)) 122 7 (nI (n + 1))).1 2 i = if i = n then nI c else h.1 2 i := by simp [z_wI1]
            have r7 : (z_wI (z_wI (z_wI (z_wI h 2 n (nI c)) 1 0 (nI (n + 1))) 127 n (nI c)) 122 7 (nI (n + 1))).1 127 i = if i = n then nI c else h.1 127 i := by simp [z_wI1]
            rw [q_mc rfl, q_mc rfl, r2, r7]
            by_cases hin : i = n
            · rw [if_pos hin, if_pos hin]
              exact ⟨c, by omega, rfl, rfl⟩
            · obtain ⟨b, b1, b2, b3⟩ := n4 i (by omega)
              rw [q_mc rfl] at b2 b3
              rw [if_neg hin, if_neg hin]
              exact ⟨b, b1, b2, b3⟩
      · have hn : n = 320 := by omega
        subst hn
        refine ⟨-3, h, h, ?_, ?_, hi⟩
        · rw [e_X_feed, if_neg (nI_pos hc), n_127, if_pos (nI_le hc1 (by decide)), n2, n_320, if_neg (nI_nlt (Nat.le_refl _) (by decide))]
        · rw [e_M_feed, hm, z_bd_some, if_pos (by decide), n3, if_neg (fun q => q rfl)]
    · refine ⟨-1, h, h, ?_, ?_, hi⟩
      · rw [e_X_feed, if_neg (nI_pos hc), n_127, if_neg (nI_ge (by omega) hc)]
      · rw [e_M_feed, show z_M 127 [.long (nI c).toInt64, .long (0 : Int32).toInt64, .long (127 : Int32).toInt64] h = some (0, h) from (q_0in hc (by decide) h).trans (by rw [if_neg hc1]), z_bd_some, if_neg (by decide)]
theorem q_op1 : z_opok q_inv 1 134 1 := by
  intro h hi as has
  obtain ⟨x, rfl⟩ := q_as1 has
  obtain ⟨-, -, -, ⟨n, n1, n2, n3, n4⟩, -, -⟩ := id hi
  rw [q_mc rfl] at n2 n3
  show ∃ r h1 h2, z_M 1 [.ref 0, .int x] h = some (r, h1) ∧ z_M 134 [.ref 122, .int x] h1 = some (r, h2) ∧ q_inv h2
  rcases q_cases x with hx | ⟨c, hc, rfl⟩
  · exact ⟨-1, h, h, by rw [e_X_end, if_pos hx], by rw [e_M_end, q_0neg hx, z_bd_some, if_neg (by decide)], hi⟩
  · by_cases hc1 : c ≤ n
    · refine ⟨nI n, z_wI h 1 0 (nI c), z_wI (z_wI h 1 0 (nI c)) 122 7 (nI c), ?_, ?_, ?_⟩
      · rw [e_X_end, if_neg (nI_pos hc), n2, if_pos (nI_le hc1 (by omega))]
      · have e7 : (z_wI h 1 0 (nI c)).1 122 7 = nI n := by rw [z_wI1, if_neg (by omega), n3]
        rw [e_M_end, e7, q_0in hc (by omega), z_bd_some, if_pos hc1, if_pos (by decide), e7]
      · refine hi.tape (fun o k q1 q2 q3 q4 => ?_) ⟨c, by omega, ?_, ?_, fun i hi' => ?_⟩
        · rw [z_wI1, if_neg q2, z_wI1, if_neg q1]
        · rw [q_mc rfl, z_wI1, if_neg (by omega), z_wI1, if_pos ⟨rfl, rfl⟩]
        · rw [q_mc rfl, z_wI1, if_pos ⟨rfl, rfl⟩]
        · obtain ⟨b, b1, b2, b3⟩ := n4 i (by omega)
          rw [q_mc rfl] at b2 b3
          exact ⟨b, b1, by rw [q_mc rfl, z_wI1, if_neg (by omega), z_wI1, if_neg (by omega)]; exact b2, by rw [q_mc rfl, z_wI1, if_neg (by omega), z_wI1, if_neg (by omega)]; exact b3⟩
    · refine ⟨-1, h, h, ?_, ?_, hi⟩
      · rw [e_X_end, if_neg (nI_pos hc), n2, if_neg (nI_ge (by omega) hc)]
      · rw [e_M_end, n3, q_0in hc (by omega), z_bd_some, if_neg hc1, if_neg (by decide)]
