/-! THE PURE PART: has -/
theorem q_ok.cgH {a a' : Nat → Nat} (ho : q_ok a) (e : ∀ j, ¬ (509 ≤ j ∧ j < 525) → a' j = a j) (hw : ∀ c n, c < a 1 → n < 4 → a' (q_hs 1 c n) = 999 ∨ a' (q_hs 1 c n) < a 0) : q_ok a' := by
  obtain ⟨o0, o1, o2, o7, o5, o6, oh, ot⟩ := ho
  have e0 := e 0 (by omega)
  have e1 := e 1 (by omega)
  have e2 := e 2 (by omega)
  refine ⟨by rw [e0]; exact o0, by rw [e1]; exact o1, by rw [e2]; exact o2, fun m hm => ?_, fun p m i hp hm hi => ?_, fun c hc => ?_, fun p c n hp hc hn => ?_, fun t ht => ?_⟩
  · rw [e0] at hm
    rw [e (7 + m) (by omega)]
    exact o7 m hm
  · rw [e0] at hm
    rw [e (7 + m) (by omega)] at hi
    have h7 := o7 m hm
    have b1 : q_at p m i + 5 ≤ 509 := by unfold q_at; omega
    rw [e (q_at p m i) (by omega), e (q_at p m i + 1) (by omega), e (q_at p m i + 2) (by omega), e (7 + m) (by omega)]
    obtain ⟨g1, g2, g3, g4, g5⟩ := o5 p m i hp hm hi
    refine ⟨g1, g2, g3, g4, fun k hk => ?_⟩
    rw [e (q_at p m i + 3 + k) (by omega)]
    exact g5 k hk
  · rw [e1] at hc
    rw [e (3 + c) (by omega)]
    exact o6 c hc
  · rw [e1] at hc
    rw [e0]
    by_cases hp1 : p = 1
    · subst hp1
      exact hw c n hc hn
    · have hp0 : p = 0 := by omega
      subst hp0
      rw [e (q_hs 0 c n) (by unfold q_hs; omega)]
      exact oh 0 c n hp hc hn
  · rw [e2] at ht
    rw [e1, e _ (by omega), e _ (by omega), e _ (by omega)]
    exact ot t ht
/-- only the state's row and the new program have changed -/
theorem q_inv.now {h h1 : z_H} (hi : q_inv h) (e : ∀ o k, o ≠ 123 → ¬ (17 ≤ o ∧ o ≤ 36) → h1.1 o k = h.1 o k) (hn : ∃ a, q_now h1.1 a) : q_inv h1 := by
  obtain ⟨-, h2, h3, h4, h5, h6⟩ := hi
  obtain ⟨a, ha⟩ := hn
  refine ⟨⟨a, ha.congr fun o k q => ?_⟩, h2.congr fun o k q => q_mcong (e o k (by omega) (by omega)), h3.congr fun o k q => q_mcong (e o k (by omega) (by omega)), h4.congr fun o k q => q_mcong (e o k (by omega) (by omega)), ?_, ?_⟩
  · rcases q with rfl | ⟨q1, q2⟩
    · exact q_mc rfl
    · exact q_mo q1 q2
  · rw [q_mcong (e 0 10 (by omega) (by omega)), q_mcong (e 122 12 (by omega) (by omega))]
    exact h5
  · rw [q_mcong (e 0 11 (by omega) (by omega)), q_mcong (e 122 33 (by omega) (by omega))]
    exact h6
theorem q_hasDo {h : z_H} {a : Nat → Nat} (hi : q_inv h) (ha : q_now h.1 a) {c n w : Nat} (hc : c < a 1) (hn : n < 4) (hw : w = 999 ∨ w < a 0) : ∃ r h1 h2, zl_X_has_37 (nI c) (nI n) (q_v w) h = some (r, h1) ∧ zl_M_has_31 (nI c) (nI n) (q_v w) h1 = some (r, h2) ∧ q_inv h2 := by
  obtain ⟨ho, hst, hp0, hp1, ht⟩ := id ha
  have o1 := ho.2.1
  have hJ : 509 ≤ q_hs 1 c n ∧ q_hs 1 c n < 525 := by unfold q_hs; omega
  have hJe : 253 + 256 + 4 * c + n = q_hs 1 c n := by unfold q_hs; omega
  have e32 : h.1 32 (4 * c + n) = q_v (a (q_hs 1 c n)) := hp1.2.2.2.2.2 c n hc hn
  refine ⟨q_v (a (q_hs 1 c n)), z_wI h 32 (4 * c + n) (q_v w), z_wI (z_wI h 32 (4 * c + n) (q_v w)) 123 (q_hs 1 c n) (q_v w), ?_, ?_, ?_⟩
  · rw [e_X_has_37, n_4, pk_mul, nI_add, q_inC (show 4 * c + n < 16 by omega) (by decide), q_inC (show 4 * c + n < 16 by omega) (by decide), nI_clamp (by omega), e32]
  · have e0 : ∀ h', z_M 130 [.int 1, .int (nI c), .int (nI n)] h' = some (nI (q_hs 1 c n), h') := fun h' => by
      rw [e_M_hasAt, show (13 : Int32) + 256 * 1 + 240 = nI 509 from rfl, n_4, pk_mul, nI_add, nI_add, show 509 + 4 * c + n = q_hs 1 c n by omega]
    have e3 : (z_wI h 32 (4 * c + n) (q_v w)).1 123 (q_hs 1 c n) = q_v (a (q_hs 1 c n)) := by
      rw [z_wI1, if_neg (by omega)]
      exact hst _ (by omega)
    rw [e_M_has_31, e0, z_bd_some, q_inC (by omega) (by decide), q_inC (by omega) (by decide), nI_clamp (by omega), e3]
  · refine hi.now (fun o k q1 q2 => ?_) ⟨fun j => if j = q_hs 1 c n then w else a j, ?_⟩
    · rw [z_wI1, if_neg (by omega), z_wI1, if_neg (by omega)]
    · have ea : ∀ j, ¬ (509 ≤ j ∧ j < 525) → (fun j => if j = q_hs 1 c n then w else a j) j = a j := fun j hj => if_neg (by omega)
      have hx : ∀ o k, o ≠ 32 → o ≠ 123 → (z_wI (z_wI h 32 (4 * c + n) (q_v w)) 123 (q_hs 1 c n) (q_v w)).1 o k = h.1 o k := fun o k q1 q2 => by
        rw [z_wI1, if_neg (by omega), z_wI1, if_neg (by omega)]
      refine ⟨ho.cgH ea (fun c' n' hc' hn' => ?_), fun j hj => ?_, ?_, ?_, ?_⟩
      · show (if _ then _ else _) = 999 ∨ (if _ then _ else _) < a 0
        by_cases hj : q_hs 1 c' n' = q_hs 1 c n
        · rw [if_pos hj]
          exact hw
        · rw [if_neg hj]
          exact ho.2.2.2.2.2.2.1 1 c' n' (by decide) hc' hn'
      · rw [z_wI1]
        by_cases hj2 : j = q_hs 1 c n
        · rw [if_pos ⟨rfl, hj2⟩]
          show _ = q_v (if _ then _ else _)
          rw [if_pos hj2]
        · rw [if_neg (fun q => hj2 q.2), z_wI1, if_neg (by omega)]
          show _ = q_v (if _ then _ else _)
          rw [if_neg hj2]
          exact hst j hj
      · exact (hp0.cgA ho (by decide) (fun j hj => ea j (by omega))).congr (fun o k q1 q2 => hx o k (by omega) (by omega))
      · obtain ⟨g1, g2, g3, g4, g5, g6⟩ := hp1
        have e0 := ea 0 (by omega)
        have e1 := ea 1 (by omega)
        refine ⟨(hx _ _ (by omega) (by omega)).trans (g1.trans (congrArg nI e0).symm), (hx _ _ (by omega) (by omega)).trans (g2.trans (congrArg nI e1).symm), fun m hm => ?_, fun m i hm hi' => ?_, fun c' hc' => ?_, fun c' n' hc' hn' => ?_⟩
        · have o0 := ho.1
          have hm' : m < a 0 := Nat.lt_of_lt_of_eq hm e0
          rw [ea (7 + m) (by omega)]
          exact (hx _ _ (by omega) (by omega)).trans (g3 m hm')
        · have o0 := ho.1
          have hm' : m < a 0 := Nat.lt_of_lt_of_eq hm e0
          have o7 := ho.2.2.2.1 m hm'
          rw [ea (7 + m) (by omega)] at hi'
          have b1 : q_at 1 m i + 5 ≤ 509 := by unfold q_at; omega
          obtain ⟨k1, k2, k3, k4⟩ := g4 m i hm' hi'
          rw [ea (q_at 1 m i) (by omega), ea (q_at 1 m i + 1) (by omega), ea (q_at 1 m i + 2) (by omega)]
          refine ⟨(hx _ _ (by omega) (by omega)).trans k1, (hx _ _ (by omega) (by omega)).trans k2, (hx _ _ (by omega) (by omega)).trans k3, fun k hk => ?_⟩
          rw [ea (q_at 1 m i + 3 + k) (by omega)]
          exact (hx _ _ (by omega) (by omega)).trans (k4 k hk)
        · have hc1 : c' < a 1 := Nat.lt_of_lt_of_eq hc' e1
          rw [ea (3 + c') (by omega)]
          exact (hx _ _ (by omega) (by omega)).trans (g5 c' hc1)
        · have hc1 : c' < a 1 := Nat.lt_of_lt_of_eq hc' e1
          show _ = q_v (if _ then _ else _)
          rw [z_wI1, if_neg (by omega), z_wI1]
          by_cases hj : 4 * c' + n' = 4 * c + n
          · rw [if_pos ⟨rfl, hj⟩, if_pos (by unfold q_hs; omega)]
          · rw [if_neg (fun q => hj q.2), if_neg (by unfold q_hs; omega)]
            exact g6 c' n' hc1 hn'
      · exact (ht.cgA (ea 2 (by omega)) (fun j hj => ea j (by omega))).congr (fun o k q1 q2 => hx o k (by omega) (by omega))
