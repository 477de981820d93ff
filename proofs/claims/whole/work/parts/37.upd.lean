/-! THE PURE PART: the abstract row changed elsewhere -/
theorem q_prg.cgA {I : Nat → Nat → Int32} {o p : Nat} {a a' : Nat → Nat} (ho : q_ok a) (hp : p < 2) (e : ∀ j, (j < 13 ∨ (13 + 256 * p ≤ j ∧ j < 269 + 256 * p)) → a' j = a j) (h : q_prg I o p a) : q_prg I o p a' := by
  obtain ⟨h1, h2, h3, h4, h5, h6⟩ := h
  have o0 := ho.1
  have o1 := ho.2.1
  have e0 := e 0 (by omega)
  have e1 := e 1 (by omega)
  refine ⟨by rw [e0]; exact h1, by rw [e1]; exact h2, fun m hm => ?_, fun m i hm hi => ?_, fun c hc => ?_, fun c n hc hn => ?_⟩
  · rw [e0] at hm
    rw [e (7 + m) (by omega)]
    exact h3 m hm
  · rw [e0] at hm
    rw [e (7 + m) (by omega)] at hi
    have o7 := ho.2.2.2.1 m hm
    have b1 : 13 + 256 * p ≤ q_at p m i ∧ q_at p m i + 5 ≤ 253 + 256 * p := by unfold q_at; omega
    obtain ⟨g1, g2, g3, g4⟩ := h4 m i hm hi
    rw [e (q_at p m i) (by omega), e (q_at p m i + 1) (by omega), e (q_at p m i + 2) (by omega)]
    refine ⟨g1, g2, g3, fun k hk => ?_⟩
    rw [e (q_at p m i + 3 + k) (by omega)]
    exact g4 k hk
  · rw [e1] at hc
    rw [e (3 + c) (by omega)]
    exact h5 c hc
  · rw [e1] at hc
    have b1 : 13 + 256 * p ≤ q_hs p c n ∧ q_hs p c n < 269 + 256 * p := by unfold q_hs; omega
    rw [e (q_hs p c n) (by omega)]
    exact h6 c n hc hn
theorem q_tst.cgA {I : Nat → Nat → Int32} {t : Nat} {a a' : Nat → Nat} (e2 : a' 2 = a 2) (e : ∀ j, 525 ≤ j → a' j = a j) (h : q_tst I t a) : q_tst I t a' := by
  obtain ⟨h1, h2⟩ := h
  refine ⟨by rw [e2]; exact h1, fun i hi => ?_⟩
  rw [e2] at hi
  rw [e _ (by omega), e _ (by omega), e _ (by omega)]
  exact h2 i hi
