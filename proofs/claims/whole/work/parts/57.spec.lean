/-! THE PURE PART: a run, told of the row alone: words, nodes, decisions asked, edges, cut off -/
abbrev q_R : Type := Int32 × Nat × Nat × (Nat → Bool) × Bool
def q_pE (s : q_R) (e : Nat) : q_R := (s.1, s.2.1, s.2.2.1, q_pt s.2.2.2.1 e, s.2.2.2.2)
def q_gt (a : Nat → Nat) (p m i : Nat) (s : q_R) : q_R := (31 * s.1 + nI (a (q_at p m i + 1) + (if a (q_at p m i) = 1 then 11 else 1)), s.2.1 + 1, s.2.2)
def q_cs (a : Nat → Nat) (p c m i : Nat) (sub : Nat → q_R → q_R) (s : q_R) : q_R := if a (q_at p m i) = 1 then (if q_mean a p (a (q_at p m i + 1)) 4 c = 999 then q_pE s (200 + 4 * c + a (q_at p m i + 1)) else sub (q_mean a p (a (q_at p m i + 1)) 4 c) (q_pE s (200 + 4 * c + a (q_at p m i + 1)))) else s
def q_nk (a : Nat → Nat) (p m i b : Nat) (s : q_R) : Nat := if a (q_at p m i + 2) = 1 then 0 else b / 2 ^ (s.2.2.1 % 8) % 2
def q_nx (a : Nat → Nat) (p m i b : Nat) (s : q_R) : Nat := if a (q_at p m i + 2) = 0 then 9 else a (q_at p m i + 3 + q_nk a p m i b s)
def q_go (a : Nat → Nat) (p m i b : Nat) (s : q_R) : q_R := if a (q_at p m i + 2) = 0 then s else q_pE (s.1, s.2.1, s.2.2.1 + (if a (q_at p m i + 2) = 2 then 1 else 0), s.2.2.2) (16 * m + 2 * i + q_nk a p m i b s)
def q_ct (s : q_R) : q_R := (s.1, s.2.1, s.2.2.1, s.2.2.2.1, true)
def q_lp (a : Nat → Nat) (p c b m : Nat) (sub : Nat → q_R → q_R) : Nat → Nat → q_R → q_R
  | 0, _, s => s
  | f + 1, i, s => if i = 9 then s else if 60 ≤ s.2.1 then q_ct s else if (q_cs a p c m i sub (q_gt a p m i s)).2.2.2.2 = true then q_cs a p c m i sub (q_gt a p m i s) else q_lp a p c b m sub f (q_nx a p m i b (q_cs a p c m i sub (q_gt a p m i s))) (q_go a p m i b (q_cs a p c m i sub (q_gt a p m i s)))
def q_e0 (m : Nat) (s : q_R) : q_R := q_pE (31 * s.1 + nI (m + 101), s.2) (100 + m)
def q_e1 (a : Nat → Nat) (p c b : Nat) (sub : Nat → q_R → q_R) (m : Nat) (s : q_R) : q_R := if a (7 + m) = 0 then q_e0 m s else q_lp a p c b m sub 61 0 (q_e0 m s)
def q_ent (a : Nat → Nat) (p c b : Nat) : Nat → Nat → q_R → q_R
  | 0 => q_e1 a p c b (fun _ s => s)
  | d + 1 => q_e1 a p c b (q_ent a p c b d)
def q_s0 : q_R := (0, 0, 0, fun _ => false, false)
def q_run (a : Nat → Nat) (p c b : Nat) : q_R := if a 0 = 0 then q_s0 else q_ent a p c b 4 0 q_s0
/-- what holds of every state within a run -/
def q_sk (s : q_R) : Prop := s.2.1 ≤ 60 ∧ ∀ e, 216 ≤ e → s.2.2.2.1 e = false
def q_stp (s s' : q_R) : Prop := q_sk s' ∧ s.2.1 ≤ s'.2.1 ∧ s'.2.2.1 + s.2.1 ≤ s'.2.1 + s.2.2.1
theorem q_stp.trans {s t u : q_R} (h1 : q_stp s t) (h2 : q_stp t u) : q_stp s u := ⟨h2.1, Nat.le_trans h1.2.1 h2.2.1, by
  have := h1.2.2
  have := h2.2.2
  omega⟩
theorem q_stp.refl {s : q_R} (h : q_sk s) : q_stp s s := ⟨h, Nat.le_refl _, by omega⟩
theorem q_pE_sk {s : q_R} {e : Nat} (h : q_sk s) (he : e < 216) : q_stp s (q_pE s e) := ⟨⟨h.1, fun x hx => by
  show (decide (x = e) || s.2.2.2.1 x) = false
  rw [h.2 x hx, decide_eq_false (by omega)]
  rfl⟩, Nat.le_refl _, by show s.2.2.1 + _ ≤ _; exact Nat.le_of_eq (Nat.add_comm _ _)⟩
section QSP
variable {a : Nat → Nat} {p c b m : Nat} {sub : Nat → q_R → q_R}
def q_sbo (a : Nat → Nat) (sub : Nat → q_R → q_R) : Prop := ∀ m s, m < a 0 → q_sk s → q_stp s (sub m s)
theorem q_mean_b (ho : q_ok a) (hp : p < 2) {n : Nat} (hn : n < 4) : ∀ f c, q_mean a p n f c = 999 ∨ q_mean a p n f c < a 0 := by
  intro f
  induction f with
  | zero => intro c; exact Or.inl rfl
  | succ f ih =>
    intro c
    show (if c < a 1 then (if a (q_hs p c n) = 999 then q_mean a p n f (a (3 + c)) else a (q_hs p c n)) else 999) = 999 ∨ (if c < a 1 then (if a (q_hs p c n) = 999 then q_mean a p n f (a (3 + c)) else a (q_hs p c n)) else 999) < a 0
    by_cases hc : c < a 1
    · rw [if_pos hc]
      by_cases h9 : a (q_hs p c n) = 999
      · rw [if_pos h9]
        exact ih _
      · rw [if_neg h9]
        exact ho.2.2.2.2.2.2.1 p c n hp hc hn
    · rw [if_neg hc]
      exact Or.inl rfl
theorem q_cs_ok (ho : q_ok a) (hp : p < 2) (hc : c < a 1) (hs : q_sbo a sub) (hm : m < a 0) {i : Nat} (hi : i < a (7 + m)) {s : q_R} (h : q_sk s) : q_stp s (q_cs a p c m i sub s) := by
  have o1 := ho.2.1
  have bb := ho.2.2.2.2.1 p m i hp hm hi
  unfold q_cs
  by_cases hk : a (q_at p m i) = 1
  · have hn := bb.2.2.1 hk
    have h1 := q_pE_sk (e := 200 + 4 * c + a (q_at p m i + 1)) h (by omega)
    rw [if_pos hk]
    by_cases h9 : q_mean a p (a (q_at p m i + 1)) 4 c = 999
    · rw [if_pos h9]
      exact h1
    · rw [if_neg h9]
      exact h1.trans (hs _ _ ((q_mean_b ho hp hn 4 c).resolve_left h9) h1.1)
  · rw [if_neg hk]
    exact q_stp.refl h
theorem q_nk_b (ho : q_ok a) (hp : p < 2) (hm : m < a 0) {i : Nat} (hi : i < a (7 + m)) (s : q_R) (hw : ¬ a (q_at p m i + 2) = 0) : q_nk a p m i b s < a (q_at p m i + 2) ∧ q_nk a p m i b s < 2 := by
  have bb := ho.2.2.2.2.1 p m i hp hm hi
  unfold q_nk
  have := Nat.mod_lt (b / 2 ^ (s.2.2.1 % 8)) (show 2 > 0 by decide)
  by_cases h1 : a (q_at p m i + 2) = 1
  · rw [if_pos h1]
    omega
  · rw [if_neg h1]
    omega
theorem q_nx_b (ho : q_ok a) (hp : p < 2) (hm : m < a 0) {i : Nat} (hi : i < a (7 + m)) (s : q_R) : q_nx a p m i b s = 9 ∨ q_nx a p m i b s < a (7 + m) := by
  have bb := ho.2.2.2.2.1 p m i hp hm hi
  unfold q_nx
  by_cases h0 : a (q_at p m i + 2) = 0
  · rw [if_pos h0]
    exact Or.inl rfl
  · rw [if_neg h0]
    exact bb.2.2.2.2 _ (q_nk_b ho hp hm hi s h0).1
/-- a node behind goTo and its call, on to the next -/
theorem q_go_ok (ho : q_ok a) (hp : p < 2) (hm : m < a 0) {i : Nat} (hi : i < a (7 + m)) {s t : q_R} (h : q_stp (q_gt a p m i s) t) : q_stp s (q_go a p m i b t) := by
  have o0 := ho.1
  have o7 := ho.2.2.2.1 m hm
  obtain ⟨h1, h2, h3⟩ := h
  have h2 : s.2.1 + 1 ≤ t.2.1 := h2
  have h3 : t.2.2.1 + (s.2.1 + 1) ≤ t.2.1 + s.2.2.1 := h3
  unfold q_go
  by_cases h0 : a (q_at p m i + 2) = 0
  · rw [if_pos h0]
    exact ⟨h1, by omega, by omega⟩
  · rw [if_neg h0]
    have hk := (q_nk_b (b := b) ho hp hm hi t h0).2
    have hx : q_stp s (t.1, t.2.1, t.2.2.1 + (if a (q_at p m i + 2) = 2 then 1 else 0), t.2.2.2) := by
      refine ⟨h1, ?_, ?_⟩
      · show s.2.1 ≤ t.2.1
        omega
      · show t.2.2.1 + (if a (q_at p m i + 2) = 2 then 1 else 0) + s.2.1 ≤ t.2.1 + s.2.2.1
        split <;> omega
    exact hx.trans (q_pE_sk hx.1 (by omega))
theorem q_gt_sk {i : Nat} {s : q_R} (h : q_sk s) (h6 : s.2.1 < 60) : q_sk (q_gt a p m i s) := ⟨h6, h.2⟩
theorem q_lp_ok (ho : q_ok a) (hp : p < 2) (hc : c < a 1) (hs : q_sbo a sub) (hm : m < a 0) : ∀ f i s, (i = 9 ∨ i < a (7 + m)) → q_sk s → q_stp s (q_lp a p c b m sub f i s) := by
  intro f
  induction f with
  | zero => intro i s _ h; exact q_stp.refl h
  | succ f ih =>
    intro i s hi h
    show q_stp s (if i = 9 then s else if 60 ≤ s.2.1 then q_ct s else if (q_cs a p c m i sub (q_gt a p m i s)).2.2.2.2 = true then q_cs a p c m i sub (q_gt a p m i s) else q_lp a p c b m sub f (q_nx a p m i b (q_cs a p c m i sub (q_gt a p m i s))) (q_go a p m i b (q_cs a p c m i sub (q_gt a p m i s))))
    by_cases h9 : i = 9
    · rw [if_pos h9]
      exact q_stp.refl h
    · rw [if_neg h9]
      have hi := hi.resolve_left h9
      by_cases h6 : 60 ≤ s.2.1
      · rw [if_pos h6]
        exact ⟨h, Nat.le_refl _, Nat.le_of_eq (Nat.add_comm _ _)⟩
      · rw [if_neg h6]
        have g := q_cs_ok ho hp hc hs hm hi (q_gt_sk (a := a) (p := p) (m := m) (i := i) h (by omega))
        by_cases hx : (q_cs a p c m i sub (q_gt a p m i s)).2.2.2.2 = true
        · rw [if_pos hx]
          have g2 : s.2.1 + 1 ≤ (q_cs a p c m i sub (q_gt a p m i s)).2.1 := g.2.1
          have g3 : (q_cs a p c m i sub (q_gt a p m i s)).2.2.1 + (s.2.1 + 1) ≤ (q_cs a p c m i sub (q_gt a p m i s)).2.1 + s.2.2.1 := g.2.2
          exact ⟨g.1, by omega, by omega⟩
        · rw [if_neg hx]
          have g2 := q_go_ok (b := b) ho hp hm hi g
          exact g2.trans (ih _ _ (q_nx_b ho hp hm hi _) g2.1)
theorem q_e0_ok (hm : m < 6) {s : q_R} (h : q_sk s) : q_stp s (q_e0 m s) := q_pE_sk (s := (31 * s.1 + nI (m + 101), s.2)) h (by omega)
theorem q_e1_ok (ho : q_ok a) (hp : p < 2) (hc : c < a 1) (hs : q_sbo a sub) : q_sbo a (q_e1 a p c b sub) := by
  intro m s hm h
  have o0 := ho.1
  have g := q_e0_ok (m := m) (by omega) h
  unfold q_e1
  by_cases h0 : a (7 + m) = 0
  · rw [if_pos h0]
    exact g
  · rw [if_neg h0]
    exact g.trans (q_lp_ok ho hp hc hs hm 61 0 _ (Or.inr (by omega)) g.1)
theorem q_ent_ok (ho : q_ok a) (hp : p < 2) (hc : c < a 1) : ∀ d, q_sbo a (q_ent a p c b d) := by
  intro d
  induction d with
  | zero => exact q_e1_ok ho hp hc (fun m s _ h => q_stp.refl h)
  | succ d ih => exact q_e1_ok ho hp hc ih
theorem q_run_ok (ho : q_ok a) (hp : p < 2) (hc : c < a 1) : q_sk (q_run a p c b) := by
  have h0 : q_sk q_s0 := ⟨by decide, fun _ _ => rfl⟩
  unfold q_run
  by_cases h : a 0 = 0
  · rw [if_pos h]
    exact h0
  · rw [if_neg h]
    exact (q_ent_ok ho hp hc 4 0 q_s0 (by omega) h0).1
end QSP
