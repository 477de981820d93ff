/-! THE PURE PART: the order, told of the row alone -/
abbrev q_O : Type := Nat × (Nat → Nat) × (Nat → Nat) × (Nat → Nat) × (Nat → Bool)
def q_cv (a : Nat → Nat) (t e : Nat) : Bool := (q_rt a 0 t).2.2.2.1 e
def q_cs2 (a : Nat → Nat) (t : Nat) : Nat := a (525 + 3 * t + 2)
noncomputable def q_da (a : Nat → Nat) (t : Nat) : Nat := fb_ct (fun e => q_cv a t e && q_dg a e) 216
def q_fs (a : Nat → Nat) (lf : Nat → Bool) (t : Nat) : Nat := fb_ct (fun e => q_cv a t e && lf e) 216
/-- whether a test comes ahead of the best so far -/
def q_bt (a : Nat → Nat) (ri : Nat → Nat) (lf : Nat → Bool) (t b w : Nat) : Prop := ri t = 999 ∧ 0 < q_da a t ∧ (b = 999 ∨ w * q_cs2 a t < q_fs a lf t * q_cs2 a b)
noncomputable def q_bs (a : Nat → Nat) (ri : Nat → Nat) (lf : Nat → Bool) : Nat → Nat → Nat → Nat → Nat × Nat
  | 0, _, b, w => (b, w)
  | f + 1, t, b, w => by
    classical
    exact if q_bt a ri lf t b w then q_bs a ri lf f (t + 1) t (q_fs a lf t) else q_bs a ri lf f (t + 1) b w
theorem q_bs_y {a ri : Nat → Nat} {lf : Nat → Bool} {f t b w : Nat} (h : q_bt a ri lf t b w) : q_bs a ri lf (f + 1) t b w = q_bs a ri lf f (t + 1) t (q_fs a lf t) := if_pos h
theorem q_bs_n {a ri : Nat → Nat} {lf : Nat → Bool} {f t b w : Nat} (h : ¬ q_bt a ri lf t b w) : q_bs a ri lf (f + 1) t b w = q_bs a ri lf f (t + 1) b w := if_neg h
def q_ou (a : Nat → Nat) (s : q_O) (b : Nat) : q_O := (s.1 + 1, (fun i => if i = s.1 then b else s.2.1 i), (fun i => if i = s.1 then q_fs a s.2.2.2.2 b else s.2.2.1 i), (fun t => if t = b then s.1 else s.2.2.2.1 t), fun e => s.2.2.2.2 e && !q_cv a b e)
noncomputable def q_bb (a : Nat → Nat) (s : q_O) : Nat × Nat := q_bs a s.2.2.2.1 s.2.2.2.2 (a 2) 0 999 0
noncomputable def q_od (a : Nat → Nat) : Nat → q_O → q_O
  | 0, s => s
  | f + 1, s => if (q_bb a s).1 = 999 then s else q_od a f (q_ou a s (q_bb a s).1)
noncomputable def q_o0 (a : Nat → Nat) : q_O := (0, (fun _ => 0), (fun _ => 0), (fun _ => 999), q_dg a)
/-- the order of a row -/
noncomputable def q_or (a : Nat → Nat) : q_O := q_od a (a 2) (q_o0 a)
/-- what holds of it at every step -/
def q_oi (a : Nat → Nat) (s : q_O) : Prop := s.1 = fb_ct (fun t => !decide (s.2.2.2.1 t = 999)) (a 2) ∧ (∀ i, i < s.1 → s.2.1 i < a 2 ∧ s.2.2.2.1 (s.2.1 i) = i ∧ s.2.2.1 i ≤ 216) ∧ (∀ t, s.2.2.2.1 t = 999 ∨ (s.2.2.2.1 t < s.1 ∧ s.2.1 (s.2.2.2.1 t) = t)) ∧ ∀ e, 216 ≤ e → s.2.2.2.2 e = false
theorem q_cs2_b {a : Nat → Nat} (ho : q_ok a) {t : Nat} (ht : t < a 2) : 1 ≤ q_cs2 a t ∧ q_cs2 a t ≤ 9 := (ho.2.2.2.2.2.2.2 t ht).2.2
theorem q_fs_b (a : Nat → Nat) (lf : Nat → Bool) (t : Nat) : q_fs a lf t ≤ 216 := fb_ct_le _ _
theorem q_da_b (a : Nat → Nat) (t : Nat) : q_da a t ≤ 216 := fb_ct_le _ _
/-- the best: none, or one that is free and has its edges in danger -/
theorem q_bs_ok {a ri : Nat → Nat} {lf : Nat → Bool} : ∀ f t b w, (b = 999 ∨ (b < t ∧ ri b = 999 ∧ 0 < q_da a b ∧ w = q_fs a lf b)) → t + f < 900 → ((q_bs a ri lf f t b w).1 = 999 ∨ ((q_bs a ri lf f t b w).1 < t + f ∧ ri (q_bs a ri lf f t b w).1 = 999 ∧ 0 < q_da a (q_bs a ri lf f t b w).1 ∧ (q_bs a ri lf f t b w).2 = q_fs a lf (q_bs a ri lf f t b w).1)) ∧ ((q_bs a ri lf f t b w).1 = 999 → b = 999 ∧ ∀ u, t ≤ u → u < t + f → ¬ (ri u = 999 ∧ 0 < q_da a u)) := by
  intro f
  induction f with
  | zero => intro t b w h _; exact ⟨h, fun q => ⟨q, fun u u1 u2 => absurd u2 (by omega)⟩⟩
  | succ f ih =>
    intro t b w h ht
    by_cases hb : q_bt a ri lf t b w
    · rw [q_bs_y hb]
      obtain ⟨g1, g2⟩ := ih (t + 1) t (q_fs a lf t) (Or.inr ⟨by omega, hb.1, hb.2.1, rfl⟩) (by omega)
      rw [show t + 1 + f = t + (f + 1) by omega] at g1
      refine ⟨g1, fun q => ?_⟩
      have := (g2 q).1
      omega
    · rw [q_bs_n hb]
      obtain ⟨g1, g2⟩ := ih (t + 1) b w (h.imp id (fun h => ⟨by omega, h.2⟩)) (by omega)
      rw [show t + 1 + f = t + (f + 1) by omega] at g1
      refine ⟨g1, fun q => ⟨(g2 q).1, fun u u1 u2 hu => ?_⟩⟩
      by_cases hut : u = t
      · rw [hut] at hu
        exact hb ⟨hu.1, hu.2, Or.inl (g2 q).1⟩
      · exact (g2 q).2 u (by omega) (by omega) hu
theorem q_bb_ok {a : Nat → Nat} (ho : q_ok a) (s : q_O) : ((q_bb a s).1 = 999 ∨ ((q_bb a s).1 < a 2 ∧ s.2.2.2.1 (q_bb a s).1 = 999 ∧ 0 < q_da a (q_bb a s).1 ∧ (q_bb a s).2 = q_fs a s.2.2.2.2 (q_bb a s).1)) ∧ ((q_bb a s).1 = 999 → ∀ u, u < a 2 → ¬ (s.2.2.2.1 u = 999 ∧ 0 < q_da a u)) := by
  have o2 := ho.2.2.1
  obtain ⟨g1, g2⟩ := q_bs_ok (a := a) (ri := s.2.2.2.1) (lf := s.2.2.2.2) (a 2) 0 999 0 (Or.inl rfl) (by omega)
  rw [Nat.zero_add] at g1
  exact ⟨g1, fun q u hu => (g2 q).2 u (Nat.zero_le _) (by omega)⟩
theorem q_ou_ok {a : Nat → Nat} {s : q_O} {b : Nat} (ho : q_ok a) (h : q_oi a s) (hb : b < a 2) (hr : s.2.2.2.1 b = 999) : q_oi a (q_ou a s b) ∧ s.1 < a 2 := by
  have o2 := ho.2.2.1
  obtain ⟨h1, h2, h3, h4⟩ := h
  have hc := fb_ct_upd (fun t => !decide (s.2.2.2.1 t = 999)) true hb
  have e0 : (!decide (s.2.2.2.1 b = 999)) = false := by
    rw [hr]
    rfl
  rw [e0, if_neg (by decide), if_pos rfl, Nat.add_zero] at hc
  have hle := fb_ct_le (fun k => if k = b then true else !decide (s.2.2.2.1 k = 999)) (a 2)
  have hk : s.1 < a 2 := by omega
  refine ⟨⟨?_, fun i hi => ?_, fun t => ?_, fun e he => ?_⟩, hk⟩
  · show s.1 + 1 = _
    rw [h1, ← hc]
    refine fb_ct_cong (p := fun k => if k = b then true else !decide (s.2.2.2.1 k = 999)) (n := a 2) (fun t _ => ?_)
    show (if t = b then true else !decide (s.2.2.2.1 t = 999)) = !decide ((if t = b then s.1 else s.2.2.2.1 t) = 999)
    by_cases htb : t = b
    · rw [if_pos htb, if_pos htb, decide_eq_false (by omega)]
      rfl
    · rw [if_neg htb, if_neg htb]
  · have hi : i < s.1 + 1 := hi
    show (if i = s.1 then b else s.2.1 i) < a 2 ∧ (if (if i = s.1 then b else s.2.1 i) = b then s.1 else s.2.2.2.1 (if i = s.1 then b else s.2.1 i)) = i ∧ (if i = s.1 then q_fs a s.2.2.2.2 b else s.2.2.1 i) ≤ 216
    by_cases his : i = s.1
    · rw [if_pos his, if_pos his, if_pos rfl]
      exact ⟨hb, his.symm, q_fs_b _ _ _⟩
    · obtain ⟨g1, g2, g3⟩ := h2 i (by omega)
      rw [if_neg his, if_neg his]
      refine ⟨g1, ?_, g3⟩
      by_cases hsb : s.2.1 i = b
      · exfalso
        rw [hsb, hr] at g2
        omega
      · rw [if_neg hsb]
        exact g2
  · show (if t = b then s.1 else s.2.2.2.1 t) = 999 ∨ ((if t = b then s.1 else s.2.2.2.1 t) < s.1 + 1 ∧ (if (if t = b then s.1 else s.2.2.2.1 t) = s.1 then b else s.2.1 (if t = b then s.1 else s.2.2.2.1 t)) = t)
    by_cases htb : t = b
    · rw [if_pos htb, if_pos rfl]
      exact Or.inr ⟨by omega, htb.symm⟩
    · rw [if_neg htb]
      rcases h3 t with g | ⟨g1, g2⟩
      · exact Or.inl g
      · rw [if_neg (by omega)]
        exact Or.inr ⟨by omega, g2⟩
  · show (s.2.2.2.2 e && !q_cv a b e) = false
    rw [h4 e he]
    rfl
theorem q_o0_ok (a : Nat → Nat) (ho : q_ok a) : q_oi a (q_o0 a) := ⟨(fb_ct_zero.mpr (fun _ _ => rfl)).symm, fun i hi => absurd hi (Nat.not_lt_zero i), fun _ => Or.inl rfl, fun e he => by
  show q_dg a e = false
  cases hd : q_dg a e with
  | false => rfl
  | true =>
    have := q_D_lt ho (q_dg_iff.mp hd)
    omega⟩
theorem q_od_ok {a : Nat → Nat} (ho : q_ok a) : ∀ f s, q_oi a s → q_oi a (q_od a f s) := by
  intro f
  induction f with
  | zero => intro s h; exact h
  | succ f ih =>
    intro s h
    show q_oi a (if (q_bb a s).1 = 999 then s else q_od a f (q_ou a s (q_bb a s).1))
    by_cases hb : (q_bb a s).1 = 999
    · rw [if_pos hb]
      exact h
    · rw [if_neg hb]
      have g := (q_bb_ok ho s).1.resolve_left hb
      exact ih _ (q_ou_ok ho h g.1 g.2.1).1
theorem q_or_ok {a : Nat → Nat} (ho : q_ok a) : q_oi a (q_or a) := q_od_ok ho _ _ (q_o0_ok a ho)
theorem q_oi_le {a : Nat → Nat} {s : q_O} (h : q_oi a s) : s.1 ≤ a 2 := by
  rw [h.1]
  exact fb_ct_le _ _
/-! at the end those that are chosen are the ordered ones -/
theorem q_od_end {a : Nat → Nat} (ho : q_ok a) : ∀ f s, q_oi a s → a 2 ≤ s.1 + f → ∀ t, t < a 2 → 0 < q_da a t → (q_od a f s).2.2.2.1 t ≠ 999 := by
  intro f
  induction f with
  | zero =>
    intro s h hf t ht _ hr
    have hall := (fb_ct_all (p := fun t => !decide (s.2.2.2.1 t = 999)) (n := a 2)).mp (by have := q_oi_le h; rw [← h.1]; omega) t ht
    have hr : s.2.2.2.1 t = 999 := hr
    rw [hr] at hall
    cases hall
  | succ f ih =>
    intro s h hf t ht hd
    show (if (q_bb a s).1 = 999 then s else q_od a f (q_ou a s (q_bb a s).1)).2.2.2.1 t ≠ 999
    by_cases hb : (q_bb a s).1 = 999
    · rw [if_pos hb]
      intro hr
      exact (q_bb_ok ho s).2 hb t ht ⟨hr, hd⟩
    · rw [if_neg hb]
      have g := (q_bb_ok ho s).1.resolve_left hb
      exact ih _ (q_ou_ok ho h g.1 g.2.1).1 (by show a 2 ≤ s.1 + 1 + f; omega) t ht hd
theorem q_od_dan {a : Nat → Nat} (ho : q_ok a) : ∀ f s, q_oi a s → (∀ t, s.2.2.2.1 t ≠ 999 → 0 < q_da a t) → ∀ t, (q_od a f s).2.2.2.1 t ≠ 999 → 0 < q_da a t := by
  intro f
  induction f with
  | zero => intro s _ h; exact h
  | succ f ih =>
    intro s h hd
    show ∀ t, (if (q_bb a s).1 = 999 then s else q_od a f (q_ou a s (q_bb a s).1)).2.2.2.1 t ≠ 999 → 0 < q_da a t
    by_cases hb : (q_bb a s).1 = 999
    · rw [if_pos hb]
      exact hd
    · rw [if_neg hb]
      have g := (q_bb_ok ho s).1.resolve_left hb
      refine ih _ (q_ou_ok ho h g.1 g.2.1).1 (fun t ht => ?_)
      have ht : (if t = (q_bb a s).1 then s.1 else s.2.2.2.1 t) ≠ 999 := ht
      by_cases htb : t = (q_bb a s).1
      · rw [htb]
        exact g.2.2.1
      · rw [if_neg htb] at ht
        exact hd t ht
/-- a test is chosen if it covers an edge in danger -/
theorem q_or_chosen {a : Nat → Nat} (ho : q_ok a) {t : Nat} (ht : t < a 2) : (q_or a).2.2.2.1 t ≠ 999 ↔ 0 < q_da a t := ⟨q_od_dan ho _ _ (q_o0_ok a ho) (fun t h => absurd rfl h) t, q_od_end ho _ _ (q_o0_ok a ho) (by show a 2 ≤ 0 + a 2; omega) t ht⟩
