/-! THE PURE PART: edges in danger, told of the row alone -/
def q_al (a : Nat → Nat) (m i j : Nat) : Bool := decide (a (q_at 0 m i) = a (q_at 1 m j)) && (decide (a (q_at 0 m i + 1) = a (q_at 1 m j + 1)) && decide (a (q_at 0 m i + 2) = a (q_at 1 m j + 2)))
/-- what leads on from a pair: NEXT k of the one as it was, of the one as it is -/
def q_w0' (a : Nat → Nat) (m i k : Nat) : Nat := a (q_at 0 m i + 3 + k)
def q_i1' (a : Nat → Nat) (m j k : Nat) : Nat := a (q_at 1 m j + 3 + k)
def q_good (a : Nat → Nat) (m i j k : Nat) : Prop := q_w0' a m i k ≠ 9 ∧ q_i1' a m j k ≠ 9 ∧ q_al a m (q_w0' a m i k) (q_i1' a m j k) = true
def q_bad (a : Nat → Nat) (m i j k : Nat) : Prop := ¬ (q_w0' a m i k = 9 ∧ q_i1' a m j k = 9) ∧ ¬ q_good a m i j k
def q_clo (a : Nat → Nat) (m : Nat) (S : Nat → Nat → Prop) : Prop := ∀ i j, S i j → ∀ k, k < a (q_at 0 m i + 2) → q_good a m i j k → S (q_w0' a m i k) (q_i1' a m j k)
/-- the pairs: of all that hold the first and what leads on -/
def q_P (a : Nat → Nat) (m i j : Nat) : Prop := ∀ S : Nat → Nat → Prop, S 0 0 → q_clo a m S → S i j
def q_D (a : Nat → Nat) (e : Nat) : Prop := (∃ m, m < a 0 ∧ ¬ a (7 + m) = 0 ∧ q_al a m 0 0 = false ∧ e = 100 + m) ∨ (∃ m, m < a 0 ∧ ¬ a (7 + m) = 0 ∧ q_al a m 0 0 = true ∧ ∃ i j k, q_P a m i j ∧ k < a (q_at 0 m i + 2) ∧ q_bad a m i j k ∧ e = 16 * m + 2 * i + k) ∨ (∃ c n, c < a 1 ∧ n < 4 ∧ q_mean a 0 n 4 c ≠ q_mean a 1 n 4 c ∧ e = 200 + 4 * c + n)
theorem q_P_0 (a : Nat → Nat) (m : Nat) : q_P a m 0 0 := fun S h _ => h
theorem q_P_clo (a : Nat → Nat) (m : Nat) : q_clo a m (q_P a m) := fun i j h k hk hg S h0 hc => hc i j (h S h0 hc) k hk hg
/-- pairs are of nodes that there are, and alike -/
theorem q_P_ok {a : Nat → Nat} {m i j : Nat} (ho : q_ok a) (hm : m < a 0) (hn : ¬ a (7 + m) = 0) (hal : q_al a m 0 0 = true) (h : q_P a m i j) : i < a (7 + m) ∧ j < a (7 + m) ∧ q_al a m i j = true := by
  refine h (fun i j => i < a (7 + m) ∧ j < a (7 + m) ∧ q_al a m i j = true) ⟨by omega, by omega, hal⟩ ?_
  intro i j ⟨hi, hj, ha⟩ k hk ⟨g1, g2, g3⟩
  have b0 := ho.2.2.2.2.1 0 m i (by decide) hm hi
  have b1 := ho.2.2.2.2.1 1 m j (by decide) hm hj
  have hw : a (q_at 0 m i + 2) = a (q_at 1 m j + 2) := by
    unfold q_al at ha
    rw [Bool.and_eq_true, Bool.and_eq_true] at ha
    exact of_decide_eq_true ha.2.2
  exact ⟨(b0.2.2.2.2 k hk).resolve_left g1, (b1.2.2.2.2 k (by omega)).resolve_left g2, g3⟩
noncomputable def q_dg (a : Nat → Nat) (e : Nat) : Bool := by
  classical
  exact decide (q_D a e)
theorem q_dg_iff {a : Nat → Nat} {e : Nat} : q_dg a e = true ↔ q_D a e := by
  classical
  unfold q_dg
  exact decide_eq_true_iff
theorem q_D_lt {a : Nat → Nat} {e : Nat} (ho : q_ok a) (h : q_D a e) : e < 216 := by
  have o0 := ho.1
  have o1 := ho.2.1
  rcases h with ⟨m, hm, -, -, rfl⟩ | ⟨m, hm, hn, hal, i, j, k, hp, hk, -, rfl⟩ | ⟨c, n, hc, hn, -, rfl⟩
  · omega
  · have := q_P_ok ho hm hn hal hp
    have o7 := ho.2.2.2.1 m hm
    have b0 := ho.2.2.2.2.1 0 m i (by decide) hm this.1
    omega
  · omega
/-- a set found by either side is that of the edges in danger -/
theorem q_dg_eq {a : Nat → Nat} {E : Nat → Bool} (ho : q_ok a) (h2 : ∀ e, 216 ≤ e → E e = false) (h : ∀ e, e < 216 → (E e = true ↔ q_D a e)) : ∀ e, E e = q_dg a e := by
  intro e
  by_cases he : e < 216
  · cases hE : E e with
    | true => exact (q_dg_iff.mpr ((h e he).mp hE)).symm
    | false =>
      cases hd : q_dg a e with
      | false => rfl
      | true =>
        have := (h e he).mpr (q_dg_iff.mp hd)
        rw [hE] at this
        cases this
  · rw [h2 e (by omega)]
    cases hd : q_dg a e with
    | false => rfl
    | true => exact absurd (q_D_lt ho (q_dg_iff.mp hd)) he
/-! what is so while the pairs of a method are found: P the pairs, E the edges so far, E0 those ahead -/
def q_sd (a : Nat → Nat) (m : Nat) (P E E0 : Nat → Bool) : Prop := (∀ x, x < 64 → P x = true → q_P a m (x / 8) (x % 8)) ∧ (∀ e, E0 e = true → E e = true) ∧ ∀ e, E e = true → E0 e = true ∨ ∃ i j k, q_P a m i j ∧ k < a (q_at 0 m i + 2) ∧ q_bad a m i j k ∧ e = 16 * m + 2 * i + k
/-- NEXT k of a pair has been looked at -/
def q_dn (a : Nat → Nat) (m : Nat) (P E : Nat → Bool) (i j k : Nat) : Prop := (q_good a m i j k → P (8 * q_w0' a m i k + q_i1' a m j k) = true) ∧ (q_bad a m i j k → E (16 * m + 2 * i + k) = true)
def q_le (P Q : Nat → Bool) : Prop := ∀ x, P x = true → Q x = true
theorem q_le.refl {P : Nat → Bool} : q_le P P := fun _ h => h
theorem q_le.trans {P Q R : Nat → Bool} (h1 : q_le P Q) (h2 : q_le Q R) : q_le P R := fun x h => h2 x (h1 x h)
theorem q_dn.mono {a : Nat → Nat} {m i j k : Nat} {P E P' E' : Nat → Bool} (h : q_dn a m P E i j k) (h1 : q_le P P') (h2 : q_le E E') : q_dn a m P' E' i j k := ⟨fun g => h1 _ (h.1 g), fun b => h2 _ (h.2 b)⟩
theorem q_pt_le {E : Nat → Bool} {e : Nat} : q_le E (q_pt E e) := fun x h => by
  unfold q_pt
  rw [h, Bool.or_true]
theorem q_pt_self {E : Nat → Bool} {e : Nat} : q_pt E e e = true := by
  unfold q_pt
  rw [decide_eq_true rfl]
  rfl
theorem q_pt_or {E : Nat → Bool} {e x : Nat} (h : q_pt E e x = true) : x = e ∨ E x = true := by
  unfold q_pt at h
  rw [Bool.or_eq_true] at h
  rcases h with h | h
  · exact Or.inl (of_decide_eq_true h)
  · exact Or.inr h
theorem q_pt_ct {P : Nat → Bool} {x : Nat} (hx : x < 64) (h : P x = false) : fb_ct (q_pt P x) 64 = fb_ct P 64 + 1 := by
  have h1 := fb_ct_upd P true (i := x) (n := 64) hx
  rw [h, if_neg (by decide), if_pos rfl, Nat.add_zero] at h1
  rw [← h1]
  exact fb_ct_cong (p := q_pt P x) (q := fun k => if k = x then true else P k) (n := 64) (fun k _ => by
    unfold q_pt
    by_cases hk : k = x
    · rw [if_pos hk, decide_eq_true hk]; rfl
    · rw [if_neg hk, decide_eq_false hk, Bool.false_or])
/-- the state behind NEXT k: a pair more, an edge more, or neither -/
theorem q_sd.pair {a : Nat → Nat} {m i j k : Nat} {P E E0 : Nat → Bool} (h : q_sd a m P E E0) (hp : q_P a m i j) (hk : k < a (q_at 0 m i + 2)) (hg : q_good a m i j k) (h1 : q_i1' a m j k < 8) : q_sd a m (q_pt P (8 * q_w0' a m i k + q_i1' a m j k)) E E0 ∧ q_dn a m (q_pt P (8 * q_w0' a m i k + q_i1' a m j k)) E i j k := by
  refine ⟨⟨fun x hx hP => ?_, h.2.1, h.2.2⟩, fun _ => q_pt_self, fun b => absurd hg b.2⟩
  rcases q_pt_or hP with rfl | hP
  · rw [show (8 * q_w0' a m i k + q_i1' a m j k) / 8 = q_w0' a m i k by omega, show (8 * q_w0' a m i k + q_i1' a m j k) % 8 = q_i1' a m j k by omega]
    exact q_P_clo a m i j hp k hk hg
  · exact h.1 x hx hP
theorem q_sd.edge {a : Nat → Nat} {m i j k : Nat} {P E E0 : Nat → Bool} (h : q_sd a m P E E0) (hp : q_P a m i j) (hk : k < a (q_at 0 m i + 2)) (hb : q_bad a m i j k) : q_sd a m P (q_pt E (16 * m + 2 * i + k)) E0 ∧ q_dn a m P (q_pt E (16 * m + 2 * i + k)) i j k := by
  refine ⟨⟨h.1, fun e he => q_pt_le e (h.2.1 e he), fun e he => ?_⟩, fun g => absurd g hb.2, fun _ => q_pt_self⟩
  rcases q_pt_or he with rfl | he
  · exact Or.inr ⟨i, j, k, hp, hk, hb, rfl⟩
  · exact h.2.2 e he
theorem q_dn.both {a : Nat → Nat} {m i j k : Nat} {P E : Nat → Bool} (h1 : q_w0' a m i k = 9) (h2 : q_i1' a m j k = 9) : q_dn a m P E i j k := ⟨fun g => absurd h1 g.1, fun b => absurd ⟨h1, h2⟩ b.1⟩
/-- all pairs looked at: E is E0 and the method's -/
theorem q_sd.fin {a : Nat → Nat} {m : Nat} {P E E0 : Nat → Bool} (ho : q_ok a) (hm : m < a 0) (hn : ¬ a (7 + m) = 0) (hal : q_al a m 0 0 = true) (h : q_sd a m P E E0) (h0 : P 0 = true) (hd : ∀ x, x < 64 → P x = true → ∀ k, k < a (q_at 0 m (x / 8) + 2) → q_dn a m P E (x / 8) (x % 8) k) : ∀ e, E e = true ↔ (E0 e = true ∨ ∃ i j k, q_P a m i j ∧ k < a (q_at 0 m i + 2) ∧ q_bad a m i j k ∧ e = 16 * m + 2 * i + k) := by
  have o7 := ho.2.2.2.1 m hm
  have hPP : ∀ i j, q_P a m i j → i < 8 ∧ j < 8 ∧ P (8 * i + j) = true := fun i j hp => by
    refine hp (fun i j => i < 8 ∧ j < 8 ∧ P (8 * i + j) = true) ⟨by omega, by omega, h0⟩ ?_
    intro i j ⟨hi, hj, hP⟩ k hk hg
    have := hd (8 * i + j) (by omega) hP
    rw [show (8 * i + j) / 8 = i by omega, show (8 * i + j) % 8 = j by omega] at this
    have hq := h.1 (8 * i + j) (by omega) hP
    rw [show (8 * i + j) / 8 = i by omega, show (8 * i + j) % 8 = j by omega] at hq
    have hq2 := q_P_ok ho hm hn hal (q_P_clo a m i j hq k hk hg)
    exact ⟨by omega, by omega, (this k hk).1 hg⟩
  intro e
  constructor
  · exact h.2.2 e
  · rintro (he | ⟨i, j, k, hp, hk, hb, rfl⟩)
    · exact h.2.1 e he
    · obtain ⟨hi, hj, hP⟩ := hPP i j hp
      have := hd (8 * i + j) (by omega) hP
      rw [show (8 * i + j) / 8 = i by omega, show (8 * i + j) % 8 = j by omega] at this
      exact (this k hk).2 hb
