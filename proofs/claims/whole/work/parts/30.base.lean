/-! THE PURE PART: numbers, loops, frames -/
theorem q_mul (a b : Nat) : nI a * nI b = nI (a * b) := (Int32.ofNat_mul a b).symm
theorem q_sub {a b : Nat} (h : b ≤ a) : nI a - nI b = nI (a - b) := by
  have : nI (a - b) + nI b = nI a := by rw [nI_add, Nat.sub_add_cancel h]
  rw [← this, Int32.add_sub_cancel]
theorem q_in {a N : Nat} (h : a < 2 ^ 31) : z_in (nI a) N = decide (a < N) := by
  unfold z_in
  rw [nI_clamp h]
  have : decide (nI a < 0) = false := decide_eq_false (nI_pos h)
  rw [this]
  cases hb : Nat.blt a N with
  | true => exact (decide_eq_true (Nat.le_of_ble_eq_true hb)).symm
  | false => exact (decide_eq_false (fun q => by rw [show Nat.blt a N = true from Nat.ble_eq_true_of_le q] at hb; cases hb)).symm
theorem q_int {a N : Nat} (h : a < N) (hN : N < 2 ^ 31) : z_in (nI a) N = true := by
  rw [q_in (by omega)]
  exact decide_eq_true h
theorem q_inC {a N : Nat} (h : a < N) (hN : N < 2 ^ 31) {α : Type} (x y : α) : (bif z_in (nI a) N then x else y) = x := by
  rw [q_int h hN]
  rfl
/-- an int: below zero, or a number -/
theorem q_cases (x : Int32) : x < 0 ∨ ∃ n, n < 2 ^ 31 ∧ x = nI n := by
  by_cases h : x < 0
  · exact Or.inl h
  · exact Or.inr (nI_of h)
def q_it (w : Nat → z_H → z_H) : Nat → Nat → z_H → z_H
  | _, 0, h => h
  | i, n + 1, h => q_it w (i + 1) n (w i h)
theorem q_loop {L : Int32 → z_H → Option z_A} {K : z_H → Option z_A} {w : Nat → z_H → z_H} {N : Nat} (hs : ∀ i h, i < N → L (nI i) h = L (nI i + 1) (w i h)) (he : ∀ h, L (nI N) h = K h) : ∀ n i h, i + n = N → L (nI i) h = K (q_it w i n h) := by
  intro n
  induction n with
  | zero => intro i h hi; rw [show i = N by omega, he]; rfl
  | succ n ih =>
    intro i h hi
    rw [hs i h (by omega), nI_1, ih (i + 1) _ (by omega)]
    rfl
/-- one object written, at c + i, with numbers given -/
theorem q_fill {o c : Nat} {v : Nat → Int32} : ∀ n i h, (∀ o' k, (q_it (fun i h => z_wI h o (c + i) (v i)) i n h).1 o' k = if o' = o ∧ c + i ≤ k ∧ k < c + i + n then v (k - c) else h.1 o' k) ∧ (q_it (fun i h => z_wI h o (c + i) (v i)) i n h).2 = h.2 := by
  intro n
  induction n with
  | zero => intro i h; exact ⟨fun o' k => by rw [if_neg (by omega)]; rfl, rfl⟩
  | succ n ih =>
    intro i h
    obtain ⟨h1, h2⟩ := ih (i + 1) (z_wI h o (c + i) (v i))
    refine ⟨fun o' k => ?_, h2⟩
    show (q_it _ (i + 1) n (z_wI h o (c + i) (v i))).1 o' k = _
    rw [h1, z_wI1]
    by_cases ho : o' = o
    · by_cases hk : k = c + i
      · subst hk
        rw [if_neg (by omega), if_pos ⟨ho, rfl⟩, if_pos (by omega), show c + i - c = i by omega]
      · by_cases hr : c + (i + 1) ≤ k ∧ k < c + (i + 1) + n
        · rw [if_pos ⟨ho, hr⟩, if_pos (by omega)]
        · rw [if_neg (by omega), if_neg (by omega), if_neg (by omega)]
    · rw [if_neg (by omega), if_neg (by omega), if_neg (by omega)]
/-- one object written, at c + i, out of o2 at d + i, that hasn't been written before -/
theorem q_copy {o c o2 d N : Nat} (hne : ∀ i j, j < i → i < N → ¬ (o2 = o ∧ d + i = c + j)) : ∀ n i h, i + n ≤ N → (∀ o' k, (q_it (fun i h => z_wI h o (c + i) (h.1 o2 (d + i))) i n h).1 o' k = if o' = o ∧ c + i ≤ k ∧ k < c + i + n then h.1 o2 (d + (k - c)) else h.1 o' k) ∧ (q_it (fun i h => z_wI h o (c + i) (h.1 o2 (d + i))) i n h).2 = h.2 := by
  intro n
  induction n with
  | zero => intro i h _; exact ⟨fun o' k => by rw [if_neg (by omega)]; rfl, rfl⟩
  | succ n ih =>
    intro i h hi
    obtain ⟨h1, h2⟩ := ih (i + 1) (z_wI h o (c + i) (h.1 o2 (d + i))) (by omega)
    refine ⟨fun o' k => ?_, h2⟩
    show (q_it _ (i + 1) n (z_wI h o (c + i) (h.1 o2 (d + i)))).1 o' k = _
    rw [h1]
    by_cases hr : o' = o ∧ c + (i + 1) ≤ k ∧ k < c + (i + 1) + n
    · rw [if_pos hr, if_pos (by omega), z_wI1]
      have := hne (k - c) i (by omega) (by omega)
      rw [if_neg this]
    · rw [if_neg hr, z_wI1]
      by_cases hk : o' = o ∧ k = c + i
      · rw [if_pos hk, if_pos (by omega), show k - c = i by omega]
      · rw [if_neg hk, if_neg (by omega)]
/-! literals -/
theorem n_0 : (0 : Int32) = nI 0 := rfl
theorem n_1 : (1 : Int32) = nI 1 := rfl
theorem n_2 : (2 : Int32) = nI 2 := rfl
theorem n_3 : (3 : Int32) = nI 3 := rfl
theorem n_4 : (4 : Int32) = nI 4 := rfl
theorem n_5 : (5 : Int32) = nI 5 := rfl
theorem n_6 : (6 : Int32) = nI 6 := rfl
theorem n_7 : (7 : Int32) = nI 7 := rfl
theorem n_8 : (8 : Int32) = nI 8 := rfl
theorem n_9 : (9 : Int32) = nI 9 := rfl
theorem n_10 : (10 : Int32) = nI 10 := rfl
theorem n_13 : (13 : Int32) = nI 13 := rfl
theorem n_16 : (16 : Int32) = nI 16 := rfl
theorem n_40 : (40 : Int32) = nI 40 := rfl
theorem n_48 : (48 : Int32) = nI 48 := rfl
theorem n_64 : (64 : Int32) = nI 64 := rfl
theorem n_96 : (96 : Int32) = nI 96 := rfl
theorem n_100 : (100 : Int32) = nI 100 := rfl
theorem n_127 : (127 : Int32) = nI 127 := rfl
theorem n_200 : (200 : Int32) = nI 200 := rfl
theorem n_216 : (216 : Int32) = nI 216 := rfl
theorem n_240 : (240 : Int32) = nI 240 := rfl
theorem n_255 : (255 : Int32) = nI 255 := rfl
theorem n_256 : (256 : Int32) = nI 256 := rfl
theorem n_269 : (269 : Int32) = nI 269 := rfl
theorem n_320 : (320 : Int32) = nI 320 := rfl
theorem n_525 : (525 : Int32) = nI 525 := rfl
theorem n_549 : (549 : Int32) = nI 549 := rfl
/-! the abstract row and what both sides say of it -/
def q_v (v : Nat) : Int32 := bif Nat.beq v 999 then -4 else nI v
def q_at (p m i : Nat) : Nat := 13 + 256 * p + 5 * (8 * m + i)
def q_hs (p c n : Nat) : Nat := 253 + 256 * p + 4 * c + n
def q_ok (a : Nat → Nat) : Prop :=
  a 0 ≤ 6 ∧ a 1 ≤ 4 ∧ a 2 ≤ 8 ∧ (∀ m, m < a 0 → a (7 + m) ≤ 8) ∧
  (∀ p m i, p < 2 → m < a 0 → i < a (7 + m) → a (q_at p m i) < 2 ∧ a (q_at p m i + 1) ≤ 9 ∧ (a (q_at p m i) = 1 → a (q_at p m i + 1) < 4) ∧ a (q_at p m i + 2) ≤ 2 ∧ ∀ k, k < a (q_at p m i + 2) → a (q_at p m i + 3 + k) = 9 ∨ a (q_at p m i + 3 + k) < a (7 + m)) ∧
  (∀ c, c < a 1 → a (3 + c) = 9 ∨ a (3 + c) < c) ∧
  (∀ p c n, p < 2 → c < a 1 → n < 4 → a (q_hs p c n) = 999 ∨ a (q_hs p c n) < a 0) ∧
  ∀ t, t < a 2 → a (525 + 3 * t) < a 1 ∧ a (525 + 3 * t + 1) < 256 ∧ 1 ≤ a (525 + 3 * t + 2) ∧ a (525 + 3 * t + 2) ≤ 9
def q_prg (I : Nat → Nat → Int32) (o p : Nat) (a : Nat → Nat) : Prop :=
  I o 0 = nI (a 0) ∧ I o 1 = nI (a 1) ∧ (∀ m, m < a 0 → I (o + 1) m = nI (a (7 + m))) ∧
  (∀ m i, m < a 0 → i < a (7 + m) → I (o + 2) (8 * m + i) = nI (a (q_at p m i)) ∧ I (o + 3) (8 * m + i) = nI (a (q_at p m i + 1)) ∧ I (o + 4) (8 * m + i) = nI (a (q_at p m i + 2)) ∧ ∀ k, k < 2 → I (o + 5) (16 * m + 2 * i + k) = if k < a (q_at p m i + 2) then nI (a (q_at p m i + 3 + k)) else -4) ∧
  (∀ c, c < a 1 → I (o + 6) c = nI (a (3 + c))) ∧ ∀ c n, c < a 1 → n < 4 → I (o + 7) (4 * c + n) = q_v (a (q_hs p c n))
def q_tst (I : Nat → Nat → Int32) (t : Nat) (a : Nat → Nat) : Prop :=
  I t 0 = nI (a 2) ∧ ∀ i, i < a 2 → I (t + 1) i = nI (a (525 + 3 * i)) ∧ I (t + 2) i = nI (a (525 + 3 * i + 1)) ∧ I (t + 3) i = nI (a (525 + 3 * i + 2))
def q_all (I : Nat → Nat → Int32) (o0 o1 t : Nat) (a : Nat → Nat) : Prop := q_prg I o0 0 a ∧ q_prg I o1 1 a ∧ q_tst I t a
def q_now (I : Nat → Nat → Int32) (a : Nat → Nat) : Prop := q_ok a ∧ (∀ j, j < 549 → I 123 j = q_v (a j)) ∧ q_all I 17 25 33 a
def q_img (I : Nat → Nat → Int32) : Prop := ∀ k, k < 2 → I (72 + 21 * k) 0 = I 125 k ∧ (I 125 k = 0 ∨ I 125 k = 1) ∧ (I 125 k = 1 → ∃ b, q_ok b ∧ (∀ j, j < 549 → I 124 (549 * k + j) = q_v (b j)) ∧ q_all I (73 + 21 * k) (81 + 21 * k) (89 + 21 * k) b)
def q_shs (I : Nat → Nat → Int32) : Prop := ∀ k, k < 4 → (I (114 + 2 * k) 0 = 0 ∧ I 137 k = -4) ∨ (I (114 + 2 * k) 0 = 1 ∧ ∃ l s, l < 3 ∧ s ≤ 40 ∧ I 137 k = nI l ∧ I (114 + 2 * k) 2 = nI l ∧ I 138 k = nI s ∧ I (114 + 2 * k) 1 = nI s ∧ ∀ i, i < 40 → I (115 + 2 * k) i = I 139 (40 * k + i))
def q_tap (I : Nat → Nat → Int32) : Prop := ∃ n, n ≤ 320 ∧ I 1 0 = nI n ∧ I 122 7 = nI n ∧ ∀ i, i < n → ∃ b, b < 128 ∧ I 2 i = nI b ∧ I 127 i = nI b
/-- which places the invariant looks at -/
def q_core (o k : Nat) : Bool := (Nat.beq o 0 && Nat.ble 10 k) || (Nat.beq o 1 && Nat.beq k 0) || Nat.beq o 2 || (Nat.ble 17 o && Nat.ble o 36) || (Nat.ble 72 o && Nat.ble o 121) || (Nat.beq o 122 && (Nat.beq k 7 || Nat.beq k 12 || Nat.beq k 33)) || (Nat.ble 123 o && Nat.ble o 125) || Nat.beq o 127 || (Nat.ble 137 o && Nat.ble o 139)
def q_m (I : Nat → Nat → Int32) : Nat → Nat → Int32 := fun o k => bif q_core o k then I o k else 0
def q_inv0 (I : Nat → Nat → Int32) : Prop := (∃ a, q_now I a) ∧ q_img I ∧ q_shs I ∧ q_tap I ∧ I 0 10 = I 122 12 ∧ I 0 11 = I 122 33
def q_inv (h : z_H) : Prop := q_inv0 (q_m h.1)
theorem q_inv.congr {h h1 : z_H} (hi : q_inv h) (e : ∀ o k, q_core o k = true → h1.1 o k = h.1 o k) : q_inv h1 := by
  have : q_m h1.1 = q_m h.1 := by
    funext o k
    unfold q_m
    cases hc : q_core o k with
    | true => exact e o k hc
    | false => rfl
  unfold q_inv
  rw [this]
  exact hi
