/-! THE PURE PART: how many bits of a word -/
def q_m5 : Nat → Nat
  | 0 => 0
  | n + 1 => 85 + 256 * q_m5 n
def q_m3 : Nat → Nat
  | 0 => 0
  | n + 1 => 51 + 256 * q_m3 n
def q_mf : Nat → Nat
  | 0 => 0
  | n + 1 => 15 + 256 * q_mf n
theorem q_and256 (u v : Nat) : u &&& v = (u % 256 &&& v % 256) + 256 * (u / 256 &&& v / 256) := by
  have h1 := Nat.and_mod_two_pow (a := u) (b := v) (n := 8)
  have h2 := Nat.and_div_two_pow (a := u) (b := v) (n := 8)
  have h3 := Nat.mod_add_div (u &&& v) 256
  rw [show (2 : Nat) ^ 8 = 256 from rfl] at h1 h2
  rw [← h1, ← h2]
  exact h3.symm
theorem q_dA : ∀ e, e < 2 → ∀ d, d < 256 → (128 * e + d / 2) &&& 85 = d / 2 &&& 85 := by decide +kernel
theorem q_dB : ∀ e, e < 4 → ∀ d, d < 256 → (64 * e + d / 4) &&& 51 = d / 4 &&& 51 := by decide +kernel
theorem q_dC : ∀ e, e < 5 → ∀ d, d < 69 → (d + d / 16 + 16 * e) &&& 15 = (d + d / 16) &&& 15 := by decide +kernel
def q_gA (d : Nat) : Nat := d - (d / 2 &&& 85)
def q_g (d : Nat) : Nat := (q_gA d &&& 51) + (q_gA d / 4 &&& 51)
def q_pc (d : Nat) : Nat := (q_g d + q_g d / 16) &&& 15
theorem q_g_b : ∀ d, d < 256 → q_gA d < 256 ∧ q_g d < 69 ∧ q_g d % 16 ≤ 4 := by decide +kernel
theorem q_pc_b : ∀ d, d < 256 → q_pc d ≤ 8 ∧ fb_ct (fun k => d.testBit k) 8 = q_pc d := by decide +kernel
def q_A (n x : Nat) : Nat := x - (x / 2 &&& q_m5 n)
def q_G (n x : Nat) : Nat := (q_A n x &&& q_m3 n) + (q_A n x / 4 &&& q_m3 n)
def q_F (n x : Nat) : Nat := (q_G n x + q_G n x / 16) &&& q_mf n
theorem q_m5d (n : Nat) : q_m5 (n + 1) / 256 = q_m5 n ∧ q_m5 (n + 1) % 256 = 85 := by
  show (85 + 256 * q_m5 n) / 256 = _ ∧ (85 + 256 * q_m5 n) % 256 = _
  omega
theorem q_m3d (n : Nat) : q_m3 (n + 1) / 256 = q_m3 n ∧ q_m3 (n + 1) % 256 = 51 := by
  show (51 + 256 * q_m3 n) / 256 = _ ∧ (51 + 256 * q_m3 n) % 256 = _
  omega
theorem q_mfd (n : Nat) : q_mf (n + 1) / 256 = q_mf n ∧ q_mf (n + 1) % 256 = 15 := by
  show (15 + 256 * q_mf n) / 256 = _ ∧ (15 + 256 * q_mf n) % 256 = _
  omega
theorem q_A_s (n y d : Nat) (hd : d < 256) : q_A (n + 1) (256 * y + d) = q_gA d + 256 * q_A n y := by
  have e1 : ((256 * y + d) / 2 &&& q_m5 (n + 1)) = (d / 2 &&& 85) + 256 * (y / 2 &&& q_m5 n) := by
    rw [q_and256, (q_m5d n).1, (q_m5d n).2, show (256 * y + d) / 2 / 256 = y / 2 by omega, show (256 * y + d) / 2 % 256 = 128 * (y % 2) + d / 2 by omega, q_dA (y % 2) (by omega) d hd]
  have b1 : (d / 2 &&& 85) ≤ d / 2 := Nat.and_le_left
  have b2 : (y / 2 &&& q_m5 n) ≤ y / 2 := Nat.and_le_left
  unfold q_A q_gA
  rw [e1]
  omega
theorem q_G_s (n y d : Nat) (hd : d < 256) : q_G (n + 1) (256 * y + d) = q_g d + 256 * q_G n y := by
  have hb := (q_g_b d hd).1
  have e1 : ∀ Y D, D < 256 → ((256 * Y + D) &&& q_m3 (n + 1)) = (D &&& 51) + 256 * (Y &&& q_m3 n) := fun Y D hD => by
    rw [q_and256, (q_m3d n).1, (q_m3d n).2, show (256 * Y + D) / 256 = Y by omega, show (256 * Y + D) % 256 = D by omega]
  have e2 : ∀ Y D, D < 256 → ((256 * Y + D) / 4 &&& q_m3 (n + 1)) = (D / 4 &&& 51) + 256 * (Y / 4 &&& q_m3 n) := fun Y D hD => by
    rw [q_and256, (q_m3d n).1, (q_m3d n).2, show (256 * Y + D) / 4 / 256 = Y / 4 by omega, show (256 * Y + D) / 4 % 256 = 64 * (Y % 4) + D / 4 by omega, q_dB (Y % 4) (by omega) D hD]
  unfold q_G q_g
  rw [q_A_s n y d hd, show q_gA d + 256 * q_A n y = 256 * q_A n y + q_gA d by omega, e1 _ _ hb, e2 _ _ hb]
  omega
theorem q_G16 : ∀ n x, q_G n x % 16 ≤ 4 := by
  intro n
  cases n with
  | zero =>
    intro x
    show ((q_A 0 x &&& 0) + (q_A 0 x / 4 &&& 0)) % 16 ≤ 4
    rw [Nat.and_zero, Nat.and_zero]
    decide
  | succ n =>
    intro x
    have h := q_G_s n (x / 256) (x % 256) (by omega)
    rw [show 256 * (x / 256) + x % 256 = x by omega] at h
    have hb := (q_g_b (x % 256) (by omega)).2.2
    omega
theorem q_F_s (n x : Nat) : q_F (n + 1) x = q_pc (x % 256) + 256 * q_F n (x / 256) := by
  have h := q_G_s n (x / 256) (x % 256) (by omega)
  rw [show 256 * (x / 256) + x % 256 = x by omega] at h
  have hb := (q_g_b (x % 256) (by omega)).2.1
  have h16 := q_G16 n (x / 256)
  unfold q_F q_pc
  rw [h]
  generalize q_g (x % 256) = g at hb ⊢
  generalize q_G n (x / 256) = Y at h16 ⊢
  rw [q_and256, (q_mfd n).1, (q_mfd n).2, show (g + 256 * Y + (g + 256 * Y) / 16) / 256 = Y + Y / 16 by omega, show (g + 256 * Y + (g + 256 * Y) / 16) % 256 = g + g / 16 + 16 * (Y % 16) by omega, q_dC (Y % 16) (by omega) g hb]
theorem q_F_0 (x : Nat) : q_F 0 x = 0 := Nat.and_zero _
def q_S : Nat → Nat → Nat
  | 0, _ => 0
  | n + 1, x => q_pc (x % 256) + q_S n (x / 256)
theorem q_S_ct : ∀ n x, fb_ct (fun k => x.testBit k) (8 * n) = q_S n x := by
  intro n
  induction n with
  | zero => intro x; rfl
  | succ n ih =>
    intro x
    rw [show 8 * (n + 1) = 8 + 8 * n by omega, fb_ct_split]
    have e1 : fb_ct (fun k => x.testBit k) 8 = q_pc (x % 256) := by
      rw [← (q_pc_b (x % 256) (by omega)).2]
      refine fb_ct_cong (fun k hk => ?_)
      have := Nat.testBit_mod_two_pow x 8 k
      rw [show (2 : Nat) ^ 8 = 256 from rfl] at this
      rw [this]
      simp [hk]
    have e2 : fb_ct (fun k => x.testBit (8 + k)) (8 * n) = q_S n (x / 256) := by
      rw [← ih (x / 256)]
      refine fb_ct_cong (fun k hk => ?_)
      have := Nat.testBit_div_two_pow (n := 8) x k
      rw [show (2 : Nat) ^ 8 = 256 from rfl] at this
      rw [this, Nat.add_comm]
    rw [e1, e2]
    rfl
