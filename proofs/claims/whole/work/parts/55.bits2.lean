/-! THE PURE PART: the library's count of bits is the count -/
theorem q_G_b : ∀ n x, 3 * q_G n x < 256 ^ n := by
  intro n
  induction n with
  | zero =>
    intro x
    show 3 * ((q_A 0 x &&& 0) + (q_A 0 x / 4 &&& 0)) < 256 ^ 0
    rw [Nat.and_zero, Nat.and_zero]
    decide
  | succ n ih =>
    intro x
    have h := q_G_s n (x / 256) (x % 256) (by omega)
    rw [show 256 * (x / 256) + x % 256 = x by omega] at h
    have hb := (q_g_b (x % 256) (by omega)).2.1
    have hi := ih (x / 256)
    rw [h, Nat.pow_succ]
    omega
theorem q_F_un (N : Nat) : ∃ p0 p1 p2 p3 p4 p5 p6 p7, p0 ≤ 8 ∧ p1 ≤ 8 ∧ p2 ≤ 8 ∧ p3 ≤ 8 ∧ p4 ≤ 8 ∧ p5 ≤ 8 ∧ p6 ≤ 8 ∧ p7 ≤ 8 ∧ q_F 8 N = p0 + 256 * (p1 + 256 * (p2 + 256 * (p3 + 256 * (p4 + 256 * (p5 + 256 * (p6 + 256 * p7)))))) ∧ q_S 8 N = p0 + p1 + p2 + p3 + p4 + p5 + p6 + p7 := by
  have pb : ∀ x, q_pc (x % 256) ≤ 8 := fun x => (q_pc_b (x % 256) (Nat.mod_lt _ (by decide))).1
  refine ⟨q_pc (N % 256), q_pc (N / 256 % 256), q_pc (N / 256 / 256 % 256), q_pc (N / 256 / 256 / 256 % 256), q_pc (N / 256 / 256 / 256 / 256 % 256), q_pc (N / 256 / 256 / 256 / 256 / 256 % 256), q_pc (N / 256 / 256 / 256 / 256 / 256 / 256 % 256), q_pc (N / 256 / 256 / 256 / 256 / 256 / 256 / 256 % 256), pb _, pb _, pb _, pb _, pb _, pb _, pb _, pb _, ?_, ?_⟩
  · rw [q_F_s 7, q_F_s 6, q_F_s 5, q_F_s 4, q_F_s 3, q_F_s 2, q_F_s 1, q_F_s 0, q_F_0, Nat.mul_zero, Nat.add_zero]
  · unfold q_S
    unfold q_S
    unfold q_S
    unfold q_S
    unfold q_S
    unfold q_S
    unfold q_S
    unfold q_S
    unfold q_S
    simp only [Nat.add_assoc, Nat.add_zero]
theorem q_bits {N : Nat} (hN : N < 2 ^ 64) : z_bits (lN N) = nI (fb_ct (fun b => N.testBit b) 64) := by
  have hS := q_S_ct 8 N
  rw [show 8 * 8 = 64 from rfl] at hS
  rw [hS]
  have m5 : (6148914691236517205 : Int64) = lN (q_m5 8) := by decide +kernel
  have m3 : (3689348814741910323 : Int64) = lN (q_m3 8) := by decide +kernel
  have mf : (1085102592571150095 : Int64) = lN (q_mf 8) := by decide +kernel
  have b5 : q_m5 8 < 2 ^ 64 := by decide +kernel
  have b3 : q_m3 8 < 2 ^ 64 := by decide +kernel
  have bf : q_mf 8 < 2 ^ 64 := by decide +kernel
  have s1 : ((lN N).toUInt64 >>> ((1 : Int32).toInt64.toUInt64 &&& Int64.toUInt64 63)).toInt64 = lN (N / 2) := wb_shr (k := 1) hN (by decide)
  have bA : q_A 8 N < 2 ^ 64 := Nat.lt_of_le_of_lt (Nat.sub_le _ _) hN
  have s2 : ((lN (q_A 8 N)).toUInt64 >>> ((2 : Int32).toInt64.toUInt64 &&& Int64.toUInt64 63)).toInt64 = lN (q_A 8 N / 4) := wb_shr (k := 2) bA (by decide)
  have bG3 := q_G_b 8 N
  rw [show (256 : Nat) ^ 8 = 2 ^ 64 from rfl] at bG3
  have bG : q_G 8 N < 2 ^ 64 := by omega
  have bG2 : q_G 8 N + q_G 8 N / 16 < 2 ^ 64 := by omega
  have s4 : ((lN (q_G 8 N)).toUInt64 >>> ((4 : Int32).toInt64.toUInt64 &&& Int64.toUInt64 63)).toInt64 = lN (q_G 8 N / 16) := wb_shr (k := 4) bG (by decide)
  have x1 : lN N - (((lN N).toUInt64 >>> ((1 : Int32).toInt64.toUInt64 &&& Int64.toUInt64 63)).toInt64 &&& 6148914691236517205) = lN (q_A 8 N) := by
    have hle : (N / 2 &&& q_m5 8) ≤ N / 2 := Nat.and_le_left
    have hle2 : (N / 2 &&& q_m5 8) ≤ N := Nat.le_trans hle (Nat.div_le_self _ _)
    rw [s1, m5, wb_and (Nat.lt_of_le_of_lt (Nat.div_le_self _ _) hN) b5, lN_sub hle2]
    rfl
  have x2 : (lN (q_A 8 N) &&& 3689348814741910323) + (((lN (q_A 8 N)).toUInt64 >>> ((2 : Int32).toInt64.toUInt64 &&& Int64.toUInt64 63)).toInt64 &&& 3689348814741910323) = lN (q_G 8 N) := by
    rw [s2, m3, wb_and bA b3, wb_and (Nat.lt_of_le_of_lt (Nat.div_le_self _ _) bA) b3, lN_add]
    rfl
  have x3 : (lN (q_G 8 N) + ((lN (q_G 8 N)).toUInt64 >>> ((4 : Int32).toInt64.toUInt64 &&& Int64.toUInt64 63)).toInt64) &&& 1085102592571150095 = lN (q_F 8 N) := by
    rw [s4, mf, lN_add, wb_and bG2 bf]
    rfl
  obtain ⟨p0, p1, p2, p3, p4, p5, p6, p7, h0, h1, h2, h3, h4, h5, h6, h7, eF, eS⟩ := q_F_un N
  obtain ⟨bX, hX⟩ := q_sumb h0 h1 h2 h3 h4 h5 h6 h7 eF
  rw [← eS] at hX
  generalize q_F 8 N = X at x3 bX hX
  clear eF eS h0 h1 h2 h3 h4 h5 h6 h7
  have b4 : X + X / 256 < 2 ^ 61 := by omega
  have y4 : lN X + ((lN X).toUInt64 >>> ((8 : Int32).toInt64.toUInt64 &&& Int64.toUInt64 63)).toInt64 = lN (X + X / 256) := by
    rw [show ((lN X).toUInt64 >>> ((8 : Int32).toInt64.toUInt64 &&& Int64.toUInt64 63)).toInt64 = lN (X / 256) from wb_shr (k := 8) (by omega) (by decide), lN_add]
  generalize X + X / 256 = X4 at b4 y4 hX
  have b5' : X4 + X4 / 65536 < 2 ^ 62 := by omega
  have y5 : lN X4 + ((lN X4).toUInt64 >>> ((16 : Int32).toInt64.toUInt64 &&& Int64.toUInt64 63)).toInt64 = lN (X4 + X4 / 65536) := by
    rw [show ((lN X4).toUInt64 >>> ((16 : Int32).toInt64.toUInt64 &&& Int64.toUInt64 63)).toInt64 = lN (X4 / 65536) from wb_shr (k := 16) (by omega) (by decide), lN_add]
  generalize X4 + X4 / 65536 = X5 at b5' y5 hX
  have y6 : lN X5 + ((lN X5).toUInt64 >>> ((32 : Int32).toInt64.toUInt64 &&& Int64.toUInt64 63)).toInt64 = lN (X5 + X5 / 4294967296) := by
    rw [show ((lN X5).toUInt64 >>> ((32 : Int32).toInt64.toUInt64 &&& Int64.toUInt64 63)).toInt64 = lN (X5 / 4294967296) from wb_shr (k := 32) (by omega) (by decide), lN_add]
  rw [q_bits_eq x1 x2 x3 y4 y5 y6, lN_i]
  have hm : nI (X5 + X5 / 4294967296) = nI ((X5 + X5 / 4294967296) % 2 ^ 32) := by
    apply Int32.toBitVec_inj.mp
    apply BitVec.eq_of_toNat_eq
    show (X5 + X5 / 4294967296) % 2 ^ 32 = (X5 + X5 / 4294967296) % 2 ^ 32 % 2 ^ 32
    rw [Nat.mod_mod]
  rw [hm, pk_andN (Nat.mod_lt _ (by decide)) 7 (by decide), Nat.mod_mod_of_dvd _ (by decide), ← hX]
