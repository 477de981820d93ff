/-! THE PURE PART: sets of edges -/
theorem fb_andL (a b : Nat) : lN a &&& lN b = lN (a &&& b) := by
  apply Int64.toBitVec_inj.1
  show BitVec.ofNat 64 a &&& BitVec.ofNat 64 b = BitVec.ofNat 64 (a &&& b)
  apply BitVec.eq_of_getLsbD_eq
  intro i hi
  simp [hi]
theorem fb_orL (a b : Nat) : lN a ||| lN b = lN (a ||| b) := by
  apply Int64.toBitVec_inj.1
  show BitVec.ofNat 64 a ||| BitVec.ofNat 64 b = BitVec.ofNat 64 (a ||| b)
  apply BitVec.eq_of_getLsbD_eq
  intro i hi
  simp [hi]
theorem fb_xorL (a b : Nat) : lN a ^^^ lN b = lN (a ^^^ b) := by
  apply Int64.toBitVec_inj.1
  show BitVec.ofNat 64 a ^^^ BitVec.ofNat 64 b = BitVec.ofNat 64 (a ^^^ b)
  apply BitVec.eq_of_getLsbD_eq
  intro i hi
  simp [hi]
def q_es (L : Nat → Nat → Int64) (o : Nat) (E : Nat → Bool) : Prop := (∀ e, 216 ≤ e → E e = false) ∧ ∀ r, r < 4 → ∃ w, w < 2 ^ 64 ∧ L (o + 1) r = lN w ∧ ∀ b, b < 64 → w.testBit b = E (64 * r + b)
def q_pt (E : Nat → Bool) (e : Nat) : Nat → Bool := fun x => decide (x = e) || E x
theorem q_es.congr {L L' : Nat → Nat → Int64} {o : Nat} {E : Nat → Bool} (h : q_es L o E) (e : ∀ k, L' (o + 1) k = L (o + 1) k) : q_es L' o E := ⟨h.1, fun r hr => by
  rw [e]
  exact h.2 r hr⟩
theorem q_es_clear {o : Nat} (hi : o ∈ [38, 41, 50, 52, 54, 56, 58, 60, 62, 64, 66, 68]) (I : Nat → Nat → Int32) (L : Nat → Nat → Int64) (d : Nat) : ∃ L', z_M 101 [.ref o] (I, L, d) = some (0, (I, L', d)) ∧ q_es L' o (fun _ => false) ∧ ∀ o' k, o' ≠ o + 1 → L' o' k = L o' k := by
  have hk : z_K (o + 1) = 21 := by
    have : ∀ o ∈ [38, 41, 50, 52, 54, 56, 58, 60, 62, 64, 66, 68], z_K (o + 1) = 21 := by decide +kernel
    exact this o hi
  refine ⟨fun o' k' => bif Nat.beq o' (o + 1) then (0 : Int32).toInt64 else L o' k', ?_, ⟨fun _ _ => rfl, fun r _ => ⟨0, by decide, ?_, fun b _ => Nat.zero_testBit b⟩⟩, fun o' k q => ?_⟩
  · rw [e_Es_clear hi, q_prim (id := 903) (r := (0, z_fiL (I, L, d) (o + 1) ((0 : Int32).toInt64))) (by decide) (by
      show (bif Nat.beq (z_K (o + 1)) 21 then some (0, z_fiL (I, L, d) (o + 1) ((0 : Int32).toInt64)) else none) = _
      rw [hk]
      rfl), z_bd_some]
    rfl
  · show (bif Nat.beq (o + 1) (o + 1) then _ else _) = _
    rw [show Nat.beq (o + 1) (o + 1) = true from Nat.beq_refl _]
    rfl
  · show (bif Nat.beq o' (o + 1) then _ else _) = _
    rw [z_beqF q]
    rfl
theorem q_es_as {o p : Nat} (hi : (o, p) ∈ [(50, 41), (54, 38), (56, 38), (58, 38), (60, 38), (62, 38), (64, 38), (66, 38), (68, 38)]) {I : Nat → Nat → Int32} {L : Nat → Nat → Int64} {d : Nat} {E : Nat → Bool} (h : q_es L p E) : ∃ L', z_M 102 [.ref o, .ref p] (I, L, d) = some (0, (I, L', d)) ∧ q_es L' o E ∧ ∀ o' k, o' ≠ o + 1 → L' o' k = L o' k := by
  refine ⟨(z_cpL (I, L, d) (p + 1) 0 (o + 1) 0 4).2.1, e_Es_becomeAs hi _, ⟨h.1, fun r hr => ?_⟩, fun o' k q => ?_⟩
  · rw [z_cpL1, if_pos rfl, pk_cpy_in (by omega) (by omega), show 0 + (r - 0) = r by omega]
    exact h.2 r hr
  · rw [z_cpL1, if_neg q]
theorem q_es_put {o e : Nat} (hi : o ∈ [38, 41, 50, 52, 54, 56, 58, 60, 62, 64, 66, 68]) {I : Nat → Nat → Int32} {L : Nat → Nat → Int64} {d : Nat} {E : Nat → Bool} (h : q_es L o E) (he : e < 216) : ∃ L', z_M 103 [.ref o, .int (nI e)] (I, L, d) = some (0, (I, L', d)) ∧ q_es L' o (q_pt E e) ∧ ∀ o' k, o' ≠ o + 1 → L' o' k = L o' k := by
  obtain ⟨w, w1, w2, w3⟩ := h.2 (e / 64) (by omega)
  have hb : 2 ^ (e % 64) < 2 ^ 64 := wb_lt2 (Nat.mod_lt _ (by decide))
  refine ⟨(z_wL (I, L, d) (o + 1) (e / 64) (lN (w ||| 2 ^ (e % 64)))).2.1, ?_, ⟨fun x hx => ?_, fun r hr => ?_⟩, fun o' k q => ?_⟩
  · have e1 : nI e / 64 = nI (e / 64) := pk_div (d := 64) (by omega) (by decide) (by decide)
    have e2 : nI e - nI e / 64 * 64 = nI (e % 64) := pk_rem (d := 64) (by omega) (by decide) (by decide)
    have e3 : ((1 : Int32).toInt64) <<< ((nI (e % 64)).toInt64 &&& 63) = lN (2 ^ (e % 64)) := by
      have := wb_shl 1 (k := e % 64) (Nat.mod_lt _ (by decide))
      rw [Nat.one_mul] at this
      exact this
    rw [e_Es_put hi, if_neg (nI_pos (by omega)), n_216, if_neg (nI_ge he (by decide)), e2, e1, q_inC (show e / 64 < 4 by omega) (by decide), q_inC (show e / 64 < 4 by omega) (by decide), nI_clamp (by omega), e3]
    show some (0, z_wL (I, L, d) (o + 1) (e / 64) (L (o + 1) (e / 64) ||| lN (2 ^ (e % 64)))) = _
    rw [w2, wb_or w1 hb]
    rfl
  · unfold q_pt
    rw [h.1 x hx, decide_eq_false (by omega)]
    rfl
  · rw [z_wL1]
    by_cases hr2 : r = e / 64
    · rw [if_pos ⟨rfl, hr2⟩]
      refine ⟨w ||| 2 ^ (e % 64), Nat.or_lt_two_pow w1 hb, rfl, fun b hb2 => ?_⟩
      unfold q_pt
      rw [Nat.testBit_or, Nat.testBit_two_pow, w3 b hb2, hr2, Bool.or_comm]
      have : decide (e % 64 = b) = decide (64 * (e / 64) + b = e) := decide_eq_decide.mpr (by omega)
      rw [this]
    · rw [if_neg (fun q => hr2 q.2)]
      obtain ⟨v, v1, v2, v3⟩ := h.2 r hr
      refine ⟨v, v1, v2, fun b hb2 => ?_⟩
      unfold q_pt
      rw [v3 b hb2, decide_eq_false (by omega), Bool.false_or]
  · rw [z_wL1, if_neg (fun c => q c.1)]
theorem q_es_holds {o e : Nat} (hi : o ∈ [38, 41, 50, 52, 54, 56, 58, 60, 62, 64, 66, 68]) {h : z_H} {E : Nat → Bool} (hE : q_es h.2.1 o E) (he : e < 216) : z_M 106 [.ref o, .int (nI e)] h = some (q_b (E e), h) := by
  obtain ⟨w, w1, w2, w3⟩ := hE.2 (e / 64) (by omega)
  have e1 : nI e / 64 = nI (e / 64) := pk_div (d := 64) (by omega) (by decide) (by decide)
  have e2 : nI e - nI e / 64 * 64 = nI (e % 64) := pk_rem (d := 64) (by omega) (by decide) (by decide)
  have e3 := wb_bit (n := w) (k := e % 64) w1 (Nat.mod_lt _ (by decide))
  rw [e_Es_holds hi, if_neg (nI_pos (by omega)), n_216, if_neg (nI_ge he (by decide)), e2, e1, q_inC (show e / 64 < 4 by omega) (by decide), nI_clamp (by omega), w2]
  show some ((((lN w).toUInt64 >>> ((nI (e % 64)).toInt64.toUInt64 &&& Int64.toUInt64 63)).toInt64 &&& 1).toInt32, h) = _
  rw [e3, lN_i]
  have := w3 (e % 64) (Nat.mod_lt _ (by decide))
  rw [Nat.testBit_eq_decide_div_mod_eq, show 64 * (e / 64) + e % 64 = e by omega] at this
  have h2 := Nat.mod_lt (w / 2 ^ (e % 64)) (show 2 > 0 by decide)
  cases hE2 : E e with
  | true =>
    rw [hE2] at this
    rw [of_decide_eq_true this]
    rfl
  | false =>
    rw [hE2] at this
    have := of_decide_eq_false this
    rw [show w / 2 ^ (e % 64) % 2 = 0 by omega]
    rfl
theorem q_es_sw {o p : Nat} (hi : (o, p) ∈ [(41, 41), (52, 52), (54, 54), (56, 56), (58, 58), (60, 60), (62, 62), (64, 64), (66, 66), (68, 68), (54, 41), (56, 41), (58, 41), (60, 41), (62, 41), (64, 41), (66, 41), (68, 41), (54, 50), (56, 50), (58, 50), (60, 50), (62, 50), (64, 50), (66, 50), (68, 50)]) {h : z_H} {E F : Nat → Bool} (hE : q_es h.2.1 o E) (hF : q_es h.2.1 p F) : z_M 108 [.ref o, .ref p] h = some (nI (fb_ct (fun e => E e && F e) 216), h) := by
  have st : ∀ n r, r + n = 4 → zl_Es_sizeWithin_4 o p (nI (fb_ct (fun e => E e && F e) (64 * r))) (nI r) h = some (nI (fb_ct (fun e => E e && F e) 256), h) := by
    intro n
    induction n with
    | zero =>
      intro r hr
      obtain rfl : r = 4 := by omega
      rw [e_Es_sizeWithin_4 hi, if_pos (by decide)]
    | succ n ih =>
      intro r hr
      obtain ⟨w, w1, w2, w3⟩ := hE.2 r (by omega)
      obtain ⟨v, v1, v2, v3⟩ := hF.2 r (by omega)
      have hc : fb_ct (fun b => (w &&& v).testBit b) 64 = fb_ct (fun k => (fun e => E e && F e) (64 * r + k)) 64 := fb_ct_cong (fun b hb => by
        rw [Nat.testBit_and, w3 b hb, v3 b hb])
      rw [e_Es_sizeWithin_4 hi, n_4, if_neg (nI_ge (by omega) (by decide)), q_inC (show r < 4 by omega) (by decide), q_inC (show r < 4 by omega) (by decide), nI_clamp (by omega), w2, v2, wb_and w1 v1, q_prim (id := 906) (r := (z_bits (lN (w &&& v)), h)) (by decide) rfl, z_bd_some, q_bits (Nat.and_lt_two_pow _ v1), hc, nI_add, ← fb_ct_split, nI_1]
      exact ih (r + 1) (by omega)
  have h0 := st 4 0 (by decide)
  have h1 : fb_ct (fun e => E e && F e) 256 = fb_ct (fun e => E e && F e) 216 := by
    have hz : fb_ct (fun k => (fun e => E e && F e) (216 + k)) 40 = 0 := fb_ct_zero.mpr (fun k hk => by
      show (E (216 + k) && F (216 + k)) = false
      rw [hE.1 (216 + k) (by omega)]
      rfl)
    have hs := fb_ct_split (fun e => E e && F e) 216 40
    rw [hz, show 216 + 40 = 256 from rfl, Nat.add_zero] at hs
    exact hs
  rw [h1, show 64 * 0 = 0 from rfl] at h0
  rw [e_Es_sizeWithin hi]
  exact h0
theorem q_es_size {o : Nat} (hi : o ∈ [41, 52, 54, 56, 58, 60, 62, 64, 66, 68]) {h : z_H} {E : Nat → Bool} (hE : q_es h.2.1 o E) : z_M 107 [.ref o] h = some (nI (fb_ct E 216), h) := by
  have h2 : (o, o) ∈ [(41, 41), (52, 52), (54, 54), (56, 56), (58, 58), (60, 60), (62, 62), (64, 64), (66, 66), (68, 68), (54, 41), (56, 41), (58, 41), (60, 41), (62, 41), (64, 41), (66, 41), (68, 41), (54, 50), (56, 50), (58, 50), (60, 50), (62, 50), (64, 50), (66, 50), (68, 50)] := by
    have : ∀ o ∈ [41, 52, 54, 56, 58, 60, 62, 64, 66, 68], (o, o) ∈ [(41, 41), (52, 52), (54, 54), (56, 56), (58, 58), (60, 60), (62, 62), (64, 64), (66, 66), (68, 68), (54, 41), (56, 41), (58, 41), (60, 41), (62, 41), (64, 41), (66, 41), (68, 41), (54, 50), (56, 50), (58, 50), (60, 50), (62, 50), (64, 50), (66, 50), (68, 50)] := by decide
    exact this o hi
  rw [e_Es_size hi, q_es_sw h2 hE hE, z_bd_some, fb_ct_cong (p := fun e => E e && E e) (q := E) (fun k _ => Bool.and_self _)]
theorem q_es_all {o p : Nat} (hi : (o, p) ∈ [(52, 54), (52, 56), (52, 58), (52, 60), (52, 62), (52, 64), (52, 66), (52, 68)]) {I : Nat → Nat → Int32} {L : Nat → Nat → Int64} {d : Nat} {E F : Nat → Bool} (hE : q_es L o E) (hF : q_es L p F) : ∃ L', z_M 104 [.ref o, .ref p] (I, L, d) = some (0, (I, L', d)) ∧ q_es L' o (fun e => E e || F e) ∧ ∀ o' k, o' ≠ o + 1 → L' o' k = L o' k := by
  have hne : p ≠ o := by
    have : ∀ q ∈ [(52, 54), (52, 56), (52, 58), (52, 60), (52, 62), (52, 64), (52, 66), (52, 68)], q.2 ≠ q.1 := by decide
    exact this _ hi
  have st : ∀ n r, r + n = 4 → ∀ L, (∀ r, r < 4 → ∃ w, w < 2 ^ 64 ∧ L (p + 1) r = lN w ∧ ∀ b, b < 64 → w.testBit b = F (64 * r + b)) → (∀ q, r ≤ q → q < 4 → ∃ w, w < 2 ^ 64 ∧ L (o + 1) q = lN w ∧ ∀ b, b < 64 → w.testBit b = E (64 * q + b)) → ∃ L', zl_Es_putAll_2 o p (nI r) (I, L, d) = some (0, (I, L', d)) ∧ (∀ q, r ≤ q → q < 4 → ∃ w, w < 2 ^ 64 ∧ L' (o + 1) q = lN w ∧ ∀ b, b < 64 → w.testBit b = (E (64 * q + b) || F (64 * q + b))) ∧ ∀ o' k, ¬ (o' = o + 1 ∧ r ≤ k) → L' o' k = L o' k := by
    intro n
    induction n with
    | zero =>
      intro r hr L _ _
      obtain rfl : r = 4 := by omega
      exact ⟨L, by rw [e_Es_putAll_2 hi, if_pos (by decide)], fun q q1 q2 => absurd q2 (by omega), fun _ _ _ => rfl⟩
    | succ n ih =>
      intro r hr L hF hE
      obtain ⟨w, w1, w2, w3⟩ := hE r (Nat.le_refl _) (by omega)
      obtain ⟨v, v1, v2, v3⟩ := hF r (by omega)
      obtain ⟨L1, eL1⟩ : ∃ L1, L1 = (z_wL (I, L, d) (o + 1) r (lN (w ||| v))).2.1 := ⟨_, rfl⟩
      have r1 : ∀ o' k', L1 o' k' = if o' = o + 1 ∧ k' = r then lN (w ||| v) else L o' k' := fun o' k' => by rw [eL1, z_wL1]
      obtain ⟨L', k1, k2, k3⟩ := ih (r + 1) (by omega) L1 (fun q hq => by
        rw [r1, if_neg (fun c => hne (by omega))]
        exact hF q hq) (fun q q1 q2 => by
        rw [r1, if_neg (by omega)]
        exact hE q (by omega) q2)
      refine ⟨L', ?_, fun q q1 q2 => ?_, fun o' k' q => ?_⟩
      · rw [e_Es_putAll_2 hi, n_4, if_neg (nI_ge (by omega) (by decide)), q_inC (show r < 4 by omega) (by decide), q_inC (show r < 4 by omega) (by decide), q_inC (show r < 4 by omega) (by decide), nI_clamp (by omega), nI_1]
        show zl_Es_putAll_2 o p (nI (r + 1)) (z_wL (I, L, d) (o + 1) r (L (o + 1) r ||| L (p + 1) r)) = _
        rw [w2, v2, wb_or w1 v1, ← k1, eL1]
        rfl
      · by_cases hq : q = r
        · subst hq
          rw [k3 _ _ (by omega), r1, if_pos ⟨rfl, rfl⟩]
          exact ⟨w ||| v, Nat.or_lt_two_pow w1 v1, rfl, fun b hb => by rw [Nat.testBit_or, w3 b hb, v3 b hb]⟩
        · exact k2 q (by omega) q2
      · rw [k3 o' k' (by omega), r1, if_neg (by omega)]
  obtain ⟨L', k1, k2, k3⟩ := st 4 0 (by decide) L hF.2 (fun q _ q2 => hE.2 q q2)
  refine ⟨L', (e_Es_putAll hi _).trans k1, ⟨fun e he => ?_, fun r hr => k2 r (Nat.zero_le _) hr⟩, fun o' k q => k3 o' k (fun c => q c.1)⟩
  show (E e || F e) = false
  rw [hE.1 e he, hF.1 e he]
  rfl
theorem q_es_out {o p : Nat} (hi : (o, p) ∈ [(50, 54), (50, 56), (50, 58), (50, 60), (50, 62), (50, 64), (50, 66), (50, 68)]) {I : Nat → Nat → Int32} {L : Nat → Nat → Int64} {d : Nat} {E F : Nat → Bool} (hE : q_es L o E) (hF : q_es L p F) : ∃ L', z_M 105 [.ref o, .ref p] (I, L, d) = some (0, (I, L', d)) ∧ q_es L' o (fun e => E e && !F e) ∧ ∀ o' k, o' ≠ o + 1 → L' o' k = L o' k := by
  have hne : p ≠ o := by
    have : ∀ q ∈ [(50, 54), (50, 56), (50, 58), (50, 60), (50, 62), (50, 64), (50, 66), (50, 68)], q.2 ≠ q.1 := by decide
    exact this _ hi
  have st : ∀ n r, r + n = 4 → ∀ L, (∀ r, r < 4 → ∃ w, w < 2 ^ 64 ∧ L (p + 1) r = lN w ∧ ∀ b, b < 64 → w.testBit b = F (64 * r + b)) → (∀ q, r ≤ q → q < 4 → ∃ w, w < 2 ^ 64 ∧ L (o + 1) q = lN w ∧ ∀ b, b < 64 → w.testBit b = E (64 * q + b)) → ∃ L', zl_Es_takeOut_2 o p (nI r) (I, L, d) = some (0, (I, L', d)) ∧ (∀ q, r ≤ q → q < 4 → ∃ w, w < 2 ^ 64 ∧ L' (o + 1) q = lN w ∧ ∀ b, b < 64 → w.testBit b = (E (64 * q + b) && !F (64 * q + b))) ∧ ∀ o' k, ¬ (o' = o + 1 ∧ r ≤ k) → L' o' k = L o' k := by
    intro n
    induction n with
    | zero =>
      intro r hr L _ _
      obtain rfl : r = 4 := by omega
      exact ⟨L, by rw [e_Es_takeOut_2 hi, if_pos (by decide)], fun q q1 q2 => absurd q2 (by omega), fun _ _ _ => rfl⟩
    | succ n ih =>
      intro r hr L hF hE
      obtain ⟨w, w1, w2, w3⟩ := hE r (Nat.le_refl _) (by omega)
      obtain ⟨v, v1, v2, v3⟩ := hF r (by omega)
      obtain ⟨u, hu⟩ : ∃ u, u = w &&& (v ^^^ (2 ^ 64 - 1)) := ⟨_, rfl⟩
      have hm1 : ((-1 : Int32).toInt64) = lN (2 ^ 64 - 1) := by decide +kernel
      obtain ⟨L1, eL1⟩ : ∃ L1, L1 = (z_wL (I, L, d) (o + 1) r (lN u)).2.1 := ⟨_, rfl⟩
      have r1 : ∀ o' k', L1 o' k' = if o' = o + 1 ∧ k' = r then lN u else L o' k' := fun o' k' => by rw [eL1, z_wL1]
      obtain ⟨L', k1, k2, k3⟩ := ih (r + 1) (by omega) L1 (fun q hq => by
        rw [r1, if_neg (fun c => hne (by omega))]
        exact hF q hq) (fun q q1 q2 => by
        rw [r1, if_neg (by omega)]
        exact hE q (by omega) q2)
      refine ⟨L', ?_, fun q q1 q2 => ?_, fun o' k' q => ?_⟩
      · rw [e_Es_takeOut_2 hi, n_4, if_neg (nI_ge (by omega) (by decide)), q_inC (show r < 4 by omega) (by decide), q_inC (show r < 4 by omega) (by decide), q_inC (show r < 4 by omega) (by decide), nI_clamp (by omega), nI_1]
        show zl_Es_takeOut_2 o p (nI (r + 1)) (z_wL (I, L, d) (o + 1) r (L (o + 1) r &&& (L (p + 1) r ^^^ ((-1 : Int32).toInt64)))) = _
        rw [w2, v2, hm1, fb_xorL, fb_andL, ← hu, ← k1, eL1]
        rfl
      · by_cases hq : q = r
        · subst hq
          rw [k3 _ _ (by omega), r1, if_pos ⟨rfl, rfl⟩]
          refine ⟨u, by rw [hu]; exact Nat.lt_of_le_of_lt Nat.and_le_left w1, rfl, fun b hb => ?_⟩
          rw [hu, Nat.testBit_and, Nat.testBit_xor, Nat.testBit_two_pow_sub_one, w3 b hb, v3 b hb, decide_eq_true hb, Bool.xor_true]
        · exact k2 q (by omega) q2
      · rw [k3 o' k' (by omega), r1, if_neg (by omega)]
  obtain ⟨L', k1, k2, k3⟩ := st 4 0 (by decide) L hF.2 (fun q _ q2 => hE.2 q q2)
  refine ⟨L', (e_Es_takeOut hi _).trans k1, ⟨fun e he => ?_, fun r hr => k2 r (Nat.zero_le _) hr⟩, fun o' k q => k3 o' k (fun c => q c.1)⟩
  show (E e && !F e) = false
  rw [hE.1 e he]
  rfl
