/-! THE PURE PART: drop, draw -/
def q_dp (a : Nat → Nat) (t : Nat) : Nat → Nat := fun j => if j = 2 then a 2 - 1 else if 525 + 3 * t ≤ j ∧ j < 525 + 3 * (a 2 - 1) then a (j + 3) else a j
theorem q_dp_in {a : Nat → Nat} {t j : Nat} (h : 525 + 3 * t ≤ j ∧ j < 525 + 3 * (a 2 - 1)) : q_dp a t j = a (j + 3) := by
  unfold q_dp
  rw [if_neg (by omega), if_pos h]
theorem q_dp_o {a : Nat → Nat} {t j : Nat} (h2 : ¬ j = 2) (h : ¬ (525 + 3 * t ≤ j ∧ j < 525 + 3 * (a 2 - 1))) : q_dp a t j = a j := by
  unfold q_dp
  rw [if_neg h2, if_neg h]
theorem q_dp_ok {a : Nat → Nat} {t : Nat} (ho : q_ok a) (ht : t < a 2) : q_ok (q_dp a t) := by
  have o2 := ho.2.2.1
  refine ho.cgT (fun j j1 j2 => ?_) (show a 2 - 1 ≤ 8 by omega) (fun i hi => ?_)
  · unfold q_dp
    rw [if_neg j1, if_neg (by omega)]
  · have hi : i < a 2 - 1 := hi
    by_cases h1 : t ≤ i
    · rw [q_dp_in (by omega), q_dp_in (by omega), q_dp_in (by omega)]
      exact ho.2.2.2.2.2.2.2 (i + 1) (by omega)
    · rw [q_dp_o (by omega) (by omega), q_dp_o (by omega) (by omega), q_dp_o (by omega) (by omega)]
      exact ho.2.2.2.2.2.2.2 i (by omega)
theorem q_cRem {n : Nat} (hn : n ≤ 8) : ∀ f t h, t < n → n - t = f + 1 → h.1 33 0 = nI n → ∃ h1, zl_Ts_remove_2 33 (nI t) h = some (0, h1) ∧ (∀ o k, ¬ (33 ≤ o ∧ o ≤ 36) → h1.1 o k = h.1 o k) ∧ h1.1 33 0 = nI (n - 1) ∧ ∀ o k, 34 ≤ o → o ≤ 36 → h1.1 o k = if t ≤ k ∧ k < n - 1 then h.1 o (k + 1) else h.1 o k := by
  intro f
  induction f with
  | zero =>
    intro t h ht hf h0
    refine ⟨z_wI h 33 0 (nI (n - 1)), ?_, fun o k q => ?_, ?_, fun o k q1 q2 => ?_⟩
    · rw [e_Ts_remove_2 (by decide), h0, nI_1, if_pos (nI_le (by omega) (by omega)), n_1, q_sub (by omega)]
    · rw [z_wI1, if_neg (by omega)]
    · rw [z_wI1, if_pos ⟨rfl, rfl⟩]
    · rw [z_wI1, if_neg (by omega), if_neg (by omega)]
  | succ f ih =>
    intro t h ht hf h0
    obtain ⟨H, eH⟩ : ∃ H, H = z_wI (z_wI (z_wI h 34 t (h.1 34 (t + 1))) 35 t (h.1 35 (t + 1))) 36 t (h.1 36 (t + 1)) := ⟨_, rfl⟩
    have rH : ∀ o k, H.1 o k = if 34 ≤ o ∧ o ≤ 36 ∧ k = t then h.1 o (t + 1) else h.1 o k := fun o k => by
      rw [eH, z_wI1]
      by_cases c3 : o = 36 ∧ k = t
      · rw [if_pos c3, if_pos (by omega), c3.1]
      · rw [if_neg c3, z_wI1]
        by_cases c2 : o = 35 ∧ k = t
        · rw [if_pos c2, if_pos (by omega), c2.1]
        · rw [if_neg c2, z_wI1]
          by_cases c1 : o = 34 ∧ k = t
          · rw [if_pos c1, if_pos (by omega), c1.1]
          · rw [if_neg c1, if_neg (by omega)]
    obtain ⟨h1, g1, g2, g3, g4⟩ := ih (t + 1) H (by omega) (by omega) (by rw [rH, if_neg (by omega), h0])
    have q1 : (z_wI h (33 + 1) t (h.1 (33 + 1) (t + 1))).1 (33 + 2) (t + 1) = h.1 35 (t + 1) := by rw [z_wI1, if_neg (by omega)]
    have q2 : (z_wI (z_wI h (33 + 1) t (h.1 (33 + 1) (t + 1))) (33 + 2) t (h.1 35 (t + 1))).1 (33 + 3) (t + 1) = h.1 36 (t + 1) := by rw [z_wI1, if_neg (by omega), z_wI1, if_neg (by omega)]
    refine ⟨h1, ?_, fun o k q => ?_, g3, fun o k k1 k2 => ?_⟩
    · rw [e_Ts_remove_2 (by decide), h0, nI_1, if_neg (nI_ge (by omega) (by omega)), q_inC (show t + 1 < 8 by omega) (by decide), q_inC (show t < 8 by omega) (by decide), q_inC (show t + 1 < 8 by omega) (by decide), q_inC (show t < 8 by omega) (by decide), q_inC (show t + 1 < 8 by omega) (by decide), q_inC (show t < 8 by omega) (by decide), nI_clamp (by omega), nI_clamp (by omega), q1, q2, ← g1, eH]
    · rw [g2 o k q, rH, if_neg (by omega)]
    · rw [g4 o k k1 k2]
      by_cases c1 : t + 1 ≤ k ∧ k < n - 1
      · rw [if_pos c1, if_pos (by omega), rH, if_neg (by omega)]
      · rw [if_neg c1, rH]
        by_cases c2 : k = t
        · subst c2
          rw [if_pos (by omega), if_pos (by omega)]
        · rw [if_neg (by omega), if_neg (by omega)]
theorem q_op20 : z_opok q_inv 20 207 1 := by
  intro h hi as has
  obtain ⟨x, rfl⟩ := q_as1 has
  obtain ⟨⟨a, ha⟩, -⟩ := id hi
  have ha := q_raw ha
  obtain ⟨ho, hst, hp0, hp1, ht⟩ := id ha
  have hsr := ha.sr
  have o2 := ho.2.2.1
  show ∃ r h1 h2, z_M 20 [.ref 0, .int x] h = some (r, h1) ∧ z_M 207 [.ref 122, .int x] h1 = some (r, h2) ∧ q_inv h2
  have ec : z_M 90 [.ref 33, .int x] h = some (q_b (z_in x (a 2)), h) := by
    rw [e_Ts_isThere (by decide), ht.1, q_bnd (by omega)]
    cases z_in x (a 2) <;> rfl
  rw [e_X_drop, ec, z_bd_some]
  cases hx : z_in x (a 2) with
  | false => exact ⟨-1, h, h, by rw [if_neg (fun q => q (by decide))], by rw [e_M_drop, q_isTest hsr, hx, z_bd_some, if_neg (fun q => q (by decide))], hi⟩
  | true =>
    obtain ⟨t, ht2, rfl⟩ := q_inT (by omega) hx
    obtain ⟨h1, g1, g2, g3, g4⟩ := q_cRem (n := a 2) o2 (a 2 - t - 1) t h ht2 (by omega) ht.1
    have e1 : ∀ j, h1.1 123 j = h.1 123 j := fun j => g2 _ _ (by omega)
    have hs1 := q_srE e1 hsr
    have h12 : h1.1 123 2 = nI (a 2) := hs1.2.2.1
    obtain ⟨H, eH⟩ : ∃ H, H = q_it (fun i h => z_wI h 123 (525 + 3 * t + i) (h.1 123 (528 + 3 * t + i))) 0 (3 * (a 2 - 1 - t)) h1 := ⟨_, rfl⟩
    have rH := (q_copy (o := 123) (c := 525 + 3 * t) (o2 := 123) (d := 528 + 3 * t) (N := 3 * (a 2 - 1 - t)) (fun i j q1 q2 => by omega) (3 * (a 2 - 1 - t)) 0 h1 (by omega)).1
    rw [← eH] at rH
    have hl : zl_M_drop_18 (525 + 3 * nI t) h1 = some (nI (a 2 - 1), z_wI H 123 2 (nI (a 2 - 1))) := by
      have e0 : (525 : Int32) + 3 * nI t = nI (525 + 3 * t + 0) := by rw [n_525, n_3, pk_mul, nI_add]; rfl
      have hloop : ∀ f i h, i + f = 3 * (a 2 - 1 - t) → h.1 123 2 = nI (a 2) → zl_M_drop_18 (nI (525 + 3 * t + i)) h = some (nI (a 2 - 1), z_wI (q_it (fun i h => z_wI h 123 (525 + 3 * t + i) (h.1 123 (528 + 3 * t + i))) i f h) 123 2 (nI (a 2 - 1))) := by
        intro f
        induction f with
        | zero =>
          intro i h hi' h2
          have : (525 : Int32) + 3 * (nI (a 2) - 1) = nI (525 + 3 * (a 2 - 1)) := by rw [n_525, n_3, n_1, q_sub (by omega), pk_mul, nI_add]
          rw [e_M_drop_18, h2, this, if_pos (nI_le (by omega) (by omega)), n_1, q_sub (by omega), z_wI1, if_pos ⟨rfl, rfl⟩]
          rfl
        | succ f ih =>
          intro i h hi' h2
          have : (525 : Int32) + 3 * (nI (a 2) - 1) = nI (525 + 3 * (a 2 - 1)) := by rw [n_525, n_3, n_1, q_sub (by omega), pk_mul, nI_add]
          rw [e_M_drop_18, h2, this, if_neg (nI_ge (by omega) (by omega)), n_3, nI_add, nI_1, q_inC (show 525 + 3 * t + i + 3 < 549 by omega) (by decide), q_inC (show 525 + 3 * t + i < 549 by omega) (by decide), nI_clamp (by omega), nI_clamp (by omega), show 525 + 3 * t + i + 3 = 528 + 3 * t + i by omega, show 525 + 3 * t + i + 1 = 525 + 3 * t + (i + 1) by omega]
          exact ih (i + 1) _ (by omega) (by rw [z_wI1, if_neg (by omega), h2])
      rw [e0, hloop (3 * (a 2 - 1 - t)) 0 h1 (by omega) h12, eH]
    refine ⟨nI (a 2 - 1), h1, z_wI H 123 2 (nI (a 2 - 1)), ?_, ?_, ?_⟩
    · rw [if_pos (by decide), e_Ts_remove (by decide), g1, z_bd_some, g3]
    · rw [e_M_drop, q_isTest hs1, q_int ht2 (by omega), z_bd_some, if_pos (by decide), hl]
    · refine hi.now (fun o k q1 q2 => ?_) ⟨q_dp a t, ha.tests (q_dp_ok ho ht2) (fun j j1 j2 => ?_) (fun j hj => ?_) ⟨?_, fun i hi' => ?_⟩ (fun o k q1 q2 => ?_)⟩
      · rw [z_wI1, if_neg (by omega), rH, if_neg (by omega), g2 o k (by omega)]
      · unfold q_dp
        rw [if_neg j1, if_neg (by omega)]
      · unfold q_dp
        rw [z_wI1]
        by_cases j2 : j = 2
        · rw [if_pos ⟨rfl, j2⟩, if_pos j2, q_vn (by omega)]
        · rw [if_neg (fun q => j2 q.2), if_neg j2, rH]
          by_cases c1 : 525 + 3 * t ≤ j ∧ j < 525 + 3 * (a 2 - 1)
          · rw [if_pos (by omega), if_pos c1, e1, show 528 + 3 * t + (j - (525 + 3 * t)) = j + 3 by omega]
            exact hst _ (by omega)
          · rw [if_neg (by omega), if_neg c1, e1]
            exact hst j hj
      · rw [z_wI1, if_neg (by omega), rH, if_neg (by omega), g3]
        rfl
      · have hi' : i < a 2 - 1 := hi'
        have r4 : ∀ o, 34 ≤ o → o ≤ 36 → (z_wI H 123 2 (nI (a 2 - 1))).1 o i = if t ≤ i ∧ i < a 2 - 1 then h.1 o (i + 1) else h.1 o i := fun o k1 k2 => by
          rw [z_wI1, if_neg (by omega), rH, if_neg (by omega)]
          exact g4 o i k1 k2
        rw [r4 (33 + 1) (by omega) (by omega), r4 (33 + 2) (by omega) (by omega), r4 (33 + 3) (by omega) (by omega)]
        by_cases c1 : t ≤ i ∧ i < a 2 - 1
        · rw [if_pos c1, if_pos c1, if_pos c1, q_dp_in (by omega), q_dp_in (by omega), q_dp_in (by omega)]
          exact ht.2 (i + 1) (by omega)
        · rw [if_neg c1, if_neg c1, if_neg c1, q_dp_o (by omega) (by omega), q_dp_o (by omega) (by omega), q_dp_o (by omega) (by omega)]
          exact ht.2 i (by omega)
      · rw [z_wI1, if_neg (by omega), rH, if_neg (by omega), g2 o k (by omega)]
/-! draw -/
def q_got (v : Int32) : Nat := v.toBitVec.toNat / 65536 % 32768
theorem q_gotC (v : Int32) : (v.toUInt32 >>> ((16 : Int32).toUInt32 &&& Int32.toUInt32 31)).toInt32 &&& 32767 = nI (q_got v) := by
  rw [pk_and _ 15 (by decide), pk_ushr v 16 16 (by decide)]
  rfl
theorem q_gotM (v : Int32) : (v >>> ((16 : Int32) &&& 31)) &&& 32767 = nI (q_got v) := by
  rw [pk_and _ 15 (by decide)]
  have h1 := pk_shr v ((16 : Int32) &&& 31) 16 (by decide)
  generalize v >>> ((16 : Int32) &&& 31) = u at h1
  have h2 : u.toBitVec.toInt = v.toBitVec.toInt >>> 16 := h1
  rw [Int.shiftRight_eq_div_pow] at h2
  rw [BitVec.toInt_eq_toNat_cond, BitVec.toInt_eq_toNat_cond] at h2
  have hu := u.toBitVec.isLt
  have hv := v.toBitVec.isLt
  have : u.toBitVec.toNat % 2 ^ 15 = q_got v := by
    unfold q_got
    split at h2 <;> split at h2 <;> omega
  rw [this]
def q_nxd (v : Int32) : Int32 := v * 1103515245 + 12345
def q_dr (n : Nat) : Nat → Nat → Int32 → (Nat → Nat) → Nat × (Nat → Nat)
  | 0, k, _, a => (k, a)
  | f + 1, k, v, a => if k < n ∧ a 2 < 8 then q_dr n f (k + 1) (q_nxd v) (q_ap a (q_got (q_nxd v) % a 1) (q_got (q_nxd v) / 4 % 256) (q_got (q_nxd v) / 1024 % 9 + 1)) else (k, a)
theorem q_dr_ok {n : Nat} : ∀ f k v a, q_ok a → 0 < a 1 → q_ok (q_dr n f k v a).2 ∧ ∀ j, j ≠ 2 → j < 525 → (q_dr n f k v a).2 j = a j := by
  intro f
  induction f with
  | zero => intro k v a ho _; exact ⟨ho, fun _ _ _ => rfl⟩
  | succ f ih =>
    intro k v a ho h1
    unfold q_dr
    by_cases hc : k < n ∧ a 2 < 8
    · rw [if_pos hc]
      have hm := Nat.mod_lt (q_got (q_nxd v)) h1
      obtain ⟨g1, g2⟩ := ih (k + 1) (q_nxd v) (q_ap a (q_got (q_nxd v) % a 1) (q_got (q_nxd v) / 4 % 256) (q_got (q_nxd v) / 1024 % 9 + 1)) (q_ap_ok ho hc.2 hm (by omega) (by omega)) (by rw [q_ap_e 1 (by omega) (by omega)]; exact h1)
      exact ⟨g1, fun j j1 j2 => (g2 j j1 j2).trans (q_ap_e j j1 j2)⟩
    · rw [if_neg hc]
      exact ⟨ho, fun _ _ _ => rfl⟩
theorem q_gotB (v : Int32) : q_got v < 32768 := Nat.mod_lt _ (by decide)
theorem q_cDraw {n : Nat} (hn : n ≤ 8) : ∀ f k v a h, n - k ≤ f → k ≤ n → q_ok a → 0 < a 1 → q_tst h.1 33 a → h.1 17 1 = nI (a 1) → ∃ h1, zl_X_draw_32 (nI n) (nI k) v h = some (nI (q_dr n f k v a).1, h1) ∧ q_tst h1.1 33 (q_dr n f k v a).2 ∧ ∀ o j, ¬ (33 ≤ o ∧ o ≤ 36) → h1.1 o j = h.1 o j := by
  intro f
  induction f with
  | zero =>
    intro k v a h hf hk ho h1 ht h17
    exact ⟨h, by rw [e_X_draw_32, if_pos (nI_le (by omega) (by omega))]; rfl, ht, fun _ _ _ => rfl⟩
  | succ f ih =>
    intro k v a h hf hk ho h1 ht h17
    have o1 := ho.2.1
    have o2 := ho.2.2.1
    rw [e_X_draw_32]
    unfold q_dr
    by_cases hkn : k < n
    · rw [if_neg (nI_ge hkn (by omega)), q_cFull ht o2, z_bd_some]
      by_cases h8 : a 2 = 8
      · rw [decide_eq_true h8, if_pos (by decide), if_neg (by omega)]
        exact ⟨h, rfl, ht, fun _ _ _ => rfl⟩
      · have hg := q_gotB (q_nxd v)
        have hm := Nat.mod_lt (q_got (q_nxd v)) h1
        have h0 : ¬ nI (a 1) = 0 := nI_ne0 h1 (by omega)
        obtain ⟨h2, c1, c2, c3⟩ := q_cApp (c := q_got (q_nxd v) % a 1) (d := q_got (q_nxd v) / 4 % 256) (s := q_got (q_nxd v) / 1024 % 9 + 1) ht (show a 2 < 8 by omega)
        obtain ⟨h3, g1, g2, g3⟩ := ih (k + 1) (q_nxd v) (q_ap a (q_got (q_nxd v) % a 1) (q_got (q_nxd v) / 4 % 256) (q_got (q_nxd v) / 1024 % 9 + 1)) h2 (by omega) (by omega) (q_ap_ok ho (by omega) hm (by omega) (by omega)) (by rw [q_ap_e 1 (by omega) (by omega)]; exact h1) c2 (by rw [c3 _ _ (by omega), h17, q_ap_e 1 (by omega) (by omega)])
        have e0 : v * 1103515245 + 12345 = q_nxd v := rfl
        have e1 := q_gotC (q_nxd v)
        have e2 : nI (q_got (q_nxd v)) - nI (q_got (q_nxd v)) / nI (a 1) * nI (a 1) = nI (q_got (q_nxd v) % a 1) := pk_rem (by omega) h1 (by omega)
        have e3 : nI (q_got (q_nxd v)) / 4 = nI (q_got (q_nxd v) / 4) := pk_div (d := 4) (by omega) (by decide) (by decide)
        have e4 : nI (q_got (q_nxd v) / 4) - nI (q_got (q_nxd v) / 4) / 256 * 256 = nI (q_got (q_nxd v) / 4 % 256) := pk_rem (d := 256) (by omega) (by decide) (by decide)
        have e5 : nI (q_got (q_nxd v)) / 1024 = nI (q_got (q_nxd v) / 1024) := pk_div (d := 1024) (by omega) (by decide) (by decide)
        have e6 : nI (q_got (q_nxd v) / 1024) - nI (q_got (q_nxd v) / 1024) / 9 * 9 = nI (q_got (q_nxd v) / 1024 % 9) := pk_rem (d := 9) (by omega) (by decide) (by decide)
        rw [decide_eq_false h8, if_neg (by decide), if_pos ⟨hkn, by omega⟩]
        refine ⟨h3, ?_, g2, fun o j q => (g3 o j q).trans (c3 o j q)⟩
        have hd : (!decide (nI (a 1) = 0)) = true := by rw [decide_eq_false h0]; rfl
        rw [h17, hd, e0, e1, e2, e3, e4, e5, e6, nI_1, c1, nI_1]
        exact g1
    · rw [if_pos (nI_le (by omega) (by omega)), if_neg (by omega)]
      exact ⟨h, rfl, ht, fun _ _ _ => rfl⟩
theorem q_mDraw {n : Nat} (hn : n ≤ 8) : ∀ f k v a h, n - k ≤ f → k ≤ n → q_ok a → 0 < a 1 → (∀ j, j < 549 → h.1 123 j = q_v (a j)) → ∃ h1, zl_M_draw_31 (nI n) v (nI k) h = some (nI (q_dr n f k v a).1, h1) ∧ (∀ j, j < 549 → h1.1 123 j = q_v ((q_dr n f k v a).2 j)) ∧ ∀ o j, o ≠ 123 → h1.1 o j = h.1 o j := by
  intro f
  induction f with
  | zero =>
    intro k v a h hf hk ho h1 ht
    exact ⟨h, by rw [e_M_draw_31, if_pos (nI_le (by omega) (by omega))]; rfl, ht, fun _ _ _ => rfl⟩
  | succ f ih =>
    intro k v a h hf hk ho h1 ht
    have o1 := ho.2.1
    have o2 := ho.2.2.1
    have h12 : h.1 123 2 = nI (a 2) := by rw [ht 2 (by omega), q_vn (by omega)]
    have h11 : h.1 123 1 = nI (a 1) := by rw [ht 1 (by omega), q_vn (by omega)]
    rw [e_M_draw_31, h12, h11]
    unfold q_dr
    by_cases hkn : k < n
    · rw [if_neg (nI_ge hkn (by omega)), n_8]
      by_cases h8 : a 2 = 8
      · rw [if_pos (nI_le (by omega) (by omega)), if_neg (by omega)]
        exact ⟨h, rfl, ht, fun _ _ _ => rfl⟩
      · have hg := q_gotB (q_nxd v)
        have hm := Nat.mod_lt (q_got (q_nxd v)) h1
        have h0 : ¬ nI (a 1) = 0 := nI_ne0 h1 (by omega)
        obtain ⟨h2, c1, c2, c3⟩ := q_mApp (c := q_got (q_nxd v) % a 1) (d := q_got (q_nxd v) / 4 % 256) (s := q_got (q_nxd v) / 1024 % 9 + 1) ht (show a 2 < 8 by omega) (by omega) (by omega) (by omega)
        obtain ⟨h3, g1, g2, g3⟩ := ih (k + 1) (q_nxd v) (q_ap a (q_got (q_nxd v) % a 1) (q_got (q_nxd v) / 4 % 256) (q_got (q_nxd v) / 1024 % 9 + 1)) h2 (by omega) (by omega) (q_ap_ok ho (by omega) hm (by omega) (by omega)) (by rw [q_ap_e 1 (by omega) (by omega)]; exact h1) c2
        have e0 : v * 1103515245 + 12345 = q_nxd v := rfl
        have e1 := q_gotM (q_nxd v)
        have e2 : nI (q_got (q_nxd v)) - nI (q_got (q_nxd v)) / nI (a 1) * nI (a 1) = nI (q_got (q_nxd v) % a 1) := pk_rem (by omega) h1 (by omega)
        have e3 : nI (q_got (q_nxd v)) / 4 = nI (q_got (q_nxd v) / 4) := pk_div (d := 4) (by omega) (by decide) (by decide)
        have e4 : nI (q_got (q_nxd v) / 4) - nI (q_got (q_nxd v) / 4) / 256 * 256 = nI (q_got (q_nxd v) / 4 % 256) := pk_rem (d := 256) (by omega) (by decide) (by decide)
        have e5 : nI (q_got (q_nxd v)) / 1024 = nI (q_got (q_nxd v) / 1024) := pk_div (d := 1024) (by omega) (by decide) (by decide)
        have e6 : nI (q_got (q_nxd v) / 1024) - nI (q_got (q_nxd v) / 1024) / 9 * 9 = nI (q_got (q_nxd v) / 1024 % 9) := pk_rem (d := 9) (by omega) (by decide) (by decide)
        have hd : (!decide (nI (a 1) = 0)) = true := by rw [decide_eq_false h0]; rfl
        rw [if_neg (nI_ge (by omega) (by omega)), if_pos ⟨hkn, by omega⟩]
        refine ⟨h3, ?_, g2, fun o j q => (g3 o j q).trans (c3 o j q)⟩
        rw [hd, e0, e1, e2, e3, e4, e5, e6, nI_1, c1, nI_1]
        exact g1
    · rw [if_pos (nI_le (by omega) (by omega)), if_neg (by omega)]
      exact ⟨h, rfl, ht, fun _ _ _ => rfl⟩
theorem q_w18 (x : Int32) (h : z_H) : z_M 127 [.long x.toInt64, .long (1 : Int32).toInt64, .long (8 : Int32).toInt64] h = some (q_b (z_in x 9 && !decide (x = 0)), h) := by
  rw [q_within]
  have h1 : (1 : Int32).toInt = 1 := rfl
  have h9 : (8 : Int32).toInt = 8 := rfl
  rcases q_cases x with hx | ⟨c, hc, rfl⟩
  · have h0 : (0 : Int32).toInt = 0 := rfl
    have := Int32.lt_iff_toInt_lt.mp hx
    rw [if_neg (by omega), q_in_neg hx]
    rfl
  · rw [nI_toInt hc, q_in hc, n_0]
    have he : decide (nI c = nI 0) = decide (c = 0) := decide_eq_decide.mpr (nI_eq hc (by decide))
    rw [he]
    by_cases hh : 1 ≤ c ∧ c < 9
    · rw [if_pos (by omega), decide_eq_true hh.2, decide_eq_false (by omega)]
      rfl
    · rw [if_neg (by omega)]
      by_cases c0 : c = 0
      · rw [decide_eq_true c0, Bool.not_true, Bool.and_false]
        rfl
      · rw [decide_eq_false (show ¬ c < 9 by omega)]
        rfl
theorem q_op21 : z_opok q_inv 21 208 2 := by
  intro h hi as has
  obtain ⟨x, y, rfl⟩ := q_as2 has
  obtain ⟨⟨a, ha⟩, -⟩ := id hi
  have ha := q_raw ha
  obtain ⟨ho, hst, hp0, hp1, ht⟩ := id ha
  have hsr := ha.sr
  have o1 := ho.2.1
  show ∃ r h1 h2, z_M 21 [.ref 0, .int x, .int y] h = some (r, h1) ∧ z_M 208 [.ref 122, .int x, .int y] h1 = some (r, h2) ∧ q_inv h2
  rw [e_X_draw]
  rcases q_cases y with hy | ⟨n, hn, rfl⟩
  · have : y < 1 := Int32.lt_iff_toInt_lt.mpr (by
      have := Int32.lt_iff_toInt_lt.mp hy
      have h0 : (0 : Int32).toInt = 0 := rfl
      have h1 : (1 : Int32).toInt = 1 := rfl
      omega)
    exact ⟨-1, h, h, by rw [if_pos this], by rw [e_M_draw, q_w18, z_bd_some, q_in_neg hy, Bool.false_and, if_neg (fun q => q (by decide))], hi⟩
  · have he : decide (nI n = 0) = decide (n = 0) := decide_eq_decide.mpr (nI_eq hn (by decide))
    have em : ∀ h1, z_M 208 [.ref 122, .int x, .int (nI n)] h1 = (if ¬ q_b (decide (n < 9) && !decide (n = 0)) = 0 then (if ¬ h1.1 123 1 = 0 then zl_M_draw_31 (nI n) x 0 h1 else some ((-2), h1)) else some ((-1), h1)) := fun h1 => by
      rw [e_M_draw, q_w18, z_bd_some, he, q_in hn]
    by_cases n0 : n = 0
    · exact ⟨-1, h, h, by rw [n_1, if_pos (nI_lt (by omega) (by decide))], by rw [em, decide_eq_true n0, Bool.not_true, Bool.and_false, if_neg (fun q => q (by decide))], hi⟩
    · rw [n_1, if_neg (nI_nlt (by omega) hn), n_8]
      by_cases n8 : n ≤ 8
      · rw [decide_eq_true (show n < 9 by omega), decide_eq_false n0] at em
        rw [if_pos (nI_le n8 (by decide)), hp0.2.1]
        have h1e : ∀ h1 : z_H, (∀ j, h1.1 123 j = h.1 123 j) → h1.1 123 1 = nI (a 1) := fun h1 e => by rw [e, hst 1 (by omega), q_vn (by omega)]
        by_cases a1 : a 1 = 0
        · refine ⟨-2, h, h, by rw [if_neg (nI_ge (by omega) (by decide))], ?_, hi⟩
          rw [em, if_pos (by decide), h1e h (fun _ => rfl), a1, if_neg (fun q => q rfl)]
        · obtain ⟨h1, c1, c2, c3⟩ := q_cDraw (n := n) n8 n 0 x a h (by omega) (by omega) ho (by omega) ht hp0.2.1
          have e1 : ∀ j, h1.1 123 j = h.1 123 j := fun j => c3 _ _ (by omega)
          obtain ⟨h2, m1, m2, m3⟩ := q_mDraw (n := n) n8 n 0 x a h1 (by omega) (by omega) ho (by omega) (fun j hj => (e1 j).trans (hst j hj))
          obtain ⟨k1, k2⟩ := q_dr_ok (n := n) n 0 x a ho (by omega)
          refine ⟨nI (q_dr n n 0 x a).1, h1, h2, ?_, ?_, ?_⟩
          · rw [if_pos (nI_le (by omega) (by omega))]
            exact c1
          · rw [em, if_pos (by decide), h1e h1 e1, if_pos (nI_ne0 (by omega) (by omega))]
            exact m1
          · refine hi.now (fun o k q1 q2 => ?_) ⟨(q_dr n n 0 x a).2, ha.tests k1 k2 m2 ?_ (fun o k q1 q2 => ?_)⟩
            · rw [m3 o k q1, c3 o k (by omega)]
            · exact c2.congr (fun o k q1 q2 => m3 o k (by omega))
            · rw [m3 o k (by omega), c3 o k (by omega)]
      · refine ⟨-1, h, h, by rw [if_neg (nI_ge (by omega) hn)]; rfl, ?_, hi⟩
        rw [em, decide_eq_false (show ¬ n < 9 by omega), Bool.false_and, if_neg (fun q => q (by decide))]
