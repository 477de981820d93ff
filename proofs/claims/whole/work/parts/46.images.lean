/-! THE PURE PART: programs and tests taken over; keep, back -/
def q_len (j : Nat) : Nat := match j with
  | 0 => 2
  | 1 => 6
  | 5 => 96
  | 6 => 4
  | 7 => 16
  | _ => 48
theorem q_becP {o p : Nat} (hi : (o, p) ∈ [(17, 4), (25, 4), (17, 25), (25, 17), (73, 17), (94, 17), (81, 25), (102, 25), (17, 73), (17, 94), (25, 81), (25, 102)]) (h : z_H) : ∃ h', z_M 69 [.ref o, .ref p] h = some (0, h') ∧ (∀ o' k, ¬ (o ≤ o' ∧ o' ≤ o + 7) → h'.1 o' k = h.1 o' k) ∧ ∀ j k, j < 8 → k < q_len j → h'.1 (o + j) k = h.1 (p + j) k := by
  have hd : o + 8 ≤ p ∨ p + 8 ≤ o := by
    have : ∀ q ∈ [(17, 4), (25, 4), (17, 25), (25, 17), (73, 17), (94, 17), (81, 25), (102, 25), (17, 73), (17, 94), (25, 81), (25, 102)], q.1 + 8 ≤ q.2 ∨ q.2 + 8 ≤ q.1 := by decide
    exact this _ hi
  refine ⟨_, e_P_becomeAs hi h, fun o' k q => ?_, fun j k hj hk => ?_⟩
  · rw [z_cpI1, if_neg (by omega), z_cpI1, if_neg (by omega), z_cpI1, if_neg (by omega), z_cpI1, if_neg (by omega), z_cpI1, if_neg (by omega), z_cpI1, if_neg (by omega), z_cpI1, if_neg (by omega), z_wI1, if_neg (by omega), z_wI1, if_neg (by omega)]
  · rcases (show j = 0 ∨ j = 1 ∨ j = 2 ∨ j = 3 ∨ j = 4 ∨ j = 5 ∨ j = 6 ∨ j = 7 by omega) with rfl | rfl | rfl | rfl | rfl | rfl | rfl | rfl
    · have hk : k < 2 := hk
      rw [Nat.add_zero, Nat.add_zero, z_cpI1, if_neg (by omega), z_cpI1, if_neg (by omega), z_cpI1, if_neg (by omega), z_cpI1, if_neg (by omega), z_cpI1, if_neg (by omega), z_cpI1, if_neg (by omega), z_cpI1, if_neg (by omega), z_wI1]
      rcases (show k = 0 ∨ k = 1 by omega) with rfl | rfl
      · rw [if_neg (by omega), z_wI1, if_pos ⟨rfl, rfl⟩]
        rfl
      · rw [if_pos ⟨rfl, rfl⟩, z_wI1, if_neg (by omega)]
        rfl
    · have hk : k < 6 := hk
      rw [z_cpI1, if_neg (by omega), z_cpI1, if_neg (by omega), z_cpI1, if_neg (by omega), z_cpI1, if_neg (by omega), z_cpI1, if_neg (by omega), z_cpI1, if_neg (by omega), z_cpI1, if_pos rfl, pk_cpy_in (by omega) (by omega), z_wI1, if_neg (by omega), z_wI1, if_neg (by omega), show 0 + (k - 0) = k by omega]
    · have hk : k < 48 := hk
      rw [z_cpI1, if_neg (by omega), z_cpI1, if_neg (by omega), z_cpI1, if_neg (by omega), z_cpI1, if_neg (by omega), z_cpI1, if_neg (by omega), z_cpI1, if_pos rfl, pk_cpy_in (by omega) (by omega), z_cpI1, if_neg (by omega), z_wI1, if_neg (by omega), z_wI1, if_neg (by omega), show 0 + (k - 0) = k by omega]
    · have hk : k < 48 := hk
      rw [z_cpI1, if_neg (by omega), z_cpI1, if_neg (by omega), z_cpI1, if_neg (by omega), z_cpI1, if_neg (by omega), z_cpI1, if_pos rfl, pk_cpy_in (by omega) (by omega), z_cpI1, if_neg (by omega), z_cpI1, if_neg (by omega), z_wI1, if_neg (by omega), z_wI1, if_neg (by omega), show 0 + (k - 0) = k by omega]
    · have hk : k < 48 := hk
      rw [z_cpI1, if_neg (by omega), z_cpI1, if_neg (by omega), z_cpI1, if_neg (by omega), z_cpI1, if_pos rfl, pk_cpy_in (by omega) (by omega), z_cpI1, if_neg (by omega), z_cpI1, if_neg (by omega), z_cpI1, if_neg (by omega), z_wI1, if_neg (by omega), z_wI1, if_neg (by omega), show 0 + (k - 0) = k by omega]
    · have hk : k < 96 := hk
      rw [z_cpI1, if_neg (by omega), z_cpI1, if_neg (by omega), z_cpI1, if_pos rfl, pk_cpy_in (by omega) (by omega), z_cpI1, if_neg (by omega), z_cpI1, if_neg (by omega), z_cpI1, if_neg (by omega), z_cpI1, if_neg (by omega), z_wI1, if_neg (by omega), z_wI1, if_neg (by omega), show 0 + (k - 0) = k by omega]
    · have hk : k < 4 := hk
      rw [z_cpI1, if_neg (by omega), z_cpI1, if_pos rfl, pk_cpy_in (by omega) (by omega), z_cpI1, if_neg (by omega), z_cpI1, if_neg (by omega), z_cpI1, if_neg (by omega), z_cpI1, if_neg (by omega), z_cpI1, if_neg (by omega), z_wI1, if_neg (by omega), z_wI1, if_neg (by omega), show 0 + (k - 0) = k by omega]
    · have hk : k < 16 := hk
      rw [z_cpI1, if_pos rfl, pk_cpy_in (by omega) (by omega), z_cpI1, if_neg (by omega), z_cpI1, if_neg (by omega), z_cpI1, if_neg (by omega), z_cpI1, if_neg (by omega), z_cpI1, if_neg (by omega), z_cpI1, if_neg (by omega), z_wI1, if_neg (by omega), z_wI1, if_neg (by omega), show 0 + (k - 0) = k by omega]
theorem q_becT {o p : Nat} (hi : (o, p) ∈ [(33, 12), (89, 33), (110, 33), (33, 89), (33, 110)]) (h : z_H) : ∃ h', z_M 92 [.ref o, .ref p] h = some (0, h') ∧ (∀ o' k, ¬ (o ≤ o' ∧ o' ≤ o + 3) → h'.1 o' k = h.1 o' k) ∧ h'.1 o 0 = h.1 p 0 ∧ ∀ j k, 1 ≤ j → j < 4 → k < 8 → h'.1 (o + j) k = h.1 (p + j) k := by
  have hd : o + 4 ≤ p ∨ p + 4 ≤ o := by
    have : ∀ q ∈ [(33, 12), (89, 33), (110, 33), (33, 89), (33, 110)], q.1 + 4 ≤ q.2 ∨ q.2 + 4 ≤ q.1 := by decide
    exact this _ hi
  refine ⟨_, e_Ts_becomeAs hi h, fun o' k q => ?_, ?_, fun j k hj0 hj hk => ?_⟩
  · rw [z_cpI1, if_neg (by omega), z_cpI1, if_neg (by omega), z_cpI1, if_neg (by omega), z_wI1, if_neg (by omega)]
  · rw [z_cpI1, if_neg (by omega), z_cpI1, if_neg (by omega), z_cpI1, if_neg (by omega), z_wI1, if_pos ⟨rfl, rfl⟩]
  · rcases (show j = 1 ∨ j = 2 ∨ j = 3 by omega) with rfl | rfl | rfl
    · rw [z_cpI1, if_neg (by omega), z_cpI1, if_neg (by omega), z_cpI1, if_pos rfl, pk_cpy_in (by omega) (by omega), z_wI1, if_neg (by omega), show 0 + (k - 0) = k by omega]
    · rw [z_cpI1, if_neg (by omega), z_cpI1, if_pos rfl, pk_cpy_in (by omega) (by omega), z_cpI1, if_neg (by omega), z_wI1, if_neg (by omega), show 0 + (k - 0) = k by omega]
    · rw [z_cpI1, if_pos rfl, pk_cpy_in (by omega) (by omega), z_cpI1, if_neg (by omega), z_cpI1, if_neg (by omega), z_wI1, if_neg (by omega), show 0 + (k - 0) = k by omega]
section QBC
variable {I I1 : Nat → Nat → Int32} {a a' : Nat → Nat}
theorem q_prg.copy {o p P : Nat} (ho : q_ok a) (h : q_prg I p P a) (e : ∀ j k, j < 8 → k < q_len j → I1 (o + j) k = I (p + j) k) : q_prg I1 o P a := by
  obtain ⟨h1, h2, h3, h4, h5, h6⟩ := h
  have o0 := ho.1
  have o1 := ho.2.1
  refine ⟨(e 0 0 (by decide) (by decide)).trans h1, (e 0 1 (by decide) (by decide)).trans h2, fun m hm => (e 1 m (by decide) (show m < 6 by omega)).trans (h3 m hm), fun m i hm hi => ?_, fun c hc => (e 6 c (by decide) (show c < 4 by omega)).trans (h5 c hc), fun c n hc hn => (e 7 _ (by decide) (show 4 * c + n < 16 by omega)).trans (h6 c n hc hn)⟩
  have o7 := ho.2.2.2.1 m hm
  obtain ⟨g1, g2, g3, g4⟩ := h4 m i hm hi
  exact ⟨(e 2 _ (by decide) (show 8 * m + i < 48 by omega)).trans g1, (e 3 _ (by decide) (show 8 * m + i < 48 by omega)).trans g2, (e 4 _ (by decide) (show 8 * m + i < 48 by omega)).trans g3, fun k hk => (e 5 _ (by decide) (show 16 * m + 2 * i + k < 96 by omega)).trans (g4 k hk)⟩
theorem q_tst.copy {o p : Nat} (ho : q_ok a) (h : q_tst I p a) (e0 : I1 o 0 = I p 0) (e : ∀ j k, 1 ≤ j → j < 4 → k < 8 → I1 (o + j) k = I (p + j) k) : q_tst I1 o a := by
  obtain ⟨h1, h2⟩ := h
  have o2 := ho.2.2.1
  refine ⟨e0.trans h1, fun i hi => ?_⟩
  obtain ⟨g1, g2, g3⟩ := h2 i hi
  exact ⟨(e 1 i (by decide) (by decide) (by omega)).trans g1, (e 2 i (by decide) (by decide) (by omega)).trans g2, (e 3 i (by decide) (by decide) (by omega)).trans g3⟩
/-- the same rows told by another program's part of the row -/
theorem q_prg.mv {o p q : Nat} (ho : q_ok a) (h : q_prg I o p a) (e : ∀ j, j < 13 → a' j = a j) (f : ∀ j, j < 256 → a' (13 + 256 * q + j) = a (13 + 256 * p + j)) : q_prg I o q a' := by
  obtain ⟨h1, h2, h3, h4, h5, h6⟩ := h
  have o0 := ho.1
  have o1 := ho.2.1
  refine ⟨by rw [e 0 (by omega)]; exact h1, by rw [e 1 (by omega)]; exact h2, fun m hm => ?_, fun m i hm hi => ?_, fun c hc => ?_, fun c n hc hn => ?_⟩
  · rw [e 0 (by omega)] at hm
    rw [e (7 + m) (by omega)]
    exact h3 m hm
  · rw [e 0 (by omega)] at hm
    rw [e (7 + m) (by omega)] at hi
    have o7 := ho.2.2.2.1 m hm
    have fe : ∀ c, c < 5 → a' (q_at q m i + c) = a (q_at p m i + c) := fun c hc => by
      have := f (5 * (8 * m + i) + c) (by omega)
      unfold q_at
      rw [Nat.add_assoc (13 + 256 * q), this, Nat.add_assoc (13 + 256 * p)]
    obtain ⟨g1, g2, g3, g4⟩ := h4 m i hm hi
    rw [show a' (q_at q m i) = a (q_at p m i) from fe 0 (by omega), fe 1 (by omega), fe 2 (by omega)]
    refine ⟨g1, g2, g3, fun k hk => ?_⟩
    rw [show q_at q m i + 3 + k = q_at q m i + (3 + k) by omega, fe (3 + k) (by omega), ← Nat.add_assoc]
    exact g4 k hk
  · rw [e 1 (by omega)] at hc
    rw [e (3 + c) (by omega)]
    exact h5 c hc
  · rw [e 1 (by omega)] at hc
    have := f (240 + 4 * c + n) (by omega)
    rw [show q_hs q c n = 13 + 256 * q + (240 + 4 * c + n) by unfold q_hs; omega, this, show 13 + 256 * p + (240 + 4 * c + n) = q_hs p c n by unfold q_hs; omega]
    exact h6 c n hc hn
end QBC
theorem q_mi {I : Nat → Nat → Int32} {o k : Nat} (h1 : 72 ≤ o) (h2 : o ≤ 121) : q_m I o k = I o k := by
  refine q_mc ?_
  unfold q_core
  rw [Nat.ble_eq_true_of_le h1, Nat.ble_eq_true_of_le h2]
  simp
theorem q_rawI {h : z_H} (g : q_img (q_m h.1)) : q_img h.1 := g.congr (fun o k q => by
  rcases q with ⟨q1, q2⟩ | rfl | rfl
  · exact (q_mi q1 (by omega)).symm
  · exact (q_mc rfl).symm
  · exact (q_mc rfl).symm)
theorem q_wrapI {h : z_H} (g : q_img h.1) : q_img (q_m h.1) := g.congr (fun o k q => by
  rcases q with ⟨q1, q2⟩ | rfl | rfl
  · exact q_mi q1 (by omega)
  · exact q_mc rfl
  · exact q_mc rfl)
/-- only the images have changed -/
theorem q_inv.img {h h1 : z_H} (hi : q_inv h) (e : ∀ o k, ¬ (72 ≤ o ∧ o ≤ 113) → o ≠ 124 → o ≠ 125 → h1.1 o k = h.1 o k) (hn : q_img h1.1) : q_inv h1 := by
  obtain ⟨⟨a, ha⟩, -, h3, h4, h5, h6⟩ := hi
  refine ⟨⟨a, ha.congr fun o k q => q_mcong (e o k (by omega) (by omega) (by omega))⟩, q_wrapI hn, h3.congr fun o k q => q_mcong (e o k (by omega) (by omega) (by omega)), h4.congr fun o k q => q_mcong (e o k (by omega) (by omega) (by omega)), ?_, ?_⟩
  · rw [q_mcong (e 0 10 (by omega) (by omega) (by omega)), q_mcong (e 122 12 (by omega) (by omega) (by omega))]
    exact h5
  · rw [q_mcong (e 0 11 (by omega) (by omega) (by omega)), q_mcong (e 122 33 (by omega) (by omega) (by omega))]
    exact h6
theorem q_cImage (x : Int32) (h : z_H) : z_M 39 [.int x] h = some (q_b (z_in x 2), h) := by
  rw [e_X_isImage, n_2, q_bnd (by decide)]
  cases z_in x 2 <;> rfl
theorem q_op22 : z_opok q_inv 22 209 1 := by
  intro h hi as has
  obtain ⟨x, rfl⟩ := q_as1 has
  obtain ⟨⟨a, ha⟩, hg, -⟩ := id hi
  have ha := q_raw ha
  have hg := q_rawI hg
  obtain ⟨ho, hst, hp0, hp1, ht⟩ := id ha
  show ∃ r h1 h2, z_M 22 [.ref 0, .int x] h = some (r, h1) ∧ z_M 209 [.ref 122, .int x] h1 = some (r, h2) ∧ q_inv h2
  rw [e_X_keep, q_cImage, z_bd_some]
  cases hx : z_in x 2 with
  | false => exact ⟨-1, h, h, by rw [if_neg (fun q => q (by decide))], by rw [e_M_keep, q_wl1, z_bd_some, hx, if_neg (fun q => q (by decide))], hi⟩
  | true =>
    obtain ⟨k, hk, rfl⟩ := q_inT (by decide) hx
    obtain ⟨i1, i2, i3⟩ := hg k hk
    have hk01 : k = 0 ∨ k = 1 := by omega
    obtain ⟨hA, bA1, bA2, bA3⟩ := q_becP (o := 72 + 21 * k + 1) (p := 17) (by rcases hk01 with rfl | rfl <;> decide) (z_wI h (72 + 21 * k) 0 1)
    obtain ⟨hB, bB1, bB2, bB3⟩ := q_becP (o := 72 + 21 * k + 9) (p := 25) (by rcases hk01 with rfl | rfl <;> decide) hA
    obtain ⟨hC, bC1, bC2, bC3, bC4⟩ := q_becT (o := 72 + 21 * k + 17) (p := 33) (by rcases hk01 with rfl | rfl <;> decide) hB
    have fr : ∀ o j, ¬ (72 + 21 * k ≤ o ∧ o ≤ 72 + 21 * k + 20) → hC.1 o j = h.1 o j := fun o j q => by
      rw [bC2 o j (by omega), bB2 o j (by omega), bA2 o j (by omega), z_wI1, if_neg (by omega)]
    have e26 : ∀ s0, zl_X_keep_26 (nI k) s0 h = some (s0, hC) := fun s0 => by
      rw [e_X_keep_26, q_int hk (by decide), nI_clamp (by omega)]
      simp only [cond_true]
      rw [bA1, z_bd_some, bB1, z_bd_some, bC1, z_bd_some]
    obtain ⟨H, eH⟩ : ∃ H, H = q_it (fun i h => z_wI h 124 (549 * k + i) (h.1 123 (0 + i))) 0 549 (z_wI hC 125 k 1) := ⟨_, rfl⟩
    have rH := (q_copy (o := 124) (c := 549 * k) (o2 := 123) (d := 0) (N := 549) (fun i j _ _ => by omega) 549 0 (z_wI hC 125 k 1) (by omega)).1
    rw [← eH] at rH
    have e31 : ∀ r, zl_M_keep_31 (nI k) r 0 (z_wI hC 125 k 1) = some (r, H) := fun r => by
      rw [eH]
      refine q_loop (L := fun x h => zl_M_keep_31 (nI k) r x h) (K := fun h => some (r, h)) (N := 549) (fun i h hi => ?_) (fun h => ?_) 549 0 _ rfl
      · show zl_M_keep_31 (nI k) r (nI i) h = _
        rw [e_M_keep_31, n_549, if_neg (nI_ge hi (by decide)), pk_mul, nI_add, q_inC hi (by decide), q_inC (show 549 * k + i < 1098 by omega) (by decide), nI_clamp (by omega), nI_clamp (by omega), Nat.zero_add]
      · show zl_M_keep_31 (nI k) r (nI 549) h = _
        rw [e_M_keep_31, if_pos (by decide)]
    have em : z_M 209 [.ref 122, .int (nI k)] hC = some (if h.1 125 k = 0 then 0 else 1, H) := by
      have e2 : hC.1 125 k = h.1 125 k := fr _ _ (by omega)
      rw [e_M_keep, q_wl1, z_bd_some, hx, if_pos (by decide), cond_true, nI_clamp (by omega), e2, e_M_flag]
      by_cases c : h.1 125 k = 0
      · rw [if_pos c, if_pos c, z_bd_some, cond_true]
        exact e31 _
      · rw [if_neg c, if_neg c, z_bd_some, cond_true]
        exact e31 _
    refine ⟨if h.1 125 k = 0 then 0 else 1, hC, H, ?_, em, ?_⟩
    · rw [if_pos (by decide), cond_true, nI_clamp (by omega), i1]
      by_cases c : h.1 125 k = 0
      · rw [if_pos c, if_pos c]
        exact e26 0
      · rw [if_neg c, if_neg c]
        exact e26 1
    · have w124 : ∀ j, j < 549 → H.1 124 (549 * k + j) = q_v (a j) := fun j hj => by
        rw [rH, if_pos (by omega), show 0 + (549 * k + j - 549 * k) = j by omega, z_wI1, if_neg (by omega), fr _ _ (by omega)]
        exact hst j hj
      have w125 : ∀ j, H.1 125 j = if j = k then 1 else h.1 125 j := fun j => by
        rw [rH, if_neg (by omega), z_wI1]
        by_cases c : j = k
        · rw [if_pos ⟨rfl, c⟩, if_pos c]
        · rw [if_neg (fun q => c q.2), if_neg c, fr _ _ (by omega)]
      have wC : ∀ o j, o ≠ 124 → o ≠ 125 → H.1 o j = hC.1 o j := fun o j q1 q2 => by
        rw [rH, if_neg (by omega), z_wI1, if_neg (by omega)]
      refine hi.img (fun o j q1 q2 q3 => ?_) (fun k' hk' => ?_)
      · rw [wC o j q2 q3, fr _ _ (by omega)]
      · by_cases hkk : k' = k
        · subst hkk
          refine ⟨?_, ?_, fun _ => ⟨a, ho, w124, ?_, ?_, ?_⟩⟩
          · rw [w125, if_pos rfl, wC _ _ (by omega) (by omega), bC2 _ _ (by omega), bB2 _ _ (by omega), bA2 _ _ (by omega), z_wI1, if_pos ⟨rfl, rfl⟩]
          · rw [w125, if_pos rfl]
            exact Or.inr rfl
          · refine hp0.copy ho (fun j i j1 j2 => ?_)
            rw [show 73 + 21 * k' + j = 72 + 21 * k' + 1 + j by omega, wC _ _ (by omega) (by omega), bC2 _ _ (by omega), bB2 _ _ (by omega), bA3 j i j1 j2, z_wI1, if_neg (by omega)]
          · refine hp1.copy ho (fun j i j1 j2 => ?_)
            rw [show 81 + 21 * k' + j = 72 + 21 * k' + 9 + j by omega, wC _ _ (by omega) (by omega), bC2 _ _ (by omega), bB3 j i j1 j2, bA2 _ _ (by omega), z_wI1, if_neg (by omega)]
          · refine ht.copy ho ?_ (fun j i j0 j1 j2 => ?_)
            · rw [show 89 + 21 * k' = 72 + 21 * k' + 17 by omega, wC _ _ (by omega) (by omega), bC3, bB2 _ _ (by omega), bA2 _ _ (by omega), z_wI1, if_neg (by omega)]
            · rw [show 89 + 21 * k' + j = 72 + 21 * k' + 17 + j by omega, wC _ _ (by omega) (by omega), bC4 j i j0 j1 j2, bB2 _ _ (by omega), bA2 _ _ (by omega), z_wI1, if_neg (by omega)]
        · obtain ⟨j1, j2, j3⟩ := hg k' hk'
          have w2 : ∀ o j, 72 + 21 * k' ≤ o → o ≤ 72 + 21 * k' + 20 → H.1 o j = h.1 o j := fun o j q1 q2 => by
            rw [wC o j (by omega) (by omega), fr _ _ (by omega)]
          rw [w125, if_neg hkk]
          refine ⟨by rw [w2 _ _ (by omega) (by omega)]; exact j1, j2, fun q => ?_⟩
          obtain ⟨b, b1, b2, b3⟩ := j3 q
          refine ⟨b, b1, fun j hj => ?_, b3.congr (fun o j q1 q2 => w2 o j (by omega) (by omega)) (fun o j q1 q2 => w2 o j (by omega) (by omega)) (fun o j q1 q2 => w2 o j (by omega) (by omega))⟩
          rw [rH, if_neg (by omega), z_wI1, if_neg (by omega), fr _ _ (by omega)]
          exact b2 j hj
theorem q_op23 : z_opok q_inv 23 210 1 := by
  intro h hi as has
  obtain ⟨x, rfl⟩ := q_as1 has
  obtain ⟨-, hg, -⟩ := id hi
  have hg := q_rawI hg
  show ∃ r h1 h2, z_M 23 [.ref 0, .int x] h = some (r, h1) ∧ z_M 210 [.ref 122, .int x] h1 = some (r, h2) ∧ q_inv h2
  rw [e_X_back, q_cImage, z_bd_some]
  cases hx : z_in x 2 with
  | false => exact ⟨-1, h, h, by rw [if_neg (fun q => q (by decide))], by rw [e_M_back, q_wl1, z_bd_some, hx, if_neg (fun q => q (by decide))], hi⟩
  | true =>
    obtain ⟨k, hk, rfl⟩ := q_inT (by decide) hx
    obtain ⟨i1, i2, i3⟩ := hg k hk
    have hk01 : k = 0 ∨ k = 1 := by omega
    have em : ∀ h1, z_M 210 [.ref 122, .int (nI k)] h1 = (if ¬ h1.1 125 k = 0 then zl_M_back_26 (nI k) 0 h1 else some ((-2), h1)) := fun h1 => by
      rw [e_M_back, q_wl1, z_bd_some, hx, if_pos (by decide), cond_true, nI_clamp (by omega)]
    rw [if_pos (by decide), nI_clamp (by omega), i1]
    simp only [cond_true]
    rcases i2 with c | c
    · exact ⟨-2, h, h, by rw [if_neg (fun q => q c)], by rw [em, if_neg (fun q => q c)], hi⟩
    · have c0 : ¬ h.1 125 k = 0 := by rw [c]; decide
      obtain ⟨b, ho, b2, p0, p1, bt⟩ := i3 c
      obtain ⟨hA, bA1, bA2, bA3⟩ := q_becP (o := 17) (p := 72 + 21 * k + 1) (by rcases hk01 with rfl | rfl <;> decide) h
      obtain ⟨hB, bB1, bB2, bB3⟩ := q_becP (o := 25) (p := 72 + 21 * k + 9) (by rcases hk01 with rfl | rfl <;> decide) hA
      obtain ⟨hC, bC1, bC2, bC3, bC4⟩ := q_becT (o := 33) (p := 72 + 21 * k + 17) (by rcases hk01 with rfl | rfl <;> decide) hB
      have fr : ∀ o j, ¬ (17 ≤ o ∧ o ≤ 36) → hC.1 o j = h.1 o j := fun o j q => by
        rw [bC2 o j (by omega), bB2 o j (by omega), bA2 o j (by omega)]
      obtain ⟨H, eH⟩ : ∃ H, H = q_it (fun i h => z_wI h 123 (0 + i) (h.1 124 (549 * k + i))) 0 549 hC := ⟨_, rfl⟩
      have rH := (q_copy (o := 123) (c := 0) (o2 := 124) (d := 549 * k) (N := 549) (fun i j _ _ => by omega) 549 0 hC (by omega)).1
      rw [← eH] at rH
      have w123 : ∀ j, j < 549 → H.1 123 j = q_v (b j) := fun j hj => by
        rw [rH, if_pos (by omega), Nat.sub_zero, fr _ _ (by omega)]
        exact b2 j hj
      have e26 : zl_M_back_26 (nI k) 0 hC = some (H.1 123 2, H) := by
        rw [eH]
        refine q_loop (L := fun x h => zl_M_back_26 (nI k) x h) (K := fun h => some (h.1 123 2, h)) (N := 549) (fun i h hi => ?_) (fun h => ?_) 549 0 _ rfl
        · show zl_M_back_26 (nI k) (nI i) h = _
          rw [e_M_back_26, n_549, if_neg (nI_ge hi (by decide)), pk_mul, nI_add, q_inC (show 549 * k + i < 1098 by omega) (by decide), q_inC hi (by decide), nI_clamp (by omega), nI_clamp (by omega), Nat.zero_add]
        · show zl_M_back_26 (nI k) (nI 549) h = _
          rw [e_M_back_26, if_pos (by decide)]
      have b22 := ho.2.2.1
      have ht0 : hC.1 33 0 = nI (b 2) := by
        rw [bC3, bB2 _ _ (by omega), bA2 _ _ (by omega), show 72 + 21 * k + 17 = 89 + 21 * k by omega]
        exact bt.1
      refine ⟨nI (b 2), hC, H, ?_, ?_, ?_⟩
      · rw [if_pos c0, bA1, z_bd_some, bB1, z_bd_some, bC1, z_bd_some, ht0]
      · rw [em, fr _ _ (by omega), if_pos c0, e26, w123 2 (by omega), q_vn (by omega)]
      · have wC : ∀ o j, o ≠ 123 → H.1 o j = hC.1 o j := fun o j q1 => by rw [rH, if_neg (by omega)]
        refine hi.now (fun o j q1 q2 => by rw [wC o j q1, fr _ _ q2]) ⟨b, ho, w123, ?_, ?_, ?_⟩
        · refine p0.copy ho (fun j i j1 j2 => ?_)
          rw [wC _ _ (by omega), bC2 _ _ (by omega), bB2 _ _ (by omega), bA3 j i j1 j2, show 72 + 21 * k + 1 + j = 73 + 21 * k + j by omega]
        · refine p1.copy ho (fun j i j1 j2 => ?_)
          rw [wC _ _ (by omega), bC2 _ _ (by omega), bB3 j i j1 j2, bA2 _ _ (by omega), show 72 + 21 * k + 9 + j = 81 + 21 * k + j by omega]
        · refine bt.copy ho ?_ (fun j i j0 j1 j2 => ?_)
          · rw [wC _ _ (by omega), ht0]
            exact bt.1.symm
          · rw [wC _ _ (by omega), bC4 j i j0 j1 j2, bB2 _ _ (by omega), bA2 _ _ (by omega), show 72 + 21 * k + 17 + j = 89 + 21 * k + j by omega]
