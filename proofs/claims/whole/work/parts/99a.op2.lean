/-! THE PURE PART: text -/
theorem q_nowW {h : z_H} {a : Nat → Nat} (hn : q_now h.1 a) : q_now (q_m h.1) a := hn.congr (fun o k q => by
  rcases q with rfl | ⟨q1, q2⟩
  · exact q_mc rfl
  · exact q_mo q1 q2)
theorem q_x91 (h : z_H) : zl_X_text_91 0 h = some (h.1 3 2, z_wI (z_wI h 72 0 0) 93 0 0) := by
  have a1 : zl_X_text_91 (nI 0) h = zl_X_text_91 (nI 1) (z_wI h 72 0 0) := by
    rw [e_X_text_91, if_neg (by decide), q_inC (show 0 < 2 by decide) (by decide), nI_clamp (by decide), nI_1]
  have a2 : zl_X_text_91 (nI 1) (z_wI h 72 0 0) = zl_X_text_91 (nI 2) (z_wI (z_wI h 72 0 0) 93 0 0) := by
    rw [e_X_text_91, if_neg (by decide), q_inC (show 1 < 2 by decide) (by decide), nI_clamp (by decide), nI_1]
  have a1 : zl_X_text_91 0 h = zl_X_text_91 (nI 1) (z_wI h 72 0 0) := a1
  rw [a1, a2, e_X_text_91, if_pos (by decide), z_wI1, if_neg (by omega), z_wI1, if_neg (by omega)]
theorem q_m83 (x : Int32) (h : z_H) : ∃ h', zl_M_text_83 x 0 h = z_bd (z_M 132 [.ref 122] h') (fun r1 h2 => some (x, h2)) ∧ ∀ o k, h'.1 o k = if o = 126 ∧ 269 ≤ k ∧ k < 525 then h.1 126 (k - 256) else h.1 o k := by
  have s1 := q_loop (L := fun i h => zl_M_text_83 x i h) (K := fun h => z_bd (z_M 132 [.ref 122] h) (fun r1 h2 => some (x, h2))) (w := fun i h => z_wI h 126 (269 + i) (h.1 126 (13 + i))) (N := 256) (fun i h hi => by
    show zl_M_text_83 x (nI i) h = _
    rw [e_M_text_83, n_256, if_neg (nI_ge hi (by decide)), n_13, n_269, nI_add, nI_add, q_inC (show 13 + i < 549 by omega) (by decide), q_inC (show 269 + i < 549 by omega) (by decide), nI_clamp (show 13 + i < 2 ^ 31 by omega), nI_clamp (show 269 + i < 2 ^ 31 by omega)]) (fun h => by
    show zl_M_text_83 x (nI 256) h = _
    rw [e_M_text_83, if_pos (by decide)]) 256 0 h rfl
  refine ⟨_, s1, fun o k => ?_⟩
  rw [(q_copy (o := 126) (c := 269) (o2 := 126) (d := 13) (N := 256) (fun i j _ _ q => by omega) 256 0 h (by omega)).1 o k]
  by_cases q : o = 126 ∧ 269 ≤ k ∧ k < 525
  · rw [if_pos (by omega), if_pos q, show 13 + (k - 269) = k - 256 by omega]
  · rw [if_neg (by omega), if_neg q]
theorem q_inv.txt {h K : z_H} (hi : q_inv h) (e : ∀ o k, (114 ≤ o ∧ o ≤ 121) ∨ (137 ≤ o ∧ o ≤ 139) → K.1 o k = h.1 o k) (e11 : K.1 0 11 = h.1 0 11) (e33 : K.1 122 33 = h.1 122 33) (e7 : K.1 122 7 = 0) (e10 : K.1 1 0 = 0) (e12 : K.1 0 10 = K.1 122 12) (hn : ∃ a, q_now K.1 a) (hg : q_img K.1) : q_inv K := by
  obtain ⟨-, -, h3, -, -, h6⟩ := hi
  obtain ⟨a, ha⟩ := hn
  refine ⟨⟨a, q_nowW ha⟩, q_wrapI hg, h3.congr fun o k q => q_mcong (e o k q), ⟨0, by omega, (q_mc rfl).trans e10, (q_mc rfl).trans e7, fun i hi => absurd hi (by omega)⟩, ?_, ?_⟩
  · rw [q_mc rfl, q_mc rfl]
    exact e12
  · rw [q_mcong e11, q_mcong e33]
    exact h6
theorem q_optext : z_opok q_inv 2 150 0 := by
  intro h hi as has
  have : as = [] := List.length_eq_zero_iff.mp has
  subst this
  show ∃ r h1 h2, z_M 2 [.ref 0] h = some (r, h1) ∧ z_M 150 [.ref 122] h1 = some (r, h2) ∧ q_inv h2
  obtain ⟨⟨a0, ha⟩, hg, hsh, ⟨n, n1, n2, n3, n4⟩, hf, ht⟩ := id hi
  rw [q_mc rfl] at n2 n3
  obtain ⟨b, hb⟩ : ∃ b : Nat → Nat, ∀ i, i < n → b i < 128 ∧ h.1 2 i = nI (b i) ∧ h.1 127 i = nI (b i) := ⟨fun i => (h.1 2 i).toNatClampNeg, fun i hi => by
    obtain ⟨c, c1, c2, c3⟩ := n4 i hi
    rw [q_mc rfl] at c2 c3
    have e : (h.1 2 i).toNatClampNeg = c := by rw [c2, nI_clamp (by omega)]
    refine ⟨?_, ?_, ?_⟩
    · show (h.1 2 i).toNatClampNeg < 128
      omega
    · show h.1 2 i = nI (h.1 2 i).toNatClampNeg
      rw [e]; exact c2
    · show h.1 127 i = nI (h.1 2 i).toNatClampNeg
      rw [e]; exact c3⟩
  have tC : q_tC h.1 b n := ⟨n1, n2, fun i hi => ⟨(hb i hi).1, (hb i hi).2.1⟩⟩
  have tMof : ∀ I : Nat → Nat → Int32, I 122 7 = h.1 122 7 → (∀ i, I 127 i = h.1 127 i) → q_tM I b n := fun I e7 e127 => ⟨n1, e7.trans n3, fun i hi => ⟨(hb i hi).1, (e127 i).trans (hb i hi).2.2⟩⟩
  obtain ⟨h1, a1, a2, a3, a4⟩ := q_cRd tC
  have hc6 := q_tr_c (b := b) (n := n)
  have hwh := q_tz_w (r := q_tr b n)
  have mAll : ∀ {h : z_H}, q_tM h.1 b n → ∃ h' x, z_M 150 [.ref 122] h = zl_M_text_61 x h' ∧ q_mEnd h h' x (q_tr b n) := fun t => q_mRd0 t
  unfold q_mEnd at mAll
  generalize q_tr b n = R at a3 a4 hc6 hwh mAll
  obtain ⟨c, ec⟩ : ∃ c, c = (q_tz R).1 := ⟨_, rfl⟩
  obtain ⟨p, ep⟩ : ∃ p, p = (q_tz R).2 := ⟨_, rfl⟩
  obtain ⟨F, A0, hcl, hml, L⟩ := R
  rw [← ec] at a3 a4 hc6 hwh
  rw [← ep] at a3
  rw [← ec, ← ep] at mAll
  have h30 : h1.1 3 0 = nI c := by
    by_cases q : c = 0
    · rw [(a4 q).1, q]; rfl
    · exact (a3 q).1
  obtain ⟨g1, eg1⟩ : ∃ g1, g1 = z_wI h1 1 0 0 := ⟨_, rfl⟩
  obtain ⟨g2, eg2⟩ : ∃ g2, g2 = z_wI g1 0 10 (nI c) := ⟨_, rfl⟩
  have g130 : g1.1 3 0 = nI c := by rw [eg1, z_wI1, if_neg (by omega)]; exact h30
  have g12 : ∀ o k, ¬ (o = 1 ∧ k = 0) → ¬ (o = 0 ∧ k = 10) → g2.1 o k = h1.1 o k := fun o k q q' => by rw [eg2, z_wI1, if_neg q', eg1, z_wI1, if_neg q]
  have g2h : ∀ o k, ¬ (o = 1 ∧ k ≤ 4) → ¬ (3 ≤ o ∧ o ≤ 16) → ¬ (o = 0 ∧ k = 10) → g2.1 o k = h.1 o k := fun o k q q' q'' => (g12 o k (by omega) q'').trans (a2 o k (by omega) q')
  have g210 : g2.1 1 0 = 0 := by rw [eg2, z_wI1, if_neg (by omega), eg1, z_wI1, if_pos ⟨rfl, rfl⟩]
  have g2010 : g2.1 0 10 = nI c := by rw [eg2, z_wI1, if_pos ⟨rfl, rfl⟩]
  have g230 : g2.1 3 0 = nI c := (g12 _ _ (by omega) (by omega)).trans h30
  by_cases hc : c = 0
  · obtain ⟨_, s1, s2⟩ := a4 hc
    have s1 : q_cS h1.1 A0 hcl hml := s1
    have s2 : h1.1 3 2 = nI L := s2
    have hw : q_wh A0 hcl hml = true := hwh hc
    obtain ⟨A, eA⟩ : ∃ A, A = q_fin A0 := ⟨_, rfl⟩
    have okA : q_ok A := by rw [eA]; exact q_fin_ok s1.1 hw
    have P0 : q_prg h1.1 4 0 A := by rw [eA]; exact q_fin_p (by decide) s1.1 s1.2.1
    have P1 : q_prg h1.1 4 1 A := by rw [eA]; exact q_fin_p (by decide) s1.1 s1.2.1
    have T : q_tst h1.1 12 A := by rw [eA]; exact q_fin_t s1.2.1
    obtain ⟨hA, bA1, bA2, bA3⟩ := q_becP (o := 17) (p := 4) (by decide) g2
    obtain ⟨hB, bB1, bB2, bB3⟩ := q_becP (o := 25) (p := 4) (by decide) hA
    obtain ⟨hC, bC1, bC2, bC3, bC4⟩ := q_becT (o := 33) (p := 12) (by decide) hB
    obtain ⟨hD, eD⟩ : ∃ hD, hD = z_wI (z_wI hC 72 0 0) 93 0 0 := ⟨_, rfl⟩
    have fC : ∀ o k, ¬ (17 ≤ o ∧ o ≤ 36) → hC.1 o k = g2.1 o k := fun o k q => by rw [bC2 o k (by omega), bB2 o k (by omega), bA2 o k (by omega)]
    have fD : ∀ o k, o ≠ 72 → o ≠ 93 → hD.1 o k = hC.1 o k := fun o k q q' => by rw [eD, z_wI1, if_neg (by omega), z_wI1, if_neg (by omega)]
    have fDh : ∀ o k, o ≠ 72 → o ≠ 93 → ¬ (17 ≤ o ∧ o ≤ 36) → ¬ (o = 1 ∧ k ≤ 4) → ¬ (3 ≤ o ∧ o ≤ 16) → ¬ (o = 0 ∧ k = 10) → hD.1 o k = h.1 o k := fun o k q1 q2 q3 q4 q5 q6 => (fD o k q1 q2).trans ((fC o k q3).trans (g2h o k q4 q5 q6))
    have C32 : hC.1 3 2 = nI L := by rw [fC _ _ (by omega), g12 _ _ (by omega) (by omega)]; exact s2
    have E : z_M 2 [.ref 0] h = some (nI L, hD) := by
      rw [e_X_text, a1, z_bd_some, ← eg1, g130, ← eg2, g230, if_pos (show nI c = 0 by rw [hc]; rfl), bA1, z_bd_some, bB1, z_bd_some, bC1, z_bd_some, q_x91, C32, ← eD]
    obtain ⟨k1, x, m1, m2, m3, m4⟩ := mAll (tMof hD.1 (fDh _ _ (by omega) (by omega) (by omega) (by omega) (by omega) (by omega)) (fun i => fDh _ _ (by omega) (by omega) (by omega) (by omega) (by omega) (by omega)))
    obtain ⟨x1, x2, x3⟩ := m4 hc
    have x1 : x = nI L := x1
    have x3 : q_mS k1.1 A0 hcl hml := x3
    obtain ⟨K1, eK1⟩ : ∃ K1, K1 = z_wI k1 122 7 0 := ⟨_, rfl⟩
    have fK1 : ∀ o k, ¬ (o = 122 ∧ k = 7) → K1.1 o k = k1.1 o k := fun o k q => by rw [eK1, z_wI1, if_neg q]
    obtain ⟨k2, r1, r2⟩ := q_m83 (nI L) K1
    obtain ⟨k3, t1, t2, _, t4, t5, t6⟩ := q_keepD k2
    have K12 : K1.1 122 12 = 0 := (fK1 _ _ (by omega)).trans x2
    have E2 : z_M 150 [.ref 122] hD = some (nI L, k3) := by
      rw [m1, e_M_text_61, ← eK1, K12, if_pos (show (0 : Int32) ≤ 0 by decide), x1, r1, t1, z_bd_some]
    have fk2 : ∀ o k, o ≠ 126 → k2.1 o k = K1.1 o k := fun o k q => (r2 o k).trans (if_neg (fun z => q z.1))
    have fk3 : ∀ o k, o ≠ 123 → ¬ (o = 125 ∧ k < 2) → o ≠ 126 → ¬ (o = 122 ∧ 4 ≤ k ∧ k ≤ 13) → k3.1 o k = hD.1 o k := fun o k q1 q2 q3 q4 => by
      rw [t2 o k q1 q2, fk2 o k q3, fK1 o k (by omega), m2 o k (by omega) q3]
    have row : ∀ j, j < 549 → k3.1 123 j = q_v (A j) := fun j hj => by
      rw [t6 j hj, r2]
      by_cases q : 269 ≤ j ∧ j < 525
      · rw [if_pos ⟨rfl, q⟩, fK1 _ _ (by omega), x3.2.1 _ (by omega), eA]
        unfold q_fin
        rw [if_pos q]
      · rw [if_neg (by omega), fK1 _ _ (by omega), x3.2.1 _ hj, eA]
        unfold q_fin
        rw [if_neg q]
    refine ⟨nI L, hD, k3, E, E2, hi.txt (fun o k q => ?_) ?_ ?_ ?_ ?_ ?_ ⟨A, okA, row, ?_, ?_, ?_⟩ (fun k hk => ?_)⟩
    · rw [fk3 o k (by omega) (by omega) (by omega) (by omega), fDh o k (by omega) (by omega) (by omega) (by omega) (by omega) (by omega)]
    · rw [fk3 _ _ (by omega) (by omega) (by omega) (by omega), fDh _ _ (by omega) (by omega) (by omega) (by omega) (by omega) (by omega)]
    · rw [fk3 _ _ (by omega) (by omega) (by omega) (by omega), fDh _ _ (by omega) (by omega) (by omega) (by omega) (by omega) (by omega)]
    · rw [t2 _ _ (by omega) (by omega), fk2 _ _ (by omega), eK1, z_wI1, if_pos ⟨rfl, rfl⟩]
    · rw [fk3 _ _ (by omega) (by omega) (by omega) (by omega), fD _ _ (by omega) (by omega), fC _ _ (by omega)]
      exact g210
    · rw [fk3 _ _ (by omega) (by omega) (by omega) (by omega), fD _ _ (by omega) (by omega), fC _ _ (by omega), g2010, t2 _ _ (by omega) (by omega), fk2 _ _ (by omega), K12, hc]
      rfl
    · refine P0.copy okA (fun j k hj hk => ?_)
      rw [fk3 _ _ (by omega) (by omega) (by omega) (by omega), fD _ _ (by omega) (by omega), bC2 _ _ (by omega), bB2 _ _ (by omega), bA3 j k hj hk, g12 _ _ (by omega) (by omega)]
    · refine P1.copy okA (fun j k hj hk => ?_)
      rw [fk3 _ _ (by omega) (by omega) (by omega) (by omega), fD _ _ (by omega) (by omega), bC2 _ _ (by omega), bB3 j k hj hk, bA2 _ _ (by omega), g12 _ _ (by omega) (by omega)]
    · refine T.copy okA ?_ (fun j k hj0 hj hk => ?_)
      · rw [fk3 _ _ (by omega) (by omega) (by omega) (by omega), fD _ _ (by omega) (by omega), bC3, bB2 _ _ (by omega), bA2 _ _ (by omega), g12 _ _ (by omega) (by omega)]
      · rw [fk3 _ _ (by omega) (by omega) (by omega) (by omega), fD _ _ (by omega) (by omega), bC4 j k hj0 hj hk, bB2 _ _ (by omega), bA2 _ _ (by omega), g12 _ _ (by omega) (by omega)]
    · have h125 : k3.1 125 k = 0 := by
        rcases (show k = 0 ∨ k = 1 by omega) with rfl | rfl
        · exact t4
        · exact t5
      refine ⟨?_, Or.inl h125, fun q => ?_⟩
      · rw [h125, fk3 _ _ (by omega) (by omega) (by omega) (by omega), eD]
        rcases (show k = 0 ∨ k = 1 by omega) with rfl | rfl
        · rw [z_wI1, if_neg (by omega), z_wI1, if_pos ⟨rfl, rfl⟩]
        · rw [z_wI1, if_pos ⟨rfl, rfl⟩]
      · rw [h125] at q
        exact absurd q (by decide)
  · obtain ⟨_, u2⟩ := a3 hc
    have g231 : g2.1 3 1 = nI p := (g12 _ _ (by omega) (by omega)).trans u2
    obtain ⟨k1, x, m1, m2, m3, m4⟩ := mAll (tMof g2.1 (g2h _ _ (by omega) (by omega) (by omega)) (fun i => g2h _ _ (by omega) (by omega) (by omega)))
    have hF := m3 hc
    obtain ⟨K1, eK1⟩ : ∃ K1, K1 = z_wI k1 122 7 0 := ⟨_, rfl⟩
    have fK1 : ∀ o k, ¬ (o = 122 ∧ k = 7) → K1.1 o k = k1.1 o k := fun o k q => by rw [eK1, z_wI1, if_neg q]
    have K12 : K1.1 122 12 = nI c := (fK1 _ _ (by omega)).trans hF.1
    have K13 : K1.1 122 13 = nI p := (fK1 _ _ (by omega)).trans hF.2
    have fK : ∀ o k, o ≠ 126 → ¬ (o = 122 ∧ 4 ≤ k ∧ k ≤ 13) → K1.1 o k = g2.1 o k := fun o k q1 q2 => by
      rw [fK1 o k (by omega), m2 o k (by omega) q1]
    have fh : ∀ o k, o ≠ 126 → o ≠ 122 → ¬ (o = 1 ∧ k ≤ 4) → ¬ (3 ≤ o ∧ o ≤ 16) → ¬ (o = 0 ∧ k = 10) → K1.1 o k = h.1 o k := fun o k q1 q2 q3 q4 q5 => (fK o k q1 (by omega)).trans (g2h o k q3 q4 q5)
    have ha := q_raw ha
    have hg := q_rawI hg
    refine ⟨-10 - nI p, g2, K1, ?_, ?_, hi.txt (fun o k q => fh o k (by omega) (by omega) (by omega) (by omega) (by omega)) (fh _ _ (by omega) (by omega) (by omega) (by omega) (by omega)) ((fK _ _ (by omega) (by omega)).trans (g2h _ _ (by omega) (by omega) (by omega))) ?_ ((fK _ _ (by omega) (by omega)).trans g210) ?_ ⟨a0, ha.congr (fun o k q => fh o k (by omega) (by omega) (by omega) (by omega) (by omega))⟩ (hg.congr (fun o k q => fh o k (by omega) (by omega) (by omega) (by omega) (by omega)))⟩
    · rw [e_X_text, a1, z_bd_some, ← eg1, g130, ← eg2, g230, if_neg (q_nz (by omega) (by omega)), g231]
    · rw [m1, e_M_text_61, ← eK1, K12, if_neg (q_nle (by omega) (by omega)), K13]
    · rw [eK1, z_wI1, if_pos ⟨rfl, rfl⟩]
    · rw [fK _ _ (by omega) (by omega), g2010, K12]
