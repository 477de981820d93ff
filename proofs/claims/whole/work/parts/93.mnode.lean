/-! THE PURE PART: the reference reads a node -/
def q_lv (b : Nat → Nat) (n e : Nat) : Nat → Nat := fun i => q_tv b n (q_tkn b n e i)
section QMB
variable {a : Nat → Nat} {hc hm : Nat} {b : Nat → Nat} {n e s : Nat}
theorem q_mNl {x y J : Nat} (hen : e ≤ n) (hx : x = 1 ∧ y = 0 ∨ x = 2 ∧ y = 1) (hd : q_dk a hc hm) (ha0 : 0 < a 0) (h8 : q_lN a < 8) (eJ : J = q_at 0 (a 0 - 1) (q_lN a)) (hv : q_lv b n e 0 ≤ 9) (hyv : y = 1 → q_lv b n e 0 < 4) : ∀ f k h, k + f = 2 → q_mT h.1 b n (q_tkn b n e (k + 1)) → q_mS h.1 (q_nds a y (q_lv b n e) (k + 1)) hc hm → (∀ i, 1 ≤ i → i ≤ k → q_lv b n e i = 9 ∨ q_lv b n e i < 8) → ∃ h', zl_M_readNode_70 (nI J) (nI k) h = some (0, h') ∧ q_rg h h' ∧ q_mOut b n e a x hc hm h' (q_ga b n e a x f (k + 1)) := by
  have hlst : q_lst x = 1 := by rcases hx with ⟨rfl, rfl⟩ | ⟨rfl, rfl⟩ <;> rfl
  have hout : ∀ m h', q_mS h' (q_nds a y (q_lv b n e) m) hc hm → q_mS h' (q_row a x (fun i => q_tv b n (q_tkn b n e i)) m) (q_hC x (fun i => q_tv b n (q_tkn b n e i)) hc) (q_hM x (fun i => q_tv b n (q_tkn b n e i)) hm) := by
    intro m h' q
    rcases hx with ⟨rfl, rfl⟩ | ⟨rfl, rfl⟩
    · exact q
    · exact q
  have h06 := hd.1.1
  have hb := q_atb (p := 0) (m := a 0 - 1) (i := q_lN a) (by decide) (by omega) h8
  rw [← eJ] at hb
  have stop : ∀ k h, k ≤ 2 → q_mT h.1 b n (q_tkn b n e (k + 1)) → q_mS h.1 (q_nds a y (q_lv b n e) (k + 1)) hc hm → q_mOut b n e a x hc hm h (q_gz b n e (q_lst x) (k + 1)) := by
    intro k h hk ht hs
    by_cases h0 : q_kd b n (q_tkn b n e (k + 1)) = 0
    · have ez : q_gz b n e (q_lst x) (k + 1) = (1, k + 1) := by unfold q_gz; rw [if_pos h0]
      rw [ez]
      exact Or.inl ⟨by show ¬ 1 = 0; omega, by show 1 ≤ 3; omega, ht.2.2 h0⟩
    · exact Or.inr ⟨k + 1, q_gz1 h0 (by omega), ht, h0, fun _ => hout _ _ hs⟩
  intro f
  induction f with
  | zero =>
    intro k h hk ht hs hV
    refine ⟨h, ?_, fun _ _ _ _ => rfl, stop k h (by omega) ht hs⟩
    rw [e_M_readNode_70, if_pos (show (2 : Int32) ≤ nI k from nI_le (a := 2) (by omega) (by omega))]
  | succ f ih =>
    intro k h hk ht hs hV
    have hkd := q_kd4 b n (q_tkn b n e (k + 1))
    have hk2 : ¬ (2 : Int32) ≤ nI k := nI_ge (b := 2) (by omega) (by decide)
    by_cases h0 : q_kd b n (q_tkn b n e (k + 1)) = 0
    · refine ⟨h, ?_, fun _ _ _ _ => rfl, ?_⟩
      · rw [e_M_readNode_70, if_neg hk2, (ht.2.2 h0).1, if_pos (by decide)]
      · have ez : q_ga b n e a x (f + 1) (k + 1) = (1, k + 1) := by unfold q_ga; rw [if_pos h0]
        rw [ez]
        exact Or.inl ⟨by show ¬ 1 = 0; omega, by show 1 ≤ 3; omega, ht.2.2 h0⟩
    obtain ⟨t1, t2, t3, t4, t5⟩ := ht.2.1 h0
    by_cases h2 : q_kd b n (q_tkn b n e (k + 1)) = 2
    · have hle := q_tkn_le (b := b) hen (k + 1)
      have hask : q_mAsk a x (k + 1) 0 7 9 := by rcases hx with ⟨rfl, rfl⟩ | ⟨rfl, rfl⟩ <;> exact ⟨rfl, rfl, rfl⟩
      obtain ⟨v, g, b1, b2, b3, b4⟩ := q_mStep (a := a) (x := x) (j := k + 1) hle.2 ht (by omega) hd.1.2.1 hask
      obtain ⟨i1, i2, i3, i4, i5⟩ := q_nds_dk (V := q_lv b n e) (y := y) hd ha0 h8 (by omega) hv hyv k (by omega) hV
      obtain ⟨A, eA⟩ : ∃ A, A = q_nds a y (q_lv b n e) (k + 1) := ⟨_, rfl⟩
      rw [← eA] at i1 i2 i3 i4 i5 hs
      rw [← eJ] at i4 i5
      have hV900 : v < 900 := by
        by_cases hn : q_nc b n a x (k + 1) (q_tkn b n e (k + 1)) = 0
        · have c2 := (b3 hn).2.1
          rcases hx with ⟨rfl, rfl⟩ | ⟨rfl, rfl⟩
          · unfold q_wi at c2
            simp only [show ¬ k + 1 = 0 by omega, if_false, Bool.or_eq_true, decide_eq_true_eq] at c2
            omega
          · unfold q_wi at c2
            simp only [show ¬ k + 1 = 0 by omega, if_false, Bool.or_eq_true, decide_eq_true_eq] at c2
            omega
        · have := (b4 hn).1
          omega
      obtain ⟨g1, eg1⟩ : ∃ g1, g1 = z_wI g 126 (J + 3 + k) (nI v) := ⟨_, rfl⟩
      obtain ⟨g2, eg2⟩ : ∃ g2, g2 = z_wI g1 126 (J + 2) (nI (k + 1)) := ⟨_, rfl⟩
      have r2 : ∀ o k, o ≠ 126 → g2.1 o k = g.1 o k := fun o k q => by rw [eg2, z_wI1, if_neg (by omega), eg1, z_wI1, if_neg (by omega)]
      have hgs := hs.rf b2
      have w2 : g1.1 126 (J + 2) = nI k := by
        rw [eg1, z_wI1, if_neg (by omega), hgs.2.1 _ (by omega), i5, q_vn (by omega)]
      have E : zl_M_readNode_70 (nI J) (nI k) h = zl_M_readNode_70 (nI J) (nI (k + 1)) g2 := by
        have e3 : nI J + 3 + nI k = nI (J + 3 + k) := by rw [n_3, nI_add, nI_add]
        have e2 : nI J + 2 = nI (J + 2) := by rw [n_2, nI_add]
        rw [e_M_readNode_70, if_neg hk2, t1, if_neg (show ¬ ¬ (0 : Int32) = 0 from fun q => q rfl), t4, if_neg (show ¬ ¬ nI (q_kd b n (q_tkn b n e (k + 1)) % 4) = 2 from fun q => q (by rw [h2]; rfl)), b1, z_bd_some, e3, e2, q_inC (show J + 3 + k < 549 by omega) (by decide), q_inC (show J + 2 < 549 by omega) (by decide), q_inC (show J + 2 < 549 by omega) (by decide), nI_clamp (show J + 3 + k < 2 ^ 31 by omega), nI_clamp (show J + 2 < 2 ^ 31 by omega), ← eg1, w2, nI_1, ← eg2]
      rw [E, q_ga_nc]
      by_cases hn : q_nc b n a x (k + 1) (q_tkn b n e (k + 1)) = 0
      · obtain ⟨c1, c2, c3⟩ := b3 hn
        have hV' : ∀ i, 1 ≤ i → i ≤ k + 1 → q_lv b n e i = 9 ∨ q_lv b n e i < 8 := by
          intro i h1 h3
          by_cases q : i = k + 1
          · have hvv : q_lv b n e i = v := by rw [q]; exact c1.symm
            rw [hvv]
            rcases hx with ⟨rfl, rfl⟩ | ⟨rfl, rfl⟩
            · unfold q_wi at c2
              simp only [show ¬ k + 1 = 0 by omega, if_false, Bool.or_eq_true, decide_eq_true_eq] at c2
              omega
            · unfold q_wi at c2
              simp only [show ¬ k + 1 = 0 by omega, if_false, Bool.or_eq_true, decide_eq_true_eq] at c2
              omega
          · exact hV i h1 (by omega)
        have eN : q_nds a y (q_lv b n e) (k + 1 + 1) = q_s1 (q_s1 A (J + 3 + k) v) (J + 2) (k + 1) := by
          show (if k + 1 = 0 then _ else q_rN (q_nds a y (q_lv b n e) (k + 1)) (q_lv b n e (k + 1))) = _
          have hvv : q_lv b n e (k + 1) = v := c1.symm
          rw [if_neg (by omega), hvv, ← eA]
          unfold q_rN
          rw [i4, i5]
        have hS2 : q_mS g2.1 (q_nds a y (q_lv b n e) (k + 1 + 1)) hc hm := by
          refine ⟨(q_nds_dk (V := q_lv b n e) (y := y) hd ha0 h8 (by omega) hv hyv (k + 1) (by omega) hV').1, ?_, (r2 _ _ (by omega)).trans hgs.2.2.1, (r2 _ _ (by omega)).trans hgs.2.2.2⟩
          rw [eN, eg2, eg1]
          exact q_st1 (q_st1 hgs.2.1 hV900) (by omega)
        obtain ⟨h', d1, d2, d3⟩ := ih (k + 1) g2 (by omega) (c3.k (fun o k q _ => r2 o k q)) hS2 hV'
        rw [if_pos hn]
        exact ⟨h', d1, fun o k q q' => (d2 o k q q').trans ((r2 o k q').trans (b2 o k (by omega))), d3⟩
      · obtain ⟨c1, c2⟩ := b4 hn
        rw [if_neg hn, if_pos (Or.inr h2)]
        refine ⟨g2, ?_, fun o k q q' => (r2 o k q').trans (b2 o k (by omega)), Or.inl ⟨hn, q_nc3, c2.k (fun o k q _ => r2 o k q)⟩⟩
        have g12 := (c2.k (h1 := g2) (fun o k q _ => r2 o k q)).1
        have h3 := q_nc3 (b := b) (n := n) (a := a) (x := x) (j := k + 1) (s := q_tkn b n e (k + 1))
        rw [e_M_readNode_70]
        by_cases hq : (2 : Int32) ≤ nI (k + 1)
        · rw [if_pos hq]
        · rw [if_neg hq, g12, if_pos (q_nz (by omega) (by omega))]
    · refine ⟨h, ?_, fun _ _ _ _ => rfl, ?_⟩
      · have hn : ¬ nI (q_kd b n (q_tkn b n e (k + 1)) % 4) = 2 := fun q => by
          have := (nI_eq (b := 2) (by omega) (by decide)).mp q
          omega
        rw [e_M_readNode_70, if_neg hk2, t1, if_neg (show ¬ ¬ (0 : Int32) = 0 from fun q => q rfl), t4, if_pos hn]
      · have ez : q_ga b n e a x (f + 1) (k + 1) = q_gz b n e (q_lst x) (k + 1) := by
          show (if _ then _ else if _ then _ else _) = _
          rw [if_neg h0, if_neg h2]
        rw [ez]
        exact stop k h (by omega) ht hs
theorem q_mLN {h : z_H} {x y : Nat} (hen : e ≤ n) (hx : x = 1 ∧ y = 0 ∨ x = 2 ∧ y = 1) (ht : q_mT h.1 b n (q_tkn b n e 0)) (hs : q_mS h.1 a hc hm) (h0 : 0 < a 0) (h8 : q_lN a < 8) : ∃ h', z_M 142 [.ref 122, .int (nI y)] h = some (0, h') ∧ q_rg h h' ∧ q_mOut b n e a x hc hm h' (q_ga b n e a x (q_mst x) 0) := by
  have hd := hs.1
  have h06 := hd.1.1
  have ha := hd.1.2.1
  obtain ⟨J, eJ⟩ : ∃ J, J = q_at 0 (a 0 - 1) (q_lN a) := ⟨_, rfl⟩
  have hb := q_atb (p := 0) (m := a 0 - 1) (i := q_lN a) (by decide) (by omega) h8
  rw [← eJ] at hb
  have g0 : h.1 126 0 = nI (a 0) := (hs.2.1 0 (by omega)).trans (q_vn (by omega))
  have eN : q_lN a = a (7 + (a 0 - 1)) := rfl
  have g7 : h.1 126 (7 + (a 0 - 1)) = nI (q_lN a) := (hs.2.1 _ (by omega)).trans (q_vn (by omega))
  obtain ⟨k1, ek1⟩ : ∃ k1, k1 = z_wI h 126 (7 + (a 0 - 1)) (nI (q_lN a + 1)) := ⟨_, rfl⟩
  obtain ⟨k2, ek2⟩ : ∃ k2, k2 = z_wI k1 126 J (nI y) := ⟨_, rfl⟩
  have r2 : ∀ o k, o ≠ 126 → k2.1 o k = h.1 o k := fun o k q => by rw [ek2, z_wI1, if_neg (by omega), ek1, z_wI1, if_neg (by omega)]
  have hmst : q_mst x = 2 + 1 ∧ q_lst x = 1 := by rcases hx with ⟨rfl, rfl⟩ | ⟨rfl, rfl⟩ <;> exact ⟨rfl, rfl⟩
  have hle := q_tkn_le (b := b) hen 0
  have ht2 : q_mT k2.1 b n (q_tkn b n e 0) := ht.k (fun o k q _ => r2 o k q)
  have step : ∃ v g, (∀ F : Int32 → z_H → Option z_A, (if ¬ nI y = 0 then z_bd (z_M 140 [.ref 122, .int 0, .int 3, .int (-4)] k2) F else z_bd (z_M 140 [.ref 122, .int 0, .int 9, .int (-4)] k2) F) = F (nI v) g) ∧ q_rf k2 g ∧ (q_nc b n a x 0 (q_tkn b n e 0) = 0 → v = q_tv b n (q_tkn b n e 0) ∧ q_wi a x 0 v = true ∧ q_mT g.1 b n (q_ts b n (q_te b n (q_tkn b n e 0)))) ∧ (¬ q_nc b n a x 0 (q_tkn b n e 0) = 0 → v = 0 ∧ q_mF g.1 (q_nc b n a x 0 (q_tkn b n e 0)) (q_tkn b n e 0)) := by
    rcases hx with ⟨rfl, rfl⟩ | ⟨rfl, rfl⟩
    · obtain ⟨v, g, b1, b2, b3, b4⟩ := q_mStep (a := a) (x := 1) (j := 0) (x1 := 0) (x2 := 9) (x3 := -4) hle.2 ht2 (by decide) ha ⟨rfl, rfl, rfl⟩
      exact ⟨v, g, fun F => by rw [if_neg (show ¬ ¬ nI 0 = 0 from fun q => q rfl), b1, z_bd_some], b2, b3, b4⟩
    · obtain ⟨v, g, b1, b2, b3, b4⟩ := q_mStep (a := a) (x := 2) (j := 0) (x1 := 0) (x2 := 3) (x3 := -4) hle.2 ht2 (by decide) ha ⟨rfl, rfl, rfl⟩
      exact ⟨v, g, fun F => by rw [if_pos (show ¬ nI 1 = 0 by decide), b1, z_bd_some], b2, b3, b4⟩
  obtain ⟨v, g, b1, b2, b3, b4⟩ := step
  obtain ⟨k3, ek3⟩ : ∃ k3, k3 = z_wI g 126 (J + 1) (nI v) := ⟨_, rfl⟩
  have r3 : ∀ o k, o ≠ 126 → k3.1 o k = g.1 o k := fun o k q => by rw [ek3, z_wI1, if_neg (by omega)]
  have E : z_M 142 [.ref 122, .int (nI y)] h = zl_M_readNode_70 (nI J) (nI 0) k3 := by
    have s0 : nI (a 0) - 1 = nI (a 0 - 1) := by rw [n_1, q_sub h0]
    have e7 : (7 : Int32) + nI (a 0 - 1) = nI (7 + (a 0 - 1)) := by rw [n_7, nI_add]
    have eJ0 : nI J + 0 = nI J := by rw [n_0, nI_add]; rfl
    have i7 : 7 + (a 0 - 1) < 549 := by omega
    rw [e_M_readNode, e_M_methodNow, z_bd_some, g0, s0, e7, q_inC i7 (by decide), nI_clamp (show 7 + (a 0 - 1) < 2 ^ 31 by omega), g7, q_nodeAt0, z_bd_some, q_inC i7 (by decide), q_inC i7 (by decide), ← eJ, eJ0, q_inC (show J < 549 by omega) (by decide), nI_clamp (show J < 2 ^ 31 by omega), g7, nI_1, ← ek1, ← ek2, b1]
    rw [nI_1, q_inC (show J + 1 < 549 by omega) (by decide), nI_clamp (show J + 1 < 2 ^ 31 by omega), ← ek3]
    rfl
  rw [E, hmst.1, q_ga_nc]
  by_cases hn : q_nc b n a x 0 (q_tkn b n e 0) = 0
  · obtain ⟨c1, c2, c3⟩ := b3 hn
    rw [if_pos hn]
    have hvv : q_lv b n e 0 = v := c1.symm
    have hv9 : v ≤ 9 ∧ (y = 1 → v < 4) := by
      rcases hx with ⟨rfl, rfl⟩ | ⟨rfl, rfl⟩
      · unfold q_wi at c2
        simp at c2
        exact ⟨c2, fun q => by cases q⟩
      · unfold q_wi at c2
        simp at c2
        exact ⟨by omega, fun _ => c2⟩
    have hS : q_mS k3.1 (q_nds a y (q_lv b n e) (0 + 1)) hc hm := by
      have e1 : q_nds a y (q_lv b n e) (0 + 1) = q_s1 (q_s1 (q_s1 a (7 + (a 0 - 1)) (q_lN a + 1)) J y) (J + 1) v := by
        show q_rB a y (q_lv b n e 0) = _
        unfold q_rB
        rw [hvv, ← eJ]
      refine ⟨(q_nds_dk (V := q_lv b n e) (y := y) hd h0 h8 (by omega) (by omega) (fun q => by rw [hvv]; exact hv9.2 q) 0 (by decide) (fun i h1 h2 => by omega)).1, ?_, ?_, ?_⟩
      · rw [e1, ek3]
        refine q_st1 (fun j hj => (b2 _ _ (by omega)).trans ?_) (by omega)
        rw [ek2, ek1]
        exact q_st1 (q_st1 hs.2.1 (by omega)) (by omega) j hj
      · rw [r3 _ _ (by omega), b2 _ _ (by omega), r2 _ _ (by omega)]; exact hs.2.2.1
      · rw [r3 _ _ (by omega), b2 _ _ (by omega), r2 _ _ (by omega)]; exact hs.2.2.2
    obtain ⟨h', d1, d2, d3⟩ := q_mNl (x := x) hen hx hd h0 h8 eJ (by omega) (fun q => by rw [hvv]; exact hv9.2 q) 2 0 k3 rfl (show q_mT k3.1 b n (q_tkn b n e 1) from q_mT.k (h := g) c3 (fun o k q _ => r3 o k q)) hS (fun i h1 h2 => by omega)
    exact ⟨h', d1, fun o k q q' => (d2 o k q q').trans ((r3 o k q').trans ((b2 o k (by omega)).trans (r2 o k q'))), d3⟩
  · obtain ⟨c1, c2⟩ := b4 hn
    have h3 := q_nc3 (b := b) (n := n) (a := a) (x := x) (j := 0) (s := q_tkn b n e 0)
    have c2' := c2.k (h1 := k3) (fun o k q _ => r3 o k q)
    rw [if_neg hn]
    refine ⟨k3, ?_, fun o k q q' => (r3 o k q').trans ((b2 o k (by omega)).trans (r2 o k q')), Or.inl ?_⟩
    · rw [e_M_readNode_70, if_neg (show ¬ (2 : Int32) ≤ nI 0 by decide), c2'.1, if_pos (q_nz (by omega) (by omega))]
    · by_cases hk2 : q_kd b n (q_tkn b n e 0) = 0 ∨ q_kd b n (q_tkn b n e 0) = 2
      · rw [if_pos hk2]
        exact ⟨hn, q_nc3, c2'⟩
      · rw [if_neg hk2]
        have e2 : q_nc b n a x 0 (q_tkn b n e 0) = 2 := by
          unfold q_nc
          rw [if_neg (by omega), if_neg (by omega)]
        have ez : q_gz b n e (q_lst x) 0 = (2, 0) := by
          unfold q_gz
          rw [if_neg (by omega), if_pos (by omega)]
        rw [ez]
        rw [e2] at c2'
        exact ⟨by show ¬ 2 = 0; omega, by show 2 ≤ 3; omega, c2'⟩
theorem q_mLO {h : z_H} {x : Nat} (hen : e ≤ n) (hx : x ≤ 5) (ht : q_mT h.1 b n (q_tkn b n e 0)) (h0 : ¬ q_kd b n (q_tkn b n e 0) = 0) (hs : q_mS h.1 a hc hm) (hr : q_rm a x = true) : ∃ h', z_M 147 [.ref 122, .int (nI x)] h = some (0, h') ∧ q_rg h h' ∧ q_mOut b n e a x hc hm h' (q_ga b n e a x (q_mst x) 0) := by
  rcases (show x = 0 ∨ x = 1 ∨ x = 2 ∨ x = 3 ∨ x = 4 ∨ x = 5 by omega) with rfl | rfl | rfl | rfl | rfl | rfl
  · exact q_mL0 ht h0 hs hr
  · have hr : (decide (0 < a 0) && decide (q_lN a < 8)) = true := hr
    simp only [Bool.and_eq_true, decide_eq_true_eq] at hr
    obtain ⟨h', b1, b2, b3⟩ := q_mLN (x := 1) (y := 0) hen (Or.inl ⟨rfl, rfl⟩) ht hs hr.1 hr.2
    refine ⟨h', ?_, b2, b3⟩
    rw [e_M_readLineOf, if_neg (show ¬ nI 1 = 0 by decide), if_pos (show nI 1 = 1 from rfl), show nI 1 - 1 = nI 0 from rfl, b1, z_bd_some]
  · have hr : (decide (0 < a 0) && decide (q_lN a < 8)) = true := hr
    simp only [Bool.and_eq_true, decide_eq_true_eq] at hr
    obtain ⟨h', b1, b2, b3⟩ := q_mLN (x := 2) (y := 1) hen (Or.inr ⟨rfl, rfl⟩) ht hs hr.1 hr.2
    refine ⟨h', ?_, b2, b3⟩
    rw [e_M_readLineOf, if_neg (show ¬ nI 2 = 0 by decide), if_neg (show ¬ nI 2 = 1 by decide), if_pos (show nI 2 = 2 from rfl), show nI 2 - 1 = nI 1 from rfl, b1, z_bd_some]
  · exact q_mL3 hen ht h0 hs hr
  · exact q_mL4 hen ht hs
  · exact q_mL5 hen ht hs hr
end QMB
