/-! THE PURE PART: the first draft, the draft kept, the first picture -/
theorem q_itP {w : Nat → z_H → z_H} {P : Nat → Nat → Nat → Prop} {v : Nat → Nat → Int32} (hw : ∀ i h, (∀ o k, P i o k → (w i h).1 o k = v o k) ∧ (∀ o k, ¬ P i o k → (w i h).1 o k = h.1 o k) ∧ (w i h).2 = h.2) : ∀ n i h, (∀ o k, (∃ j, i ≤ j ∧ j < i + n ∧ P j o k) → (q_it w i n h).1 o k = v o k) ∧ (∀ o k, (∀ j, i ≤ j → j < i + n → ¬ P j o k) → (q_it w i n h).1 o k = h.1 o k) ∧ (q_it w i n h).2 = h.2 := by
  intro n
  induction n with
  | zero => intro i h; exact ⟨fun o k ⟨j, h1, h2, _⟩ => absurd h2 (by omega), fun o k _ => rfl, rfl⟩
  | succ n ih =>
    intro i h
    obtain ⟨a1, a2, a3⟩ := ih (i + 1) (w i h)
    obtain ⟨b1, b2, b3⟩ := hw i h
    refine ⟨fun o k hj => ?_, fun o k hj => ?_, a3.trans b3⟩
    · by_cases hr : ∃ j, i + 1 ≤ j ∧ j < i + 1 + n ∧ P j o k
      · exact a1 o k hr
      · obtain ⟨j, j1, j2, j3⟩ := hj
        have hji : j = i := by
          apply Decidable.byContradiction
          intro hne
          exact hr ⟨j, by omega, by omega, j3⟩
        subst hji
        exact (a2 o k (fun j' k1 k2 q => hr ⟨j', k1, k2, q⟩)).trans (b1 o k j3)
    · exact (a2 o k (fun j' k1 k2 => hj j' (by omega) (by omega))).trans (b2 o k (hj i (by omega) (by omega)))
def q_a0 (j : Nat) : Nat := bif (Nat.ble 253 j && Nat.blt j 269) || (Nat.ble 509 j && Nat.blt j 525) then 999 else 0
theorem q_a0_in {j : Nat} (h : (253 ≤ j ∧ j < 269) ∨ (509 ≤ j ∧ j < 525)) : q_a0 j = 999 := by
  unfold q_a0
  rcases h with ⟨h1, h2⟩ | ⟨h1, h2⟩
  · rw [Nat.ble_eq_true_of_le h1, show Nat.blt j 269 = true from Nat.ble_eq_true_of_le h2]
    rfl
  · rw [Nat.ble_eq_true_of_le h1, show Nat.blt j 525 = true from Nat.ble_eq_true_of_le h2, Bool.and_self, Bool.or_true]
    rfl
theorem q_a0_out {j : Nat} (h1 : ¬ (253 ≤ j ∧ j < 269)) (h2 : ¬ (509 ≤ j ∧ j < 525)) : q_a0 j = 0 := by
  unfold q_a0
  cases hb : ((Nat.ble 253 j && Nat.blt j 269) || (Nat.ble 509 j && Nat.blt j 525)) with
  | false => rfl
  | true =>
    exfalso
    rw [Bool.or_eq_true, Bool.and_eq_true, Bool.and_eq_true] at hb
    rcases hb with hb | hb
    · exact h1 ⟨Nat.le_of_ble_eq_true hb.1, Nat.le_of_ble_eq_true hb.2⟩
    · exact h2 ⟨Nat.le_of_ble_eq_true hb.1, Nat.le_of_ble_eq_true hb.2⟩
def q_d3 (p c : Nat) (h : z_H) : z_H := q_it (fun n h => z_wI h 126 (253 + 256 * p + 4 * c + n) (-4)) 0 4 h
def q_d2 (p : Nat) (h : z_H) : z_H := q_it (fun c h => q_d3 p c h) 0 4 h
theorem q_draft3 {p c : Nat} (hp : p < 2) (hc : c < 4) (h : z_H) : zl_M_firstDraft_38 (nI p) (nI c) 0 h = zl_M_firstDraft_31 (nI p) (nI c + 1) (q_d3 p c h) := by
  refine q_loop (L := fun x h => zl_M_firstDraft_38 (nI p) (nI c) x h) (K := fun h => zl_M_firstDraft_31 (nI p) (nI c + 1) h) (N := 4) (fun i h hi => ?_) (fun h => ?_) 4 0 h rfl
  · show zl_M_firstDraft_38 (nI p) (nI c) (nI i) h = _
    rw [e_M_firstDraft_38, n_4, if_neg (nI_ge hi (by decide)), e_M_hasAt, z_bd_some]
    rw [n_13, n_256, n_240, n_4, q_mul, nI_add, nI_add, q_mul, nI_add, nI_add, q_inC (by omega) (by decide), nI_clamp (by omega)]
    rw [show 13 + 256 * p + 240 + 4 * c + i = 253 + 256 * p + 4 * c + i by omega]
  · show zl_M_firstDraft_38 (nI p) (nI c) (nI 4) h = _
    rw [e_M_firstDraft_38, if_pos (by decide)]
theorem q_draft2 {p : Nat} (hp : p < 2) (h : z_H) : zl_M_firstDraft_31 (nI p) 0 h = zl_M_firstDraft_24 (nI p + 1) (q_d2 p h) := by
  refine q_loop (L := fun x h => zl_M_firstDraft_31 (nI p) x h) (K := fun h => zl_M_firstDraft_24 (nI p + 1) h) (N := 4) (fun i h hi => ?_) (fun h => ?_) 4 0 h rfl
  · show zl_M_firstDraft_31 (nI p) (nI i) h = _
    rw [e_M_firstDraft_31, n_4, if_neg (nI_ge hi (by decide))]
    exact q_draft3 hp hi h
  · show zl_M_firstDraft_31 (nI p) (nI 4) h = _
    rw [e_M_firstDraft_31, if_pos (by decide)]
theorem q_draft1 (h : z_H) : zl_M_firstDraft_24 0 h = some (0, z_wI (z_wI (q_it q_d2 0 2 h) 122 4 (-1)) 122 5 (-1)) := by
  refine q_loop (L := zl_M_firstDraft_24) (K := fun h => some (0, z_wI (z_wI h 122 4 (-1)) 122 5 (-1))) (N := 2) (fun i h hi => ?_) (fun h => ?_) 2 0 h rfl
  · rw [e_M_firstDraft_24, n_2, if_neg (nI_ge hi (by decide))]
    exact q_draft2 hi h
  · rw [e_M_firstDraft_24, if_pos (by decide)]
theorem q_d3_at (p c : Nat) (h : z_H) : (∀ o k, (o = 126 ∧ 253 + 256 * p + 4 * c ≤ k ∧ k < 253 + 256 * p + 4 * c + 4) → (q_d3 p c h).1 o k = -4) ∧ (∀ o k, ¬ (o = 126 ∧ 253 + 256 * p + 4 * c ≤ k ∧ k < 253 + 256 * p + 4 * c + 4) → (q_d3 p c h).1 o k = h.1 o k) ∧ (q_d3 p c h).2 = h.2 := by
  obtain ⟨h1, h2⟩ := q_fill (o := 126) (c := 253 + 256 * p + 4 * c) (v := fun _ => -4) 4 0 h
  refine ⟨fun o k hk => (h1 o k).trans (if_pos (by omega)), fun o k hk => (h1 o k).trans (if_neg (by omega)), h2⟩
theorem q_d2_at (p : Nat) (h : z_H) : (∀ o k, (o = 126 ∧ 253 + 256 * p ≤ k ∧ k < 253 + 256 * p + 16) → (q_d2 p h).1 o k = -4) ∧ (∀ o k, ¬ (o = 126 ∧ 253 + 256 * p ≤ k ∧ k < 253 + 256 * p + 16) → (q_d2 p h).1 o k = h.1 o k) ∧ (q_d2 p h).2 = h.2 := by
  obtain ⟨h1, h2, h3⟩ := q_itP (v := fun _ _ => -4) (fun c h => q_d3_at p c h) 4 0 h
  refine ⟨fun o k hk => h1 o k ⟨(k - (253 + 256 * p)) / 4, by omega, by omega, hk.1, by omega, by omega⟩, fun o k hk => h2 o k (fun j j1 j2 q => hk ⟨q.1, by omega, by omega⟩), h3⟩
theorem q_draft (h : z_H) : ∃ h', z_M 131 [.ref 122] h = some (0, h') ∧ (∀ o k, o ≠ 126 → ¬ (o = 122 ∧ (k = 4 ∨ k = 5)) → h'.1 o k = h.1 o k) ∧ h'.2 = h.2 ∧ h'.1 122 4 = -1 ∧ h'.1 122 5 = -1 ∧ ∀ j, j < 549 → h'.1 126 j = q_v (q_a0 j) := by
  have s1 := q_loop (L := zl_M_firstDraft_2) (K := fun h => zl_M_firstDraft_24 0 h) (w := fun i h => z_wI h 126 (0 + i) 0) (N := 549) (fun i h hi => by
    rw [e_M_firstDraft_2, n_549, if_neg (nI_ge hi (by decide)), q_inC hi (by decide), nI_clamp (by omega), Nat.zero_add]) (fun h => by rw [e_M_firstDraft_2, if_pos (by decide)]) 549 0 h rfl
  refine ⟨_, (e_M_firstDraft h).trans (s1.trans (q_draft1 _)), ?_⟩
  obtain ⟨f1, f2⟩ := q_fill (o := 126) (c := 0) (v := fun _ => 0) 549 0 h
  generalize q_it (fun i h => z_wI h 126 (0 + i) 0) 0 549 h = h1 at f1 f2
  obtain ⟨g1, g2, g3⟩ := q_itP (v := fun _ _ => -4) (fun p h => q_d2_at p h) 2 0 h1
  generalize q_it q_d2 0 2 h1 = h2 at g1 g2 g3
  refine ⟨fun o k ho hk => ?_, g3.trans f2, ?_, ?_, fun j hj => ?_⟩
  · rw [z_wI1, if_neg (by omega), z_wI1, if_neg (by omega), g2 o k (fun j _ _ q => ho q.1), f1, if_neg (fun q => ho q.1)]
  · rw [z_wI1, if_neg (by omega), z_wI1, if_pos ⟨rfl, rfl⟩]
  · rw [z_wI1, if_pos ⟨rfl, rfl⟩]
  · rw [z_wI1, if_neg (by omega), z_wI1, if_neg (by omega)]
    by_cases hr : (253 ≤ j ∧ j < 269) ∨ (509 ≤ j ∧ j < 525)
    · rw [q_a0_in hr]
      refine g1 126 j ?_
      rcases hr with hr | hr
      · exact ⟨0, by omega, by omega, rfl, by omega, by omega⟩
      · exact ⟨1, by omega, by omega, rfl, by omega, by omega⟩
    · rw [q_a0_out (by omega) (by omega), g2 126 j (fun p p1 p2 q => by
        obtain ⟨-, q1, q2⟩ := q
        rcases (show p = 0 ∨ p = 1 by omega) with rfl | rfl <;> omega), f1, if_pos (by omega)]
      rfl
theorem q_keepD (h : z_H) : ∃ h', z_M 132 [.ref 122] h = some (0, h') ∧ (∀ o k, o ≠ 123 → ¬ (o = 125 ∧ k < 2) → h'.1 o k = h.1 o k) ∧ h'.2 = h.2 ∧ h'.1 125 0 = 0 ∧ h'.1 125 1 = 0 ∧ ∀ j, j < 549 → h'.1 123 j = h.1 126 j := by
  have s1 := q_loop (L := zl_M_keepDraft_2) (K := fun h => some (0, z_wI (z_wI h 125 0 0) 125 1 0)) (w := fun i h => z_wI h 123 (0 + i) (h.1 126 (0 + i))) (N := 549) (fun i h hi => by
    rw [e_M_keepDraft_2, n_549, if_neg (nI_ge hi (by decide)), q_inC hi (by decide), q_inC hi (by decide), nI_clamp (by omega), Nat.zero_add]) (fun h => by rw [e_M_keepDraft_2, if_pos (by decide)]) 549 0 h rfl
  refine ⟨_, (e_M_keepDraft h).trans s1, ?_⟩
  obtain ⟨f1, f2⟩ := q_copy (o := 123) (c := 0) (o2 := 126) (d := 0) (N := 549) (fun i j _ _ q => absurd q.1 (by decide)) 549 0 h (by omega)
  generalize q_it (fun i h => z_wI h 123 (0 + i) (h.1 126 (0 + i))) 0 549 h = h1 at f1 f2
  refine ⟨fun o k ho hk => ?_, f2, ?_, ?_, fun j hj => ?_⟩
  · rw [z_wI1, if_neg (by omega), z_wI1, if_neg (by omega), f1, if_neg (fun q => ho q.1)]
  · rw [z_wI1, if_neg (by omega), z_wI1, if_pos ⟨rfl, rfl⟩]
  · rw [z_wI1, if_pos ⟨rfl, rfl⟩]
  · rw [z_wI1, if_neg (by omega), z_wI1, if_neg (by omega), f1, if_pos (by omega), Nat.zero_add, Nat.sub_zero]
theorem q_mc {I : Nat → Nat → Int32} {o k : Nat} (h : q_core o k = true) : q_m I o k = I o k := by
  unfold q_m
  rw [h]
  rfl
theorem q_init : ∃ h2 h3, z_M 131 [.ref 122] y_h1 = some (0, h2) ∧ z_M 132 [.ref 122] h2 = some (0, h3) ∧ q_inv h3 := by
  obtain ⟨h2, d1, d2, d3, d4, d5, d6⟩ := q_draft y_h1
  obtain ⟨h3, k1, k2, k3, k4, k5, k6⟩ := q_keepD h2
  refine ⟨h2, h3, d1, k1, ?_⟩
  have z : ∀ o k, o ≠ 122 → o ≠ 123 → o ≠ 125 → o ≠ 126 → o ≠ 137 → h3.1 o k = 0 := fun o k n1 n2 n3 n4 n5 => by
    rw [k2 o k n2 (fun q => n3 q.1), d2 o k n4 (fun q => n1 q.1)]
    show (bif Nat.beq o 137 then (-4 : Int32) else 0) = 0
    rw [z_beqF n5]
    rfl
  have zm : ∀ k, k ≠ 4 → k ≠ 5 → h3.1 122 k = 0 := fun k n1 n2 => by
    rw [k2 122 k (by decide) (by omega), d2 122 k (by decide) (by omega)]
    rfl
  refine ⟨⟨q_a0, ⟨by decide, by decide, by decide, fun m hm => absurd hm (by show ¬ m < 0; omega), fun p m i _ hm => absurd hm (by show ¬ m < 0; omega), fun c hc => absurd hc (by show ¬ c < 0; omega), fun p c n _ hc => absurd hc (by show ¬ c < 0; omega), fun t ht => absurd ht (by show ¬ t < 0; omega)⟩, fun j hj => ?_, ⟨?_, ?_, fun m hm => absurd hm (by show ¬ m < 0; omega), fun m i hm => absurd hm (by show ¬ m < 0; omega), fun c hc => absurd hc (by show ¬ c < 0; omega), fun c n hc => absurd hc (by show ¬ c < 0; omega)⟩, ⟨?_, ?_, fun m hm => absurd hm (by show ¬ m < 0; omega), fun m i hm => absurd hm (by show ¬ m < 0; omega), fun c hc => absurd hc (by show ¬ c < 0; omega), fun c n hc => absurd hc (by show ¬ c < 0; omega)⟩, ?_, fun t ht => absurd ht (by show ¬ t < 0; omega)⟩, fun k hk => ?_, fun k hk => ?_, ⟨0, by omega, ?_, ?_, fun i hi => absurd hi (by omega)⟩, ?_, ?_⟩
  · rw [q_mc rfl, k6 j hj, d6 j hj]
  · exact (q_mc rfl).trans (z 17 0 (by decide) (by decide) (by decide) (by decide) (by decide))
  · exact (q_mc rfl).trans (z 17 1 (by decide) (by decide) (by decide) (by decide) (by decide))
  · exact (q_mc rfl).trans (z 25 0 (by decide) (by decide) (by decide) (by decide) (by decide))
  · exact (q_mc rfl).trans (z 25 1 (by decide) (by decide) (by decide) (by decide) (by decide))
  · exact (q_mc rfl).trans (z 33 0 (by decide) (by decide) (by decide) (by decide) (by decide))
  · have h125 : q_m h3.1 125 k = 0 := by
      rw [q_mc rfl]
      rcases (show k = 0 ∨ k = 1 by omega) with rfl | rfl
      · exact k4
      · exact k5
    refine ⟨?_, Or.inl h125, fun q => ?_⟩
    · rw [h125]
      rcases (show k = 0 ∨ k = 1 by omega) with rfl | rfl
      · exact (q_mc rfl).trans (z 72 0 (by decide) (by decide) (by decide) (by decide) (by decide))
      · exact (q_mc rfl).trans (z 93 0 (by decide) (by decide) (by decide) (by decide) (by decide))
    · rw [h125] at q
      exact absurd q (by decide)
  · refine Or.inl ⟨?_, ?_⟩
    · rcases (show k = 0 ∨ k = 1 ∨ k = 2 ∨ k = 3 by omega) with rfl | rfl | rfl | rfl
      · exact (q_mc rfl).trans (z 114 0 (by decide) (by decide) (by decide) (by decide) (by decide))
      · exact (q_mc rfl).trans (z 116 0 (by decide) (by decide) (by decide) (by decide) (by decide))
      · exact (q_mc rfl).trans (z 118 0 (by decide) (by decide) (by decide) (by decide) (by decide))
      · exact (q_mc rfl).trans (z 120 0 (by decide) (by decide) (by decide) (by decide) (by decide))
    · rw [q_mc rfl, k2 137 k (by decide) (by omega), d2 137 k (by decide) (by omega)]
      rfl
  · exact (q_mc rfl).trans (z 1 0 (by decide) (by decide) (by decide) (by decide) (by decide))
  · exact (q_mc rfl).trans (zm 7 (by decide) (by decide))
  · exact ((q_mc rfl).trans (z 0 10 (by decide) (by decide) (by decide) (by decide) (by decide))).trans ((q_mc rfl).trans (zm 12 (by decide) (by decide))).symm
  · exact ((q_mc rfl).trans (z 0 11 (by decide) (by decide) (by decide) (by decide) (by decide))).trans ((q_mc rfl).trans (zm 33 (by decide) (by decide))).symm
