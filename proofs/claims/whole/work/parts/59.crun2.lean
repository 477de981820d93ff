/-! THE PURE PART: the class's run, whole -/
section QCV
variable {a : Nat → Nat} {p c b o m : Nat} {sub : Nat → q_R → q_R} {k : Nat}
/-- a node gone to: the next one, and the state behind it -/
def q_vi (a : Nat → Nat) (p c b m i : Nat) (sub : Nat → q_R → q_R) (s : q_R) : Nat × q_R := if 60 ≤ s.2.1 then (9, q_ct s) else if (q_cs a p c m i sub (q_gt a p m i s)).2.2.2.2 = true then (9, q_cs a p c m i sub (q_gt a p m i s)) else (q_nx a p m i b (q_cs a p c m i sub (q_gt a p m i s)), q_go a p m i b (q_cs a p c m i sub (q_gt a p m i s)))
theorem q_cV103 {ρ i : Nat} {s : q_R} {I : Nat → Nat → Int32} {L : Nat → Nat → Int64} (hop : q_op2 o p) (hρ : 4 ≤ ρ) (ho : q_ok a) (hb : b < 256) (hg : q_prg I o p a) (hm : m < a 0) (hi : i < a (7 + m)) (hr : q_rc I L c b s) (hk : q_sk s) (ha : s.2.2.1 ≤ s.2.1) : ∃ I' L', zl_Ru_visit_103 ρ o (nI m) (nI i) (nI (8 * m + i)) (I, L, o) = some (nI (if s.2.2.2.2 = true then 9 else q_nx a p m i b s), (I', L', o)) ∧ q_rc I' L' c b (if s.2.2.2.2 = true then s else q_go a p m i b s) ∧ q_frC I I' L L' := by
  have o0 := ho.1
  have o7 := ho.2.2.2.1 m hm
  obtain ⟨g1, g2, g3, g4⟩ := hg.2.2.2.1 m i hm hi
  have r7 := hr.2.2.2.2.2.1
  rw [e_Ru_visit_103 hop.in2 hρ]
  cases hx : s.2.2.2.2 with
  | true =>
    rw [hx] at r7
    refine ⟨I, L, ?_, ?_, q_frC.refl⟩
    · show (if I 37 7 = 0 then _ else some (9, (I, L, o))) = _
      rw [r7, if_neg (by decide), if_pos rfl]
      rfl
    · rw [if_pos rfl]
      exact hr
  | false =>
    rw [hx] at r7
    obtain ⟨I', L', k1, k2, k3⟩ := q_cGoOn hop ho hb hg hm hi hr hk ha
    refine ⟨I', L', ?_, ?_, k3⟩
    · rw [if_neg (show ¬ false = true by decide), q_inC (show 8 * m + i < 48 by omega) (by decide), nI_clamp (by omega)]
      show (if I 37 7 = 0 then z_bd (z_M 99 [.ref 37, .int (nI m), .int (nI i), .int (I (o + 4) (8 * m + i))] (I, L, o)) (fun r1 h2 => some (r1, (h2.1, h2.2.1, o))) else _) = _
      rw [r7, if_pos (by decide), g3, k1, z_bd_some]
    · rw [if_neg (by decide)]
      exact k2
theorem q_cVisit {i : Nat} {s : q_R} {I : Nat → Nat → Int32} {L : Nat → Nat → Int64} (hop : q_op2 o p) (ho : q_ok a) (hc : c < a 1) (hb : b < 256) (hk4 : k ≤ 4) (hsub : (k < 4 ∧ q_EC a p c b o (k + 1) sub) ∨ (k = 4 ∧ sub = fun _ s => s)) (hsb : q_sbo a sub) (hg : q_prg I o p a) (hm : m < a 0) (hi : i < a (7 + m)) (hr : q_rc I L c b s) (hk : q_sk s) (ha : s.2.2.1 ≤ s.2.1) (hcut : s.2.2.2.2 = false) : ∃ I' L', z_M 97 [.ref 37, .int (nI m), .int (nI i), .int (nI k)] (I, L, o) = some (nI (q_vi a p c b m i sub s).1, (I', L', o)) ∧ q_rc I' L' c b (q_vi a p c b m i sub s).2 ∧ q_frC I I' L L' := by
  have o0 := ho.1
  have o7 := ho.2.2.2.1 m hm
  have bb := ho.2.2.2.2.1 p m i hop.lt.1 hm hi
  obtain ⟨g1, g2, g3, g4⟩ := hg.2.2.2.1 m i hm hi
  have ez := (z_M_eq (id := 97) (a := [.ref 37, .int (nI m), .int (nI i), .int (nI k)]) (h := (I, L, o)) (by decide)).trans (ez_Ru_visit (ρ := z_rank 97 [.ref 37, .int (nI m), .int (nI i), .int (nI k)]) hop.in2 (by rw [q_rk97 _ _ (by omega)]; omega) (nI m) (nI i) (nI k) I L (by rw [q_rk98' (by omega), q_rk97 _ _ (by omega)]; omega))
  have hρ : 4 ≤ z_rank 97 [.ref 37, .int (nI m), .int (nI i), .int (nI k)] := by rw [q_rk97 _ _ (by omega)]; omega
  obtain ⟨r0, r1, r4, r5, r6, r7, rE⟩ := id hr
  rw [ez]
  unfold q_vi
  by_cases h60 : 60 ≤ s.2.1
  · rw [if_pos h60]
    refine ⟨q_wr I 37 7 1, L, ?_, ?_, q_frC.wr 7 1⟩
    · show (if I 37 1 < 60 then _ else some (9, (q_wr I 37 7 1, L, o))) = _
      have h1 := hk.1
      rw [r1, if_neg (show ¬ nI s.2.1 < 60 from nI_nlt (b := 60) h60 (by omega))]
      rfl
    · refine ⟨?_, ?_, ?_, ?_, ?_, ?_, rE⟩
      · rw [q_wr1, if_neg (by omega)]; exact r0
      · rw [q_wr1, if_neg (by omega)]; exact r1
      · rw [q_wr1, if_neg (by omega)]; exact r4
      · rw [q_wr1, if_neg (by omega)]; exact r5
      · rw [q_wr1, if_neg (by omega)]; exact r6
      · rw [q_wr1, if_pos ⟨rfl, rfl⟩]; rfl
  · rw [if_neg h60]
    -- the state behind goTo
    obtain ⟨I1, eI1⟩ : ∃ I1, I1 = q_wr I 37 1 (nI (s.2.1 + 1)) := ⟨_, rfl⟩
    have n1 : ∀ o' k', I1 o' k' = if o' = 37 ∧ k' = 1 then nI (s.2.1 + 1) else I o' k' := fun o' k' => by rw [eI1, q_wr1]
    have hlt := hop.lt
    obtain ⟨I2, eI2⟩ : ∃ I2, I2 = q_wr I1 37 0 (31 * s.1 + nI (a (q_at p m i + 1) + (if a (q_at p m i) = 1 then 11 else 1))) := ⟨_, rfl⟩
    have n2 : ∀ o' k', I2 o' k' = if o' = 37 ∧ k' = 0 then 31 * s.1 + nI (a (q_at p m i + 1) + (if a (q_at p m i) = 1 then 11 else 1)) else I1 o' k' := fun o' k' => by rw [eI2, q_wr1]
    have fr2 : q_frC I I2 L L := ⟨fun o' k' q => by rw [n2, if_neg (by omega), n1, if_neg (by omega)], fun _ _ _ => rfl⟩
    have hr2 : q_rc I2 L c b (q_gt a p m i s) := by
      refine ⟨?_, ?_, ?_, ?_, ?_, ?_, rE⟩
      · rw [n2, if_pos ⟨rfl, rfl⟩]; rfl
      · rw [n2, if_neg (by omega), n1, if_pos ⟨rfl, rfl⟩]; rfl
      · rw [n2, if_neg (by omega), n1, if_neg (by omega)]; exact r4
      · rw [n2, if_neg (by omega), n1, if_neg (by omega)]; exact r5
      · rw [n2, if_neg (by omega), n1, if_neg (by omega)]; exact r6
      · rw [n2, if_neg (by omega), n1, if_neg (by omega)]; exact r7
    have hk2 : q_sk (q_gt a p m i s) := q_gt_sk hk (by omega)
    have ha2 : (q_gt a p m i s).2.2.1 ≤ (q_gt a p m i s).2.1 := by
      show s.2.2.1 ≤ s.2.1 + 1
      omega
    have G1 : (I1 (o + 2) (8 * m + i) : Int32) = nI (a (q_at p m i)) := by rw [n1, if_neg (by omega)]; exact g1
    have G2 : (I1 (o + 3) (8 * m + i) : Int32) = nI (a (q_at p m i + 1)) := by rw [n1, if_neg (by omega)]; exact g2
    have G0 : I1 37 0 = s.1 := by rw [n1, if_neg (by omega)]; exact r0
    have e1 : ∀ X Y : Option z_A, (if I 37 1 < 60 then X else Y) = X := fun X Y => by
      have h1 := hk.1
      rw [r1, if_pos (show nI s.2.1 < 60 from nI_lt (b := 60) (by omega) (by decide))]
    have eI1' : q_wr I 37 1 (I 37 1 + 1) = I1 := by rw [eI1, r1, nI_1]
    have em : z_M 97 [.ref 37, .int (nI m), .int (nI i), .int (nI k)] (I, L, o) = (if ¬ nI (a (q_at p m i)) = 1 then zl_Ru_visit_103 (z_rank 97 [.ref 37, .int (nI m), .int (nI i), .int (nI k)]) o (nI m) (nI i) (nI (8 * m + i)) (q_wr I1 37 0 (((31 * s.1) + nI (a (q_at p m i + 1))) + 1), L, o) else z_bd (z_M 98 [.ref 37, .int (nI (a (q_at p m i + 1))), .int (nI k)] (q_wr I1 37 0 (((31 * s.1) + nI (a (q_at p m i + 1))) + 11), L, o)) (fun r3 h4 => zl_Ru_visit_103 (z_rank 97 [.ref 37, .int (nI m), .int (nI i), .int (nI k)]) o (nI m) (nI i) (nI (8 * m + i)) (h4.1, h4.2.1, o))) := by
      rw [ez]
      refine (e1 _ _).trans ?_
      show z_bd (z_M 42 [.int (nI m), .int (nI i)] (q_wr I 37 1 (I 37 1 + 1), L, o)) _ = _
      rw [eI1', q_place, z_bd_some, q_inC (show 8 * m + i < 48 by omega) (by decide), q_inC (show 8 * m + i < 48 by omega) (by decide), nI_clamp (show 8 * m + i < 2 ^ 31 by omega)]
      show (if ¬ I1 (o + 2) (8 * m + i) = 1 then zl_Ru_visit_103 _ o (nI m) (nI i) (nI (8 * m + i)) (q_wr I1 37 0 (((31 * (I1 37 0)) + (I1 (o + 3) (8 * m + i))) + 1), L, o) else z_bd (z_M 98 [.ref 37, .int (I1 (o + 3) (8 * m + i)), .int (nI k)] (q_wr I1 37 0 (((31 * (I1 37 0)) + (I1 (o + 3) (8 * m + i))) + 11), L, o)) (fun r3 h4 => zl_Ru_visit_103 _ o (nI m) (nI i) (nI (8 * m + i)) (h4.1, h4.2.1, o))) = _
      rw [G1, G2, G0]
    rw [← ez, em]
    by_cases hkd : a (q_at p m i) = 1
    · have hn := bb.2.2.1 hkd
      have eI2' : q_wr I1 37 0 (((31 * s.1) + nI (a (q_at p m i + 1))) + 11) = I2 := by
        rw [eI2, if_pos hkd, Int32.add_assoc, show nI (a (q_at p m i + 1)) + 11 = nI (a (q_at p m i + 1) + 11) from nI_add _ 11]
      have ecs : q_cs a p c m i sub (q_gt a p m i s) = (if q_mean a p (a (q_at p m i + 1)) 4 c = 999 then q_pE (q_gt a p m i s) (200 + 4 * c + a (q_at p m i + 1)) else sub (q_mean a p (a (q_at p m i + 1)) 4 c) (q_pE (q_gt a p m i s) (200 + 4 * c + a (q_at p m i + 1)))) := if_pos hkd
      obtain ⟨I3, L3, j1, j2, j3⟩ := q_cMe hop ho hc hk4 hsub hn (fr2.prg hop hg) hr2 hk2 ha2 hcut
      rw [← ecs] at j2
      have g := q_cs_ok ho hop.lt.1 hc hsb hm hi hk2
      have ha3 : (q_cs a p c m i sub (q_gt a p m i s)).2.2.1 ≤ (q_cs a p c m i sub (q_gt a p m i s)).2.1 := by
        have := g.2.1
        have := g.2.2
        omega
      obtain ⟨I4, L4, l1, l2, l3⟩ := q_cV103 hop hρ ho hb ((fr2.trans j3).prg hop hg) hm hi j2 g.1 ha3
      refine ⟨I4, L4, ?_, ?_, (fr2.trans j3).trans l3⟩
      · rw [hkd, if_neg (fun q => q rfl), eI2', j1, z_bd_some]
        refine l1.trans ?_
        by_cases hx : (q_cs a p c m i sub (q_gt a p m i s)).2.2.2.2 = true
        · rw [if_pos hx, if_pos hx]
        · rw [if_neg hx, if_neg hx]
      · by_cases hx : (q_cs a p c m i sub (q_gt a p m i s)).2.2.2.2 = true
        · rw [if_pos hx] at l2 ⊢
          exact l2
        · rw [if_neg hx] at l2 ⊢
          exact l2
    · have ecs : q_cs a p c m i sub (q_gt a p m i s) = q_gt a p m i s := if_neg hkd
      have n1' : ¬ nI (a (q_at p m i)) = 1 := fun q => hkd ((nI_eq (by omega) (by decide)).mp q)
      have eI2' : q_wr I1 37 0 (((31 * s.1) + nI (a (q_at p m i + 1))) + 1) = I2 := by
        rw [eI2, if_neg hkd, Int32.add_assoc, show nI (a (q_at p m i + 1)) + 1 = nI (a (q_at p m i + 1) + 1) from nI_add _ 1]
      obtain ⟨I4, L4, l1, l2, l3⟩ := q_cV103 hop hρ ho hb (fr2.prg hop hg) hm hi hr2 hk2 ha2
      rw [ecs]
      refine ⟨I4, L4, ?_, ?_, fr2.trans l3⟩
      · rw [if_pos n1', eI2']
        refine l1.trans ?_
        by_cases hx : (q_gt a p m i s).2.2.2.2 = true
        · rw [if_pos hx, if_pos hx]
        · rw [if_neg hx, if_neg hx]
      · by_cases hx : (q_gt a p m i s).2.2.2.2 = true
        · rw [if_pos hx] at l2 ⊢
          exact l2
        · rw [if_neg hx] at l2 ⊢
          exact l2
theorem q_cLoop {ρ : Nat} (hop : q_op2 o p) (ho : q_ok a) (hc : c < a 1) (hb : b < 256) (hk4 : k ≤ 4) (hsub : (k < 4 ∧ q_EC a p c b o (k + 1) sub) ∨ (k = 4 ∧ sub = fun _ s => s)) (hsb : q_sbo a sub) (hm : m < a 0) (hρ : z_rank 97 [.int (nI k)] < ρ) : ∀ f i s I L, f ≤ 61 → (i = 9 ∨ i < a (7 + m)) → q_prg I o p a → q_rc I L c b s → q_sk s → s.2.2.1 ≤ s.2.1 → s.2.2.2.2 = false → ∃ I' L', zl_Ru_enter_49 ρ o (nI m) (nI k) (nI i) (nI (61 - f)) (I, L, o) = some (0, (I', L', o)) ∧ q_rc I' L' c b (q_lp a p c b m sub f i s) ∧ q_frC I I' L L' := by
  have o7 := ho.2.2.2.1 m hm
  have e9 : ∀ I L j, zl_Ru_enter_49 ρ o (nI m) (nI k) (nI 9) j (I, L, o) = some (0, (I, L, o)) := fun I L j => by
    rw [e_Ru_enter_49 hop.in2 _ _ _ _ _ _ hρ]
    by_cases q : (60 : Int32) < j
    · rw [if_pos q]
    · rw [if_neg q, if_pos (show nI 9 = 9 from rfl)]
  intro f
  induction f with
  | zero =>
    intro i s I L _ hi hg hr hk ha hcut
    refine ⟨I, L, ?_, hr, q_frC.refl⟩
    rw [e_Ru_enter_49 hop.in2 _ _ _ _ _ _ hρ, if_pos (by decide)]
  | succ f ih =>
    intro i s I L hf hi hg hr hk ha hcut
    have eun : q_lp a p c b m sub (f + 1) i s = (if i = 9 then s else if 60 ≤ s.2.1 then q_ct s else if (q_cs a p c m i sub (q_gt a p m i s)).2.2.2.2 = true then q_cs a p c m i sub (q_gt a p m i s) else q_lp a p c b m sub f (q_nx a p m i b (q_cs a p c m i sub (q_gt a p m i s))) (q_go a p m i b (q_cs a p c m i sub (q_gt a p m i s)))) := rfl
    rw [eun]
    by_cases h9 : i = 9
    · subst h9
      rw [if_pos rfl]
      exact ⟨I, L, e9 I L _, hr, q_frC.refl⟩
    · have hi2 := hi.resolve_left h9
      rw [if_neg h9]
      obtain ⟨I1, L1, v1, v2, v3⟩ := q_cVisit hop ho hc hb hk4 hsub hsb hg hm hi2 hr hk ha hcut
      have e1 : zl_Ru_enter_49 ρ o (nI m) (nI k) (nI i) (nI (61 - (f + 1))) (I, L, o) = zl_Ru_enter_49 ρ o (nI m) (nI k) (nI (q_vi a p c b m i sub s).1) (nI (61 - f)) (I1, L1, o) := by
        rw [e_Ru_enter_49 hop.in2 _ _ _ _ _ _ hρ, if_neg (show ¬ (60 : Int32) < nI (61 - (f + 1)) from nI_nlt (a := 60) (by omega) (by decide)), if_neg (show ¬ nI i = 9 from fun q => h9 ((nI_eq (by omega) (by decide)).mp q)), v1, z_bd_some, nI_1, show 61 - (f + 1) + 1 = 61 - f by omega]
      rw [e1]
      unfold q_vi at v2 ⊢
      by_cases h60 : 60 ≤ s.2.1
      · rw [if_pos h60] at v2 ⊢
        rw [if_pos h60]
        exact ⟨I1, L1, e9 I1 L1 _, v2, v3⟩
      · rw [if_neg h60] at v2 ⊢
        rw [if_neg h60]
        by_cases hx : (q_cs a p c m i sub (q_gt a p m i s)).2.2.2.2 = true
        · rw [if_pos hx] at v2 ⊢
          rw [if_pos hx]
          exact ⟨I1, L1, e9 I1 L1 _, v2, v3⟩
        · rw [if_neg hx] at v2 ⊢
          rw [if_neg hx]
          have g := q_cs_ok ho hop.lt.1 hc hsb hm hi2 (q_gt_sk (a := a) (p := p) (m := m) (i := i) hk (by omega))
          have g2 := q_go_ok (b := b) ho hop.lt.1 hm hi2 g
          have hcut2 : (q_go a p m i b (q_cs a p c m i sub (q_gt a p m i s))).2.2.2.2 = false := by
            have : (q_go a p m i b (q_cs a p c m i sub (q_gt a p m i s))).2.2.2.2 = (q_cs a p c m i sub (q_gt a p m i s)).2.2.2.2 := by
              unfold q_go
              split <;> rfl
            rw [this]
            cases hy : (q_cs a p c m i sub (q_gt a p m i s)).2.2.2.2 with
            | true => exact absurd hy hx
            | false => rfl
          obtain ⟨I2, L2, w1, w2, w3⟩ := ih (q_nx a p m i b (q_cs a p c m i sub (q_gt a p m i s))) (q_go a p m i b (q_cs a p c m i sub (q_gt a p m i s))) I1 L1 (by omega) (q_nx_b ho hop.lt.1 hm hi2 _) (v3.prg hop hg) v2 g2.1 (by have := g2.2.1; have := g2.2.2; omega) hcut2
          exact ⟨I2, L2, w1, w2, v3.trans w3⟩
theorem q_cEnt1 (hop : q_op2 o p) (ho : q_ok a) (hc : c < a 1) (hb : b < 256) (hk4 : k ≤ 4) (hsub : (k < 4 ∧ q_EC a p c b o (k + 1) sub) ∨ (k = 4 ∧ sub = fun _ s => s)) (hsb : q_sbo a sub) : q_EC a p c b o k (q_e1 a p c b sub) := by
  intro m s I L hm hk ha hcut hg hr
  have o0 := ho.1
  have hlt := hop.lt
  have ez := (z_M_eq (id := 96) (a := [.ref 37, .int (nI m), .int (nI k)]) (h := (I, L, o)) (by decide)).trans (ez_Ru_enter (ρ := z_rank 96 [.ref 37, .int (nI m), .int (nI k)]) hop.in2 (by rw [q_rk96 _ (by omega)]; omega) (nI m) (nI k) I L)
  have hρ : z_rank 97 [.int (nI k)] < z_rank 96 [.ref 37, .int (nI m), .int (nI k)] := by
    rw [q_rk97' (by omega), q_rk96 _ (by omega)]
    omega
  obtain ⟨r0, r1, r4, r5, r6, r7, rE⟩ := hr
  obtain ⟨I1, eI1⟩ : ∃ I1, I1 = q_wr I 37 0 (31 * s.1 + nI (m + 101)) := ⟨_, rfl⟩
  have n1 : ∀ o' k', I1 o' k' = if o' = 37 ∧ k' = 0 then 31 * s.1 + nI (m + 101) else I o' k' := fun o' k' => by rw [eI1, q_wr1]
  have fr1 : q_frC I I1 L L := ⟨fun o' k' q => by rw [n1, if_neg (by omega)], fun _ _ _ => rfl⟩
  have hr1 : q_rc I1 L c b (31 * s.1 + nI (m + 101), s.2) := by
    refine ⟨?_, ?_, ?_, ?_, ?_, ?_, rE⟩
    · rw [n1, if_pos ⟨rfl, rfl⟩]
    · rw [n1, if_neg (by omega)]; exact r1
    · rw [n1, if_neg (by omega)]; exact r4
    · rw [n1, if_neg (by omega)]; exact r5
    · rw [n1, if_neg (by omega)]; exact r6
    · rw [n1, if_neg (by omega)]; exact r7
  obtain ⟨L1, j1, j2, j3⟩ := q_cPut (d := o) (e := 100 + m) hr1 (by omega)
  have fr2 := fr1.trans j3
  have hg1 := fr2.prg hop hg
  have hn : I1 (o + 1) m = nI (a (7 + m)) := hg1.2.2.1 m hm
  have o7 := ho.2.2.2.1 m hm
  have em : z_M 96 [.ref 37, .int (nI m), .int (nI k)] (I, L, o) = (if nI (a (7 + m)) ≤ 0 then zl_Ru_enter_49 (z_rank 96 [.ref 37, .int (nI m), .int (nI k)]) o (nI m) (nI k) 9 0 (I1, L1, o) else zl_Ru_enter_49 (z_rank 96 [.ref 37, .int (nI m), .int (nI k)]) o (nI m) (nI k) 0 0 (I1, L1, o)) := by
    rw [ez]
    have ew : q_wr I 37 0 (((31 * (I 37 0)) + nI m) + 101) = I1 := by
      rw [eI1, r0, Int32.add_assoc, show nI m + 101 = nI (m + 101) from nI_add _ 101]
    have e100 : (100 : Int32) + nI m = nI (100 + m) := by rw [n_100, nI_add]
    show z_bd (z_M 103 [.ref 38, .int (100 + nI m)] (q_wr I 37 0 (((31 * (I 37 0)) + nI m) + 101), L, o)) _ = _
    rw [ew, e100, j1, z_bd_some, q_inC (show m < 6 by omega) (by decide), nI_clamp (by omega)]
    show (if I1 (o + 1) m ≤ 0 then zl_Ru_enter_49 _ o (nI m) (nI k) 9 0 (I1, L1, o) else zl_Ru_enter_49 _ o (nI m) (nI k) 0 0 (I1, L1, o)) = _
    rw [hn]
  have g := q_e0_ok (m := m) (by omega) hk
  rw [em]
  unfold q_e1
  by_cases h0 : a (7 + m) = 0
  · rw [if_pos h0, h0, if_pos (by decide)]
    refine ⟨I1, L1, ?_, j2, fr2⟩
    rw [e_Ru_enter_49 hop.in2 _ _ _ _ _ _ hρ, if_neg (by decide), if_pos rfl]
  · rw [if_neg h0, if_neg (nI_nle (by omega) (by omega))]
    obtain ⟨I2, L2, w1, w2, w3⟩ := q_cLoop hop ho hc hb hk4 hsub hsb hm hρ 61 0 (q_e0 m s) I1 L1 (Nat.le_refl _) (Or.inr (by omega)) hg1 j2 g.1 (by have := g.2.1; have := g.2.2; omega) hcut
    exact ⟨I2, L2, w1, w2, fr2.trans w3⟩
theorem q_cEnt (hop : q_op2 o p) (ho : q_ok a) (hc : c < a 1) (hb : b < 256) : ∀ d, d ≤ 4 → q_EC a p c b o (4 - d) (q_ent a p c b d) := by
  intro d
  induction d with
  | zero => intro _; exact q_cEnt1 hop ho hc hb (by omega) (Or.inr ⟨rfl, rfl⟩) (fun m s _ h => q_stp.refl h)
  | succ d ih =>
    intro hd
    have h := ih (by omega)
    rw [show 4 - d = 4 - (d + 1) + 1 by omega] at h
    exact q_cEnt1 hop ho hc hb (by omega) (Or.inl ⟨by omega, h⟩) (q_ent_ok ho hop.lt.1 hc d)
end QCV
/-- a run begun by the class: only Run and its edges are written -/
theorem q_cBegin {a : Nat → Nat} {p c b o : Nat} {I : Nat → Nat → Int32} {L : Nat → Nat → Int64} {d : Nat} (hop : q_op2 o p) (ho : q_ok a) (hc : c < a 1) (hb : b < 256) (hg : q_prg I o p a) : ∃ I' L' d', z_M 95 [.ref 37, .ref o, .int (nI c), .int (nI b)] (I, L, d) = some (0, (I', L', d')) ∧ I' 37 0 = (q_run a p c b).1 ∧ I' 37 1 = nI (q_run a p c b).2.1 ∧ q_es L' 38 (q_run a p c b).2.2.2.1 ∧ q_frC I I' L L' := by
  obtain ⟨I1, eI1⟩ : ∃ I1, I1 = q_wr (q_wr (q_wr (q_wr (q_wr (q_wr I 37 4 (nI c)) 37 5 (nI b)) 37 0 0) 37 1 0) 37 6 0) 37 7 0 := ⟨_, rfl⟩
  have fr1 : ∀ o' k', o' ≠ 37 → I1 o' k' = I o' k' := fun o' k' q => by
    rw [eI1, q_wr1, if_neg (by omega), q_wr1, if_neg (by omega), q_wr1, if_neg (by omega), q_wr1, if_neg (by omega), q_wr1, if_neg (by omega), q_wr1, if_neg (by omega)]
  obtain ⟨L1, j1, j2, j3⟩ := q_es_clear (o := 38) (by decide) I1 L o
  have fr2 : q_frC I I1 L L1 := ⟨fr1, fun o' k' q => j3 o' k' q⟩
  have hr : q_rc I1 L1 c b q_s0 := by
    refine ⟨?_, ?_, ?_, ?_, ?_, ?_, j2⟩
    · rw [eI1, q_wr1, if_neg (by omega), q_wr1, if_neg (by omega), q_wr1, if_neg (by omega), q_wr1, if_pos ⟨rfl, rfl⟩]; rfl
    · rw [eI1, q_wr1, if_neg (by omega), q_wr1, if_neg (by omega), q_wr1, if_pos ⟨rfl, rfl⟩]; rfl
    · rw [eI1, q_wr1, if_neg (by omega), q_wr1, if_neg (by omega), q_wr1, if_neg (by omega), q_wr1, if_neg (by omega), q_wr1, if_neg (by omega), q_wr1, if_pos ⟨rfl, rfl⟩]
    · rw [eI1, q_wr1, if_neg (by omega), q_wr1, if_neg (by omega), q_wr1, if_neg (by omega), q_wr1, if_neg (by omega), q_wr1, if_pos ⟨rfl, rfl⟩]
    · rw [eI1, q_wr1, if_neg (by omega), q_wr1, if_pos ⟨rfl, rfl⟩]; rfl
    · rw [eI1, q_wr1, if_pos ⟨rfl, rfl⟩]; rfl
  have hg1 := fr2.prg hop hg
  have e1 : z_M 95 [.ref 37, .ref o, .int (nI c), .int (nI b)] (I, L, d) = (if I1 o 0 ≤ 0 then some (0, (I1, L1, o)) else z_bd (z_M 96 [.ref 37, .int 0, .int 0] (I1, L1, o)) (fun r3 h4 => some (0, (h4.1, h4.2.1, o)))) := by
    rw [e_Ru_begin hop.in2]
    show z_bd (z_M 101 [.ref 38] (q_wr (q_wr (q_wr (q_wr (q_wr (q_wr I 37 4 (nI c)) 37 5 (nI b)) 37 0 0) 37 1 0) 37 6 0) 37 7 0, L, o)) _ = _
    rw [← eI1, j1, z_bd_some]
  have o0 := ho.1
  have h0 : q_sk q_s0 := ⟨by decide, fun _ _ => rfl⟩
  rw [e1, hg1.1]
  unfold q_run
  by_cases h00 : a 0 = 0
  · rw [h00, if_pos (by decide), if_pos rfl]
    exact ⟨I1, L1, o, rfl, hr.1, hr.2.1, hr.2.2.2.2.2.2, fr2⟩
  · rw [if_neg (nI_nle (by omega) (by omega)), if_neg h00]
    obtain ⟨I2, L2, w1, w2, w3⟩ := q_cEnt hop ho hc hb 4 (Nat.le_refl _) 0 q_s0 I1 L1 (by omega) h0 (Nat.le_refl _) rfl hg1 hr
    exact ⟨I2, L2, o, by rw [show z_M 96 [.ref 37, .int 0, .int 0] (I1, L1, o) = _ from w1, z_bd_some], w2.1, w2.2.1, w2.2.2.2.2.2.2, fr2.trans w3⟩
