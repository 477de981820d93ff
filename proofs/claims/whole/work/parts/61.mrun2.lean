/-! THE PURE PART: the reference's run, whole -/
section QML
variable {a : Nat → Nat} {p c b m n : Nat} {L : Nat → Nat → Int64} {d : Nat} {sub : Nat → q_R → q_R}
def q_EM (a : Nat → Nat) (p c b n : Nat) (L : Nat → Nat → Int64) (d : Nat) (sub : Nat → q_R → q_R) : Prop := ∀ m s I, m < a 0 → q_sk s → s.2.2.1 ≤ s.2.1 → s.2.2.2.2 = false → (∀ j, j < 549 → I 123 j = q_v (a j)) → q_rs I s → I 122 17 = nI n → I 122 21 = 0 → ∃ r J, z_M 163 [.ref 122, .int (nI p), .int (nI m)] (I, L, d) = some (r, (J, L, d)) ∧ ((r = 0 ∧ q_frM n I J ∧ q_rs J (sub m s) ∧ (sub m s).2.2.2.2 = false ∧ J 122 17 = nI n ∧ J 122 21 = (if n = 0 then 1 else 0)) ∨ (r = 1 ∧ q_af p c b n L d I (zl_M_runs_77 (nI p) (nI c) (nI b) (J, L, d)) (sub m s)))
/-- at a node: its call, if it calls, and what comes behind -/
theorem q_mTop {i : Nat} {s : q_R} {I : Nat → Nat → Int32} (ho : q_ok a) (hp : p < 2) (hc : c < a 1) (hn : n ≤ 4) (hsub : (n < 4 ∧ q_EM a p c b (n + 1) L d sub) ∨ (n = 4 ∧ sub = fun _ s => s)) (hst : ∀ j, j < 549 → I 123 j = q_v (a j)) (hm : m < a 0) (hi : i < a (7 + m)) (h17 : I 122 17 = nI (n + 1)) (h21 : I 122 21 = 0) (h128 : I 128 n = nI m) (h129 : I 129 n = nI i) (hr : q_rs I s) (hk : q_sk s) (ha : s.2.2.1 ≤ s.2.1) (hcut : s.2.2.2.2 = false) :
    ((q_cs a p c m i sub s).2.2.2.2 = true ∧ q_af p c b n L d I (zl_M_runs_77 (nI p) (nI c) (nI b) (I, L, d)) (q_cs a p c m i sub s)) ∨ ((q_cs a p c m i sub s).2.2.2.2 = false ∧ ∃ J, q_frM n I J ∧ q_rs J (q_cs a p c m i sub s) ∧ J 122 17 = nI (n + 1) ∧ J 122 21 = 0 ∧ J 128 n = nI m ∧ J 129 n = nI i ∧ zl_M_runs_77 (nI p) (nI c) (nI b) (I, L, d) = z_bd (zl_M_goesOn_2 (nI p) (nI b) 1 (J, L, d)) (fun _ h => zl_M_runs_77 (nI p) (nI c) (nI b) h)) := by
  have o0 := ho.1
  have o1 := ho.2.1
  have bb := ho.2.2.2.2.1 p m i hp hm hi
  have e0 : I 122 17 - 1 = nI n := by rw [h17, nI_pred]
  have q0 : z_M 158 [.ref 122, .int (nI p), .int (nI m), .int (nI i), .int 0] (I, L, d) = some (nI (a (q_at p m i)), (I, L, d)) := q_of (k := 0) ho hp hst hm hi (by omega)
  have q1 : z_M 158 [.ref 122, .int (nI p), .int (nI m), .int (nI i), .int 1] (I, L, d) = some (nI (a (q_at p m i + 1)), (I, L, d)) := q_of (k := 1) ho hp hst hm hi (by omega)
  have e77 : zl_M_runs_77 (nI p) (nI c) (nI b) (I, L, d) = z_bd (z_M 165 [.ref 122, .int (nI p), .int (nI c)] (I, L, d)) (fun r1 h2 => (if ¬ r1 = 0 then zl_M_runs_77 (nI p) (nI c) (nI b) h2 else z_bd (zl_M_goesOn_2 (nI p) (nI b) 1 h2) (fun r3 h4 => zl_M_runs_77 (nI p) (nI c) (nI b) h4))) := by
    rw [e_M_runs_77]
    show (if ¬ I 122 21 = 0 then _ else _) = _
    rw [h21, if_neg (fun q => q rfl)]
    refine z_bdc fun r h => ?_
    rw [e_M_goesOn]
  have e165 : z_M 165 [.ref 122, .int (nI p), .int (nI c)] (I, L, d) = (if ¬ nI (a (q_at p m i)) = 0 then (bif z_in ((200 + (4 * nI c)) + nI (a (q_at p m i + 1))) 216 then z_bd (z_M 159 [.ref 122, .int (nI p), .int (nI c), .int (nI (a (q_at p m i + 1)))] (q_wr I 130 (((200 + (4 * nI c)) + nI (a (q_at p m i + 1))).toNatClampNeg) 1, L, d)) (fun r5 h6 => (if r5 = (-4) then some (0, h6) else (if (4 : Int32) < h6.1 122 17 then some (0, h6) else z_bd (z_M 163 [.ref 122, .int (nI p), .int r5] h6) (fun r7 h8 => (if r7 = 0 then some (0, h8) else some (1, h8)))))) else none) else some (0, (I, L, d))) := by
    rw [e_M_callsIn]
    show (bif z_in (I 122 17 - 1) 5 then (bif z_in (I 122 17 - 1) 5 then z_bd (z_M 158 [.ref 122, .int (nI p), .int (I 128 ((I 122 17 - 1).toNatClampNeg)), .int (I 129 ((I 122 17 - 1).toNatClampNeg)), .int 0] (I, L, d)) (fun r1 h2 => (if ¬ r1 = 0 then z_bd (z_M 158 [.ref 122, .int (nI p), .int (I 128 ((I 122 17 - 1).toNatClampNeg)), .int (I 129 ((I 122 17 - 1).toNatClampNeg)), .int 1] h2) _ else some (0, h2))) else none) else none) = _
    rw [e0, q_inC (show n < 5 by omega) (by decide), q_inC (show n < 5 by omega) (by decide), nI_clamp (show n < 2 ^ 31 by omega), h128, h129, q0, z_bd_some, q1, z_bd_some]
    rfl
  by_cases hkd : a (q_at p m i) = 1
  · have hnm := bb.2.2.1 hkd
    obtain ⟨e, he⟩ : ∃ e, e = 200 + 4 * c + a (q_at p m i + 1) := ⟨_, rfl⟩
    have hee : (200 : Int32) + 4 * nI c + nI (a (q_at p m i + 1)) = nI e := by rw [n_200, n_4, pk_mul, nI_add, nI_add, he]
    obtain ⟨J1, eJ1⟩ : ∃ J1, J1 = q_wr I 130 e 1 := ⟨_, rfl⟩
    have n1 : ∀ o k, J1 o k = if o = 130 ∧ k = e then 1 else I o k := fun o k => by rw [eJ1, q_wr1]
    have fr1 : q_frM (n + 1) I J1 := by rw [eJ1]; exact q_frM.wr I _ (Or.inr (Or.inr (Or.inr rfl)))
    have hst1 := fr1.st hst
    obtain ⟨r18, r19, r20, rE⟩ := hr
    have hr1 : q_rs J1 (q_pE s e) := by
      refine ⟨?_, ?_, ?_, fun x hx => ?_⟩
      · rw [n1, if_neg (by omega)]; exact r18
      · rw [n1, if_neg (by omega)]; exact r19
      · rw [n1, if_neg (by omega)]; exact r20
      · rw [n1]
        show _ = q_b (decide (x = e) || s.2.2.2.1 x)
        by_cases hx2 : x = e
        · rw [if_pos ⟨rfl, hx2⟩, decide_eq_true hx2]; rfl
        · rw [if_neg (fun q => hx2 q.2), decide_eq_false hx2, Bool.false_or]; exact rE x hx
    have j17 : J1 122 17 = nI (n + 1) := by rw [n1, if_neg (by omega)]; exact h17
    have j21 : J1 122 21 = 0 := by rw [n1, if_neg (by omega)]; exact h21
    have j128 : J1 128 n = nI m := by rw [n1, if_neg (by omega)]; exact h128
    have j129 : J1 129 n = nI i := by rw [n1, if_neg (by omega)]; exact h129
    have em : z_M 159 [.ref 122, .int (nI p), .int (nI c), .int (nI (a (q_at p m i + 1)))] (J1, L, d) = some (q_v (q_mean a p (a (q_at p m i + 1)) 4 c), (J1, L, d)) := q_meantM (h := (J1, L, d)) hp ho hst1 hc hnm
    have e2 : z_M 165 [.ref 122, .int (nI p), .int (nI c)] (I, L, d) = (if q_v (q_mean a p (a (q_at p m i + 1)) 4 c) = (-4) then some (0, (J1, L, d)) else (if (4 : Int32) < J1 122 17 then some (0, (J1, L, d)) else z_bd (z_M 163 [.ref 122, .int (nI p), .int (q_v (q_mean a p (a (q_at p m i + 1)) 4 c))] (J1, L, d)) (fun r7 h8 => (if r7 = 0 then some (0, h8) else some (1, h8))))) := by
      rw [e165, hkd, if_pos (by decide), hee, q_inC (show e < 216 by omega) (by decide), nI_clamp (by omega), ← eJ1, em, z_bd_some]
    have ecs : q_cs a p c m i sub s = (if q_mean a p (a (q_at p m i + 1)) 4 c = 999 then q_pE s e else sub (q_mean a p (a (q_at p m i + 1)) 4 c) (q_pE s e)) := by
      unfold q_cs
      rw [if_pos hkd, ← he]
    have none1 : z_M 165 [.ref 122, .int (nI p), .int (nI c)] (I, L, d) = some (0, (J1, L, d)) → q_cs a p c m i sub s = q_pE s e → ((q_cs a p c m i sub s).2.2.2.2 = true ∧ q_af p c b n L d I (zl_M_runs_77 (nI p) (nI c) (nI b) (I, L, d)) (q_cs a p c m i sub s)) ∨ ((q_cs a p c m i sub s).2.2.2.2 = false ∧ ∃ J, q_frM n I J ∧ q_rs J (q_cs a p c m i sub s) ∧ J 122 17 = nI (n + 1) ∧ J 122 21 = 0 ∧ J 128 n = nI m ∧ J 129 n = nI i ∧ zl_M_runs_77 (nI p) (nI c) (nI b) (I, L, d) = z_bd (zl_M_goesOn_2 (nI p) (nI b) 1 (J, L, d)) (fun _ h => zl_M_runs_77 (nI p) (nI c) (nI b) h)) := fun w1 w2 => by
      rw [w2]
      refine Or.inr ⟨hcut, J1, fr1.lo (by omega), hr1, j17, j21, j128, j129, ?_⟩
      rw [e77, w1, z_bd_some, if_neg (fun q => q rfl)]
    by_cases h9 : q_mean a p (a (q_at p m i + 1)) 4 c = 999
    · exact none1 (by rw [e2, h9, if_pos (show q_v 999 = -4 from rfl)]) (by rw [ecs, if_pos h9])
    · have hlt := (q_mean_b ho hp hnm 4 c).resolve_left h9
      rw [if_neg (q_vm (by omega)), j17, q_vn h9] at e2
      rw [if_neg h9] at ecs
      rcases hsub with ⟨hn4, hE⟩ | ⟨rfl, rfl⟩
      · have hst2 := q_pE_sk (e := e) hk (by omega)
        obtain ⟨r, J, v1, v2⟩ := hE (q_mean a p (a (q_at p m i + 1)) 4 c) (q_pE s e) J1 hlt hst2.1 ha hcut hst1 hr1 j17 j21
        rw [if_neg (show ¬ (4 : Int32) < nI (n + 1) from nI_nlt (a := 4) (by omega) (by decide)), v1, z_bd_some] at e2
        rcases v2 with ⟨rfl, f1, f2, f3, f4, f5⟩ | ⟨rfl, J2, f1, f2, f3⟩
        · rw [if_neg (by omega)] at f5
          rw [ecs]
          refine Or.inr ⟨f3, J, (fr1.trans f1).lo (by omega), f2, f4, f5, ?_, ?_, ?_⟩
          · rw [(f1.2.2 n (by omega)).1]; exact j128
          · rw [(f1.2.2 n (by omega)).2]; exact j129
          · rw [e77, e2, if_pos rfl, z_bd_some, if_neg (fun q => q rfl)]
        · have e3 : zl_M_runs_77 (nI p) (nI c) (nI b) (I, L, d) = zl_M_runs_77 (nI p) (nI c) (nI b) (J, L, d) := by
            rw [e77, e2, if_neg (by decide), z_bd_some, if_pos (by decide)]
          rw [ecs, e3]
          rcases f3 with ⟨g1, g2⟩ | ⟨g1, g2, g3, g4, g5⟩
          · have g1 := g1.resolve_right (by omega)
            exact Or.inl ⟨g1, J2, (fr1.trans f1).lo (by omega), f2, Or.inl ⟨Or.inl g1, g2⟩⟩
          · refine Or.inr ⟨g1, J2, (fr1.trans f1).lo (by omega), f2, g3, g4, ?_, ?_, g5⟩
            · rw [(f1.2.2 n (by omega)).1]; exact j128
            · rw [(f1.2.2 n (by omega)).2]; exact j129
      · exact none1 (by rw [e2, if_pos (by decide)]) ecs
  · have ecs : q_cs a p c m i sub s = s := if_neg hkd
    rw [ecs]
    refine Or.inr ⟨hcut, I, q_frM.refl, hr, h17, h21, h128, h129, ?_⟩
    rw [e77, e165, show a (q_at p m i) = 0 by omega, if_neg (show ¬ ¬ nI 0 = 0 from fun q => q rfl), z_bd_some, if_neg (fun q => q rfl)]
theorem q_lp_9 (f : Nat) (s : q_R) : q_lp a p c b m sub f 9 s = s := by
  cases f with
  | zero => rfl
  | succ f =>
    show (if 9 = 9 then s else _) = s
    rw [if_pos rfl]
theorem q_mLoop (ho : q_ok a) (hp : p < 2) (hc : c < a 1) (hb : b < 256) (hn : n ≤ 4) (hsub : (n < 4 ∧ q_EM a p c b (n + 1) L d sub) ∨ (n = 4 ∧ sub = fun _ s => s)) (hsb : q_sbo a sub) (hm : m < a 0) : ∀ f i s I, i < a (7 + m) → 61 ≤ f + s.2.1 → (∀ j, j < 549 → I 123 j = q_v (a j)) → I 122 17 = nI (n + 1) → I 122 21 = 0 → I 128 n = nI m → q_rs I s → q_sk s → s.2.2.1 ≤ s.2.1 → s.2.2.2.2 = false → ∃ J, z_M 161 [.ref 122, .int (nI p), .int (nI i)] (I, L, d) = some (0, (J, L, d)) ∧ q_af p c b n L d I (zl_M_runs_77 (nI p) (nI c) (nI b) (J, L, d)) (q_lp a p c b m sub f i s) := by
  have o7 := ho.2.2.2.1 m hm
  intro f
  induction f with
  | zero =>
    intro i s I _ hf _ _ _ _ _ hk
    have := hk.1
    omega
  | succ f ih =>
    intro i s I hi hf hst h17 h21 h128 hr hk ha hcut
    have eun : q_lp a p c b m sub (f + 1) i s = (if i = 9 then s else if 60 ≤ s.2.1 then q_ct s else if (q_cs a p c m i sub (q_gt a p m i s)).2.2.2.2 = true then q_cs a p c m i sub (q_gt a p m i s) else q_lp a p c b m sub f (q_nx a p m i b (q_cs a p c m i sub (q_gt a p m i s))) (q_go a p m i b (q_cs a p c m i sub (q_gt a p m i s)))) := rfl
    rw [eun, if_neg (by omega)]
    obtain ⟨J, j1, j2, j3⟩ := q_mGoTo (L := L) (d := d) ho hp hst hm hi hn h17 h128 hr hk
    refine ⟨J, j1, ?_⟩
    rcases j3 with ⟨h60, k1, k2⟩ | ⟨h60, k1, k2, k3, k4, k5⟩
    · rw [if_pos h60]
      exact ⟨J, j2, k1, Or.inl ⟨Or.inl rfl, q_mOver k2⟩⟩
    · rw [if_neg (by omega)]
      refine q_af.fr ?_ j2
      have hk2 := q_gt_sk (a := a) (p := p) (m := m) (i := i) hk h60
      have ha2 : (q_gt a p m i s).2.2.1 ≤ (q_gt a p m i s).2.1 := by
        show s.2.2.1 ≤ s.2.1 + 1
        omega
      have g := q_cs_ok ho hp hc hsb hm hi hk2
      rcases q_mTop (b := b) ho hp hc hn hsub (j2.st hst) hm hi k2 (k3.trans h21) k4 k5 k1 hk2 ha2 hcut with ⟨t1, t2⟩ | ⟨t1, I3, t2, t3, t4, t5, t6, t7, t8⟩
      · rw [if_pos t1]
        exact t2
      · rw [if_neg (by rw [t1]; decide), t8]
        refine q_af.fr ?_ t2
        have ha3 : (q_cs a p c m i sub (q_gt a p m i s)).2.2.1 ≤ (q_cs a p c m i sub (q_gt a p m i s)).2.1 := by
          have := g.2.1
          have := g.2.2
          omega
        have hst3 := (j2.trans t2).st hst
        obtain ⟨J2, u1, u2, u3, u4, u5, u6⟩ := q_mOn (L := L) (d := d) ho hp hb hst3 hm hi hn t4 t5 t6 t7 t3 g.1 ha3 t1
        have g2 := q_go_ok (b := b) ho hp hm hi g
        have hcut2 : (q_go a p m i b (q_cs a p c m i sub (q_gt a p m i s))).2.2.2.2 = false := by
          have : (q_go a p m i b (q_cs a p c m i sub (q_gt a p m i s))).2.2.2.2 = (q_cs a p c m i sub (q_gt a p m i s)).2.2.2.2 := by
            unfold q_go
            split <;> rfl
          rw [this]
          exact t1
        rw [u6, e_M_goesOn_140]
        refine q_af.fr ?_ u1
        by_cases h9 : q_nx a p m i b (q_cs a p c m i sub (q_gt a p m i s)) = 9
        · rw [h9, q_lp_9, if_neg (show ¬ ¬ nI 9 = 9 from fun q => q rfl)]
          exact q_mBack hn u3 u2 hcut2
        · have hx := (q_nx_b (b := b) ho hp hm hi (q_cs a p c m i sub (q_gt a p m i s))).resolve_left h9
          have g3 : s.2.1 + 1 ≤ (q_go a p m i b (q_cs a p c m i sub (q_gt a p m i s))).2.1 := by
            have h1 : s.2.1 + 1 ≤ (q_cs a p c m i sub (q_gt a p m i s)).2.1 := g.2.1
            have h2 : (q_go a p m i b (q_cs a p c m i sub (q_gt a p m i s))).2.1 = (q_cs a p c m i sub (q_gt a p m i s)).2.1 := by
              unfold q_go
              split <;> rfl
            omega
          obtain ⟨J3, w1, w2⟩ := ih (q_nx a p m i b (q_cs a p c m i sub (q_gt a p m i s))) (q_go a p m i b (q_cs a p c m i sub (q_gt a p m i s))) J2 hx (by omega) (u1.st hst3) u3 u4 u5 u2 g2.1 (by have := g2.2.1; have := g2.2.2; omega) hcut2
          have n9 : ¬ nI (q_nx a p m i b (q_cs a p c m i sub (q_gt a p m i s))) = 9 := fun q => h9 ((nI_eq (b := 9) (by omega) (by decide)).mp q)
          have e0 : zl_M_goesOn_2 (nI p) (nI b) 0 (J3, L, d) = some (0, (J3, L, d)) := by rw [e_M_goesOn_2, if_pos rfl]
          rw [if_pos n9, e_M_goesOn_152, if_pos rfl, w1, z_bd_some, e0, z_bd_some]
          exact w2
theorem q_mEnt1 (ho : q_ok a) (hp : p < 2) (hc : c < a 1) (hb : b < 256) (hn : n ≤ 4) (hsub : (n < 4 ∧ q_EM a p c b (n + 1) L d sub) ∨ (n = 4 ∧ sub = fun _ s => s)) (hsb : q_sbo a sub) : q_EM a p c b n L d (q_e1 a p c b sub) := by
  intro m s I hm hk ha hcut hst hr h17 h21
  have o0 := ho.1
  have o7 := ho.2.2.2.1 m hm
  obtain ⟨r18, r19, r20, rE⟩ := hr
  obtain ⟨J, eJ⟩ : ∃ J, J = q_wr (q_wr (q_wr (q_wr I 130 (100 + m) 1) 122 19 (31 * s.1 + nI (m + 101))) 128 n (nI m)) 122 17 (nI (n + 1)) := ⟨_, rfl⟩
  have n1 : ∀ o k, J o k = if o = 122 ∧ k = 17 then nI (n + 1) else if o = 128 ∧ k = n then nI m else if o = 122 ∧ k = 19 then 31 * s.1 + nI (m + 101) else if o = 130 ∧ k = 100 + m then 1 else I o k := fun o k => by rw [eJ, q_wr1, q_wr1, q_wr1, q_wr1]
  have fr : q_frM n I J := by
    rw [eJ]
    exact (((q_frM.wr I _ (Or.inr (Or.inr (Or.inr rfl)))).trans (q_frM.wr _ _ (Or.inl (by omega)))).trans (q_frM.wr _ _ (Or.inr (Or.inl ⟨rfl, Nat.le_refl _⟩)))).trans (q_frM.wr _ _ (Or.inl (by omega)))
  have hrJ : q_rs J (q_e0 m s) := by
    refine ⟨?_, ?_, ?_, fun x hx => ?_⟩
    · rw [n1, if_neg (by omega), if_neg (by omega), if_neg (by omega), if_neg (by omega)]; exact r18
    · rw [n1, if_neg (by omega), if_neg (by omega), if_pos ⟨rfl, rfl⟩]; rfl
    · rw [n1, if_neg (by omega), if_neg (by omega), if_neg (by omega), if_neg (by omega)]; exact r20
    · rw [n1, if_neg (by omega), if_neg (by omega), if_neg (by omega)]
      show _ = q_b (decide (x = 100 + m) || s.2.2.2.1 x)
      by_cases hx2 : x = 100 + m
      · rw [if_pos ⟨rfl, hx2⟩, decide_eq_true hx2]; rfl
      · rw [if_neg (fun q => hx2 q.2), decide_eq_false hx2, Bool.false_or]; exact rE x hx
  have j17 : J 122 17 = nI (n + 1) := by rw [n1, if_pos ⟨rfl, rfl⟩]
  have j21 : J 122 21 = 0 := by rw [n1, if_neg (by omega), if_neg (by omega), if_neg (by omega), if_neg (by omega)]; exact h21
  have j128 : J 128 n = nI m := by rw [n1, if_neg (by omega), if_pos ⟨rfl, rfl⟩]
  have j123 : J 123 (7 + m) = nI (a (7 + m)) := by
    rw [fr.1 123 _ (by decide) (by decide) (by decide) (by decide), hst _ (by omega), q_vn (by omega)]
  have e163 : z_M 163 [.ref 122, .int (nI p), .int (nI m)] (I, L, d) = (if ¬ nI (a (7 + m)) = 0 then z_bd (z_M 161 [.ref 122, .int (nI p), .int 0] (J, L, d)) (fun r3 h4 => some (1, h4)) else z_bd (z_M 162 [.ref 122] (J, L, d)) (fun r5 h6 => some (0, h6))) := by
    have a1 : (100 : Int32) + nI m = nI (100 + m) := by rw [n_100, nI_add]
    have a2 : (7 : Int32) + nI m = nI (7 + m) := by rw [n_7, nI_add]
    have a3 : nI m + 101 = nI (m + 101) := nI_add _ 101
    obtain ⟨K, eK⟩ : ∃ K, K = q_wr (q_wr I 130 (100 + m) 1) 122 19 (31 * s.1 + nI (m + 101)) := ⟨_, rfl⟩
    have k19 : q_wr I 130 (100 + m) 1 122 19 = s.1 := by rw [q_wr1, if_neg (by omega)]; exact r19
    have k17 : K 122 17 = nI n := by rw [eK, q_wr1, if_neg (by omega), q_wr1, if_neg (by omega)]; exact h17
    have k17' : q_wr K 128 n (nI m) 122 17 = nI n := by rw [q_wr1, if_neg (by omega)]; exact k17
    have kJ : q_wr (q_wr K 128 n (nI m)) 122 17 (nI (n + 1)) = J := by rw [eJ, eK]
    rw [e_M_enters, a1, a2, a3, q_inC (show 100 + m < 216 by omega) (by decide), nI_clamp (show 100 + m < 2 ^ 31 by omega)]
    show z_bd (z_M 160 [.ref 122, .int (nI (m + 101))] (q_wr I 130 (100 + m) 1, L, d)) _ = _
    rw [q_mSays, k19, ← eK, z_bd_some]
    show (bif z_in (K 122 17) 5 then (bif z_in (nI (7 + m)) 549 then (if ¬ q_wr (q_wr K 128 ((K 122 17).toNatClampNeg) (nI m)) 122 17 (q_wr K 128 ((K 122 17).toNatClampNeg) (nI m) 122 17 + 1) 123 ((nI (7 + m)).toNatClampNeg) = 0 then z_bd (z_M 161 [.ref 122, .int (nI p), .int 0] (q_wr (q_wr K 128 ((K 122 17).toNatClampNeg) (nI m)) 122 17 (q_wr K 128 ((K 122 17).toNatClampNeg) (nI m) 122 17 + 1), L, d)) (fun r3 h4 => some (1, h4)) else z_bd (z_M 162 [.ref 122] (q_wr (q_wr K 128 ((K 122 17).toNatClampNeg) (nI m)) 122 17 (q_wr K 128 ((K 122 17).toNatClampNeg) (nI m) 122 17 + 1), L, d)) (fun r5 h6 => some (0, h6))) else none) else none) = _
    rw [k17, q_inC (show n < 5 by omega) (by decide), q_inC (show 7 + m < 549 by omega) (by decide), nI_clamp (show n < 2 ^ 31 by omega), k17', nI_1, kJ, nI_clamp (show 7 + m < 2 ^ 31 by omega), j123]
  have g := q_e0_ok (m := m) (by omega) hk
  unfold q_e1
  by_cases h0 : a (7 + m) = 0
  · rw [if_pos h0]
    obtain ⟨J2, eJ2⟩ : ∃ J2, J2 = q_wr (q_wr J 122 17 (nI n)) 122 21 (if n = 0 then 1 else 0) := ⟨_, rfl⟩
    have n2 : ∀ o k, J2 o k = if o = 122 ∧ k = 21 then (if n = 0 then 1 else 0) else if o = 122 ∧ k = 17 then nI n else J o k := fun o k => by rw [eJ2, q_wr1, q_wr1]
    have fr2 : q_frM n J J2 := by
      rw [eJ2]
      exact (q_frM.wr J _ (Or.inl (by omega))).trans (q_frM.wr _ _ (Or.inl (by omega)))
    refine ⟨0, J2, ?_, Or.inl ⟨rfl, fr.trans fr2, ⟨?_, ?_, ?_, fun x hx => ?_⟩, hcut, ?_, ?_⟩⟩
    · have e162 : z_M 162 [.ref 122] (J, L, d) = some (0, (J2, L, d)) := by
        rw [e_M_comesBack]
        have e0 : J 122 17 - 1 = nI n := by rw [j17, nI_pred]
        show (if ¬ (q_wr J 122 17 (J 122 17 - 1)) 122 17 = 0 then some (0, (q_wr (q_wr J 122 17 (J 122 17 - 1)) 122 21 0, L, d)) else some (0, (q_wr (q_wr J 122 17 (J 122 17 - 1)) 122 21 1, L, d))) = _
        have w17 : q_wr J 122 17 (nI n) 122 17 = nI n := by rw [q_wr1, if_pos ⟨rfl, rfl⟩]
        rw [e0, w17, eJ2]
        by_cases hn0 : n = 0
        · rw [hn0, if_neg (show ¬ ¬ nI 0 = 0 from fun q => q rfl), if_pos rfl]
        · rw [if_pos (show ¬ nI n = 0 from nI_ne0 (by omega) (by omega)), if_neg hn0]
      rw [e163, h0, if_neg (show ¬ ¬ nI 0 = 0 from fun q => q rfl), e162, z_bd_some]
    · rw [n2, if_neg (by omega), if_neg (by omega)]; exact hrJ.1
    · rw [n2, if_neg (by omega), if_neg (by omega)]; exact hrJ.2.1
    · rw [n2, if_neg (by omega), if_neg (by omega)]; exact hrJ.2.2.1
    · rw [n2, if_neg (by omega), if_neg (by omega)]; exact hrJ.2.2.2 x hx
    · rw [n2, if_neg (by omega), if_pos ⟨rfl, rfl⟩]
    · rw [n2, if_pos ⟨rfl, rfl⟩]
  · rw [if_neg h0]
    have hg : 61 ≤ 61 + (q_e0 m s).2.1 := by omega
    obtain ⟨J2, w1, w2⟩ := q_mLoop (L := L) (d := d) ho hp hc hb hn hsub hsb hm 61 0 (q_e0 m s) J (by omega) hg (fr.st hst) j17 j21 j128 hrJ g.1 (by have := g.2.1; have := g.2.2; omega) hcut
    refine ⟨1, J2, ?_, Or.inr ⟨rfl, w2.fr fr⟩⟩
    rw [e163, if_pos (show ¬ nI (a (7 + m)) = 0 from nI_ne0 (by omega) (by omega)), show z_M 161 [.ref 122, .int (nI p), .int 0] (J, L, d) = some (0, (J2, L, d)) from w1, z_bd_some]
theorem q_mEnt (ho : q_ok a) (hp : p < 2) (hc : c < a 1) (hb : b < 256) : ∀ k, k ≤ 4 → q_EM a p c b (4 - k) L d (q_ent a p c b k) := by
  intro k
  induction k with
  | zero => intro _; exact q_mEnt1 ho hp hc hb (by omega) (Or.inr ⟨rfl, rfl⟩) (fun m s _ h => q_stp.refl h)
  | succ k ih =>
    intro hk
    have h := ih (by omega)
    rw [show 4 - k = 4 - (k + 1) + 1 by omega] at h
    exact q_mEnt1 ho hp hc hb (by omega) (Or.inl ⟨by omega, h⟩) (q_ent_ok ho hp hc k)
/-- a run by the reference -/
theorem q_mRuns {I : Nat → Nat → Int32} (ho : q_ok a) (hp : p < 2) (hc : c < a 1) (hb : b < 256) (hst : ∀ j, j < 549 → I 123 j = q_v (a j)) : ∃ J, z_M 166 [.ref 122, .int (nI p), .int (nI c), .int (nI b)] (I, L, d) = some (0, (J, L, d)) ∧ q_rs J (q_run a p c b) ∧ q_frM 0 I J := by
  obtain ⟨H, eH⟩ : ∃ H, H = q_it (fun i h => z_wI h 130 (0 + i) 0) 0 216 (I, L, d) := ⟨_, rfl⟩
  have rH := q_fill (o := 130) (c := 0) (v := fun _ => 0) 216 0 (I, L, d)
  rw [← eH] at rH
  obtain ⟨rH1, rH2⟩ := rH
  obtain ⟨H1, hH⟩ : ∃ H1, H = (H1, L, d) := ⟨H.1, by
    have : H.2 = (L, d) := rH2
    exact Prod.ext rfl this⟩
  rw [hH] at rH1 eH
  have rH1 : ∀ o k, H1 o k = if o = 130 ∧ k < 216 then 0 else I o k := fun o k => by
    have := rH1 o k
    rw [show (H1, L, d).1 o k = H1 o k from rfl] at this
    rw [this]
    by_cases hk : o = 130 ∧ k < 216
    · rw [if_pos (by omega), if_pos hk]
    · rw [if_neg (by omega), if_neg hk]
  obtain ⟨J, eJ⟩ : ∃ J, J = q_wr (q_wr (q_wr (q_wr H1 122 17 0) 122 18 0) 122 19 0) 122 20 0 := ⟨_, rfl⟩
  have n1 : ∀ o k, J o k = if o = 122 ∧ k = 20 then 0 else if o = 122 ∧ k = 19 then 0 else if o = 122 ∧ k = 18 then 0 else if o = 122 ∧ k = 17 then 0 else H1 o k := fun o k => by rw [eJ, q_wr1, q_wr1, q_wr1, q_wr1]
  have frH : q_frM 0 I H1 := ⟨fun o k q1 q2 q3 q4 => by rw [rH1, if_neg (by omega)], fun k q => by rw [rH1, if_neg (by omega)], fun j hj => absurd hj (by omega)⟩
  have fr : q_frM 0 I J := by
    rw [eJ]
    exact (((frH.trans (q_frM.wr _ _ (Or.inl (by omega)))).trans (q_frM.wr _ _ (Or.inl (by omega)))).trans (q_frM.wr _ _ (Or.inl (by omega)))).trans (q_frM.wr _ _ (Or.inl (by omega)))
  have hrJ : q_rs J q_s0 := by
    refine ⟨?_, ?_, ?_, fun e he => ?_⟩
    · rw [n1, if_neg (by omega), if_neg (by omega), if_pos ⟨rfl, rfl⟩]; rfl
    · rw [n1, if_neg (by omega), if_pos ⟨rfl, rfl⟩]; rfl
    · rw [n1, if_pos ⟨rfl, rfl⟩]; rfl
    · rw [n1, if_neg (by omega), if_neg (by omega), if_neg (by omega), if_neg (by omega), rH1, if_pos ⟨rfl, he⟩]; rfl
  have j17 : J 122 17 = nI 0 := by rw [n1, if_neg (by omega), if_neg (by omega), if_neg (by omega), if_pos ⟨rfl, rfl⟩]; rfl
  have o0 := ho.1
  have j123 : J 123 0 = nI (a 0) := by
    rw [fr.1 123 _ (by decide) (by decide) (by decide) (by decide), hst _ (by omega), q_vn (by omega)]
  have e3 : z_M 166 [.ref 122, .int (nI p), .int (nI c), .int (nI b)] (I, L, d) = (if ¬ nI (a 0) = 0 then zl_M_runs_60 (nI p) (nI c) (nI b) 0 (J, L, d) else zl_M_runs_60 (nI p) (nI c) (nI b) 1 (J, L, d)) := by
    rw [e_M_runs]
    have hl := q_loop (L := fun x h => zl_M_runs_3 (nI p) (nI c) (nI b) x h) (K := fun h => zl_M_runs_3 (nI p) (nI c) (nI b) (nI 216) h) (N := 216) (w := fun i h => z_wI h 130 (0 + i) 0) (fun i h hi => by
      show zl_M_runs_3 (nI p) (nI c) (nI b) (nI i) h = _
      rw [e_M_runs_3, n_216, if_neg (nI_ge hi (by decide)), q_inC hi (by decide), nI_clamp (by omega), Nat.zero_add]) (fun h => rfl) 216 0 (I, L, d) rfl
    refine (show zl_M_runs_3 (nI p) (nI c) (nI b) 0 (I, L, d) = _ from hl).trans ?_
    rw [← eH, e_M_runs_3, if_pos (by decide)]
    show (if ¬ (q_wr (q_wr (q_wr (q_wr H1 122 17 0) 122 18 0) 122 19 0) 122 20 0) 123 0 = 0 then zl_M_runs_60 (nI p) (nI c) (nI b) 0 (q_wr (q_wr (q_wr (q_wr H1 122 17 0) 122 18 0) 122 19 0) 122 20 0, L, d) else zl_M_runs_60 (nI p) (nI c) (nI b) 1 (q_wr (q_wr (q_wr (q_wr H1 122 17 0) 122 18 0) 122 19 0) 122 20 0, L, d)) = _
    rw [← eJ, j123]
  rw [e3]
  unfold q_run
  by_cases h0 : a 0 = 0
  · rw [h0, if_neg (show ¬ ¬ nI 0 = 0 from fun q => q rfl), if_pos rfl]
    have fr2 : q_frM 0 J (q_wr J 122 21 1) := q_frM.wr J _ (Or.inl (by omega))
    refine ⟨q_wr J 122 21 1, ?_, ⟨?_, ?_, ?_, fun e he => ?_⟩, fr.trans fr2⟩
    · have w21 : q_wr J 122 21 1 122 21 = 1 := by rw [q_wr1, if_pos ⟨rfl, rfl⟩]
      rw [e_M_runs_60]
      show (bif (true && (decide ((1 : Int32) = 0) || decide ((1 : Int32) = 1))) then (if ¬ q_wr J 122 21 1 122 21 = 0 then zl_M_runs_77 (nI p) (nI c) (nI b) (q_wr J 122 21 1, L, d) else _) else none) = _
      rw [w21, if_pos (by decide), q_mOver w21]
      rfl
    · rw [q_wr1, if_neg (by omega)]; exact hrJ.1
    · rw [q_wr1, if_neg (by omega)]; exact hrJ.2.1
    · rw [q_wr1, if_neg (by omega)]; exact hrJ.2.2.1
    · rw [q_wr1, if_neg (by omega)]; exact hrJ.2.2.2 e he
  · rw [if_pos (show ¬ nI (a 0) = 0 from nI_ne0 (by omega) (by omega)), if_neg h0]
    obtain ⟨J1, eJ1⟩ : ∃ J1, J1 = q_wr J 122 21 0 := ⟨_, rfl⟩
    have n2 : ∀ o k, J1 o k = if o = 122 ∧ k = 21 then 0 else J o k := fun o k => by rw [eJ1, q_wr1]
    have fr2 : q_frM 0 J J1 := by rw [eJ1]; exact q_frM.wr J _ (Or.inl (by omega))
    have j21 : J1 122 21 = 0 := by rw [n2, if_pos ⟨rfl, rfl⟩]
    have hr1 : q_rs J1 q_s0 := by
      refine ⟨?_, ?_, ?_, fun e he => ?_⟩
      · rw [n2, if_neg (by omega)]; exact hrJ.1
      · rw [n2, if_neg (by omega)]; exact hrJ.2.1
      · rw [n2, if_neg (by omega)]; exact hrJ.2.2.1
      · rw [n2, if_neg (by omega)]; exact hrJ.2.2.2 e he
    have hk0 : q_sk q_s0 := ⟨by decide, fun _ _ => rfl⟩
    have e60 : zl_M_runs_60 (nI p) (nI c) (nI b) 0 (J, L, d) = z_bd (z_M 163 [.ref 122, .int (nI p), .int 0] (J1, L, d)) (fun r1 h2 => zl_M_runs_77 (nI p) (nI c) (nI b) h2) := by
      rw [e_M_runs_60]
      show (bif (true && (decide ((0 : Int32) = 0) || decide ((0 : Int32) = 1))) then (if ¬ q_wr J 122 21 0 122 21 = 0 then _ else z_bd (z_M 163 [.ref 122, .int (nI p), .int 0] (q_wr J 122 21 0, L, d)) (fun r1 h2 => zl_M_runs_77 (nI p) (nI c) (nI b) h2)) else none) = _
      rw [← eJ1, j21, if_neg (fun q => q rfl)]
      rfl
    obtain ⟨r, J2, w1, w2⟩ := q_mEnt (L := L) (d := d) ho hp hc hb 4 (Nat.le_refl _) 0 q_s0 J1 (by omega) hk0 (Nat.le_refl _) rfl ((fr.trans fr2).st hst) hr1 (by rw [n2, if_neg (by omega)]; exact j17) j21
    rw [e60, show z_M 163 [.ref 122, .int (nI p), .int 0] (J1, L, d) = some (r, (J2, L, d)) from w1, z_bd_some]
    rcases w2 with ⟨-, f1, f2, f3, f4, f5⟩ | ⟨-, J3, f1, f2, f3⟩
    · exact ⟨J2, q_mOver f5, f2, (fr.trans fr2).trans f1⟩
    · rcases f3 with ⟨-, g2⟩ | ⟨-, g2, -⟩
      · exact ⟨J3, g2, f2, (fr.trans fr2).trans f1⟩
      · omega
end QML
