/-! THE PURE PART: the reference finds the order -/
def q_mq (a : Nat → Nat) (I : Nat → Nat → Int32) (s : q_O) (mt : Nat → Bool) : Prop := I 122 28 = nI s.1 ∧ (∀ i, i < s.1 → I 135 i = nI (s.2.1 i) ∧ I 136 i = nI (s.2.2.1 i)) ∧ (∀ t, t < 8 → I 134 t = q_b (!decide (s.2.2.2.1 t = 999))) ∧ q_mE I (q_dg a) ∧ (∀ e, e < 216 → I 133 e = q_b (mt e)) ∧ ∀ e, e < 216 → s.2.2.2.2 e = (q_dg a e && !mt e)
/-- Run alone is written -/
theorem q_mq.run {a : Nat → Nat} {I I' : Nat → Nat → Int32} {s : q_O} {mt : Nat → Bool} (h : q_mq a I s mt) (f : q_frM 0 I I') : q_mq a I' s mt := by
  obtain ⟨h1, h2, h3, h4, h5, h6⟩ := h
  have e : ∀ o k, 131 ≤ o → I' o k = I o k := fun o k q => f.1 o k (by omega) (by omega) (by omega) (by omega)
  exact ⟨(f.2.1 28 (by omega)).trans h1, fun i hi => ⟨(e _ _ (by omega)).trans (h2 i hi).1, (e _ _ (by omega)).trans (h2 i hi).2⟩, fun t ht => (e _ _ (by omega)).trans (h3 t ht), fun x hx => (e _ _ (by omega)).trans (h4 x hx), fun x hx => (e _ _ (by omega)).trans (h5 x hx), h6⟩
section QMO
variable {a : Nat → Nat} {L : Nat → Nat → Int64} {d : Nat} {s : q_O} {mt : Nat → Bool}
theorem q_mDo {I : Nat → Nat → Int32} {t : Nat} (ho : q_ok a) (hst : ∀ j, j < 549 → I 123 j = q_v (a j)) (hr : q_mq a I s mt) (ht : t < a 2) (fr : Bool) : ∃ J, z_M 174 [.ref 122, .int (nI t), .int (q_b fr)] (I, L, d) = some (nI (if fr = true then q_fs a s.2.2.2.2 t else q_da a t), (J, L, d)) ∧ q_frM 0 I J := by
  obtain ⟨J, k1, k2, k3⟩ := q_mRunT (L := L) (d := d) (p := 0) ho hst (by decide) ht
  have hr' := hr.run k3
  obtain ⟨-, -, -, r4, r5, r6⟩ := hr'
  obtain ⟨G, hG⟩ : ∃ G : Nat → Bool, G = fun e => q_cv a t e && (q_dg a e && (!fr || !mt e)) := ⟨_, rfl⟩
  have hl : ∀ n e, e + n = 216 → zl_M_dangersOf_11 (q_b fr) (nI (fb_ct G e)) (nI e) (J, L, d) = some (nI (fb_ct G 216), (J, L, d)) := by
    intro n
    induction n with
    | zero =>
      intro e he
      obtain rfl : e = 216 := by omega
      rw [e_M_dangersOf_11, if_pos (by decide)]
    | succ n ih =>
      intro e he
      have hn := ih (e + 1) (by omega)
      rw [fb_ct_succ] at hn
      have ei : z_in (nI e) 216 = true := q_int (by omega) (by decide)
      have j130 : J 130 e = q_b (q_cv a t e) := k2.2.2.2 e (by omega)
      have f0 : ∀ h, z_M 128 [.int 0] h = some (nI 0, h) := fun h => q_flag false h
      have f1 : ∀ h, z_M 128 [.int 1] h = some (nI 1, h) := fun h => q_flag true h
      have e1 : zl_M_dangersOf_11 (q_b fr) (nI (fb_ct G e)) (nI e) (J, L, d) = (if q_b (q_cv a t e) = 0 then zl_M_dangersOf_11 (q_b fr) (nI (fb_ct G e + 0)) (nI (e + 1)) (J, L, d) else (if q_b (q_dg a e) = 0 then zl_M_dangersOf_11 (q_b fr) (nI (fb_ct G e + 0)) (nI (e + 1)) (J, L, d) else (if q_b fr = 0 then zl_M_dangersOf_11 (q_b fr) (nI (fb_ct G e + 1)) (nI (e + 1)) (J, L, d) else (if ¬ q_b (mt e) = 0 then zl_M_dangersOf_11 (q_b fr) (nI (fb_ct G e + 0)) (nI (e + 1)) (J, L, d) else zl_M_dangersOf_11 (q_b fr) (nI (fb_ct G e + 1)) (nI (e + 1)) (J, L, d))))) := by
        rw [e_M_dangersOf_11, n_216, if_neg (nI_ge (by omega) (by decide)), ei, nI_clamp (by omega), f0, f1, nI_1]
        simp only [cond_true, z_bd_some, nI_add]
        show (if J 130 e = 0 then _ else (if J 131 e = 0 then _ else (if q_b fr = 0 then _ else (if ¬ J 133 e = 0 then _ else _)))) = _
        rw [j130, r4 e (by omega), r5 e (by omega)]
      rw [e1]
      have hGe : G e = (q_cv a t e && (q_dg a e && (!fr || !mt e))) := by rw [hG]
      rw [hGe] at hn
      cases hc : q_cv a t e with
      | false =>
        rw [hc] at hn
        rw [if_pos (by decide)]
        exact hn
      | true =>
        rw [hc] at hn
        rw [if_neg (by decide)]
        cases hd : q_dg a e with
        | false =>
          rw [hd] at hn
          rw [if_pos (by decide)]
          exact hn
        | true =>
          rw [hd] at hn
          rw [if_neg (by decide)]
          cases fr with
          | false =>
            rw [if_pos (by decide)]
            exact hn
          | true =>
            rw [if_neg (by decide)]
            cases hm : mt e with
            | true =>
              rw [hm] at hn
              rw [if_pos (by decide)]
              exact hn
            | false =>
              rw [hm] at hn
              rw [if_neg (fun q => q (by decide))]
              exact hn
  have hGc : fb_ct G 216 = (if fr = true then q_fs a s.2.2.2.2 t else q_da a t) := by
    cases fr with
    | true =>
      rw [if_pos rfl]
      refine fb_ct_cong (p := G) (q := fun e => q_cv a t e && s.2.2.2.2 e) (n := 216) (fun e he => ?_)
      rw [hG, r6 e he]
      rfl
    | false =>
      rw [if_neg (by decide)]
      refine fb_ct_cong (p := G) (q := fun e => q_cv a t e && q_dg a e) (n := 216) (fun e he => ?_)
      rw [hG]
      show (q_cv a t e && (q_dg a e && (true || !mt e))) = _
      rw [Bool.true_or, Bool.and_true]
  refine ⟨J, ?_, k3⟩
  rw [e_M_dangersOf, show z_M 168 [.ref 122, .int 0, .int (nI t)] (I, L, d) = _ from k1, z_bd_some, ← hGc]
  exact hl 216 0 rfl
theorem q_mBest (ho : q_ok a) (hs : q_oi a s) : ∀ f t b w I, t + f = a 2 → (b = 999 ∨ b < t) → w ≤ 216 → (∀ j, j < 549 → I 123 j = q_v (a j)) → q_mq a I s mt → ∃ J, zl_M_findOrder_66 (q_v b) (nI w) (nI t) (I, L, d) = zl_M_findOrder_156 (q_v (q_bs a s.2.2.2.1 s.2.2.2.2 f t b w).1) (nI (q_bs a s.2.2.2.1 s.2.2.2.2 f t b w).2) (if (q_bs a s.2.2.2.1 s.2.2.2.2 f t b w).1 = 999 then 0 else 1) (J, L, d) ∧ q_frM 0 I J := by
  have o2 := ho.2.2.1
  intro f
  induction f with
  | zero =>
    intro t b w I ht hb hw hst hr
    refine ⟨I, ?_, q_frM.refl⟩
    rw [e_M_findOrder_66]
    show (if I 123 2 ≤ nI t then _ else _) = zl_M_findOrder_156 (q_v b) (nI w) (if b = 999 then 0 else 1) (I, L, d)
    rw [hst 2 (by omega), q_vn (by omega), if_pos (nI_le (by omega) (by omega))]
    by_cases hb9 : b = 999
    · rw [hb9, if_pos (show q_v 999 = -4 from rfl), if_pos rfl]
    · rw [if_neg (q_vm (by omega)), if_neg hb9]
  | succ f ih =>
    intro t b w I ht hb hw hst hr
    have htl : t < a 2 := by omega
    have hda := q_da_b a t
    have hfs := q_fs_b a s.2.2.2.2 t
    have hct := q_cs2_b ho htl
    have hri := hs.2.2.1 t
    have hle := q_oi_le hs
    have ti : z_in (nI t) 8 = true := q_int (by omega) (by decide)
    obtain ⟨J1, k1, k2⟩ := q_mDo (L := L) (d := d) ho hst hr htl false
    have k1 : z_M 174 [.ref 122, .int (nI t), .int 0] (I, L, d) = some (nI (q_da a t), (J1, L, d)) := k1
    have hst1 := k2.st hst
    have hr1 := hr.run k2
    obtain ⟨J2, j1, j2⟩ := q_mDo (L := L) (d := d) ho hst1 hr1 htl true
    have j1 : z_M 174 [.ref 122, .int (nI t), .int 1] (J1, L, d) = some (nI (q_fs a s.2.2.2.2 t), (J2, L, d)) := j1
    have hst2 := j2.st hst1
    have hr2 := hr1.run j2
    have e1 : zl_M_findOrder_66 (q_v b) (nI w) (nI t) (I, L, d) = (if ¬ q_b (!decide (s.2.2.2.1 t = 999)) = 0 then zl_M_findOrder_66 (q_v b) (nI w) (nI (t + 1)) (I, L, d) else (if nI (q_da a t) ≤ 0 then zl_M_findOrder_66 (q_v b) (nI w) (nI (t + 1)) (J1, L, d) else (if q_v b = (-4) then zl_M_findOrder_66 (nI t) (nI (q_fs a s.2.2.2.2 t)) (nI (t + 1)) (J2, L, d) else z_bd (z_M 167 [.ref 122, .int (q_v b), .int 2] (J2, L, d)) (fun r5 h6 => z_bd (z_M 167 [.ref 122, .int (nI t), .int 2] h6) (fun r7 h8 => (if nI (q_fs a s.2.2.2.2 t) * r5 ≤ nI w * r7 then zl_M_findOrder_66 (q_v b) (nI w) (nI (t + 1)) h8 else zl_M_findOrder_66 (nI t) (nI (q_fs a s.2.2.2.2 t)) (nI (t + 1)) h8)))))) := by
      rw [e_M_findOrder_66]
      show (if I 123 2 ≤ nI t then _ else (bif z_in (nI t) 8 then (if ¬ I 134 ((nI t).toNatClampNeg) = 0 then _ else _) else none)) = _
      rw [hst 2 (by omega), q_vn (by omega), if_neg (nI_ge (by omega) (by omega)), ti, cond_true, nI_clamp (by omega), hr.2.2.1 t (by omega), k1, z_bd_some, j1, z_bd_some, nI_1]
    rw [e1]
    by_cases h9 : s.2.2.2.1 t = 999
    · rw [decide_eq_true h9, if_neg (show ¬ ¬ q_b (!true) = 0 from fun q => q rfl)]
      by_cases hd0 : q_da a t = 0
      · rw [hd0, if_pos (by decide), q_bs_n (fun h => by have := h.2.1; omega)]
        obtain ⟨J, u1, u2⟩ := ih (t + 1) b w J1 (by omega) (by omega) hw hst1 hr1
        exact ⟨J, u1, k2.trans u2⟩
      · rw [if_neg (nI_nle (by omega) (by omega))]
        by_cases hb9 : b = 999
        · obtain ⟨J, u1, u2⟩ := ih (t + 1) t (q_fs a s.2.2.2.2 t) J2 (by omega) (Or.inr (by omega)) hfs hst2 hr2
          rw [q_vn (show t ≠ 999 by omega)] at u1
          rw [q_bs_y ⟨h9, by omega, Or.inl hb9⟩, hb9, if_pos (show q_v 999 = -4 from rfl)]
          exact ⟨J, u1, (k2.trans j2).trans u2⟩
        · have hbt := hb.resolve_left hb9
          have hcb := q_cs2_b ho (show b < a 2 by omega)
          have m1 : q_fs a s.2.2.2.2 t * q_cs2 a b ≤ 216 * 9 := Nat.mul_le_mul hfs hcb.2
          have m2 : w * q_cs2 a t ≤ 216 * 9 := Nat.mul_le_mul hw hct.2
          have c3 : z_M 167 [.ref 122, .int (nI t), .int 2] (J2, L, d) = some (nI (q_cs2 a t), (J2, L, d)) := q_ofT (k := 2) ho hst2 htl (by decide)
          have c4 : z_M 167 [.ref 122, .int (nI b), .int 2] (J2, L, d) = some (nI (q_cs2 a b), (J2, L, d)) := q_ofT (k := 2) ho hst2 (show b < a 2 by omega) (by decide)
          have hvb := q_vm (v := b) (by omega)
          rw [if_neg hvb]
          rw [q_vn hb9] at *
          rw [c4, z_bd_some, c3, z_bd_some, pk_mul, pk_mul]
          by_cases hcmp : w * q_cs2 a t < q_fs a s.2.2.2.2 t * q_cs2 a b
          · obtain ⟨J, u1, u2⟩ := ih (t + 1) t (q_fs a s.2.2.2.2 t) J2 (by omega) (Or.inr (by omega)) hfs hst2 hr2
            rw [q_vn (show t ≠ 999 by omega)] at u1
            rw [if_neg (nI_ge hcmp (by omega)), q_bs_y ⟨h9, by omega, Or.inr hcmp⟩]
            exact ⟨J, u1, (k2.trans j2).trans u2⟩
          · obtain ⟨J, u1, u2⟩ := ih (t + 1) b w J2 (by omega) (by omega) hw hst2 hr2
            rw [q_vn hb9] at u1
            rw [if_pos (nI_le (by omega) (by omega)), q_bs_n (fun h => by
              rcases h.2.2 with h | h
              · exact hb9 h
              · exact hcmp h)]
            exact ⟨J, u1, (k2.trans j2).trans u2⟩
    · rw [decide_eq_false h9, if_pos (show ¬ q_b (!false) = 0 by decide), q_bs_n (fun h => h9 h.1)]
      exact ih (t + 1) b w I (by omega) (by omega) hw hst hr
/-- only the order's own is written -/
def q_frQ (I I' : Nat → Nat → Int32) : Prop := ∀ o k, ¬ (o = 122 ∧ 17 ≤ k ∧ k ≤ 28) → ¬ (128 ≤ o ∧ o ≤ 136) → I' o k = I o k
theorem q_frQ.refl {I : Nat → Nat → Int32} : q_frQ I I := fun _ _ _ _ => rfl
theorem q_frQ.trans {I I' I2 : Nat → Nat → Int32} (h1 : q_frQ I I') (h2 : q_frQ I' I2) : q_frQ I I2 := fun o k q1 q2 => (h2 o k q1 q2).trans (h1 o k q1 q2)
theorem q_frQ.st {I I' : Nat → Nat → Int32} (h : q_frQ I I') (hst : ∀ j, j < 549 → I 123 j = q_v (a j)) : ∀ j, j < 549 → I' 123 j = q_v (a j) := fun j hj => (h 123 j (by omega) (by omega)).trans (hst j hj)
theorem q_frM.Q {I I' : Nat → Nat → Int32} (h : q_frM 0 I I') : q_frQ I I' := h.R (L := fun _ _ => 0) (L' := fun _ _ => 0) (d := 0) (d' := 0)
theorem q_frE.Q {I I' : Nat → Nat → Int32} (h : q_frE I I') : q_frQ I I' := fun o k _ q2 => h o k (by omega) (by omega)
theorem q_frQ.R {I I' : Nat → Nat → Int32} {L L' : Nat → Nat → Int64} {d d' : Nat} (h : q_frQ I I') : q_frR (I, L, d) (I', L', d') := h
theorem q_mComes {I : Nat → Nat → Int32} {b w : Nat} (ho : q_ok a) (hst : ∀ j, j < 549 → I 123 j = q_v (a j)) (hr : q_mq a I s mt) (hb : b < a 2) (hk : s.1 < a 2) (hw : w = q_fs a s.2.2.2.2 b) : ∃ J mt', z_M 176 [.ref 122, .int (nI b), .int (nI w)] (I, L, d) = some (0, (J, L, d)) ∧ q_frQ I J ∧ q_mq a J (q_ou a s b) mt' := by
  have o2 := ho.2.2.1
  obtain ⟨r0, r1, r2, r3, r4, r5⟩ := hr
  obtain ⟨I1, eI1⟩ : ∃ I1, I1 = q_wr (q_wr (q_wr (q_wr I 135 s.1 (nI b)) 136 s.1 (nI w)) 122 28 (nI (s.1 + 1))) 134 b 1 := ⟨_, rfl⟩
  have n1 : ∀ o k, I1 o k = if o = 134 ∧ k = b then 1 else if o = 122 ∧ k = 28 then nI (s.1 + 1) else if o = 136 ∧ k = s.1 then nI w else if o = 135 ∧ k = s.1 then nI b else I o k := fun o k => by rw [eI1, q_wr1, q_wr1, q_wr1, q_wr1]
  have fQ1 : q_frQ I I1 := fun o k q1 q2 => by rw [n1, if_neg (by omega), if_neg (by omega), if_neg (by omega), if_neg (by omega)]
  obtain ⟨J1, k1, k2, k3⟩ := q_mRunT (L := L) (d := d) (p := 0) ho (fQ1.st hst) (by decide) hb
  have e2 : ∀ o k, 131 ≤ o → J1 o k = I1 o k := fun o k q => k3.1 o k (by omega) (by omega) (by omega) (by omega)
  obtain ⟨H, eH⟩ : ∃ H : z_H, H = q_it (fun e h => z_wI h 133 (0 + e) (q_b (mt e || (q_cv a b e && q_dg a e)))) 0 216 (J1, L, d) := ⟨_, rfl⟩
  have rH := q_fill (o := 133) (c := 0) (v := fun e => q_b (mt e || (q_cv a b e && q_dg a e))) 216 0 (J1, L, d)
  rw [← eH] at rH
  obtain ⟨rH1, rH2⟩ := rH
  obtain ⟨J, hH⟩ : ∃ J, H = (J, L, d) := ⟨H.1, by
    have : H.2 = (L, d) := rH2
    exact Prod.ext rfl this⟩
  rw [hH] at rH1 eH
  have r9 : ∀ o k, J o k = if o = 133 ∧ k < 216 then q_b (mt k || (q_cv a b k && q_dg a k)) else J1 o k := fun o k => by
    have := rH1 o k
    rw [show (J, L, d).1 o k = J o k from rfl] at this
    rw [this]
    by_cases hk : o = 133 ∧ k < 216
    · rw [if_pos (by omega), if_pos hk, Nat.sub_zero]
    · rw [if_neg (by omega), if_neg hk]
  have hl : ∀ n e h, e + n = 216 → (∀ x, x < 216 → h.1 130 x = q_b (q_cv a b x)) → (∀ x, x < 216 → h.1 131 x = q_b (q_dg a x)) → (∀ x, e ≤ x → x < 216 → h.1 133 x = q_b (mt x)) → zl_M_comesNext_45 (nI e) h = some (0, q_it (fun e h => z_wI h 133 (0 + e) (q_b (mt e || (q_cv a b e && q_dg a e)))) e n h) := by
    intro n
    induction n with
    | zero =>
      intro e h he _ _ _
      obtain rfl : e = 216 := by omega
      rw [e_M_comesNext_45, if_pos (by decide)]
      rfl
    | succ n ih =>
      intro e h he h130 h131 h133
      have ei : z_in (nI e) 216 = true := q_int (by omega) (by decide)
      have e1 : zl_M_comesNext_45 (nI e) h = zl_M_comesNext_45 (nI (e + 1)) (z_wI h 133 e (q_b (mt e || (q_cv a b e && q_dg a e)))) := by
        rw [e_M_comesNext_45, n_216, if_neg (nI_ge (by omega) (by decide)), ei, nI_clamp (by omega), h133 e (Nat.le_refl _) (by omega), h130 e (by omega), h131 e (by omega), nI_1]
        simp only [cond_true]
        cases mt e with
        | true => rw [if_pos (by decide)]; rfl
        | false =>
          rw [if_neg (fun q => q (by decide))]
          cases q_cv a b e with
          | false => rw [if_pos (by decide)]; rfl
          | true =>
            rw [if_neg (by decide)]
            cases q_dg a e with
            | false => rw [if_pos (by decide)]; rfl
            | true => rw [if_neg (by decide)]; rfl
      rw [e1]
      have := ih (e + 1) (z_wI h 133 e (q_b (mt e || (q_cv a b e && q_dg a e)))) (by omega) (fun x hx => by rw [z_wI1, if_neg (by omega)]; exact h130 x hx) (fun x hx => by rw [z_wI1, if_neg (by omega)]; exact h131 x hx) (fun x x1 x2 => by rw [z_wI1, if_neg (by omega)]; exact h133 x (by omega) x2)
      rw [this]
      show _ = some (0, q_it _ (e + 1) n (z_wI h 133 (0 + e) _))
      rw [Nat.zero_add]
  have fQ2 : q_frQ J1 J := fun o k q1 q2 => by rw [r9, if_neg (by omega)]
  refine ⟨J, fun e => mt e || (q_cv a b e && q_dg a e), ?_, (fQ1.trans k3.Q).trans fQ2, ⟨?_, fun i hi => ?_, fun t ht => ?_, fun e he => ?_, fun e he => ?_, fun e he => ?_⟩⟩
  · have w28 : q_wr I 135 s.1 (nI b) 122 28 = nI s.1 := by rw [q_wr1, if_neg (by omega)]; exact r0
    have w28' : q_wr (q_wr I 135 s.1 (nI b)) 136 s.1 (nI w) 122 28 = nI s.1 := by rw [q_wr1, if_neg (by omega)]; exact w28
    rw [e_M_comesNext]
    show (bif z_in (I 122 28) 8 then (bif z_in (q_wr I 135 ((I 122 28).toNatClampNeg) (nI b) 122 28) 8 then (bif z_in (nI b) 8 then z_bd (z_M 168 [.ref 122, .int 0, .int (nI b)] (q_wr (q_wr (q_wr (q_wr I 135 ((I 122 28).toNatClampNeg) (nI b)) 136 ((q_wr I 135 ((I 122 28).toNatClampNeg) (nI b) 122 28).toNatClampNeg) (nI w)) 122 28 (q_wr (q_wr I 135 ((I 122 28).toNatClampNeg) (nI b)) 136 ((q_wr I 135 ((I 122 28).toNatClampNeg) (nI b) 122 28).toNatClampNeg) (nI w) 122 28 + 1)) 134 ((nI b).toNatClampNeg) 1, L, d)) (fun r1 h2 => zl_M_comesNext_45 0 h2) else none) else none) else none) = _
    rw [r0, nI_clamp (show s.1 < 2 ^ 31 by omega), w28, q_inC (show s.1 < 8 by omega) (by decide), q_inC (show s.1 < 8 by omega) (by decide), q_inC (show b < 8 by omega) (by decide), nI_clamp (show s.1 < 2 ^ 31 by omega), w28', nI_1, nI_clamp (show b < 2 ^ 31 by omega), ← eI1, show z_M 168 [.ref 122, .int 0, .int (nI b)] (I1, L, d) = _ from k1, z_bd_some, eH]
    refine hl 216 0 (J1, L, d) rfl (fun x hx => k2.2.2.2 x hx) (fun x hx => ?_) (fun x _ hx => ?_)
    · show J1 131 x = _
      rw [e2 _ _ (by omega), n1, if_neg (by omega), if_neg (by omega), if_neg (by omega), if_neg (by omega)]
      exact r3 x hx
    · show J1 133 x = _
      rw [e2 _ _ (by omega), n1, if_neg (by omega), if_neg (by omega), if_neg (by omega), if_neg (by omega)]
      exact r4 x hx
  · rw [r9, if_neg (by omega), k3.2.1 28 (by omega), n1, if_neg (by omega), if_pos ⟨rfl, rfl⟩]
    rfl
  · have hi : i < s.1 + 1 := hi
    have j135 : J 135 i = if i = s.1 then nI b else I 135 i := by
      rw [r9, if_neg (by omega), e2 _ _ (by omega), n1, if_neg (show ¬ (135 = 134 ∧ i = b) by omega), if_neg (show ¬ (135 = 122 ∧ i = 28) by omega), if_neg (show ¬ (135 = 136 ∧ i = s.1) by omega)]
      by_cases his : i = s.1
      · rw [if_pos ⟨rfl, his⟩, if_pos his]
      · rw [if_neg (fun q => his q.2), if_neg his]
    have j136 : J 136 i = if i = s.1 then nI w else I 136 i := by
      rw [r9, if_neg (by omega), e2 _ _ (by omega), n1, if_neg (show ¬ (136 = 134 ∧ i = b) by omega), if_neg (show ¬ (136 = 122 ∧ i = 28) by omega)]
      by_cases his : i = s.1
      · rw [if_pos ⟨rfl, his⟩, if_pos his]
      · rw [if_neg (fun q => his q.2), if_neg his, if_neg (by omega)]
    show J 135 i = nI (if i = s.1 then b else s.2.1 i) ∧ J 136 i = nI (if i = s.1 then q_fs a s.2.2.2.2 b else s.2.2.1 i)
    rw [j135, j136]
    by_cases his : i = s.1
    · rw [if_pos his, if_pos his, if_pos his, if_pos his, hw]
      exact ⟨rfl, rfl⟩
    · rw [if_neg his, if_neg his, if_neg his, if_neg his]
      exact r1 i (by omega)
  · show _ = q_b (!decide ((if t = b then s.1 else s.2.2.2.1 t) = 999))
    rw [r9, if_neg (by omega), e2 _ _ (by omega), n1]
    by_cases htb : t = b
    · rw [if_pos ⟨rfl, htb⟩, if_pos htb, decide_eq_false (by omega)]
      rfl
    · rw [if_neg (fun q => htb q.2), if_neg htb, if_neg (by omega), if_neg (by omega), if_neg (by omega)]
      exact r2 t ht
  · rw [r9, if_neg (by omega), e2 _ _ (by omega), n1, if_neg (by omega), if_neg (by omega), if_neg (by omega), if_neg (by omega)]
    exact r3 e he
  · rw [r9, if_pos ⟨rfl, he⟩]
  · show (s.2.2.2.2 e && !q_cv a b e) = (q_dg a e && !(mt e || (q_cv a b e && q_dg a e)))
    rw [r5 e he]
    cases q_dg a e <;> cases mt e <;> cases q_cv a b e <;> rfl
theorem q_mOrd (ho : q_ok a) : ∀ f s mt I, a 2 ≤ s.1 + f → q_oi a s → (∀ j, j < 549 → I 123 j = q_v (a j)) → q_mq a I s mt → ∃ J mt', zl_M_findOrder_54 1 (I, L, d) = some (0, (J, L, d)) ∧ q_frQ I J ∧ q_mq a J (q_od a f s) mt' := by
  intro f
  induction f with
  | zero =>
    intro s mt I hf hs hst hr
    obtain ⟨J, k1, k2⟩ := q_mBest (L := L) (d := d) ho hs (a 2) 0 999 0 I (by omega) (Or.inl rfl) (by decide) hst hr
    have hb : (q_bb a s).1 = 999 := by
      by_cases hb : (q_bb a s).1 = 999
      · exact hb
      · have g := (q_bb_ok ho s).1.resolve_left hb
        have := (q_ou_ok ho hs g.1 g.2.1).2
        omega
    refine ⟨J, mt, ?_, k2.Q, hr.run k2⟩
    rw [e_M_findOrder_54, if_neg (by decide), show zl_M_findOrder_66 (-4) 0 0 (I, L, d) = _ from k1]
    show zl_M_findOrder_156 (q_v (q_bb a s).1) (nI (q_bb a s).2) (if (q_bb a s).1 = 999 then 0 else 1) (J, L, d) = _
    rw [hb, if_pos rfl, e_M_findOrder_156, if_pos rfl, e_M_findOrder_54, if_pos rfl]
  | succ f ih =>
    intro s mt I hf hs hst hr
    obtain ⟨J, k1, k2⟩ := q_mBest (L := L) (d := d) ho hs (a 2) 0 999 0 I (by omega) (Or.inl rfl) (by decide) hst hr
    have e0 : zl_M_findOrder_54 1 (I, L, d) = zl_M_findOrder_156 (q_v (q_bb a s).1) (nI (q_bb a s).2) (if (q_bb a s).1 = 999 then 0 else 1) (J, L, d) := by
      rw [e_M_findOrder_54, if_neg (by decide), show zl_M_findOrder_66 (-4) 0 0 (I, L, d) = _ from k1]
      rfl
    have eo : q_od a (f + 1) s = (if (q_bb a s).1 = 999 then s else q_od a f (q_ou a s (q_bb a s).1)) := rfl
    rw [e0, eo]
    by_cases hb : (q_bb a s).1 = 999
    · refine ⟨J, mt, ?_, k2.Q, by rw [if_pos hb]; exact hr.run k2⟩
      rw [hb, if_pos rfl, e_M_findOrder_156, if_pos rfl, e_M_findOrder_54, if_pos rfl]
    · have g := (q_bb_ok ho s).1.resolve_left hb
      have g2 := q_ou_ok ho hs g.1 g.2.1
      obtain ⟨J1, mt1, t1, t2, t3⟩ := q_mComes (L := L) (d := d) ho (k2.st hst) (hr.run k2) g.1 g2.2 g.2.2.2
      obtain ⟨J2, mt2, u1, u2, u3⟩ := ih (q_ou a s (q_bb a s).1) mt1 J1 (by show a 2 ≤ s.1 + 1 + f; omega) g2.1 ((k2.Q.trans t2).st hst) t3
      refine ⟨J2, mt2, ?_, (k2.Q.trans t2).trans u2, by rw [if_neg hb]; exact u3⟩
      rw [if_neg hb, e_M_findOrder_156, if_neg (by decide), q_vn hb, t1, z_bd_some]
      exact u1
theorem q_mOrder {I : Nat → Nat → Int32} (ho : q_ok a) (hst : ∀ j, j < 549 → I 123 j = q_v (a j)) : ∃ J mt, z_M 175 [.ref 122] (I, L, d) = some (0, (J, L, d)) ∧ q_frQ I J ∧ q_mq a J (q_or a) mt := by
  obtain ⟨I1, k1, k2, k3⟩ := q_mDanger (L := L) (d := d) ho hst
  -- 133 and 134 cleared
  obtain ⟨H, eH⟩ : ∃ H : z_H, H = q_it (fun e h => z_wI h 133 (0 + e) 0) 0 216 (I1, L, d) := ⟨_, rfl⟩
  have rH := q_fill (o := 133) (c := 0) (v := fun _ => 0) 216 0 (I1, L, d)
  rw [← eH] at rH
  obtain ⟨G, eG⟩ : ∃ G : z_H, G = q_it (fun e h => z_wI h 134 (0 + e) 0) 0 8 H := ⟨_, rfl⟩
  have rG := q_fill (o := 134) (c := 0) (v := fun _ => 0) 8 0 H
  rw [← eG] at rG
  obtain ⟨I2, hG⟩ : ∃ I2, G = (I2, L, d) := ⟨G.1, by
    have : G.2 = (L, d) := rG.2.trans rH.2
    exact Prod.ext rfl this⟩
  have r2 : ∀ o k, I2 o k = if o = 134 ∧ k < 8 then 0 else if o = 133 ∧ k < 216 then 0 else I1 o k := fun o k => by
    have g1 := rG.1 o k
    have g2 := rH.1 o k
    rw [hG, show (I2, L, d).1 o k = I2 o k from rfl] at g1
    rw [g1, g2]
    by_cases h1 : o = 134 ∧ k < 8
    · rw [if_pos (by omega), if_pos h1]
    · rw [if_neg (by omega), if_neg h1]
      by_cases h2 : o = 133 ∧ k < 216
      · rw [if_pos (by omega), if_pos h2]
      · rw [if_neg (by omega), if_neg h2]
  obtain ⟨I3, eI3⟩ : ∃ I3, I3 = q_wr I2 122 28 0 := ⟨_, rfl⟩
  have n3 : ∀ o k, I3 o k = if o = 122 ∧ k = 28 then 0 else I2 o k := fun o k => by rw [eI3, q_wr1]
  have f3 : q_frQ I1 I3 := fun o k q1 q2 => by rw [n3, if_neg (by omega), r2, if_neg (by omega), if_neg (by omega)]
  have hr : q_mq a I3 (q_o0 a) (fun _ => false) := by
    refine ⟨by rw [n3, if_pos ⟨rfl, rfl⟩]; rfl, fun i hi => absurd hi (Nat.not_lt_zero i), fun t ht => ?_, fun e he => ?_, fun e he => ?_, fun e _ => ?_⟩
    · rw [n3, if_neg (by omega), r2, if_pos ⟨rfl, ht⟩]
      rfl
    · rw [n3, if_neg (by omega), r2, if_neg (by omega), if_neg (by omega)]
      exact k3 e he
    · rw [n3, if_neg (by omega), r2, if_neg (by omega), if_pos ⟨rfl, he⟩]
      rfl
    · show q_dg a e = (q_dg a e && !false)
      rw [Bool.not_false, Bool.and_true]
  obtain ⟨J, mt, t1, t2, t3⟩ := q_mOrd (L := L) (d := d) ho (a 2) (q_o0 a) _ I3 (by show a 2 ≤ 0 + a 2; omega) (q_o0_ok a ho) ((k2.Q.trans f3).st hst) hr
  refine ⟨J, mt, ?_, (k2.Q.trans f3).trans t2, t3⟩
  have l1 := q_loop (L := fun x h => zl_M_findOrder_6 x h) (K := fun h => zl_M_findOrder_28 0 h) (N := 216) (w := fun i h => z_wI h 133 (0 + i) 0) (fun i h hi => by
    show zl_M_findOrder_6 (nI i) h = _
    rw [e_M_findOrder_6, n_216, if_neg (nI_ge hi (by decide)), q_inC hi (by decide), nI_clamp (by omega), Nat.zero_add]) (fun h => by
    show zl_M_findOrder_6 (nI 216) h = _
    rw [e_M_findOrder_6, if_pos (by decide)]) 216 0 (I1, L, d) rfl
  have l2 := q_loop (L := fun x h => zl_M_findOrder_28 x h) (K := fun h => zl_M_findOrder_54 1 (z_wI h 122 28 0)) (N := 8) (w := fun i h => z_wI h 134 (0 + i) 0) (fun i h hi => by
    show zl_M_findOrder_28 (nI i) h = _
    rw [e_M_findOrder_28, n_8, if_neg (nI_ge hi (by decide)), q_inC hi (by decide), nI_clamp (by omega), Nat.zero_add]) (fun h => by
    show zl_M_findOrder_28 (nI 8) h = _
    rw [e_M_findOrder_28, if_pos (by decide)]) 8 0 H rfl
  rw [e_M_findOrder, k1, z_bd_some]
  refine (show zl_M_findOrder_6 0 (I1, L, d) = _ from l1).trans ?_
  rw [← eH]
  refine (show zl_M_findOrder_28 0 H = _ from l2).trans ?_
  rw [← eG, hG]
  show zl_M_findOrder_54 1 (q_wr I2 122 28 0, L, d) = _
  rw [← eI3]
  exact t1
end QMO
