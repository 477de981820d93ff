/-! THE PURE PART: a line told whole; the class reads one -/
def q_lV (b : Nat → Nat) (n s : Nat) : Nat → Nat := fun i => q_tv b n (q_tkn b n (q_te b n s) i)
def q_lg (b : Nat → Nat) (n : Nat) (a : Nat → Nat) (s : Nat) : Nat × Nat := q_ga b n (q_te b n s) a (q_ln b n s) (q_mst (q_ln b n s)) 0
/-- the fault of a line that starts at s, and where; or 0, and where the next token starts -/
def q_lr (b : Nat → Nat) (n : Nat) (a : Nat → Nat) (s : Nat) : Nat × Nat :=
  if q_ln b n s = 6 then (2, s)
  else if q_rm a (q_ln b n s) = false then (5, s)
  else if ¬ (q_lg b n a s).1 = 0 then ((q_lg b n a s).1, q_tkn b n (q_te b n s) (q_lg b n a s).2)
  else if q_kd b n (q_tkn b n (q_te b n s) ((q_lg b n a s).2 + 1)) = 0 then (1, q_tkn b n (q_te b n s) ((q_lg b n a s).2 + 1))
  else (0, q_tkn b n (q_te b n s) ((q_lg b n a s).2 + 1))
def q_la (b : Nat → Nat) (n : Nat) (a : Nat → Nat) (s : Nat) : Nat → Nat := q_row a (q_ln b n s) (q_lV b n s) (q_lg b n a s).2
section QCH
variable {a : Nat → Nat} {hc hm : Nat} {b : Nat → Nat} {n s : Nat}
theorem q_tC.fr2 {h h1 : z_H} (ht : q_tC h.1 b n) (e : ∀ o k, o = 1 ∨ o = 2 → h1.1 o k = h.1 o k) : q_tC h1.1 b n := ⟨ht.1, by rw [e _ _ (by omega)]; exact ht.2.1, fun i hi => ⟨(ht.2.2 i hi).1, by rw [e _ _ (by omega)]; exact (ht.2.2 i hi).2⟩⟩
theorem q_ga_c {e x : Nat} : ∀ f j, (q_ga b n e a x f j).1 ≤ 3 := by
  intro f
  induction f with
  | zero =>
    intro j
    show (q_gz b n e (q_lst x) j).1 ≤ 3
    unfold q_gz
    repeat' split
    all_goals (show _ ≤ 3; omega)
  | succ f ih =>
    intro j
    unfold q_ga
    by_cases h0 : q_kd b n (q_tkn b n e j) = 0
    · rw [if_pos h0]; show 1 ≤ 3; omega
    rw [if_neg h0]
    by_cases h2 : q_kd b n (q_tkn b n e j) = 2
    · rw [if_pos h2]
      cases q_wi a x j (q_tv b n (q_tkn b n e j)) with
      | true => rw [if_pos rfl]; exact ih (j + 1)
      | false => rw [if_neg (by decide)]; show 3 ≤ 3; omega
    · rw [if_neg h2]
      unfold q_gz
      repeat' split
      all_goals (show _ ≤ 3; omega)
theorem q_lg_n (h : (q_lg b n a s).1 = 0) : q_nums a (q_ln b n s) (q_lV b n s) (q_lg b n a s).2 := by
  have := q_ga_m (b := b) (n := n) (e := q_te b n s) (x := q_ln b n s) (a := a) (f := q_mst (q_ln b n s)) (j := 0) (Nat.zero_add _) h
  exact ⟨this.1, this.2.1, fun i hi => this.2.2.2 i (Nat.zero_le i) hi⟩
theorem q_cLine {h : z_H} {L : Nat} (hsn : s ≤ n) (ht : q_cT h.1 b n s) (h0 : ¬ q_kd b n s = 0) (hs : q_cS h.1 a hc hm) (hL : h.1 3 2 = nI L) : ∃ h', z_M 56 [.ref 3] h = some (0, h') ∧ (∀ o k, ¬ (o = 1 ∧ 1 ≤ k ∧ k ≤ 4) → ¬ (3 ≤ o ∧ o ≤ 16) → h'.1 o k = h.1 o k) ∧ (¬ (q_lr b n a s).1 = 0 → h'.1 3 0 = nI (q_lr b n a s).1 ∧ h'.1 3 1 = nI (q_lr b n a s).2) ∧ ((q_lr b n a s).1 = 0 → q_cT h'.1 b n (q_lr b n a s).2 ∧ ¬ q_kd b n (q_lr b n a s).2 = 0 ∧ q_cS h'.1 (q_la b n a s) (q_hC (q_ln b n s) (q_lV b n s) hc) (q_hM (q_ln b n s) (q_lV b n s) hm) ∧ h'.1 3 2 = nI (L + 1)) := by
  have hl6 := q_ln6 (b := b) (n := n) (s := s)
  have h30 := ht.2.2.2.2.2.1 h0
  have hte := q_te_le (b := b) hsn
  have ha := hs.1.1.2.1
  rw [e_Rd_readLine, q_cLn ht.1 ht.2.1 ht.2.2.1 ht.2.2.2.1, z_bd_some]
  unfold q_lr
  by_cases hx : q_ln b n s = 6
  · obtain ⟨h', _, f1, f2, f3, f4⟩ := q_c2 (x1 := 0) (x2 := 0) ht (c := 2) (by decide)
    rw [if_pos hx, if_neg (show ¬ ¬ nI (q_ln b n s) = 6 from fun q => q (by rw [hx]; rfl)), f1]
    exact ⟨h', rfl, fun o k _ q => f4 o k (by omega), fun _ => ⟨f2, f3⟩, fun q => by cases q⟩
  · have hx5 : q_ln b n s ≤ 5 := by omega
    rw [if_neg hx, if_pos (show ¬ nI (q_ln b n s) = 6 from fun q => hx ((nI_eq (b := 6) (by omega) (by decide)).mp q)), q_cRoom hs hx5, z_bd_some]
    cases hr : q_rm a (q_ln b n s) with
    | false =>
      obtain ⟨h', _, f1, f2, f3, f4⟩ := q_c2 (x1 := 0) (x2 := 0) ht (c := 5) (by decide)
      rw [if_pos rfl, if_neg (show ¬ ¬ q_b false = 0 by decide), f1]
      exact ⟨h', rfl, fun o k _ q => f4 o k (by omega), fun _ => ⟨f2, f3⟩, fun q => by cases q⟩
    | true =>
      obtain ⟨h1, a1, a2, a3⟩ := q_cAdvR ht.1 hte.2 ht.2.2.2.1 h30
      have h41 : h1.1 4 1 = nI (a 1) := (a3 _ _ (by omega) (by omega)).trans hs.2.1.1.2.1
      obtain ⟨h2, r1, r2, r3⟩ := q_cArgs (x := q_ln b n s) (a := a) hx5 hte.2 ha (q_mst (q_ln b n s)) 0 h1 (Nat.zero_add _) a2 h41 (fun i hi => absurd hi (Nat.not_lt_zero i))
      have eg : q_ga b n (q_te b n s) a (q_ln b n s) (q_mst (q_ln b n s)) 0 = q_lg b n a s := rfl
      rw [eg] at r2 r3
      rw [if_neg (show ¬ true = false by decide), if_pos (show ¬ q_b true = 0 by decide), e_Rd_readRest, a1, z_bd_some]
      have fr2 : ∀ o k, ¬ (o = 1 ∧ 1 ≤ k ∧ k ≤ 4) → ¬ (o = 3 ∧ k ≤ 1) → o ≠ 16 → h2.1 o k = h.1 o k := fun o k q q' q'' => (r1 o k q'' q q').trans (a3 o k q q')
      by_cases hg : (q_lg b n a s).1 = 0
      · obtain ⟨s1, s2, s3, s4⟩ := r3 hg
        have s1 : zl_Rd_readRest_6 (nI (q_ln b n s)) 0 h1 = _ := s1
        have hk3 : ¬ q_kd b n (q_tkn b n (q_te b n s) (q_lg b n a s).2) = 0 := by omega
        have s30 := s2.2.2.2.2.2.1 hk3
        have hS2 : q_cS h2.1 a hc hm := ⟨hs.1, hs.2.1.fr hs.1 (fun o k _ _ => fr2 o k (by omega) (by omega) (by omega)), (fr2 _ _ (by omega) (by omega) (by omega)).trans hs.2.2.1, (fr2 _ _ (by omega) (by omega) (by omega)).trans hs.2.2.2⟩
        obtain ⟨h3, t1, t2, t3⟩ := q_cTell hS2 hx5 hr (q_lg_n hg) s4
        obtain ⟨h4, e4⟩ : ∃ h4, h4 = z_wI h3 3 2 (nI (L + 1)) := ⟨_, rfl⟩
        have r4 : ∀ o k, ¬ (o = 3 ∧ k = 2) → h4.1 o k = h3.1 o k := fun o k q => by rw [e4, z_wI1, if_neg q]
        have f32 : h3.1 3 2 = nI L := (t3 _ _ (by omega) (by omega)).trans ((fr2 _ _ (by omega) (by omega) (by omega)).trans hL)
        have htk := q_tkn_le (b := b) hte.2 (q_lg b n a s).2
        have hte2 := q_te_le (b := b) htk.2
        have tc4 : q_tC h4.1 b n := s2.1.fr2 (fun o k q => by rw [r4 o k (by omega), t3 o k (by omega) (by omega)])
        obtain ⟨h5, u1, u2, u3⟩ := q_cAdvR (p := q_te b n (q_tkn b n (q_te b n s) (q_lg b n a s).2)) tc4 hte2.2 ((r4 _ _ (by omega)).trans ((t3 _ _ (by omega) (by omega)).trans s2.2.2.2.1)) ((r4 _ _ (by omega)).trans ((t3 _ _ (by omega) (by omega)).trans s30))
        have u2 : q_cT h5.1 b n (q_tkn b n (q_te b n s) ((q_lg b n a s).2 + 1)) := u2
        have E : zl_Rd_readRest_6 (nI (q_ln b n s)) 0 h1 = some (0, h5) := by
          rw [s1, e_Rd_readRest_108, s30, if_neg (show ¬ ¬ (0 : Int32) = 0 from fun q => q rfl), t1, z_bd_some, f32, nI_1, ← e4, u1, z_bd_some]
        rw [E, if_neg (show ¬ ¬ (q_lg b n a s).1 = 0 from fun q => q hg)]
        have fr5 : ∀ o k, ¬ (o = 1 ∧ 1 ≤ k ∧ k ≤ 4) → ¬ (3 ≤ o ∧ o ≤ 16) → h5.1 o k = h.1 o k := fun o k q q' => by
          rw [u3 o k q (by omega), r4 o k (by omega), t3 o k (by omega) (by omega), fr2 o k q (by omega) (by omega)]
        by_cases hk : q_kd b n (q_tkn b n (q_te b n s) ((q_lg b n a s).2 + 1)) = 0
        · rw [if_pos hk]
          exact ⟨h5, rfl, fr5, fun _ => u2.2.2.2.2.2.2 hk, fun q => by cases q⟩
        · rw [if_neg hk]
          refine ⟨h5, rfl, fr5, fun q => absurd rfl q, fun _ => ⟨u2, hk, ⟨t2.1, t2.2.1.fr t2.1 (fun o k _ _ => (u3 o k (by omega) (by omega)).trans (r4 o k (by omega))), ?_, ?_⟩, ?_⟩⟩
          · rw [u3 _ _ (by omega) (by omega), r4 _ _ (by omega)]; exact t2.2.2.1
          · rw [u3 _ _ (by omega) (by omega), r4 _ _ (by omega)]; exact t2.2.2.2
          · rw [u3 _ _ (by omega) (by omega), e4, z_wI1, if_pos ⟨rfl, rfl⟩]
      · obtain ⟨s1, s2, s3⟩ := r2 hg
        have s1 : zl_Rd_readRest_6 (nI (q_ln b n s)) 0 h1 = some (0, h2) := s1
        rw [s1, if_pos hg]
        exact ⟨h2, rfl, fun o k q q' => fr2 o k q (by omega) (by omega), fun _ => ⟨s2, s3⟩, fun q => absurd q hg⟩
end QCH
