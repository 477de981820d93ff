/-! THE PURE PART: all lines, told; the class reads them -/
def q_tx (b : Nat → Nat) (n : Nat) : Nat → (Nat → Nat) → Nat → Nat → Nat → Nat → (Nat × Nat) × (Nat → Nat) × Nat × Nat × Nat
  | 0, a, hc, hm, s, L => ((0, s), a, hc, hm, L)
  | f + 1, a, hc, hm, s, L => if q_kd b n s = 4 then ((0, s), a, hc, hm, L) else if (q_lr b n a s).1 = 0 then q_tx b n f (q_la b n a s) (q_hC (q_ln b n s) (q_lV b n s) hc) (q_hM (q_ln b n s) (q_lV b n s) hm) (q_lr b n a s).2 (L + 1) else (q_lr b n a s, a, hc, hm, L)
def q_tz (r : (Nat × Nat) × (Nat → Nat) × Nat × Nat × Nat) : Nat × Nat := if r.1.1 = 0 then (if q_wh r.2.1 r.2.2.1 r.2.2.2.1 = true then (0, r.1.2) else (6, r.1.2)) else r.1
def q_cEnd (h h' : z_H) (r : (Nat × Nat) × (Nat → Nat) × Nat × Nat × Nat) : Prop := (∀ o k, ¬ (o = 1 ∧ 1 ≤ k ∧ k ≤ 4) → ¬ (3 ≤ o ∧ o ≤ 16) → h'.1 o k = h.1 o k) ∧ (¬ (q_tz r).1 = 0 → h'.1 3 0 = nI (q_tz r).1 ∧ h'.1 3 1 = nI (q_tz r).2) ∧ ((q_tz r).1 = 0 → h'.1 3 0 = 0 ∧ q_cS h'.1 r.2.1 r.2.2.1 r.2.2.2.1 ∧ h'.1 3 2 = nI r.2.2.2.2)
section QLP
variable {b : Nat → Nat} {n : Nat}
theorem q_en_lt {p : Nat → Bool} {s : Nat} (hs : s < n) (hp : p s = true) : s < q_en p n (n - s) s := by
  obtain ⟨f, hf⟩ : ∃ f, n - s = f + 1 := ⟨n - s - 1, by omega⟩
  rw [hf]
  unfold q_en
  rw [if_pos ⟨hs, hp⟩]
  have := (q_en_le (p := p) (n := n) f (s + 1) (by omega) (by omega)).1
  omega
theorem q_te_lt {s : Nat} (h4 : ¬ q_kd b n s = 4) (h0 : ¬ q_kd b n s = 0) : s < q_te b n s := by
  unfold q_kd at h4 h0
  unfold q_te
  by_cases h1 : n ≤ s
  · rw [if_pos h1] at h4
    exact absurd rfl h4
  rw [if_neg h1] at h0 ⊢
  by_cases h2 : b s = 59
  · rw [if_pos h2]; omega
  rw [if_neg h2] at h0 ⊢
  by_cases h3 : q_lt b s = true
  · rw [if_pos h3]
    exact q_en_lt (by omega) h3
  rw [if_neg h3] at h0 ⊢
  by_cases h5 : q_fg b s = true
  · rw [if_pos h5]
    exact q_en_lt (by omega) h5
  · rw [if_neg h5] at h0
    exact absurd rfl h0
theorem q_lr_lt {a : Nat → Nat} {s : Nat} (hsn : s ≤ n) (h4 : ¬ q_kd b n s = 4) (h0 : ¬ q_kd b n s = 0) (hr : (q_lr b n a s).1 = 0) : s < (q_lr b n a s).2 ∧ (q_lr b n a s).2 ≤ n := by
  have hte := q_te_le (b := b) hsn
  have htl := q_te_lt h4 h0
  have htk := q_tkn_le (b := b) hte.2 ((q_lg b n a s).2 + 1)
  unfold q_lr at hr ⊢
  by_cases hx : q_ln b n s = 6
  · rw [if_pos hx] at hr; cases hr
  rw [if_neg hx] at hr ⊢
  by_cases h5 : q_rm a (q_ln b n s) = false
  · rw [if_pos h5] at hr; cases hr
  rw [if_neg h5] at hr ⊢
  by_cases hg : ¬ (q_lg b n a s).1 = 0
  · rw [if_pos hg] at hr
    exact absurd hr hg
  rw [if_neg hg] at hr ⊢
  by_cases hk : q_kd b n (q_tkn b n (q_te b n s) ((q_lg b n a s).2 + 1)) = 0
  · rw [if_pos hk] at hr; cases hr
  rw [if_neg hk]
  exact ⟨by show s < q_tkn b n (q_te b n s) ((q_lg b n a s).2 + 1); omega, htk.2⟩
theorem q_lr_c {a : Nat → Nat} {s : Nat} : (q_lr b n a s).1 ≤ 5 := by
  have h3 : (q_lg b n a s).1 ≤ 3 := q_ga_c _ _
  unfold q_lr
  by_cases hx : q_ln b n s = 6
  · rw [if_pos hx]; show 2 ≤ 5; omega
  rw [if_neg hx]
  by_cases h5 : q_rm a (q_ln b n s) = false
  · rw [if_pos h5]; show 5 ≤ 5; omega
  rw [if_neg h5]
  by_cases hg : ¬ (q_lg b n a s).1 = 0
  · rw [if_pos hg]; show (q_lg b n a s).1 ≤ 5; omega
  rw [if_neg hg]
  by_cases hk : q_kd b n (q_tkn b n (q_te b n s) ((q_lg b n a s).2 + 1)) = 0
  · rw [if_pos hk]; show 1 ≤ 5; omega
  · rw [if_neg hk]; show 0 ≤ 5; omega
theorem q_tz0 {s L hc hm : Nat} {a : Nat → Nat} : q_tz ((0, s), a, hc, hm, L) = if q_wh a hc hm = true then (0, s) else (6, s) := rfl
theorem q_tzc {a : Nat → Nat} {r : Nat × Nat} {L hc hm : Nat} (h : ¬ r.1 = 0) : q_tz (r, a, hc, hm, L) = r := if_neg h
theorem q_c85 {h : z_H} {a : Nat → Nat} {hc hm s L : Nat} (ht : q_cT h.1 b n s) (h0 : ¬ q_kd b n s = 0) (hs : q_cS h.1 a hc hm) (hL : h.1 3 2 = nI L) : ∃ h', zl_Rd_readAll_85 h = some (0, h') ∧ q_cEnd h h' ((0, s), a, hc, hm, L) := by
  have h30 := ht.2.2.2.2.2.1 h0
  rw [e_Rd_readAll_85, h30, if_neg (show ¬ ¬ (0 : Int32) = 0 from fun q => q rfl), q_cWh hs, z_bd_some]
  unfold q_cEnd
  rw [q_tz0]
  cases hw : q_wh a hc hm with
  | true =>
    rw [if_pos (show q_b (!true) = 0 from rfl), if_pos rfl]
    exact ⟨h, rfl, fun _ _ _ _ => rfl, fun q => absurd rfl q, fun _ => ⟨h30, hs, hL⟩⟩
  | false =>
    obtain ⟨h', _, f1, f2, f3, f4⟩ := q_c2 (x1 := 0) (x2 := 0) ht (c := 6) (by decide)
    rw [if_neg (show ¬ q_b (!false) = 0 by decide), if_neg (show ¬ false = true by decide), f1]
    exact ⟨h', rfl, fun o k _ q => f4 o k (by omega), fun _ => ⟨f2, f3⟩, fun q => by cases q⟩
theorem q_c50F {h : z_H} {c : Nat} {x : Int32} (hc : 0 < c) (hc' : c < 100) (h30 : h.1 3 0 = nI c) : zl_Rd_readAll_50 x h = some (0, h) := by
  have e85 : zl_Rd_readAll_85 h = some (0, h) := by rw [e_Rd_readAll_85, h30, if_pos (q_nz hc hc')]
  rw [e_Rd_readAll_50, e85, h30, if_pos (q_nz hc hc')]
  split <;> rfl
theorem q_cLp : ∀ f (a : Nat → Nat) hc hm s L i h, n - s < f → s ≤ n → i ≤ s → q_cT h.1 b n s → ¬ q_kd b n s = 0 → q_cS h.1 a hc hm → h.1 3 2 = nI L → ∃ h', zl_Rd_readAll_50 (nI i) h = some (0, h') ∧ q_cEnd h h' (q_tx b n f a hc hm s L) := by
  intro f
  induction f with
  | zero => intro a hc hm s L i h hf; omega
  | succ f ih =>
    intro a hc hm s L i h hf hsn his ht h0 hs hL
    have hn := ht.1.1
    have hk := q_kd4 b n s
    have h30 := ht.2.2.2.2.2.1 h0
    have e : q_tx b n (f + 1) a hc hm s L = if q_kd b n s = 4 then ((0, s), a, hc, hm, L) else if (q_lr b n a s).1 = 0 then q_tx b n f (q_la b n a s) (q_hC (q_ln b n s) (q_lV b n s) hc) (q_hM (q_ln b n s) (q_lV b n s) hm) (q_lr b n a s).2 (L + 1) else (q_lr b n a s, a, hc, hm, L) := rfl
    rw [e, e_Rd_readAll_50, if_neg (show ¬ (320 : Int32) < nI i from nI_nlt (a := 320) (by omega) (by decide)), h30, if_neg (show ¬ ¬ (0 : Int32) = 0 from fun q => q rfl), ht.2.1]
    by_cases h4 : q_kd b n s = 4
    · rw [if_pos (show nI (q_kd b n s) = 4 by rw [h4]; rfl), if_pos h4]
      exact q_c85 ht h0 hs hL
    rw [if_neg (show ¬ nI (q_kd b n s) = 4 from fun q => h4 ((nI_eq (b := 4) (by omega) (by decide)).mp q)), if_neg h4]
    obtain ⟨h1, b1, b2, b3, b4⟩ := q_cLine hsn ht h0 hs hL
    rw [b1, z_bd_some, nI_1]
    by_cases hr : (q_lr b n a s).1 = 0
    · obtain ⟨c1, c2, c3, c4⟩ := b4 hr
      have hlt := q_lr_lt hsn h4 h0 hr
      obtain ⟨h', d1, d2, d3, d4⟩ := ih (q_la b n a s) _ _ (q_lr b n a s).2 (L + 1) (i + 1) h1 (by omega) hlt.2 (by omega) c1 c2 c3 c4
      rw [if_pos hr, d1]
      exact ⟨h', rfl, fun o k q q' => (d2 o k q q').trans (b2 o k q q'), d3, d4⟩
    · obtain ⟨c1, c2⟩ := b3 hr
      have hc5 := q_lr_c (b := b) (n := n) (a := a) (s := s)
      rw [if_neg hr, q_c50F (by omega) (by omega) c1]
      refine ⟨h1, rfl, b2, ?_, ?_⟩
      · rw [q_tzc hr]
        exact fun _ => ⟨c1, c2⟩
      · rw [q_tzc hr]
        exact fun q => absurd q hr
end QLP
