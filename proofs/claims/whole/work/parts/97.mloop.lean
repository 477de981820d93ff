/-! THE PURE PART: the reference reads all lines -/
def q_mEnd (h h' : z_H) (x : Int32) (r : (Nat × Nat) × (Nat → Nat) × Nat × Nat × Nat) : Prop := q_rg h h' ∧ (¬ (q_tz r).1 = 0 → q_mF h'.1 (q_tz r).1 (q_tz r).2) ∧ ((q_tz r).1 = 0 → x = nI r.2.2.2.2 ∧ h'.1 122 12 = 0 ∧ q_mS h'.1 r.2.1 r.2.2.1 r.2.2.2.1)
section QML2
variable {b : Nat → Nat} {n : Nat}
theorem q_m44F {h : z_H} {c : Nat} {x : Int32} (hc : 0 < c) (hc' : c < 100) (h12 : h.1 122 12 = nI c) : zl_M_text_44 x h = zl_M_text_61 x h := by
  rw [e_M_text_44, h12, if_pos (q_nz hc hc')]
theorem q_m20F {h : z_H} {c : Nat} {x : Int32} (hc : 0 < c) (hc' : c < 100) (h12 : h.1 122 12 = nI c) : zl_M_text_20 x h = zl_M_text_61 x h := by
  rw [e_M_text_20, h12, if_pos (q_nz hc hc'), q_m44F hc hc' h12]
theorem q_m44 {h : z_H} {a : Nat → Nat} {hc hm s L : Nat} (ht : q_mT h.1 b n s) (h0 : ¬ q_kd b n s = 0) (hs : q_mS h.1 a hc hm) : ∃ h', zl_M_text_44 (nI L) h = zl_M_text_61 (nI L) h' ∧ q_mEnd h h' (nI L) ((0, s), a, hc, hm, L) := by
  obtain ⟨t12, t9, _, _, _⟩ := ht.2.1 h0
  rw [e_M_text_44, t12, if_neg (show ¬ ¬ (0 : Int32) = 0 from fun q => q rfl), q_mWh hs, z_bd_some]
  unfold q_mEnd
  rw [q_tz0]
  cases hw : q_wh a hc hm with
  | true =>
    have e1 : z_M 135 [.ref 122, .int (q_b true), .int 6] h = some (0, h) := q_mQt 6
    rw [e1, z_bd_some, if_pos rfl]
    exact ⟨h, rfl, fun _ _ _ _ => rfl, fun q => absurd rfl q, fun _ => ⟨rfl, t12, hs⟩⟩
  | false =>
    obtain ⟨h', a1, a2, a3, a4⟩ := q_mQf (y := 6) t12 t9
    have a1 : z_M 135 [.ref 122, .int (q_b false), .int 6] h = some (0, h') := a1
    rw [a1, z_bd_some, if_neg (show ¬ false = true by decide)]
    exact ⟨h', rfl, fun o k q _ => a4 o k (by omega), fun _ => ⟨a2, a3⟩, fun q => by cases q⟩
theorem q_mLp : ∀ f (a : Nat → Nat) hc hm s L h, n - s < f → s ≤ n → q_mT h.1 b n s → ¬ q_kd b n s = 0 → q_mS h.1 a hc hm → ∃ h' x, zl_M_text_20 (nI L) h = zl_M_text_61 x h' ∧ q_mEnd h h' x (q_tx b n f a hc hm s L) := by
  intro f
  induction f with
  | zero => intro a hc hm s L h hf; omega
  | succ f ih =>
    intro a hc hm s L h hf hsn ht h0 hs
    have hk := q_kd4 b n s
    obtain ⟨t12, t9, t8, t10, _⟩ := ht.2.1 h0
    have e : q_tx b n (f + 1) a hc hm s L = if q_kd b n s = 4 then ((0, s), a, hc, hm, L) else if (q_lr b n a s).1 = 0 then q_tx b n f (q_la b n a s) (q_hC (q_ln b n s) (q_lV b n s) hc) (q_hM (q_ln b n s) (q_lV b n s) hm) (q_lr b n a s).2 (L + 1) else (q_lr b n a s, a, hc, hm, L) := rfl
    rw [e, e_M_text_20, t12, if_neg (show ¬ ¬ (0 : Int32) = 0 from fun q => q rfl), t10]
    by_cases h4 : q_kd b n s = 4
    · rw [if_pos (show nI (q_kd b n s % 4) = 0 by rw [h4]; rfl), if_pos h4]
      obtain ⟨h', d1, d2⟩ := q_m44 (L := L) ht h0 hs
      exact ⟨h', nI L, d1, d2⟩
    rw [if_neg (show ¬ nI (q_kd b n s % 4) = 0 from fun q => by
      have := (nI_eq (b := 0) (by omega) (by decide)).mp q
      omega), if_neg h4]
    obtain ⟨h1, b1, b2, b3, b4⟩ := q_mLine hsn ht h0 hs
    rw [b1, z_bd_some, nI_1]
    by_cases hr : (q_lr b n a s).1 = 0
    · obtain ⟨c1, c2, c3⟩ := b4 hr
      have hlt := q_lr_lt hsn h4 h0 hr
      obtain ⟨h', x, d1, d2, d3⟩ := ih (q_la b n a s) _ _ (q_lr b n a s).2 (L + 1) h1 (by omega) hlt.2 c1 c2 c3
      rw [if_pos hr]
      exact ⟨h', x, d1, b2.trans d2, d3⟩
    · have hF := b3 hr
      have hc5 := q_lr_c (b := b) (n := n) (a := a) (s := s)
      rw [if_neg hr]
      refine ⟨h1, nI (L + 1), q_m20F (by omega) (by omega) hF.1, b2, ?_, ?_⟩
      · rw [q_tzc hr]
        exact fun _ => hF
      · rw [q_tzc hr]
        exact fun q => absurd q hr
end QML2
