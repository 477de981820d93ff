/-! THE PURE PART: the reference's draft, its room, a number asked for -/
def q_mS (I : Nat → Nat → Int32) (a : Nat → Nat) (hc hm : Nat) : Prop := q_dk a hc hm ∧ (∀ j, j < 549 → I 126 j = q_v (a j)) ∧ I 122 4 = q_hi (-1) hc ∧ I 122 5 = q_hi (-1) hm
/-- what a line may change -/
def q_rg (h h' : z_H) : Prop := ∀ o k, ¬ (o = 122 ∧ (4 ≤ k ∧ k ≤ 5 ∨ 8 ≤ k ∧ k ≤ 13)) → o ≠ 126 → h'.1 o k = h.1 o k
theorem q_rg.trans {h h1 h2 : z_H} (a : q_rg h h1) (b : q_rg h1 h2) : q_rg h h2 := fun o k q q' => (b o k q q').trans (a o k q q')
theorem q_rf.rg {h h1 : z_H} (a : q_rf h h1) : q_rg h h1 := fun o k q _ => a o k (by omega)
theorem q_mS.rf {h h1 : z_H} {a : Nat → Nat} {hc hm : Nat} (hs : q_mS h.1 a hc hm) (r : q_rf h h1) : q_mS h1.1 a hc hm := ⟨hs.1, fun j hj => (r _ _ (by omega)).trans (hs.2.1 j hj), (r _ _ (by omega)).trans hs.2.2.1, (r _ _ (by omega)).trans hs.2.2.2⟩
theorem q_st1 {h : z_H} {a : Nat → Nat} {J v : Nat} (hs : ∀ j, j < 549 → h.1 126 j = q_v (a j)) (hv : v < 900) : ∀ j, j < 549 → (z_wI h 126 J (nI v)).1 126 j = q_v (q_s1 a J v j) := by
  intro j hj
  by_cases q : j = J
  · rw [z_wI1, if_pos ⟨rfl, q⟩, q, q_s1_i, q_vn (by omega)]
  · rw [z_wI1, if_neg (by omega), q_s1_o q]
    exact hs j hj
/-- the fault of a number asked for at s -/
def q_nc (b : Nat → Nat) (n : Nat) (a : Nat → Nat) (x j s : Nat) : Nat := if q_kd b n s = 0 then 1 else if q_kd b n s = 2 then (if q_wi a x j (q_tv b n s) = true then 0 else 3) else 2
section QMR
variable {a : Nat → Nat} {hc hm : Nat} {b : Nat → Nat} {n s : Nat}
theorem q_mRoom {h : z_H} {x : Nat} (hs : q_mS h.1 a hc hm) (hx : x ≤ 5) : z_M 146 [.ref 122, .int (nI x)] h = some (q_b (q_rm a x), h) := by
  obtain ⟨hd, hg, _⟩ := hs
  have d1 := hd.1
  have h06 := d1.1
  have g0 : h.1 126 0 = nI (a 0) := (hg 0 (by omega)).trans (q_vn (by omega))
  have d11 := d1.2.1
  have d12 := d1.2.2.1
  have g1 : h.1 126 1 = nI (a 1) := (hg 1 (by omega)).trans (q_vn (by omega))
  have g2 : h.1 126 2 = nI (a 2) := (hg 2 (by omega)).trans (q_vn (by omega))
  have node : (if h.1 126 0 ≤ 0 then some ((0 : Int32), h) else z_bd (z_M 141 [.ref 122] h) (fun r1 h2 => (bif z_in (7 + r1) 549 then (if (8 : Int32) ≤ h2.1 126 ((7 + r1).toNatClampNeg) then some (0, h2) else some (1, h2)) else none))) = some (q_b (decide (0 < a 0) && decide (q_lN a < 8)), h) := by
    rw [e_M_methodNow, z_bd_some, g0]
    by_cases h0 : 0 < a 0
    · have s0 : nI (a 0) - 1 = nI (a 0 - 1) := by rw [n_1, q_sub h0]
      have h8 := (d1.2.2.2 (a 0 - 1) (by omega)).1
      have eN : q_lN a = a (7 + (a 0 - 1)) := rfl
      have g7 : h.1 126 (7 + (a 0 - 1)) = nI (a (7 + (a 0 - 1))) := (hg _ (by omega)).trans (q_vn (by omega))
      rw [if_neg (show ¬ nI (a 0) ≤ 0 from nI_ge (a := 0) h0 (by omega)), s0, n_7, nI_add, q_inC (show 7 + (a 0 - 1) < 549 by omega) (by decide), nI_clamp (by omega), g7, decide_eq_true h0, Bool.true_and, eN]
      by_cases q : a (7 + (a 0 - 1)) < 8
      · rw [if_neg (show ¬ (8 : Int32) ≤ nI (a (7 + (a 0 - 1))) from nI_ge (b := 8) q (by decide)), decide_eq_true q]
        rfl
      · rw [if_pos (show (8 : Int32) ≤ nI (a (7 + (a 0 - 1))) from nI_le (a := 8) (by omega) (by omega)), decide_eq_false q]
        rfl
    · rw [if_pos (show nI (a 0) ≤ 0 from nI_le (b := 0) (by omega) (by decide)), decide_eq_false h0]
      rfl
  rw [e_M_hasRoom]
  rcases (show x = 0 ∨ x = 1 ∨ x = 2 ∨ x = 3 ∨ x = 4 ∨ x = 5 by omega) with rfl | rfl | rfl | rfl | rfl | rfl
  · rw [if_pos (show nI 0 = 0 from rfl), g0]
    show _ = some (q_b (decide (a 0 < 6)), h)
    by_cases q : a 0 < 6
    · rw [if_neg (show ¬ (6 : Int32) ≤ nI (a 0) from nI_ge (b := 6) q (by decide)), decide_eq_true q]; rfl
    · rw [if_pos (show (6 : Int32) ≤ nI (a 0) from nI_le (a := 6) (by omega) (by omega)), decide_eq_false q]; rfl
  · rw [if_neg (show ¬ nI 1 = 0 by decide), if_pos (show nI 1 = 1 from rfl)]
    exact node
  · rw [if_neg (show ¬ nI 2 = 0 by decide), if_neg (show ¬ nI 2 = 1 by decide), if_pos (show nI 2 = 2 from rfl)]
    exact node
  · rw [if_neg (show ¬ nI 3 = 0 by decide), if_neg (show ¬ nI 3 = 1 by decide), if_neg (show ¬ nI 3 = 2 by decide), if_pos (show nI 3 = 3 from rfl), g1]
    show _ = some (q_b (decide (a 1 < 4)), h)
    by_cases q : a 1 < 4
    · rw [if_neg (show ¬ (4 : Int32) ≤ nI (a 1) from nI_ge (b := 4) q (by decide)), decide_eq_true q]; rfl
    · rw [if_pos (show (4 : Int32) ≤ nI (a 1) from nI_le (a := 4) (by omega) (by omega)), decide_eq_false q]; rfl
  · rw [if_neg (show ¬ nI 4 = 0 by decide), if_neg (show ¬ nI 4 = 1 by decide), if_neg (show ¬ nI 4 = 2 by decide), if_neg (show ¬ nI 4 = 3 by decide), if_pos (show nI 4 = 4 from rfl)]
    rfl
  · rw [if_neg (show ¬ nI 5 = 0 by decide), if_neg (show ¬ nI 5 = 1 by decide), if_neg (show ¬ nI 5 = 2 by decide), if_neg (show ¬ nI 5 = 3 by decide), if_neg (show ¬ nI 5 = 4 by decide), if_pos (show nI 5 = 5 from rfl), g2]
    show _ = some (q_b (decide (a 2 < 8)), h)
    by_cases q : a 2 < 8
    · rw [if_neg (show ¬ (8 : Int32) ≤ nI (a 2) from nI_ge (b := 8) q (by decide)), decide_eq_true q]; rfl
    · rw [if_pos (show (8 : Int32) ≤ nI (a 2) from nI_le (a := 8) (by omega) (by omega)), decide_eq_false q]; rfl
/-- a number asked for: its value, or the fault -/
theorem q_mStep {h : z_H} {x j : Nat} {x1 x2 x3 : Int32} (hsn : s ≤ n) (ht : q_mT h.1 b n s) (hx : 1 ≤ x ∧ x ≤ 5) (ha : a 1 ≤ 4) (hk : q_mAsk a x j x1 x2 x3) : ∃ v h', z_M 140 [.ref 122, .int x1, .int x2, .int x3] h = some (nI v, h') ∧ q_rf h h' ∧ (q_nc b n a x j s = 0 → v = q_tv b n s ∧ q_wi a x j v = true ∧ q_mT h'.1 b n (q_ts b n (q_te b n s))) ∧ (¬ q_nc b n a x j s = 0 → v = 0 ∧ q_mF h'.1 (q_nc b n a x j s) s) := by
  have hbb : ∀ i, i < n → b i < 128 := fun i hi => (ht.1.2.2 i hi).1
  unfold q_nc
  by_cases h0 : q_kd b n s = 0
  · obtain ⟨t1, t2⟩ := ht.2.2 h0
    rw [if_pos h0]
    exact ⟨0, h, q_mNq (c := 1) (by decide) (by decide) t1 x1 x2 x3, fun _ _ _ => rfl, fun q => (by cases q), fun _ => ⟨rfl, t1, t2⟩⟩
  rw [if_neg h0]
  by_cases h2 : q_kd b n s = 2
  · have hv := q_kd2 hbb h2
    obtain ⟨w, z, k1, k2, k3⟩ := q_mAskT (j := j) hx ha hv hk
    obtain ⟨h', f1, f2, f3⟩ := q_mNum3 hsn ht h2 k1 k2
    rw [if_pos h2]
    rw [k3] at f1 f2
    cases hw : q_wi a x j (q_tv b n s) with
    | true =>
      obtain ⟨f4, f5⟩ := f2 hw
      rw [if_pos rfl]
      exact ⟨_, h', f4, f3, fun _ => ⟨rfl, hw, f5⟩, fun q => absurd rfl q⟩
    | false =>
      obtain ⟨f4, f5⟩ := f1 hw
      rw [if_neg (show ¬ false = true by decide)]
      exact ⟨0, h', f4, f3, fun q => (by cases q), fun _ => ⟨rfl, f5⟩⟩
  · obtain ⟨h', f1, f2, f3⟩ := q_mNum2 (x1 := x1) (x2 := x2) (x3 := x3) hsn ht h0 h2
    rw [if_neg h2]
    exact ⟨0, h', f1, f3, fun q => (by cases q), fun _ => ⟨rfl, f2⟩⟩
/-- the same once a fault stands -/
theorem q_mStepF {h : z_H} {c p : Nat} (hF : q_mF h.1 c p) (hc : 0 < c) (hc' : c < 100) (x1 x2 x3 : Int32) : z_M 140 [.ref 122, .int x1, .int x2, .int x3] h = some (nI 0, h) := q_mNq hc hc' hF.1 x1 x2 x3
theorem q_ga_nc {e x f j : Nat} : q_ga b n e a x (f + 1) j = if q_nc b n a x j (q_tkn b n e j) = 0 then q_ga b n e a x f (j + 1) else if q_kd b n (q_tkn b n e j) = 0 ∨ q_kd b n (q_tkn b n e j) = 2 then (q_nc b n a x j (q_tkn b n e j), j) else q_gz b n e (q_lst x) j := by
  show (if q_kd b n (q_tkn b n e j) = 0 then (1, j) else if q_kd b n (q_tkn b n e j) = 2 then (if q_wi a x j (q_tv b n (q_tkn b n e j)) = true then q_ga b n e a x f (j + 1) else (3, j)) else q_gz b n e (q_lst x) j) = _
  unfold q_nc
  by_cases h0 : q_kd b n (q_tkn b n e j) = 0
  · simp [h0]
  · by_cases h2 : q_kd b n (q_tkn b n e j) = 2
    · cases hw : q_wi a x j (q_tv b n (q_tkn b n e j)) with
      | true => simp [h2]
      | false => simp [h2]
    · simp [h0, h2]
end QMR
