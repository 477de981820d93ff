/-! THE PURE PART: the reference reads a token -/
def q_by (b : Nat → Nat) (n i : Nat) : Int32 := if i < n then nI (b i) else -1
theorem q_tM.wr {b : Nat → Nat} {n : Nat} {h : z_H} {k : Nat} {x : Int32} (ht : q_tM h.1 b n) (hk : 8 ≤ k) : q_tM (z_wI h 122 k x).1 b n := ⟨ht.1, by rw [z_wI1, if_neg (by omega)]; exact ht.2.1, fun i hi => ⟨(ht.2.2 i hi).1, by rw [z_wI1, if_neg (by omega)]; exact (ht.2.2 i hi).2⟩⟩
theorem q_tM.fr {b : Nat → Nat} {n : Nat} {h h1 : z_H} (ht : q_tM h.1 b n) (e : ∀ o k, ¬ (o = 122 ∧ 8 ≤ k) → o ≠ 126 → h1.1 o k = h.1 o k) : q_tM h1.1 b n := ⟨ht.1, by rw [e _ _ (by omega) (by omega)]; exact ht.2.1, fun i hi => ⟨(ht.2.2 i hi).1, by rw [e _ _ (by omega) (by omega)]; exact (ht.2.2 i hi).2⟩⟩
section QMT
variable {b : Nat → Nat} {n : Nat}
theorem q_mByte {h : z_H} {i : Nat} (ht : q_tM h.1 b n) (hi : i < 2 ^ 31) : z_M 136 [.ref 122, .int (nI i)] h = some (q_by b n i, h) := by
  have hn := ht.1
  rw [e_M_byteAt, ht.2.1]
  unfold q_by
  by_cases hin : i < n
  · rw [if_neg (nI_ge hin (by omega)), q_inC (show i < 320 by omega) (by decide), nI_clamp hi, (ht.2.2 i hin).2, if_pos hin]
  · rw [if_pos (nI_le (by omega) hi), if_neg hin]
theorem q_mIn {l u i : Nat} (hb : ∀ i, i < n → b i < 128) (hl : l < 128) (hu : u < 128) (h : z_H) : z_M 127 [.long (q_by b n i).toInt64, .long (nI l).toInt64, .long (nI u).toInt64] h = some (q_b (decide (i < n) && (decide (l ≤ b i) && decide (b i ≤ u))), h) := by
  unfold q_by
  by_cases hin : i < n
  · have := hb i hin
    rw [if_pos hin, q_wnI (by omega) (by omega) (by omega), decide_eq_true hin, Bool.true_and]
    by_cases h1 : l ≤ b i ∧ b i ≤ u
    · rw [if_pos h1, decide_eq_true h1.1, decide_eq_true h1.2]
      rfl
    · rw [if_neg h1]
      by_cases h2 : l ≤ b i
      · rw [decide_eq_false (show ¬ b i ≤ u by omega), Bool.and_false]
        rfl
      · rw [decide_eq_false h2]
        rfl
  · rw [if_neg hin, q_within, decide_eq_false hin, nI_toInt (show l < 2 ^ 31 by omega), if_neg (by
      have : (-1 : Int32).toInt = -1 := rfl
      omega)]
    rfl
theorem q_mIsL {i : Nat} (hb : ∀ i, i < n → b i < 128) (h : z_H) : z_M 127 [.long (q_by b n i).toInt64, .long (97 : Int32).toInt64, .long (122 : Int32).toInt64] h = some (q_b (decide (i < n) && q_lt b i), h) := q_mIn (l := 97) (u := 122) hb (by decide) (by decide) h
theorem q_mIsF {i : Nat} (hb : ∀ i, i < n → b i < 128) (h : z_H) : z_M 127 [.long (q_by b n i).toInt64, .long (48 : Int32).toInt64, .long (57 : Int32).toInt64] h = some (q_b (decide (i < n) && q_fg b i), h) := q_mIn (l := 48) (u := 57) hb (by decide) (by decide) h
theorem q_byNe {i c : Nat} (hb : ∀ i, i < n → b i < 128) (hc : c < 128) : (q_by b n i = nI c) = (i < n ∧ b i = c) := by
  unfold q_by
  by_cases hin : i < n
  · have := hb i hin
    rw [if_pos hin]
    exact propext ⟨fun q => ⟨hin, (nI_eq (by omega) (by omega)).mp q⟩, fun q => by rw [q.2]⟩
  · rw [if_neg hin]
    refine propext ⟨fun q => ?_, fun q => absurd q.1 hin⟩
    have h1 : nI c < 0 := by rw [← q]; decide
    exact absurd h1 (nI_pos (by omega))
theorem q_mBlanks : ∀ f i h, i ≤ n → n - i ≤ f → q_tM h.1 b n → h.1 122 8 = nI i → ∃ h', zl_M_reads_8 h = zl_M_reads_8 h' ∧ h'.1 122 8 = nI (q_en (q_bl b) n f i) ∧ ∀ o k, ¬ (o = 122 ∧ k = 8) → h'.1 o k = h.1 o k := by
  intro f
  induction f with
  | zero => intro i h hi hf ht h8; exact ⟨h, rfl, h8, fun _ _ _ => rfl⟩
  | succ f ih =>
    intro i h hi hf ht h8
    have hn := ht.1
    unfold q_en
    by_cases hc : i < n ∧ q_bl b i = true
    · have h32 : b i = 32 := of_decide_eq_true hc.2
      have hx : q_by b n i = 32 := (q_byNe (c := 32) (fun i hi => (ht.2.2 i hi).1) (by decide)).mpr ⟨hc.1, h32⟩
      have e1 : zl_M_reads_8 h = zl_M_reads_8 (z_wI h 122 8 (nI (i + 1))) := by
        rw [e_M_reads_8 h, h8, q_mByte ht (by omega), z_bd_some, hx, if_neg (fun q => q rfl), h8, nI_1]
      obtain ⟨h', g1, g2, g3⟩ := ih (i + 1) (z_wI h 122 8 (nI (i + 1))) (by omega) (by omega) (ht.wr (by decide)) (by rw [z_wI1, if_pos ⟨rfl, rfl⟩])
      refine ⟨h', by rw [e1]; exact g1, by rw [if_pos hc]; exact g2, fun o k q => ?_⟩
      rw [g3 o k q, z_wI1, if_neg q]
    · rw [if_neg hc]
      exact ⟨h, rfl, h8, fun _ _ _ => rfl⟩
theorem q_mWord : ∀ f i h, i ≤ n → n - i ≤ f → q_tM h.1 b n → h.1 122 8 = nI i → ∃ h', zl_M_reads_82 h = some (0, h') ∧ h'.1 122 8 = nI (q_en (q_lt b) n f i) ∧ ∀ o k, ¬ (o = 122 ∧ k = 8) → h'.1 o k = h.1 o k := by
  intro f
  induction f with
  | zero =>
    intro i h hi hf ht h8
    have hn := ht.1
    refine ⟨h, ?_, h8, fun _ _ _ => rfl⟩
    rw [e_M_reads_82, h8, q_mByte ht (by omega), z_bd_some, q_mIsL (fun i hi => (ht.2.2 i hi).1), z_bd_some, decide_eq_false (show ¬ i < n by omega), Bool.false_and, if_pos (by decide)]
  | succ f ih =>
    intro i h hi hf ht h8
    have hn := ht.1
    have e1 : zl_M_reads_82 h = (if q_b (decide (i < n) && q_lt b i) = 0 then some (0, h) else zl_M_reads_82 (z_wI h 122 8 (nI (i + 1)))) := by
      rw [e_M_reads_82, h8, q_mByte ht (by omega), z_bd_some, q_mIsL (fun i hi => (ht.2.2 i hi).1), z_bd_some, h8, nI_1]
    unfold q_en
    rw [e1]
    by_cases hc : i < n ∧ q_lt b i = true
    · obtain ⟨h', g1, g2, g3⟩ := ih (i + 1) (z_wI h 122 8 (nI (i + 1))) (by omega) (by omega) (ht.wr (by decide)) (by rw [z_wI1, if_pos ⟨rfl, rfl⟩])
      rw [decide_eq_true hc.1, hc.2, if_neg (by decide), if_pos ⟨hc.1, rfl⟩]
      refine ⟨h', g1, g2, fun o k q => ?_⟩
      rw [g3 o k q, z_wI1, if_neg q]
    · rw [if_neg hc]
      have hz : (decide (i < n) && q_lt b i) = false := by
        cases hl : q_lt b i with
        | false => rw [Bool.and_false]
        | true =>
          by_cases hin : i < n
          · exact absurd ⟨hin, hl⟩ hc
          · rw [decide_eq_false hin]; rfl
      rw [hz, if_pos (by decide)]
      exact ⟨h, rfl, h8, fun _ _ _ => rfl⟩
theorem q_dvl_e : ∀ k i c, q_dvl b (k + 1) i c = 10 * q_dvl b k i c + b (i + k) - 48 := by
  intro k
  induction k with
  | zero => intro i c; rfl
  | succ k ih =>
    intro i c
    show q_dvl b (k + 1) (i + 1) (10 * c + b i - 48) = 10 * q_dvl b k (i + 1) (10 * c + b i - 48) + b (i + (k + 1)) - 48
    rw [ih (i + 1), show i + 1 + k = i + (k + 1) by omega]
theorem q_mNum {s : Nat} : ∀ f i h, s ≤ i → i ≤ n → n - i ≤ f → q_tM h.1 b n → h.1 122 8 = nI i → h.1 122 9 = nI s → h.1 122 12 = 0 → (i - s ≤ 3 → h.1 122 11 = nI (q_dvl b (i - s) s 0)) → ∃ h', zl_M_reads_140 h = some (0, h') ∧ h'.1 122 8 = nI (q_en (q_fg b) n f i) ∧ h'.1 122 9 = nI s ∧ h'.1 122 10 = h.1 122 10 ∧ (q_en (q_fg b) n f i - s ≤ 3 → h'.1 122 12 = 0 ∧ h'.1 122 11 = nI (q_dvl b (q_en (q_fg b) n f i - s) s 0)) ∧ (¬ q_en (q_fg b) n f i - s ≤ 3 → h'.1 122 12 = 1 ∧ h'.1 122 13 = nI s) ∧ ∀ o k, ¬ (o = 122 ∧ 8 ≤ k ∧ k ≤ 13) → h'.1 o k = h.1 o k := by
  have stop : ∀ i h, s ≤ i → i ≤ n → q_tM h.1 b n → h.1 122 8 = nI i → h.1 122 9 = nI s → h.1 122 12 = 0 → (i - s ≤ 3 → h.1 122 11 = nI (q_dvl b (i - s) s 0)) → (decide (i < n) && q_fg b i) = false → ∃ h', zl_M_reads_140 h = some (0, h') ∧ h'.1 122 8 = nI i ∧ h'.1 122 9 = nI s ∧ h'.1 122 10 = h.1 122 10 ∧ (i - s ≤ 3 → h'.1 122 12 = 0 ∧ h'.1 122 11 = nI (q_dvl b (i - s) s 0)) ∧ (¬ i - s ≤ 3 → h'.1 122 12 = 1 ∧ h'.1 122 13 = nI s) ∧ ∀ o k, ¬ (o = 122 ∧ 8 ≤ k ∧ k ≤ 13) → h'.1 o k = h.1 o k := by
    intro i h hsi hi ht h8 h9 h12 h11 hz
    have hn := ht.1
    have e1 : zl_M_reads_140 h = (if (3 : Int32) < nI (i - s) then z_bd (z_M 135 [.ref 122, .int 0, .int 1] h) (fun r5 h6 => some (0, h6)) else z_bd (z_M 135 [.ref 122, .int 1, .int 1] h) (fun r7 h8 => some (0, h8))) := by
      rw [e_M_reads_140, h8, q_mByte ht (by omega), z_bd_some, q_mIsF (fun i hi => (ht.2.2 i hi).1), z_bd_some, hz, if_pos (by decide), h8, h9, q_sub hsi]
    rw [e1]
    by_cases h3 : i - s ≤ 3
    · rw [if_neg (show ¬ (3 : Int32) < nI (i - s) from nI_nlt (a := 3) h3 (by decide)), e_M_requires, if_pos (by decide), z_bd_some]
      exact ⟨h, rfl, h8, h9, rfl, fun _ => ⟨h12, h11 h3⟩, fun q => absurd h3 q, fun _ _ _ => rfl⟩
    · have w9 : (z_wI h 122 12 1).1 122 9 = nI s := by rw [z_wI1, if_neg (by omega)]; exact h9
      rw [if_pos (show (3 : Int32) < nI (i - s) from nI_lt (a := 3) (by omega) (by omega)), e_M_requires, if_neg (fun q => q rfl), h12, if_neg (fun q => q rfl), w9, z_bd_some]
      refine ⟨z_wI (z_wI h 122 12 1) 122 13 (nI s), rfl, ?_, ?_, ?_, fun q => absurd q h3, fun _ => ⟨?_, ?_⟩, fun o k q => ?_⟩
      · rw [z_wI1, if_neg (by omega), z_wI1, if_neg (by omega)]; exact h8
      · rw [z_wI1, if_neg (by omega)]; exact w9
      · rw [z_wI1, if_neg (by omega), z_wI1, if_neg (by omega)]
      · rw [z_wI1, if_neg (by omega), z_wI1, if_pos ⟨rfl, rfl⟩]
      · rw [z_wI1, if_pos ⟨rfl, rfl⟩]
      · rw [z_wI1, if_neg (by omega), z_wI1, if_neg (by omega)]
  intro f
  induction f with
  | zero =>
    intro i h hsi hi hf ht h8 h9 h12 h11
    exact stop i h hsi hi ht h8 h9 h12 h11 (by rw [decide_eq_false (show ¬ i < n by omega)]; rfl)
  | succ f ih =>
    intro i h hsi hi hf ht h8 h9 h12 h11
    have hn := ht.1
    unfold q_en
    by_cases hc : i < n ∧ q_fg b i = true
    · have h48 : 48 ≤ b i := by
        have := hc.2
        unfold q_fg at this
        rw [Bool.and_eq_true] at this
        exact of_decide_eq_true this.1
      have hby : q_by b n i = nI (b i) := if_pos hc.1
      obtain ⟨X, hX⟩ : ∃ X, X = (if (3 : Int32) ≤ nI (i - s) then h.1 122 11 else ((10 * (h.1 122 11)) + q_by b n i) - 48) := ⟨_, rfl⟩
      have e1 : zl_M_reads_140 h = zl_M_reads_140 (z_wI (z_wI h 122 11 X) 122 8 (nI (i + 1))) := by
        have w8 : ∀ Y, (z_wI h 122 11 Y).1 122 8 = nI i := fun Y => by rw [z_wI1, if_neg (by omega)]; exact h8
        rw [e_M_reads_140 h, h8, q_mByte ht (by omega), z_bd_some, q_mIsF (fun i hi => (ht.2.2 i hi).1), z_bd_some, decide_eq_true hc.1, hc.2, if_neg (by decide), h8, h9, q_sub hsi, q_mByte ht (by omega), z_bd_some, w8, w8, nI_1, hX]
        by_cases h3 : (3 : Int32) ≤ nI (i - s)
        · rw [if_pos h3, if_pos h3]
        · rw [if_neg h3, if_neg h3]
      have hv : i + 1 - s ≤ 3 → X = nI (q_dvl b (i + 1 - s) s 0) := fun h3 => by
        rw [hX, if_neg (show ¬ (3 : Int32) ≤ nI (i - s) from nI_ge (b := 3) (by omega) (by decide)), h11 (by omega), hby, show i + 1 - s = (i - s) + 1 by omega, q_dvl_e, show s + (i - s) = i by omega, n_10, n_48, pk_mul, nI_add, q_sub (by omega)]
      obtain ⟨h', g1, g2, g3, g4, g5, g6, g7⟩ := ih (i + 1) (z_wI (z_wI h 122 11 X) 122 8 (nI (i + 1))) (by omega) (by omega) (by omega) ((ht.wr (by decide)).wr (by decide)) (by rw [z_wI1, if_pos ⟨rfl, rfl⟩]) (by rw [z_wI1, if_neg (by omega), z_wI1, if_neg (by omega)]; exact h9) (by rw [z_wI1, if_neg (by omega), z_wI1, if_neg (by omega)]; exact h12) (fun h3 => by rw [z_wI1, if_neg (by omega), z_wI1, if_pos ⟨rfl, rfl⟩]; exact hv h3)
      rw [if_pos hc]
      refine ⟨h', by rw [e1]; exact g1, g2, g3, ?_, g5, g6, fun o k q => ?_⟩
      · rw [g4, z_wI1, if_neg (by omega), z_wI1, if_neg (by omega)]
      · rw [g7 o k q, z_wI1, if_neg (by omega), z_wI1, if_neg (by omega)]
    · rw [if_neg hc]
      refine stop i h hsi hi ht h8 h9 h12 h11 ?_
      cases hl : q_fg b i with
      | false => rw [Bool.and_false]
      | true =>
        by_cases hin : i < n
        · exact absurd ⟨hin, hl⟩ hc
        · rw [decide_eq_false hin]; rfl
/-- the reference reads a token -/
theorem q_mReads {h : z_H} {i : Nat} (ht : q_tM h.1 b n) (hi : i ≤ n) (h8 : h.1 122 8 = nI i) (h12 : h.1 122 12 = 0) : ∃ h', z_M 139 [.ref 122] h = some (0, h') ∧ (q_kd b n (q_ts b n i) ≠ 0 → h'.1 122 12 = 0 ∧ h'.1 122 9 = nI (q_ts b n i) ∧ h'.1 122 8 = nI (q_te b n (q_ts b n i)) ∧ h'.1 122 10 = nI (q_kd b n (q_ts b n i) % 4) ∧ (q_kd b n (q_ts b n i) = 2 → h'.1 122 11 = nI (q_tv b n (q_ts b n i)))) ∧ (q_kd b n (q_ts b n i) = 0 → h'.1 122 12 = 1 ∧ h'.1 122 13 = nI (q_ts b n i)) ∧ ∀ o k, ¬ (o = 122 ∧ 8 ≤ k ∧ k ≤ 13) → h'.1 o k = h.1 o k := by
  have hn := ht.1
  have hbb : ∀ i, i < n → b i < 128 := fun i hi => (ht.2.2 i hi).1
  obtain ⟨h1, a1, a2, a3⟩ := q_mBlanks (n - i) i h hi (Nat.le_refl _) ht h8
  have hle := q_en_le (p := q_bl b) (n := n) (n - i) i hi (Nat.le_refl _)
  obtain ⟨s, hs⟩ : ∃ s, s = q_ts b n i := ⟨_, rfl⟩
  have a2 : h1.1 122 8 = nI s := by rw [hs]; exact a2
  have hsn : s ≤ n := by rw [hs]; exact hle.2.1
  have ht1 : q_tM h1.1 b n := ht.fr (fun o k q _ => a3 o k (by omega))
  have hnb : ¬ q_by b n s = 32 := fun q => by
    have q := ((q_byNe (c := 32) hbb (by decide)).mp q)
    have h4 := hle.2.2.2 (by have := q.1; rw [hs] at this; exact this)
    have : q_bl b s = false := by rw [hs]; exact h4
    unfold q_bl at this
    rw [decide_eq_true q.2] at this
    cases this
  obtain ⟨h2, e2⟩ : ∃ h2, h2 = z_wI h1 122 9 (nI s) := ⟨_, rfl⟩
  have r2 : ∀ o k, ¬ (o = 122 ∧ 8 ≤ k ∧ k ≤ 9) → h2.1 o k = h.1 o k := fun o k q => by
    rw [e2, z_wI1, if_neg (by omega), a3 o k (by omega)]
  have r28 : h2.1 122 8 = nI s := by rw [e2, z_wI1, if_neg (by omega)]; exact a2
  have r29 : h2.1 122 9 = nI s := by rw [e2, z_wI1, if_pos ⟨rfl, rfl⟩]
  have r212 : h2.1 122 12 = 0 := (r2 _ _ (by omega)).trans h12
  have ht2 : q_tM h2.1 b n := ht.fr (fun o k q _ => r2 o k (by omega))
  have e0 : z_M 139 [.ref 122] h = (if (0 : Int32) ≤ q_by b n s then (if q_b (decide (s < n) && q_lt b s) = 0 then (if q_b (decide (s < n) && q_fg b s) = 0 then (if ¬ q_by b n s = 59 then z_bd (z_M 135 [.ref 122, .int 0, .int 1] (z_wI h2 122 10 3)) (fun r9 h10 => some (0, (z_wI h10 122 8 ((h10.1 122 8) + 1)))) else z_bd (z_M 135 [.ref 122, .int 1, .int 1] (z_wI h2 122 10 3)) (fun r11 h12 => some (0, (z_wI h12 122 8 ((h12.1 122 8) + 1))))) else zl_M_reads_140 (z_wI (z_wI h2 122 10 2) 122 11 0)) else zl_M_reads_82 (z_wI h2 122 10 1)) else some (0, (z_wI h2 122 10 0))) := by
    rw [e_M_reads, h12, if_pos (by decide), a1, e_M_reads_8 h1, a2, q_mByte ht1 (by omega), z_bd_some, if_pos hnb, a2, ← e2, r28, q_mByte ht2 (by omega), z_bd_some, q_mIsL hbb, z_bd_some, q_mIsF hbb, z_bd_some]
  rw [e0, ← hs]
  unfold q_kd q_te q_tv
  by_cases hns : n ≤ s
  · have hby : q_by b n s = -1 := if_neg (by omega)
    rw [hby, if_neg (by decide), if_pos hns, if_pos hns]
    refine ⟨z_wI h2 122 10 0, rfl, fun _ => ⟨?_, ?_, ?_, ?_, fun q => absurd q (by decide)⟩, fun q => absurd q (by decide), fun o k q => ?_⟩
    · rw [z_wI1, if_neg (by omega)]; exact r212
    · rw [z_wI1, if_neg (by omega)]; exact r29
    · rw [z_wI1, if_neg (by omega)]; exact r28
    · rw [z_wI1, if_pos ⟨rfl, rfl⟩]; rfl
    · rw [z_wI1, if_neg (by omega)]; exact r2 o k (by omega)
  · have hsn' : s < n := by omega
    have hb128 := hbb s hsn'
    have hby : q_by b n s = nI (b s) := if_pos hsn'
    rw [hby, if_pos (nI_pos' (by omega)), if_neg hns, if_neg hns, decide_eq_true hsn', Bool.true_and, Bool.true_and]
    by_cases h59 : b s = 59
    · have hl : q_lt b s = false := by unfold q_lt; rw [h59]; rfl
      have hf : q_fg b s = false := by unfold q_fg; rw [h59]; rfl
      have w8 : (z_wI h2 122 10 3).1 122 8 = nI s := by rw [z_wI1, if_neg (by omega)]; exact r28
      rw [hl, hf, if_pos (show q_b false = 0 from rfl), if_pos (show q_b false = 0 from rfl), h59, if_neg (show ¬ ¬ nI 59 = 59 from fun q => q rfl), e_M_requires, if_pos (by decide), z_bd_some, if_pos rfl, if_pos rfl, w8, nI_1]
      refine ⟨z_wI (z_wI h2 122 10 3) 122 8 (nI (s + 1)), rfl, fun _ => ⟨?_, ?_, ?_, ?_, fun q => absurd q (by decide)⟩, fun q => absurd q (by decide), fun o k q => ?_⟩
      · rw [z_wI1, if_neg (by omega), z_wI1, if_neg (by omega)]; exact r212
      · rw [z_wI1, if_neg (by omega), z_wI1, if_neg (by omega)]; exact r29
      · rw [z_wI1, if_pos ⟨rfl, rfl⟩]
      · rw [z_wI1, if_neg (by omega), z_wI1, if_pos ⟨rfl, rfl⟩]; rfl
      · rw [z_wI1, if_neg (by omega), z_wI1, if_neg (by omega)]; exact r2 o k (by omega)
    · rw [if_neg h59, if_neg h59]
      cases hl : q_lt b s with
      | true =>
        obtain ⟨h3, c1, c2, c3⟩ := q_mWord (b := b) (n := n) (n - s) s (z_wI h2 122 10 1) (by omega) (Nat.le_refl _) (ht2.wr (by decide)) (by rw [z_wI1, if_neg (by omega)]; exact r28)
        rw [if_neg (show ¬ q_b true = 0 by decide), c1, if_pos rfl, if_pos rfl]
        refine ⟨h3, rfl, fun _ => ⟨?_, ?_, c2, ?_, fun q => absurd q (by decide)⟩, fun q => absurd q (by decide), fun o k q => ?_⟩
        · rw [c3 _ _ (by omega), z_wI1, if_neg (by omega)]; exact r212
        · rw [c3 _ _ (by omega), z_wI1, if_neg (by omega)]; exact r29
        · rw [c3 _ _ (by omega), z_wI1, if_pos ⟨rfl, rfl⟩]; rfl
        · rw [c3 o k (by omega), z_wI1, if_neg (by omega)]; exact r2 o k (by omega)
      | false =>
        rw [if_pos (show q_b false = 0 from rfl), if_neg (show ¬ false = true by decide), if_neg (show ¬ false = true by decide)]
        cases hf : q_fg b s with
        | true =>
          obtain ⟨h3, c1, c2, c3, c4, c5, c6, c7⟩ := q_mNum (b := b) (n := n) (s := s) (n - s) s (z_wI (z_wI h2 122 10 2) 122 11 0) (Nat.le_refl _) (by omega) (Nat.le_refl _) ((ht2.wr (by decide)).wr (by decide)) (by rw [z_wI1, if_neg (by omega), z_wI1, if_neg (by omega)]; exact r28) (by rw [z_wI1, if_neg (by omega), z_wI1, if_neg (by omega)]; exact r29) (by rw [z_wI1, if_neg (by omega), z_wI1, if_neg (by omega)]; exact r212) (fun _ => by rw [z_wI1, if_pos ⟨rfl, rfl⟩, Nat.sub_self]; rfl)
          have hfe : q_fe b n s = q_en (q_fg b) n (n - s) s := rfl
          rw [← hfe] at c2 c5 c6
          rw [if_neg (show ¬ q_b true = 0 by decide), c1, if_pos rfl, if_pos rfl]
          refine ⟨h3, rfl, fun q => ?_, fun q => ?_, fun o k q => ?_⟩
          · by_cases h3' : q_fe b n s - s ≤ 3
            · rw [if_pos h3']
              refine ⟨(c5 h3').1, c3, c2, ?_, fun _ => (c5 h3').2⟩
              rw [c4, z_wI1, if_neg (by omega), z_wI1, if_pos ⟨rfl, rfl⟩]
              rfl
            · rw [if_neg h3'] at q
              exact absurd rfl q
          · by_cases h3' : q_fe b n s - s ≤ 3
            · rw [if_pos h3'] at q
              cases q
            · exact c6 h3'
          · rw [c7 o k q, z_wI1, if_neg (by omega), z_wI1, if_neg (by omega)]
            exact r2 o k (by omega)
        | false =>
          have w9 : (z_wI (z_wI h2 122 10 3) 122 12 1).1 122 9 = nI s := by rw [z_wI1, if_neg (by omega), z_wI1, if_neg (by omega)]; exact r29
          have w12 : (z_wI h2 122 10 3).1 122 12 = 0 := by rw [z_wI1, if_neg (by omega)]; exact r212
          rw [if_pos (show q_b false = 0 from rfl), if_pos (show ¬ nI (b s) = 59 from fun q => h59 ((nI_eq (b := 59) (by omega) (by decide)).mp q)), e_M_requires, if_neg (fun q => q rfl), w12, if_neg (fun q => q rfl), w9, z_bd_some, if_neg (show ¬ false = true by decide), if_neg (show ¬ false = true by decide)]
          refine ⟨_, rfl, fun q => absurd rfl q, fun _ => ⟨?_, ?_⟩, fun o k q => ?_⟩
          · rw [z_wI1, if_neg (by omega), z_wI1, if_neg (by omega), z_wI1, if_pos ⟨rfl, rfl⟩]
          · rw [z_wI1, if_neg (by omega), z_wI1, if_pos ⟨rfl, rfl⟩]
          · rw [z_wI1, if_neg (by omega), z_wI1, if_neg (by omega), z_wI1, if_neg (by omega), z_wI1, if_neg (by omega)]; exact r2 o k (by omega)
end QMT
