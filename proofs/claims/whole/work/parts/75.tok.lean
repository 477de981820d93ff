/-! THE PURE PART: tokens, told of the bytes; the class reads one -/
def q_en (p : Nat → Bool) (n : Nat) : Nat → Nat → Nat
  | 0, i => i
  | f + 1, i => if i < n ∧ p i = true then q_en p n f (i + 1) else i
theorem q_en_le {p : Nat → Bool} {n : Nat} : ∀ f i, i ≤ n → n - i ≤ f → i ≤ q_en p n f i ∧ q_en p n f i ≤ n ∧ (∀ j, i ≤ j → j < q_en p n f i → p j = true) ∧ (q_en p n f i < n → p (q_en p n f i) = false) := by
  intro f
  induction f with
  | zero => intro i hi hf; exact ⟨Nat.le_refl _, hi, fun j j1 j2 => absurd j2 (Nat.not_lt.mpr j1), fun h => absurd h (by show ¬ i < n; omega)⟩
  | succ f ih =>
    intro i hi hf
    unfold q_en
    by_cases hc : i < n ∧ p i = true
    · rw [if_pos hc]
      obtain ⟨g1, g2, g3, g4⟩ := ih (i + 1) (by omega) (by omega)
      refine ⟨by omega, g2, fun j j1 j2 => ?_, g4⟩
      by_cases hj : j = i
      · rw [hj]; exact hc.2
      · exact g3 j (by omega) j2
    · rw [if_neg hc]
      refine ⟨Nat.le_refl _, hi, fun j j1 j2 => absurd j2 (by omega), fun h => ?_⟩
      cases hp : p i with
      | false => rfl
      | true => exact absurd ⟨h, hp⟩ hc
def q_bl (b : Nat → Nat) (i : Nat) : Bool := decide (b i = 32)
def q_lt (b : Nat → Nat) (i : Nat) : Bool := decide (97 ≤ b i) && decide (b i ≤ 122)
def q_fg (b : Nat → Nat) (i : Nat) : Bool := decide (48 ≤ b i) && decide (b i ≤ 57)
def q_ts (b : Nat → Nat) (n i : Nat) : Nat := q_en (q_bl b) n (n - i) i
def q_we (b : Nat → Nat) (n s : Nat) : Nat := q_en (q_lt b) n (n - s) s
def q_fe (b : Nat → Nat) (n s : Nat) : Nat := q_en (q_fg b) n (n - s) s
/-- the kind: 0 none, 1 a word, 2 a number, 3 the stop, 4 the end -/
def q_kd (b : Nat → Nat) (n s : Nat) : Nat := if n ≤ s then 4 else if b s = 59 then 3 else if q_lt b s = true then 1 else if q_fg b s = true then (if q_fe b n s - s ≤ 3 then 2 else 0) else 0
def q_te (b : Nat → Nat) (n s : Nat) : Nat := if n ≤ s then s else if b s = 59 then s + 1 else if q_lt b s = true then q_we b n s else if q_fg b s = true then q_fe b n s else s
def q_dvl (b : Nat → Nat) : Nat → Nat → Nat → Nat
  | 0, _, c => c
  | f + 1, i, c => q_dvl b f (i + 1) (10 * c + b i - 48)
def q_tv (b : Nat → Nat) (n s : Nat) : Nat := q_dvl b (q_fe b n s - s) s 0
/-- the tape as both sides hold it -/
def q_tC (I : Nat → Nat → Int32) (b : Nat → Nat) (n : Nat) : Prop := n ≤ 320 ∧ I 1 0 = nI n ∧ ∀ i, i < n → b i < 128 ∧ I 2 i = nI (b i)
def q_tM (I : Nat → Nat → Int32) (b : Nat → Nat) (n : Nat) : Prop := n ≤ 320 ∧ I 122 7 = nI n ∧ ∀ i, i < n → b i < 128 ∧ I 127 i = nI (b i)
theorem q_dec2 {c l u : Nat} {α : Type} {x y : α} : (if c < l then x else if u < c then x else y) = if (decide (l ≤ c) && decide (c ≤ u)) = true then y else x := by
  by_cases h1 : c < l
  · rw [if_pos h1, decide_eq_false (by omega), Bool.false_and, if_neg (by decide)]
  · rw [if_neg h1, decide_eq_true (by omega), Bool.true_and]
    by_cases h2 : u < c
    · rw [if_pos h2, decide_eq_false (by omega), if_neg (by decide)]
    · rw [if_neg h2, decide_eq_true (by omega), if_pos rfl]
section QTK
variable {b : Nat → Nat} {n : Nat}
theorem q_cLet {c : Nat} (hc : c < 128) (h : z_H) : z_M 51 [.int (nI c)] h = some (q_b (decide (97 ≤ c) && decide (c ≤ 122)), h) := by
  rw [e_Tp_isLetter]
  by_cases h1 : c < 97
  · rw [if_pos (show nI c < 97 from nI_lt (b := 97) h1 (by decide)), decide_eq_false (by omega)]
    rfl
  · rw [if_neg (show ¬ nI c < 97 from nI_nlt (b := 97) (by omega) (by omega)), decide_eq_true (by omega), Bool.true_and]
    by_cases h2 : 122 < c
    · rw [if_pos (show (122 : Int32) < nI c from nI_lt (a := 122) h2 (by omega)), decide_eq_false (by omega)]
      rfl
    · rw [if_neg (show ¬ (122 : Int32) < nI c from nI_nlt (a := 122) (by omega) (by decide)), decide_eq_true (by omega)]
      rfl
theorem q_cFig {c : Nat} (hc : c < 128) (h : z_H) : z_M 52 [.int (nI c)] h = some (q_b (decide (48 ≤ c) && decide (c ≤ 57)), h) := by
  rw [e_Tp_isFigure]
  by_cases h1 : c < 48
  · rw [if_pos (show nI c < 48 from nI_lt (b := 48) h1 (by decide)), decide_eq_false (by omega)]
    rfl
  · rw [if_neg (show ¬ nI c < 48 from nI_nlt (b := 48) (by omega) (by omega)), decide_eq_true (by omega), Bool.true_and]
    by_cases h2 : 57 < c
    · rw [if_pos (show (57 : Int32) < nI c from nI_lt (a := 57) h2 (by omega)), decide_eq_false (by omega)]
      rfl
    · rw [if_neg (show ¬ (57 : Int32) < nI c from nI_nlt (a := 57) (by omega) (by decide)), decide_eq_true (by omega)]
      rfl
theorem q_tC.wr {h : z_H} {k : Nat} {x : Int32} (ht : q_tC h.1 b n) (hk : 1 ≤ k) : q_tC (z_wI h 1 k x).1 b n := ⟨ht.1, by rw [z_wI1, if_neg (by omega)]; exact ht.2.1, fun i hi => ⟨(ht.2.2 i hi).1, by rw [z_wI1, if_neg (by omega)]; exact (ht.2.2 i hi).2⟩⟩
theorem q_cBlanks : ∀ f i h, i ≤ n → n - i ≤ f → q_tC h.1 b n → h.1 1 2 = nI i → ∃ h', zl_Tp_advance_8 h = zl_Tp_advance_46 h' ∧ h'.1 1 2 = nI (q_en (q_bl b) n f i) ∧ ∀ o k, ¬ (o = 1 ∧ k = 2) → h'.1 o k = h.1 o k := by
  intro f
  induction f with
  | zero =>
    intro i h hi hf ht h2
    refine ⟨h, ?_, h2, fun _ _ _ => rfl⟩
    have hn := ht.1
    rw [e_Tp_advance_8, h2, ht.2.1, if_pos (nI_le (by omega) (by omega))]
  | succ f ih =>
    intro i h hi hf ht h2
    have hn := ht.1
    unfold q_en
    by_cases hin : i < n
    · obtain ⟨b1, b2⟩ := ht.2.2 i hin
      have e1 : zl_Tp_advance_8 h = (if ¬ nI (b i) = 32 then zl_Tp_advance_46 h else zl_Tp_advance_8 (z_wI h 1 2 (nI (i + 1)))) := by
        rw [e_Tp_advance_8, h2, ht.2.1, if_neg (nI_ge hin (by omega)), q_inC (show i < 320 by omega) (by decide), nI_clamp (by omega), b2, nI_1]
      rw [e1]
      by_cases h32 : b i = 32
      · obtain ⟨h', g1, g2, g3⟩ := ih (i + 1) (z_wI h 1 2 (nI (i + 1))) (by omega) (by omega) (ht.wr (by decide)) (by rw [z_wI1, if_pos ⟨rfl, rfl⟩])
        refine ⟨h', ?_, ?_, fun o k q => ?_⟩
        · rw [h32, if_neg (show ¬ ¬ nI 32 = 32 from fun q => q rfl)]
          exact g1
        · rw [if_pos ⟨hin, decide_eq_true h32⟩]
          exact g2
        · rw [g3 o k q, z_wI1, if_neg q]
      · refine ⟨h, ?_, ?_, fun _ _ _ => rfl⟩
        · rw [if_pos (show ¬ nI (b i) = 32 from fun q => h32 ((nI_eq (b := 32) (by omega) (by decide)).mp q))]
        · rw [if_neg (fun q => by
            have := of_decide_eq_true q.2
            exact h32 this)]
          exact h2
    · refine ⟨h, ?_, ?_, fun _ _ _ => rfl⟩
      · rw [e_Tp_advance_8, h2, ht.2.1, if_pos (nI_le (by omega) (by omega))]
      · rw [if_neg (fun q => hin q.1)]
        exact h2
theorem q_cWord : ∀ f i h, i ≤ n → n - i ≤ f → q_tC h.1 b n → h.1 1 4 = nI i → ∃ h', zl_Tp_takeWord_5 h = some (0, h') ∧ h'.1 1 4 = nI (q_en (q_lt b) n f i) ∧ ∀ o k, ¬ (o = 1 ∧ k = 4) → h'.1 o k = h.1 o k := by
  intro f
  induction f with
  | zero =>
    intro i h hi hf ht h2
    refine ⟨h, ?_, h2, fun _ _ _ => rfl⟩
    have hn := ht.1
    rw [e_Tp_takeWord_5, h2, ht.2.1, if_pos (nI_le (by omega) (by omega))]
  | succ f ih =>
    intro i h hi hf ht h2
    have hn := ht.1
    unfold q_en
    by_cases hin : i < n
    · obtain ⟨b1, b2⟩ := ht.2.2 i hin
      have e1 : zl_Tp_takeWord_5 h = (if q_b (q_lt b i) = 0 then some (0, h) else zl_Tp_takeWord_5 (z_wI h 1 4 (nI (i + 1)))) := by
        rw [e_Tp_takeWord_5, h2, ht.2.1, if_neg (nI_ge hin (by omega)), q_inC (show i < 320 by omega) (by decide), nI_clamp (by omega), b2, q_cLet b1, z_bd_some, h2, nI_1]
        rfl
      rw [e1]
      cases hl : q_lt b i with
      | true =>
        obtain ⟨h', g1, g2, g3⟩ := ih (i + 1) (z_wI h 1 4 (nI (i + 1))) (by omega) (by omega) (ht.wr (by decide)) (by rw [z_wI1, if_pos ⟨rfl, rfl⟩])
        refine ⟨h', ?_, ?_, fun o k q => ?_⟩
        · rw [if_neg (by decide)]
          exact g1
        · rw [if_pos ⟨hin, rfl⟩]
          exact g2
        · rw [g3 o k q, z_wI1, if_neg q]
      | false =>
        refine ⟨h, by rw [if_pos (by decide)], ?_, fun _ _ _ => rfl⟩
        rw [if_neg (fun q => Bool.noConfusion q.2)]
        exact h2
    · refine ⟨h, ?_, ?_, fun _ _ _ => rfl⟩
      · rw [e_Tp_takeWord_5, h2, ht.2.1, if_pos (nI_le (by omega) (by omega))]
      · rw [if_neg (fun q => hin q.1)]
        exact h2
theorem q_dvl_s {f i c : Nat} : q_dvl b (f + 1) i c = q_dvl b f (i + 1) (10 * c + b i - 48) := rfl
theorem q_cNum : ∀ f i h c, i ≤ n → n - i ≤ f → q_tC h.1 b n → h.1 1 4 = nI i → h.1 1 3 = nI c → ∃ h', zl_Tp_takeNumber_5 h = zl_Tp_takeNumber_68 h' ∧ h'.1 1 4 = nI (q_en (q_fg b) n f i) ∧ h'.1 1 3 = nI (q_dvl b (q_en (q_fg b) n f i - i) i c) ∧ ∀ o k, ¬ (o = 1 ∧ 3 ≤ k ∧ k ≤ 4) → h'.1 o k = h.1 o k := by
  intro f
  induction f with
  | zero =>
    intro i h c hi hf ht h2 h3
    refine ⟨h, ?_, h2, ?_, fun _ _ _ => rfl⟩
    · have hn := ht.1
      rw [e_Tp_takeNumber_5, h2, ht.2.1, if_pos (nI_le (by omega) (by omega))]
    · rw [show q_en (q_fg b) n 0 i - i = 0 from Nat.sub_self i]
      exact h3
  | succ f ih =>
    intro i h c hi hf ht h2 h3
    have hn := ht.1
    have hstop : ∀ h : z_H, h.1 1 3 = nI c → h.1 1 3 = nI (q_dvl b (i - i) i c) := fun h q => by
      rw [Nat.sub_self]
      exact q
    unfold q_en
    by_cases hin : i < n
    · obtain ⟨b1, b2⟩ := ht.2.2 i hin
      cases hl : q_fg b i with
      | true =>
        have h48 : 48 ≤ b i := by
          unfold q_fg at hl
          rw [Bool.and_eq_true] at hl
          exact of_decide_eq_true hl.1
        have hl' : (decide (48 ≤ b i) && decide (b i ≤ 57)) = true := hl
        have e1 : zl_Tp_takeNumber_5 h = zl_Tp_takeNumber_5 (z_wI (z_wI h 1 3 (nI (10 * c + b i - 48))) 1 4 (nI (i + 1))) := by
          have e0 : (10 : Int32) * nI c + nI (b i) - 48 = nI (10 * c + b i - 48) := by
            rw [n_10, n_48, pk_mul, nI_add, q_sub (by omega)]
          have w4 : (z_wI h 1 3 (nI (10 * c + b i - 48))).1 1 4 = nI i := by rw [z_wI1, if_neg (by omega)]; exact h2
          rw [e_Tp_takeNumber_5, h2, ht.2.1, if_neg (nI_ge hin (by omega)), q_inC (show i < 320 by omega) (by decide), nI_clamp (by omega), b2, q_cFig b1, z_bd_some, hl', if_neg (by decide), h2, h3, q_inC (show i < 320 by omega) (by decide), nI_clamp (by omega), b2, e0, w4, nI_1]
        obtain ⟨h', g1, g2, g3, g4⟩ := ih (i + 1) (z_wI (z_wI h 1 3 (nI (10 * c + b i - 48))) 1 4 (nI (i + 1))) (10 * c + b i - 48) (by omega) (by omega) ((ht.wr (by decide)).wr (by decide)) (by rw [z_wI1, if_pos ⟨rfl, rfl⟩]) (by rw [z_wI1, if_neg (by omega), z_wI1, if_pos ⟨rfl, rfl⟩])
        have hle := q_en_le (p := q_fg b) (n := n) f (i + 1) (by omega) (by omega)
        refine ⟨h', by rw [e1]; exact g1, ?_, ?_, fun o k q => ?_⟩
        · rw [if_pos ⟨hin, rfl⟩]
          exact g2
        · rw [if_pos ⟨hin, rfl⟩, show q_en (q_fg b) n f (i + 1) - i = (q_en (q_fg b) n f (i + 1) - (i + 1)) + 1 by omega]
          exact g3
        · rw [g4 o k q, z_wI1, if_neg (by omega), z_wI1, if_neg (by omega)]
      | false =>
        have hl' : (decide (48 ≤ b i) && decide (b i ≤ 57)) = false := hl
        have hc : ¬ (i < n ∧ false = true) := fun q => Bool.noConfusion q.2
        refine ⟨h, ?_, ?_, ?_, fun _ _ _ => rfl⟩
        · rw [e_Tp_takeNumber_5, h2, ht.2.1, if_neg (nI_ge hin (by omega)), q_inC (show i < 320 by omega) (by decide), nI_clamp (by omega), b2, q_cFig b1, z_bd_some, hl', if_pos (by decide)]
        · rw [if_neg hc]
          exact h2
        · rw [if_neg hc]
          exact hstop h h3
    · have hc : ¬ (i < n ∧ q_fg b i = true) := fun q => hin q.1
      refine ⟨h, ?_, ?_, ?_, fun _ _ _ => rfl⟩
      · rw [e_Tp_takeNumber_5, h2, ht.2.1, if_pos (nI_le (by omega) (by omega))]
      · rw [if_neg hc]
        exact h2
      · rw [if_neg hc]
        exact hstop h h3
/-- the class goes on by a token -/
theorem q_cAdv {h : z_H} {i : Nat} (ht : q_tC h.1 b n) (hi : i ≤ n) (h4 : h.1 1 4 = nI i) : ∃ h', z_M 47 [.ref 1] h = some (0, h') ∧ h'.1 1 1 = nI (q_kd b n (q_ts b n i)) ∧ h'.1 1 2 = nI (q_ts b n i) ∧ h'.1 1 4 = nI (q_te b n (q_ts b n i)) ∧ (q_kd b n (q_ts b n i) = 2 → h'.1 1 3 = nI (q_tv b n (q_ts b n i))) ∧ ∀ o k, ¬ (o = 1 ∧ 1 ≤ k ∧ k ≤ 4) → h'.1 o k = h.1 o k := by
  have hn := ht.1
  obtain ⟨h1, a1, a2, a3⟩ := q_cBlanks (n - i) i (z_wI h 1 2 (h.1 1 4)) hi (Nat.le_refl _) (ht.wr (by decide)) (by rw [z_wI1, if_pos ⟨rfl, rfl⟩, h4])
  obtain ⟨s, hs⟩ : ∃ s, s = q_ts b n i := ⟨_, rfl⟩
  have a2 : h1.1 1 2 = nI s := by rw [hs]; exact a2
  have hle := q_en_le (p := q_bl b) (n := n) (n - i) i hi (Nat.le_refl _)
  have hsn : s ≤ n := by rw [hs]; exact hle.2.1
  obtain ⟨h2, e2⟩ : ∃ h2, h2 = z_wI h1 1 4 (h1.1 1 2) := ⟨_, rfl⟩
  have r2 : ∀ o k, ¬ (o = 1 ∧ 2 ≤ k ∧ k ≤ 4) → h2.1 o k = h.1 o k := fun o k q => by
    rw [e2, z_wI1, if_neg (by omega), a3 o k (by omega), z_wI1, if_neg (by omega)]
  have r22 : h2.1 1 2 = nI s := by rw [e2, z_wI1, if_neg (by omega)]; exact a2
  have r24 : h2.1 1 4 = nI s := by rw [e2, z_wI1, if_pos ⟨rfl, rfl⟩]; exact a2
  have ht2 : q_tC h2.1 b n := ⟨hn, (r2 1 0 (by omega)).trans ht.2.1, fun j hj => ⟨(ht.2.2 j hj).1, (r2 2 j (by omega)).trans (ht.2.2 j hj).2⟩⟩
  rw [e_Tp_advance, a1, e_Tp_advance_46, ← e2, ← hs, r22, ht2.2.1]
  unfold q_kd q_te q_tv
  by_cases hns : n ≤ s
  · rw [if_neg (nI_nlt hns (by omega)), if_pos hns, if_pos hns]
    refine ⟨z_wI h2 1 1 4, rfl, ?_, ?_, ?_, fun q => absurd q (by decide), fun o k q => ?_⟩
    · rw [z_wI1, if_pos ⟨rfl, rfl⟩]; rfl
    · rw [z_wI1, if_neg (by omega)]; exact r22
    · rw [z_wI1, if_neg (by omega)]; exact r24
    · rw [z_wI1, if_neg (by omega)]; exact r2 o k (by omega)
  · obtain ⟨b1, b2⟩ := ht2.2.2 s (by omega)
    rw [if_pos (nI_lt (by omega) (by omega)), q_int (show s < 320 by omega) (by decide), nI_clamp (by omega), b2, q_cLet b1, z_bd_some, r22, q_int (show s < 320 by omega) (by decide), nI_clamp (by omega), b2, q_cFig b1, z_bd_some]
    simp only [cond_true]
    rw [if_neg hns, if_neg hns]
    by_cases h59 : b s = 59
    · have w2 : (z_wI h2 1 1 3).1 1 2 = nI s := by rw [z_wI1, if_neg (by omega)]; exact r22
      rw [h59, if_neg (show ¬ ¬ nI 59 = 59 from fun q => q rfl), if_pos rfl, if_pos rfl, w2, nI_1]
      refine ⟨z_wI (z_wI h2 1 1 3) 1 4 (nI (s + 1)), rfl, ?_, ?_, ?_, fun q => absurd q (by decide), fun o k q => ?_⟩
      · rw [z_wI1, if_neg (by omega), z_wI1, if_pos ⟨rfl, rfl⟩]; rfl
      · rw [z_wI1, if_neg (by omega)]; exact w2
      · rw [z_wI1, if_pos ⟨rfl, rfl⟩]
      · rw [z_wI1, if_neg (by omega), z_wI1, if_neg (by omega)]; exact r2 o k (by omega)
    · rw [if_pos (show ¬ nI (b s) = 59 from fun q => h59 ((nI_eq (b := 59) (by omega) (by decide)).mp q)), if_neg h59, if_neg h59]
      have el : (decide (97 ≤ b s) && decide (b s ≤ 122)) = q_lt b s := rfl
      have ef : (decide (48 ≤ b s) && decide (b s ≤ 57)) = q_fg b s := rfl
      rw [el, ef]
      cases hl : q_lt b s with
      | true =>
        obtain ⟨h3, c1, c2, c3⟩ := q_cWord (b := b) (n := n) (n - s) s (z_wI h2 1 1 1) (by omega) (Nat.le_refl _) (ht2.wr (by decide)) (by rw [z_wI1, if_neg (by omega)]; exact r24)
        rw [if_neg (by decide), e_Tp_takeWord, c1, z_bd_some, if_pos rfl, if_pos rfl]
        refine ⟨h3, rfl, ?_, ?_, c2, fun q => absurd q (by decide), fun o k q => ?_⟩
        · rw [c3 _ _ (by omega), z_wI1, if_pos ⟨rfl, rfl⟩]; rfl
        · rw [c3 _ _ (by omega), z_wI1, if_neg (by omega)]; exact r22
        · rw [c3 o k (by omega), z_wI1, if_neg (by omega)]; exact r2 o k (by omega)
      | false =>
        rw [if_pos (show q_b false = 0 from rfl), if_neg (show ¬ false = true by decide), if_neg (show ¬ false = true by decide)]
        cases hf : q_fg b s with
        | true =>
          obtain ⟨h3, c1, c2, c3, c4⟩ := q_cNum (b := b) (n := n) (n - s) s (z_wI h2 1 3 0) 0 (by omega) (Nat.le_refl _) (ht2.wr (by decide)) (by rw [z_wI1, if_neg (by omega)]; exact r24) (by rw [z_wI1, if_pos ⟨rfl, rfl⟩]; rfl)
          have hfe : q_fe b n s = q_en (q_fg b) n (n - s) s := rfl
          rw [← hfe] at c2 c3
          have hle2 := q_en_le (p := q_fg b) (n := n) (n - s) s (by omega) (Nat.le_refl _)
          rw [← hfe] at hle2
          have c12 : h3.1 1 2 = nI s := by rw [c4 _ _ (by omega), z_wI1, if_neg (by omega)]; exact r22
          have e68 : zl_Tp_takeNumber_68 h3 = some (0, z_wI h3 1 1 (nI (if q_fe b n s - s ≤ 3 then 2 else 0))) := by
            rw [e_Tp_takeNumber_68, c2, c12, q_sub (by omega), n_3]
            by_cases h3' : q_fe b n s - s ≤ 3
            · rw [if_pos (nI_le h3' (by decide)), if_pos h3']; rfl
            · rw [if_neg (nI_ge (by omega) (by omega)), if_neg h3']; rfl
          rw [if_neg (show ¬ q_b true = 0 by decide), e_Tp_takeNumber, c1, e68, z_bd_some, if_pos rfl, if_pos rfl]
          refine ⟨z_wI h3 1 1 (nI (if q_fe b n s - s ≤ 3 then 2 else 0)), rfl, ?_, ?_, ?_, fun _ => ?_, fun o k q => ?_⟩
          · rw [z_wI1, if_pos ⟨rfl, rfl⟩]
          · rw [z_wI1, if_neg (by omega)]; exact c12
          · rw [z_wI1, if_neg (by omega)]; exact c2
          · rw [z_wI1, if_neg (by omega)]; exact c3
          · rw [z_wI1, if_neg (by omega), c4 o k (by omega), z_wI1, if_neg (by omega)]; exact r2 o k (by omega)
        | false =>
          rw [if_pos (show q_b false = 0 from rfl), if_neg (show ¬ false = true by decide), if_neg (show ¬ false = true by decide)]
          refine ⟨z_wI h2 1 1 0, rfl, ?_, ?_, ?_, fun q => absurd q (by decide), fun o k q => ?_⟩
          · rw [z_wI1, if_pos ⟨rfl, rfl⟩]; rfl
          · rw [z_wI1, if_neg (by omega)]; exact r22
          · rw [z_wI1, if_neg (by omega)]; exact r24
          · rw [z_wI1, if_neg (by omega)]; exact r2 o k (by omega)
end QTK
