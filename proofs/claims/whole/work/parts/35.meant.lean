/-! THE PURE PART: which method is meant -/
def q_mean (a : Nat → Nat) (p n : Nat) : Nat → Nat → Nat
  | 0, _ => 999
  | f + 1, c => if c < a 1 then (if a (q_hs p c n) = 999 then q_mean a p n f (a (3 + c)) else a (q_hs p c n)) else 999
theorem q_vm {v : Nat} (h : v < 900) : ¬ q_v v = -4 := by
  rw [q_vn (by omega)]
  intro q
  have h1 : nI v < 0 := by rw [q]; decide
  exact nI_pos (by omega) h1
/-- the class's rows of names -/
def q_cl (I : Nat → Nat → Int32) (o p : Nat) (a : Nat → Nat) : Prop := (∀ c, c < a 1 → I (o + 6) c = nI (a (3 + c))) ∧ ∀ c n, c < a 1 → n < 4 → I (o + 7) (4 * c + n) = q_v (a (q_hs p c n))
theorem q_cName (x : Int32) (h : z_H) : z_M 37 [.int x] h = some (q_b (z_in x 4), h) := by
  rw [e_X_isName, n_4, q_bnd (by decide)]
  cases z_in x 4 <;> rfl
theorem q_cMeant {o p : Nat} {a : Nat → Nat} {h : z_H} (hi : o ∈ [4, 17, 25, 73, 81, 94, 102]) (hs : q_sz h.1 o a) (hc : q_cl h.1 o p a) (hu : ∀ c, c < a 1 → a (3 + c) < 1000) (hm : ∀ c n, c < a 1 → n < 4 → a (q_hs p c n) = 999 ∨ a (q_hs p c n) < 6) {n : Nat} (hn : n < 4) : ∀ f c, f ≤ 4 → c < 1000 → zl_P_meantBy_5 o (nI n) (nI c) (nI (4 - f)) h = some (q_v (q_mean a p n f c), h) := by
  have h4 := hs.2.2.2.1
  intro f
  induction f with
  | zero =>
    intro c _ _
    rw [e_P_meantBy_5 hi, n_4, if_pos (nI_le (by omega) (by decide))]
    rfl
  | succ f ih =>
    intro c hf hcc
    rw [e_P_meantBy_5 hi, n_4, if_neg (nI_ge (by omega) (by decide)), if_neg (nI_pos (by omega)), hs.2.1]
    show _ = some (q_v (if c < a 1 then _ else 999), h)
    by_cases hc1 : c < a 1
    · rw [if_neg (nI_ge hc1 (by omega)), if_pos hc1, pk_mul, nI_add, q_inC (show 4 * c + n < 16 by omega) (by decide), nI_clamp (by omega), hc.2 c n hc1 hn]
      by_cases h9 : a (q_hs p c n) = 999
      · rw [if_pos (by rw [h9]; rfl), if_pos h9, q_inC (show c < 4 by omega) (by decide), nI_clamp (by omega), hc.1 c hc1, nI_1, show 4 - (f + 1) + 1 = 4 - f by omega]
        exact ih _ (by omega) (hu c hc1)
      · have := (hm c n hc1 hn).resolve_left h9
        have hq : ¬ q_v (a (q_hs p c n)) = -nI 4 := q_vm (v := a (q_hs p c n)) (by omega)
        rw [if_neg hq, if_neg h9, q_inC (show 4 * c + n < 16 by omega) (by decide)]
    · rw [if_pos (nI_le (by omega) (by omega)), if_neg hc1]
      rfl
theorem q_mMeant {p : Nat} {a : Nat → Nat} {h : z_H} (hp : p < 2) (ho : q_ok a) (hst : ∀ j, j < 549 → h.1 123 j = q_v (a j)) {n : Nat} (hn : n < 4) : ∀ f c, c = 9 ∨ (c < f ∧ c < a 1) → zl_M_meantBy_3 (nI p) (nI n) (nI c) h = some (q_v (q_mean a p n f c), h) := by
  obtain ⟨o0, o1, -, -, -, o6, o7, -⟩ := ho
  have h9 : ∀ f, q_mean a p n f 9 = 999 := fun f => by
    cases f with
    | zero => rfl
    | succ f =>
      show (if 9 < a 1 then _ else 999) = 999
      rw [if_neg (by omega)]
  have hat : ∀ c, 13 + 256 * p + 240 + 4 * c + n = q_hs p c n := fun c => by unfold q_hs; omega
  have hlt : ∀ c, c < a 1 → q_hs p c n < 549 := fun c hc => by unfold q_hs; omega
  intro f
  induction f with
  | zero =>
    intro c hc
    have hc : c = 9 := by omega
    subst hc
    rw [e_M_meantBy_3, n_9, if_pos rfl, e_M_meantBy_41, n_9, if_neg (fun q => q rfl), h9]
    rfl
  | succ f ih =>
    intro c hc
    by_cases hc9 : c = 9
    · subst hc9
      rw [e_M_meantBy_3, n_9, if_pos rfl, e_M_meantBy_41, n_9, if_neg (fun q => q rfl), h9]
      rfl
    · have hc1 : c < a 1 := by omega
      have hne : ¬ nI c = nI 9 := fun q => hc9 ((nI_eq (by omega) (by decide)).mp q)
      have e0 : z_M 130 [.int (nI p), .int (nI c), .int (nI n)] h = some (nI (q_hs p c n), h) := by
        rw [e_M_hasAt, n_13, n_256, n_240, n_4, pk_mul, nI_add, nI_add, pk_mul, nI_add, nI_add, hat]
      have e1 : h.1 123 (q_hs p c n) = q_v (a (q_hs p c n)) := hst _ (hlt c hc1)
      rw [e_M_meantBy_3, n_9, if_neg hne, e0, z_bd_some, q_inC (hlt c hc1) (by decide), nI_clamp (by have := hlt c hc1; omega), e1]
      show _ = some (q_v (if c < a 1 then _ else 999), h)
      rw [if_pos hc1]
      by_cases hz : a (q_hs p c n) = 999
      · have hu := o6 c hc1
        have hun : a (3 + c) ≠ 999 := by omega
        rw [if_neg (fun q => q (by rw [hz]; rfl)), if_pos hz, n_3, nI_add, q_inC (show 3 + c < 549 by omega) (by decide), nI_clamp (by omega), hst _ (by omega), q_vn hun]
        exact ih _ (by omega)
      · have := (o7 p c n hp hc1 hn).resolve_left hz
        have h6 : a 0 ≤ 900 ∨ 900 < a 0 := by omega
        rw [if_pos (fun q => by
          refine absurd q (q_vm ?_)
          omega), if_neg hz, e_M_meantBy_41, n_9, if_pos hne, e0, z_bd_some, q_inC (hlt c hc1) (by decide), nI_clamp (by have := hlt c hc1; omega), e1]
