/-! what the printed equations stand on -/
theorem z_ite {c : Prop} [Decidable c] {α : Type} {a b a' b' : α} (h1 : a = a') (h2 : b = b') : (if c then a else b) = if c then a' else b' := by rw [h1, h2]
theorem z_bifA {c : Bool} {α : Type} {a a' b : α} (h1 : a = a') : (bif c then a else b) = bif c then a' else b := by rw [h1]
theorem z_bdc {a : Option z_A} {f g : Int32 → z_H → Option z_A} (h : ∀ r h', f r h' = g r h') : z_bd a f = z_bd a g := by
  have : f = g := by funext r h'; exact h r h'
  rw [this]
theorem z_bd_ite {c : Prop} [Decidable c] {a b : Option z_A} {f : Int32 → z_H → Option z_A} : z_bd (if c then a else b) f = if c then z_bd a f else z_bd b f := by split <;> rfl
noncomputable def z_swX (C : z_C) (ρ : Nat) (d : z_S) (x : Int32) (lo : z_L) (stk : List Value) (h : z_H) : List (Int32 × Nat) → Option z_A
  | [] => z_X C ρ d
  | (k, t) :: r => if x = k then z_X C ρ (t, lo, stk, h) else z_swX C ρ d x lo stk h r
theorem z_X_sw {C : z_C} {ρ : Nat} {s d : z_S} {x : Int32} {lo : z_L} {stk : List Value} {h : z_H} {sw : List (Int32 × Nat)} (hs : z_step C s = some (.inl (z_sw d x (fun t => (t, lo, stk, h)) sw))) : z_X C ρ s = z_swX C ρ d x lo stk h sw := by
  rw [z_X_step hs]
  clear hs
  induction sw with
  | nil => rfl
  | cons q r ih =>
    obtain ⟨k, t⟩ := q
    unfold z_sw z_swX
    split
    · rfl
    · exact ih
theorem z_in_nI {j : Int32} {n : Nat} (hn : n < 2 ^ 31) (h : z_in j n = true) : ∃ k, k < n ∧ j = nI k := by
  obtain ⟨k, h1, h2⟩ := vp_in_of (x := j) (n := n) (z_vin h).1 hn
  exact ⟨k, h1, h2⟩
theorem z_bifE2 {j : Int32} {a a' : Option z_A} (h : (j = nI 0 → a = a') ∧ (j = nI 1 → a = a')) : (bif z_in j 2 then a else none) = bif z_in j 2 then a' else none := by
  cases hz : z_in j 2 with
  | false => rfl
  | true =>
    obtain ⟨k, hk, e⟩ := z_in_nI (by decide) hz
    simp only [cond_true]
    rcases (show k = 0 ∨ k = 1 by omega) with rfl | rfl
    · exact h.1 e
    · exact h.2 e
theorem z_bifE4 {j : Int32} {a a' : Option z_A} (h : (j = nI 0 → a = a') ∧ (j = nI 1 → a = a') ∧ (j = nI 2 → a = a') ∧ (j = nI 3 → a = a')) : (bif z_in j 4 then a else none) = bif z_in j 4 then a' else none := by
  cases hz : z_in j 4 with
  | false => rfl
  | true =>
    obtain ⟨k, hk, e⟩ := z_in_nI (by decide) hz
    simp only [cond_true]
    obtain ⟨h0, h1, h2, h3⟩ := h
    rcases (show k = 0 ∨ k = 1 ∨ k = 2 ∨ k = 3 by omega) with rfl | rfl | rfl | rfl
    · exact h0 e
    · exact h1 e
    · exact h2 e
    · exact h3 e
theorem z_bifE8 {j : Int32} {a a' : Option z_A} (h : (j = nI 0 → a = a') ∧ (j = nI 1 → a = a') ∧ (j = nI 2 → a = a') ∧ (j = nI 3 → a = a') ∧ (j = nI 4 → a = a') ∧ (j = nI 5 → a = a') ∧ (j = nI 6 → a = a') ∧ (j = nI 7 → a = a')) : (bif z_in j 8 then a else none) = bif z_in j 8 then a' else none := by
  cases hz : z_in j 8 with
  | false => rfl
  | true =>
    obtain ⟨k, hk, e⟩ := z_in_nI (by decide) hz
    simp only [cond_true]
    obtain ⟨h0, h1, h2, h3, h4, h5, h6, h7⟩ := h
    rcases (show k = 0 ∨ k = 1 ∨ k = 2 ∨ k = 3 ∨ k = 4 ∨ k = 5 ∨ k = 6 ∨ k = 7 by omega) with rfl | rfl | rfl | rfl | rfl | rfl | rfl | rfl
    · exact h0 e
    · exact h1 e
    · exact h2 e
    · exact h3 e
    · exact h4 e
    · exact h5 e
    · exact h6 e
    · exact h7 e
/-! methods that leave Run.program as it is -/
def z_pres (id : Nat) : Bool := (Nat.ble 96 id && Nat.ble id 100) || Nat.beq id 103 || Nat.beq id 101 || Nat.beq id 79 || (Nat.ble 42 id && Nat.ble id 44) || (Nat.ble 902 id && !Nat.beq id 904 && !Nat.beq id 905)
def z_pchk (ins : Instr) (a c : Nat) : Bool := match ins with
  | .putfield _ => !Nat.beq c 2
  | .invokevirtual _ => z_pres a
  | .invokestatic _ => z_pres a
  | _ => true
def z_DO (d : Nat) (o : z_O) : Prop := match o with
  | .inl s => s.2.2.2.2.2 = d
  | .inr (.inl r) => r.2.2.2 = d
  | .inr (.inr q) => z_pres q.1 = true ∧ q.2.2.2.2.2.2.2.2 = d
def z_DP (d : Nat) (x : Option z_O) : Prop := ∀ o, x = some o → z_DO d o
theorem z_DP_nx {d n : Nat} {l : z_L} {st : List Value} {h : z_H} (e : h.2.2 = d) : z_DP d (z_nx n l st h) := fun o q => by cases q; exact e
theorem z_DP_if {d : Nat} {g : Bool} {x : Option z_O} (h : z_DP d x) : z_DP d (z_if g x) := fun o q => h o (z_if_inv q).2
theorem z_DP_i1 {d : Nat} {st : List Value} {f : Int32 → List Value → Option z_O} (h : ∀ x r, z_DP d (f x r)) : z_DP d (z_i1 st f) := fun o q => by
  obtain ⟨x, r, -, g⟩ := z_i1_inv q
  exact h _ _ o g
theorem z_DP_i2 {d : Nat} {st : List Value} {f : Int32 → Int32 → List Value → Option z_O} (h : ∀ x y r, z_DP d (f x y r)) : z_DP d (z_i2 st f) := fun o q => by
  obtain ⟨x, y, r, -, g⟩ := z_i2_inv q
  exact h _ _ _ o g
theorem z_DP_l1 {d : Nat} {st : List Value} {f : Int64 → List Value → Option z_O} (h : ∀ x r, z_DP d (f x r)) : z_DP d (z_l1 st f) := fun o q => by
  obtain ⟨x, r, -, g⟩ := z_l1_inv q
  exact h _ _ o g
theorem z_DP_l2 {d : Nat} {st : List Value} {f : Int64 → Int64 → List Value → Option z_O} (h : ∀ x y r, z_DP d (f x y r)) : z_DP d (z_l2 st f) := fun o q => by
  obtain ⟨x, y, r, -, g⟩ := z_l2_inv q
  exact h _ _ _ o g
theorem z_DP_li {d : Nat} {st : List Value} {f : Int64 → Int32 → List Value → Option z_O} (h : ∀ x y r, z_DP d (f x y r)) : z_DP d (z_li st f) := fun o q => by
  obtain ⟨x, y, r, -, g⟩ := z_li_inv q
  exact h _ _ _ o g
theorem z_DP_r1 {d : Nat} {st : List Value} {f : Nat → List Value → Option z_O} (h : ∀ x r, z_DP d (f x r)) : z_DP d (z_r1 st f) := fun o q => by
  obtain ⟨x, r, -, g⟩ := z_r1_inv q
  exact h _ _ o g
theorem z_DP_ri {d : Nat} {st : List Value} {f : Nat → Int32 → List Value → Option z_O} (h : ∀ x y r, z_DP d (f x y r)) : z_DP d (z_ri st f) := fun o q => by
  obtain ⟨x, y, r, -, g⟩ := z_ri_inv q
  exact h _ _ _ o g
theorem z_DP_rii {d : Nat} {st : List Value} {f : Nat → Int32 → Int32 → List Value → Option z_O} (h : ∀ x y z r, z_DP d (f x y z r)) : z_DP d (z_rii st f) := fun o q => by
  obtain ⟨x, y, z, r, -, g⟩ := z_rii_inv q
  exact h _ _ _ _ o g
theorem z_DP_ril {d : Nat} {st : List Value} {f : Nat → Int32 → Int64 → List Value → Option z_O} (h : ∀ x y z r, z_DP d (f x y z r)) : z_DP d (z_ril st f) := fun o q => by
  obtain ⟨x, y, z, r, -, g⟩ := z_ril_inv q
  exact h _ _ _ _ o g
theorem z_DP_vi {d : Nat} {v : Option Value} {f : Int32 → Option z_O} (h : ∀ x, z_DP d (f x)) : z_DP d (z_vi v f) := fun o q => by
  obtain ⟨x, -, g⟩ := z_vi_inv q
  exact h _ o g
theorem z_DP_vl {d : Nat} {v : Option Value} {f : Int64 → Option z_O} (h : ∀ x, z_DP d (f x)) : z_DP d (z_vl v f) := fun o q => by
  obtain ⟨x, -, g⟩ := z_vl_inv q
  exact h _ o g
theorem z_DP_vr {d : Nat} {v : Option Value} {f : Nat → Option z_O} (h : ∀ x, z_DP d (f x)) : z_DP d (z_vr v f) := fun o q => by
  obtain ⟨x, -, g⟩ := z_vr_inv q
  exact h _ o g
theorem z_DP_br {d : Nat} {c : Prop} [Decidable c] {t n : Nat} {l : z_L} {st : List Value} {h : z_H} (e : h.2.2 = d) : z_DP d (z_br c t n l st h) := fun o q => by
  cases q
  show (if c then ((t, l, st, h) : z_S) else (n, l, st, h)).2.2.2.2.2 = d
  split <;> exact e
theorem z_DP_none {d : Nat} : z_DP d none := fun o q => by cases q
theorem z_DP_ret {d : Nat} {r : Int32} {h : z_H} (e : h.2.2 = d) : z_DP d (some (.inr (.inl (r, h)))) := fun o q => by cases q; exact e
theorem z_DP_cl {d id c : Nat} {a : List Value} {s : z_S} (hp : z_pres id = true) (e : s.2.2.2.2.2 = d) : z_DP d (some (.inr (.inr (id, a, c, s)))) := fun o q => by cases q; exact ⟨hp, e⟩
theorem z_DP_sw {d a : Nat} {l : z_L} {st : List Value} {h : z_H} {x : Int32} {sw : List (Int32 × Nat)} (e : h.2.2 = d) : z_DP d (some (.inl (z_sw (a, l, st, h) x (fun t => (t, l, st, h)) sw))) := fun o q => by
  cases q
  rw [z_sw_eq]
  exact e
set_option maxHeartbeats 1000000 in
theorem z_DP_exec {ins : Instr} {n : Nat} {v : Int32} {a b c : Nat} {sw : List (Int32 × Nat)} {l : z_L} {st : List Value} {h : z_H} (hc : z_pchk ins a c = true) : z_DP h.2.2 (z_exec ins n v a b c sw l st h) := by
  cases ins
  case ifCond cnd off => cases cnd <;> exact z_DP_i1 fun _ _ => z_DP_br rfl
  case if_icmp cnd off => cases cnd <;> exact z_DP_i2 fun _ _ _ => z_DP_br rfl
  case pop =>
    match st with
    | [] => exact z_DP_none
    | .int _ :: r => exact z_DP_nx rfl
    | .ref _ :: r => exact z_DP_nx rfl
    | .long _ :: r => exact z_DP_none
    | .float _ :: r => exact z_DP_none
    | .double _ :: r => exact z_DP_none
    | .null :: r => exact z_DP_none
    | .retAddr _ :: r => exact z_DP_none
  case dup =>
    match st with
    | [] => exact z_DP_none
    | .int _ :: r => exact z_DP_nx rfl
    | .ref _ :: r => exact z_DP_nx rfl
    | .long _ :: r => exact z_DP_none
    | .float _ :: r => exact z_DP_none
    | .double _ :: r => exact z_DP_none
    | .null :: r => exact z_DP_none
    | .retAddr _ :: r => exact z_DP_none
  case putfield i =>
    intro o ho
    unfold z_exec at ho
    simp only at ho
    split at ho
    · cases hc
    · split at ho
      · exact z_DP_if (z_DP_nx (h := z_wI h _ b _) rfl) o ho
      · cases ho
    · split at ho
      · exact z_DP_if (z_DP_nx (h := z_wI h _ b _) rfl) o ho
      · cases ho
    · cases ho
  case tableswitch => exact z_DP_i1 fun _ _ => z_DP_sw rfl
  case lookupswitch => exact z_DP_i1 fun _ _ => z_DP_sw rfl
  case invokevirtual i => exact z_DP_if (z_DP_cl hc rfl)
  case invokestatic i =>
    have h0 : ∀ {k : Nat}, z_pres k = false → a ≠ k := fun hk e => by subst e; rw [show z_pres a = true from hc] at hk; cases hk
    rw [z_exec_stat (h0 rfl) (h0 rfl) (h0 rfl) (h0 rfl)]
    exact z_DP_if (z_DP_cl hc rfl)
  case areturn => exact z_DP_r1 fun _ _ => z_DP_if (z_DP_ret rfl)
  all_goals first
    | exact z_DP_none
    | exact z_DP_nx rfl
    | exact z_DP_ret rfl
    | exact z_DP_vi fun _ => z_DP_nx rfl
    | exact z_DP_vl fun _ => z_DP_nx rfl
    | exact z_DP_vr fun _ => z_DP_if (z_DP_nx rfl)
    | exact z_DP_i1 fun _ _ => z_DP_nx rfl
    | exact z_DP_i1 fun _ _ => z_DP_ret rfl
    | exact z_DP_i2 fun _ _ _ => z_DP_nx rfl
    | exact z_DP_i2 fun _ _ _ => z_DP_if (z_DP_nx rfl)
    | exact z_DP_l1 fun _ _ => z_DP_nx rfl
    | exact z_DP_l2 fun _ _ _ => z_DP_nx rfl
    | exact z_DP_li fun _ _ _ => z_DP_nx rfl
    | exact z_DP_r1 fun _ _ => z_DP_if (z_DP_nx rfl)
    | exact z_DP_r1 fun _ _ => z_DP_nx rfl
    | exact z_DP_ri fun _ _ _ => z_DP_nx rfl
    | exact z_DP_ri fun _ _ _ => z_DP_if (z_DP_if (z_DP_nx rfl))
    | exact z_DP_rii fun _ _ _ _ => z_DP_if (z_DP_if (z_DP_nx rfl))
    | exact z_DP_ril fun _ _ _ _ => z_DP_if (z_DP_if (z_DP_nx rfl))
def z_pent (id : Nat) : Bool := !z_pres id || (match id with
  | 42 => zd_X_placeOf
  | 43 => zd_X_edgeOfNext
  | 44 => zd_X_edgeOfCall
  | 79 => zd_P_meantBy
  | 96 => zd_Ru_enter
  | 97 => zd_Ru_visit
  | 98 => zd_Ru_enterMeant
  | 99 => zd_Ru_goOn
  | 100 => zd_Ru_decide
  | 101 => zd_Es_clear
  | _ => zd_Es_put).all (fun q => q.2.all (fun i => z_pchk i.2.1 i.2.2.2.2.1 i.2.2.2.2.2.2.1))
theorem z_findP {L : List (Nat × z_I)} {pc : Nat} {i : z_I} {P : z_I → Bool} (hP : L.all (fun q => P q.2) = true) (h : z_find L pc = some i) : P i = true := by
  induction L with
  | nil => cases h
  | cons q r ih =>
    obtain ⟨k, j⟩ := q
    simp only [List.all_cons, Bool.and_eq_true] at hP
    unfold z_find at h
    cases hk : Nat.beq k pc with
    | true => rw [hk] at h; cases h; exact hP.1
    | false => rw [hk] at h; exact ih hP.2 h
theorem z_find2P {L : List (Nat × List (Nat × z_I))} {pc : Nat} {i : z_I} {P : z_I → Bool} (hP : L.all (fun q => q.2.all (fun j => P j.2)) = true) (h : z_find2 L pc = some i) : P i = true := by
  induction L with
  | nil => cases h
  | cons q r ih =>
    obtain ⟨k, j⟩ := q
    simp only [List.all_cons, Bool.and_eq_true] at hP
    unfold z_find2 at h
    cases hk : Nat.blt pc k with
    | true => rw [hk] at h; exact z_findP hP.1 h
    | false => rw [hk] at h; exact ih hP.2 h
theorem z_pent_all : ∀ id, id < 104 → z_pent id = true := by decide +kernel
theorem z_pres_code {id pc : Nat} {i : z_I} (h9 : ¬ 900 ≤ id) (hp : z_pres id = true) (hc : z_code id pc = some i) : z_pchk i.1 i.2.2.2.1 i.2.2.2.2.2.1 = true := by
  have hid : id < 104 := by
    unfold z_pres at hp
    simp only [Bool.or_eq_true, Bool.and_eq_true] at hp
    rcases hp with ((((h | h) | h) | h) | h) | h
    · have := Nat.le_of_ble_eq_true h.2; omega
    · have := z_beq h; omega
    · have := z_beq h; omega
    · have := z_beq h; omega
    · have := Nat.le_of_ble_eq_true h.2; omega
    · have := Nat.le_of_ble_eq_true h.1.1; omega
  have hcase : id = 42 ∨ id = 43 ∨ id = 44 ∨ id = 79 ∨ id = 96 ∨ id = 97 ∨ id = 98 ∨ id = 99 ∨ id = 100 ∨ id = 101 ∨ id = 103 := by
    have key : ∀ j, j < 104 → z_pres j = true → j = 42 ∨ j = 43 ∨ j = 44 ∨ j = 79 ∨ j = 96 ∨ j = 97 ∨ j = 98 ∨ j = 99 ∨ j = 100 ∨ j = 101 ∨ j = 103 := by decide +kernel
    exact key id hid hp
  have ha := z_pent_all id hid
  rcases hcase with rfl | rfl | rfl | rfl | rfl | rfl | rfl | rfl | rfl | rfl | rfl <;> exact z_find2P (P := fun i => z_pchk i.1 i.2.2.2.1 i.2.2.2.2.2.1) ha hc
theorem z_prim_D {id : Nat} {a : List Value} {h : z_H} {r : z_A} (e : z_prim id a h = some r) : r.2.2.2 = h.2.2 := by
  unfold z_prim at e
  split at e
  · cases hb : Nat.beq (z_K _) 20 <;> rw [hb] at e <;> cases e <;> rfl
  · cases hb : Nat.beq (z_K _) 21 <;> rw [hb] at e <;> cases e <;> rfl
  · cases e; rfl
  · cases e; rfl
  · cases e; rfl
  · rename_i s
    cases hb : (Nat.ble 1000 s && Nat.ble s 1005) <;> rw [hb] at e <;> cases e <;> rfl
  · rename_i s i
    cases hb : (Nat.ble 1000 s && Nat.ble s 1005 && z_in i (z_txt s).length) <;> rw [hb] at e <;> cases e <;> rfl
  · cases e
theorem z_ev_D : ∀ (n id : Nat) (a : List Value) (h : z_H) (r : z_A), z_pres id = true → z_ev n id a h = some r → r.2.2.2 = h.2.2 := by
  intro n
  induction n with
  | zero => intro id a h r _ e; simp [z_ev] at e
  | succ n ih =>
    intro id a h r hp e
    unfold z_ev at e
    by_cases hid : 900 ≤ id
    · rw [if_pos hid] at e
      exact z_prim_D e
    rw [if_neg hid] at e
    have key : ∀ (k : Nat) (t : z_S), z_run (z_ev n) (z_code id) (z_rank id a) k t = some r → r.2.2.2 = t.2.2.2.2.2 := by
      intro k
      induction k with
      | zero => intro t ht; simp [z_run] at ht
      | succ k ihk =>
        intro t ht
        unfold z_run at ht
        cases hs : z_step (z_code id) t with
        | none => rw [hs] at ht; simp at ht
        | some o =>
          rw [hs] at ht
          have hs0 := hs
          unfold z_step at hs
          cases hcode : z_code id t.1 with
          | none => rw [hcode] at hs; cases hs
          | some i =>
            rw [hcode] at hs
            have hD := z_DP_exec (h := t.2.2.2) (z_pres_code hid hp hcode) o hs
            match o, hD, ht with
            | .inl s', hD, ht => exact (ihk s' ht).trans hD
            | .inr (.inl r'), hD, ht => cases ht; exact hD
            | .inr (.inr (id', a', c', s')), hD, ht =>
              simp only at ht
              split at ht
              · cases hcl : z_ev n id' a' s'.2.2.2 with
                | none => rw [hcl] at ht; simp at ht
                | some q =>
                  obtain ⟨v, h'⟩ := q
                  rw [hcl] at ht
                  have h1 := ihk _ ht
                  have h2 := ih id' a' _ _ hD.1 hcl
                  exact h1.trans (h2.trans hD.2)
              · simp at ht
    exact key n _ e
theorem z_bdD {id : Nat} {a : List Value} {h : z_H} {f : Int32 → z_H → Option z_A} (d : Nat) (hp : z_pres id = true) (hd : h.2.2 = d) : z_bd (z_M id a h) f = z_bd (z_M id a h) (fun r h' => f r (h'.1, h'.2.1, d)) := by
  cases hm : z_M id a h with
  | none => rfl
  | some q =>
    obtain ⟨r, h'⟩ := q
    obtain ⟨n, hn⟩ := z_M_iff.mp hm
    have := z_ev_D n id a h _ hp hn
    show f r h' = f r (h'.1, h'.2.1, d)
    have e : h' = (h'.1, h'.2.1, d) := by
      rw [← hd, ← this]
    rw [← e]
