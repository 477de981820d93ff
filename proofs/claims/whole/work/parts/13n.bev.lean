/-! the constructors run: what stands in the heap behind them -/
theorem y_fd_mem : ∀ {L : List (Nat × y_I)} {pc : Nat} {i : y_I}, y_fd L pc = some i → (pc, i) ∈ L := by
  intro L
  induction L with
  | nil => intro pc i h; cases h
  | cons q r ih =>
    intro pc i h
    obtain ⟨k, j⟩ := q
    unfold y_fd at h
    by_cases hk : k = pc
    · subst hk
      rw [z_beqT] at h
      cases h
      exact List.mem_cons_self
    · rw [z_beqF hk] at h
      exact List.mem_cons_of_mem _ (ih h)
def y_allb (id : Nat) : Bool := (y_ds id).all (fun q => y_ok1 id q.1 (y_fp (y_ps id) q.1) q.2.1 q.2.2.1 q.2.2.2.1 q.2.2.2.2.1 q.2.2.2.2.2)
theorem y_b : ∀ id, id ≤ 11 → y_allb id = true := by
  intro a h
  match a, h with
  | 0, _ => decide +kernel
  | 1, _ => decide +kernel
  | 2, _ => decide +kernel
  | 3, _ => decide +kernel
  | 4, _ => decide +kernel
  | 5, _ => decide +kernel
  | 6, _ => decide +kernel
  | 7, _ => decide +kernel
  | 8, _ => decide +kernel
  | 9, _ => decide +kernel
  | 10, _ => decide +kernel
  | 11, _ => decide +kernel
theorem y_allok_ok : y_allok := fun id h pc i hi => List.all_eq_true.mp (y_b id h) (pc, i) (y_fd_mem hi)
/-- so many steps of the model's constructor -/
def y_st : Nat → y_S → Option y_S
  | 0, s => some s
  | n + 1, s => match y_fd (y_ds 11) s.1 with
    | none => none
    | some i => match y_exec 18 3981 i.1 i.2.1 i.2.2.1 i.2.2.2.1 i.2.2.2.2 s.2.1 s.2.2.1 s.2.2.2.1 s.2.2.2.2.1 s.2.2.2.2.2 with
      | some (.inl s') => y_st n s'
      | _ => none
def y_cs1 : Option (List y_C) := y_ev 5 10 [.ref 0] [.inl (1, y_def 1)]
def y_cs2 : Option y_S := match y_cs1 with
  | none => none
  | some cs => y_st 119 (0, [(0, .ref 122)], [], cs ++ [.inl (12, y_def 12)], 0, 0)
def y_isI (v : Value) (x : Int32) : Bool := match v with
  | .int y => decide (y = x)
  | _ => false
def y_isRf (v : Value) (x : Nat) : Bool := match v with
  | .ref y => Nat.beq y x
  | _ => false
def y_isN (v : Value) : Bool := match v with
  | .null => true
  | _ => false
def y_fld (o : Nat) : Nat → List Value → Bool
  | _, [] => true
  | j, v :: r => (match z_ft (z_K o) j with
    | 1 => y_isRf v (z_R o j)
    | 2 => y_isN v
    | _ => y_isI v 0) && y_fld o (j + 1) r
def y_h1 : z_H := (fun o _ => bif Nat.beq o 137 then -4 else 0, fun _ _ => 0, 999)
def y_mat (o : Nat) : y_C → Bool
  | .inl (k, fs) => Nat.beq (z_K o) k && Nat.beq fs.length (z_N o) && y_fld o 0 fs
  | .inr (.inl (k, N, f)) => Nat.beq (z_K o) k && Nat.beq N (z_N o) && (bif Nat.beq o 137 then (List.range N).all (fun j => decide (y_fi f j = -4)) else f.isEmpty)
  | .inr (.inr (.inl N)) => Nat.beq (z_K o) 21 && Nat.beq N (z_N o)
  | .inr (.inr (.inr (k, N, f))) => Nat.beq (z_K o) k && Nat.beq N (z_N o) && (List.range N).all (fun j => Nat.beq (y_fr f j) (z_R o j))
def y_mats : Nat → List y_C → Bool
  | _, [] => true
  | o, c :: r => y_mat o c && y_mats (o + 1) r
def y_fin : Bool := match y_cs2 with
  | none => false
  | some s => Nat.beq s.1 173 && Nat.beq s.2.2.2.1.length 141 && y_mats 0 s.2.2.2.1
theorem y_t1 : y_cs1.isSome = true := by decide +kernel
theorem y_t2 : y_fin = true := by decide +kernel
