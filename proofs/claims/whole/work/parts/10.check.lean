/-! WHAT IS ASKED OF EACH ENTRY OF THE CODE TABLES (decided by reckoning), and that it is enough -/
/-- of a method: static, how many parameters, the kind of its receiver -/
def z_sgs : List (Bool × Nat × Nat) := [(false, 1, 1), (false, 1, 1), (false, 0, 1), (false, 0, 1), (false, 1, 1), (false, 3, 1), (false, 3, 1), (false, 2, 1), (false, 2, 1), (false, 2, 1), (false, 2, 1), (false, 2, 1), (false, 1, 1), (false, 4, 1), (false, 4, 1), (false, 3, 1), (false, 3, 1), (false, 0, 1), (false, 0, 1), (false, 3, 1), (false, 1, 1), (false, 2, 1), (false, 1, 1), (false, 1, 1), (false, 3, 1), (false, 3, 1), (false, 4, 1), (false, 0, 1), (false, 1, 1), (false, 1, 1), (false, 2, 1), (false, 0, 1), (false, 2, 1), (false, 0, 1), (false, 0, 1), (false, 3, 1), (false, 3, 1), (true, 1, 0), (true, 2, 0), (true, 1, 0), (true, 1, 0), (true, 1, 0), (true, 2, 0), (true, 3, 0), (true, 2, 0), (false, 1, 2), (false, 0, 2), (false, 0, 2), (false, 1, 2), (false, 0, 2), (false, 0, 2), (true, 1, 0), (true, 1, 0), (false, 0, 3), (false, 1, 3), (false, 0, 3), (false, 0, 3), (false, 0, 3), (true, 1, 0), (false, 1, 3), (false, 1, 3), (true, 1, 0), (true, 1, 0), (false, 3, 3), (false, 2, 3), (false, 2, 3), (false, 0, 3), (false, 0, 3), (false, 0, 4), (false, 1, 4), (false, 1, 4), (false, 2, 4), (false, 3, 4), (false, 1, 4), (false, 1, 4), (false, 3, 4), (false, 4, 4), (false, 4, 4), (false, 3, 4), (false, 2, 4), (false, 3, 4), (false, 0, 4), (false, 0, 4), (false, 1, 4), (false, 3, 4), (false, 0, 4), (false, 2, 4), (false, 1, 4), (false, 1, 4), (false, 0, 4), (false, 1, 5), (false, 0, 5), (false, 1, 5), (false, 3, 5), (false, 1, 5), (false, 3, 6), (false, 2, 6), (false, 3, 6), (false, 2, 6), (false, 3, 6), (false, 0, 6), (false, 0, 7), (false, 1, 7), (false, 1, 7), (false, 1, 7), (false, 1, 7), (false, 1, 7), (false, 0, 7), (false, 1, 7), (false, 0, 8), (false, 1, 8), (false, 3, 8), (false, 3, 8), (false, 2, 8), (false, 0, 9), (false, 2, 9), (false, 0, 9), (false, 1, 9), (false, 0, 9), (false, 0, 9), (false, 0, 9), (false, 1, 9), (false, 2, 11), (false, 2, 11), (false, 1, 11), (false, 1, 11), (false, 2, 11), (true, 3, 0), (true, 1, 0), (true, 3, 0), (true, 3, 0), (false, 0, 12), (false, 0, 12), (false, 1, 12), (false, 1, 12), (false, 2, 12), (false, 1, 12), (false, 5, 12), (false, 0, 12), (false, 0, 12), (false, 3, 12), (false, 0, 12), (false, 1, 12), (false, 0, 12), (false, 0, 12), (false, 0, 12), (false, 1, 12), (false, 1, 12), (false, 0, 12), (false, 0, 12), (false, 0, 12), (false, 0, 12), (false, 1, 12), (false, 2, 12), (false, 1, 12), (true, 1, 0), (false, 1, 12), (true, 1, 0), (false, 4, 12), (false, 3, 12), (false, 1, 12), (false, 2, 12), (false, 0, 12), (false, 2, 12), (false, 2, 12), (false, 2, 12), (false, 3, 12), (false, 2, 12), (false, 2, 12), (false, 3, 12), (false, 3, 12), (false, 1, 12), (false, 0, 12), (false, 0, 12), (false, 2, 12), (false, 0, 12), (false, 2, 12), (false, 1, 12), (false, 0, 12), (false, 0, 12), (false, 0, 12), (false, 2, 12), (false, 0, 12), (false, 1, 12), (false, 3, 12), (false, 3, 12), (false, 0, 12), (false, 2, 12), (false, 1, 12), (false, 1, 12), (false, 2, 12), (false, 2, 12), (false, 1, 12), (false, 1, 12), (false, 2, 12), (false, 2, 12), (false, 2, 12), (false, 1, 12), (false, 4, 12), (false, 4, 12), (false, 3, 12), (false, 3, 12), (false, 2, 12), (false, 0, 12), (false, 0, 12), (false, 3, 12), (false, 3, 12), (false, 1, 12), (false, 2, 12), (false, 1, 12), (false, 1, 12), (true, 2, 0), (false, 3, 12), (false, 3, 12), (false, 4, 12), (false, 0, 12), (false, 0, 12), (false, 2, 12), (false, 0, 12), (false, 0, 12), (false, 1, 12)]
def z_sgp : List (Bool × Nat × Nat) := [(true, 2, 0), (true, 2, 0), (true, 2, 0), (true, 2, 0), (true, 1, 0), (false, 0, 100), (false, 1, 100)]
def z_sg (id : Nat) : Bool × Nat × Nat := bif Nat.blt id 900 then z_sgs.getD id (true, 0, 0) else z_sgp.getD (id - 902) (true, 0, 0)
def z_dk (id pc : Nat) (ins : Instr) (n L : Nat) : Bool := decide (decode (z_mt id).2.1 pc = .ok (ins, L)) && Nat.beq n (pc + L)
def z_wd (pl : Nat) (w : Cond) : Bool := decide (lw_tbl[pl]? = some w)
def z_rc (id : Nat) : Nat := match (z_mt id).2.2.2 with
  | none => 0
  | some (.object _) => 2
  | some _ => 1
/-- a field's entry: own class, pool index, place of its word, class and place of the field -/
def z_fk (own : String) (i pl a b : Nat) : Bool := Nat.ble 1 a && Nat.ble a 12 && Nat.blt b (z_q a).2.2 && decide (((z_q a).2.1 b).1 = (z_q a).1) && z_wd pl (.fieldLink own i (z_q a).1 ((z_q a).2.1 b).2.1 ((z_q a).2.1 b).2.2.1)
def z_ck (own : String) (i pl a b c : Nat) (virt : Bool) : Bool := (Nat.blt a 221 || (Nat.ble 902 a && Nat.ble a 908 && !Nat.beq a 904 && !Nat.beq a 905)) && (z_wd pl (.methodLink own i (z_mt a).1) || z_wd pl (.methodLinkNest own i (z_mt a).1 "TestChoice")) && Nat.beq c (z_rc a) && (match virt with
  | true => !(z_sg a).1 && Nat.beq b ((z_sg a).2.1 + 1)
  | false => (z_sg a).1 && Nat.beq b (z_sg a).2.1)
def z_chk (id pc pl : Nat) (ins : Instr) (n : Nat) (v : Int32) (a b c : Nat) (sw : List (Int32 × Nat)) : Bool := match ins with
  | .iconst k => z_dk id pc ins n 1 && decide (Int32.ofInt k = v)
  | .bipush k => z_dk id pc ins n 2 && decide ((Int8.ofInt k).toInt32 = v)
  | .sipush k => z_dk id pc ins n 3 && decide ((Int16.ofInt k).toInt32 = v)
  | .ldc k => z_dk id pc ins n 2 && (match Nat.beq a 0 with
    | true => z_wd pl (.constant (z_mt id).1.cls k v)
    | false => decide ((z_mt id).1.cls = "TestChoice$Reader") && Nat.ble 1000 a && Nat.blt a 1006 && Nat.beq k (100 + 2 * (a - 1000)))
  | .ldc_w k => z_dk id pc ins n 3 && z_wd pl (.constant (z_mt id).1.cls k v)
  | .lconst k => z_dk id pc ins n 1 && decide (Int64.ofNat (k : Nat) = v.toInt64)
  | .ldc2_w k => z_dk id pc ins n 3 && z_wd pl (.constantLong (z_mt id).1.cls k v.toInt64)
  | .iload k => z_dk id pc ins n 2 && Nat.beq a k
  | .lload k => z_dk id pc ins n 2 && Nat.beq a k
  | .aload k => z_dk id pc ins n 2 && Nat.beq a k
  | .iload_n k => z_dk id pc ins n 1 && Nat.beq a k
  | .lload_n k => z_dk id pc ins n 1 && Nat.beq a k
  | .aload_n k => z_dk id pc ins n 1 && Nat.beq a k
  | .istore k => z_dk id pc ins n 2 && Nat.beq a k && Nat.blt a (z_mt id).2.2.1
  | .astore k => z_dk id pc ins n 2 && Nat.beq a k && Nat.blt a (z_mt id).2.2.1
  | .lstore k => z_dk id pc ins n 2 && Nat.beq a k && Nat.blt (a + 1) (z_mt id).2.2.1
  | .istore_n k => z_dk id pc ins n 1 && Nat.beq a k && Nat.blt a (z_mt id).2.2.1
  | .astore_n k => z_dk id pc ins n 1 && Nat.beq a k && Nat.blt a (z_mt id).2.2.1
  | .lstore_n k => z_dk id pc ins n 1 && Nat.beq a k && Nat.blt (a + 1) (z_mt id).2.2.1
  | .iinc k q => z_dk id pc ins n 3 && Nat.beq a k && decide (Int32.ofInt q = v) && Nat.blt a (z_mt id).2.2.1
  | .iaload | .laload | .baload | .aaload | .iastore | .bastore | .lastore | .arraylength | .pop | .dup | .dup2 | .iadd | .isub | .imul | .iand | .idiv | .irem | .ishr | .iushr | .ladd | .land | .lor | .lxor | .lcmp | .lshl | .lushr | .i2l | .l2i | .i2b | .i2s => z_dk id pc ins n 1
  | .getfield i => z_dk id pc ins n 3 && z_fk (z_mt id).1.cls i pl a b && Nat.beq c (match z_ft a b with | 1 => 1 | 2 => 2 | _ => 0)
  | .putfield i => z_dk id pc ins n 3 && z_fk (z_mt id).1.cls i pl a b && !((z_q a).2.1 b).2.2.2 && (match c, z_ft a b, z_qT a b with
    | 4, 0, .int => true
    | 3, 3, .boolean => true
    | 2, 2, .object _ => true
    | _, _, _ => false)
  | .ifCond _ off => z_dk id pc ins n 3 && decide ((pc : Int) + off = (a : Int))
  | .if_icmp _ off => z_dk id pc ins n 3 && decide ((pc : Int) + off = (a : Int))
  | .goto off => z_dk id pc ins n 3 && decide ((pc : Int) + off = (a : Int))
  | .tableswitch d low hi offs => z_dk id pc ins n (n - pc) && decide ((pc : Int) + d = (a : Int)) && decide (-1000 ≤ low) && decide (hi = low + offs.size - 1) && decide (hi ≤ 1000) && decide (∀ o ∈ offs, 0 ≤ (pc : Int) + o) && decide (sw = z_swTab pc low offs)
  | .lookupswitch d ps => z_dk id pc ins n (n - pc) && decide ((pc : Int) + d = (a : Int)) && (ps.toList.zip (ps.toList.drop 1)).all (fun (a, next) => a.1 < next.1) && decide (∀ q ∈ ps.toList, 0 ≤ (pc : Int) + q.2 ∧ -1000 ≤ q.1 ∧ q.1 ≤ 1000) && decide (sw = z_swLk pc ps)
  | .ireturn => z_dk id pc ins n 1 && (match (z_mt id).2.2.2, a with
    | some .int, 0 => true
    | some .boolean, 1 => true
    | _, _ => false)
  | .areturn => z_dk id pc ins n 1 && (match (z_mt id).2.2.2 with
    | some (.object _) => true
    | _ => false)
  | .return_ => z_dk id pc ins n 1 && (match (z_mt id).2.2.2 with
    | none => true
    | _ => false)
  | .invokevirtual i => z_dk id pc ins n 3 && z_ck (z_mt id).1.cls i pl a b c true && (match sw with
    | (_, k) :: _ => Nat.beq k (z_sg a).2.2
    | _ => false)
  | .invokestatic i => z_dk id pc ins n 3 && (match a with
    | 900 => z_wd pl (.methodLink (z_mt id).1.cls i arraycopyName)
    | 901 => z_wd pl (.methodLink (z_mt id).1.cls i arraycopyName)
    | 904 => z_wd pl (.methodLink (z_mt id).1.cls i Lib.Math.max.name)
    | 905 => z_wd pl (.methodLink (z_mt id).1.cls i Lib.Math.min.name)
    | _ => z_ck (z_mt id).1.cls i pl a b c false)
  | _ => false
def z_idok (id : Nat) : Prop := id < 221 ∨ (902 ≤ id ∧ id ≤ 908 ∧ id ≠ 904 ∧ id ≠ 905)
theorem z_dk_inv {id pc : Nat} {ins : Instr} {n L : Nat} (h : z_dk id pc ins n L = true) : decode (z_mt id).2.1 pc = .ok (ins, L) ∧ n = pc + L := by
  unfold z_dk at h
  simp only [Bool.and_eq_true, decide_eq_true_eq] at h
  exact ⟨h.1, z_beq h.2⟩
theorem z_wd_inv {pl : Nat} {w : Cond} (h : z_wd pl w = true) : w ∈ lw_tbl := by
  unfold z_wd at h
  exact List.mem_of_getElem? (of_decide_eq_true h)
theorem z_wd_good {pl : Nat} {w : Cond} (h : z_wd pl w = true) (g : goodWord w = true) : w ∈ z_good := List.mem_filter.mpr ⟨z_wd_inv h, g⟩
theorem z_fk_inv {own : String} {i pl a b : Nat} (h : z_fk own i pl a b = true) : 1 ≤ a ∧ a ≤ 12 ∧ b < (z_q a).2.2 ∧ ((z_q a).2.1 b).1 = (z_q a).1 ∧ Cond.fieldLink own i (z_q a).1 ((z_q a).2.1 b).2.1 ((z_q a).2.1 b).2.2.1 ∈ z_good := by
  unfold z_fk at h
  simp only [Bool.and_eq_true, decide_eq_true_eq] at h
  obtain ⟨⟨⟨⟨h1, h2⟩, h3⟩, h4⟩, h5⟩ := h
  exact ⟨Nat.le_of_ble_eq_true h1, Nat.le_of_ble_eq_true h2, Nat.le_of_ble_eq_true h3, h4, z_wd_good h5 rfl⟩
theorem z_nx_inv {pc : Nat} {l : z_L} {st : List Value} {h : z_H} {s' : z_S} (e : z_nx pc l st h = some (.inl s')) : s' = (pc, l, st, h) := (Sum.inl.inj (Option.some.inj e)).symm
theorem z_if_inv {g : Bool} {x : Option z_O} {o : z_O} (e : z_if g x = some o) : g = true ∧ x = some o := by
  cases g with
  | true => exact ⟨rfl, e⟩
  | false => cases e
theorem z_i1_inv {st : List Value} {f : Int32 → List Value → Option z_O} {o : z_O} (e : z_i1 st f = some o) : ∃ x r, st = .int x :: r ∧ f x r = some o := by
  unfold z_i1 at e
  split at e
  · exact ⟨_, _, rfl, e⟩
  · cases e
theorem z_i2_inv {st : List Value} {f : Int32 → Int32 → List Value → Option z_O} {o : z_O} (e : z_i2 st f = some o) : ∃ x y r, st = .int y :: .int x :: r ∧ f x y r = some o := by
  unfold z_i2 at e
  split at e
  · exact ⟨_, _, _, rfl, e⟩
  · cases e
theorem z_l1_inv {st : List Value} {f : Int64 → List Value → Option z_O} {o : z_O} (e : z_l1 st f = some o) : ∃ x r, st = .long x :: r ∧ f x r = some o := by
  unfold z_l1 at e
  split at e
  · exact ⟨_, _, rfl, e⟩
  · cases e
theorem z_l2_inv {st : List Value} {f : Int64 → Int64 → List Value → Option z_O} {o : z_O} (e : z_l2 st f = some o) : ∃ x y r, st = .long y :: .long x :: r ∧ f x y r = some o := by
  unfold z_l2 at e
  split at e
  · exact ⟨_, _, _, rfl, e⟩
  · cases e
theorem z_li_inv {st : List Value} {f : Int64 → Int32 → List Value → Option z_O} {o : z_O} (e : z_li st f = some o) : ∃ x y r, st = .int y :: .long x :: r ∧ f x y r = some o := by
  unfold z_li at e
  split at e
  · exact ⟨_, _, _, rfl, e⟩
  · cases e
theorem z_r1_inv {st : List Value} {f : Nat → List Value → Option z_O} {o : z_O} (e : z_r1 st f = some o) : ∃ x r, st = .ref x :: r ∧ f x r = some o := by
  unfold z_r1 at e
  split at e
  · exact ⟨_, _, rfl, e⟩
  · cases e
theorem z_ri_inv {st : List Value} {f : Nat → Int32 → List Value → Option z_O} {o : z_O} (e : z_ri st f = some o) : ∃ a j r, st = .int j :: .ref a :: r ∧ f a j r = some o := by
  unfold z_ri at e
  split at e
  · exact ⟨_, _, _, rfl, e⟩
  · cases e
theorem z_rii_inv {st : List Value} {f : Nat → Int32 → Int32 → List Value → Option z_O} {o : z_O} (e : z_rii st f = some o) : ∃ a j x r, st = .int x :: .int j :: .ref a :: r ∧ f a j x r = some o := by
  unfold z_rii at e
  split at e
  · exact ⟨_, _, _, _, rfl, e⟩
  · cases e
theorem z_ril_inv {st : List Value} {f : Nat → Int32 → Int64 → List Value → Option z_O} {o : z_O} (e : z_ril st f = some o) : ∃ a j x r, st = .long x :: .int j :: .ref a :: r ∧ f a j x r = some o := by
  unfold z_ril at e
  split at e
  · exact ⟨_, _, _, _, rfl, e⟩
  · cases e
theorem z_rr_inv {st : List Value} {f : Nat → Nat → List Value → Option z_O} {o : z_O} (e : z_rr st f = some o) : ∃ a x r, st = .ref x :: .ref a :: r ∧ f a x r = some o := by
  unfold z_rr at e
  split at e
  · exact ⟨_, _, _, rfl, e⟩
  · cases e
theorem z_cp_inv {st : List Value} {f : Nat → Int32 → Nat → Int32 → Int32 → List Value → Option z_O} {o : z_O} (e : z_cp st f = some o) : ∃ a sp d dp n r, st = .int n :: .int dp :: .ref d :: .int sp :: .ref a :: r ∧ f a sp d dp n r = some o := by
  unfold z_cp at e
  split at e
  · exact ⟨_, _, _, _, _, _, rfl, e⟩
  · cases e
theorem z_vi_inv {v : Option Value} {f : Int32 → Option z_O} {o : z_O} (e : z_vi v f = some o) : ∃ x, v = some (.int x) ∧ f x = some o := by
  unfold z_vi at e
  split at e
  · exact ⟨_, rfl, e⟩
  · cases e
theorem z_vl_inv {v : Option Value} {f : Int64 → Option z_O} {o : z_O} (e : z_vl v f = some o) : ∃ x, v = some (.long x) ∧ f x = some o := by
  unfold z_vl at e
  split at e
  · exact ⟨_, rfl, e⟩
  · cases e
theorem z_vr_inv {v : Option Value} {f : Nat → Option z_O} {o : z_O} (e : z_vr v f = some o) : ∃ x, v = some (.ref x) ∧ f x = some o := by
  unfold z_vr at e
  split at e
  · exact ⟨_, rfl, e⟩
  · cases e
theorem z_no999 {o : Nat} (h : (!Nat.beq o 999) = true) : o ≠ 999 := by
  intro e
  subst e
  cases h
theorem z_ck_id {o : String} {x y z w : Nat} {i : Nat} {vv : Bool} (hh : z_ck o x y i z w vv = true) : z_idok i := by
  unfold z_ck at hh
  simp only [Bool.and_eq_true, Bool.or_eq_true] at hh
  rcases hh.1.1.1 with q | q
  · exact Or.inl (Nat.le_of_ble_eq_true q)
  · refine Or.inr ⟨Nat.le_of_ble_eq_true q.1.1.1, Nat.le_of_ble_eq_true q.1.1.2, fun e => ?_, fun e => ?_⟩
    · subst e; exact absurd q.1.2 (by decide)
    · subst e; exact absurd q.2 (by decide)
