/-! THE BUILDING MACHINE IS RIGHT -/
def y_dk (id pc : Nat) (ins : Instr) (n L : Nat) : Bool := decide (decode (y_mt id).2.1 pc = .ok (ins, L)) && Nat.beq n (pc + L)
def y_prm (id : Nat) : Nat := match id with
  | 1 => 1
  | 6 => 2
  | 7 => 4
  | _ => 0
def y_ok1 (id pc pl : Nat) (ins : Instr) (n : Nat) (v : Int32) (a b : Nat) : Bool := match ins with
  | .iconst k => y_dk id pc ins n 1 && decide (Int32.ofInt k = v)
  | .bipush k => y_dk id pc ins n 2 && decide ((Int8.ofInt k).toInt32 = v)
  | .sipush k => y_dk id pc ins n 3 && decide ((Int16.ofInt k).toInt32 = v)
  | .iload k => y_dk id pc ins n 2 && Nat.beq a k
  | .aload k => y_dk id pc ins n 2 && Nat.beq a k
  | .iload_n k => y_dk id pc ins n 1 && Nat.beq a k
  | .aload_n k => y_dk id pc ins n 1 && Nat.beq a k
  | .istore k => y_dk id pc ins n 2 && Nat.beq a k && Nat.blt a (y_mt id).2.2.1
  | .istore_n k => y_dk id pc ins n 1 && Nat.beq a k && Nat.blt a (y_mt id).2.2.1
  | .iinc k q => y_dk id pc ins n 3 && Nat.beq a k && decide (Int32.ofInt q = v) && Nat.blt a (y_mt id).2.2.1
  | .if_icmp .ge off => y_dk id pc ins n 3 && decide ((pc : Int) + off = (a : Int))
  | .goto off => y_dk id pc ins n 3 && decide ((pc : Int) + off = (a : Int))
  | .dup | .aastore | .iastore | .return_ => y_dk id pc ins n 1
  | .getfield i => y_dk id pc ins n 3 && z_fk (y_mt id).1.cls i pl a b
  | .putfield i => y_dk id pc ins n 3 && z_fk (y_mt id).1.cls i pl a b && ((z_q a).2.1 b).2.2.2 && y_isR (z_qT a b) && decide ((z_q a).1 = (y_mt id).1.cls)
  | .newarray t => y_dk id pc ins n 2 && decide (newarray.typeOf t = z_rowTy a) && Nat.ble 20 a && Nat.ble a 23
  | .anewarray i => y_dk id pc ins n 3 && Nat.ble 24 a && Nat.ble a 26 && (match z_rowTy a with
    | .object C => z_wd pl (.classLink (y_mt id).1.cls i C)
    | _ => false)
  | .new i => y_dk id pc ins n 3 && Nat.ble 1 a && Nat.ble a 12 && z_wd pl (.classLink (y_mt id).1.cls i (z_q a).1)
  | .invokespecial i => y_dk id pc ins n 3 && (match a with
    | 99 => z_wd pl (.methodLink (y_mt id).1.cls i objectInit)
    | _ => Nat.ble a 10 && Nat.beq b (y_prm a + 1) && (z_wd pl (.methodLink (y_mt id).1.cls i (y_mt a).1) || z_wd pl (.methodLinkNest (y_mt id).1.cls i (y_mt a).1 "TestChoice")))
  | _ => false
theorem y_dk_inv {id pc : Nat} {ins : Instr} {n L : Nat} (h : y_dk id pc ins n L = true) : decode (y_mt id).2.1 pc = .ok (ins, L) ∧ n = pc + L := by
  unfold y_dk at h
  simp only [Bool.and_eq_true, decide_eq_true_eq] at h
  exact ⟨h.1, z_beq h.2⟩
theorem y_i1_inv {st : List Value} {f : Int32 → List Value → Option y_O} {o : y_O} (e : y_i1 st f = some o) : ∃ x r, st = .int x :: r ∧ f x r = some o := by
  unfold y_i1 at e
  split at e
  · exact ⟨_, _, rfl, e⟩
  · cases e
theorem y_i2_inv {st : List Value} {f : Int32 → Int32 → List Value → Option y_O} {o : y_O} (e : y_i2 st f = some o) : ∃ x y r, st = .int y :: .int x :: r ∧ f x y r = some o := by
  unfold y_i2 at e
  split at e
  · exact ⟨_, _, _, rfl, e⟩
  · cases e
theorem y_r1_inv {st : List Value} {f : Nat → List Value → Option y_O} {o : y_O} (e : y_r1 st f = some o) : ∃ x r, st = .ref x :: r ∧ f x r = some o := by
  unfold y_r1 at e
  split at e
  · exact ⟨_, _, rfl, e⟩
  · cases e
theorem y_rr_inv {st : List Value} {f : Nat → Nat → List Value → Option y_O} {o : y_O} (e : y_rr st f = some o) : ∃ q x r, st = .ref x :: .ref q :: r ∧ f q x r = some o := by
  unfold y_rr at e
  split at e
  · exact ⟨_, _, _, rfl, e⟩
  · cases e
theorem y_rir_inv {st : List Value} {f : Nat → Int32 → Nat → List Value → Option y_O} {o : y_O} (e : y_rir st f = some o) : ∃ q j x r, st = .ref x :: .int j :: .ref q :: r ∧ f q j x r = some o := by
  unfold y_rir at e
  split at e
  · exact ⟨_, _, _, _, rfl, e⟩
  · cases e
theorem y_rii_inv {st : List Value} {f : Nat → Int32 → Int32 → List Value → Option y_O} {o : y_O} (e : y_rii st f = some o) : ∃ q j x r, st = .int x :: .int j :: .ref q :: r ∧ f q j x r = some o := by
  unfold y_rii at e
  split at e
  · exact ⟨_, _, _, _, rfl, e⟩
  · cases e
theorem y_vi_inv {v : Option Value} {f : Int32 → Option y_O} {o : y_O} (e : y_vi v f = some o) : ∃ x, v = some (.int x) ∧ f x = some o := by
  unfold y_vi at e
  split at e
  · exact ⟨_, rfl, e⟩
  · cases e
theorem y_vr_inv {v : Option Value} {f : Nat → Option y_O} {o : y_O} (e : y_vr v f = some o) : ∃ x, v = some (.ref x) ∧ f x = some o := by
  unfold y_vr at e
  split at e
  · exact ⟨_, rfl, e⟩
  · cases e
theorem y_co_inv {c : Option y_C} {f : Nat → List Value → Option y_O} {o : y_O} (e : y_co c f = some o) : ∃ k fs, c = some (.inl (k, fs)) ∧ f k fs = some o := by
  unfold y_co at e
  split at e
  · exact ⟨_, _, rfl, e⟩
  · cases e
theorem y_cr_inv {c : Option y_C} {f : Nat → Nat → List (Nat × Nat) → Option y_O} {o : y_O} (e : y_cr c f = some o) : ∃ k N g, c = some (.inr (.inr (.inr (k, N, g)))) ∧ f k N g = some o := by
  unfold y_cr at e
  split at e
  · exact ⟨_, _, _, rfl, e⟩
  · cases e
theorem y_ci_inv {c : Option y_C} {f : Nat → Nat → List (Nat × Int32) → Option y_O} {o : y_O} (e : y_ci c f = some o) : ∃ k N g, c = some (.inr (.inl (k, N, g))) ∧ f k N g = some o := by
  unfold y_ci at e
  split at e
  · exact ⟨_, _, _, rfl, e⟩
  · cases e
theorem y_if_inv {g : Bool} {x : Option y_O} {o : y_O} (e : y_if g x = some o) : g = true ∧ x = some o := by
  cases g with
  | true => exact ⟨rfl, e⟩
  | false => cases e
theorem y_nx_inv {pc : Nat} {l : z_L} {st : List Value} {cs : List y_C} {ce sl : Nat} {s' : y_S} (e : y_nx pc l st cs ce sl = some (.inl s')) : s' = (pc, l, st, cs, ce, sl) := (Sum.inl.inj (Option.some.inj e)).symm
def y_Go (p : Program) (l : Launch) (e : Env) (R : Room) (s : State) (m : MethodId) (args : Array Value) (below : List Frame) (meth : Method) (c : Code) (Q : State → Prop) (G : z_G) (nL : Nat) (t : y_S) : Prop :=
  ∀ (ls : Array Slot) (H : Heap) (locs : List Loc), lv_has ls nL (z_ul G t.2.1) → y_Rep G t.2.2.2.1 H → y_Fr G s H locs → W p l e R s m args below meth c H locs t.2.2.2.2.1 t.2.2.2.2.2 Q (F0 m t.1 ls (t.2.2.1.map (z_up G)))
theorem y_inst : ∀ k, 1 ≤ k → k ≤ 12 → Cond.instantiable (z_q k).1 (z_q k).2.2 ∈ z_good ∧ Cond.initialized (z_q k).1 ∈ z_good := by
  have g : ∀ (w : Cond) (i : Nat), lw_tbl[i]? = some w → goodWord w = true → w ∈ z_good := fun w i h q => List.mem_filter.mpr ⟨List.mem_of_getElem? h, q⟩
  intro a h1 h2
  match a, h1, h2 with
  | 1, _, _ => exact ⟨g _ 114 (by decide +kernel) rfl, g _ 93 (by decide +kernel) rfl⟩
  | 2, _, _ => exact ⟨g _ 122 (by decide +kernel) rfl, g _ 94 (by decide +kernel) rfl⟩
  | 3, _, _ => exact ⟨g _ 152 (by decide +kernel) rfl, g _ 95 (by decide +kernel) rfl⟩
  | 4, _, _ => exact ⟨g _ 158 (by decide +kernel) rfl, g _ 96 (by decide +kernel) rfl⟩
  | 5, _, _ => exact ⟨g _ 215 (by decide +kernel) rfl, g _ 97 (by decide +kernel) rfl⟩
  | 6, _, _ => exact ⟨g _ 280 (by decide +kernel) rfl, g _ 98 (by decide +kernel) rfl⟩
  | 7, _, _ => exact ⟨g _ 286 (by decide +kernel) rfl, g _ 99 (by decide +kernel) rfl⟩
  | 8, _, _ => exact ⟨g _ 326 (by decide +kernel) rfl, g _ 100 (by decide +kernel) rfl⟩
  | 9, _, _ => exact ⟨g _ 355 (by decide +kernel) rfl, g _ 101 (by decide +kernel) rfl⟩
  | 10, _, _ => exact ⟨g _ 404 (by decide +kernel) rfl, g _ 102 (by decide +kernel) rfl⟩
  | 11, _, _ => exact ⟨g _ 429 (by decide +kernel) rfl, g _ 103 (by decide +kernel) rfl⟩
  | 12, _, _ => exact ⟨g _ 1090 (by decide +kernel) rfl, g _ 104 (by decide +kernel) rfl⟩
theorem y_ac : ∀ a, 20 ≤ a → a ≤ 23 → Cond.arrayClass (z_rowTy a) ∈ z_good := by
  have g : ∀ (w : Cond) (i : Nat), lw_tbl[i]? = some w → goodWord w = true → w ∈ z_good := fun w i h q => List.mem_filter.mpr ⟨List.mem_of_getElem? h, q⟩
  intro a h1 h2
  rcases (show a = 20 ∨ a = 21 ∨ a = 22 ∨ a = 23 by omega) with rfl | rfl | rfl | rfl
  · exact g _ 213 (by decide +kernel) rfl
  · exact g _ 295 (by decide +kernel) rfl
  · exact g _ 150 (by decide +kernel) rfl
  · exact g _ 1209 (by decide +kernel) rfl
theorem y_up_def (G : z_G) (ty : FieldType) : z_up G (defaultValue ty) = defaultValue ty := by
  cases ty <;> rfl
theorem y_getD {fs : List Value} {b : Nat} {v : Value} (h : fs[b]? = some v) : fs.getD b .null = v := by
  rw [List.getD_eq_getElem?_getD, h]; rfl
theorem y_fits {ty : FieldType} (h : y_isR ty = true) (x : Nat) : narrow ty (.ref x) = .ref x ∧ fits ty (.ref x) = true := by
  cases ty <;> first | exact ⟨rfl, rfl⟩ | cases h
section YST
variable {p : Program} {l : Launch} {e : Env} {R : Room} {s : State} {m : MethodId} {args : Array Value} {below : List Frame} {meth : Method} {c : Code} {Q : State → Prop}
variable {G : z_G}
theorem y_Fr.put {H H1 : Heap} {locs : List Loc} {o k : Nat} (h : y_Fr G s H locs) (z : H1.size = H.size) (oq : ∀ q, q ≠ G.1 + o → H1[q]? = H[q]?) : y_Fr G s H1 (locs ++ [⟨G.1 + o, k⟩]) := by
  refine ⟨by rw [z]; exact h.1, fun q hq => (oq q (by omega)).trans (h.2.1 q hq), fun q hq => ?_⟩
  rcases List.mem_append.mp hq with h1 | h1
  · exact h.2.2 q h1
  · rw [List.mem_singleton] at h1
    subst h1
    exact Nat.le_add_right _ _
theorem y_Fr.push {H H1 : Heap} {locs : List Loc} {cs : List y_C} (h : y_Fr G s H locs) (y : y_Rep G cs H) (z : H1.size = H.size + 1) (oq : ∀ q, q < H.size → H1[q]? = H[q]?) : y_Fr G s H1 locs := by
  refine ⟨by rw [z]; exact Nat.le_succ_of_le h.1, fun q hq => (oq q (by rw [y.1]; omega)).trans (h.2.1 q hq), h.2.2⟩
theorem y_step {id pc pl : Nat} {lo : z_L} {st : List Value} {cs : List y_C} {ce sl MC MS : Nat} (hx : p.tables.exec = Jvm.exec) (hb : c.code = (y_mt id).2.1) (hml : c.maxLocals = (y_mt id).2.2.1) (hown : s.vm.findClass (y_mt id).1.cls = some m.cls) (hts : ∀ w ∈ z_good, w.before args s = true) (hK : y_Kn G s) (hin : meth.name = "<init>") (hr1 : 1 ≤ R.frames) (hr2 : 60 ≤ R.locals) (hRc : MC ≤ R.cells) (hRs : MS ≤ R.slots)
    {ins : Instr} {n : Nat} {v : Int32} {a b : Nat} {s' : y_S} (hc : y_ok1 id pc pl ins n v a b = true) (he : y_exec MC MS ins n v a b lo st cs ce sl = some (.inl s'))
    (k : y_Go p l e R s m args below meth c Q G (y_mt id).2.2.1 s') : y_Go p l e R s m args below meth c Q G (y_mt id).2.2.1 (pc, lo, st, cs, ce, sl) := by
  have hord := hK.1.1.1
  have hrow := hK.1.1.2
  intro ls H locs x y z
  cases ins
  all_goals first | exact absurd hc Bool.false_ne_true | skip
  case iconst q =>
    simp only [y_ok1, Bool.and_eq_true, decide_eq_true_eq] at hc
    obtain ⟨h1, h2⟩ := hc
    obtain ⟨hd, rfl⟩ := y_dk_inv h1
    cases y_nx_inv he
    exact lv_iconst hx hb hd h2 (k ls H locs x y z)
  case bipush q =>
    simp only [y_ok1, Bool.and_eq_true, decide_eq_true_eq] at hc
    obtain ⟨h1, h2⟩ := hc
    obtain ⟨hd, rfl⟩ := y_dk_inv h1
    cases y_nx_inv he
    exact lv_bipush hx hb hd h2 (k ls H locs x y z)
  case sipush q =>
    simp only [y_ok1, Bool.and_eq_true, decide_eq_true_eq] at hc
    obtain ⟨h1, h2⟩ := hc
    obtain ⟨hd, rfl⟩ := y_dk_inv h1
    cases y_nx_inv he
    exact lv_sipush hx hb hd h2 (k ls H locs x y z)
  case iload q =>
    simp only [y_ok1, Bool.and_eq_true] at hc
    obtain ⟨h1, h2⟩ := hc
    obtain ⟨hd, rfl⟩ := y_dk_inv h1
    obtain ⟨w, hw, he⟩ := y_vi_inv he
    cases y_nx_inv he
    obtain ⟨j, hj⟩ := z_ul_get (G := G) hw
    rw [z_beq h2] at hj
    exact lv_iload hx hb hd (lv_at x j hj) (k ls H locs x y z)
  case iload_n q =>
    simp only [y_ok1, Bool.and_eq_true] at hc
    obtain ⟨h1, h2⟩ := hc
    obtain ⟨hd, rfl⟩ := y_dk_inv h1
    obtain ⟨w, hw, he⟩ := y_vi_inv he
    cases y_nx_inv he
    obtain ⟨j, hj⟩ := z_ul_get (G := G) hw
    exact lv_iload_n hx hb hd (z_beq h2).symm (lv_at x j hj) (k ls H locs x y z)
  case aload q =>
    simp only [y_ok1, Bool.and_eq_true] at hc
    obtain ⟨h1, h2⟩ := hc
    obtain ⟨hd, rfl⟩ := y_dk_inv h1
    obtain ⟨w, hw, he⟩ := y_vr_inv he
    obtain ⟨g, he⟩ := y_if_inv he
    cases y_nx_inv he
    obtain ⟨j, hj⟩ := z_ul_get (G := G) hw
    have hw1 : w < 141 := Nat.le_of_ble_eq_true g
    rw [z_beq h2, z_up_obj hw1] at hj
    have h3 := k ls H locs x y z
    simp only [List.map_cons] at h3
    rw [z_up_obj hw1] at h3
    exact lv_aload hx hb hd (lv_at x j hj) h3
  case aload_n q =>
    simp only [y_ok1, Bool.and_eq_true] at hc
    obtain ⟨h1, h2⟩ := hc
    obtain ⟨hd, rfl⟩ := y_dk_inv h1
    obtain ⟨w, hw, he⟩ := y_vr_inv he
    obtain ⟨g, he⟩ := y_if_inv he
    cases y_nx_inv he
    obtain ⟨j, hj⟩ := z_ul_get (G := G) hw
    have hw1 : w < 141 := Nat.le_of_ble_eq_true g
    rw [z_up_obj hw1] at hj
    have h3 := k ls H locs x y z
    simp only [List.map_cons] at h3
    rw [z_up_obj hw1] at h3
    exact lv_aload_n hx hb hd (z_beq h2).symm (lv_at x j hj) h3
  case istore q =>
    simp only [y_ok1, Bool.and_eq_true] at hc
    obtain ⟨⟨h1, h2⟩, h3⟩ := hc
    obtain ⟨hd, rfl⟩ := y_dk_inv h1
    obtain ⟨w, r, rfl, he⟩ := y_i1_inv he
    cases y_nx_inv he
    have h2 := z_beq h2
    subst h2
    exact lv_istore hx hb hd x (Nat.le_of_ble_eq_true h3) (z_ul_put1 G lo a (.int w)) (fun ls' x' => k ls' H locs x' y z)
  case istore_n q =>
    simp only [y_ok1, Bool.and_eq_true] at hc
    obtain ⟨⟨h1, h2⟩, h3⟩ := hc
    obtain ⟨hd, rfl⟩ := y_dk_inv h1
    obtain ⟨w, r, rfl, he⟩ := y_i1_inv he
    cases y_nx_inv he
    exact lv_istore_n hx hb hd (z_beq h2).symm x (Nat.le_of_ble_eq_true h3) (z_ul_put1 G lo a (.int w)) (fun ls' x' => k ls' H locs x' y z)
  case iinc q1 q2 =>
    simp only [y_ok1, Bool.and_eq_true, decide_eq_true_eq] at hc
    obtain ⟨⟨⟨h1, h2⟩, h3⟩, h4⟩ := hc
    obtain ⟨hd, rfl⟩ := y_dk_inv h1
    obtain ⟨w, hw, he⟩ := y_vi_inv he
    cases y_nx_inv he
    have h2 := z_beq h2
    subst h2
    obtain ⟨j, hj⟩ := z_ul_get (G := G) hw
    exact lv_iinc hx hb hd x hj (by rw [h3]) (Nat.le_of_ble_eq_true h4) (z_ul_put1 G lo a (.int (w + v))) (fun ls' x' => k ls' H locs x' y z)
  case if_icmp cnd off =>
    cases cnd
    all_goals first | exact absurd hc Bool.false_ne_true | skip
    simp only [y_ok1, Bool.and_eq_true, decide_eq_true_eq] at hc
    obtain ⟨h1, h2⟩ := hc
    obtain ⟨hd, rfl⟩ := y_dk_inv h1
    obtain ⟨w1, w2, r, rfl, he⟩ := y_i2_inv he
    cases y_nx_inv he
    refine lv_icmp_ge hx hb hd h2 (fun hle => ?_) (fun hle => ?_)
    · have := k ls H locs x y z
      simp only [if_pos hle] at this
      exact this
    · have := k ls H locs x y z
      simp only [if_neg hle] at this
      exact this
  case goto off =>
    simp only [y_ok1, Bool.and_eq_true, decide_eq_true_eq] at hc
    obtain ⟨h1, h2⟩ := hc
    obtain ⟨hd, rfl⟩ := y_dk_inv h1
    cases y_nx_inv he
    exact lv_goto hx hb hd h2 (k ls H locs x y z)
  case dup =>
    simp only [y_ok1] at hc
    obtain ⟨hd, rfl⟩ := y_dk_inv hc
    obtain ⟨w, r, rfl, he⟩ := y_r1_inv he
    obtain ⟨g, he⟩ := y_if_inv he
    cases y_nx_inv he
    have h3 := k ls H locs x y z
    have hw1 : w < 141 := Nat.le_of_ble_eq_true g
    simp only [List.map_cons] at h3 ⊢
    rw [z_up_obj hw1] at h3 ⊢
    exact lv_dup hx hb hd rfl h3
  case getfield i =>
    simp only [y_ok1, Bool.and_eq_true] at hc
    obtain ⟨h1, h2⟩ := hc
    obtain ⟨hd, rfl⟩ := y_dk_inv h1
    obtain ⟨a1, a12, hbN, hC, hw⟩ := z_fk_inv h2
    obtain ⟨o, r, rfl, he⟩ := y_r1_inv he
    obtain ⟨k1, fs, hcs, he⟩ := y_co_inv he
    obtain ⟨w, hfs, he⟩ := y_vr_inv he
    obtain ⟨g, he⟩ := y_if_inv he
    cases y_nx_inv he
    simp only [Bool.and_eq_true] at g
    have hka := z_beq g.1.1
    subst hka
    have ho : o < 141 := Nat.le_of_ble_eq_true g.1.2
    have hw1 : w < 141 := Nat.le_of_ble_eq_true g.2
    obtain ⟨-, -, hlen, cell, c1, c2, c3, c4⟩ := y.2 o _ hcs
    obtain ⟨q1, q2, q3, q4⟩ := z_q_ok k1 a1 a12
    obtain ⟨hS, hfc, kC, hkC, hkind⟩ := hord (k1 - 1) _ q1
    obtain ⟨cf, kf, fi, f, hi, hsl⟩ := hS b hbN
    have hst := (u_facts hfc hkC (u_lays hts q2 hbN) hi).1
    have h3 := k ls H locs x y z
    simp only [List.map_cons] at h3 ⊢
    rw [z_up_obj hw1] at h3
    rw [z_up_obj ho]
    refine W.getf hx hb hown (hts _ hw) (by rw [← hC]; exact hi) hst c1 (by rw [c3]; exact fun h => by cases h) (v := .ref (G.1 + w)) ?_ rfl rfl hd h3
    rw [hsl, c4 b hbN]
    show some (z_up G (fs.getD b .null)) = _
    rw [y_getD hfs, z_up_obj hw1]
  case putfield i =>
    simp only [y_ok1, Bool.and_eq_true, decide_eq_true_eq] at hc
    obtain ⟨⟨⟨⟨h1, h2⟩, hfin⟩, hty⟩, hcl⟩ := hc
    obtain ⟨hd, rfl⟩ := y_dk_inv h1
    obtain ⟨a1, a12, hbN, hC, hw⟩ := z_fk_inv h2
    obtain ⟨o, w, r, rfl, he⟩ := y_rr_inv he
    obtain ⟨k1, fs, hcs, he⟩ := y_co_inv he
    obtain ⟨g, he⟩ := y_if_inv he
    cases y_nx_inv he
    simp only [Bool.and_eq_true] at g
    have hka := z_beq g.1.1
    subst hka
    have ho : o < 141 := Nat.le_of_ble_eq_true g.1.2
    have hw1 : w < 141 := Nat.le_of_ble_eq_true g.2
    obtain ⟨-, -, hlen, cell, c1, c2, c3, c4⟩ := y.2 o _ hcs
    obtain ⟨q1, q2, q3, q4⟩ := z_q_ok k1 a1 a12
    obtain ⟨hS, hfc, kC, hkC, hkind⟩ := hord (k1 - 1) _ q1
    obtain ⟨cf, kf, fi, f, hi, hsl⟩ := hS b hbN
    have hst := (u_facts hfc hkC (u_lays hts q2 hbN) hi).1
    have hlay := hts _ (q2 _ (u_in_lay hbN))
    unfold u_lay at hlay
    rw [if_pos hfin] at hlay
    have hcf : m.cls = cf := by
      obtain ⟨_, _, c', _, _, _, -, -, hf', -, -, -, hown2, -⟩ := Cond.laysFinal_spec hlay
      have e1 : c' = cf := by have := hi.symm.trans hf'; simp at this; exact this.1.symm
      rw [hC, hcl] at hown2
      rw [← e1]; exact Option.some.inj (hown.symm.trans hown2)
    obtain ⟨hn1, hf1⟩ := y_fits hty (G.1 + w)
    have h6 := u_fits hfc hkC hkind (Or.inr hlay) hi (q4 b hbN) hn1 hf1
    simp only [List.map_cons]
    rw [z_up_obj hw1, z_up_obj ho]
    refine W.putFinK hx hb hown (hts _ hw) (by rw [← hC]; exact hi) hst hcf hin (by rw [c2]; exact h6) c1 c3 (by rw [hsl]; exact k2_hasslot (c4 b hbN)) rfl rfl hd fun H' e1 e2 e3 => ?_
    rw [hsl] at e1 ⊢
    refine k ls H' _ x (y.set e2 e3 ⟨a1, a12, by rw [List.length_set]; exact hlen, _, e1, c2, c3, fun j hj => ?_⟩) (z.put e2 e3)
    rw [t_set c4 (z_apart hts hK.1 a1 a12) hbN (.ref (G.1 + w)) j hj]
    unfold updV
    by_cases hjb : j = b
    · subst hjb
      rw [if_pos rfl]
      show _ = some (z_up G ((fs.set j (.ref w)).getD j .null))
      have hs : (fs.set j (.ref w))[j]? = some (.ref w) := List.getElem?_set_self (by rw [hlen]; exact hbN)
      rw [y_getD hs, z_up_obj hw1]
    · rw [if_neg hjb]
      show some (z_up G (fs.getD j .null)) = some (z_up G ((fs.set b (.ref w)).getD j .null))
      rw [List.getD_eq_getElem?_getD, List.getD_eq_getElem?_getD, List.getElem?_set_ne (fun q => hjb q.symm)]
  case newarray t =>
    simp only [y_ok1, Bool.and_eq_true, decide_eq_true_eq] at hc
    obtain ⟨⟨⟨h1, hty⟩, h20⟩, h23⟩ := hc
    have h20 := Nat.le_of_ble_eq_true h20
    have h23 := Nat.le_of_ble_eq_true h23
    obtain ⟨hd, rfl⟩ := y_dk_inv h1
    obtain ⟨w, r, rfl, he⟩ := y_i1_inv he
    obtain ⟨g, he⟩ := y_if_inv he
    cases y_nx_inv he
    simp only [Bool.and_eq_true, Bool.not_eq_true', decide_eq_false_iff_not] at g
    obtain ⟨⟨⟨⟨g1, g2⟩, g3⟩, g4⟩, g5⟩ := g
    have g2 := Nat.le_of_ble_eq_true g2
    have g3 : cs.length < 141 := Nat.le_of_ble_eq_true g3
    have g4 := Nat.le_of_ble_eq_true g4
    have g5 := Nat.le_of_ble_eq_true g5
    simp only [List.map_cons]
    have hb8 : componentBytes (newarray.typeOf t) ≤ 8 := by
      rw [hty]
      rcases (show a = 20 ∨ a = 21 ∨ a = 22 ∨ a = 23 by omega) with rfl | rfl | rfl | rfl <;> decide
    refine va_newaK hx hb (by rw [hty]; exact hts _ (y_ac a h20 h23)) rfl hd rfl g1 rfl (Nat.le_trans (Nat.mul_le_mul g2 hb8) (Nat.le_of_ble_eq_true rfl)) (Nat.le_trans g4 hRc) (Nat.le_trans g5 hRs) rfl fun H1 cA e1 z1 o1 hAr hNm => ?_
    have h3 := k ls H1 locs x (y.push (c := y_kd a w.toNatClampNeg) z1 o1 ?_) (z.push y z1 o1)
    · simp only [List.map_cons] at h3
      rw [z_up_obj g3, ← y.1] at h3
      exact h3
    · have hra := (hrow (a - 20) _ (z_rows h20 (by omega))).2
      rw [hty] at e1 hNm
      rcases (show a = 20 ∨ a = 21 ∨ a = 22 ∨ a = 23 by omega) with rfl | rfl | rfl | rfl
      · have : cA = G.2.2.2.2 20 := Option.some.inj (hNm.symm.trans hra)
        subst this
        exact ⟨Or.inl rfl, e1⟩
      · have : cA = G.2.2.2.2 21 := Option.some.inj (hNm.symm.trans hra)
        subst this
        exact e1
      · have : cA = G.2.2.2.2 22 := Option.some.inj (hNm.symm.trans hra)
        subst this
        exact ⟨Or.inr (Or.inl rfl), e1⟩
      · have : cA = G.2.2.2.2 23 := Option.some.inj (hNm.symm.trans hra)
        subst this
        exact ⟨Or.inr (Or.inr rfl), e1⟩
  case anewarray i =>
    simp only [y_ok1, Bool.and_eq_true] at hc
    obtain ⟨⟨⟨h1, h24⟩, h26⟩, hwd⟩ := hc
    have h24 := Nat.le_of_ble_eq_true h24
    have h26 := Nat.le_of_ble_eq_true h26
    obtain ⟨hd, rfl⟩ := y_dk_inv h1
    obtain ⟨w, r, rfl, he⟩ := y_i1_inv he
    obtain ⟨g, he⟩ := y_if_inv he
    cases y_nx_inv he
    simp only [Bool.and_eq_true, Bool.not_eq_true', decide_eq_false_iff_not] at g
    obtain ⟨⟨⟨⟨g1, g2⟩, g3⟩, g4⟩, g5⟩ := g
    have g2 := Nat.le_of_ble_eq_true g2
    have g3 : cs.length < 141 := Nat.le_of_ble_eq_true g3
    have g4 := Nat.le_of_ble_eq_true g4
    have g5 := Nat.le_of_ble_eq_true g5
    obtain ⟨C, hC, hO⟩ := hK.2 a h24 h26
    rw [hC] at hwd
    simp only [List.map_cons]
    have hra := (hrow (a - 20) _ (z_rows (by omega) h26)).2
    rw [hC] at hra
    obtain ⟨kA0, comp0, -, -, -, hra4⟩ := hra
    refine W.anew hx hb hown (hts _ (z_wd_good hwd rfl)) (va_AO.use hO) rfl hd rfl g1 (Nat.le_trans (Nat.mul_le_mul g2 (Nat.le_refl 4)) (Nat.le_of_ble_eq_true rfl)) (Nat.le_trans g4 hRc) (Nat.le_trans g5 hRs) fun cA kA comp f1 f2 f3 f4 => ?_
    have hcA : cA = G.2.2.2.2 a := Option.some.inj (f1.symm.trans hra4)
    subst hcA
    generalize hH1 : H.push ({ cls := G.2.2.2.2 a, slots := Array.replicate w.toNatClampNeg .null, vm := .none } : Cell) = H1
    have z1 : H1.size = H.size + 1 := by rw [← hH1, Array.size_push]
    have e1 : H1[H.size]? = some (arrV (G.2.2.2.2 a) w.toNatClampNeg (fun _ => .null)) := by rw [← hH1, Array.getElem?_push_size, ← arrV_new]
    have o1 : ∀ q : Nat, q < H.size → H1[q]? = H[q]? := fun q hq => by rw [← hH1, Array.getElem?_push, if_neg (Nat.ne_of_lt hq)]
    have h3 := k ls H1 locs x (y.push (c := .inr (.inr (.inr (a, w.toNatClampNeg, [])))) z1 o1 ⟨h24, h26, e1⟩) (z.push y z1 o1)
    simp only [List.map_cons] at h3
    rw [z_up_obj g3, ← y.1] at h3
    exact h3
  case aastore =>
    simp only [y_ok1] at hc
    obtain ⟨hd, rfl⟩ := y_dk_inv hc
    obtain ⟨o, j, w, r, rfl, he⟩ := y_rir_inv he
    obtain ⟨k1, N, g0, hcs, he⟩ := y_cr_inv he
    obtain ⟨kc, fs, hcw, he⟩ := y_co_inv he
    obtain ⟨g, he⟩ := y_if_inv he
    cases y_nx_inv he
    simp only [Bool.and_eq_true] at g
    obtain ⟨⟨⟨g1, g2⟩, g3⟩, g4⟩ := g
    have g1 := z_beq g1
    subst g1
    have ho : o < 141 := Nat.le_of_ble_eq_true g3
    have hw1 : w < 141 := Nat.le_of_ble_eq_true g4
    obtain ⟨hi1, hi2⟩ := z_vin g2
    obtain ⟨h24, h26, e0⟩ := y.2 o _ hcs
    obtain ⟨a1, a12, hlen, cellV, v1, v2, v3, -⟩ := y.2 w _ hcw
    have hcls := (hord (y_cK k1 - 1) _ (z_q_ok _ a1 a12).1).2
    have hra := (hrow (k1 - 20) _ (z_rows (by omega) h26)).2
    have hCn : z_rowTy k1 = .object (z_q (y_cK k1)).1 := by
      rcases (show k1 = 24 ∨ k1 = 25 ∨ k1 = 26 by omega) with rfl | rfl | rfl <;> rfl
    rw [hCn] at hra
    obtain ⟨kA, comp, r1, r2, r3, -⟩ := hra
    have hcomp : comp = G.2.2.1 (y_cK k1 - 1) := Option.some.inj (r3.symm.trans hcls.1)
    subst hcomp
    obtain ⟨kC, hkC, -⟩ := hcls.2
    simp only [List.map_cons]
    rw [z_up_obj hw1, z_up_obj ho]
    refine W.aast hx hb e0 (fun q h => by cases h) (fun h => by cases h) r1 r2 rfl hkC ⟨fun q => hi1 (Or.inl q), by rw [arrV_size]; exact hi2⟩ v1 (fun q h => by rw [v3] at h; cases h) (by rw [v2]; exact hkC) (by rw [v2]; exact va_assign hcls) rfl rfl hd fun H1 f1 f2 f3 => ?_
    refine k ls H1 _ x (y.set f2 f3 ⟨h24, h26, ?_⟩) (z.put f2 f3)
    rw [f1, arrV_store]
    congr 2
    funext q
    unfold updV
    show _ = z_rv G (bif Nat.beq j.toNatClampNeg q then w else y_fr g0 q)
    by_cases hq : q = j.toNatClampNeg
    · subst hq
      rw [if_pos rfl, z_beqT]
      exact (z_up_obj (G := G) hw1).symm
    · rw [if_neg hq, z_beqF (fun h => hq h.symm)]
      rfl
  case iastore =>
    simp only [y_ok1] at hc
    obtain ⟨hd, rfl⟩ := y_dk_inv hc
    obtain ⟨o, j, w, r, rfl, he⟩ := y_rii_inv he
    obtain ⟨k1, N, g0, hcs, he⟩ := y_ci_inv he
    obtain ⟨g, he⟩ := y_if_inv he
    cases y_nx_inv he
    simp only [Bool.and_eq_true] at g
    obtain ⟨⟨g1, g2⟩, g3⟩ := g
    have g1 := z_beq g1
    subst g1
    have ho : o < 141 := Nat.le_of_ble_eq_true g3
    obtain ⟨hi1, hi2⟩ := z_vin g2
    obtain ⟨-, e0⟩ := y.2 o _ hcs
    have ha := (hrow 0 _ (z_rows (K := 20) (by omega) (by omega))).1 N (fun j => .int (y_fi g0 j))
    simp only [List.map_cons]
    rw [z_up_obj ho]
    refine W.iast hx hb e0 ha (fun q => by cases q) (by rw [arrV_size]; exact hi1) rfl rfl hd fun H1 f1 f2 f3 => ?_
    refine k ls H1 _ x (y.set f2 f3 ⟨Or.inl rfl, ?_⟩) (z.put f2 f3)
    rw [f1, arrV_store]
    congr 2
    funext q
    unfold updV
    show _ = Value.int (bif Nat.beq j.toNatClampNeg q then w else y_fi g0 q)
    by_cases hq : q = j.toNatClampNeg
    · subst hq
      rw [if_pos rfl, z_beqT]
      rfl
    · rw [if_neg hq, z_beqF (fun h => hq h.symm)]
      rfl
  case new i =>
    simp only [y_ok1, Bool.and_eq_true] at hc
    obtain ⟨⟨⟨h1, a1⟩, a12⟩, hwd⟩ := hc
    have a1 := Nat.le_of_ble_eq_true a1
    have a12 := Nat.le_of_ble_eq_true a12
    obtain ⟨hd, rfl⟩ := y_dk_inv h1
    obtain ⟨g, he⟩ := y_if_inv he
    cases y_nx_inv he
    simp only [Bool.and_eq_true] at g
    obtain ⟨⟨g3, g4⟩, g5⟩ := g
    have g3 : cs.length < 141 := Nat.le_of_ble_eq_true g3
    have g4 := Nat.le_of_ble_eq_true g4
    have g5 := Nat.le_of_ble_eq_true g5
    obtain ⟨q1, q2, q3, q4⟩ := z_q_ok a a1 a12
    have hKn := hord (a - 1) _ q1
    obtain ⟨i1, i2⟩ := y_inst a a1 a12
    refine W.newcK hx hb hown (hts _ (z_wd_good hwd rfl)) (hts _ i1) (hts _ i2) rfl hd (Nat.le_trans g4 hRc) (Nat.le_trans g5 hRs) hKn.2.1 rfl fun H1 kC hkC e1 z1 o1 => ?_
    have h3 := k ls H1 locs x (y.push (c := .inl (a, y_def a)) z1 o1 ⟨a1, a12, by unfold y_def; rw [List.length_map, List.length_range], (u_born (z_qT a) hts q2 hKn hkC e1 q4).to (fun j hj => ?_)⟩) (z.push y z1 o1)
    · simp only [List.map_cons] at h3
      rw [z_up_obj g3, ← y.1] at h3
      exact h3
    · have : (y_def a).getD j .null = defaultValue (z_qT a j) := by
        unfold y_def
        rw [List.getD_eq_getElem?_getD, List.getElem?_map, List.getElem?_range hj]
        rfl
      rw [this, y_up_def]
  case invokespecial i =>
    simp only [y_ok1, Bool.and_eq_true] at hc
    obtain ⟨h1, h2⟩ := hc
    obtain ⟨hd, rfl⟩ := y_dk_inv h1
    by_cases h99 : a = 99
    · subst h99
      obtain ⟨o, r, rfl, he⟩ := y_r1_inv (show y_r1 _ _ = _ from he)
      obtain ⟨g, he⟩ := y_if_inv he
      cases y_nx_inv he
      simp only [Bool.and_eq_true] at g
      have ho : o < 141 := Nat.le_of_ble_eq_true g.1
      have h8 := Nat.le_of_ble_eq_true g.2
      simp only [List.map_cons]
      rw [z_up_obj ho]
      refine W.objInit hx hb hown (hts _ (z_wd_good h2 rfl)) (hts _ (y_g 119 (by decide +kernel) rfl)) (hts _ (y_g 120 (by decide +kernel) rfl)) rfl (by rw [hml]; exact x.1) rfl hd hr1 ?_ (k ls H locs x y z)
      show 2 * 0 + _ + 12 ≤ _
      have : ((r.map (z_up G)).map fun v => v.category).sum = z_cat r := z_cat_up G r
      rw [this]
      omega
    · exfalso
      have : ∀ a, a ≠ 99 → y_exec MC MS (.invokespecial i) (pc + 3) v a b lo st cs ce sl = y_if (Nat.ble b st.length && Nat.ble (z_cat (st.drop b)) 8) (some (.inr (.inr (a, (st.take b).reverse, (pc + 3, lo, st.drop b, cs, ce, sl))))) := by
        intro a ha
        show (match a with | 99 => _ | _ => _) = _
        split
        · exact absurd rfl ha
        · rfl
      rw [this a h99] at he
      obtain ⟨-, he⟩ := y_if_inv he
      cases he
  case return_ => cases he
end YST
/-! contracts of the constructors -/
def y_rm (id : Nat) : Room := { frames := (y_cost id).2.2, cells := (y_cost id).1, slots := (y_cost id).2.1, locals := 80 * (y_cost id).2.2 }
def y_cP (G : z_G) (a : List Value) (cs : List y_C) : Array Value → State → Prop := fun v U => v = (a.map (z_up G)).toArray ∧ y_Kn G U ∧ y_Rep G cs U.heap
def y_cQ (G : z_G) (cs : List y_C) : Array Value → State → Outcome → State → Prop := fun _ st o t => o = .returned none ∧ y_Rep G cs t.heap ∧ st.heap.size ≤ t.heap.size ∧ ∀ q, q < G.1 → t.heap[q]? = st.heap[q]?
def y_Con (l : Launch) (G : z_G) (id : Nat) (a : List Value) (cs cs' : List y_C) : Prop := Met l (y_mt id).1 (y_ws (y_mt id)) (y_rm id) (y_cP G a cs) (y_cQ G cs') (y_cost id).1 (y_cost id).2.1 (fun q => G.1 ≤ q)
theorem y_Kn.warm {G : z_G} {s U : State} (hW : s.WarmedH U.vm) (h : y_Kn G s) : y_Kn G U := ⟨h.1.warm hW, fun k h1 h2 => by
  obtain ⟨C, q1, q2⟩ := h.2 k h1 h2
  exact ⟨C, q1, va_AO.moved hW.alike q2⟩⟩
theorem y_Kn.same {G : z_G} {s U : State} (hv : U.vm = s.vm) (h : y_Kn G s) : y_Kn G U := ⟨h.1.same hv, fun k h1 h2 => by
  obtain ⟨C, q1, q2⟩ := h.2 k h1 h2
  exact ⟨C, q1, va_AO.moved (u := s) (by rw [hv]; exact Vm.Alike.refl _) q2⟩⟩
theorem y_cblind (G : z_G) (a : List Value) (cs : List y_C) : FrameBlind (y_cP G a cs) := fun _ U _ _ q => ⟨q.1, y_Kn.same (s := U) rfl q.2.1, q.2.2⟩
/-- what the tables say of a constructor -/
def y_mok (id : Nat) : Prop := Cond.code (y_mt id).1 (y_mt id).2.1 (y_mt id).2.2.1 (y_mt id).2.2.2 ∈ z_good ∧ Cond.initialized (y_mt id).1.cls ∈ z_good ∧ ((y_mt id).1.cls ≠ "java/lang/invoke/MethodHandle" ∧ (y_mt id).1.cls ≠ "java/lang/invoke/VarHandle") ∧ (parseMethodDescriptor (y_mt id).1.desc).map (fun d => d.parameters.length) = some (y_prm id) ∧ Cond.instanceMethod (y_mt id).1 ∈ z_good ∧ (y_mt id).2.2.1 ≤ 60 ∧ plainName (y_mt id).1.cls = true ∧ (y_mt id).1.name = "<init>" ∧ 2 ≤ (y_cost id).2.2 ∧ (y_mt id).2.2.2 = none
theorem y_moks : ∀ id, id ≤ 11 → y_mok id := by
  have g : ∀ (w : Cond) (i : Nat), lw_tbl[i]? = some w → goodWord w = true → w ∈ z_good := fun w i h q => List.mem_filter.mpr ⟨List.mem_of_getElem? h, q⟩
  intro a h1
  match a, h1 with
  | 0, _ => exact ⟨g _ 125 (by decide +kernel) rfl, g _ 94 (by decide +kernel) rfl, by decide, by decide +kernel, g _ 124 (by decide +kernel) rfl, by decide, by decide, rfl, by decide, rfl⟩
  | 1, _ => exact ⟨g _ 155 (by decide +kernel) rfl, g _ 95 (by decide +kernel) rfl, by decide, by decide +kernel, g _ 154 (by decide +kernel) rfl, by decide, by decide, rfl, by decide, rfl⟩
  | 2, _ => exact ⟨g _ 161 (by decide +kernel) rfl, g _ 96 (by decide +kernel) rfl, by decide, by decide +kernel, g _ 160 (by decide +kernel) rfl, by decide, by decide, rfl, by decide, rfl⟩
  | 3, _ => exact ⟨g _ 218 (by decide +kernel) rfl, g _ 97 (by decide +kernel) rfl, by decide, by decide +kernel, g _ 217 (by decide +kernel) rfl, by decide, by decide, rfl, by decide, rfl⟩
  | 4, _ => exact ⟨g _ 283 (by decide +kernel) rfl, g _ 98 (by decide +kernel) rfl, by decide, by decide +kernel, g _ 282 (by decide +kernel) rfl, by decide, by decide, rfl, by decide, rfl⟩
  | 5, _ => exact ⟨g _ 289 (by decide +kernel) rfl, g _ 99 (by decide +kernel) rfl, by decide, by decide +kernel, g _ 288 (by decide +kernel) rfl, by decide, by decide, rfl, by decide, rfl⟩
  | 6, _ => exact ⟨g _ 329 (by decide +kernel) rfl, g _ 100 (by decide +kernel) rfl, by decide, by decide +kernel, g _ 328 (by decide +kernel) rfl, by decide, by decide, rfl, by decide, rfl⟩
  | 7, _ => exact ⟨g _ 358 (by decide +kernel) rfl, g _ 101 (by decide +kernel) rfl, by decide, by decide +kernel, g _ 357 (by decide +kernel) rfl, by decide, by decide, rfl, by decide, rfl⟩
  | 8, _ => exact ⟨g _ 407 (by decide +kernel) rfl, g _ 102 (by decide +kernel) rfl, by decide, by decide +kernel, g _ 406 (by decide +kernel) rfl, by decide, by decide, rfl, by decide, rfl⟩
  | 9, _ => exact ⟨g _ 432 (by decide +kernel) rfl, g _ 103 (by decide +kernel) rfl, by decide, by decide +kernel, g _ 431 (by decide +kernel) rfl, by decide, by decide, rfl, by decide, rfl⟩
  | 10, _ => exact ⟨g _ 117 (by decide +kernel) rfl, g _ 93 (by decide +kernel) rfl, by decide, by decide +kernel, g _ 116 (by decide +kernel) rfl, by decide, by decide, rfl, by decide, rfl⟩
  | 11, _ => exact ⟨g _ 1093 (by decide +kernel) rfl, g _ 104 (by decide +kernel) rfl, by decide, by decide +kernel, g _ 1092 (by decide +kernel) rfl, by decide, by decide, rfl, by decide, rfl⟩
