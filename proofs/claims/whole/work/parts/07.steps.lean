/-! EACH INSTRUCTION, ONCE: if the small machine goes on from a state, so does the real one -/
def z_Go (p : Program) (l : Launch) (e : Env) (R : Room) (s : State) (m : MethodId) (args : Array Value) (below : List Frame) (meth : Method) (c : Code) (Q : State → Prop) (G : z_G) (nL : Nat) (pc : Nat) (lo : z_L) (st : List Value) (h : z_H) : Prop :=
  ∀ (ls : Array Slot) (H : Heap) (locs : List Loc), lv_has ls nL (z_ul G lo) → z_Rep G h H → z_Fr G s H locs → W p l e R s m args below meth c H locs 0 0 Q (F0 m pc ls (st.map (z_up G)))
theorem z_vin {j : Int32} {n : Nat} (h : z_in j n = true) : ¬ (j < 0 ∨ n ≤ j.toNatClampNeg) ∧ j.toNatClampNeg < n := by
  unfold z_in at h
  simp only [Bool.and_eq_true, Bool.not_eq_true', decide_eq_false_iff_not] at h
  have h2 : j.toNatClampNeg < n := Nat.le_of_ble_eq_true h.2
  exact ⟨fun q => q.elim h.1 (fun q => absurd h2 (by omega)), h2⟩
theorem z_ad_lt {G : z_G} {o : Nat} (h : o < 141) : z_ad G o = G.1 + o := by
  unfold z_ad
  have : Nat.blt o 141 = true := Nat.ble_eq_true_of_le h
  rw [this]; rfl
theorem z_up_ref {G : z_G} {o : Nat} (h : o ≠ 999) : z_up G (.ref o) = .ref (z_ad G o) := by
  show z_rv G o = _
  unfold z_rv
  rw [z_beqF h]; rfl
theorem z_up_obj {G : z_G} {o : Nat} (h : o < 141) : z_up G (.ref o) = .ref (G.1 + o) := by rw [z_up_ref (by omega), z_ad_lt h]
section ZST
variable {p : Program} {l : Launch} {e : Env} {R : Room} {s : State} {m : MethodId} {args : Array Value} {below : List Frame} {meth : Method} {c : Code} {Q : State → Prop}
variable {G : z_G} {nL : Nat} {cc : ByteArray} {pc : Nat} {lo : z_L} {st : List Value} {h : z_H}
theorem z_s_iconst (hx : p.tables.exec = Jvm.exec) (hb : c.code = cc) {n : Int} {v : Int32} (hd : decode cc pc = .ok (.iconst n, 1)) (hv : Int32.ofInt n = v) (k : z_Go p l e R s m args below meth c Q G nL (pc + 1) lo (.int v :: st) h) : z_Go p l e R s m args below meth c Q G nL pc lo st h :=
  fun ls H locs a b d => lv_iconst hx hb hd hv (k ls H locs a b d)
theorem z_s_bipush (hx : p.tables.exec = Jvm.exec) (hb : c.code = cc) {n : Int} {v : Int32} (hd : decode cc pc = .ok (.bipush n, 2)) (hv : (Int8.ofInt n).toInt32 = v) (k : z_Go p l e R s m args below meth c Q G nL (pc + 2) lo (.int v :: st) h) : z_Go p l e R s m args below meth c Q G nL pc lo st h :=
  fun ls H locs a b d => lv_bipush hx hb hd hv (k ls H locs a b d)
theorem z_s_sipush (hx : p.tables.exec = Jvm.exec) (hb : c.code = cc) {n : Int} {v : Int32} (hd : decode cc pc = .ok (.sipush n, 3)) (hv : (Int16.ofInt n).toInt32 = v) (k : z_Go p l e R s m args below meth c Q G nL (pc + 3) lo (.int v :: st) h) : z_Go p l e R s m args below meth c Q G nL pc lo st h :=
  fun ls H locs a b d => lv_sipush hx hb hd hv (k ls H locs a b d)
theorem z_s_lconst (hx : p.tables.exec = Jvm.exec) (hb : c.code = cc) {n : Fin 2} {v : Int64} (hd : decode cc pc = .ok (.lconst n, 1)) (hv : Int64.ofNat (n : Nat) = v) (k : z_Go p l e R s m args below meth c Q G nL (pc + 1) lo (.long v :: st) h) : z_Go p l e R s m args below meth c Q G nL pc lo st h :=
  fun ls H locs a b d => lv_lconst hx hb hd hv (k ls H locs a b d)
theorem z_s_ldc (hx : p.tables.exec = Jvm.exec) (hb : c.code = cc) {own : String} {i : Nat} {v : Int32} (hown : s.vm.findClass own = some m.cls) (hw : (Jvm.Cond.constant own i v).before args s = true) (hd : decode cc pc = .ok (.ldc i, 2)) (k : z_Go p l e R s m args below meth c Q G nL (pc + 2) lo (.int v :: st) h) : z_Go p l e R s m args below meth c Q G nL pc lo st h :=
  fun ls H locs a b d => lv_ldc hx hb hown hw hd (k ls H locs a b d)
theorem z_s_ldcw (hx : p.tables.exec = Jvm.exec) (hb : c.code = cc) {own : String} {i : Nat} {v : Int32} (hown : s.vm.findClass own = some m.cls) (hw : (Jvm.Cond.constant own i v).before args s = true) (hd : decode cc pc = .ok (.ldc_w i, 3)) (k : z_Go p l e R s m args below meth c Q G nL (pc + 3) lo (.int v :: st) h) : z_Go p l e R s m args below meth c Q G nL pc lo st h :=
  fun ls H locs a b d => lv_ldcw hx hb hown hw hd (k ls H locs a b d)
theorem z_s_ldc2 (hx : p.tables.exec = Jvm.exec) (hb : c.code = cc) {own : String} {i : Nat} {v : Int64} (hown : s.vm.findClass own = some m.cls) (hw : (Jvm.Cond.constantLong own i v).before args s = true) (hd : decode cc pc = .ok (.ldc2_w i, 3)) (k : z_Go p l e R s m args below meth c Q G nL (pc + 3) lo (.long v :: st) h) : z_Go p l e R s m args below meth c Q G nL pc lo st h :=
  fun ls H locs a b d => lv_ldc2 hx hb hown hw hd (k ls H locs a b d)
theorem z_s_ldcS (hx : p.tables.exec = Jvm.exec) (hb : c.code = cc) {own : String} {j : Nat} (ho : own = "TestChoice$Reader") (hj : j < 6) (hown : s.vm.findClass own = some m.cls) (hK : z_Kn G s) (hd : decode cc pc = .ok (.ldc (100 + 2 * j), 2)) (k : z_Go p l e R s m args below meth c Q G nL (pc + 2) lo (.ref (1000 + j) :: st) h) : z_Go p l e R s m args below meth c Q G nL pc lo st h := by
  intro ls H locs a b d
  subst ho
  refine va_ldcS hx hb hown (hK.2.2 j hj) hd ?_
  have h2 := k ls H locs a b d
  have e1 : z_up G (.ref (1000 + j)) = .ref (G.2.1 (1000 + j)) := by
    rw [z_up_ref (by omega)]
    unfold z_ad
    have : Nat.blt (1000 + j) 141 = false := by
      cases hb : Nat.blt (1000 + j) 141 with
      | false => rfl
      | true => have := Nat.le_of_ble_eq_true hb; omega
    rw [this]; rfl
  rw [List.map_cons, e1] at h2
  exact h2
theorem z_s_iload (hx : p.tables.exec = Jvm.exec) (hb : c.code = cc) {i : Nat} {x : Int32} (hg : z_get lo i = some (.int x)) (hd : decode cc pc = .ok (.iload i, 2)) (k : z_Go p l e R s m args below meth c Q G nL (pc + 2) lo (.int x :: st) h) : z_Go p l e R s m args below meth c Q G nL pc lo st h := by
  intro ls H locs a b d
  obtain ⟨q, hq⟩ := z_ul_get (G := G) hg
  exact lv_iload hx hb hd (lv_at a q hq) (k ls H locs a b d)
theorem z_s_iload_n (hx : p.tables.exec = Jvm.exec) (hb : c.code = cc) {i : Fin 4} {x : Int32} (hg : z_get lo (i : Nat) = some (.int x)) (hd : decode cc pc = .ok (.iload_n i, 1)) (k : z_Go p l e R s m args below meth c Q G nL (pc + 1) lo (.int x :: st) h) : z_Go p l e R s m args below meth c Q G nL pc lo st h := by
  intro ls H locs a b d
  obtain ⟨q, hq⟩ := z_ul_get (G := G) hg
  exact lv_iload_n hx hb hd rfl (lv_at a q hq) (k ls H locs a b d)
theorem z_s_lload (hx : p.tables.exec = Jvm.exec) (hb : c.code = cc) {i : Nat} {x : Int64} (hg : z_get lo i = some (.long x)) (hd : decode cc pc = .ok (.lload i, 2)) (k : z_Go p l e R s m args below meth c Q G nL (pc + 2) lo (.long x :: st) h) : z_Go p l e R s m args below meth c Q G nL pc lo st h := by
  intro ls H locs a b d
  obtain ⟨q, hq⟩ := z_ul_get (G := G) hg
  exact lv_lload hx hb hd (lv_at a q hq) (k ls H locs a b d)
theorem z_s_lload_n (hx : p.tables.exec = Jvm.exec) (hb : c.code = cc) {i : Fin 4} {x : Int64} (hg : z_get lo (i : Nat) = some (.long x)) (hd : decode cc pc = .ok (.lload_n i, 1)) (k : z_Go p l e R s m args below meth c Q G nL (pc + 1) lo (.long x :: st) h) : z_Go p l e R s m args below meth c Q G nL pc lo st h := by
  intro ls H locs a b d
  obtain ⟨q, hq⟩ := z_ul_get (G := G) hg
  exact lv_lload_n hx hb hd rfl (lv_at a q hq) (k ls H locs a b d)
theorem z_s_aload (hx : p.tables.exec = Jvm.exec) (hb : c.code = cc) {i o : Nat} (ho : o ≠ 999) (hg : z_get lo i = some (.ref o)) (hd : decode cc pc = .ok (.aload i, 2)) (k : z_Go p l e R s m args below meth c Q G nL (pc + 2) lo (.ref o :: st) h) : z_Go p l e R s m args below meth c Q G nL pc lo st h := by
  intro ls H locs a b d
  obtain ⟨q, hq⟩ := z_ul_get (G := G) hg
  have h2 := k ls H locs a b d
  rw [List.map_cons] at h2
  rw [z_up_ref ho] at h2 hq
  exact lv_aload hx hb hd (lv_at a q hq) h2
theorem z_s_aload_n (hx : p.tables.exec = Jvm.exec) (hb : c.code = cc) {i : Fin 4} {o : Nat} (ho : o ≠ 999) (hg : z_get lo (i : Nat) = some (.ref o)) (hd : decode cc pc = .ok (.aload_n i, 1)) (k : z_Go p l e R s m args below meth c Q G nL (pc + 1) lo (.ref o :: st) h) : z_Go p l e R s m args below meth c Q G nL pc lo st h := by
  intro ls H locs a b d
  obtain ⟨q, hq⟩ := z_ul_get (G := G) hg
  have h2 := k ls H locs a b d
  rw [List.map_cons] at h2
  rw [z_up_ref ho] at h2 hq
  exact lv_aload_n hx hb hd rfl (lv_at a q hq) h2
theorem z_s_istore (hx : p.tables.exec = Jvm.exec) (hb : c.code = cc) {i : Nat} {x : Int32} (hi : i < nL) (hd : decode cc pc = .ok (.istore i, 2)) (k : z_Go p l e R s m args below meth c Q G nL (pc + 2) (z_put1 lo i (.int x)) st h) : z_Go p l e R s m args below meth c Q G nL pc lo (.int x :: st) h :=
  fun ls H locs a b d => lv_istore hx hb hd a hi (z_ul_put1 G lo i (.int x)) fun ls' a' => k ls' H locs a' b d
theorem z_s_istore_n (hx : p.tables.exec = Jvm.exec) (hb : c.code = cc) {i : Fin 4} {x : Int32} (hi : (i : Nat) < nL) (hd : decode cc pc = .ok (.istore_n i, 1)) (k : z_Go p l e R s m args below meth c Q G nL (pc + 1) (z_put1 lo (i : Nat) (.int x)) st h) : z_Go p l e R s m args below meth c Q G nL pc lo (.int x :: st) h :=
  fun ls H locs a b d => lv_istore_n hx hb hd rfl a hi (z_ul_put1 G lo i (.int x)) fun ls' a' => k ls' H locs a' b d
theorem z_s_lstore (hx : p.tables.exec = Jvm.exec) (hb : c.code = cc) {i : Nat} {x : Int64} (hi : i + 1 < nL) (hd : decode cc pc = .ok (.lstore i, 2)) (k : z_Go p l e R s m args below meth c Q G nL (pc + 2) (z_put2 lo i (.long x)) st h) : z_Go p l e R s m args below meth c Q G nL pc lo (.long x :: st) h :=
  fun ls H locs a b d => lv_lstore hx hb hd a hi (z_ul_put2 G lo i (.long x)) fun ls' a' => k ls' H locs a' b d
theorem z_s_lstore_n (hx : p.tables.exec = Jvm.exec) (hb : c.code = cc) {i : Fin 4} {x : Int64} (hi : (i : Nat) + 1 < nL) (hd : decode cc pc = .ok (.lstore_n i, 1)) (k : z_Go p l e R s m args below meth c Q G nL (pc + 1) (z_put2 lo (i : Nat) (.long x)) st h) : z_Go p l e R s m args below meth c Q G nL pc lo (.long x :: st) h :=
  fun ls H locs a b d => lv_lstore_n hx hb hd rfl a hi (z_ul_put2 G lo i (.long x)) fun ls' a' => k ls' H locs a' b d
theorem z_s_astore (hx : p.tables.exec = Jvm.exec) (hb : c.code = cc) {i o : Nat} (ho : o ≠ 999) (hi : i < nL) (hd : decode cc pc = .ok (.astore i, 2)) (k : z_Go p l e R s m args below meth c Q G nL (pc + 2) (z_put1 lo i (.ref o)) st h) : z_Go p l e R s m args below meth c Q G nL pc lo (.ref o :: st) h := by
  intro ls H locs a b d
  have e := z_ul_put1 G lo i (.ref o)
  rw [List.map_cons]
  rw [z_up_ref ho] at e ⊢
  exact lv_astore hx hb hd a hi e fun ls' a' => k ls' H locs a' b d
theorem z_s_astore_n (hx : p.tables.exec = Jvm.exec) (hb : c.code = cc) {i : Fin 4} {o : Nat} (ho : o ≠ 999) (hi : (i : Nat) < nL) (hd : decode cc pc = .ok (.astore_n i, 1)) (k : z_Go p l e R s m args below meth c Q G nL (pc + 1) (z_put1 lo (i : Nat) (.ref o)) st h) : z_Go p l e R s m args below meth c Q G nL pc lo (.ref o :: st) h := by
  intro ls H locs a b d
  have e := z_ul_put1 G lo i (.ref o)
  rw [List.map_cons]
  rw [z_up_ref ho] at e ⊢
  exact lv_astore_n hx hb hd rfl a hi e fun ls' a' => k ls' H locs a' b d
theorem z_s_iinc (hx : p.tables.exec = Jvm.exec) (hb : c.code = cc) {i : Nat} {n : Int} {x v : Int32} (hg : z_get lo i = some (.int x)) (hv : Int32.ofInt n = v) (hi : i < nL) (hd : decode cc pc = .ok (.iinc i n, 3)) (k : z_Go p l e R s m args below meth c Q G nL (pc + 3) (z_put1 lo i (.int (x + v))) st h) : z_Go p l e R s m args below meth c Q G nL pc lo st h := by
  intro ls H locs a b d
  obtain ⟨q, hq⟩ := z_ul_get (G := G) hg
  exact lv_iinc hx hb hd a hq (by rw [hv]) hi (z_ul_put1 G lo i (.int (x + v))) fun ls' a' => k ls' H locs a' b d
theorem z_s_pop1 (hx : p.tables.exec = Jvm.exec) (hb : c.code = cc) {v : Value} (hv : v.category = 1) (hd : decode cc pc = .ok (.pop, 1)) (k : z_Go p l e R s m args below meth c Q G nL (pc + 1) lo st h) : z_Go p l e R s m args below meth c Q G nL pc lo (v :: st) h :=
  fun ls H locs a b d => lv_pop hx hb hd (by rw [z_up_cat]; exact hv) (k ls H locs a b d)
theorem z_s_dup (hx : p.tables.exec = Jvm.exec) (hb : c.code = cc) {v : Value} (hv : v.category = 1) (hd : decode cc pc = .ok (.dup, 1)) (k : z_Go p l e R s m args below meth c Q G nL (pc + 1) lo (v :: v :: st) h) : z_Go p l e R s m args below meth c Q G nL pc lo (v :: st) h :=
  fun ls H locs a b d => lv_dup hx hb hd (by rw [z_up_cat]; exact hv) (k ls H locs a b d)
theorem z_s_dup2 (hx : p.tables.exec = Jvm.exec) (hb : c.code = cc) {v w : Value} (hv : v.category = 1) (hw : w.category = 1) (hd : decode cc pc = .ok (.dup2, 1)) (k : z_Go p l e R s m args below meth c Q G nL (pc + 1) lo (v :: w :: v :: w :: st) h) : z_Go p l e R s m args below meth c Q G nL pc lo (v :: w :: st) h :=
  fun ls H locs a b d => lv_dup2_11 hx hb hd (by rw [z_up_cat]; exact hv) (by rw [z_up_cat]; exact hw) (k ls H locs a b d)
theorem z_s_iadd (hx : p.tables.exec = Jvm.exec) (hb : c.code = cc) {x y : Int32} (hd : decode cc pc = .ok (.iadd, 1)) (k : z_Go p l e R s m args below meth c Q G nL (pc + 1) lo (.int (x + y) :: st) h) : z_Go p l e R s m args below meth c Q G nL pc lo (.int y :: .int x :: st) h :=
  fun ls H locs a b d => lv_iadd hx hb hd (k ls H locs a b d)
theorem z_s_isub (hx : p.tables.exec = Jvm.exec) (hb : c.code = cc) {x y : Int32} (hd : decode cc pc = .ok (.isub, 1)) (k : z_Go p l e R s m args below meth c Q G nL (pc + 1) lo (.int (x - y) :: st) h) : z_Go p l e R s m args below meth c Q G nL pc lo (.int y :: .int x :: st) h :=
  fun ls H locs a b d => lv_isub hx hb hd (k ls H locs a b d)
theorem z_s_imul (hx : p.tables.exec = Jvm.exec) (hb : c.code = cc) {x y : Int32} (hd : decode cc pc = .ok (.imul, 1)) (k : z_Go p l e R s m args below meth c Q G nL (pc + 1) lo (.int (x * y) :: st) h) : z_Go p l e R s m args below meth c Q G nL pc lo (.int y :: .int x :: st) h :=
  fun ls H locs a b d => lv_imul hx hb hd (k ls H locs a b d)
theorem z_s_iand (hx : p.tables.exec = Jvm.exec) (hb : c.code = cc) {x y : Int32} (hd : decode cc pc = .ok (.iand, 1)) (k : z_Go p l e R s m args below meth c Q G nL (pc + 1) lo (.int (x &&& y) :: st) h) : z_Go p l e R s m args below meth c Q G nL pc lo (.int y :: .int x :: st) h :=
  fun ls H locs a b d => lv_iand hx hb hd (k ls H locs a b d)
theorem z_s_idiv (hx : p.tables.exec = Jvm.exec) (hb : c.code = cc) {x y : Int32} (hy : ¬ y = 0) (hd : decode cc pc = .ok (.idiv, 1)) (k : z_Go p l e R s m args below meth c Q G nL (pc + 1) lo (.int (x / y) :: st) h) : z_Go p l e R s m args below meth c Q G nL pc lo (.int y :: .int x :: st) h :=
  fun ls H locs a b d => lv_idiv hx hb hd hy (k ls H locs a b d)
theorem z_s_irem (hx : p.tables.exec = Jvm.exec) (hb : c.code = cc) {x y : Int32} (hy : ¬ y = 0) (hd : decode cc pc = .ok (.irem, 1)) (k : z_Go p l e R s m args below meth c Q G nL (pc + 1) lo (.int (x - x / y * y) :: st) h) : z_Go p l e R s m args below meth c Q G nL pc lo (.int y :: .int x :: st) h :=
  fun ls H locs a b d => lv_irem hx hb hd hy (k ls H locs a b d)
theorem z_s_ishr (hx : p.tables.exec = Jvm.exec) (hb : c.code = cc) {x y : Int32} (hd : decode cc pc = .ok (.ishr, 1)) (k : z_Go p l e R s m args below meth c Q G nL (pc + 1) lo (.int (x >>> (y &&& 31)) :: st) h) : z_Go p l e R s m args below meth c Q G nL pc lo (.int y :: .int x :: st) h :=
  fun ls H locs a b d => lv_ishr hx hb hd (k ls H locs a b d)
theorem z_s_iushr (hx : p.tables.exec = Jvm.exec) (hb : c.code = cc) {x y : Int32} (hd : decode cc pc = .ok (.iushr, 1)) (k : z_Go p l e R s m args below meth c Q G nL (pc + 1) lo (.int ((x.toUInt32 >>> (y.toUInt32 &&& Int32.toUInt32 31)).toInt32) :: st) h) : z_Go p l e R s m args below meth c Q G nL pc lo (.int y :: .int x :: st) h :=
  fun ls H locs a b d => lv_iushr hx hb hd rfl (k ls H locs a b d)
theorem z_s_ladd (hx : p.tables.exec = Jvm.exec) (hb : c.code = cc) {x y : Int64} (hd : decode cc pc = .ok (.ladd, 1)) (k : z_Go p l e R s m args below meth c Q G nL (pc + 1) lo (.long (x + y) :: st) h) : z_Go p l e R s m args below meth c Q G nL pc lo (.long y :: .long x :: st) h :=
  fun ls H locs a b d => lv_ladd hx hb hd (k ls H locs a b d)
theorem z_s_land (hx : p.tables.exec = Jvm.exec) (hb : c.code = cc) {x y : Int64} (hd : decode cc pc = .ok (.land, 1)) (k : z_Go p l e R s m args below meth c Q G nL (pc + 1) lo (.long (x &&& y) :: st) h) : z_Go p l e R s m args below meth c Q G nL pc lo (.long y :: .long x :: st) h :=
  fun ls H locs a b d => lv_land hx hb hd (k ls H locs a b d)
theorem z_s_lor (hx : p.tables.exec = Jvm.exec) (hb : c.code = cc) {x y : Int64} (hd : decode cc pc = .ok (.lor, 1)) (k : z_Go p l e R s m args below meth c Q G nL (pc + 1) lo (.long (x ||| y) :: st) h) : z_Go p l e R s m args below meth c Q G nL pc lo (.long y :: .long x :: st) h :=
  fun ls H locs a b d => lv_lor hx hb hd (k ls H locs a b d)
theorem z_s_lxor (hx : p.tables.exec = Jvm.exec) (hb : c.code = cc) {x y : Int64} (hd : decode cc pc = .ok (.lxor, 1)) (k : z_Go p l e R s m args below meth c Q G nL (pc + 1) lo (.long (x ^^^ y) :: st) h) : z_Go p l e R s m args below meth c Q G nL pc lo (.long y :: .long x :: st) h :=
  fun ls H locs a b d => lv_lxor hx hb hd (k ls H locs a b d)
theorem z_s_lcmp (hx : p.tables.exec = Jvm.exec) (hb : c.code = cc) {x y : Int64} (hd : decode cc pc = .ok (.lcmp, 1)) (k : z_Go p l e R s m args below meth c Q G nL (pc + 1) lo (.int (lg_cmp x y) :: st) h) : z_Go p l e R s m args below meth c Q G nL pc lo (.long y :: .long x :: st) h :=
  fun ls H locs a b d => W.lcmp hx hb hd (k ls H locs a b d)
theorem z_s_lshl (hx : p.tables.exec = Jvm.exec) (hb : c.code = cc) {x : Int64} {y : Int32} (hd : decode cc pc = .ok (.lshl, 1)) (k : z_Go p l e R s m args below meth c Q G nL (pc + 1) lo (.long (x <<< (y.toInt64 &&& 63)) :: st) h) : z_Go p l e R s m args below meth c Q G nL pc lo (.int y :: .long x :: st) h :=
  fun ls H locs a b d => lv_lshl hx hb hd rfl (k ls H locs a b d)
theorem z_s_lushr (hx : p.tables.exec = Jvm.exec) (hb : c.code = cc) {x : Int64} {y : Int32} (hd : decode cc pc = .ok (.lushr, 1)) (k : z_Go p l e R s m args below meth c Q G nL (pc + 1) lo (.long ((x.toUInt64 >>> (y.toInt64.toUInt64 &&& Int64.toUInt64 63)).toInt64) :: st) h) : z_Go p l e R s m args below meth c Q G nL pc lo (.int y :: .long x :: st) h :=
  fun ls H locs a b d => lv_lushr hx hb hd rfl (k ls H locs a b d)
theorem z_s_i2l (hx : p.tables.exec = Jvm.exec) (hb : c.code = cc) {x : Int32} (hd : decode cc pc = .ok (.i2l, 1)) (k : z_Go p l e R s m args below meth c Q G nL (pc + 1) lo (.long x.toInt64 :: st) h) : z_Go p l e R s m args below meth c Q G nL pc lo (.int x :: st) h :=
  fun ls H locs a b d => lv_i2l hx hb hd rfl (k ls H locs a b d)
theorem z_s_l2i (hx : p.tables.exec = Jvm.exec) (hb : c.code = cc) {x : Int64} (hd : decode cc pc = .ok (.l2i, 1)) (k : z_Go p l e R s m args below meth c Q G nL (pc + 1) lo (.int x.toInt32 :: st) h) : z_Go p l e R s m args below meth c Q G nL pc lo (.long x :: st) h :=
  fun ls H locs a b d => lv_l2i hx hb hd rfl (k ls H locs a b d)
theorem z_s_i2b (hx : p.tables.exec = Jvm.exec) (hb : c.code = cc) {x : Int32} (hd : decode cc pc = .ok (.i2b, 1)) (k : z_Go p l e R s m args below meth c Q G nL (pc + 1) lo (.int x.toInt8.toInt32 :: st) h) : z_Go p l e R s m args below meth c Q G nL pc lo (.int x :: st) h :=
  fun ls H locs a b d => lv_i2b hx hb hd rfl (k ls H locs a b d)
theorem z_s_i2s (hx : p.tables.exec = Jvm.exec) (hb : c.code = cc) {x : Int32} (hd : decode cc pc = .ok (.i2s, 1)) (k : z_Go p l e R s m args below meth c Q G nL (pc + 1) lo (.int x.toInt16.toInt32 :: st) h) : z_Go p l e R s m args below meth c Q G nL pc lo (.int x :: st) h :=
  fun ls H locs a b d => lv_i2s hx hb hd rfl (k ls H locs a b d)
theorem z_s_goto (hx : p.tables.exec = Jvm.exec) (hb : c.code = cc) {off : Int} {t : Nat} (hd : decode cc pc = .ok (.goto off, 3)) (ht : (pc : Int) + off = (t : Int)) (k : z_Go p l e R s m args below meth c Q G nL t lo st h) : z_Go p l e R s m args below meth c Q G nL pc lo st h :=
  fun ls H locs a b d => lv_goto hx hb hd ht (k ls H locs a b d)
theorem z_Go_ite {P : Prop} [Decidable P] {t n : Nat} (k : ∀ s' : z_S, (if P then ((t, lo, st, h) : z_S) else (n, lo, st, h)) = s' → z_Go p l e R s m args below meth c Q G nL s'.1 s'.2.1 s'.2.2.1 s'.2.2.2) : (P → z_Go p l e R s m args below meth c Q G nL t lo st h) ∧ (¬ P → z_Go p l e R s m args below meth c Q G nL n lo st h) :=
  ⟨fun hp => by have := k _ rfl; rw [if_pos hp] at this; exact this, fun hp => by have := k _ rfl; rw [if_neg hp] at this; exact this⟩
end ZST
