/-! switches, branches, copies, ends, calls -/
def z_swt (d : Nat) (x : Int32) : List (Int32 × Nat) → Nat
  | [] => d
  | (k, t) :: r => if x = k then t else z_swt d x r
theorem z_sw_eq (d : Nat) (l : z_L) (st : List Value) (h : z_H) (x : Int32) (L : List (Int32 × Nat)) : z_sw (d, l, st, h) x (fun t => (t, l, st, h)) L = (z_swt d x L, l, st, h) := by
  induction L with
  | nil => rfl
  | cons q r ih =>
    obtain ⟨k, t⟩ := q
    unfold z_sw z_swt
    split
    · rfl
    · exact ih
theorem z_swt_in {d : Nat} {x : Int32} {v : Nat} {L : List (Int32 × Nat)} (h1 : ∀ q ∈ L, q.1 = x → q.2 = v) (h2 : ∃ q ∈ L, q.1 = x) : z_swt d x L = v := by
  induction L with
  | nil => obtain ⟨q, hq, -⟩ := h2; cases hq
  | cons q r ih =>
    obtain ⟨k, t⟩ := q
    unfold z_swt
    by_cases hk : x = k
    · rw [if_pos hk]; exact h1 _ List.mem_cons_self hk.symm
    · rw [if_neg hk]
      refine ih (fun q hq => h1 q (List.mem_cons_of_mem _ hq)) ?_
      obtain ⟨q, hq, e⟩ := h2
      rcases List.mem_cons.mp hq with rfl | hq
      · exact absurd e.symm hk
      · exact ⟨q, hq, e⟩
theorem z_swt_out {d : Nat} {x : Int32} {L : List (Int32 × Nat)} (h : ∀ q ∈ L, q.1 ≠ x) : z_swt d x L = d := by
  induction L with
  | nil => rfl
  | cons q r ih =>
    obtain ⟨k, t⟩ := q
    unfold z_swt
    rw [if_neg (fun e => h (k, t) List.mem_cons_self e.symm)]
    exact ih (fun q hq => h q (List.mem_cons_of_mem _ hq))
theorem z_ofInt {k : Int} (h1 : -2147483648 ≤ k) (h2 : k < 2147483648) : (Int32.ofInt k).toInt = k := Int32.toInt_ofInt_of_le (by simpa using h1) (by simpa using h2)
theorem z_ofInt_eq {k : Int} (h1 : -2147483648 ≤ k) (h2 : k < 2147483648) (x : Int32) : Int32.ofInt k = x ↔ k = x.toInt := by
  constructor
  · intro e; rw [← e, z_ofInt h1 h2]
  · intro e; apply Int32.toInt_inj.mp; rw [z_ofInt h1 h2, e]
def z_swTab (pc : Nat) (lo : Int) (offs : Array Int) : List (Int32 × Nat) := (List.range offs.size).map (fun (j : Nat) => (Int32.ofInt (lo + (j : Int)), ((pc : Int) + offs.getD j 0).toNat))
theorem z_cpI1 (h : z_H) (so sp d dp n o' k' : Nat) : (z_cpI h so sp d dp n).1 o' k' = if o' = d then va_cpy (h.1 so) (h.1 d) sp dp n k' else h.1 o' k' := by
  unfold z_cpI
  by_cases h1 : o' = d
  · simp [h1]
  · simp [h1, z_beqF h1]
theorem z_cpL1 (h : z_H) (so sp d dp n o' k' : Nat) : (z_cpL h so sp d dp n).2.1 o' k' = if o' = d then va_cpy (h.2.1 so) (h.2.1 d) sp dp n k' else h.2.1 o' k' := by
  unfold z_cpL
  by_cases h1 : o' = d
  · simp [h1]
  · simp [h1, z_beqF h1]
def z_swLk (pc : Nat) (ps : Array (Int × Int)) : List (Int32 × Nat) := ps.toList.map (fun q => (Int32.ofInt q.1, ((pc : Int) + q.2).toNat))
section ZSC
variable {p : Program} {l : Launch} {e : Env} {R : Room} {s : State} {m : MethodId} {args : Array Value} {below : List Frame} {meth : Method} {c : Code} {Q : State → Prop}
variable {G : z_G} {nL : Nat} {cc : ByteArray} {pc : Nat} {lo : z_L} {st : List Value} {h : z_H}
theorem z_s_table (hx : p.tables.exec = Jvm.exec) (hb : c.code = cc) {d low hi : Int} {offs : Array Int} {len a : Nat} {x : Int32} (hd : decode cc pc = .ok (.tableswitch d low hi offs, len)) (ha : (pc : Int) + d = (a : Int)) (h1 : -1000 ≤ low) (h2 : hi = low + offs.size - 1) (h3 : hi ≤ 1000) (h4 : ∀ o ∈ offs, 0 ≤ (pc : Int) + o)
    (k : z_Go p l e R s m args below meth c Q G nL (z_swt a x (z_swTab pc low offs)) lo st h) : z_Go p l e R s m args below meth c Q G nL pc lo (.int x :: st) h := by
  intro ls H locs u v w
  by_cases hin : low ≤ x.toInt ∧ x.toInt ≤ hi
  · have hj : (x.toInt - low).toNat < offs.size := by omega
    have hget : offs[(x.toInt - low).toNat]? = some offs[(x.toInt - low).toNat] := Array.getElem?_eq_getElem hj
    have hpos := h4 _ (Array.getElem_mem hj)
    refine lv_tableIn hx hb hd (by omega) (by omega) hget (tgt := ((pc : Int) + offs[(x.toInt - low).toNat]).toNat) (by omega) ?_
    have e1 : z_swt a x (z_swTab pc low offs) = ((pc : Int) + offs[(x.toInt - low).toNat]).toNat := by
      refine z_swt_in (fun q hq e => ?_) ⟨(Int32.ofInt (low + ((x.toInt - low).toNat : Nat)), _), List.mem_map.mpr ⟨(x.toInt - low).toNat, List.mem_range.mpr hj, rfl⟩, ?_⟩
      · obtain ⟨j, hj2, rfl⟩ := List.mem_map.mp hq
        have hj3 := List.mem_range.mp hj2
        have e2 := (z_ofInt_eq (by omega) (by omega) x).mp e
        have e3 : (x.toInt - low).toNat = j := by omega
        subst e3
        show ((pc : Int) + offs.getD _ 0).toNat = _
        rw [Array.getD_eq_getD_getElem?, hget]
        rfl
      · exact (z_ofInt_eq (by omega) (by omega) x).mpr (by omega)
    rw [← e1]
    exact k ls H locs u v w
  · refine lv_tableOut hx hb hd (by omega) ha ?_
    have e1 : z_swt a x (z_swTab pc low offs) = a := by
      refine z_swt_out (fun q hq e => ?_)
      obtain ⟨j, hj2, rfl⟩ := List.mem_map.mp hq
      have hj3 := List.mem_range.mp hj2
      have e2 := (z_ofInt_eq (by omega) (by omega) x).mp e
      omega
    rw [← e1]
    exact k ls H locs u v w
theorem z_lk {a : Nat} {x : Int32} {d : Int} : ∀ (L : List (Int × Int)), (pc : Int) + d = (a : Int) → (∀ q ∈ L, 0 ≤ (pc : Int) + q.2 ∧ -1000 ≤ q.1 ∧ q.1 ≤ 1000) → (pc : Int) + Op.lookupswitch.offset L d x.toInt = (z_swt a x (L.map (fun q => (Int32.ofInt q.1, ((pc : Int) + q.2).toNat))) : Nat) := by
  intro L ha
  induction L with
  | nil => intro _; exact ha
  | cons q r ih =>
    intro hq
    obtain ⟨k, o⟩ := q
    have h0 := hq (k, o) List.mem_cons_self
    rw [Op.lookupswitch.offset_cons]
    simp only [List.map_cons, z_swt]
    by_cases hk : k = x.toInt
    · rw [if_pos hk, if_pos ((z_ofInt_eq (by omega) (by omega) x).mpr hk).symm]
      have := h0.1
      simp only at this
      omega
    · rw [if_neg hk, if_neg (fun e => hk ((z_ofInt_eq (by omega) (by omega) x).mp e.symm))]
      exact ih (fun q hq2 => hq q (List.mem_cons_of_mem _ hq2))
theorem z_s_lookup (hx : p.tables.exec = Jvm.exec) (hb : c.code = cc) {d : Int} {ps : Array (Int × Int)} {len a : Nat} {x : Int32} (hd : decode cc pc = .ok (.lookupswitch d ps, len)) (ha : (pc : Int) + d = (a : Int)) (hp : (ps.toList.zip (ps.toList.drop 1)).all (fun (a, next) => a.1 < next.1) = true) (hq : ∀ q ∈ ps.toList, 0 ≤ (pc : Int) + q.2 ∧ -1000 ≤ q.1 ∧ q.1 ≤ 1000)
    (k : z_Go p l e R s m args below meth c Q G nL (z_swt a x (z_swLk pc ps)) lo st h) : z_Go p l e R s m args below meth c Q G nL pc lo (.int x :: st) h :=
  fun ls H locs u v w => lv_lookup hx hb hd hp rfl (z_lk ps.toList ha hq) (k ls H locs u v w)
/-- a row of numbers is copied -/
theorem z_Rep.cpI {h : z_H} {H H1 : Heap} {so sp d dp n : Nat} (hR : z_Rep G h H) (hd : d < 141) (hk : z_K d = 20) (e1 : H1[G.1 + d]? = some (arrV (G.2.2.2.2 20) (z_N d) (fun j => .int (va_cpy (h.1 so) (h.1 d) sp dp n j)))) (oq : ∀ q, q ≠ G.1 + d → H1[q]? = H[q]?) : z_Rep G (z_cpI h so sp d dp n) H1 := by
  intro o' ho'
  by_cases he : o' = d
  · subst he
    refine ⟨fun h20 => absurd h20 (by omega), fun _ => ?_⟩
    rw [e1, hk]
    have : z_av G (z_cpI h so sp o' dp n) o' = fun j => Value.int (va_cpy (h.1 so) (h.1 o') sp dp n j) := by
      funext j
      rw [z_av_int (Or.inl hk), z_cpI1, if_pos rfl]
    rw [this]
  · refine (hR o' ho').other (oq _ (by omega)) (fun j => ?_) (fun _ => rfl) (Or.inr rfl)
    rw [z_cpI1, if_neg he]
theorem z_Rep.cpL {h : z_H} {H H1 : Heap} {so sp d dp n : Nat} (hR : z_Rep G h H) (hd : d < 141) (hk : z_K d = 21) (e1 : H1[G.1 + d]? = some (arrV (G.2.2.2.2 21) (z_N d) (fun j => .long (va_cpy (h.2.1 so) (h.2.1 d) sp dp n j)))) (oq : ∀ q, q ≠ G.1 + d → H1[q]? = H[q]?) : z_Rep G (z_cpL h so sp d dp n) H1 := by
  intro o' ho'
  by_cases he : o' = d
  · subst he
    refine ⟨fun h20 => absurd h20 (by omega), fun _ => ?_⟩
    rw [e1, hk]
    have : z_av G (z_cpL h so sp o' dp n) o' = fun j => Value.long (va_cpy (h.2.1 so) (h.2.1 o') sp dp n j) := by
      funext j
      unfold z_av
      rw [hk, z_cpL1, if_pos rfl]
      rfl
    rw [this]
  · refine (hR o' ho').other (oq _ (by omega)) (fun _ => rfl) (fun j => ?_) (Or.inr rfl)
    rw [z_cpL1, if_neg he]
theorem z_cat_up (G : z_G) (st : List Value) : ((st.map (z_up G)).map fun v => v.category).sum = z_cat st := by
  rw [List.map_map]
  have : (fun v : Value => v.category) ∘ z_up G = fun v => v.category := funext fun v => z_up_cat G v
  rw [this]
  rfl
theorem z_copy {α : Type} (mk : α → Value) (hx : p.tables.exec = Jvm.exec) (hb : c.code = cc) {ls : Array Slot} (hml : c.maxLocals = ls.size) {own : String} {i : Nat} (hown : s.vm.findClass own = some m.cls) (hw1 : (Cond.methodLink own i arraycopyName).before args s = true) (hw2 : (Cond.native arraycopyName).before args s = true) (hw3 : (Cond.static arraycopyName).before args s = true) (hw4 : (Cond.initialized "java/lang/System").before args s = true)
    (hr1 : 1 ≤ R.frames) (hr2 : 60 ≤ R.locals) {H : Heap} {locs : List Loc} {a0 a1 : Nat} {cA : ClassId} {ty : FieldType} (hA : ArrOfT s cA ty) (hty : refKind ty = false) (hfit : ∀ v : α, fits ty (mk v) = true) (htk : ∀ (U : State) (v : α) (comp : ClassId), U.takes comp (mk v)) {n0 n1 : Nat} {f g : Nat → α} (hc0 : H[a0]? = some (arrV cA n0 (fun j => mk (f j)))) (hc1 : H[a1]? = some (arrV cA n1 (fun j => mk (g j))))
    {sp dp n : Int32} (h1 : ¬ sp < 0) (h2 : ¬ dp < 0) (h3 : ¬ n < 0) (h4 : sp.toNatClampNeg + n.toNatClampNeg ≤ n0) (h5 : dp.toNatClampNeg + n.toNatClampNeg ≤ n1) {st : List Value} (hcat : (st.map fun v => v.category).sum ≤ 8)
    (hd : decode cc pc = .ok (.invokestatic i, 3)) (k : ∀ (H1 : Heap) (L : List Loc), H1[a1]? = some (arrV cA n1 (fun j => mk (va_cpy f g sp.toNatClampNeg dp.toNatClampNeg n.toNatClampNeg j))) → H1.size = H.size → (∀ q, q ≠ a1 → H1[q]? = H[q]?) → (∀ q ∈ L, q.base = a1) → W p l e R s m args below meth c H1 (locs ++ L) 0 0 Q (F0 m (pc + 3) ls st)) : W p l e R s m args below meth c H locs 0 0 Q (F0 m pc ls (.int n :: .int dp :: .ref a1 :: .int sp :: .ref a0 :: st)) := by
  have nn : ∀ z : Int32, ¬ z < 0 → z.toInt = (z.toNatClampNeg : Int) := by
    intro z hz
    have hz0 : (0 : Int) ≤ z.toInt := by
      have := Int32.not_lt.mp hz
      simpa using Int32.le_iff_toInt_le.mp this
    show z.toInt = ((z.toInt.toNat : Nat) : Int)
    omega
  intro T hT X
  obtain ⟨-, k0, hk0, cm0, hkk0⟩ := hA n0 (fun j => mk (f j))
  obtain ⟨-, k1, hk1, cm1, hkk1⟩ := hA n1 (fun j => mk (g j))
  have hw : nativeFrameWords "java/lang/System" "arraycopy" 5 = 7 := by decide +kernel
  obtain ⟨vm', X', step⟩ := X.arraycopy hx hown hw1 hw2 hw3 hw4 (src := a0) (dst := a1) (cs := arrV cA n0 (fun j => mk (f j))) (cd := arrV cA n1 (fun j => mk (g j))) (srcPos := sp) (destPos := dp) (n := n) (by rw [hT]; exact hc0) (by rw [hT]; exact hc1)
    (fun _ h => by cases h) (fun _ h => by cases h) (fun h => by cases h) (fun h => by cases h) hk0 hk1 hkk0 hkk1 (by simp [hty]) h1 h2 h3
    (by rw [nn sp h1, nn n h3, arrV_size]; omega)
    (by rw [nn dp h2, nn n h3, arrV_size]; omega)
    (fun vm₁ _ i hi => by
      have e : (arrV cA n0 (fun j => mk (f j))).slots.getD (sp.toNatClampNeg + i) .null = mk (f (sp.toNatClampNeg + i)) := by
        rw [Array.getD_eq_getD_getElem?, arrV_read _ _ (by omega)]
        rfl
      rw [e]
      exact ⟨hfit _, htk _ _ _⟩)
    (g := F0 m pc ls (.int n :: .int dp :: .ref a1 :: .int sp :: .ref a0 :: st)) rfl (by rw [hml]) (rest := st) rfl (by rw [hb]; exact hd) hr1 (by show 2 * 0 + _ + _ ≤ _; omega)
  have e1 : copied (arrV cA n0 (fun j => mk (f j))) (arrV cA n1 (fun j => mk (g j))) sp dp n = arrV cA n1 (fun j => mk (va_cpy f g sp.toNatClampNeg dp.toNatClampNeg n.toNatClampNeg j)) := va_copied mk cA cA f g h4
  rw [e1] at X' step
  have hl : a1 < H.size := (Array.getElem?_eq_some_iff.mp hc1).1
  have hheap : ((T.setVm vm').setCell a1 (arrV cA n1 (fun j => mk (va_cpy f g sp.toNatClampNeg dp.toNatClampNeg n.toNatClampNeg j)))).heap = H.setIfInBounds a1 (arrV cA n1 (fun j => mk (va_cpy f g sp.toNatClampNeg dp.toNatClampNeg n.toNatClampNeg j))) := by rw [← hT]; rfl
  obtain ⟨t, b1, b2⟩ := k _ _ (show (H.setIfInBounds a1 _)[a1]? = some _ by simp [Array.getElem?_setIfInBounds, hl]) (by simp) (fun q hq => by simp [Array.getElem?_setIfInBounds, Ne.symm hq]) (fun q hq => by
      obtain ⟨z, -, hz⟩ := List.mem_map.mp hq
      rw [← hz]) _ hheap X'
  exact ⟨t, step t b1, b2⟩
theorem z_s_cpI (hx : p.tables.exec = Jvm.exec) (hb : c.code = cc) (hml : c.maxLocals = nL) {own : String} {i : Nat} (hown : s.vm.findClass own = some m.cls) (hw1 : (Cond.methodLink own i arraycopyName).before args s = true) (hw2 : (Cond.native arraycopyName).before args s = true) (hw3 : (Cond.static arraycopyName).before args s = true) (hw4 : (Cond.initialized "java/lang/System").before args s = true)
    (hr1 : 1 ≤ R.frames) (hr2 : 60 ≤ R.locals) (hK : z_Kn G s) {so d : Nat} {sp dp n : Int32} (ks : z_K so = 20) (kd : z_K d = 20) (h1 : ¬ sp < 0) (h2 : ¬ dp < 0) (h3 : ¬ n < 0) (h4 : sp.toNatClampNeg + n.toNatClampNeg ≤ z_N so) (h5 : dp.toNatClampNeg + n.toNatClampNeg ≤ z_N d) (hcat : z_cat st ≤ 8)
    (hd : decode cc pc = .ok (.invokestatic i, 3)) (k : z_Go p l e R s m args below meth c Q G nL (pc + 3) lo st (z_cpI h so sp.toNatClampNeg d dp.toNatClampNeg n.toNatClampNeg)) : z_Go p l e R s m args below meth c Q G nL pc lo (.int n :: .int dp :: .ref d :: .int sp :: .ref so :: st) h := by
  intro ls H locs x y z
  obtain ⟨ho, -, hc, -⟩ := z_row_at (h := h) hK y (o := so) (by omega)
  obtain ⟨ho2, -, hc2, -⟩ := z_row_at (h := h) hK y (o := d) (by omega)
  rw [ks] at hc
  rw [kd] at hc2
  have f1 : z_av G h so = fun j => Value.int (h.1 so j) := funext fun j => z_av_int (Or.inl ks)
  have f2 : z_av G h d = fun j => Value.int (h.1 d j) := funext fun j => z_av_int (Or.inl kd)
  rw [f1] at hc
  rw [f2] at hc2
  simp only [List.map_cons]
  rw [z_up_obj ho, z_up_obj ho2]
  refine z_copy (fun v => .int v) hx hb (hml.trans x.1.symm) hown hw1 hw2 hw3 hw4 hr1 hr2 (hK.1.2 0 _ rfl).1 rfl (fun _ => rfl) (fun _ _ _ => trivial) hc hc2 h1 h2 h3 h4 h5 (by rw [z_cat_up]; exact hcat) hd (fun H1 L e1 e2 e3 e4 => ?_)
  refine k ls H1 _ x (y.cpI ho2 kd e1 e3) ⟨e2.trans z.1, fun q hq => (e3 q (by omega)).trans (z.2.1 q hq), fun q hq => ?_⟩
  rcases List.mem_append.mp hq with hq | hq
  · exact z.2.2 q hq
  · rw [e4 q hq]; exact Nat.le_add_right _ _
theorem z_s_cpL (hx : p.tables.exec = Jvm.exec) (hb : c.code = cc) (hml : c.maxLocals = nL) {own : String} {i : Nat} (hown : s.vm.findClass own = some m.cls) (hw1 : (Cond.methodLink own i arraycopyName).before args s = true) (hw2 : (Cond.native arraycopyName).before args s = true) (hw3 : (Cond.static arraycopyName).before args s = true) (hw4 : (Cond.initialized "java/lang/System").before args s = true)
    (hr1 : 1 ≤ R.frames) (hr2 : 60 ≤ R.locals) (hK : z_Kn G s) {so d : Nat} {sp dp n : Int32} (ks : z_K so = 21) (kd : z_K d = 21) (h1 : ¬ sp < 0) (h2 : ¬ dp < 0) (h3 : ¬ n < 0) (h4 : sp.toNatClampNeg + n.toNatClampNeg ≤ z_N so) (h5 : dp.toNatClampNeg + n.toNatClampNeg ≤ z_N d) (hcat : z_cat st ≤ 8)
    (hd : decode cc pc = .ok (.invokestatic i, 3)) (k : z_Go p l e R s m args below meth c Q G nL (pc + 3) lo st (z_cpL h so sp.toNatClampNeg d dp.toNatClampNeg n.toNatClampNeg)) : z_Go p l e R s m args below meth c Q G nL pc lo (.int n :: .int dp :: .ref d :: .int sp :: .ref so :: st) h := by
  intro ls H locs x y z
  obtain ⟨ho, -, hc, -⟩ := z_row_at (h := h) hK y (o := so) (by omega)
  obtain ⟨ho2, -, hc2, -⟩ := z_row_at (h := h) hK y (o := d) (by omega)
  have f1 : z_av G h so = fun j => Value.long (h.2.1 so j) := funext fun j => by unfold z_av; rw [ks]; rfl
  have f2 : z_av G h d = fun j => Value.long (h.2.1 d j) := funext fun j => by unfold z_av; rw [kd]; rfl
  rw [ks, f1] at hc
  rw [kd, f2] at hc2
  simp only [List.map_cons]
  rw [z_up_obj ho, z_up_obj ho2]
  refine z_copy (fun v => .long v) hx hb (hml.trans x.1.symm) hown hw1 hw2 hw3 hw4 hr1 hr2 (hK.1.2 1 _ rfl).1 rfl (fun _ => rfl) (fun _ _ _ => trivial) hc hc2 h1 h2 h3 h4 h5 (by rw [z_cat_up]; exact hcat) hd (fun H1 L e1 e2 e3 e4 => ?_)
  refine k ls H1 _ x (y.cpL ho2 kd e1 e3) ⟨e2.trans z.1, fun q hq => (e3 q (by omega)).trans (z.2.1 q hq), fun q hq => ?_⟩
  rcases List.mem_append.mp hq with hq | hq
  · exact z.2.2 q hq
  · rw [e4 q hq]; exact Nat.le_add_right _ _
theorem z_s_mmax (hx : p.tables.exec = Jvm.exec) (hb : c.code = cc) (hml : c.maxLocals = nL) {own : String} {i : Nat} (hown : s.vm.findClass own = some m.cls) (hw1 : (Cond.methodLink own i Lib.Math.max.name).before args s = true) (hw2 : (Cond.static Lib.Math.max.name).before args s = true) (hw3 : (Cond.initialized "java/lang/Math").before args s = true) (hw4 : (Cond.code Lib.Math.max.name Lib.Math.max.code 2 (some .int)).before args s = true)
    (hr1 : 1 ≤ R.frames) (hr2 : 60 ≤ R.locals) {x y : Int32} (hcat : z_cat st ≤ 8) (hd : decode cc pc = .ok (.invokestatic i, 3)) (k : z_Go p l e R s m args below meth c Q G nL (pc + 3) lo (.int (if x < y then y else x) :: st) h) : z_Go p l e R s m args below meth c Q G nL pc lo (.int y :: .int x :: st) h := by
  intro ls H locs u v w
  refine va_mmax hx hb (hml.trans u.1.symm) hown hw1 hw2 hw3 hw4 hr1 ?_ (Nat.zero_le _) (Nat.zero_le _) hd (k ls H locs u v w)
  rw [z_cat_up]
  omega
theorem z_s_mmin (hx : p.tables.exec = Jvm.exec) (hb : c.code = cc) (hml : c.maxLocals = nL) {own : String} {i : Nat} (hown : s.vm.findClass own = some m.cls) (hw1 : (Cond.methodLink own i Lib.Math.min.name).before args s = true) (hw2 : (Cond.static Lib.Math.min.name).before args s = true) (hw3 : (Cond.initialized "java/lang/Math").before args s = true) (hw4 : (Cond.code Lib.Math.min.name Lib.Math.min.code 2 (some .int)).before args s = true)
    (hr1 : 1 ≤ R.frames) (hr2 : 60 ≤ R.locals) {x y : Int32} (hcat : z_cat st ≤ 8) (hd : decode cc pc = .ok (.invokestatic i, 3)) (k : z_Go p l e R s m args below meth c Q G nL (pc + 3) lo (.int (if y < x then y else x) :: st) h) : z_Go p l e R s m args below meth c Q G nL pc lo (.int y :: .int x :: st) h := by
  intro ls H locs u v w
  refine va_mmin hx hb (hml.trans u.1.symm) hown hw1 hw2 hw3 hw4 hr1 ?_ (Nat.zero_le _) (Nat.zero_le _) hd (k ls H locs u v w)
  rw [z_cat_up]
  omega
end ZSC
