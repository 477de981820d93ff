/-! the instructions that look at the heap, that branch, that end -/
def z_q (a : Nat) : vw_C := z_cl.getD (a - 1) ("", z_F0, 0)
def z_qT (a : Nat) : Nat → FieldType := z_clT.getD (a - 1) z_T0
theorem z_q_ok : ∀ a, 1 ≤ a → a ≤ 12 → z_cl[a - 1]? = some (z_q a) ∧ (∀ w ∈ u_ws (z_q a).1 (z_q a).2.1 (z_q a).2.2, w ∈ z_good) ∧ (∀ x, x < (z_q a).2.2 → ∀ y, y < (z_q a).2.2 → x ≠ y → ((z_q a).2.1 x).2.1 ≠ ((z_q a).2.1 y).2.1) ∧ ∀ k, k < (z_q a).2.2 → parseFieldDescriptor ((z_q a).2.1 k).2.2.1 = some (z_qT a k) := by
  have g : ∀ (C : String) (F : u_T) (N : Nat), (∀ w ∈ u_ws C F N, w ∈ lw_tbl) → ∀ w ∈ u_ws C F N, w ∈ z_good := by
    intro C F N hh w hw
    refine List.mem_filter.mpr ⟨hh w hw, ?_⟩
    obtain ⟨k, -, rfl⟩ := List.mem_map.mp hw
    unfold u_lay
    split <;> rfl
  intro a h1 h2
  match a, h1, h2 with
  | 1, _, _ => exact ⟨rfl, g _ _ _ z_il0, z_n0, z_t0⟩
  | 2, _, _ => exact ⟨rfl, g _ _ _ z_il1, z_n1, z_t1⟩
  | 3, _, _ => exact ⟨rfl, g _ _ _ z_il2, z_n2, z_t2⟩
  | 4, _, _ => exact ⟨rfl, g _ _ _ z_il3, z_n3, z_t3⟩
  | 5, _, _ => exact ⟨rfl, g _ _ _ z_il4, z_n4, z_t4⟩
  | 6, _, _ => exact ⟨rfl, g _ _ _ z_il5, z_n5, z_t5⟩
  | 7, _, _ => exact ⟨rfl, g _ _ _ z_il6, z_n6, z_t6⟩
  | 8, _, _ => exact ⟨rfl, g _ _ _ z_il7, z_n7, z_t7⟩
  | 9, _, _ => exact ⟨rfl, g _ _ _ z_il8, z_n8, z_t8⟩
  | 10, _, _ => exact ⟨rfl, g _ _ _ z_il9, z_n9, z_t9⟩
  | 11, _, _ => exact ⟨rfl, g _ _ _ z_il10, z_n10, z_t10⟩
  | 12, _, _ => exact ⟨rfl, g _ _ _ z_il11, z_n11, z_t11⟩
theorem z_K_q {o : Nat} (ho : o < 141) (hK : z_K o < 20) : 1 ≤ z_K o ∧ z_K o ≤ 12 ∧ z_N o = (z_q (z_K o)).2.2 := z_K_cls o ho hK
def z_rowTy (K : Nat) : FieldType := match K with
  | 20 => .int
  | 21 => .long
  | 22 => .byte
  | 23 => .boolean
  | 24 => .object "TestChoice$EdgeSet"
  | 25 => .object "TestChoice$Image"
  | _ => .object "TestChoice$Sheet"
theorem z_rows {G : z_G} {K : Nat} (h1 : 20 ≤ K) (h2 : K ≤ 26) : (z_tys G)[K - 20]? = some (G.2.2.2.2 K, z_rowTy K) := by
  rcases (show K = 20 ∨ K = 21 ∨ K = 22 ∨ K = 23 ∨ K = 24 ∨ K = 25 ∨ K = 26 by omega) with rfl | rfl | rfl | rfl | rfl | rfl | rfl <;> rfl
section ZSH
variable {p : Program} {l : Launch} {e : Env} {R : Room} {s : State} {m : MethodId} {args : Array Value} {below : List Frame} {meth : Method} {c : Code} {Q : State → Prop}
variable {G : z_G} {nL : Nat} {cc : ByteArray} {pc : Nat} {lo : z_L} {st : List Value} {h : z_H}
/-- a row of the picture in the heap -/
theorem z_row_at {H : Heap} {o : Nat} (hK : z_Kn G s) (hR : z_Rep G h H) (h20 : 20 ≤ z_K o) : o < 141 ∧ z_K o ≤ 26 ∧ H[G.1 + o]? = some (arrV (G.2.2.2.2 (z_K o)) (z_N o) (z_av G h o)) ∧ s.isArrayOf (arrV (G.2.2.2.2 (z_K o)) (z_N o) (z_av G h o)) (z_rowTy (z_K o)) := by
  have ho : o < 141 := z_K_lt (by omega)
  obtain ⟨h26, -⟩ := z_K_row o ho h20
  exact ⟨ho, h26, (hR o ho).2 h20, (hK.1.2 (z_K o - 20) _ (z_rows h20 h26)).1 (z_N o) (z_av G h o)⟩
theorem z_av_int {o k : Nat} (hK : z_K o = 20 ∨ z_K o = 22 ∨ z_K o = 23) : z_av G h o k = .int (h.1 o k) := by
  unfold z_av
  have a2 : Nat.ble 24 (z_K o) = false := by
    cases hb : Nat.ble 24 (z_K o) with
    | false => rfl
    | true => have := Nat.le_of_ble_eq_true hb; omega
  rw [z_beqF (by omega), a2]
  rfl
theorem z_s_iaload (hx : p.tables.exec = Jvm.exec) (hb : c.code = cc) (hK : z_Kn G s) {o : Nat} {j : Int32} (hk : z_K o = 20) (hj : z_in j (z_N o) = true) (hd : decode cc pc = .ok (.iaload, 1)) (k : z_Go p l e R s m args below meth c Q G nL (pc + 1) lo (.int (h.1 o j.toNatClampNeg) :: st) h) : z_Go p l e R s m args below meth c Q G nL pc lo (.int j :: .ref o :: st) h := by
  intro ls H locs a b d
  obtain ⟨ho, -, hc, ha⟩ := z_row_at (h := h) hK b (o := o) (by omega)
  obtain ⟨hi1, hi2⟩ := z_vin hj
  simp only [List.map_cons]
  rw [z_up_obj ho]
  rw [hk] at ha
  refine W.iald hx hb (v := .int (h.1 o j.toNatClampNeg)) hc (by rw [hk]; exact ha) (fun q => by cases q) (by rw [arrV_size]; exact hi1) (by rw [arrV_read _ _ hi2, z_av_int (Or.inl hk)]) rfl rfl hd (k ls H locs a b d)
theorem z_s_laload (hx : p.tables.exec = Jvm.exec) (hb : c.code = cc) (hK : z_Kn G s) {o : Nat} {j : Int32} (hk : z_K o = 21) (hj : z_in j (z_N o) = true) (hd : decode cc pc = .ok (.laload, 1)) (k : z_Go p l e R s m args below meth c Q G nL (pc + 1) lo (.long (h.2.1 o j.toNatClampNeg) :: st) h) : z_Go p l e R s m args below meth c Q G nL pc lo (.int j :: .ref o :: st) h := by
  intro ls H locs a b d
  obtain ⟨ho, -, hc, ha⟩ := z_row_at (h := h) hK b (o := o) (by omega)
  obtain ⟨hi1, hi2⟩ := z_vin hj
  simp only [List.map_cons]
  rw [z_up_obj ho]
  rw [hk] at ha
  refine W.lald hx hb (v := .long (h.2.1 o j.toNatClampNeg)) hc (by rw [hk]; exact ha) (fun q => by cases q) (by rw [arrV_size]; exact hi1) (by rw [arrV_read _ _ hi2]; unfold z_av; rw [hk]; rfl) rfl rfl hd (k ls H locs a b d)
theorem z_s_baload (hx : p.tables.exec = Jvm.exec) (hb : c.code = cc) (hK : z_Kn G s) {o : Nat} {j : Int32} (hk : z_K o = 22 ∨ z_K o = 23) (hj : z_in j (z_N o) = true) (hd : decode cc pc = .ok (.baload, 1)) (k : z_Go p l e R s m args below meth c Q G nL (pc + 1) lo (.int (h.1 o j.toNatClampNeg) :: st) h) : z_Go p l e R s m args below meth c Q G nL pc lo (.int j :: .ref o :: st) h := by
  intro ls H locs a b d
  obtain ⟨ho, -, hc, ha⟩ := z_row_at (h := h) hK b (o := o) (by omega)
  obtain ⟨hi1, hi2⟩ := z_vin hj
  simp only [List.map_cons]
  rw [z_up_obj ho]
  rcases hk with hk | hk
  · rw [hk] at ha
    refine W.bald hx hb (v := .int (h.1 o j.toNatClampNeg)) hc (by rw [hk]; exact ha) (fun q => by cases q) (by rw [arrV_size]; exact hi1) (by rw [arrV_read _ _ hi2, z_av_int (Or.inr (Or.inl hk))]) rfl rfl hd (k ls H locs a b d)
  · rw [hk] at ha
    refine W.zald hx hb (v := .int (h.1 o j.toNatClampNeg)) hc (by rw [hk]; exact ha) (fun q => by cases q) (by rw [arrV_size]; exact hi1) (by rw [arrV_read _ _ hi2, z_av_int (Or.inr (Or.inr hk))]) rfl rfl hd (k ls H locs a b d)
theorem z_s_aaload (hx : p.tables.exec = Jvm.exec) (hb : c.code = cc) (hK : z_Kn G s) {o : Nat} {j : Int32} (hk : 24 ≤ z_K o) (hj : z_in j (z_N o) = true) (hd : decode cc pc = .ok (.aaload, 1)) (k : z_Go p l e R s m args below meth c Q G nL (pc + 1) lo (.ref (z_R o j.toNatClampNeg) :: st) h) : z_Go p l e R s m args below meth c Q G nL pc lo (.int j :: .ref o :: st) h := by
  intro ls H locs a b d
  obtain ⟨ho, h26, hc, ha⟩ := z_row_at (h := h) hK b (o := o) (by omega)
  obtain ⟨hi1, hi2⟩ := z_vin hj
  simp only [List.map_cons]
  rw [z_up_obj ho]
  have hty : (z_rowTy (z_K o)).isReference = true := by
    rcases (show z_K o = 24 ∨ z_K o = 25 ∨ z_K o = 26 by omega) with q | q | q <;> rw [q] <;> rfl
  refine W.aald hx hb (v := z_rv G (z_R o j.toNatClampNeg)) hc ha hty (fun q => by cases q) (by rw [arrV_size]; exact hi1) ?_ rfl rfl hd (k ls H locs a b d)
  rw [arrV_read _ _ hi2]
  unfold z_av
  rw [z_beqF (by omega), Nat.ble_eq_true_of_le hk]
  rfl
theorem z_s_alen (hx : p.tables.exec = Jvm.exec) (hb : c.code = cc) (hK : z_Kn G s) {o : Nat} (hk : 20 ≤ z_K o) (hd : decode cc pc = .ok (.arraylength, 1)) (k : z_Go p l e R s m args below meth c Q G nL (pc + 1) lo (.int (Int32.ofNat (z_N o)) :: st) h) : z_Go p l e R s m args below meth c Q G nL pc lo (.ref o :: st) h := by
  intro ls H locs a b d
  obtain ⟨ho, h26, hc, ha⟩ := z_row_at (h := h) hK b (o := o) hk
  simp only [List.map_cons]
  rw [z_up_obj ho]
  exact W.alen hx hb hc ha (by rw [arrV_size]) rfl rfl hd (k ls H locs a b d)
theorem z_s_iastore (hx : p.tables.exec = Jvm.exec) (hb : c.code = cc) (hK : z_Kn G s) {o : Nat} {j x : Int32} (hk : z_K o = 20) (hj : z_in j (z_N o) = true) (hd : decode cc pc = .ok (.iastore, 1)) (k : z_Go p l e R s m args below meth c Q G nL (pc + 1) lo st (z_wI h o j.toNatClampNeg x)) : z_Go p l e R s m args below meth c Q G nL pc lo (.int x :: .int j :: .ref o :: st) h := by
  intro ls H locs a b d
  obtain ⟨ho, -, hc, ha⟩ := z_row_at (h := h) hK b (o := o) (by omega)
  obtain ⟨hi1, hi2⟩ := z_vin hj
  simp only [List.map_cons]
  rw [z_up_obj ho]
  rw [hk] at ha
  refine W.iast hx hb hc (by rw [hk]; exact ha) (fun q => by cases q) (by rw [arrV_size]; exact hi1) rfl rfl hd (fun H' e1 e2 e3 => ?_)
  exact k ls H' _ a (b.row ho (Or.inl hk) e1 e3) (d.put e2 e3)
theorem z_s_bastore (hx : p.tables.exec = Jvm.exec) (hb : c.code = cc) (hK : z_Kn G s) {o : Nat} {j x : Int32} (hk : z_K o = 22 ∨ z_K o = 23) (hj : z_in j (z_N o) = true) (hd : decode cc pc = .ok (.bastore, 1)) (k : z_Go p l e R s m args below meth c Q G nL (pc + 1) lo st (z_wI h o j.toNatClampNeg (bif Nat.beq (z_K o) 22 then x.toInt8.toInt32 else x &&& 1))) : z_Go p l e R s m args below meth c Q G nL pc lo (.int x :: .int j :: .ref o :: st) h := by
  intro ls H locs a b d
  obtain ⟨ho, -, hc, ha⟩ := z_row_at (h := h) hK b (o := o) (by omega)
  obtain ⟨hi1, hi2⟩ := z_vin hj
  simp only [List.map_cons]
  rw [z_up_obj ho]
  rcases hk with hk | hk
  · rw [hk] at ha
    refine W.bast hx hb hc (by rw [hk]; exact ha) (fun q => by cases q) (by rw [arrV_size]; exact hi1) rfl rfl hd (fun H' e1 e2 e3 => ?_)
    refine k ls H' _ a (b.row ho (Or.inr (Or.inl hk)) ?_ e3) (d.put e2 e3)
    rw [e1, hk]; rfl
  · rw [hk] at ha
    refine W.zast hx hb hc (by rw [hk]; exact ha) (fun q => by cases q) (by rw [arrV_size]; exact hi1) rfl rfl hd (fun H' e1 e2 e3 => ?_)
    refine k ls H' _ a (b.row ho (Or.inr (Or.inr hk)) ?_ e3) (d.put e2 e3)
    rw [e1, hk]; rfl
theorem z_s_lastore (hx : p.tables.exec = Jvm.exec) (hb : c.code = cc) (hK : z_Kn G s) {o : Nat} {j : Int32} {x : Int64} (hk : z_K o = 21) (hj : z_in j (z_N o) = true) (hd : decode cc pc = .ok (.lastore, 1)) (k : z_Go p l e R s m args below meth c Q G nL (pc + 1) lo st (z_wL h o j.toNatClampNeg x)) : z_Go p l e R s m args below meth c Q G nL pc lo (.long x :: .int j :: .ref o :: st) h := by
  intro ls H locs a b d
  obtain ⟨ho, -, hc, ha⟩ := z_row_at (h := h) hK b (o := o) (by omega)
  obtain ⟨hi1, hi2⟩ := z_vin hj
  simp only [List.map_cons]
  rw [z_up_obj ho]
  rw [hk] at ha
  refine W.last hx hb hc (by rw [hk]; exact ha) (fun q => by cases q) (by rw [arrV_size]; exact hi1) rfl rfl hd (fun H' e1 e2 e3 => ?_)
  exact k ls H' _ a (b.rowL ho hk e1 e3) (d.put e2 e3)
/-- an object of the picture in the heap, and one of its fields -/
theorem z_fld_at {H : Heap} {o k : Nat} (hts : ∀ w ∈ z_good, w.before args s = true) (hK : z_Kn G s) (hR : z_Rep G h H) (h1 : 1 ≤ z_K o) (h12 : z_K o ≤ 12) (hk : k < (z_q (z_K o)).2.2) : o < 141 ∧ k < z_N o ∧
    ∃ (cell : Cell) (cf : Nat) (kf : Class) (fi : Nat) (f : Field) (cC : ClassId) (kC : Class), H[G.1 + o]? = some cell ∧ cell.cls = G.2.2.1 (z_K o - 1) ∧ cell.vm = .none ∧ (∀ j, j < z_N o → cell.slots[G.2.2.2.1 (z_K o - 1) j]? = some (z_fv G h o j)) ∧
      s.fieldFound? ((z_q (z_K o)).2.1 k).1 ((z_q (z_K o)).2.1 k).2.1 ((z_q (z_K o)).2.1 k).2.2.1 = some (cf, kf, fi, f) ∧ f.slot = G.2.2.2.1 (z_K o - 1) k ∧ f.isStatic = false ∧ s.vm.findClass (z_q (z_K o)).1 = some (G.2.2.1 (z_K o - 1)) ∧ s.vm.classes[G.2.2.1 (z_K o - 1)]? = some kC ∧ kC.kind = .ordinary := by
  have ho : o < 141 := z_K_lt (by omega)
  obtain ⟨-, -, hN⟩ := z_K_q ho (by omega)
  obtain ⟨q1, q2, q3, q4⟩ := z_q_ok (z_K o) h1 h12
  obtain ⟨cell, c1, c2, c3, c4⟩ := (hR o ho).1 (by omega)
  obtain ⟨hS, hfc, kC, hkC, hkind⟩ := hK.1.1 (z_K o - 1) _ q1
  obtain ⟨cf, kf, fi, f, hi, hsl⟩ := hS k hk
  exact ⟨ho, by rw [hN]; exact hk, cell, cf, kf, fi, f, G.2.2.1 (z_K o - 1), kC, c1, c2, c3, c4, hi, hsl, (u_facts hfc hkC (u_lays hts q2 hk) hi).1, hfc, hkC, hkind⟩
theorem z_s_getfield (hx : p.tables.exec = Jvm.exec) (hb : c.code = cc) {own : String} {i : Nat} (hown : s.vm.findClass own = some m.cls) (hts : ∀ w ∈ z_good, w.before args s = true) (hK : z_Kn G s) {o a b : Nat} (h1 : 1 ≤ a) (h12 : a ≤ 12) (hko : z_K o = a) (hk : b < (z_q a).2.2) (hC : ((z_q a).2.1 b).1 = (z_q a).1)
    (hw : Cond.fieldLink own i (z_q a).1 ((z_q a).2.1 b).2.1 ((z_q a).2.1 b).2.2.1 ∈ z_good) (hd : decode cc pc = .ok (.getfield i, 3)) {v : Value} (hv : z_up G v = z_fv G h o b) (k : z_Go p l e R s m args below meth c Q G nL (pc + 3) lo (v :: st) h) : z_Go p l e R s m args below meth c Q G nL pc lo (.ref o :: st) h := by
  intro ls H locs x y z
  subst hko
  obtain ⟨ho, hkN, cell, cf, kf, fi, f, -, kC, c1, c2, c3, c4, hi, hsl, hst, -⟩ := z_fld_at hts hK y h1 h12 hk
  simp only [List.map_cons]
  rw [z_up_obj ho]
  have h3 := k ls H locs x y z
  rw [List.map_cons, hv] at h3
  exact W.getf hx hb hown (hts _ hw) (by rw [← hC]; exact hi) hst c1 (by rw [c3]; exact fun h => by cases h) (v := z_fv G h o b) (by rw [hsl]; exact c4 b hkN) rfl rfl hd h3
theorem z_apart {a : Nat} (hts : ∀ w ∈ z_good, w.before args s = true) (hK : z_Kn G s) (h1 : 1 ≤ a) (h12 : a ≤ 12) : ∀ x y, x < (z_q a).2.2 → y < (z_q a).2.2 → x ≠ y → G.2.2.2.1 (a - 1) x ≠ G.2.2.2.1 (a - 1) y := by
  obtain ⟨q1, q2, q3, q4⟩ := z_q_ok a h1 h12
  exact va_apart (own := "") (D := (G.2.2.1, G.2.2.2.1)) hts q2 (z_qT a) q4 q3 hK.1 q1
/-- a field that isn't final is written -/
theorem z_put_at (hx : p.tables.exec = Jvm.exec) (hb : c.code = cc) {own : String} {i : Nat} (hown : s.vm.findClass own = some m.cls) (hts : ∀ w ∈ z_good, w.before args s = true) (hK : z_Kn G s) {o a b : Nat} (h1 : 1 ≤ a) (h12 : a ≤ 12) (hko : z_K o = a) (hk : b < (z_q a).2.2) (hC : ((z_q a).2.1 b).1 = (z_q a).1) (hfin : ((z_q a).2.1 b).2.2.2 = false)
    (hw : Cond.fieldLink own i (z_q a).1 ((z_q a).2.1 b).2.1 ((z_q a).2.1 b).2.2.1 ∈ z_good) (hd : decode cc pc = .ok (.putfield i, 3)) {v : Value} (hn : narrow (z_qT a b) v = v) (hf : fits (z_qT a b) v = true) {ls : Array Slot} {H : Heap} {locs : List Loc} (y : z_Rep G h H) {st : List Value}
    (k : ∀ (H1 : Heap) (cell : Cell), o < 141 → H[G.1 + o]? = some cell → H1[G.1 + o]? = some (cell.setSlot (G.2.2.2.1 (z_K o - 1) b) v) → H1.size = H.size → (∀ q, q ≠ G.1 + o → H1[q]? = H[q]?) → W p l e R s m args below meth c H1 (locs ++ [⟨G.1 + o, G.2.2.2.1 (z_K o - 1) b⟩]) 0 0 Q (F0 m (pc + 3) ls st)) : W p l e R s m args below meth c H locs 0 0 Q (F0 m pc ls (v :: .ref (G.1 + o) :: st)) := by
  subst hko
  obtain ⟨q1, q2, q3, q4⟩ := z_q_ok (z_K o) h1 h12
  obtain ⟨ho, hkN, cell, cf, kf, fi, f, -, kC, c1, c2, c3, c4, hi, hsl, hst, hfc, hkC, hkind⟩ := z_fld_at hts hK y h1 h12 hk
  have hlay := hts _ (q2 _ (u_in_lay hk))
  unfold u_lay at hlay
  rw [if_neg (by rw [hfin]; decide)] at hlay
  have h6 := u_store hfc hkC hkind hlay hi (q4 b hk) hn hf
  refine W.putK hx hb (f := f) ⟨hown, hts _ hw, ⟨_, _, _, by rw [← hC]; exact hi⟩, hst⟩ (by rw [c2]; exact h6) c1 c3 (by rw [hsl]; exact k2_hasslot (c4 b hkN)) rfl rfl hd fun H' e1 e2 e3 => ?_
  rw [hsl] at e1 ⊢
  exact k H' cell ho c1 e1 e2 e3
theorem z_s_putI (hx : p.tables.exec = Jvm.exec) (hb : c.code = cc) {own : String} {i : Nat} (hown : s.vm.findClass own = some m.cls) (hts : ∀ w ∈ z_good, w.before args s = true) (hK : z_Kn G s) {o a b : Nat} (h1 : 1 ≤ a) (h12 : a ≤ 12) (hko : z_K o = a) (hk : b < (z_q a).2.2) (hC : ((z_q a).2.1 b).1 = (z_q a).1) (hfin : ((z_q a).2.1 b).2.2.2 = false)
    (hw : Cond.fieldLink own i (z_q a).1 ((z_q a).2.1 b).2.1 ((z_q a).2.1 b).2.2.1 ∈ z_good) (hd : decode cc pc = .ok (.putfield i, 3)) {x : Int32} (hn : narrow (z_qT a b) (.int x) = .int x) (hf : fits (z_qT a b) (.int x) = true) (hft : z_ft a b ≠ 1 ∧ z_ft a b ≠ 2)
    (k : z_Go p l e R s m args below meth c Q G nL (pc + 3) lo st (z_wI h o b x)) : z_Go p l e R s m args below meth c Q G nL pc lo (.int x :: .ref o :: st) h := by
  intro ls H locs x1 y z
  have ho : o < 141 := z_K_lt (by omega)
  simp only [List.map_cons]
  rw [z_up_obj ho]
  refine z_put_at hx hb hown hts hK h1 h12 hko hk hC hfin hw hd hn hf y (fun H1 cell ho c1 e1 e2 e3 => ?_)
  subst hko
  obtain ⟨-, -, hN⟩ := z_K_q ho (by omega)
  exact k ls H1 _ x1 (y.fld ho (by omega) hft c1 e1 e3 (by rw [hN]; exact z_apart hts hK h1 h12) (by rw [hN]; exact hk)) (z.put e2 e3)
theorem z_ft2 : ∀ o, o < 141 → ∀ k, k < z_N o → z_ft (z_K o) k = 2 → o = 37 ∧ k = 3 := by decide +kernel
theorem z_s_putD (hx : p.tables.exec = Jvm.exec) (hb : c.code = cc) {own : String} {i : Nat} (hown : s.vm.findClass own = some m.cls) (hts : ∀ w ∈ z_good, w.before args s = true) (hK : z_Kn G s) {o a b x : Nat} (h1 : 1 ≤ a) (h12 : a ≤ 12) (hko : z_K o = a) (hk : b < (z_q a).2.2) (hC : ((z_q a).2.1 b).1 = (z_q a).1) (hfin : ((z_q a).2.1 b).2.2.2 = false)
    (hw : Cond.fieldLink own i (z_q a).1 ((z_q a).2.1 b).2.1 ((z_q a).2.1 b).2.2.1 ∈ z_good) (hd : decode cc pc = .ok (.putfield i, 3)) (hty : ∃ n, z_qT a b = .object n) (hx1 : x < 141) (hft : z_ft a b = 2)
    (k : z_Go p l e R s m args below meth c Q G nL (pc + 3) lo st (z_wD h x)) : z_Go p l e R s m args below meth c Q G nL pc lo (.ref x :: .ref o :: st) h := by
  intro ls H locs x2 y z
  have ho : o < 141 := z_K_lt (by omega)
  simp only [List.map_cons]
  rw [z_up_obj ho]
  obtain ⟨n, hn⟩ := hty
  rw [z_up_obj hx1]
  refine z_put_at hx hb hown hts hK h1 h12 hko hk hC hfin hw hd (by rw [hn]; rfl) (by rw [hn]; rfl) y (fun H1 cell ho c1 e1 e2 e3 => ?_)
  subst hko
  obtain ⟨-, -, hN⟩ := z_K_q ho (by omega)
  have hkN : b < z_N o := by rw [hN]; exact hk
  have hob := z_ft2 o ho b hkN hft
  refine k ls H1 _ x2 (fun o' ho' => ?_) (z.put e2 e3)
  by_cases he : o' = o
  · subst he
    refine ⟨fun h20 => ?_, fun h20 => absurd h20 (by omega)⟩
    obtain ⟨cell', d1, d2, d3, d4⟩ := (y o' ho').1 h20
    cases d1.symm.trans c1
    refine ⟨_, e1, d2, d3, fun j hj => ?_⟩
    rw [t_set (V := z_fv G h o') d4 (by rw [hN]; exact z_apart hts hK h1 h12) hkN (.ref (G.1 + x)) j hj]
    unfold updV z_fv
    by_cases hjb : j = b
    · subst hjb
      rw [if_pos rfl, hft]
      show _ = some (z_rv G x)
      have := z_up_obj (G := G) hx1
      rw [← this]; rfl
    · rw [if_neg hjb]
      split
      · rfl
      · rename_i e
        exact absurd ((z_ft2 o' ho' j hj e).2.trans hob.2.symm) hjb
      · rfl
  · refine (y o' ho').other (e3 _ (by omega)) (fun _ => rfl) (fun _ => rfl) (Or.inl fun j hj e => ?_)
    exact he ((z_ft2 o' ho' j hj e).1.trans hob.1.symm)
end ZSH
