/-! CONTRACTS OUT OF THE SMALL MACHINE -/
def z_rval (G : z_G) (rt : Option FieldType) (r : Int32) : Option Value := match rt with
  | none => none
  | some (.object _) => some (z_rv G r.toNatClampNeg)
  | some _ => some (.int r)
def z_Qc (G : z_G) (rt : Option FieldType) (r : z_A) : Array Value → State → Outcome → State → Prop := fun _ st o t => o = .returned (z_rval G rt r.1) ∧ z_Rep G r.2 t.heap ∧ t.heap.size = st.heap.size ∧ ∀ q, q < G.1 → t.heap[q]? = st.heap[q]?
def z_Pc (G : z_G) (a : List Value) (h : z_H) : Array Value → State → Prop := fun v U => v = (a.map (z_up G)).toArray ∧ z_Kn G U ∧ z_St G U U.heap ∧ z_Rep G h U.heap
def z_rm (n : Nat) : Room := { frames := n, cells := 0, slots := 0, locals := 80 * n }
def z_Met (l : Launch) (G : z_G) (id : Nat) (a : List Value) (h : z_H) (r : z_A) : Prop :=
  Met l (z_mt id).1 (z_ws id) (z_rm (z_rank id a)) (z_Pc G a h) (z_Qc G (z_mt id).2.2.2 r) 0 0 (fun q => G.1 ≤ q)
theorem z_blind (G : z_G) (a : List Value) (h : z_H) : FrameBlind (z_Pc G a h) := fun _ U g mk q => ⟨q.1, z_Kn.same (s := U) rfl q.2.1, z_St.to (s := U) (Vm.Alike.refl _) (fun _ _ _ => rfl) q.2.2.1, q.2.2.2⟩
/-- what the tables say of a method -/
def z_mok (id : Nat) : Prop := Cond.code (z_mt id).1 (z_mt id).2.1 (z_mt id).2.2.1 (z_mt id).2.2.2 ∈ z_good ∧ Cond.initialized (z_mt id).1.cls ∈ z_good ∧ ((z_mt id).1.cls ≠ "java/lang/invoke/MethodHandle" ∧ (z_mt id).1.cls ≠ "java/lang/invoke/VarHandle") ∧ (parseMethodDescriptor (z_mt id).1.desc).map (fun d => d.parameters.length) = some (z_sg id).2.1 ∧
  (match (z_sg id).1 with
  | true => Cond.static (z_mt id).1 ∈ z_good
  | false => Cond.instanceMethod (z_mt id).1 ∈ z_good ∧ Cond.selects (z_mt id).1.cls (z_mt id).1 (z_mt id).1 ∈ z_good ∧ ((1 ≤ (z_sg id).2.2 ∧ (z_sg id).2.2 ≤ 12 ∧ (z_q (z_sg id).2.2).1 = (z_mt id).1.cls) ∨ ((z_sg id).2.2 = 100 ∧ (z_mt id).1.cls = "java/lang/String"))) ∧
  (z_mt id).2.2.1 = z_ml id ∧ z_ml id ≤ 60 ∧ plainName (z_mt id).1.cls = true ∧ 1 ≤ z_rk id
theorem z_goodIn {own id : Nat} (hm : z_mok id) : GoodIn (z_ws own) (z_ws id) := by
  have key : ∀ w ∈ z_good, w ∈ z_ws own ∧ ((w.onTables && w.keeps) = true ∨ ∃ ty, w = .arrayClass ty) := fun w hw => ⟨List.mem_cons_of_mem _ hw, good_of_word (List.mem_filter.mp hw).2⟩
  intro w hw
  rcases List.mem_cons.mp hw with rfl | hw
  · exact key _ hm.1
  · exact key w hw
section ZCL
variable {p : Program} {l : Launch} {e : Env} {R : Room} {s : State} {m : MethodId} {args : Array Value} {below : List Frame} {meth : Method} {c : Code} {Q : State → Prop}
variable {G : z_G} {nL : Nat} {cc : ByteArray} {pc : Nat} {lo : z_L} {st : List Value} {h : z_H}
/-- the receiver's cell -/
theorem z_recv {H : Heap} {locs : List Loc} {id o k : Nat} (hm : z_mok id) (hv : (z_sg id).1 = false) (hk : k = (z_sg id).2.2) (hr : (bif Nat.beq k 100 then Nat.ble 1000 o && Nat.ble o 1005 else Nat.beq (z_K o) k) = true) (hK : z_Kn G s) (hSt : z_St G s s.heap) (hR : z_Rep G h H) (hF : z_Fr G s H locs) :
    z_up G (.ref o) = .ref (z_ad G o) ∧ ∃ cellB : Cell, H[z_ad G o]? = some cellB ∧ cellB.vm.isStatics = false ∧ s.vm.findClass (z_mt id).1.cls = some cellB.cls := by
  obtain ⟨-, -, -, -, hm5, -⟩ := hm
  rw [hv] at hm5
  obtain ⟨-, -, hm5⟩ := hm5
  subst hk
  rcases hm5 with ⟨h1, h2, h3⟩ | ⟨h1, h2⟩
  · rw [z_beqF (by omega)] at hr
    have hk : z_K o = (z_sg id).2.2 := z_beq hr
    have ho : o < 141 := z_K_lt (by omega)
    refine ⟨z_up_ref (by omega), ?_⟩
    rw [z_ad_lt ho]
    obtain ⟨cell, c1, c2, c3, -⟩ := (hR o ho).1 (by omega)
    refine ⟨cell, c1, by rw [c3]; rfl, ?_⟩
    obtain ⟨q1, -⟩ := z_q_ok _ h1 h2
    obtain ⟨-, hfc, -⟩ := hK.1.1 _ _ q1
    rw [c2, hk, ← h3]
    exact hfc
  · rw [h1] at hr
    simp only [Nat.beq_refl, cond_true, Bool.and_eq_true] at hr
    have b1 : 1000 ≤ o := Nat.le_of_ble_eq_true hr.1
    have b2 : o ≤ 1005 := Nat.le_of_ble_eq_true hr.2
    refine ⟨z_up_ref (by omega), ?_⟩
    obtain ⟨adV, hS, -, -⟩ := hSt
    obtain ⟨cell, g1, g2, g3, g4⟩ := (hS.1 (o - 1000) (by omega)).1
    have e1 : z_ad G o = G.2.1 (1000 + (o - 1000)) := by
      unfold z_ad
      have : Nat.blt o 141 = false := by
        cases hb : Nat.blt o 141 with
        | false => rfl
        | true => have := Nat.le_of_ble_eq_true hb; omega
      rw [this, show 1000 + (o - 1000) = o by omega]; rfl
    rw [e1, h2]
    refine ⟨cell, ?_, g2, g3⟩
    rw [hF.2.1 _ (by simpa using g4)]
    exact g1
/-- behind a call -/
theorem z_back {H : Heap} {ls : Array Slot} {locs : List Loc} {rest st0 : List Value} {rt : Option FieldType} {r : z_A} {a : Array Value} {n : Nat} (hr : va_Run p l e R s m args below meth c H locs 0 0 0 0 (F0 m pc ls st0) rest (z_Qc G rt r a) (fun q => G.1 ≤ q)) (hF : z_Fr G s H locs) (hn : n = pc + 3)
    (k : ∀ (H1 : Heap) (locs1 : List Loc), z_Rep G r.2 H1 → z_Fr G s H1 locs1 → W p l e R s m args below meth c H1 locs1 0 0 Q (F0 m n ls ((z_rval G rt r.1).toList ++ rest))) : W p l e R s m args below meth c H locs 0 0 Q (F0 m pc ls st0) := by
  subst hn
  intro T hT X
  obtain ⟨v, st₀, t, T', L, h0, X', hL, e1, e2, ⟨hv, hR, hz, hq⟩, st⟩ := hr T hT X
  cases hv
  rw [h0] at hz hq
  obtain ⟨t2, a1, b1⟩ := k T'.heap (locs ++ L) (by rw [e1]; exact hR) ⟨by rw [e1, hz]; exact hF.1, fun q h1 => by rw [e1, hq q h1]; exact hF.2.1 q h1, fun q hq => by
      rcases List.mem_append.mp hq with h | h
      · exact hF.2.2 q h
      · exact hL q h⟩ T' rfl X'
  exact ⟨t2, st t2 a1, b1⟩
theorem z_rets {id c' : Nat} (hc : c' = z_rc id) (r : Int32) (st : List Value) : (z_rval G (z_mt id).2.2.2 r).toList ++ st.map (z_up G) = (match (generalizing := false) c' with | 0 => st | 1 => .int r :: st | _ => .ref r.toNatClampNeg :: st).map (z_up G) := by
  unfold z_rc at hc
  unfold z_rval
  generalize (z_mt id).2.2.2 = rt at hc ⊢
  cases rt with
  | none => subst hc; rfl
  | some q => cases q <;> (subst hc; rfl)
theorem z_s_call {own id : Nat} (hx : p.tables.exec = Jvm.exec) (hb : c.code = cc) (hml : c.maxLocals = nL) (hown : s.vm.findClass (z_mt own).1.cls = some m.cls) (hts : ∀ w ∈ z_ws own, w.before args s = true) (hK : z_Kn G s) (hSt : z_St G s s.heap) (hm : z_mok id) {a rest : List Value} {r : z_A} {c' n i pl b : Nat} {virt : Bool} (hM : z_Met l G id a h r)
    (hst : st = a.reverse ++ rest) (hab : a.length = b) (hcat : z_cat rest ≤ 8) (hrk : z_rank id a + 1 ≤ R.frames ∧ 80 * (z_rank id a) + 80 ≤ R.locals) (hck : z_ck (z_mt own).1.cls i pl id b c' virt = true) (hn : n = pc + 3)
    (hrcv : virt = true → ∃ o As, a = .ref o :: As ∧ (bif Nat.beq (z_sg id).2.2 100 then Nat.ble 1000 o && Nat.ble o 1005 else Nat.beq (z_K o) (z_sg id).2.2) = true)
    (hd : decode cc pc = .ok (bif virt then .invokevirtual i else .invokestatic i, 3))
    (k : z_Go p l e R s m args below meth c Q G nL n lo (match (generalizing := false) c' with | 0 => rest | 1 => .int r.1 :: rest | _ => .ref r.1.toNatClampNeg :: rest) r.2) : z_Go p l e R s m args below meth c Q G nL pc lo st h := by
  intro ls H locs x y z
  unfold z_ck at hck
  simp only [Bool.and_eq_true, Bool.or_eq_true] at hck
  obtain ⟨⟨⟨-, hlk⟩, hc⟩, hvb⟩ := hck
  have hc := z_beq hc
  have hm0 := hm
  obtain ⟨m1, m2, m3, m4, m5, m6, m7, m8, -⟩ := hm
  have hgood : ∀ w ∈ z_good, w.before args s = true := fun w hw => hts w (List.mem_cons_of_mem _ hw)
  have hfix : CallFix p m c cc nL s args (z_ws own) (z_mt own).1.cls := ⟨hx, hb, hml, hown, hts⟩
  have hW : 2 * (F0 m pc ls (st.map (z_up G))).monitorRoom + ((rest.map (z_up G)).map fun v => v.category).sum ≤ 8 := by
    show 2 * 0 + _ ≤ 8
    rw [z_cat_up]
    omega
  have hPc : ∀ U : State, U.heap = H → s.WarmedH U.vm → z_Pc G a h (a.map (z_up G)).toArray U := fun U hU hW => ⟨rfl, z_Kn.warm hW hK, by
    rw [hU]
    exact hSt.to hW.alike (fun q _ h2 => z.2.1 q (by omega)), by rw [hU]; exact y⟩
  have hlen : ∀ sig, parseMethodDescriptor (z_mt id).1.desc = some sig → (z_sg id).2.1 = sig.parameters.length := fun sig hs => by
    rw [hs] at m4
    exact (Option.some.inj m4).symm
  have hroom : (z_rm (z_rank id a)).frames + 1 ≤ R.frames ∧ 8 + ((z_mt id).2.2.1 + 11) + (z_rm (z_rank id a)).locals ≤ R.locals := by
    refine ⟨hrk.1, ?_⟩
    show 8 + (_ + 11) + 80 * _ ≤ _
    rw [m6]
    omega
  have hpay := pay_in hts (z_goodIn (own := own) hm0)
  have hbase : (z_rm (z_rank id a)).cells = 0 ∧ (z_rm (z_rank id a)).slots = 0 ∧ (z_rm (z_rank id a)).frames + 1 ≤ R.frames ∧ 8 + ((z_mt id).2.2.1 + 11) + (z_rm (z_rank id a)).locals ≤ R.locals ∧ (∀ w ∈ z_ws id, ∀ (a' : Array Value) (U : State), s.WarmedH U.vm → w.before a' U = true) ∧ Cond.code (z_mt id).1 (z_mt id).2.1 (z_mt id).2.2.1 (z_mt id).2.2.2 ∈ z_ws id := ⟨rfl, rfl, hroom.1, hroom.2, hpay, List.mem_cons_self⟩
  refine z_back (G := G) (rt := (z_mt id).2.2.2) (r := r) (a := (a.map (z_up G)).toArray) (rest := rest.map (z_up G)) ?_ z hn (fun H1 locs1 hR hF => by
    rw [z_rets hc]
    exact k ls H1 locs1 x hR hF)
  cases virt with
  | true =>
    simp only [Bool.and_eq_true, Bool.not_eq_true'] at hvb
    obtain ⟨hv1, hv2⟩ := hvb
    have hv2 := z_beq hv2
    obtain ⟨o, As, rfl, hr⟩ := hrcv rfl
    obtain ⟨hup, hcell⟩ := z_recv hm0 hv1 rfl hr hK hSt y z
    rw [hv1] at m5
    obtain ⟨m5a, m5b, -⟩ := m5
    have hstk : (F0 m pc ls (st.map (z_up G))).stack = (As.map (z_up G)).reverse ++ .ref (z_ad G o) :: rest.map (z_up G) := by
      show st.map (z_up G) = _
      rw [hst]
      simp [hup]
    have hpre : PreV s H (z_mt id).1.cls (z_ad G o) (z_Pc G (.ref o :: As) h) (As.map (z_up G)) := ⟨z_blind G _ h, hcell, fun U hU hW => by
      have := hPc U hU hW
      rw [List.map_cons, hup] at this
      exact this⟩
    have hAl : (As.map (z_up G)).length = (z_sg id).2.1 := by
      rw [List.length_map]
      rw [List.length_cons] at hab
      omega
    rcases hlk with hlk | hlk
    · have := va_runV (R := R) (p := p) (l := l) (e := e) (below := below) (meth := meth) (cells := 0) (slots := 0) (locs := locs) hfix hM (cw := ⟨⟨hbase.1, hbase.2.1, hbase.2.2.1, hbase.2.2.2.1, hbase.2.2.2.2.1, hbase.2.2.2.2.2, hgood _ m1, hgood _ m2, m3, hlen, hgood _ (z_wd_good hlk rfl)⟩, hgood _ m5a, hgood _ m5b⟩) hpre (g := F0 m pc ls (st.map (z_up G))) rfl hAl x.1 hstk hW hd ⟨Nat.zero_le _, Nat.zero_le _⟩
      rw [List.map_cons, hup]
      exact this
    · have := va_runVN (R := R) (p := p) (l := l) (e := e) (below := below) (meth := meth) (cells := 0) (slots := 0) (locs := locs) (C := (z_mt id).1.cls) (host := "TestChoice") hfix hM (cw := ⟨⟨⟨hbase.1, hbase.2.1, hbase.2.2.1, hbase.2.2.2.1, hbase.2.2.2.2.1, hbase.2.2.2.2.2⟩, hgood _ m1, hgood _ m2, m3, hlen, va_Nw.use rfl (hK.2.1 _ _ _ _ (z_wd_inv hlk))⟩, hgood _ m5a, hgood _ m5b⟩) hpre (g := F0 m pc ls (st.map (z_up G))) rfl hAl x.1 hstk hW hd ⟨Nat.zero_le _, Nat.zero_le _⟩
      rw [List.map_cons, hup]
      exact this
  | false =>
    simp only [Bool.and_eq_true] at hvb
    obtain ⟨hv1, hv2⟩ := hvb
    have hv2 := z_beq hv2
    rw [hv1] at m5
    have hstk : (F0 m pc ls (st.map (z_up G))).stack = (a.map (z_up G)).reverse ++ rest.map (z_up G) := by
      show st.map (z_up G) = _
      rw [hst]
      simp
    have hpre : PreS s H (z_Pc G a h) (a.map (z_up G)) := ⟨z_blind G _ h, hPc⟩
    have hAl : (a.map (z_up G)).length = (z_sg id).2.1 := by
      rw [List.length_map]
      omega
    rcases hlk with hlk | hlk
    · exact va_runS (R := R) (p := p) (l := l) (e := e) (below := below) (meth := meth) (cells := 0) (slots := 0) (locs := locs) hfix hM (cw := ⟨⟨hbase.1, hbase.2.1, hbase.2.2.1, hbase.2.2.2.1, hbase.2.2.2.2.1, hbase.2.2.2.2.2, hgood _ m1, hgood _ m2, m3, hlen, hgood _ (z_wd_good hlk rfl)⟩, hgood _ m5⟩) hpre (g := F0 m pc ls (st.map (z_up G))) rfl hAl x.1 hstk hW hd ⟨Nat.zero_le _, Nat.zero_le _⟩
    · exact va_runSN (R := R) (p := p) (l := l) (e := e) (below := below) (meth := meth) (cells := 0) (slots := 0) (locs := locs) (host := "TestChoice") hfix hM (cw := ⟨⟨⟨hbase.1, hbase.2.1, hbase.2.2.1, hbase.2.2.2.1, hbase.2.2.2.2.1, hbase.2.2.2.2.2⟩, hgood _ m1, hgood _ m2, m3, hlen, va_Nw.use rfl (hK.2.1 _ _ _ _ (z_wd_inv hlk))⟩, hgood _ m5, trivial⟩) hpre (g := F0 m pc ls (st.map (z_up G))) rfl hAl x.1 hstk hW hd ⟨Nat.zero_le _, Nat.zero_le _⟩
/-! ends -/
theorem z_zret {free : Addr → Prop} {Qc : Array Value → State → Outcome → State → Prop} {v : Int32} {ty : FieldType} {H : Heap} {locs : List Loc} {cells slots : Nat} (hexec : p.tables.exec = Jvm.exec) (hb : c.code = cc) (hr : meth.sig.returnType = some ty) (hty : ty = .boolean)
    (hq : ∀ t : State, t.heap = H → s.WarmedH t.vm → Qc args s (.returned (some (.int (v &&& 1)))) t) (hf : ∀ q ∈ locs, free q.base)
    {ls : Array Slot} {stk : List Value} (hdg : decode cc pc = .ok (.ireturn, 1)) (hlocks : meth.locks = false) : W p l e R s m args below meth c H locs cells slots (MQ below Qc args s cells slots free) (F0 m pc ls (.int v :: stk)) := by
  subst hty
  intro T hT X
  obtain ⟨fs, hret, hrun, hended, hW, hframe⟩ := X.leave (v := some (.int (v &&& 1))) (fun h => by rw [hr] at h; cases h)
  have hmeth' : T.vm.method? m = some meth := X.method'
  refine ⟨T.setFrames fs, ?_, .returned (some (.int (v &&& 1))), hrun, hended, hq _ hT hW, locs, ⟨⟨_, rfl⟩, hW, hframe⟩, hf⟩
  jvm_step X.here [X.here.top, hexec, hb, hdg, hmeth', hr, narrow]
  (try refine ⟨rfl, ?_⟩); (try refine ⟨rfl, ?_⟩)
  first | (intro acts; rw [hret _ acts rfl rfl rfl]) | rw [hret _ _ rfl rfl rfl]
  exact Steps.refl _
end ZCL
