/-! CONTRACTS OF THE LIBRARY'S OWN METHODS -/
def y_Qc (rv : Option Value) : Array Value → State → Outcome → State → Prop := fun _ st o t => o = .returned rv ∧ t.heap = st.heap
def y_Pc (P : State → Prop) (a : List Value) : Array Value → State → Prop := fun v U => v = a.toArray ∧ P U
def y_ws (t : z_Mt) : List Cond := Cond.code t.1 t.2.1 t.2.2.1 t.2.2.2 :: z_good
def y_Met (l : Launch) (t : z_Mt) (n : Nat) (P : State → Prop) (a : List Value) (rv : Option Value) : Prop := Met l t.1 (y_ws t) (z_rm n) (y_Pc P a) (y_Qc rv) 0 0 (fun _ => False)
def y_blind (P : State → Prop) : Prop := ∀ a : List Value, FrameBlind (y_Pc P a)
theorem y_goodIn {own t : z_Mt} (hm : Cond.code t.1 t.2.1 t.2.2.1 t.2.2.2 ∈ z_good) : GoodIn (y_ws own) (y_ws t) := by
  have key : ∀ w ∈ z_good, w ∈ y_ws own ∧ ((w.onTables && w.keeps) = true ∨ ∃ ty, w = .arrayClass ty) := fun w hw => ⟨List.mem_cons_of_mem _ hw, good_of_word (List.mem_filter.mp hw).2⟩
  intro w hw
  rcases List.mem_cons.mp hw with rfl | hw
  · exact key _ hm
  · exact key w hw
theorem y_ofW {l : Launch} {t : z_Mt} {n : Nat} {P : State → Prop} {a : List Value} {rv : Option Value} (h1 : plainName t.1.cls = true) (hcat : z_cat a ≤ t.2.2.1)
    (hk : ∀ (p : Program) (e : Env) (s : State) (m : MethodId) (below : List Frame) (meth : Method) (c : Code) (ls : Array Slot), p.tables.exec = Jvm.exec → c.code = t.2.1 → c.maxLocals = t.2.2.1 → s.vm.findClass t.1.cls = some m.cls → (∀ w ∈ y_ws t, w.before a.toArray s = true) → meth.sig.returnType = t.2.2.2 → meth.locks = false → P s → lv_has ls t.2.2.1 (lv_args 0 a) →
      W p l e (headSpec (y_ws t) (z_rm n)).room s m a.toArray below meth c s.heap [] 0 0 (MQ below (y_Qc rv) a.toArray s 0 0 (fun _ => False)) (F0 m 0 ls [])) : y_Met l t n P a rv := by
  unfold y_Met
  refine Met.ofW (cc := t.2.1) (maxL := t.2.2.1) (ret := t.2.2.2) h1 rfl ?_
  intro p e s m args below meth c s₁ B hml hv
  obtain ⟨rfl, hP⟩ := hv
  have hent := lv_entry a (n := t.2.2.1) (by rw [z_lgsl]; exact hcat)
  rw [lg_entry_eq]
  exact hk p e s m below meth c _ B.exec B.bytes hml (findClass_of_methodNamed B.named) (atoms_spec (ws := y_ws t) B.pre) B.returns B.notSynchronized hP hent
section YCL
variable {p : Program} {l : Launch} {e : Env} {R : Room} {s : State} {m : MethodId} {args : Array Value} {below : List Frame} {meth : Method} {c : Code} {Q : State → Prop}
variable {H : Heap} {locs : List Loc} {ls : Array Slot} {pc nL : Nat} {cc : ByteArray}
theorem y_back {a : Array Value} {rest st0 : List Value} {rv : Option Value} (hr : va_Run p l e R s m args below meth c H locs 0 0 0 0 (F0 m pc ls st0) rest (y_Qc rv a) (fun _ => False)) (k : W p l e R s m args below meth c H locs 0 0 Q (F0 m (pc + 3) ls (rv.toList ++ rest))) : W p l e R s m args below meth c H locs 0 0 Q (F0 m pc ls st0) := by
  intro T hT X
  obtain ⟨v, st₀, t, T', L, h0, X', hL, e1, e2, ⟨hv, hq⟩, st⟩ := hr T hT X
  cases hv
  have hL0 : L = [] := by
    cases L with
    | nil => rfl
    | cons q r => exact absurd (hL q List.mem_cons_self) (fun h => h)
  subst hL0
  rw [List.append_nil] at X'
  obtain ⟨t2, a1, b1⟩ := k T' (by rw [e1, hq, h0]) X'
  exact ⟨t2, st t2 a1, b1⟩
/-- what a call needs of the tables -/
def y_ok (own t : z_Mt) (i n : Nat) : Prop := Cond.code t.1 t.2.1 t.2.2.1 t.2.2.2 ∈ z_good ∧ Cond.initialized t.1.cls ∈ z_good ∧ (t.1.cls ≠ "java/lang/invoke/MethodHandle" ∧ t.1.cls ≠ "java/lang/invoke/VarHandle") ∧ (parseMethodDescriptor t.1.desc).map (fun d => d.parameters.length) = some n ∧ Cond.methodLink own.1.cls i t.1 ∈ z_good ∧ t.2.2.1 ≤ 60
theorem y_callS {own t : z_Mt} {i k : Nat} {P : State → Prop} {a rest : List Value} {rv : Option Value} (hx : p.tables.exec = Jvm.exec) (hb : c.code = cc) (hml : c.maxLocals = nL) (hown : s.vm.findClass own.1.cls = some m.cls) (hts : ∀ w ∈ y_ws own, w.before args s = true) (hls : ls.size = nL)
    (hM : y_Met l t k P a rv) (hok : y_ok own t i a.length) (hst : Cond.static t.1 ∈ z_good) (hbl : y_blind P) (hP : ∀ U : State, U.heap = H → s.WarmedH U.vm → P U) (hfr : k + 1 ≤ R.frames ∧ 80 * k + 80 ≤ R.locals) (hcat : z_cat rest ≤ 8) {st : List Value} (hstk : st = a.reverse ++ rest) (hd : decode cc pc = .ok (.invokestatic i, 3))
    (kk : W p l e R s m args below meth c H locs 0 0 Q (F0 m (pc + 3) ls (rv.toList ++ rest))) : W p l e R s m args below meth c H locs 0 0 Q (F0 m pc ls st) := by
  obtain ⟨m1, m2, m3, m4, m5, m6⟩ := hok
  have hgood : ∀ w ∈ z_good, w.before args s = true := fun w hw => hts w (List.mem_cons_of_mem _ hw)
  have hfix : CallFix p m c cc nL s args (y_ws own) own.1.cls := ⟨hx, hb, hml, hown, hts⟩
  have hpay := pay_in hts (y_goodIn (own := own) m1)
  have hlen : ∀ sig, parseMethodDescriptor t.1.desc = some sig → a.length = sig.parameters.length := fun sig hs => by
    rw [hs] at m4
    exact (Option.some.inj m4).symm
  have hlo : 8 + (t.2.2.1 + 11) + (z_rm k).locals ≤ R.locals := by
    show 8 + (_ + 11) + 80 * _ ≤ _
    omega
  have hpre : PreS s H (y_Pc P a) a := ⟨hbl a, fun U hU hW => ⟨rfl, hP U hU hW⟩⟩
  have hW : 2 * (F0 m pc ls st).monitorRoom + (rest.map fun v => v.category).sum ≤ 8 := by
    show 2 * 0 + _ ≤ 8
    rw [Nat.mul_zero, Nat.zero_add]
    exact hcat
  exact y_back (va_runS (R := R) (p := p) (l := l) (e := e) (below := below) (meth := meth) (cells := 0) (slots := 0) (locs := locs) hfix hM (cw := ⟨⟨rfl, rfl, hfr.1, hlo, hpay, List.mem_cons_self, hgood _ m1, hgood _ m2, m3, hlen, hgood _ m5⟩, hgood _ hst⟩) hpre (g := F0 m pc ls st) rfl rfl hls hstk hW hd ⟨Nat.zero_le _, Nat.zero_le _⟩) kk
theorem y_callV {own t : z_Mt} {i k b : Nat} {P : State → Prop} {As rest : List Value} {rv : Option Value} (hx : p.tables.exec = Jvm.exec) (hb : c.code = cc) (hml : c.maxLocals = nL) (hown : s.vm.findClass own.1.cls = some m.cls) (hts : ∀ w ∈ y_ws own, w.before args s = true) (hls : ls.size = nL)
    (hM : y_Met l t k P (.ref b :: As) rv) (hok : y_ok own t i As.length) (hst : Cond.instanceMethod t.1 ∈ z_good ∧ Cond.selects t.1.cls t.1 t.1 ∈ z_good) (hbl : y_blind P) (hP : ∀ U : State, U.heap = H → s.WarmedH U.vm → P U) (hcell : ∃ cellB : Cell, H[b]? = some cellB ∧ cellB.vm.isStatics = false ∧ s.vm.findClass t.1.cls = some cellB.cls) (hfr : k + 1 ≤ R.frames ∧ 80 * k + 80 ≤ R.locals) (hcat : z_cat rest ≤ 8) {st : List Value} (hstk : st = As.reverse ++ .ref b :: rest) (hd : decode cc pc = .ok (.invokevirtual i, 3))
    (kk : W p l e R s m args below meth c H locs 0 0 Q (F0 m (pc + 3) ls (rv.toList ++ rest))) : W p l e R s m args below meth c H locs 0 0 Q (F0 m pc ls st) := by
  obtain ⟨m1, m2, m3, m4, m5, m6⟩ := hok
  have hgood : ∀ w ∈ z_good, w.before args s = true := fun w hw => hts w (List.mem_cons_of_mem _ hw)
  have hfix : CallFix p m c cc nL s args (y_ws own) own.1.cls := ⟨hx, hb, hml, hown, hts⟩
  have hpay := pay_in hts (y_goodIn (own := own) m1)
  have hlen : ∀ sig, parseMethodDescriptor t.1.desc = some sig → As.length = sig.parameters.length := fun sig hs => by
    rw [hs] at m4
    exact (Option.some.inj m4).symm
  have hlo : 8 + (t.2.2.1 + 11) + (z_rm k).locals ≤ R.locals := by
    show 8 + (_ + 11) + 80 * _ ≤ _
    omega
  have hpre : PreV s H t.1.cls b (y_Pc P (.ref b :: As)) As := ⟨hbl _, hcell, fun U hU hW => ⟨rfl, hP U hU hW⟩⟩
  have hW : 2 * (F0 m pc ls st).monitorRoom + (rest.map fun v => v.category).sum ≤ 8 := by
    show 2 * 0 + _ ≤ 8
    rw [Nat.mul_zero, Nat.zero_add]
    exact hcat
  exact y_back (va_runV (R := R) (p := p) (l := l) (e := e) (below := below) (meth := meth) (cells := 0) (slots := 0) (locs := locs) hfix hM (cw := ⟨⟨rfl, rfl, hfr.1, hlo, hpay, List.mem_cons_self, hgood _ m1, hgood _ m2, m3, hlen, hgood _ m5⟩, hgood _ hst.1, hgood _ hst.2⟩) hpre (g := F0 m pc ls st) rfl rfl hls hstk hW hd ⟨Nat.zero_le _, Nat.zero_le _⟩) kk
theorem y_ret {free : Addr → Prop} {Qc : Array Value → State → Outcome → State → Prop} {v : Int32} {ty : FieldType} {cells slots : Nat} (hexec : p.tables.exec = Jvm.exec) (hb : c.code = cc) (hr : meth.sig.returnType = some ty) (hn : narrow ty (.int v) = .int v)
    (hq : ∀ t : State, t.heap = H → s.WarmedH t.vm → Qc args s (.returned (some (.int v))) t) (hf : ∀ q ∈ locs, free q.base)
    {stk : List Value} (hdg : decode cc pc = .ok (.ireturn, 1)) (hlocks : meth.locks = false) : W p l e R s m args below meth c H locs cells slots (MQ below Qc args s cells slots free) (F0 m pc ls (.int v :: stk)) := by
  intro T hT X
  obtain ⟨fs, hret, hrun, hended, hW, hframe⟩ := X.leave (v := some (.int v)) (fun h => by rw [hr] at h; cases h)
  have hmeth' : T.vm.method? m = some meth := X.method'
  refine ⟨T.setFrames fs, ?_, .returned (some (.int v)), hrun, hended, hq _ hT hW, locs, ⟨⟨_, rfl⟩, hW, hframe⟩, hf⟩
  jvm_step X.here [X.here.top, hexec, hb, hdg, hmeth', hr, hn]
  (try refine ⟨rfl, ?_⟩); (try refine ⟨rfl, ?_⟩)
  first | (intro acts; rw [hret _ acts rfl rfl rfl]) | rw [hret _ _ rfl rfl rfl]
  exact Steps.refl _
end YCL
theorem y_g {w : Cond} (i : Nat) (h : lw_tbl[i]? = some w) (g : goodWord w = true) : w ∈ z_good := List.mem_filter.mpr ⟨List.mem_of_getElem? (i := i) h, g⟩
theorem y_S0 {G : z_G} (H : Heap) : va_S (fun q => G.1 ≤ q) H H [] := ⟨Nat.le_refl _, fun _ _ _ => rfl, fun _ h => by cases h⟩
def y_P0 (G : z_G) : State → Prop := fun U => z_St G U U.heap
def y_P1 (G : z_G) (t N : Nat) (f : Nat → Value) : State → Prop := fun U => z_St G U U.heap ∧ va_T .byte t N f (fun q => G.1 ≤ q) U U.heap
theorem y_b0 (G : z_G) : y_blind (y_P0 G) := fun _ _ U _ _ q => ⟨q.1, z_St.to (s := U) (Vm.Alike.refl _) (fun _ _ _ => rfl) q.2⟩
theorem y_b1 (G : z_G) (t N : Nat) (f : Nat → Value) : y_blind (y_P1 G t N f) := fun _ _ U _ _ q => ⟨q.1, z_St.to (s := U) (Vm.Alike.refl _) (fun _ _ _ => rfl) q.2.1, va_T.moved (u := U) (Vm.Alike.refl _) q.2.2⟩
def y_coder : z_Mt := (⟨"java/lang/String", "coder", "()B"⟩, prog_16_method_152_code, 1, some .byte)
def y_latin : z_Mt := (⟨"java/lang/String", "isLatin1", "()Z"⟩, prog_16_method_154_code, 1, some .boolean)
def y_pre : z_Mt := (⟨"jdk/internal/util/Preconditions", "checkIndex", "(IILjava/util/function/BiFunction;)I"⟩, prog_21_method_11_code, 3, some .int)
def y_chk : z_Mt := (⟨"java/lang/String", "checkIndex", "(II)V"⟩, prog_16_method_155_code, 2, none)
def y_lat : z_Mt := (⟨"java/lang/StringLatin1", "charAt", "([BI)C"⟩, prog_17_method_2_code, 2, some .char)
theorem y_m_coder (l : Launch) (G : z_G) {i : Nat} (hi : i < 6) : y_Met l y_coder 1 (y_P0 G) [.ref (G.2.1 (1000 + i))] (some (.int 0)) := by
  refine y_ofW (by decide) (Nat.le_of_ble_eq_true rfl) ?_
  intro p e s m below meth c ls hx hb hml hown hts hret hlk hP hl
  obtain ⟨adV, hS, hZ, -⟩ := hP
  obtain ⟨-, hC, -, -⟩ := hS.1 i hi
  have hg : ∀ w ∈ z_good, w.before _ s = true := fun w hw => hts w (List.mem_cons_of_mem _ hw)
  refine va_gets (index := 38) (own := "java/lang/String") (ref := "java/lang/String") hx hb hZ (y_S0 _) hown (hg _ (y_g 572 (by decide +kernel) rfl)) (fun _ h => h) (by decide +kernel) ?_
  refine lv_if_eq hx hb (off := 10) (tgt := 13) (by decide +kernel) rfl (fun h => absurd h (by decide)) (fun _ => ?_)
  refine lv_aload_n hx hb (k := 0) (i := 0) (by decide +kernel) rfl (lv_at hl 0 rfl) ?_
  refine vk_getf (index := 15) (own := "java/lang/String") (ref := "java/lang/String") hx hb hC (y_S0 _) hown (hg _ (y_g 1588 (by decide +kernel) rfl)) (fun _ h => h) (by decide +kernel) ?_
  refine lv_goto hx hb (off := 4) (tgt := 14) (by decide +kernel) rfl ?_
  exact y_ret hx hb hret rfl (fun t ht _ => ⟨rfl, ht⟩) (fun _ h => by cases h) (by decide +kernel) hlk
theorem y_m_latin (l : Launch) (G : z_G) {i : Nat} (hi : i < 6) : y_Met l y_latin 1 (y_P0 G) [.ref (G.2.1 (1000 + i))] (some (.int 1)) := by
  refine y_ofW (by decide) (Nat.le_of_ble_eq_true rfl) ?_
  intro p e s m below meth c ls hx hb hml hown hts hret hlk hP hl
  obtain ⟨adV, hS, hZ, -⟩ := hP
  obtain ⟨-, hC, -, -⟩ := hS.1 i hi
  have hg : ∀ w ∈ z_good, w.before _ s = true := fun w hw => hts w (List.mem_cons_of_mem _ hw)
  refine va_gets (index := 38) (own := "java/lang/String") (ref := "java/lang/String") hx hb hZ (y_S0 _) hown (hg _ (y_g 572 (by decide +kernel) rfl)) (fun _ h => h) (by decide +kernel) ?_
  refine lv_if_eq hx hb (off := 14) (tgt := 17) (by decide +kernel) rfl (fun h => absurd h (by decide)) (fun _ => ?_)
  refine lv_aload_n hx hb (k := 0) (i := 0) (by decide +kernel) rfl (lv_at hl 0 rfl) ?_
  refine vk_getf (index := 15) (own := "java/lang/String") (ref := "java/lang/String") hx hb hC (y_S0 _) hown (hg _ (y_g 1588 (by decide +kernel) rfl)) (fun _ h => h) (by decide +kernel) ?_
  refine lv_if_ne hx hb (off := 7) (tgt := 17) (by decide +kernel) rfl (fun h => absurd rfl h) (fun _ => ?_)
  refine lv_iconst hx hb (n := 1) (v := 1) (by decide +kernel) rfl ?_
  refine lv_goto hx hb (off := 4) (tgt := 18) (by decide +kernel) rfl ?_
  exact y_ret hx hb hret rfl (fun t ht _ => ⟨rfl, ht⟩) (fun _ h => by cases h) (by decide +kernel) hlk
theorem y_m_pre (l : Launch) (G : z_G) {k n : Int32} (v : Value) (hv : v.category = 1) (h0 : ¬ k < 0) (h1 : k < n) : y_Met l y_pre 1 (y_P0 G) [.int k, .int n, v] (some (.int k)) := by
  refine y_ofW (by decide) (by show 1 + (1 + (v.category + 0)) ≤ 3; omega) ?_
  intro p e s m below meth c ls hx hb hml hown hts hret hlk hP hl
  refine lv_iload_n hx hb (k := 0) (i := 0) (by decide +kernel) rfl (lv_at hl 0 rfl) ?_
  refine lv_if_lt hx hb (off := 8) (tgt := 9) (by decide +kernel) rfl (fun h => absurd h h0) (fun _ => ?_)
  refine lv_iload_n hx hb (k := 0) (i := 0) (by decide +kernel) rfl (lv_at hl 0 rfl) ?_
  refine lv_iload_n hx hb (k := 1) (i := 1) (by decide +kernel) rfl (lv_at hl 1 rfl) ?_
  refine lv_icmp_lt hx hb (off := 10) (tgt := 16) (by decide +kernel) rfl (fun _ => ?_) (fun h => absurd h1 h)
  refine lv_iload_n hx hb (k := 0) (i := 0) (by decide +kernel) rfl (lv_at hl 0 rfl) ?_
  exact y_ret hx hb hret rfl (fun t ht _ => ⟨rfl, ht⟩) (fun _ h => by cases h) (by decide +kernel) hlk
theorem y_m_chk (l : Launch) (G : z_G) {k n : Int32} (h0 : ¬ k < 0) (h1 : k < n) : y_Met l y_chk 2 (y_P0 G) [.int k, .int n] none := by
  refine y_ofW (by decide) (Nat.le_of_ble_eq_true rfl) ?_
  intro p e s m below meth c ls hx hb hml hown hts hret hlk hP hl
  have hP0 : ∀ U : State, U.heap = s.heap → s.WarmedH U.vm → y_P0 G U := fun U hU hW => by
    show z_St G U U.heap
    rw [hU]
    exact z_St.to hW.alike (fun _ _ _ => rfl) hP
  obtain ⟨adV, hS, -, hZ⟩ := hP
  have hg : ∀ w ∈ z_good, w.before _ s = true := fun w hw => hts w (List.mem_cons_of_mem _ hw)
  refine lv_iload_n hx hb (k := 0) (i := 0) (by decide +kernel) rfl (lv_at hl 0 rfl) ?_
  refine lv_iload_n hx hb (k := 1) (i := 1) (by decide +kernel) rfl (lv_at hl 1 rfl) ?_
  have key : ∀ v : Value, v.category = 1 → va_Z "jdk/internal/util/Preconditions" "SIOOBE_FORMATTER" "Ljava/util/function/BiFunction;" v (fun q => G.1 ≤ q) s s.heap → W p l e (headSpec (y_ws y_chk) (z_rm 2)).room s m [Value.int k, .int n].toArray below meth c s.heap [] 0 0 (MQ below (y_Qc none) [Value.int k, .int n].toArray s 0 0 (fun _ => False)) (F0 m 2 ls [.int n, .int k]) := by
    intro v hv hZ
    refine va_gets (index := 1053) (own := "java/lang/String") (ref := "jdk/internal/util/Preconditions") hx hb hZ (y_S0 _) hown (hg _ (y_g 588 (by decide +kernel) rfl)) (fun _ h => h) (by decide +kernel) ?_
    refine y_callS (own := y_chk) (t := y_pre) (i := 1059) (a := [.int k, .int n, v]) (rest := []) (k := 1) hx hb hml hown hts hl.1 (y_m_pre l G v hv h0 h1) ⟨y_g 592 (by decide +kernel) rfl, y_g 108 (by decide +kernel) rfl, by decide, (show _ = some 3 from by decide +kernel), y_g 590 (by decide +kernel) rfl, by decide⟩ (y_g 591 (by decide +kernel) rfl) (y_b0 G) hP0 ⟨Nat.le_of_ble_eq_true rfl, Nat.le_of_ble_eq_true rfl⟩ (Nat.le_of_ble_eq_true rfl) rfl (by decide +kernel) ?_
    refine lv_pop hx hb (by decide +kernel) rfl ?_
    exact z_vret hx hb hret (fun t ht _ => ⟨rfl, ht⟩) (fun _ h => by cases h) (by decide +kernel) hlk
  rcases hZ with hZ | ⟨t, hZ⟩
  · exact key _ rfl hZ
  · exact key _ rfl hZ
theorem y_m_lat (l : Launch) (G : z_G) {t N j : Nat} {f : Nat → Value} {x v : Int32} (hj : j < N) (hN : N < 1000) (hf : f j = .int x) (hv : ((x &&& 255).toUInt32 % 65536).toInt32 = v) (hn : narrow .char (.int v) = .int v) : y_Met l y_lat 3 (y_P1 G t N f) [.ref t, .int (nI j)] (some (.int v)) := by
  refine y_ofW (by decide) (Nat.le_of_ble_eq_true rfl) ?_
  intro p e s m below meth c ls hx hb hml hown hts hret hlk hP hl
  obtain ⟨hP, hT⟩ := hP
  have hP0 : ∀ U : State, U.heap = s.heap → s.WarmedH U.vm → y_P0 G U := fun U hU hW => by
    show z_St G U U.heap
    rw [hU]
    exact z_St.to hW.alike (fun _ _ _ => rfl) hP
  have hjn : (nI j).toNatClampNeg = j := nI_clamp (by omega)
  refine lv_iload_n hx hb (k := 1) (i := 1) (by decide +kernel) rfl (lv_at hl 1 rfl) ?_
  refine lv_aload_n hx hb (k := 0) (i := 0) (by decide +kernel) rfl (lv_at hl 0 rfl) ?_
  refine va_tlen hx hb hT (y_S0 _) (v := nI N) rfl (by decide +kernel) ?_
  refine y_callS (own := y_lat) (t := y_chk) (i := 9) (a := [.int (nI j), .int (nI N)]) (rest := []) (k := 2) hx hb hml hown hts hl.1 (y_m_chk l G (nI_pos (by omega)) (nI_lt hj (by omega))) ⟨y_g 587 (by decide +kernel) rfl, y_g 106 (by decide +kernel) rfl, by decide, (show _ = some 2 from by decide +kernel), y_g 585 (by decide +kernel) rfl, by decide⟩ (y_g 586 (by decide +kernel) rfl) (y_b0 G) hP0 ⟨Nat.le_of_ble_eq_true rfl, Nat.le_of_ble_eq_true rfl⟩ (Nat.le_of_ble_eq_true rfl) rfl (by decide +kernel) ?_
  refine lv_aload_n hx hb (k := 0) (i := 0) (by decide +kernel) rfl (lv_at hl 0 rfl) ?_
  refine lv_iload_n hx hb (k := 1) (i := 1) (by decide +kernel) rfl (lv_at hl 1 rfl) ?_
  refine va_tb hx hb hT (y_S0 _) (vp_in_nI hj (by omega)) (v := .int x) (by rw [hjn]; exact hf) (by decide +kernel) ?_
  refine lv_sipush hx hb (n := 255) (v := 255) (by decide +kernel) rfl ?_
  refine lv_iand hx hb (by decide +kernel) ?_
  refine lv_i2c hx hb (by decide +kernel) hv ?_
  exact y_ret hx hb hret hn (fun t ht _ => ⟨rfl, ht⟩) (fun _ h => by cases h) (by decide +kernel) hlk
