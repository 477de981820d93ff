/-! THE CLAIM OUT OF ONE WALK OF THE LAW'S BODY. Your part is whole_start (and what it stands on); all else here is the same for every law, but numbers. -/
def R_law : String := "TestChoiceLaw"
def lw_P (b : Addr) (xs : List Int32) (args : Array Value) (s : State) : Prop := args = #[.ref b] ∧ s.IntsAt b xs ∧ xs.length ≤ 2560 ∧ (Jvm.Cond.and given_1 narrow_1).before args s = true
def lw_Q (_ : Array Value) (s : State) (o : Outcome) (t : State) : Prop := o = .returned (some (.int 1)) ∧ Framed s o t [] 600000 7302250
def lw_Z (below : List Frame) (a : Array Value) (s : State) : State → Prop := fun t => ∃ o, t.status = .running ∧ Ended t below o ∧ lw_Q a s o t
/-- the law's own end, with 1 on the stack, nothing written that was there before, its room as the claim has it -/
theorem lw_ret {p : Program} {l : Launch} {e : Env} {s : State} {m : MethodId} {below : List Frame} {meth : Method} {c : Code} {b : Nat} (hx : p.tables.exec = Jvm.exec) (hb : c.code = code) (hr : meth.sig.returnType = ret) (hlocks : meth.locks = false) {pc : Nat} {H : Heap} {ls : Array Slot} (hdg : decode code pc = .ok (.ireturn, 1)) : W p l e room_1 s m #[Value.ref b] below meth c H [] 600000 7302250 (lw_Z below #[Value.ref b] s) (F0 m pc ls [.int 1]) := by
  intro T hT X
  obtain ⟨fs, hret, hrun, hended, hW, hframe⟩ := X.leave (v := some (.int 1)) (hlocks := hlocks) (fun h => by rw [hr] at h; cases h)
  have hmeth' : T.vm.method? m = some meth := X.method'
  refine ⟨T.setFrames fs, ?_, .returned (some (.int 1)), hrun, hended, rfl, ⟨_, rfl⟩, hW, hframe⟩
  jvm_step X.here [X.here.top, hx, hb, hdg, hmeth', hr, ret, narrow_b1]
  (try refine ⟨rfl, ?_⟩); (try refine ⟨rfl, ?_⟩)
  first | (intro acts; rw [hret _ acts rfl rfl rfl]) | rw [hret _ _ rfl rfl rfl]
  exact Steps.refl _
/-- what holds at the law's entry: the machine, the code, the tables' words (any of lw_tbl by 'hts w (by decide +kernel)'), the script of L ints xs at the cell b, what the Statement gives of the start (any of its parts by flat_of_before) -/
def lw_At (p : Program) (s : State) (m : MethodId) (meth : Method) (c : Code) (b L : Nat) (xs : Nat → Int32) : Prop :=
  p.tables.exec = Jvm.exec ∧ c.code = code ∧ meth.sig.returnType = ret ∧ c.maxLocals = 4 ∧ s.vm.findClass R_law = some m.cls ∧ (∀ w ∈ lw_tbl, w.before #[Value.ref b] s = true) ∧ va_X b L xs s s.heap ∧ b < s.heap.size ∧ meth.locks = false ∧ (Jvm.Cond.and given_1 narrow_1).before #[Value.ref b] s = true

/-- of a call of the law's: what the class answers, the reference answers, and the invariant holds again -/
def z_opok (Inv : z_H → Prop) (cid mid n : Nat) : Prop := ∀ h, Inv h → ∀ as : List Int32, as.length = n → ∃ (r : Int32) (h1 h2 : z_H), z_M cid (.ref 0 :: as.map Value.int) h = some (r, h1) ∧ z_M mid (.ref 122 :: as.map Value.int) h1 = some (r, h2) ∧ Inv h2
section ZLAW
variable {p : Program} {l : Launch} {e : Env} {s : State} {m : MethodId} {below : List Frame} {meth : Method} {c : Code} {Q : State → Prop} {b L : Nat} {xs : Nat → Int32} {G : z_G} {cells slots : Nat} {H : Heap} {locs : List Loc} {ls : Array Slot} {pc : Nat} {rest : List Value} {h : z_H}
theorem z_lcat : ∀ (As : List Value), z_cat (As.map (z_up G)) = z_cat As := fun As => z_cat_up G As
theorem z_lcall (C0 : lw_At p s m meth c b L xs) (hG : G.1 = s.heap.size) (hK : z_Kn G s) (hSt : z_St G s s.heap) {id i o : Nat} {As : List Value} {r : z_A} (hm : z_mok id) (hv : (z_sg id).1 = false) (hn : As.length = (z_sg id).2.1) (ho : o < 141) (hk : z_K o = (z_sg id).2.2) (h12 : 1 ≤ (z_sg id).2.2 ∧ (z_sg id).2.2 ≤ 12 ∧ (z_q (z_sg id).2.2).1 = (z_mt id).1.cls) (hM : z_Met l G id (.ref o :: As) h r) (hlk : Cond.methodLink "TestChoiceLaw" i (z_mt id).1 ∈ z_good) (hrt : (z_mt id).2.2.2 = some .int) (hrk : z_rank id (.ref o :: As) ≤ 100)
    (hd : decode code pc = .ok (.invokevirtual i, 3)) (hls : ls.size = 4) (hrest : (rest.map fun v => v.category).sum ≤ 8) (hcl : cells ≤ room_1.cells ∧ slots ≤ room_1.slots) (hR : z_Rep G h H) (hS : va_S (fun q : Nat => s.heap.size ≤ q) s.heap H locs)
    (k : ∀ (H1 : Heap) (locs1 : List Loc), z_Rep G r.2 H1 → va_S (fun q : Nat => s.heap.size ≤ q) s.heap H1 locs1 → W p l e room_1 s m #[Value.ref b] below meth c H1 locs1 cells slots Q (F0 m (pc + 3) ls (.int r.1 :: rest))) : W p l e room_1 s m #[Value.ref b] below meth c H locs cells slots Q (F0 m pc ls ((As.map (z_up G)).reverse ++ .ref (G.1 + o) :: rest)) := by
  obtain ⟨hx, hb, hr, hml, hown, hts, -⟩ := C0
  have hgood : ∀ w ∈ z_good, w.before #[Value.ref b] s = true := fun w hw => hts w (List.mem_filter.mp hw).1
  have hm0 := hm
  obtain ⟨m1, m2, m3, m4, m5, m6, m7, m8, -⟩ := hm
  rw [hv] at m5
  obtain ⟨m5a, m5b, -⟩ := m5
  have hup : z_up G (.ref o) = .ref (G.1 + o) := z_up_obj ho
  have hcell : ∃ cellB : Cell, H[G.1 + o]? = some cellB ∧ cellB.vm.isStatics = false ∧ s.vm.findClass (z_mt id).1.cls = some cellB.cls := by
    obtain ⟨cell, c1, c2, c3, -⟩ := (hR o ho).1 (by omega)
    refine ⟨cell, c1, by rw [c3]; rfl, ?_⟩
    obtain ⟨q1, -⟩ := z_q_ok _ h12.1 h12.2.1
    obtain ⟨-, hfc, -⟩ := hK.1.1 _ _ q1
    rw [c2, hk, ← h12.2.2]
    exact hfc
  have hPc : ∀ U : State, U.heap = H → s.WarmedH U.vm → z_Pc G (.ref o :: As) h (Value.ref (G.1 + o) :: As.map (z_up G)).toArray U := fun U hU hW => ⟨by rw [List.map_cons, hup], z_Kn.warm hW hK, by
    rw [hU]
    exact hSt.to hW.alike (fun q h1 h2 => hS.2.1 q h1 (by rw [← hG]; exact h2)), by rw [hU]; exact hR⟩
  have hlen : ∀ sig, parseMethodDescriptor (z_mt id).1.desc = some sig → (z_sg id).2.1 = sig.parameters.length := fun sig hs => by
    rw [hs] at m4
    exact (Option.some.inj m4).symm
  have hgi : GoodIn lw_tbl (z_ws id) := by
    intro w hw
    have key : ∀ w ∈ z_good, w ∈ lw_tbl ∧ ((w.onTables && w.keeps) = true ∨ ∃ ty, w = .arrayClass ty) := fun w hw => ⟨(List.mem_filter.mp hw).1, good_of_word (List.mem_filter.mp hw).2⟩
    rcases List.mem_cons.mp hw with rfl | hw
    · exact key _ m1
    · exact key w hw
  have hfr : room_1.frames = 2048 ∧ room_1.locals = 84000 := ⟨rfl, rfl⟩
  have hrun := va_runV (R := room_1) (p := p) (l := l) (e := e) (below := below) (meth := meth) (cells := cells) (slots := slots) (locs := locs) (C := (z_mt id).1.cls) (Ts := lw_tbl) (own := R_law) (index := i) (cc := code) (nL := 4) ⟨hx, hb, hml, hown, hts⟩ hM (cw := ⟨⟨rfl, rfl, by rw [hfr.1]; show z_rank id _ + 1 ≤ _; omega, by rw [hfr.2, m6]; show 8 + (_ + 11) + 80 * _ ≤ _; omega, pay_in hts hgi, List.mem_cons_self, hgood _ m1, hgood _ m2, m3, hlen, hgood _ hlk⟩, hgood _ m5a, hgood _ m5b⟩) (b := G.1 + o) (As := As.map (z_up G)) (rest := rest) ⟨z_blind G _ h, hcell, hPc⟩ (g := F0 m pc ls ((As.map (z_up G)).reverse ++ .ref (G.1 + o) :: rest)) rfl (by rw [List.length_map]; exact hn) hls rfl (by show 2 * 0 + _ ≤ 8; omega) hd ⟨hcl.1, hcl.2⟩
  intro T hT X
  obtain ⟨v, st₀, t, T', LL, h0, X', hL, e1, e2, ⟨hv, hR1, hz, hq⟩, st⟩ := hrun T hT X
  rw [hrt] at hv
  cases hv
  rw [h0] at hz hq
  obtain ⟨t2, a1, b1⟩ := k T'.heap (locs ++ LL) (by rw [e1]; exact hR1) ⟨by rw [e1, hz]; exact hS.1, fun q h1 h2 => by rw [e1, hq q (by rw [hG]; exact h1)]; exact hS.2.1 q h1 h2, fun q hq => by
      rcases List.mem_append.mp hq with h | h
      · exact hS.2.2 q h
      · rw [← hG]; exact hL q h⟩ T' rfl X'
  exact ⟨t2, st t2 a1, b1⟩
/-- an int of the script is laid on the stack -/
theorem z_larg (C0 : lw_At p s m meth c b L xs) (hS : va_S (fun q : Nat => s.heap.size ≤ q) s.heap H locs) {i j : Nat} (hi : i + 5 ≤ L) (hj : j < 5) (hL : L ≤ 2560) {x1 x2 : Nat} (hl : lv_has ls 4 [(0, .ref b), (1, .ref x1), (2, .ref x2), (3, .int (nI i))]) {jj : Int} (hjj : Int32.ofInt jj = nI j) (d0 : decode code pc = .ok (.aload_n 0, 1)) (d1 : decode code (pc + 1) = .ok (.iload_n 3, 1)) (d2 : decode code (pc + 2) = .ok (.iconst jj, 1)) (d3 : decode code (pc + 3) = .ok (.iadd, 1)) (d4 : decode code (pc + 4) = .ok (.iaload, 1))
    (k : W p l e room_1 s m #[Value.ref b] below meth c H locs cells slots Q (F0 m (pc + 5) ls (.int (xs (i + j)) :: rest))) : W p l e room_1 s m #[Value.ref b] below meth c H locs cells slots Q (F0 m pc ls rest) := by
  obtain ⟨hx, hb, hr, hml, hown, hts, hX, hbl, hlocks, hgv⟩ := C0
  have hbA : ¬ (fun q : Nat => s.heap.size ≤ q) b := Nat.not_le.mpr hbl
  refine lv_aload_n hx hb d0 rfl (lv_at hl 0 rfl) ?_
  refine lv_iload_n hx hb d1 rfl (lv_at hl 3 rfl) ?_
  refine lv_iconst hx hb d2 hjj ?_
  refine lv_iadd hx hb d3 ?_
  have e1 : nI i + nI j = nI (i + j) := nI_add i j
  rw [e1]
  refine va_sld hx hb hX hbl hbA hS (vp_in_nI (by omega) (by omega)) d4 ?_
  rw [nI_clamp (by omega)]
  exact k
end ZLAW
set_option maxRecDepth 8000 in
set_option maxHeartbeats 1000000 in
theorem z_law_0 {p : Program} {l : Launch} {e : Env} {s : State} {m : MethodId} {below : List Frame} {meth : Method} {c : Code} {Q : State → Prop} {b L : Nat} {xs : Nat → Int32} {G : z_G} {cells slots : Nat} {H : Heap} {locs : List Loc} {ls : Array Slot} {h : z_H} {Inv : z_H → Prop} (C0 : lw_At p s m meth c b L xs) (hL : L ≤ 2560) (hG : G.1 = s.heap.size) (hK : z_Kn G s) (hSt : z_St G s s.heap) (hmo : ∀ i, z_idok i → z_mok i) (hmet : ∀ id a h r, id < 221 → z_cat a ≤ z_ml id → z_M id a h = some r → z_Met l G id a h r) (hop : z_opok Inv 0 133 1) (hcl : cells ≤ room_1.cells ∧ slots ≤ room_1.slots)
    {i : Nat} (hi : i + 5 ≤ L) (hl : lv_has ls 4 [(0, .ref b), (1, .ref (G.1 + 0)), (2, .ref (G.1 + 122)), (3, .int (nI i))]) (hI : Inv h) (hR : z_Rep G h H) (hS : va_S (fun q : Nat => s.heap.size ≤ q) s.heap H locs)
    (k : ∀ (h2 : z_H) (H : Heap) (locs : List Loc), Inv h2 → z_Rep G h2 H → va_S (fun q : Nat => s.heap.size ≤ q) s.heap H locs → W p l e room_1 s m #[Value.ref b] below meth c H locs cells slots Q (F0 m 1071 ls [])) : W p l e room_1 s m #[Value.ref b] below meth c H locs cells slots Q (F0 m 164 ls []) := by
  obtain ⟨hx, hb, -⟩ := id C0
  obtain ⟨r, h1, h2, e1, e2, hI2⟩ := hop h hI [xs (i + 1)] rfl
  refine lv_aload_n hx hb z_ld22 rfl (lv_at hl 1 rfl) ?_
  refine z_larg C0 hS hi (j := 1) (by decide) hL hl rfl z_ld23 z_ld24 z_ld25 z_ld26 z_ld27 ?_
  refine z_lcall (As := [.int (xs (i + 1))]) (rest := []) (o := 0) C0 hG hK hSt (hmo 0 (Or.inl (by decide))) rfl rfl (by decide) (by decide +kernel) ⟨by decide, by decide, by decide +kernel⟩ (hmet 0 _ _ _ (by decide) (Nat.le_of_ble_eq_true rfl) e1) (z_wd_good (pl := 486) (by decide +kernel) rfl) rfl (Nat.le_of_ble_eq_true rfl) z_ld28 hl.1 (Nat.le_of_ble_eq_true rfl) hcl hR hS (fun H locs hR hS => ?_)
  refine lv_aload_n hx hb z_ld29 rfl (lv_at hl 2 rfl) ?_
  refine z_larg C0 hS hi (j := 1) (by decide) hL hl rfl z_ld30 z_ld31 z_ld32 z_ld33 z_ld34 ?_
  refine z_lcall (As := [.int (xs (i + 1))]) (rest := [.int r]) (o := 122) C0 hG hK hSt (hmo 133 (Or.inl (by decide))) rfl rfl (by decide) (by decide +kernel) ⟨by decide, by decide, by decide +kernel⟩ (hmet 133 _ _ _ (by decide) (Nat.le_of_ble_eq_true rfl) e2) (z_wd_good (pl := 1210) (by decide +kernel) rfl) rfl (Nat.le_of_ble_eq_true rfl) z_ld35 hl.1 (Nat.le_of_ble_eq_true rfl) hcl hR hS (fun H locs hR hS => ?_)
  refine lv_icmp_eq (tgt := 1071) hx hb z_ld36 (by decide) (fun _ => ?_) (fun q => absurd rfl q)
  exact k h2 H locs hI2 hR hS
set_option maxRecDepth 8000 in
set_option maxHeartbeats 1000000 in
theorem z_law_1 {p : Program} {l : Launch} {e : Env} {s : State} {m : MethodId} {below : List Frame} {meth : Method} {c : Code} {Q : State → Prop} {b L : Nat} {xs : Nat → Int32} {G : z_G} {cells slots : Nat} {H : Heap} {locs : List Loc} {ls : Array Slot} {h : z_H} {Inv : z_H → Prop} (C0 : lw_At p s m meth c b L xs) (hL : L ≤ 2560) (hG : G.1 = s.heap.size) (hK : z_Kn G s) (hSt : z_St G s s.heap) (hmo : ∀ i, z_idok i → z_mok i) (hmet : ∀ id a h r, id < 221 → z_cat a ≤ z_ml id → z_M id a h = some r → z_Met l G id a h r) (hop : z_opok Inv 1 134 1) (hcl : cells ≤ room_1.cells ∧ slots ≤ room_1.slots)
    {i : Nat} (hi : i + 5 ≤ L) (hl : lv_has ls 4 [(0, .ref b), (1, .ref (G.1 + 0)), (2, .ref (G.1 + 122)), (3, .int (nI i))]) (hI : Inv h) (hR : z_Rep G h H) (hS : va_S (fun q : Nat => s.heap.size ≤ q) s.heap H locs)
    (k : ∀ (h2 : z_H) (H : Heap) (locs : List Loc), Inv h2 → z_Rep G h2 H → va_S (fun q : Nat => s.heap.size ≤ q) s.heap H locs → W p l e room_1 s m #[Value.ref b] below meth c H locs cells slots Q (F0 m 1071 ls [])) : W p l e room_1 s m #[Value.ref b] below meth c H locs cells slots Q (F0 m 187 ls []) := by
  obtain ⟨hx, hb, -⟩ := id C0
  obtain ⟨r, h1, h2, e1, e2, hI2⟩ := hop h hI [xs (i + 1)] rfl
  refine lv_aload_n hx hb z_ld39 rfl (lv_at hl 1 rfl) ?_
  refine z_larg C0 hS hi (j := 1) (by decide) hL hl rfl z_ld40 z_ld41 z_ld42 z_ld43 z_ld44 ?_
  refine z_lcall (As := [.int (xs (i + 1))]) (rest := []) (o := 0) C0 hG hK hSt (hmo 1 (Or.inl (by decide))) rfl rfl (by decide) (by decide +kernel) ⟨by decide, by decide, by decide +kernel⟩ (hmet 1 _ _ _ (by decide) (Nat.le_of_ble_eq_true rfl) e1) (z_wd_good (pl := 494) (by decide +kernel) rfl) rfl (Nat.le_of_ble_eq_true rfl) z_ld45 hl.1 (Nat.le_of_ble_eq_true rfl) hcl hR hS (fun H locs hR hS => ?_)
  refine lv_aload_n hx hb z_ld46 rfl (lv_at hl 2 rfl) ?_
  refine z_larg C0 hS hi (j := 1) (by decide) hL hl rfl z_ld47 z_ld48 z_ld49 z_ld50 z_ld51 ?_
  refine z_lcall (As := [.int (xs (i + 1))]) (rest := [.int r]) (o := 122) C0 hG hK hSt (hmo 134 (Or.inl (by decide))) rfl rfl (by decide) (by decide +kernel) ⟨by decide, by decide, by decide +kernel⟩ (hmet 134 _ _ _ (by decide) (Nat.le_of_ble_eq_true rfl) e2) (z_wd_good (pl := 1218) (by decide +kernel) rfl) rfl (Nat.le_of_ble_eq_true rfl) z_ld52 hl.1 (Nat.le_of_ble_eq_true rfl) hcl hR hS (fun H locs hR hS => ?_)
  refine lv_icmp_eq (tgt := 1071) hx hb z_ld53 (by decide) (fun _ => ?_) (fun q => absurd rfl q)
  exact k h2 H locs hI2 hR hS
set_option maxRecDepth 8000 in
set_option maxHeartbeats 1000000 in
theorem z_law_2 {p : Program} {l : Launch} {e : Env} {s : State} {m : MethodId} {below : List Frame} {meth : Method} {c : Code} {Q : State → Prop} {b L : Nat} {xs : Nat → Int32} {G : z_G} {cells slots : Nat} {H : Heap} {locs : List Loc} {ls : Array Slot} {h : z_H} {Inv : z_H → Prop} (C0 : lw_At p s m meth c b L xs) (hL : L ≤ 2560) (hG : G.1 = s.heap.size) (hK : z_Kn G s) (hSt : z_St G s s.heap) (hmo : ∀ i, z_idok i → z_mok i) (hmet : ∀ id a h r, id < 221 → z_cat a ≤ z_ml id → z_M id a h = some r → z_Met l G id a h r) (hop : z_opok Inv 2 150 0) (hcl : cells ≤ room_1.cells ∧ slots ≤ room_1.slots)
    {i : Nat} (hi : i + 5 ≤ L) (hl : lv_has ls 4 [(0, .ref b), (1, .ref (G.1 + 0)), (2, .ref (G.1 + 122)), (3, .int (nI i))]) (hI : Inv h) (hR : z_Rep G h H) (hS : va_S (fun q : Nat => s.heap.size ≤ q) s.heap H locs)
    (k : ∀ (h2 : z_H) (H : Heap) (locs : List Loc), Inv h2 → z_Rep G h2 H → va_S (fun q : Nat => s.heap.size ≤ q) s.heap H locs → W p l e room_1 s m #[Value.ref b] below meth c H locs cells slots Q (F0 m 1071 ls [])) : W p l e room_1 s m #[Value.ref b] below meth c H locs cells slots Q (F0 m 210 ls []) := by
  obtain ⟨hx, hb, -⟩ := id C0
  obtain ⟨r, h1, h2, e1, e2, hI2⟩ := hop h hI [] rfl
  refine lv_aload_n hx hb z_ld56 rfl (lv_at hl 1 rfl) ?_
  refine z_lcall (As := []) (rest := []) (o := 0) C0 hG hK hSt (hmo 2 (Or.inl (by decide))) rfl rfl (by decide) (by decide +kernel) ⟨by decide, by decide, by decide +kernel⟩ (hmet 2 _ _ _ (by decide) (Nat.le_of_ble_eq_true rfl) e1) (z_wd_good (pl := 498) (by decide +kernel) rfl) rfl (Nat.le_of_ble_eq_true rfl) z_ld57 hl.1 (Nat.le_of_ble_eq_true rfl) hcl hR hS (fun H locs hR hS => ?_)
  refine lv_aload_n hx hb z_ld58 rfl (lv_at hl 2 rfl) ?_
  refine z_lcall (As := []) (rest := [.int r]) (o := 122) C0 hG hK hSt (hmo 150 (Or.inl (by decide))) rfl rfl (by decide) (by decide +kernel) ⟨by decide, by decide, by decide +kernel⟩ (hmet 150 _ _ _ (by decide) (Nat.le_of_ble_eq_true rfl) e2) (z_wd_good (pl := 1222) (by decide +kernel) rfl) rfl (Nat.le_of_ble_eq_true rfl) z_ld59 hl.1 (Nat.le_of_ble_eq_true rfl) hcl hR hS (fun H locs hR hS => ?_)
  refine lv_icmp_eq (tgt := 1071) hx hb z_ld60 (by decide) (fun _ => ?_) (fun q => absurd rfl q)
  exact k h2 H locs hI2 hR hS
set_option maxRecDepth 8000 in
set_option maxHeartbeats 1000000 in
theorem z_law_3 {p : Program} {l : Launch} {e : Env} {s : State} {m : MethodId} {below : List Frame} {meth : Method} {c : Code} {Q : State → Prop} {b L : Nat} {xs : Nat → Int32} {G : z_G} {cells slots : Nat} {H : Heap} {locs : List Loc} {ls : Array Slot} {h : z_H} {Inv : z_H → Prop} (C0 : lw_At p s m meth c b L xs) (hL : L ≤ 2560) (hG : G.1 = s.heap.size) (hK : z_Kn G s) (hSt : z_St G s s.heap) (hmo : ∀ i, z_idok i → z_mok i) (hmet : ∀ id a h r, id < 221 → z_cat a ≤ z_ml id → z_M id a h = some r → z_Met l G id a h r) (hop : z_opok Inv 3 151 0) (hcl : cells ≤ room_1.cells ∧ slots ≤ room_1.slots)
    {i : Nat} (hi : i + 5 ≤ L) (hl : lv_has ls 4 [(0, .ref b), (1, .ref (G.1 + 0)), (2, .ref (G.1 + 122)), (3, .int (nI i))]) (hI : Inv h) (hR : z_Rep G h H) (hS : va_S (fun q : Nat => s.heap.size ≤ q) s.heap H locs)
    (k : ∀ (h2 : z_H) (H : Heap) (locs : List Loc), Inv h2 → z_Rep G h2 H → va_S (fun q : Nat => s.heap.size ≤ q) s.heap H locs → W p l e room_1 s m #[Value.ref b] below meth c H locs cells slots Q (F0 m 1071 ls [])) : W p l e room_1 s m #[Value.ref b] below meth c H locs cells slots Q (F0 m 223 ls []) := by
  obtain ⟨hx, hb, -⟩ := id C0
  obtain ⟨r, h1, h2, e1, e2, hI2⟩ := hop h hI [] rfl
  refine lv_aload_n hx hb z_ld63 rfl (lv_at hl 1 rfl) ?_
  refine z_lcall (As := []) (rest := []) (o := 0) C0 hG hK hSt (hmo 3 (Or.inl (by decide))) rfl rfl (by decide) (by decide +kernel) ⟨by decide, by decide, by decide +kernel⟩ (hmet 3 _ _ _ (by decide) (Nat.le_of_ble_eq_true rfl) e1) (z_wd_good (pl := 703) (by decide +kernel) rfl) rfl (Nat.le_of_ble_eq_true rfl) z_ld64 hl.1 (Nat.le_of_ble_eq_true rfl) hcl hR hS (fun H locs hR hS => ?_)
  refine lv_aload_n hx hb z_ld65 rfl (lv_at hl 2 rfl) ?_
  refine z_lcall (As := []) (rest := [.int r]) (o := 122) C0 hG hK hSt (hmo 151 (Or.inl (by decide))) rfl rfl (by decide) (by decide +kernel) ⟨by decide, by decide, by decide +kernel⟩ (hmet 151 _ _ _ (by decide) (Nat.le_of_ble_eq_true rfl) e2) (z_wd_good (pl := 1293) (by decide +kernel) rfl) rfl (Nat.le_of_ble_eq_true rfl) z_ld66 hl.1 (Nat.le_of_ble_eq_true rfl) hcl hR hS (fun H locs hR hS => ?_)
  refine lv_icmp_eq (tgt := 1071) hx hb z_ld67 (by decide) (fun _ => ?_) (fun q => absurd rfl q)
  exact k h2 H locs hI2 hR hS
set_option maxRecDepth 8000 in
set_option maxHeartbeats 1000000 in
theorem z_law_4 {p : Program} {l : Launch} {e : Env} {s : State} {m : MethodId} {below : List Frame} {meth : Method} {c : Code} {Q : State → Prop} {b L : Nat} {xs : Nat → Int32} {G : z_G} {cells slots : Nat} {H : Heap} {locs : List Loc} {ls : Array Slot} {h : z_H} {Inv : z_H → Prop} (C0 : lw_At p s m meth c b L xs) (hL : L ≤ 2560) (hG : G.1 = s.heap.size) (hK : z_Kn G s) (hSt : z_St G s s.heap) (hmo : ∀ i, z_idok i → z_mok i) (hmet : ∀ id a h r, id < 221 → z_cat a ≤ z_ml id → z_M id a h = some r → z_Met l G id a h r) (hop : z_opok Inv 4 183 1) (hcl : cells ≤ room_1.cells ∧ slots ≤ room_1.slots)
    {i : Nat} (hi : i + 5 ≤ L) (hl : lv_has ls 4 [(0, .ref b), (1, .ref (G.1 + 0)), (2, .ref (G.1 + 122)), (3, .int (nI i))]) (hI : Inv h) (hR : z_Rep G h H) (hS : va_S (fun q : Nat => s.heap.size ≤ q) s.heap H locs)
    (k : ∀ (h2 : z_H) (H : Heap) (locs : List Loc), Inv h2 → z_Rep G h2 H → va_S (fun q : Nat => s.heap.size ≤ q) s.heap H locs → W p l e room_1 s m #[Value.ref b] below meth c H locs cells slots Q (F0 m 1071 ls [])) : W p l e room_1 s m #[Value.ref b] below meth c H locs cells slots Q (F0 m 236 ls []) := by
  obtain ⟨hx, hb, -⟩ := id C0
  obtain ⟨r, h1, h2, e1, e2, hI2⟩ := hop h hI [xs (i + 1)] rfl
  refine lv_aload_n hx hb z_ld70 rfl (lv_at hl 1 rfl) ?_
  refine z_larg C0 hS hi (j := 1) (by decide) hL hl rfl z_ld71 z_ld72 z_ld73 z_ld74 z_ld75 ?_
  refine z_lcall (As := [.int (xs (i + 1))]) (rest := []) (o := 0) C0 hG hK hSt (hmo 4 (Or.inl (by decide))) rfl rfl (by decide) (by decide +kernel) ⟨by decide, by decide, by decide +kernel⟩ (hmet 4 _ _ _ (by decide) (Nat.le_of_ble_eq_true rfl) e1) (z_wd_good (pl := 707) (by decide +kernel) rfl) rfl (Nat.le_of_ble_eq_true rfl) z_ld76 hl.1 (Nat.le_of_ble_eq_true rfl) hcl hR hS (fun H locs hR hS => ?_)
  refine lv_aload_n hx hb z_ld77 rfl (lv_at hl 2 rfl) ?_
  refine z_larg C0 hS hi (j := 1) (by decide) hL hl rfl z_ld78 z_ld79 z_ld80 z_ld81 z_ld82 ?_
  refine z_lcall (As := [.int (xs (i + 1))]) (rest := [.int r]) (o := 122) C0 hG hK hSt (hmo 183 (Or.inl (by decide))) rfl rfl (by decide) (by decide +kernel) ⟨by decide, by decide, by decide +kernel⟩ (hmet 183 _ _ _ (by decide) (Nat.le_of_ble_eq_true rfl) e2) (z_wd_good (pl := 1297) (by decide +kernel) rfl) rfl (Nat.le_of_ble_eq_true rfl) z_ld83 hl.1 (Nat.le_of_ble_eq_true rfl) hcl hR hS (fun H locs hR hS => ?_)
  refine lv_icmp_eq (tgt := 1071) hx hb z_ld84 (by decide) (fun _ => ?_) (fun q => absurd rfl q)
  exact k h2 H locs hI2 hR hS
set_option maxRecDepth 8000 in
set_option maxHeartbeats 1000000 in
theorem z_law_5 {p : Program} {l : Launch} {e : Env} {s : State} {m : MethodId} {below : List Frame} {meth : Method} {c : Code} {Q : State → Prop} {b L : Nat} {xs : Nat → Int32} {G : z_G} {cells slots : Nat} {H : Heap} {locs : List Loc} {ls : Array Slot} {h : z_H} {Inv : z_H → Prop} (C0 : lw_At p s m meth c b L xs) (hL : L ≤ 2560) (hG : G.1 = s.heap.size) (hK : z_Kn G s) (hSt : z_St G s s.heap) (hmo : ∀ i, z_idok i → z_mok i) (hmet : ∀ id a h r, id < 221 → z_cat a ≤ z_ml id → z_M id a h = some r → z_Met l G id a h r) (hop : z_opok Inv 5 184 3) (hcl : cells ≤ room_1.cells ∧ slots ≤ room_1.slots)
    {i : Nat} (hi : i + 5 ≤ L) (hl : lv_has ls 4 [(0, .ref b), (1, .ref (G.1 + 0)), (2, .ref (G.1 + 122)), (3, .int (nI i))]) (hI : Inv h) (hR : z_Rep G h H) (hS : va_S (fun q : Nat => s.heap.size ≤ q) s.heap H locs)
    (k : ∀ (h2 : z_H) (H : Heap) (locs : List Loc), Inv h2 → z_Rep G h2 H → va_S (fun q : Nat => s.heap.size ≤ q) s.heap H locs → W p l e room_1 s m #[Value.ref b] below meth c H locs cells slots Q (F0 m 1071 ls [])) : W p l e room_1 s m #[Value.ref b] below meth c H locs cells slots Q (F0 m 259 ls []) := by
  obtain ⟨hx, hb, -⟩ := id C0
  obtain ⟨r, h1, h2, e1, e2, hI2⟩ := hop h hI [xs (i + 1), xs (i + 2), xs (i + 3)] rfl
  refine lv_aload_n hx hb z_ld87 rfl (lv_at hl 1 rfl) ?_
  refine z_larg C0 hS hi (j := 1) (by decide) hL hl rfl z_ld88 z_ld89 z_ld90 z_ld91 z_ld92 ?_
  refine z_larg C0 hS hi (j := 2) (by decide) hL hl rfl z_ld93 z_ld94 z_ld95 z_ld96 z_ld97 ?_
  refine z_larg C0 hS hi (j := 3) (by decide) hL hl rfl z_ld98 z_ld99 z_ld100 z_ld101 z_ld102 ?_
  refine z_lcall (As := [.int (xs (i + 1)), .int (xs (i + 2)), .int (xs (i + 3))]) (rest := []) (o := 0) C0 hG hK hSt (hmo 5 (Or.inl (by decide))) rfl rfl (by decide) (by decide +kernel) ⟨by decide, by decide, by decide +kernel⟩ (hmet 5 _ _ _ (by decide) (Nat.le_of_ble_eq_true rfl) e1) (z_wd_good (pl := 847) (by decide +kernel) rfl) rfl (Nat.le_of_ble_eq_true rfl) z_ld103 hl.1 (Nat.le_of_ble_eq_true rfl) hcl hR hS (fun H locs hR hS => ?_)
  refine lv_aload_n hx hb z_ld104 rfl (lv_at hl 2 rfl) ?_
  refine z_larg C0 hS hi (j := 1) (by decide) hL hl rfl z_ld105 z_ld106 z_ld107 z_ld108 z_ld109 ?_
  refine z_larg C0 hS hi (j := 2) (by decide) hL hl rfl z_ld110 z_ld111 z_ld112 z_ld113 z_ld114 ?_
  refine z_larg C0 hS hi (j := 3) (by decide) hL hl rfl z_ld115 z_ld116 z_ld117 z_ld118 z_ld119 ?_
  refine z_lcall (As := [.int (xs (i + 1)), .int (xs (i + 2)), .int (xs (i + 3))]) (rest := [.int r]) (o := 122) C0 hG hK hSt (hmo 184 (Or.inl (by decide))) rfl rfl (by decide) (by decide +kernel) ⟨by decide, by decide, by decide +kernel⟩ (hmet 184 _ _ _ (by decide) (Nat.le_of_ble_eq_true rfl) e2) (z_wd_good (pl := 1400) (by decide +kernel) rfl) rfl (Nat.le_of_ble_eq_true rfl) z_ld120 hl.1 (Nat.le_of_ble_eq_true rfl) hcl hR hS (fun H locs hR hS => ?_)
  refine lv_icmp_eq (tgt := 1071) hx hb z_ld121 (by decide) (fun _ => ?_) (fun q => absurd rfl q)
  exact k h2 H locs hI2 hR hS
set_option maxRecDepth 8000 in
set_option maxHeartbeats 1000000 in
theorem z_law_6 {p : Program} {l : Launch} {e : Env} {s : State} {m : MethodId} {below : List Frame} {meth : Method} {c : Code} {Q : State → Prop} {b L : Nat} {xs : Nat → Int32} {G : z_G} {cells slots : Nat} {H : Heap} {locs : List Loc} {ls : Array Slot} {h : z_H} {Inv : z_H → Prop} (C0 : lw_At p s m meth c b L xs) (hL : L ≤ 2560) (hG : G.1 = s.heap.size) (hK : z_Kn G s) (hSt : z_St G s s.heap) (hmo : ∀ i, z_idok i → z_mok i) (hmet : ∀ id a h r, id < 221 → z_cat a ≤ z_ml id → z_M id a h = some r → z_Met l G id a h r) (hop : z_opok Inv 6 185 3) (hcl : cells ≤ room_1.cells ∧ slots ≤ room_1.slots)
    {i : Nat} (hi : i + 5 ≤ L) (hl : lv_has ls 4 [(0, .ref b), (1, .ref (G.1 + 0)), (2, .ref (G.1 + 122)), (3, .int (nI i))]) (hI : Inv h) (hR : z_Rep G h H) (hS : va_S (fun q : Nat => s.heap.size ≤ q) s.heap H locs)
    (k : ∀ (h2 : z_H) (H : Heap) (locs : List Loc), Inv h2 → z_Rep G h2 H → va_S (fun q : Nat => s.heap.size ≤ q) s.heap H locs → W p l e room_1 s m #[Value.ref b] below meth c H locs cells slots Q (F0 m 1071 ls [])) : W p l e room_1 s m #[Value.ref b] below meth c H locs cells slots Q (F0 m 302 ls []) := by
  obtain ⟨hx, hb, -⟩ := id C0
  obtain ⟨r, h1, h2, e1, e2, hI2⟩ := hop h hI [xs (i + 1), xs (i + 2), xs (i + 3)] rfl
  refine lv_aload_n hx hb z_ld124 rfl (lv_at hl 1 rfl) ?_
  refine z_larg C0 hS hi (j := 1) (by decide) hL hl rfl z_ld125 z_ld126 z_ld127 z_ld128 z_ld129 ?_
  refine z_larg C0 hS hi (j := 2) (by decide) hL hl rfl z_ld130 z_ld131 z_ld132 z_ld133 z_ld134 ?_
  refine z_larg C0 hS hi (j := 3) (by decide) hL hl rfl z_ld135 z_ld136 z_ld137 z_ld138 z_ld139 ?_
  refine z_lcall (As := [.int (xs (i + 1)), .int (xs (i + 2)), .int (xs (i + 3))]) (rest := []) (o := 0) C0 hG hK hSt (hmo 6 (Or.inl (by decide))) rfl rfl (by decide) (by decide +kernel) ⟨by decide, by decide, by decide +kernel⟩ (hmet 6 _ _ _ (by decide) (Nat.le_of_ble_eq_true rfl) e1) (z_wd_good (pl := 863) (by decide +kernel) rfl) rfl (Nat.le_of_ble_eq_true rfl) z_ld140 hl.1 (Nat.le_of_ble_eq_true rfl) hcl hR hS (fun H locs hR hS => ?_)
  refine lv_aload_n hx hb z_ld141 rfl (lv_at hl 2 rfl) ?_
  refine z_larg C0 hS hi (j := 1) (by decide) hL hl rfl z_ld142 z_ld143 z_ld144 z_ld145 z_ld146 ?_
  refine z_larg C0 hS hi (j := 2) (by decide) hL hl rfl z_ld147 z_ld148 z_ld149 z_ld150 z_ld151 ?_
  refine z_larg C0 hS hi (j := 3) (by decide) hL hl rfl z_ld152 z_ld153 z_ld154 z_ld155 z_ld156 ?_
  refine z_lcall (As := [.int (xs (i + 1)), .int (xs (i + 2)), .int (xs (i + 3))]) (rest := [.int r]) (o := 122) C0 hG hK hSt (hmo 185 (Or.inl (by decide))) rfl rfl (by decide) (by decide +kernel) ⟨by decide, by decide, by decide +kernel⟩ (hmet 185 _ _ _ (by decide) (Nat.le_of_ble_eq_true rfl) e2) (z_wd_good (pl := 1413) (by decide +kernel) rfl) rfl (Nat.le_of_ble_eq_true rfl) z_ld157 hl.1 (Nat.le_of_ble_eq_true rfl) hcl hR hS (fun H locs hR hS => ?_)
  refine lv_icmp_eq (tgt := 1071) hx hb z_ld158 (by decide) (fun _ => ?_) (fun q => absurd rfl q)
  exact k h2 H locs hI2 hR hS
set_option maxRecDepth 8000 in
set_option maxHeartbeats 1000000 in
theorem z_law_7 {p : Program} {l : Launch} {e : Env} {s : State} {m : MethodId} {below : List Frame} {meth : Method} {c : Code} {Q : State → Prop} {b L : Nat} {xs : Nat → Int32} {G : z_G} {cells slots : Nat} {H : Heap} {locs : List Loc} {ls : Array Slot} {h : z_H} {Inv : z_H → Prop} (C0 : lw_At p s m meth c b L xs) (hL : L ≤ 2560) (hG : G.1 = s.heap.size) (hK : z_Kn G s) (hSt : z_St G s s.heap) (hmo : ∀ i, z_idok i → z_mok i) (hmet : ∀ id a h r, id < 221 → z_cat a ≤ z_ml id → z_M id a h = some r → z_Met l G id a h r) (hop : z_opok Inv 7 190 2) (hcl : cells ≤ room_1.cells ∧ slots ≤ room_1.slots)
    {i : Nat} (hi : i + 5 ≤ L) (hl : lv_has ls 4 [(0, .ref b), (1, .ref (G.1 + 0)), (2, .ref (G.1 + 122)), (3, .int (nI i))]) (hI : Inv h) (hR : z_Rep G h H) (hS : va_S (fun q : Nat => s.heap.size ≤ q) s.heap H locs)
    (k : ∀ (h2 : z_H) (H : Heap) (locs : List Loc), Inv h2 → z_Rep G h2 H → va_S (fun q : Nat => s.heap.size ≤ q) s.heap H locs → W p l e room_1 s m #[Value.ref b] below meth c H locs cells slots Q (F0 m 1071 ls [])) : W p l e room_1 s m #[Value.ref b] below meth c H locs cells slots Q (F0 m 345 ls []) := by
  obtain ⟨hx, hb, -⟩ := id C0
  obtain ⟨r, h1, h2, e1, e2, hI2⟩ := hop h hI [xs (i + 1), xs (i + 2)] rfl
  refine lv_aload_n hx hb z_ld161 rfl (lv_at hl 1 rfl) ?_
  refine z_larg C0 hS hi (j := 1) (by decide) hL hl rfl z_ld162 z_ld163 z_ld164 z_ld165 z_ld166 ?_
  refine z_larg C0 hS hi (j := 2) (by decide) hL hl rfl z_ld167 z_ld168 z_ld169 z_ld170 z_ld171 ?_
  refine z_lcall (As := [.int (xs (i + 1)), .int (xs (i + 2))]) (rest := []) (o := 0) C0 hG hK hSt (hmo 7 (Or.inl (by decide))) rfl rfl (by decide) (by decide +kernel) ⟨by decide, by decide, by decide +kernel⟩ (hmet 7 _ _ _ (by decide) (Nat.le_of_ble_eq_true rfl) e1) (z_wd_good (pl := 877) (by decide +kernel) rfl) rfl (Nat.le_of_ble_eq_true rfl) z_ld172 hl.1 (Nat.le_of_ble_eq_true rfl) hcl hR hS (fun H locs hR hS => ?_)
  refine lv_aload_n hx hb z_ld173 rfl (lv_at hl 2 rfl) ?_
  refine z_larg C0 hS hi (j := 1) (by decide) hL hl rfl z_ld174 z_ld175 z_ld176 z_ld177 z_ld178 ?_
  refine z_larg C0 hS hi (j := 2) (by decide) hL hl rfl z_ld179 z_ld180 z_ld181 z_ld182 z_ld183 ?_
  refine z_lcall (As := [.int (xs (i + 1)), .int (xs (i + 2))]) (rest := [.int r]) (o := 122) C0 hG hK hSt (hmo 190 (Or.inl (by decide))) rfl rfl (by decide) (by decide +kernel) ⟨by decide, by decide, by decide +kernel⟩ (hmet 190 _ _ _ (by decide) (Nat.le_of_ble_eq_true rfl) e2) (z_wd_good (pl := 1428) (by decide +kernel) rfl) rfl (Nat.le_of_ble_eq_true rfl) z_ld184 hl.1 (Nat.le_of_ble_eq_true rfl) hcl hR hS (fun H locs hR hS => ?_)
  refine lv_icmp_eq (tgt := 1071) hx hb z_ld185 (by decide) (fun _ => ?_) (fun q => absurd rfl q)
  exact k h2 H locs hI2 hR hS
set_option maxRecDepth 8000 in
set_option maxHeartbeats 1000000 in
theorem z_law_8 {p : Program} {l : Launch} {e : Env} {s : State} {m : MethodId} {below : List Frame} {meth : Method} {c : Code} {Q : State → Prop} {b L : Nat} {xs : Nat → Int32} {G : z_G} {cells slots : Nat} {H : Heap} {locs : List Loc} {ls : Array Slot} {h : z_H} {Inv : z_H → Prop} (C0 : lw_At p s m meth c b L xs) (hL : L ≤ 2560) (hG : G.1 = s.heap.size) (hK : z_Kn G s) (hSt : z_St G s s.heap) (hmo : ∀ i, z_idok i → z_mok i) (hmet : ∀ id a h r, id < 221 → z_cat a ≤ z_ml id → z_M id a h = some r → z_Met l G id a h r) (hop : z_opok Inv 8 191 2) (hcl : cells ≤ room_1.cells ∧ slots ≤ room_1.slots)
    {i : Nat} (hi : i + 5 ≤ L) (hl : lv_has ls 4 [(0, .ref b), (1, .ref (G.1 + 0)), (2, .ref (G.1 + 122)), (3, .int (nI i))]) (hI : Inv h) (hR : z_Rep G h H) (hS : va_S (fun q : Nat => s.heap.size ≤ q) s.heap H locs)
    (k : ∀ (h2 : z_H) (H : Heap) (locs : List Loc), Inv h2 → z_Rep G h2 H → va_S (fun q : Nat => s.heap.size ≤ q) s.heap H locs → W p l e room_1 s m #[Value.ref b] below meth c H locs cells slots Q (F0 m 1071 ls [])) : W p l e room_1 s m #[Value.ref b] below meth c H locs cells slots Q (F0 m 378 ls []) := by
  obtain ⟨hx, hb, -⟩ := id C0
  obtain ⟨r, h1, h2, e1, e2, hI2⟩ := hop h hI [xs (i + 1), xs (i + 2)] rfl
  refine lv_aload_n hx hb z_ld188 rfl (lv_at hl 1 rfl) ?_
  refine z_larg C0 hS hi (j := 1) (by decide) hL hl rfl z_ld189 z_ld190 z_ld191 z_ld192 z_ld193 ?_
  refine z_larg C0 hS hi (j := 2) (by decide) hL hl rfl z_ld194 z_ld195 z_ld196 z_ld197 z_ld198 ?_
  refine z_lcall (As := [.int (xs (i + 1)), .int (xs (i + 2))]) (rest := []) (o := 0) C0 hG hK hSt (hmo 8 (Or.inl (by decide))) rfl rfl (by decide) (by decide +kernel) ⟨by decide, by decide, by decide +kernel⟩ (hmet 8 _ _ _ (by decide) (Nat.le_of_ble_eq_true rfl) e1) (z_wd_good (pl := 894) (by decide +kernel) rfl) rfl (Nat.le_of_ble_eq_true rfl) z_ld199 hl.1 (Nat.le_of_ble_eq_true rfl) hcl hR hS (fun H locs hR hS => ?_)
  refine lv_aload_n hx hb z_ld200 rfl (lv_at hl 2 rfl) ?_
  refine z_larg C0 hS hi (j := 1) (by decide) hL hl rfl z_ld201 z_ld202 z_ld203 z_ld204 z_ld205 ?_
  refine z_larg C0 hS hi (j := 2) (by decide) hL hl rfl z_ld206 z_ld207 z_ld208 z_ld209 z_ld210 ?_
  refine z_lcall (As := [.int (xs (i + 1)), .int (xs (i + 2))]) (rest := [.int r]) (o := 122) C0 hG hK hSt (hmo 191 (Or.inl (by decide))) rfl rfl (by decide) (by decide +kernel) ⟨by decide, by decide, by decide +kernel⟩ (hmet 191 _ _ _ (by decide) (Nat.le_of_ble_eq_true rfl) e2) (z_wd_good (pl := 1456) (by decide +kernel) rfl) rfl (Nat.le_of_ble_eq_true rfl) z_ld211 hl.1 (Nat.le_of_ble_eq_true rfl) hcl hR hS (fun H locs hR hS => ?_)
  refine lv_icmp_eq (tgt := 1071) hx hb z_ld212 (by decide) (fun _ => ?_) (fun q => absurd rfl q)
  exact k h2 H locs hI2 hR hS
set_option maxRecDepth 8000 in
set_option maxHeartbeats 1000000 in
theorem z_law_9 {p : Program} {l : Launch} {e : Env} {s : State} {m : MethodId} {below : List Frame} {meth : Method} {c : Code} {Q : State → Prop} {b L : Nat} {xs : Nat → Int32} {G : z_G} {cells slots : Nat} {H : Heap} {locs : List Loc} {ls : Array Slot} {h : z_H} {Inv : z_H → Prop} (C0 : lw_At p s m meth c b L xs) (hL : L ≤ 2560) (hG : G.1 = s.heap.size) (hK : z_Kn G s) (hSt : z_St G s s.heap) (hmo : ∀ i, z_idok i → z_mok i) (hmet : ∀ id a h r, id < 221 → z_cat a ≤ z_ml id → z_M id a h = some r → z_Met l G id a h r) (hop : z_opok Inv 9 194 2) (hcl : cells ≤ room_1.cells ∧ slots ≤ room_1.slots)
    {i : Nat} (hi : i + 5 ≤ L) (hl : lv_has ls 4 [(0, .ref b), (1, .ref (G.1 + 0)), (2, .ref (G.1 + 122)), (3, .int (nI i))]) (hI : Inv h) (hR : z_Rep G h H) (hS : va_S (fun q : Nat => s.heap.size ≤ q) s.heap H locs)
    (k : ∀ (h2 : z_H) (H : Heap) (locs : List Loc), Inv h2 → z_Rep G h2 H → va_S (fun q : Nat => s.heap.size ≤ q) s.heap H locs → W p l e room_1 s m #[Value.ref b] below meth c H locs cells slots Q (F0 m 1071 ls [])) : W p l e room_1 s m #[Value.ref b] below meth c H locs cells slots Q (F0 m 411 ls []) := by
  obtain ⟨hx, hb, -⟩ := id C0
  obtain ⟨r, h1, h2, e1, e2, hI2⟩ := hop h hI [xs (i + 1), xs (i + 2)] rfl
  refine lv_aload_n hx hb z_ld215 rfl (lv_at hl 1 rfl) ?_
  refine z_larg C0 hS hi (j := 1) (by decide) hL hl rfl z_ld216 z_ld217 z_ld218 z_ld219 z_ld220 ?_
  refine z_larg C0 hS hi (j := 2) (by decide) hL hl rfl z_ld221 z_ld222 z_ld223 z_ld224 z_ld225 ?_
  refine z_lcall (As := [.int (xs (i + 1)), .int (xs (i + 2))]) (rest := []) (o := 0) C0 hG hK hSt (hmo 9 (Or.inl (by decide))) rfl rfl (by decide) (by decide +kernel) ⟨by decide, by decide, by decide +kernel⟩ (hmet 9 _ _ _ (by decide) (Nat.le_of_ble_eq_true rfl) e1) (z_wd_good (pl := 898) (by decide +kernel) rfl) rfl (Nat.le_of_ble_eq_true rfl) z_ld226 hl.1 (Nat.le_of_ble_eq_true rfl) hcl hR hS (fun H locs hR hS => ?_)
  refine lv_aload_n hx hb z_ld227 rfl (lv_at hl 2 rfl) ?_
  refine z_larg C0 hS hi (j := 1) (by decide) hL hl rfl z_ld228 z_ld229 z_ld230 z_ld231 z_ld232 ?_
  refine z_larg C0 hS hi (j := 2) (by decide) hL hl rfl z_ld233 z_ld234 z_ld235 z_ld236 z_ld237 ?_
  refine z_lcall (As := [.int (xs (i + 1)), .int (xs (i + 2))]) (rest := [.int r]) (o := 122) C0 hG hK hSt (hmo 194 (Or.inl (by decide))) rfl rfl (by decide) (by decide +kernel) ⟨by decide, by decide, by decide +kernel⟩ (hmet 194 _ _ _ (by decide) (Nat.le_of_ble_eq_true rfl) e2) (z_wd_good (pl := 1460) (by decide +kernel) rfl) rfl (Nat.le_of_ble_eq_true rfl) z_ld238 hl.1 (Nat.le_of_ble_eq_true rfl) hcl hR hS (fun H locs hR hS => ?_)
  refine lv_icmp_eq (tgt := 1071) hx hb z_ld239 (by decide) (fun _ => ?_) (fun q => absurd rfl q)
  exact k h2 H locs hI2 hR hS
set_option maxRecDepth 8000 in
set_option maxHeartbeats 1000000 in
theorem z_law_10 {p : Program} {l : Launch} {e : Env} {s : State} {m : MethodId} {below : List Frame} {meth : Method} {c : Code} {Q : State → Prop} {b L : Nat} {xs : Nat → Int32} {G : z_G} {cells slots : Nat} {H : Heap} {locs : List Loc} {ls : Array Slot} {h : z_H} {Inv : z_H → Prop} (C0 : lw_At p s m meth c b L xs) (hL : L ≤ 2560) (hG : G.1 = s.heap.size) (hK : z_Kn G s) (hSt : z_St G s s.heap) (hmo : ∀ i, z_idok i → z_mok i) (hmet : ∀ id a h r, id < 221 → z_cat a ≤ z_ml id → z_M id a h = some r → z_Met l G id a h r) (hop : z_opok Inv 10 195 2) (hcl : cells ≤ room_1.cells ∧ slots ≤ room_1.slots)
    {i : Nat} (hi : i + 5 ≤ L) (hl : lv_has ls 4 [(0, .ref b), (1, .ref (G.1 + 0)), (2, .ref (G.1 + 122)), (3, .int (nI i))]) (hI : Inv h) (hR : z_Rep G h H) (hS : va_S (fun q : Nat => s.heap.size ≤ q) s.heap H locs)
    (k : ∀ (h2 : z_H) (H : Heap) (locs : List Loc), Inv h2 → z_Rep G h2 H → va_S (fun q : Nat => s.heap.size ≤ q) s.heap H locs → W p l e room_1 s m #[Value.ref b] below meth c H locs cells slots Q (F0 m 1071 ls [])) : W p l e room_1 s m #[Value.ref b] below meth c H locs cells slots Q (F0 m 444 ls []) := by
  obtain ⟨hx, hb, -⟩ := id C0
  obtain ⟨r, h1, h2, e1, e2, hI2⟩ := hop h hI [xs (i + 1), xs (i + 2)] rfl
  refine lv_aload_n hx hb z_ld242 rfl (lv_at hl 1 rfl) ?_
  refine z_larg C0 hS hi (j := 1) (by decide) hL hl rfl z_ld243 z_ld244 z_ld245 z_ld246 z_ld247 ?_
  refine z_larg C0 hS hi (j := 2) (by decide) hL hl rfl z_ld248 z_ld249 z_ld250 z_ld251 z_ld252 ?_
  refine z_lcall (As := [.int (xs (i + 1)), .int (xs (i + 2))]) (rest := []) (o := 0) C0 hG hK hSt (hmo 10 (Or.inl (by decide))) rfl rfl (by decide) (by decide +kernel) ⟨by decide, by decide, by decide +kernel⟩ (hmet 10 _ _ _ (by decide) (Nat.le_of_ble_eq_true rfl) e1) (z_wd_good (pl := 921) (by decide +kernel) rfl) rfl (Nat.le_of_ble_eq_true rfl) z_ld253 hl.1 (Nat.le_of_ble_eq_true rfl) hcl hR hS (fun H locs hR hS => ?_)
  refine lv_aload_n hx hb z_ld254 rfl (lv_at hl 2 rfl) ?_
  refine z_larg C0 hS hi (j := 1) (by decide) hL hl rfl z_ld255 z_ld256 z_ld257 z_ld258 z_ld259 ?_
  refine z_larg C0 hS hi (j := 2) (by decide) hL hl rfl z_ld260 z_ld261 z_ld262 z_ld263 z_ld264 ?_
  refine z_lcall (As := [.int (xs (i + 1)), .int (xs (i + 2))]) (rest := [.int r]) (o := 122) C0 hG hK hSt (hmo 195 (Or.inl (by decide))) rfl rfl (by decide) (by decide +kernel) ⟨by decide, by decide, by decide +kernel⟩ (hmet 195 _ _ _ (by decide) (Nat.le_of_ble_eq_true rfl) e2) (z_wd_good (pl := 1477) (by decide +kernel) rfl) rfl (Nat.le_of_ble_eq_true rfl) z_ld265 hl.1 (Nat.le_of_ble_eq_true rfl) hcl hR hS (fun H locs hR hS => ?_)
  refine lv_icmp_eq (tgt := 1071) hx hb z_ld266 (by decide) (fun _ => ?_) (fun q => absurd rfl q)
  exact k h2 H locs hI2 hR hS
set_option maxRecDepth 8000 in
set_option maxHeartbeats 1000000 in
theorem z_law_11 {p : Program} {l : Launch} {e : Env} {s : State} {m : MethodId} {below : List Frame} {meth : Method} {c : Code} {Q : State → Prop} {b L : Nat} {xs : Nat → Int32} {G : z_G} {cells slots : Nat} {H : Heap} {locs : List Loc} {ls : Array Slot} {h : z_H} {Inv : z_H → Prop} (C0 : lw_At p s m meth c b L xs) (hL : L ≤ 2560) (hG : G.1 = s.heap.size) (hK : z_Kn G s) (hSt : z_St G s s.heap) (hmo : ∀ i, z_idok i → z_mok i) (hmet : ∀ id a h r, id < 221 → z_cat a ≤ z_ml id → z_M id a h = some r → z_Met l G id a h r) (hop : z_opok Inv 11 196 2) (hcl : cells ≤ room_1.cells ∧ slots ≤ room_1.slots)
    {i : Nat} (hi : i + 5 ≤ L) (hl : lv_has ls 4 [(0, .ref b), (1, .ref (G.1 + 0)), (2, .ref (G.1 + 122)), (3, .int (nI i))]) (hI : Inv h) (hR : z_Rep G h H) (hS : va_S (fun q : Nat => s.heap.size ≤ q) s.heap H locs)
    (k : ∀ (h2 : z_H) (H : Heap) (locs : List Loc), Inv h2 → z_Rep G h2 H → va_S (fun q : Nat => s.heap.size ≤ q) s.heap H locs → W p l e room_1 s m #[Value.ref b] below meth c H locs cells slots Q (F0 m 1071 ls [])) : W p l e room_1 s m #[Value.ref b] below meth c H locs cells slots Q (F0 m 477 ls []) := by
  obtain ⟨hx, hb, -⟩ := id C0
  obtain ⟨r, h1, h2, e1, e2, hI2⟩ := hop h hI [xs (i + 1), xs (i + 2)] rfl
  refine lv_aload_n hx hb z_ld269 rfl (lv_at hl 1 rfl) ?_
  refine z_larg C0 hS hi (j := 1) (by decide) hL hl rfl z_ld270 z_ld271 z_ld272 z_ld273 z_ld274 ?_
  refine z_larg C0 hS hi (j := 2) (by decide) hL hl rfl z_ld275 z_ld276 z_ld277 z_ld278 z_ld279 ?_
  refine z_lcall (As := [.int (xs (i + 1)), .int (xs (i + 2))]) (rest := []) (o := 0) C0 hG hK hSt (hmo 11 (Or.inl (by decide))) rfl rfl (by decide) (by decide +kernel) ⟨by decide, by decide, by decide +kernel⟩ (hmet 11 _ _ _ (by decide) (Nat.le_of_ble_eq_true rfl) e1) (z_wd_good (pl := 925) (by decide +kernel) rfl) rfl (Nat.le_of_ble_eq_true rfl) z_ld280 hl.1 (Nat.le_of_ble_eq_true rfl) hcl hR hS (fun H locs hR hS => ?_)
  refine lv_aload_n hx hb z_ld281 rfl (lv_at hl 2 rfl) ?_
  refine z_larg C0 hS hi (j := 1) (by decide) hL hl rfl z_ld282 z_ld283 z_ld284 z_ld285 z_ld286 ?_
  refine z_larg C0 hS hi (j := 2) (by decide) hL hl rfl z_ld287 z_ld288 z_ld289 z_ld290 z_ld291 ?_
  refine z_lcall (As := [.int (xs (i + 1)), .int (xs (i + 2))]) (rest := [.int r]) (o := 122) C0 hG hK hSt (hmo 196 (Or.inl (by decide))) rfl rfl (by decide) (by decide +kernel) ⟨by decide, by decide, by decide +kernel⟩ (hmet 196 _ _ _ (by decide) (Nat.le_of_ble_eq_true rfl) e2) (z_wd_good (pl := 1481) (by decide +kernel) rfl) rfl (Nat.le_of_ble_eq_true rfl) z_ld292 hl.1 (Nat.le_of_ble_eq_true rfl) hcl hR hS (fun H locs hR hS => ?_)
  refine lv_icmp_eq (tgt := 1071) hx hb z_ld293 (by decide) (fun _ => ?_) (fun q => absurd rfl q)
  exact k h2 H locs hI2 hR hS
set_option maxRecDepth 8000 in
set_option maxHeartbeats 1000000 in
theorem z_law_12 {p : Program} {l : Launch} {e : Env} {s : State} {m : MethodId} {below : List Frame} {meth : Method} {c : Code} {Q : State → Prop} {b L : Nat} {xs : Nat → Int32} {G : z_G} {cells slots : Nat} {H : Heap} {locs : List Loc} {ls : Array Slot} {h : z_H} {Inv : z_H → Prop} (C0 : lw_At p s m meth c b L xs) (hL : L ≤ 2560) (hG : G.1 = s.heap.size) (hK : z_Kn G s) (hSt : z_St G s s.heap) (hmo : ∀ i, z_idok i → z_mok i) (hmet : ∀ id a h r, id < 221 → z_cat a ≤ z_ml id → z_M id a h = some r → z_Met l G id a h r) (hop : z_opok Inv 12 197 1) (hcl : cells ≤ room_1.cells ∧ slots ≤ room_1.slots)
    {i : Nat} (hi : i + 5 ≤ L) (hl : lv_has ls 4 [(0, .ref b), (1, .ref (G.1 + 0)), (2, .ref (G.1 + 122)), (3, .int (nI i))]) (hI : Inv h) (hR : z_Rep G h H) (hS : va_S (fun q : Nat => s.heap.size ≤ q) s.heap H locs)
    (k : ∀ (h2 : z_H) (H : Heap) (locs : List Loc), Inv h2 → z_Rep G h2 H → va_S (fun q : Nat => s.heap.size ≤ q) s.heap H locs → W p l e room_1 s m #[Value.ref b] below meth c H locs cells slots Q (F0 m 1071 ls [])) : W p l e room_1 s m #[Value.ref b] below meth c H locs cells slots Q (F0 m 510 ls []) := by
  obtain ⟨hx, hb, -⟩ := id C0
  obtain ⟨r, h1, h2, e1, e2, hI2⟩ := hop h hI [xs (i + 1)] rfl
  refine lv_aload_n hx hb z_ld296 rfl (lv_at hl 1 rfl) ?_
  refine z_larg C0 hS hi (j := 1) (by decide) hL hl rfl z_ld297 z_ld298 z_ld299 z_ld300 z_ld301 ?_
  refine z_lcall (As := [.int (xs (i + 1))]) (rest := []) (o := 0) C0 hG hK hSt (hmo 12 (Or.inl (by decide))) rfl rfl (by decide) (by decide +kernel) ⟨by decide, by decide, by decide +kernel⟩ (hmet 12 _ _ _ (by decide) (Nat.le_of_ble_eq_true rfl) e1) (z_wd_good (pl := 929) (by decide +kernel) rfl) rfl (Nat.le_of_ble_eq_true rfl) z_ld302 hl.1 (Nat.le_of_ble_eq_true rfl) hcl hR hS (fun H locs hR hS => ?_)
  refine lv_aload_n hx hb z_ld303 rfl (lv_at hl 2 rfl) ?_
  refine z_larg C0 hS hi (j := 1) (by decide) hL hl rfl z_ld304 z_ld305 z_ld306 z_ld307 z_ld308 ?_
  refine z_lcall (As := [.int (xs (i + 1))]) (rest := [.int r]) (o := 122) C0 hG hK hSt (hmo 197 (Or.inl (by decide))) rfl rfl (by decide) (by decide +kernel) ⟨by decide, by decide, by decide +kernel⟩ (hmet 197 _ _ _ (by decide) (Nat.le_of_ble_eq_true rfl) e2) (z_wd_good (pl := 1485) (by decide +kernel) rfl) rfl (Nat.le_of_ble_eq_true rfl) z_ld309 hl.1 (Nat.le_of_ble_eq_true rfl) hcl hR hS (fun H locs hR hS => ?_)
  refine lv_icmp_eq (tgt := 1071) hx hb z_ld310 (by decide) (fun _ => ?_) (fun q => absurd rfl q)
  exact k h2 H locs hI2 hR hS
set_option maxRecDepth 8000 in
set_option maxHeartbeats 1000000 in
theorem z_law_13 {p : Program} {l : Launch} {e : Env} {s : State} {m : MethodId} {below : List Frame} {meth : Method} {c : Code} {Q : State → Prop} {b L : Nat} {xs : Nat → Int32} {G : z_G} {cells slots : Nat} {H : Heap} {locs : List Loc} {ls : Array Slot} {h : z_H} {Inv : z_H → Prop} (C0 : lw_At p s m meth c b L xs) (hL : L ≤ 2560) (hG : G.1 = s.heap.size) (hK : z_Kn G s) (hSt : z_St G s s.heap) (hmo : ∀ i, z_idok i → z_mok i) (hmet : ∀ id a h r, id < 221 → z_cat a ≤ z_ml id → z_M id a h = some r → z_Met l G id a h r) (hop : z_opok Inv 13 198 4) (hcl : cells ≤ room_1.cells ∧ slots ≤ room_1.slots)
    {i : Nat} (hi : i + 5 ≤ L) (hl : lv_has ls 4 [(0, .ref b), (1, .ref (G.1 + 0)), (2, .ref (G.1 + 122)), (3, .int (nI i))]) (hI : Inv h) (hR : z_Rep G h H) (hS : va_S (fun q : Nat => s.heap.size ≤ q) s.heap H locs)
    (k : ∀ (h2 : z_H) (H : Heap) (locs : List Loc), Inv h2 → z_Rep G h2 H → va_S (fun q : Nat => s.heap.size ≤ q) s.heap H locs → W p l e room_1 s m #[Value.ref b] below meth c H locs cells slots Q (F0 m 1071 ls [])) : W p l e room_1 s m #[Value.ref b] below meth c H locs cells slots Q (F0 m 533 ls []) := by
  obtain ⟨hx, hb, -⟩ := id C0
  obtain ⟨r, h1, h2, e1, e2, hI2⟩ := hop h hI [xs (i + 1), xs (i + 2), xs (i + 3), xs (i + 4)] rfl
  refine lv_aload_n hx hb z_ld313 rfl (lv_at hl 1 rfl) ?_
  refine z_larg C0 hS hi (j := 1) (by decide) hL hl rfl z_ld314 z_ld315 z_ld316 z_ld317 z_ld318 ?_
  refine z_larg C0 hS hi (j := 2) (by decide) hL hl rfl z_ld319 z_ld320 z_ld321 z_ld322 z_ld323 ?_
  refine z_larg C0 hS hi (j := 3) (by decide) hL hl rfl z_ld324 z_ld325 z_ld326 z_ld327 z_ld328 ?_
  refine z_larg C0 hS hi (j := 4) (by decide) hL hl rfl z_ld329 z_ld330 z_ld331 z_ld332 z_ld333 ?_
  refine z_lcall (As := [.int (xs (i + 1)), .int (xs (i + 2)), .int (xs (i + 3)), .int (xs (i + 4))]) (rest := []) (o := 0) C0 hG hK hSt (hmo 13 (Or.inl (by decide))) rfl rfl (by decide) (by decide +kernel) ⟨by decide, by decide, by decide +kernel⟩ (hmet 13 _ _ _ (by decide) (Nat.le_of_ble_eq_true rfl) e1) (z_wd_good (pl := 933) (by decide +kernel) rfl) rfl (Nat.le_of_ble_eq_true rfl) z_ld334 hl.1 (Nat.le_of_ble_eq_true rfl) hcl hR hS (fun H locs hR hS => ?_)
  refine lv_aload_n hx hb z_ld335 rfl (lv_at hl 2 rfl) ?_
  refine z_larg C0 hS hi (j := 1) (by decide) hL hl rfl z_ld336 z_ld337 z_ld338 z_ld339 z_ld340 ?_
  refine z_larg C0 hS hi (j := 2) (by decide) hL hl rfl z_ld341 z_ld342 z_ld343 z_ld344 z_ld345 ?_
  refine z_larg C0 hS hi (j := 3) (by decide) hL hl rfl z_ld346 z_ld347 z_ld348 z_ld349 z_ld350 ?_
  refine z_larg C0 hS hi (j := 4) (by decide) hL hl rfl z_ld351 z_ld352 z_ld353 z_ld354 z_ld355 ?_
  refine z_lcall (As := [.int (xs (i + 1)), .int (xs (i + 2)), .int (xs (i + 3)), .int (xs (i + 4))]) (rest := [.int r]) (o := 122) C0 hG hK hSt (hmo 198 (Or.inl (by decide))) rfl rfl (by decide) (by decide +kernel) ⟨by decide, by decide, by decide +kernel⟩ (hmet 198 _ _ _ (by decide) (Nat.le_of_ble_eq_true rfl) e2) (z_wd_good (pl := 1489) (by decide +kernel) rfl) rfl (Nat.le_of_ble_eq_true rfl) z_ld356 hl.1 (Nat.le_of_ble_eq_true rfl) hcl hR hS (fun H locs hR hS => ?_)
  refine lv_icmp_eq (tgt := 1071) hx hb z_ld357 (by decide) (fun _ => ?_) (fun q => absurd rfl q)
  exact k h2 H locs hI2 hR hS
set_option maxRecDepth 8000 in
set_option maxHeartbeats 1000000 in
theorem z_law_14 {p : Program} {l : Launch} {e : Env} {s : State} {m : MethodId} {below : List Frame} {meth : Method} {c : Code} {Q : State → Prop} {b L : Nat} {xs : Nat → Int32} {G : z_G} {cells slots : Nat} {H : Heap} {locs : List Loc} {ls : Array Slot} {h : z_H} {Inv : z_H → Prop} (C0 : lw_At p s m meth c b L xs) (hL : L ≤ 2560) (hG : G.1 = s.heap.size) (hK : z_Kn G s) (hSt : z_St G s s.heap) (hmo : ∀ i, z_idok i → z_mok i) (hmet : ∀ id a h r, id < 221 → z_cat a ≤ z_ml id → z_M id a h = some r → z_Met l G id a h r) (hop : z_opok Inv 14 199 4) (hcl : cells ≤ room_1.cells ∧ slots ≤ room_1.slots)
    {i : Nat} (hi : i + 5 ≤ L) (hl : lv_has ls 4 [(0, .ref b), (1, .ref (G.1 + 0)), (2, .ref (G.1 + 122)), (3, .int (nI i))]) (hI : Inv h) (hR : z_Rep G h H) (hS : va_S (fun q : Nat => s.heap.size ≤ q) s.heap H locs)
    (k : ∀ (h2 : z_H) (H : Heap) (locs : List Loc), Inv h2 → z_Rep G h2 H → va_S (fun q : Nat => s.heap.size ≤ q) s.heap H locs → W p l e room_1 s m #[Value.ref b] below meth c H locs cells slots Q (F0 m 1071 ls [])) : W p l e room_1 s m #[Value.ref b] below meth c H locs cells slots Q (F0 m 586 ls []) := by
  obtain ⟨hx, hb, -⟩ := id C0
  obtain ⟨r, h1, h2, e1, e2, hI2⟩ := hop h hI [xs (i + 1), xs (i + 2), xs (i + 3), xs (i + 4)] rfl
  refine lv_aload_n hx hb z_ld360 rfl (lv_at hl 1 rfl) ?_
  refine z_larg C0 hS hi (j := 1) (by decide) hL hl rfl z_ld361 z_ld362 z_ld363 z_ld364 z_ld365 ?_
  refine z_larg C0 hS hi (j := 2) (by decide) hL hl rfl z_ld366 z_ld367 z_ld368 z_ld369 z_ld370 ?_
  refine z_larg C0 hS hi (j := 3) (by decide) hL hl rfl z_ld371 z_ld372 z_ld373 z_ld374 z_ld375 ?_
  refine z_larg C0 hS hi (j := 4) (by decide) hL hl rfl z_ld376 z_ld377 z_ld378 z_ld379 z_ld380 ?_
  refine z_lcall (As := [.int (xs (i + 1)), .int (xs (i + 2)), .int (xs (i + 3)), .int (xs (i + 4))]) (rest := []) (o := 0) C0 hG hK hSt (hmo 14 (Or.inl (by decide))) rfl rfl (by decide) (by decide +kernel) ⟨by decide, by decide, by decide +kernel⟩ (hmet 14 _ _ _ (by decide) (Nat.le_of_ble_eq_true rfl) e1) (z_wd_good (pl := 941) (by decide +kernel) rfl) rfl (Nat.le_of_ble_eq_true rfl) z_ld381 hl.1 (Nat.le_of_ble_eq_true rfl) hcl hR hS (fun H locs hR hS => ?_)
  refine lv_aload_n hx hb z_ld382 rfl (lv_at hl 2 rfl) ?_
  refine z_larg C0 hS hi (j := 1) (by decide) hL hl rfl z_ld383 z_ld384 z_ld385 z_ld386 z_ld387 ?_
  refine z_larg C0 hS hi (j := 2) (by decide) hL hl rfl z_ld388 z_ld389 z_ld390 z_ld391 z_ld392 ?_
  refine z_larg C0 hS hi (j := 3) (by decide) hL hl rfl z_ld393 z_ld394 z_ld395 z_ld396 z_ld397 ?_
  refine z_larg C0 hS hi (j := 4) (by decide) hL hl rfl z_ld398 z_ld399 z_ld400 z_ld401 z_ld402 ?_
  refine z_lcall (As := [.int (xs (i + 1)), .int (xs (i + 2)), .int (xs (i + 3)), .int (xs (i + 4))]) (rest := [.int r]) (o := 122) C0 hG hK hSt (hmo 199 (Or.inl (by decide))) rfl rfl (by decide) (by decide +kernel) ⟨by decide, by decide, by decide +kernel⟩ (hmet 199 _ _ _ (by decide) (Nat.le_of_ble_eq_true rfl) e2) (z_wd_good (pl := 1494) (by decide +kernel) rfl) rfl (Nat.le_of_ble_eq_true rfl) z_ld403 hl.1 (Nat.le_of_ble_eq_true rfl) hcl hR hS (fun H locs hR hS => ?_)
  refine lv_icmp_eq (tgt := 1071) hx hb z_ld404 (by decide) (fun _ => ?_) (fun q => absurd rfl q)
  exact k h2 H locs hI2 hR hS
set_option maxRecDepth 8000 in
set_option maxHeartbeats 1000000 in
theorem z_law_15 {p : Program} {l : Launch} {e : Env} {s : State} {m : MethodId} {below : List Frame} {meth : Method} {c : Code} {Q : State → Prop} {b L : Nat} {xs : Nat → Int32} {G : z_G} {cells slots : Nat} {H : Heap} {locs : List Loc} {ls : Array Slot} {h : z_H} {Inv : z_H → Prop} (C0 : lw_At p s m meth c b L xs) (hL : L ≤ 2560) (hG : G.1 = s.heap.size) (hK : z_Kn G s) (hSt : z_St G s s.heap) (hmo : ∀ i, z_idok i → z_mok i) (hmet : ∀ id a h r, id < 221 → z_cat a ≤ z_ml id → z_M id a h = some r → z_Met l G id a h r) (hop : z_opok Inv 15 200 3) (hcl : cells ≤ room_1.cells ∧ slots ≤ room_1.slots)
    {i : Nat} (hi : i + 5 ≤ L) (hl : lv_has ls 4 [(0, .ref b), (1, .ref (G.1 + 0)), (2, .ref (G.1 + 122)), (3, .int (nI i))]) (hI : Inv h) (hR : z_Rep G h H) (hS : va_S (fun q : Nat => s.heap.size ≤ q) s.heap H locs)
    (k : ∀ (h2 : z_H) (H : Heap) (locs : List Loc), Inv h2 → z_Rep G h2 H → va_S (fun q : Nat => s.heap.size ≤ q) s.heap H locs → W p l e room_1 s m #[Value.ref b] below meth c H locs cells slots Q (F0 m 1071 ls [])) : W p l e room_1 s m #[Value.ref b] below meth c H locs cells slots Q (F0 m 639 ls []) := by
  obtain ⟨hx, hb, -⟩ := id C0
  obtain ⟨r, h1, h2, e1, e2, hI2⟩ := hop h hI [xs (i + 1), xs (i + 2), xs (i + 3)] rfl
  refine lv_aload_n hx hb z_ld407 rfl (lv_at hl 1 rfl) ?_
  refine z_larg C0 hS hi (j := 1) (by decide) hL hl rfl z_ld408 z_ld409 z_ld410 z_ld411 z_ld412 ?_
  refine z_larg C0 hS hi (j := 2) (by decide) hL hl rfl z_ld413 z_ld414 z_ld415 z_ld416 z_ld417 ?_
  refine z_larg C0 hS hi (j := 3) (by decide) hL hl rfl z_ld418 z_ld419 z_ld420 z_ld421 z_ld422 ?_
  refine z_lcall (As := [.int (xs (i + 1)), .int (xs (i + 2)), .int (xs (i + 3))]) (rest := []) (o := 0) C0 hG hK hSt (hmo 15 (Or.inl (by decide))) rfl rfl (by decide) (by decide +kernel) ⟨by decide, by decide, by decide +kernel⟩ (hmet 15 _ _ _ (by decide) (Nat.le_of_ble_eq_true rfl) e1) (z_wd_good (pl := 954) (by decide +kernel) rfl) rfl (Nat.le_of_ble_eq_true rfl) z_ld423 hl.1 (Nat.le_of_ble_eq_true rfl) hcl hR hS (fun H locs hR hS => ?_)
  refine lv_aload_n hx hb z_ld424 rfl (lv_at hl 2 rfl) ?_
  refine z_larg C0 hS hi (j := 1) (by decide) hL hl rfl z_ld425 z_ld426 z_ld427 z_ld428 z_ld429 ?_
  refine z_larg C0 hS hi (j := 2) (by decide) hL hl rfl z_ld430 z_ld431 z_ld432 z_ld433 z_ld434 ?_
  refine z_larg C0 hS hi (j := 3) (by decide) hL hl rfl z_ld435 z_ld436 z_ld437 z_ld438 z_ld439 ?_
  refine z_lcall (As := [.int (xs (i + 1)), .int (xs (i + 2)), .int (xs (i + 3))]) (rest := [.int r]) (o := 122) C0 hG hK hSt (hmo 200 (Or.inl (by decide))) rfl rfl (by decide) (by decide +kernel) ⟨by decide, by decide, by decide +kernel⟩ (hmet 200 _ _ _ (by decide) (Nat.le_of_ble_eq_true rfl) e2) (z_wd_good (pl := 1498) (by decide +kernel) rfl) rfl (Nat.le_of_ble_eq_true rfl) z_ld440 hl.1 (Nat.le_of_ble_eq_true rfl) hcl hR hS (fun H locs hR hS => ?_)
  refine lv_icmp_eq (tgt := 1071) hx hb z_ld441 (by decide) (fun _ => ?_) (fun q => absurd rfl q)
  exact k h2 H locs hI2 hR hS
set_option maxRecDepth 8000 in
set_option maxHeartbeats 1000000 in
theorem z_law_16 {p : Program} {l : Launch} {e : Env} {s : State} {m : MethodId} {below : List Frame} {meth : Method} {c : Code} {Q : State → Prop} {b L : Nat} {xs : Nat → Int32} {G : z_G} {cells slots : Nat} {H : Heap} {locs : List Loc} {ls : Array Slot} {h : z_H} {Inv : z_H → Prop} (C0 : lw_At p s m meth c b L xs) (hL : L ≤ 2560) (hG : G.1 = s.heap.size) (hK : z_Kn G s) (hSt : z_St G s s.heap) (hmo : ∀ i, z_idok i → z_mok i) (hmet : ∀ id a h r, id < 221 → z_cat a ≤ z_ml id → z_M id a h = some r → z_Met l G id a h r) (hop : z_opok Inv 16 201 3) (hcl : cells ≤ room_1.cells ∧ slots ≤ room_1.slots)
    {i : Nat} (hi : i + 5 ≤ L) (hl : lv_has ls 4 [(0, .ref b), (1, .ref (G.1 + 0)), (2, .ref (G.1 + 122)), (3, .int (nI i))]) (hI : Inv h) (hR : z_Rep G h H) (hS : va_S (fun q : Nat => s.heap.size ≤ q) s.heap H locs)
    (k : ∀ (h2 : z_H) (H : Heap) (locs : List Loc), Inv h2 → z_Rep G h2 H → va_S (fun q : Nat => s.heap.size ≤ q) s.heap H locs → W p l e room_1 s m #[Value.ref b] below meth c H locs cells slots Q (F0 m 1071 ls [])) : W p l e room_1 s m #[Value.ref b] below meth c H locs cells slots Q (F0 m 682 ls []) := by
  obtain ⟨hx, hb, -⟩ := id C0
  obtain ⟨r, h1, h2, e1, e2, hI2⟩ := hop h hI [xs (i + 1), xs (i + 2), xs (i + 3)] rfl
  refine lv_aload_n hx hb z_ld444 rfl (lv_at hl 1 rfl) ?_
  refine z_larg C0 hS hi (j := 1) (by decide) hL hl rfl z_ld445 z_ld446 z_ld447 z_ld448 z_ld449 ?_
  refine z_larg C0 hS hi (j := 2) (by decide) hL hl rfl z_ld450 z_ld451 z_ld452 z_ld453 z_ld454 ?_
  refine z_larg C0 hS hi (j := 3) (by decide) hL hl rfl z_ld455 z_ld456 z_ld457 z_ld458 z_ld459 ?_
  refine z_lcall (As := [.int (xs (i + 1)), .int (xs (i + 2)), .int (xs (i + 3))]) (rest := []) (o := 0) C0 hG hK hSt (hmo 16 (Or.inl (by decide))) rfl rfl (by decide) (by decide +kernel) ⟨by decide, by decide, by decide +kernel⟩ (hmet 16 _ _ _ (by decide) (Nat.le_of_ble_eq_true rfl) e1) (z_wd_good (pl := 962) (by decide +kernel) rfl) rfl (Nat.le_of_ble_eq_true rfl) z_ld460 hl.1 (Nat.le_of_ble_eq_true rfl) hcl hR hS (fun H locs hR hS => ?_)
  refine lv_aload_n hx hb z_ld461 rfl (lv_at hl 2 rfl) ?_
  refine z_larg C0 hS hi (j := 1) (by decide) hL hl rfl z_ld462 z_ld463 z_ld464 z_ld465 z_ld466 ?_
  refine z_larg C0 hS hi (j := 2) (by decide) hL hl rfl z_ld467 z_ld468 z_ld469 z_ld470 z_ld471 ?_
  refine z_larg C0 hS hi (j := 3) (by decide) hL hl rfl z_ld472 z_ld473 z_ld474 z_ld475 z_ld476 ?_
  refine z_lcall (As := [.int (xs (i + 1)), .int (xs (i + 2)), .int (xs (i + 3))]) (rest := [.int r]) (o := 122) C0 hG hK hSt (hmo 201 (Or.inl (by decide))) rfl rfl (by decide) (by decide +kernel) ⟨by decide, by decide, by decide +kernel⟩ (hmet 201 _ _ _ (by decide) (Nat.le_of_ble_eq_true rfl) e2) (z_wd_good (pl := 1503) (by decide +kernel) rfl) rfl (Nat.le_of_ble_eq_true rfl) z_ld477 hl.1 (Nat.le_of_ble_eq_true rfl) hcl hR hS (fun H locs hR hS => ?_)
  refine lv_icmp_eq (tgt := 1071) hx hb z_ld478 (by decide) (fun _ => ?_) (fun q => absurd rfl q)
  exact k h2 H locs hI2 hR hS
set_option maxRecDepth 8000 in
set_option maxHeartbeats 1000000 in
theorem z_law_17 {p : Program} {l : Launch} {e : Env} {s : State} {m : MethodId} {below : List Frame} {meth : Method} {c : Code} {Q : State → Prop} {b L : Nat} {xs : Nat → Int32} {G : z_G} {cells slots : Nat} {H : Heap} {locs : List Loc} {ls : Array Slot} {h : z_H} {Inv : z_H → Prop} (C0 : lw_At p s m meth c b L xs) (hL : L ≤ 2560) (hG : G.1 = s.heap.size) (hK : z_Kn G s) (hSt : z_St G s s.heap) (hmo : ∀ i, z_idok i → z_mok i) (hmet : ∀ id a h r, id < 221 → z_cat a ≤ z_ml id → z_M id a h = some r → z_Met l G id a h r) (hop : z_opok Inv 17 203 0) (hcl : cells ≤ room_1.cells ∧ slots ≤ room_1.slots)
    {i : Nat} (hi : i + 5 ≤ L) (hl : lv_has ls 4 [(0, .ref b), (1, .ref (G.1 + 0)), (2, .ref (G.1 + 122)), (3, .int (nI i))]) (hI : Inv h) (hR : z_Rep G h H) (hS : va_S (fun q : Nat => s.heap.size ≤ q) s.heap H locs)
    (k : ∀ (h2 : z_H) (H : Heap) (locs : List Loc), Inv h2 → z_Rep G h2 H → va_S (fun q : Nat => s.heap.size ≤ q) s.heap H locs → W p l e room_1 s m #[Value.ref b] below meth c H locs cells slots Q (F0 m 1071 ls [])) : W p l e room_1 s m #[Value.ref b] below meth c H locs cells slots Q (F0 m 725 ls []) := by
  obtain ⟨hx, hb, -⟩ := id C0
  obtain ⟨r, h1, h2, e1, e2, hI2⟩ := hop h hI [] rfl
  refine lv_aload_n hx hb z_ld481 rfl (lv_at hl 1 rfl) ?_
  refine z_lcall (As := []) (rest := []) (o := 0) C0 hG hK hSt (hmo 17 (Or.inl (by decide))) rfl rfl (by decide) (by decide +kernel) ⟨by decide, by decide, by decide +kernel⟩ (hmet 17 _ _ _ (by decide) (Nat.le_of_ble_eq_true rfl) e1) (z_wd_good (pl := 967) (by decide +kernel) rfl) rfl (Nat.le_of_ble_eq_true rfl) z_ld482 hl.1 (Nat.le_of_ble_eq_true rfl) hcl hR hS (fun H locs hR hS => ?_)
  refine lv_aload_n hx hb z_ld483 rfl (lv_at hl 2 rfl) ?_
  refine z_lcall (As := []) (rest := [.int r]) (o := 122) C0 hG hK hSt (hmo 203 (Or.inl (by decide))) rfl rfl (by decide) (by decide +kernel) ⟨by decide, by decide, by decide +kernel⟩ (hmet 203 _ _ _ (by decide) (Nat.le_of_ble_eq_true rfl) e2) (z_wd_good (pl := 1507) (by decide +kernel) rfl) rfl (Nat.le_of_ble_eq_true rfl) z_ld484 hl.1 (Nat.le_of_ble_eq_true rfl) hcl hR hS (fun H locs hR hS => ?_)
  refine lv_icmp_eq (tgt := 1071) hx hb z_ld485 (by decide) (fun _ => ?_) (fun q => absurd rfl q)
  exact k h2 H locs hI2 hR hS
set_option maxRecDepth 8000 in
set_option maxHeartbeats 1000000 in
theorem z_law_18 {p : Program} {l : Launch} {e : Env} {s : State} {m : MethodId} {below : List Frame} {meth : Method} {c : Code} {Q : State → Prop} {b L : Nat} {xs : Nat → Int32} {G : z_G} {cells slots : Nat} {H : Heap} {locs : List Loc} {ls : Array Slot} {h : z_H} {Inv : z_H → Prop} (C0 : lw_At p s m meth c b L xs) (hL : L ≤ 2560) (hG : G.1 = s.heap.size) (hK : z_Kn G s) (hSt : z_St G s s.heap) (hmo : ∀ i, z_idok i → z_mok i) (hmet : ∀ id a h r, id < 221 → z_cat a ≤ z_ml id → z_M id a h = some r → z_Met l G id a h r) (hop : z_opok Inv 18 204 0) (hcl : cells ≤ room_1.cells ∧ slots ≤ room_1.slots)
    {i : Nat} (hi : i + 5 ≤ L) (hl : lv_has ls 4 [(0, .ref b), (1, .ref (G.1 + 0)), (2, .ref (G.1 + 122)), (3, .int (nI i))]) (hI : Inv h) (hR : z_Rep G h H) (hS : va_S (fun q : Nat => s.heap.size ≤ q) s.heap H locs)
    (k : ∀ (h2 : z_H) (H : Heap) (locs : List Loc), Inv h2 → z_Rep G h2 H → va_S (fun q : Nat => s.heap.size ≤ q) s.heap H locs → W p l e room_1 s m #[Value.ref b] below meth c H locs cells slots Q (F0 m 1071 ls [])) : W p l e room_1 s m #[Value.ref b] below meth c H locs cells slots Q (F0 m 738 ls []) := by
  obtain ⟨hx, hb, -⟩ := id C0
  obtain ⟨r, h1, h2, e1, e2, hI2⟩ := hop h hI [] rfl
  refine lv_aload_n hx hb z_ld488 rfl (lv_at hl 1 rfl) ?_
  refine z_lcall (As := []) (rest := []) (o := 0) C0 hG hK hSt (hmo 18 (Or.inl (by decide))) rfl rfl (by decide) (by decide +kernel) ⟨by decide, by decide, by decide +kernel⟩ (hmet 18 _ _ _ (by decide) (Nat.le_of_ble_eq_true rfl) e1) (z_wd_good (pl := 971) (by decide +kernel) rfl) rfl (Nat.le_of_ble_eq_true rfl) z_ld489 hl.1 (Nat.le_of_ble_eq_true rfl) hcl hR hS (fun H locs hR hS => ?_)
  refine lv_aload_n hx hb z_ld490 rfl (lv_at hl 2 rfl) ?_
  refine z_lcall (As := []) (rest := [.int r]) (o := 122) C0 hG hK hSt (hmo 204 (Or.inl (by decide))) rfl rfl (by decide) (by decide +kernel) ⟨by decide, by decide, by decide +kernel⟩ (hmet 204 _ _ _ (by decide) (Nat.le_of_ble_eq_true rfl) e2) (z_wd_good (pl := 1515) (by decide +kernel) rfl) rfl (Nat.le_of_ble_eq_true rfl) z_ld491 hl.1 (Nat.le_of_ble_eq_true rfl) hcl hR hS (fun H locs hR hS => ?_)
  refine lv_icmp_eq (tgt := 1071) hx hb z_ld492 (by decide) (fun _ => ?_) (fun q => absurd rfl q)
  exact k h2 H locs hI2 hR hS
set_option maxRecDepth 8000 in
set_option maxHeartbeats 1000000 in
theorem z_law_19 {p : Program} {l : Launch} {e : Env} {s : State} {m : MethodId} {below : List Frame} {meth : Method} {c : Code} {Q : State → Prop} {b L : Nat} {xs : Nat → Int32} {G : z_G} {cells slots : Nat} {H : Heap} {locs : List Loc} {ls : Array Slot} {h : z_H} {Inv : z_H → Prop} (C0 : lw_At p s m meth c b L xs) (hL : L ≤ 2560) (hG : G.1 = s.heap.size) (hK : z_Kn G s) (hSt : z_St G s s.heap) (hmo : ∀ i, z_idok i → z_mok i) (hmet : ∀ id a h r, id < 221 → z_cat a ≤ z_ml id → z_M id a h = some r → z_Met l G id a h r) (hop : z_opok Inv 19 206 3) (hcl : cells ≤ room_1.cells ∧ slots ≤ room_1.slots)
    {i : Nat} (hi : i + 5 ≤ L) (hl : lv_has ls 4 [(0, .ref b), (1, .ref (G.1 + 0)), (2, .ref (G.1 + 122)), (3, .int (nI i))]) (hI : Inv h) (hR : z_Rep G h H) (hS : va_S (fun q : Nat => s.heap.size ≤ q) s.heap H locs)
    (k : ∀ (h2 : z_H) (H : Heap) (locs : List Loc), Inv h2 → z_Rep G h2 H → va_S (fun q : Nat => s.heap.size ≤ q) s.heap H locs → W p l e room_1 s m #[Value.ref b] below meth c H locs cells slots Q (F0 m 1071 ls [])) : W p l e room_1 s m #[Value.ref b] below meth c H locs cells slots Q (F0 m 751 ls []) := by
  obtain ⟨hx, hb, -⟩ := id C0
  obtain ⟨r, h1, h2, e1, e2, hI2⟩ := hop h hI [xs (i + 1), xs (i + 2), xs (i + 3)] rfl
  refine lv_aload_n hx hb z_ld495 rfl (lv_at hl 1 rfl) ?_
  refine z_larg C0 hS hi (j := 1) (by decide) hL hl rfl z_ld496 z_ld497 z_ld498 z_ld499 z_ld500 ?_
  refine z_larg C0 hS hi (j := 2) (by decide) hL hl rfl z_ld501 z_ld502 z_ld503 z_ld504 z_ld505 ?_
  refine z_larg C0 hS hi (j := 3) (by decide) hL hl rfl z_ld506 z_ld507 z_ld508 z_ld509 z_ld510 ?_
  refine z_lcall (As := [.int (xs (i + 1)), .int (xs (i + 2)), .int (xs (i + 3))]) (rest := []) (o := 0) C0 hG hK hSt (hmo 19 (Or.inl (by decide))) rfl rfl (by decide) (by decide +kernel) ⟨by decide, by decide, by decide +kernel⟩ (hmet 19 _ _ _ (by decide) (Nat.le_of_ble_eq_true rfl) e1) (z_wd_good (pl := 975) (by decide +kernel) rfl) rfl (Nat.le_of_ble_eq_true rfl) z_ld511 hl.1 (Nat.le_of_ble_eq_true rfl) hcl hR hS (fun H locs hR hS => ?_)
  refine lv_aload_n hx hb z_ld512 rfl (lv_at hl 2 rfl) ?_
  refine z_larg C0 hS hi (j := 1) (by decide) hL hl rfl z_ld513 z_ld514 z_ld515 z_ld516 z_ld517 ?_
  refine z_larg C0 hS hi (j := 2) (by decide) hL hl rfl z_ld518 z_ld519 z_ld520 z_ld521 z_ld522 ?_
  refine z_larg C0 hS hi (j := 3) (by decide) hL hl rfl z_ld523 z_ld524 z_ld525 z_ld526 z_ld527 ?_
  refine z_lcall (As := [.int (xs (i + 1)), .int (xs (i + 2)), .int (xs (i + 3))]) (rest := [.int r]) (o := 122) C0 hG hK hSt (hmo 206 (Or.inl (by decide))) rfl rfl (by decide) (by decide +kernel) ⟨by decide, by decide, by decide +kernel⟩ (hmet 206 _ _ _ (by decide) (Nat.le_of_ble_eq_true rfl) e2) (z_wd_good (pl := 1519) (by decide +kernel) rfl) rfl (Nat.le_of_ble_eq_true rfl) z_ld528 hl.1 (Nat.le_of_ble_eq_true rfl) hcl hR hS (fun H locs hR hS => ?_)
  refine lv_icmp_eq (tgt := 1071) hx hb z_ld529 (by decide) (fun _ => ?_) (fun q => absurd rfl q)
  exact k h2 H locs hI2 hR hS
set_option maxRecDepth 8000 in
set_option maxHeartbeats 1000000 in
theorem z_law_20 {p : Program} {l : Launch} {e : Env} {s : State} {m : MethodId} {below : List Frame} {meth : Method} {c : Code} {Q : State → Prop} {b L : Nat} {xs : Nat → Int32} {G : z_G} {cells slots : Nat} {H : Heap} {locs : List Loc} {ls : Array Slot} {h : z_H} {Inv : z_H → Prop} (C0 : lw_At p s m meth c b L xs) (hL : L ≤ 2560) (hG : G.1 = s.heap.size) (hK : z_Kn G s) (hSt : z_St G s s.heap) (hmo : ∀ i, z_idok i → z_mok i) (hmet : ∀ id a h r, id < 221 → z_cat a ≤ z_ml id → z_M id a h = some r → z_Met l G id a h r) (hop : z_opok Inv 20 207 1) (hcl : cells ≤ room_1.cells ∧ slots ≤ room_1.slots)
    {i : Nat} (hi : i + 5 ≤ L) (hl : lv_has ls 4 [(0, .ref b), (1, .ref (G.1 + 0)), (2, .ref (G.1 + 122)), (3, .int (nI i))]) (hI : Inv h) (hR : z_Rep G h H) (hS : va_S (fun q : Nat => s.heap.size ≤ q) s.heap H locs)
    (k : ∀ (h2 : z_H) (H : Heap) (locs : List Loc), Inv h2 → z_Rep G h2 H → va_S (fun q : Nat => s.heap.size ≤ q) s.heap H locs → W p l e room_1 s m #[Value.ref b] below meth c H locs cells slots Q (F0 m 1071 ls [])) : W p l e room_1 s m #[Value.ref b] below meth c H locs cells slots Q (F0 m 794 ls []) := by
  obtain ⟨hx, hb, -⟩ := id C0
  obtain ⟨r, h1, h2, e1, e2, hI2⟩ := hop h hI [xs (i + 1)] rfl
  refine lv_aload_n hx hb z_ld532 rfl (lv_at hl 1 rfl) ?_
  refine z_larg C0 hS hi (j := 1) (by decide) hL hl rfl z_ld533 z_ld534 z_ld535 z_ld536 z_ld537 ?_
  refine z_lcall (As := [.int (xs (i + 1))]) (rest := []) (o := 0) C0 hG hK hSt (hmo 20 (Or.inl (by decide))) rfl rfl (by decide) (by decide +kernel) ⟨by decide, by decide, by decide +kernel⟩ (hmet 20 _ _ _ (by decide) (Nat.le_of_ble_eq_true rfl) e1) (z_wd_good (pl := 981) (by decide +kernel) rfl) rfl (Nat.le_of_ble_eq_true rfl) z_ld538 hl.1 (Nat.le_of_ble_eq_true rfl) hcl hR hS (fun H locs hR hS => ?_)
  refine lv_aload_n hx hb z_ld539 rfl (lv_at hl 2 rfl) ?_
  refine z_larg C0 hS hi (j := 1) (by decide) hL hl rfl z_ld540 z_ld541 z_ld542 z_ld543 z_ld544 ?_
  refine z_lcall (As := [.int (xs (i + 1))]) (rest := [.int r]) (o := 122) C0 hG hK hSt (hmo 207 (Or.inl (by decide))) rfl rfl (by decide) (by decide +kernel) ⟨by decide, by decide, by decide +kernel⟩ (hmet 207 _ _ _ (by decide) (Nat.le_of_ble_eq_true rfl) e2) (z_wd_good (pl := 1528) (by decide +kernel) rfl) rfl (Nat.le_of_ble_eq_true rfl) z_ld545 hl.1 (Nat.le_of_ble_eq_true rfl) hcl hR hS (fun H locs hR hS => ?_)
  refine lv_icmp_eq (tgt := 1071) hx hb z_ld546 (by decide) (fun _ => ?_) (fun q => absurd rfl q)
  exact k h2 H locs hI2 hR hS
set_option maxRecDepth 8000 in
set_option maxHeartbeats 1000000 in
theorem z_law_21 {p : Program} {l : Launch} {e : Env} {s : State} {m : MethodId} {below : List Frame} {meth : Method} {c : Code} {Q : State → Prop} {b L : Nat} {xs : Nat → Int32} {G : z_G} {cells slots : Nat} {H : Heap} {locs : List Loc} {ls : Array Slot} {h : z_H} {Inv : z_H → Prop} (C0 : lw_At p s m meth c b L xs) (hL : L ≤ 2560) (hG : G.1 = s.heap.size) (hK : z_Kn G s) (hSt : z_St G s s.heap) (hmo : ∀ i, z_idok i → z_mok i) (hmet : ∀ id a h r, id < 221 → z_cat a ≤ z_ml id → z_M id a h = some r → z_Met l G id a h r) (hop : z_opok Inv 21 208 2) (hcl : cells ≤ room_1.cells ∧ slots ≤ room_1.slots)
    {i : Nat} (hi : i + 5 ≤ L) (hl : lv_has ls 4 [(0, .ref b), (1, .ref (G.1 + 0)), (2, .ref (G.1 + 122)), (3, .int (nI i))]) (hI : Inv h) (hR : z_Rep G h H) (hS : va_S (fun q : Nat => s.heap.size ≤ q) s.heap H locs)
    (k : ∀ (h2 : z_H) (H : Heap) (locs : List Loc), Inv h2 → z_Rep G h2 H → va_S (fun q : Nat => s.heap.size ≤ q) s.heap H locs → W p l e room_1 s m #[Value.ref b] below meth c H locs cells slots Q (F0 m 1071 ls [])) : W p l e room_1 s m #[Value.ref b] below meth c H locs cells slots Q (F0 m 817 ls []) := by
  obtain ⟨hx, hb, -⟩ := id C0
  obtain ⟨r, h1, h2, e1, e2, hI2⟩ := hop h hI [xs (i + 1), xs (i + 2)] rfl
  refine lv_aload_n hx hb z_ld549 rfl (lv_at hl 1 rfl) ?_
  refine z_larg C0 hS hi (j := 1) (by decide) hL hl rfl z_ld550 z_ld551 z_ld552 z_ld553 z_ld554 ?_
  refine z_larg C0 hS hi (j := 2) (by decide) hL hl rfl z_ld555 z_ld556 z_ld557 z_ld558 z_ld559 ?_
  refine z_lcall (As := [.int (xs (i + 1)), .int (xs (i + 2))]) (rest := []) (o := 0) C0 hG hK hSt (hmo 21 (Or.inl (by decide))) rfl rfl (by decide) (by decide +kernel) ⟨by decide, by decide, by decide +kernel⟩ (hmet 21 _ _ _ (by decide) (Nat.le_of_ble_eq_true rfl) e1) (z_wd_good (pl := 989) (by decide +kernel) rfl) rfl (Nat.le_of_ble_eq_true rfl) z_ld560 hl.1 (Nat.le_of_ble_eq_true rfl) hcl hR hS (fun H locs hR hS => ?_)
  refine lv_aload_n hx hb z_ld561 rfl (lv_at hl 2 rfl) ?_
  refine z_larg C0 hS hi (j := 1) (by decide) hL hl rfl z_ld562 z_ld563 z_ld564 z_ld565 z_ld566 ?_
  refine z_larg C0 hS hi (j := 2) (by decide) hL hl rfl z_ld567 z_ld568 z_ld569 z_ld570 z_ld571 ?_
  refine z_lcall (As := [.int (xs (i + 1)), .int (xs (i + 2))]) (rest := [.int r]) (o := 122) C0 hG hK hSt (hmo 208 (Or.inl (by decide))) rfl rfl (by decide) (by decide +kernel) ⟨by decide, by decide, by decide +kernel⟩ (hmet 208 _ _ _ (by decide) (Nat.le_of_ble_eq_true rfl) e2) (z_wd_good (pl := 1532) (by decide +kernel) rfl) rfl (Nat.le_of_ble_eq_true rfl) z_ld572 hl.1 (Nat.le_of_ble_eq_true rfl) hcl hR hS (fun H locs hR hS => ?_)
  refine lv_icmp_eq (tgt := 1071) hx hb z_ld573 (by decide) (fun _ => ?_) (fun q => absurd rfl q)
  exact k h2 H locs hI2 hR hS
set_option maxRecDepth 8000 in
set_option maxHeartbeats 1000000 in
theorem z_law_22 {p : Program} {l : Launch} {e : Env} {s : State} {m : MethodId} {below : List Frame} {meth : Method} {c : Code} {Q : State → Prop} {b L : Nat} {xs : Nat → Int32} {G : z_G} {cells slots : Nat} {H : Heap} {locs : List Loc} {ls : Array Slot} {h : z_H} {Inv : z_H → Prop} (C0 : lw_At p s m meth c b L xs) (hL : L ≤ 2560) (hG : G.1 = s.heap.size) (hK : z_Kn G s) (hSt : z_St G s s.heap) (hmo : ∀ i, z_idok i → z_mok i) (hmet : ∀ id a h r, id < 221 → z_cat a ≤ z_ml id → z_M id a h = some r → z_Met l G id a h r) (hop : z_opok Inv 22 209 1) (hcl : cells ≤ room_1.cells ∧ slots ≤ room_1.slots)
    {i : Nat} (hi : i + 5 ≤ L) (hl : lv_has ls 4 [(0, .ref b), (1, .ref (G.1 + 0)), (2, .ref (G.1 + 122)), (3, .int (nI i))]) (hI : Inv h) (hR : z_Rep G h H) (hS : va_S (fun q : Nat => s.heap.size ≤ q) s.heap H locs)
    (k : ∀ (h2 : z_H) (H : Heap) (locs : List Loc), Inv h2 → z_Rep G h2 H → va_S (fun q : Nat => s.heap.size ≤ q) s.heap H locs → W p l e room_1 s m #[Value.ref b] below meth c H locs cells slots Q (F0 m 1071 ls [])) : W p l e room_1 s m #[Value.ref b] below meth c H locs cells slots Q (F0 m 850 ls []) := by
  obtain ⟨hx, hb, -⟩ := id C0
  obtain ⟨r, h1, h2, e1, e2, hI2⟩ := hop h hI [xs (i + 1)] rfl
  refine lv_aload_n hx hb z_ld576 rfl (lv_at hl 1 rfl) ?_
  refine z_larg C0 hS hi (j := 1) (by decide) hL hl rfl z_ld577 z_ld578 z_ld579 z_ld580 z_ld581 ?_
  refine z_lcall (As := [.int (xs (i + 1))]) (rest := []) (o := 0) C0 hG hK hSt (hmo 22 (Or.inl (by decide))) rfl rfl (by decide) (by decide +kernel) ⟨by decide, by decide, by decide +kernel⟩ (hmet 22 _ _ _ (by decide) (Nat.le_of_ble_eq_true rfl) e1) (z_wd_good (pl := 994) (by decide +kernel) rfl) rfl (Nat.le_of_ble_eq_true rfl) z_ld582 hl.1 (Nat.le_of_ble_eq_true rfl) hcl hR hS (fun H locs hR hS => ?_)
  refine lv_aload_n hx hb z_ld583 rfl (lv_at hl 2 rfl) ?_
  refine z_larg C0 hS hi (j := 1) (by decide) hL hl rfl z_ld584 z_ld585 z_ld586 z_ld587 z_ld588 ?_
  refine z_lcall (As := [.int (xs (i + 1))]) (rest := [.int r]) (o := 122) C0 hG hK hSt (hmo 209 (Or.inl (by decide))) rfl rfl (by decide) (by decide +kernel) ⟨by decide, by decide, by decide +kernel⟩ (hmet 209 _ _ _ (by decide) (Nat.le_of_ble_eq_true rfl) e2) (z_wd_good (pl := 1538) (by decide +kernel) rfl) rfl (Nat.le_of_ble_eq_true rfl) z_ld589 hl.1 (Nat.le_of_ble_eq_true rfl) hcl hR hS (fun H locs hR hS => ?_)
  refine lv_icmp_eq (tgt := 1071) hx hb z_ld590 (by decide) (fun _ => ?_) (fun q => absurd rfl q)
  exact k h2 H locs hI2 hR hS
set_option maxRecDepth 8000 in
set_option maxHeartbeats 1000000 in
theorem z_law_23 {p : Program} {l : Launch} {e : Env} {s : State} {m : MethodId} {below : List Frame} {meth : Method} {c : Code} {Q : State → Prop} {b L : Nat} {xs : Nat → Int32} {G : z_G} {cells slots : Nat} {H : Heap} {locs : List Loc} {ls : Array Slot} {h : z_H} {Inv : z_H → Prop} (C0 : lw_At p s m meth c b L xs) (hL : L ≤ 2560) (hG : G.1 = s.heap.size) (hK : z_Kn G s) (hSt : z_St G s s.heap) (hmo : ∀ i, z_idok i → z_mok i) (hmet : ∀ id a h r, id < 221 → z_cat a ≤ z_ml id → z_M id a h = some r → z_Met l G id a h r) (hop : z_opok Inv 23 210 1) (hcl : cells ≤ room_1.cells ∧ slots ≤ room_1.slots)
    {i : Nat} (hi : i + 5 ≤ L) (hl : lv_has ls 4 [(0, .ref b), (1, .ref (G.1 + 0)), (2, .ref (G.1 + 122)), (3, .int (nI i))]) (hI : Inv h) (hR : z_Rep G h H) (hS : va_S (fun q : Nat => s.heap.size ≤ q) s.heap H locs)
    (k : ∀ (h2 : z_H) (H : Heap) (locs : List Loc), Inv h2 → z_Rep G h2 H → va_S (fun q : Nat => s.heap.size ≤ q) s.heap H locs → W p l e room_1 s m #[Value.ref b] below meth c H locs cells slots Q (F0 m 1071 ls [])) : W p l e room_1 s m #[Value.ref b] below meth c H locs cells slots Q (F0 m 873 ls []) := by
  obtain ⟨hx, hb, -⟩ := id C0
  obtain ⟨r, h1, h2, e1, e2, hI2⟩ := hop h hI [xs (i + 1)] rfl
  refine lv_aload_n hx hb z_ld593 rfl (lv_at hl 1 rfl) ?_
  refine z_larg C0 hS hi (j := 1) (by decide) hL hl rfl z_ld594 z_ld595 z_ld596 z_ld597 z_ld598 ?_
  refine z_lcall (As := [.int (xs (i + 1))]) (rest := []) (o := 0) C0 hG hK hSt (hmo 23 (Or.inl (by decide))) rfl rfl (by decide) (by decide +kernel) ⟨by decide, by decide, by decide +kernel⟩ (hmet 23 _ _ _ (by decide) (Nat.le_of_ble_eq_true rfl) e1) (z_wd_good (pl := 1001) (by decide +kernel) rfl) rfl (Nat.le_of_ble_eq_true rfl) z_ld599 hl.1 (Nat.le_of_ble_eq_true rfl) hcl hR hS (fun H locs hR hS => ?_)
  refine lv_aload_n hx hb z_ld600 rfl (lv_at hl 2 rfl) ?_
  refine z_larg C0 hS hi (j := 1) (by decide) hL hl rfl z_ld601 z_ld602 z_ld603 z_ld604 z_ld605 ?_
  refine z_lcall (As := [.int (xs (i + 1))]) (rest := [.int r]) (o := 122) C0 hG hK hSt (hmo 210 (Or.inl (by decide))) rfl rfl (by decide) (by decide +kernel) ⟨by decide, by decide, by decide +kernel⟩ (hmet 210 _ _ _ (by decide) (Nat.le_of_ble_eq_true rfl) e2) (z_wd_good (pl := 1542) (by decide +kernel) rfl) rfl (Nat.le_of_ble_eq_true rfl) z_ld606 hl.1 (Nat.le_of_ble_eq_true rfl) hcl hR hS (fun H locs hR hS => ?_)
  refine lv_icmp_eq (tgt := 1071) hx hb z_ld607 (by decide) (fun _ => ?_) (fun q => absurd rfl q)
  exact k h2 H locs hI2 hR hS
set_option maxRecDepth 8000 in
set_option maxHeartbeats 1000000 in
theorem z_law_24 {p : Program} {l : Launch} {e : Env} {s : State} {m : MethodId} {below : List Frame} {meth : Method} {c : Code} {Q : State → Prop} {b L : Nat} {xs : Nat → Int32} {G : z_G} {cells slots : Nat} {H : Heap} {locs : List Loc} {ls : Array Slot} {h : z_H} {Inv : z_H → Prop} (C0 : lw_At p s m meth c b L xs) (hL : L ≤ 2560) (hG : G.1 = s.heap.size) (hK : z_Kn G s) (hSt : z_St G s s.heap) (hmo : ∀ i, z_idok i → z_mok i) (hmet : ∀ id a h r, id < 221 → z_cat a ≤ z_ml id → z_M id a h = some r → z_Met l G id a h r) (hop : z_opok Inv 24 212 3) (hcl : cells ≤ room_1.cells ∧ slots ≤ room_1.slots)
    {i : Nat} (hi : i + 5 ≤ L) (hl : lv_has ls 4 [(0, .ref b), (1, .ref (G.1 + 0)), (2, .ref (G.1 + 122)), (3, .int (nI i))]) (hI : Inv h) (hR : z_Rep G h H) (hS : va_S (fun q : Nat => s.heap.size ≤ q) s.heap H locs)
    (k : ∀ (h2 : z_H) (H : Heap) (locs : List Loc), Inv h2 → z_Rep G h2 H → va_S (fun q : Nat => s.heap.size ≤ q) s.heap H locs → W p l e room_1 s m #[Value.ref b] below meth c H locs cells slots Q (F0 m 1071 ls [])) : W p l e room_1 s m #[Value.ref b] below meth c H locs cells slots Q (F0 m 896 ls []) := by
  obtain ⟨hx, hb, -⟩ := id C0
  obtain ⟨r, h1, h2, e1, e2, hI2⟩ := hop h hI [xs (i + 1), xs (i + 2), xs (i + 3)] rfl
  refine lv_aload_n hx hb z_ld610 rfl (lv_at hl 1 rfl) ?_
  refine z_larg C0 hS hi (j := 1) (by decide) hL hl rfl z_ld611 z_ld612 z_ld613 z_ld614 z_ld615 ?_
  refine z_larg C0 hS hi (j := 2) (by decide) hL hl rfl z_ld616 z_ld617 z_ld618 z_ld619 z_ld620 ?_
  refine z_larg C0 hS hi (j := 3) (by decide) hL hl rfl z_ld621 z_ld622 z_ld623 z_ld624 z_ld625 ?_
  refine z_lcall (As := [.int (xs (i + 1)), .int (xs (i + 2)), .int (xs (i + 3))]) (rest := []) (o := 0) C0 hG hK hSt (hmo 24 (Or.inl (by decide))) rfl rfl (by decide) (by decide +kernel) ⟨by decide, by decide, by decide +kernel⟩ (hmet 24 _ _ _ (by decide) (Nat.le_of_ble_eq_true rfl) e1) (z_wd_good (pl := 1005) (by decide +kernel) rfl) rfl (Nat.le_of_ble_eq_true rfl) z_ld626 hl.1 (Nat.le_of_ble_eq_true rfl) hcl hR hS (fun H locs hR hS => ?_)
  refine lv_aload_n hx hb z_ld627 rfl (lv_at hl 2 rfl) ?_
  refine z_larg C0 hS hi (j := 1) (by decide) hL hl rfl z_ld628 z_ld629 z_ld630 z_ld631 z_ld632 ?_
  refine z_larg C0 hS hi (j := 2) (by decide) hL hl rfl z_ld633 z_ld634 z_ld635 z_ld636 z_ld637 ?_
  refine z_larg C0 hS hi (j := 3) (by decide) hL hl rfl z_ld638 z_ld639 z_ld640 z_ld641 z_ld642 ?_
  refine z_lcall (As := [.int (xs (i + 1)), .int (xs (i + 2)), .int (xs (i + 3))]) (rest := [.int r]) (o := 122) C0 hG hK hSt (hmo 212 (Or.inl (by decide))) rfl rfl (by decide) (by decide +kernel) ⟨by decide, by decide, by decide +kernel⟩ (hmet 212 _ _ _ (by decide) (Nat.le_of_ble_eq_true rfl) e2) (z_wd_good (pl := 1546) (by decide +kernel) rfl) rfl (Nat.le_of_ble_eq_true rfl) z_ld643 hl.1 (Nat.le_of_ble_eq_true rfl) hcl hR hS (fun H locs hR hS => ?_)
  refine lv_icmp_eq (tgt := 1071) hx hb z_ld644 (by decide) (fun _ => ?_) (fun q => absurd rfl q)
  exact k h2 H locs hI2 hR hS
set_option maxRecDepth 8000 in
set_option maxHeartbeats 1000000 in
theorem z_law_25 {p : Program} {l : Launch} {e : Env} {s : State} {m : MethodId} {below : List Frame} {meth : Method} {c : Code} {Q : State → Prop} {b L : Nat} {xs : Nat → Int32} {G : z_G} {cells slots : Nat} {H : Heap} {locs : List Loc} {ls : Array Slot} {h : z_H} {Inv : z_H → Prop} (C0 : lw_At p s m meth c b L xs) (hL : L ≤ 2560) (hG : G.1 = s.heap.size) (hK : z_Kn G s) (hSt : z_St G s s.heap) (hmo : ∀ i, z_idok i → z_mok i) (hmet : ∀ id a h r, id < 221 → z_cat a ≤ z_ml id → z_M id a h = some r → z_Met l G id a h r) (hop : z_opok Inv 25 213 3) (hcl : cells ≤ room_1.cells ∧ slots ≤ room_1.slots)
    {i : Nat} (hi : i + 5 ≤ L) (hl : lv_has ls 4 [(0, .ref b), (1, .ref (G.1 + 0)), (2, .ref (G.1 + 122)), (3, .int (nI i))]) (hI : Inv h) (hR : z_Rep G h H) (hS : va_S (fun q : Nat => s.heap.size ≤ q) s.heap H locs)
    (k : ∀ (h2 : z_H) (H : Heap) (locs : List Loc), Inv h2 → z_Rep G h2 H → va_S (fun q : Nat => s.heap.size ≤ q) s.heap H locs → W p l e room_1 s m #[Value.ref b] below meth c H locs cells slots Q (F0 m 1071 ls [])) : W p l e room_1 s m #[Value.ref b] below meth c H locs cells slots Q (F0 m 939 ls []) := by
  obtain ⟨hx, hb, -⟩ := id C0
  obtain ⟨r, h1, h2, e1, e2, hI2⟩ := hop h hI [xs (i + 1), xs (i + 2), xs (i + 3)] rfl
  refine lv_aload_n hx hb z_ld647 rfl (lv_at hl 1 rfl) ?_
  refine z_larg C0 hS hi (j := 1) (by decide) hL hl rfl z_ld648 z_ld649 z_ld650 z_ld651 z_ld652 ?_
  refine z_larg C0 hS hi (j := 2) (by decide) hL hl rfl z_ld653 z_ld654 z_ld655 z_ld656 z_ld657 ?_
  refine z_larg C0 hS hi (j := 3) (by decide) hL hl rfl z_ld658 z_ld659 z_ld660 z_ld661 z_ld662 ?_
  refine z_lcall (As := [.int (xs (i + 1)), .int (xs (i + 2)), .int (xs (i + 3))]) (rest := []) (o := 0) C0 hG hK hSt (hmo 25 (Or.inl (by decide))) rfl rfl (by decide) (by decide +kernel) ⟨by decide, by decide, by decide +kernel⟩ (hmet 25 _ _ _ (by decide) (Nat.le_of_ble_eq_true rfl) e1) (z_wd_good (pl := 1020) (by decide +kernel) rfl) rfl (Nat.le_of_ble_eq_true rfl) z_ld663 hl.1 (Nat.le_of_ble_eq_true rfl) hcl hR hS (fun H locs hR hS => ?_)
  refine lv_aload_n hx hb z_ld664 rfl (lv_at hl 2 rfl) ?_
  refine z_larg C0 hS hi (j := 1) (by decide) hL hl rfl z_ld665 z_ld666 z_ld667 z_ld668 z_ld669 ?_
  refine z_larg C0 hS hi (j := 2) (by decide) hL hl rfl z_ld670 z_ld671 z_ld672 z_ld673 z_ld674 ?_
  refine z_larg C0 hS hi (j := 3) (by decide) hL hl rfl z_ld675 z_ld676 z_ld677 z_ld678 z_ld679 ?_
  refine z_lcall (As := [.int (xs (i + 1)), .int (xs (i + 2)), .int (xs (i + 3))]) (rest := [.int r]) (o := 122) C0 hG hK hSt (hmo 213 (Or.inl (by decide))) rfl rfl (by decide) (by decide +kernel) ⟨by decide, by decide, by decide +kernel⟩ (hmet 213 _ _ _ (by decide) (Nat.le_of_ble_eq_true rfl) e2) (z_wd_good (pl := 1553) (by decide +kernel) rfl) rfl (Nat.le_of_ble_eq_true rfl) z_ld680 hl.1 (Nat.le_of_ble_eq_true rfl) hcl hR hS (fun H locs hR hS => ?_)
  refine lv_icmp_eq (tgt := 1071) hx hb z_ld681 (by decide) (fun _ => ?_) (fun q => absurd rfl q)
  exact k h2 H locs hI2 hR hS
set_option maxRecDepth 8000 in
set_option maxHeartbeats 1000000 in
theorem z_law_26 {p : Program} {l : Launch} {e : Env} {s : State} {m : MethodId} {below : List Frame} {meth : Method} {c : Code} {Q : State → Prop} {b L : Nat} {xs : Nat → Int32} {G : z_G} {cells slots : Nat} {H : Heap} {locs : List Loc} {ls : Array Slot} {h : z_H} {Inv : z_H → Prop} (C0 : lw_At p s m meth c b L xs) (hL : L ≤ 2560) (hG : G.1 = s.heap.size) (hK : z_Kn G s) (hSt : z_St G s s.heap) (hmo : ∀ i, z_idok i → z_mok i) (hmet : ∀ id a h r, id < 221 → z_cat a ≤ z_ml id → z_M id a h = some r → z_Met l G id a h r) (hop : z_opok Inv 26 214 4) (hcl : cells ≤ room_1.cells ∧ slots ≤ room_1.slots)
    {i : Nat} (hi : i + 5 ≤ L) (hl : lv_has ls 4 [(0, .ref b), (1, .ref (G.1 + 0)), (2, .ref (G.1 + 122)), (3, .int (nI i))]) (hI : Inv h) (hR : z_Rep G h H) (hS : va_S (fun q : Nat => s.heap.size ≤ q) s.heap H locs)
    (k : ∀ (h2 : z_H) (H : Heap) (locs : List Loc), Inv h2 → z_Rep G h2 H → va_S (fun q : Nat => s.heap.size ≤ q) s.heap H locs → W p l e room_1 s m #[Value.ref b] below meth c H locs cells slots Q (F0 m 1071 ls [])) : W p l e room_1 s m #[Value.ref b] below meth c H locs cells slots Q (F0 m 982 ls []) := by
  obtain ⟨hx, hb, -⟩ := id C0
  obtain ⟨r, h1, h2, e1, e2, hI2⟩ := hop h hI [xs (i + 1), xs (i + 2), xs (i + 3), xs (i + 4)] rfl
  refine lv_aload_n hx hb z_ld684 rfl (lv_at hl 1 rfl) ?_
  refine z_larg C0 hS hi (j := 1) (by decide) hL hl rfl z_ld685 z_ld686 z_ld687 z_ld688 z_ld689 ?_
  refine z_larg C0 hS hi (j := 2) (by decide) hL hl rfl z_ld690 z_ld691 z_ld692 z_ld693 z_ld694 ?_
  refine z_larg C0 hS hi (j := 3) (by decide) hL hl rfl z_ld695 z_ld696 z_ld697 z_ld698 z_ld699 ?_
  refine z_larg C0 hS hi (j := 4) (by decide) hL hl rfl z_ld700 z_ld701 z_ld702 z_ld703 z_ld704 ?_
  refine z_lcall (As := [.int (xs (i + 1)), .int (xs (i + 2)), .int (xs (i + 3)), .int (xs (i + 4))]) (rest := []) (o := 0) C0 hG hK hSt (hmo 26 (Or.inl (by decide))) rfl rfl (by decide) (by decide +kernel) ⟨by decide, by decide, by decide +kernel⟩ (hmet 26 _ _ _ (by decide) (Nat.le_of_ble_eq_true rfl) e1) (z_wd_good (pl := 1028) (by decide +kernel) rfl) rfl (Nat.le_of_ble_eq_true rfl) z_ld705 hl.1 (Nat.le_of_ble_eq_true rfl) hcl hR hS (fun H locs hR hS => ?_)
  refine lv_aload_n hx hb z_ld706 rfl (lv_at hl 2 rfl) ?_
  refine z_larg C0 hS hi (j := 1) (by decide) hL hl rfl z_ld707 z_ld708 z_ld709 z_ld710 z_ld711 ?_
  refine z_larg C0 hS hi (j := 2) (by decide) hL hl rfl z_ld712 z_ld713 z_ld714 z_ld715 z_ld716 ?_
  refine z_larg C0 hS hi (j := 3) (by decide) hL hl rfl z_ld717 z_ld718 z_ld719 z_ld720 z_ld721 ?_
  refine z_larg C0 hS hi (j := 4) (by decide) hL hl rfl z_ld722 z_ld723 z_ld724 z_ld725 z_ld726 ?_
  refine z_lcall (As := [.int (xs (i + 1)), .int (xs (i + 2)), .int (xs (i + 3)), .int (xs (i + 4))]) (rest := [.int r]) (o := 122) C0 hG hK hSt (hmo 214 (Or.inl (by decide))) rfl rfl (by decide) (by decide +kernel) ⟨by decide, by decide, by decide +kernel⟩ (hmet 214 _ _ _ (by decide) (Nat.le_of_ble_eq_true rfl) e2) (z_wd_good (pl := 1557) (by decide +kernel) rfl) rfl (Nat.le_of_ble_eq_true rfl) z_ld727 hl.1 (Nat.le_of_ble_eq_true rfl) hcl hR hS (fun H locs hR hS => ?_)
  refine lv_icmp_eq (tgt := 1071) hx hb z_ld728 (by decide) (fun _ => ?_) (fun q => absurd rfl q)
  exact k h2 H locs hI2 hR hS
set_option maxRecDepth 8000 in
set_option maxHeartbeats 1000000 in
theorem z_law_27 {p : Program} {l : Launch} {e : Env} {s : State} {m : MethodId} {below : List Frame} {meth : Method} {c : Code} {Q : State → Prop} {b L : Nat} {xs : Nat → Int32} {G : z_G} {cells slots : Nat} {H : Heap} {locs : List Loc} {ls : Array Slot} {h : z_H} {Inv : z_H → Prop} (C0 : lw_At p s m meth c b L xs) (hL : L ≤ 2560) (hG : G.1 = s.heap.size) (hK : z_Kn G s) (hSt : z_St G s s.heap) (hmo : ∀ i, z_idok i → z_mok i) (hmet : ∀ id a h r, id < 221 → z_cat a ≤ z_ml id → z_M id a h = some r → z_Met l G id a h r) (hop : z_opok Inv 27 215 0) (hcl : cells ≤ room_1.cells ∧ slots ≤ room_1.slots)
    {i : Nat} (hi : i + 5 ≤ L) (hl : lv_has ls 4 [(0, .ref b), (1, .ref (G.1 + 0)), (2, .ref (G.1 + 122)), (3, .int (nI i))]) (hI : Inv h) (hR : z_Rep G h H) (hS : va_S (fun q : Nat => s.heap.size ≤ q) s.heap H locs)
    (k : ∀ (h2 : z_H) (H : Heap) (locs : List Loc), Inv h2 → z_Rep G h2 H → va_S (fun q : Nat => s.heap.size ≤ q) s.heap H locs → W p l e room_1 s m #[Value.ref b] below meth c H locs cells slots Q (F0 m 1071 ls [])) : W p l e room_1 s m #[Value.ref b] below meth c H locs cells slots Q (F0 m 1035 ls []) := by
  obtain ⟨hx, hb, -⟩ := id C0
  obtain ⟨r, h1, h2, e1, e2, hI2⟩ := hop h hI [] rfl
  refine lv_aload_n hx hb z_ld731 rfl (lv_at hl 1 rfl) ?_
  refine z_lcall (As := []) (rest := []) (o := 0) C0 hG hK hSt (hmo 27 (Or.inl (by decide))) rfl rfl (by decide) (by decide +kernel) ⟨by decide, by decide, by decide +kernel⟩ (hmet 27 _ _ _ (by decide) (Nat.le_of_ble_eq_true rfl) e1) (z_wd_good (pl := 1055) (by decide +kernel) rfl) rfl (Nat.le_of_ble_eq_true rfl) z_ld732 hl.1 (Nat.le_of_ble_eq_true rfl) hcl hR hS (fun H locs hR hS => ?_)
  refine lv_aload_n hx hb z_ld733 rfl (lv_at hl 2 rfl) ?_
  refine z_lcall (As := []) (rest := [.int r]) (o := 122) C0 hG hK hSt (hmo 215 (Or.inl (by decide))) rfl rfl (by decide) (by decide +kernel) ⟨by decide, by decide, by decide +kernel⟩ (hmet 215 _ _ _ (by decide) (Nat.le_of_ble_eq_true rfl) e2) (z_wd_good (pl := 1563) (by decide +kernel) rfl) rfl (Nat.le_of_ble_eq_true rfl) z_ld734 hl.1 (Nat.le_of_ble_eq_true rfl) hcl hR hS (fun H locs hR hS => ?_)
  refine lv_icmp_eq (tgt := 1071) hx hb z_ld735 (by decide) (fun _ => ?_) (fun q => absurd rfl q)
  exact k h2 H locs hI2 hR hS
set_option maxRecDepth 8000 in
set_option maxHeartbeats 1000000 in
theorem z_law_28 {p : Program} {l : Launch} {e : Env} {s : State} {m : MethodId} {below : List Frame} {meth : Method} {c : Code} {Q : State → Prop} {b L : Nat} {xs : Nat → Int32} {G : z_G} {cells slots : Nat} {H : Heap} {locs : List Loc} {ls : Array Slot} {h : z_H} {Inv : z_H → Prop} (C0 : lw_At p s m meth c b L xs) (hL : L ≤ 2560) (hG : G.1 = s.heap.size) (hK : z_Kn G s) (hSt : z_St G s s.heap) (hmo : ∀ i, z_idok i → z_mok i) (hmet : ∀ id a h r, id < 221 → z_cat a ≤ z_ml id → z_M id a h = some r → z_Met l G id a h r) (hop : z_opok Inv 28 220 1) (hcl : cells ≤ room_1.cells ∧ slots ≤ room_1.slots)
    {i : Nat} (hi : i + 5 ≤ L) (hl : lv_has ls 4 [(0, .ref b), (1, .ref (G.1 + 0)), (2, .ref (G.1 + 122)), (3, .int (nI i))]) (hI : Inv h) (hR : z_Rep G h H) (hS : va_S (fun q : Nat => s.heap.size ≤ q) s.heap H locs)
    (k : ∀ (h2 : z_H) (H : Heap) (locs : List Loc), Inv h2 → z_Rep G h2 H → va_S (fun q : Nat => s.heap.size ≤ q) s.heap H locs → W p l e room_1 s m #[Value.ref b] below meth c H locs cells slots Q (F0 m 1071 ls [])) : W p l e room_1 s m #[Value.ref b] below meth c H locs cells slots Q (F0 m 1048 ls []) := by
  obtain ⟨hx, hb, -⟩ := id C0
  obtain ⟨r, h1, h2, e1, e2, hI2⟩ := hop h hI [xs (i + 1)] rfl
  refine lv_aload_n hx hb z_ld738 rfl (lv_at hl 1 rfl) ?_
  refine z_larg C0 hS hi (j := 1) (by decide) hL hl rfl z_ld739 z_ld740 z_ld741 z_ld742 z_ld743 ?_
  refine z_lcall (As := [.int (xs (i + 1))]) (rest := []) (o := 0) C0 hG hK hSt (hmo 28 (Or.inl (by decide))) rfl rfl (by decide) (by decide +kernel) ⟨by decide, by decide, by decide +kernel⟩ (hmet 28 _ _ _ (by decide) (Nat.le_of_ble_eq_true rfl) e1) (z_wd_good (pl := 1059) (by decide +kernel) rfl) rfl (Nat.le_of_ble_eq_true rfl) z_ld744 hl.1 (Nat.le_of_ble_eq_true rfl) hcl hR hS (fun H locs hR hS => ?_)
  refine lv_aload_n hx hb z_ld745 rfl (lv_at hl 2 rfl) ?_
  refine z_larg C0 hS hi (j := 1) (by decide) hL hl rfl z_ld746 z_ld747 z_ld748 z_ld749 z_ld750 ?_
  refine z_lcall (As := [.int (xs (i + 1))]) (rest := [.int r]) (o := 122) C0 hG hK hSt (hmo 220 (Or.inl (by decide))) rfl rfl (by decide) (by decide +kernel) ⟨by decide, by decide, by decide +kernel⟩ (hmet 220 _ _ _ (by decide) (Nat.le_of_ble_eq_true rfl) e2) (z_wd_good (pl := 1567) (by decide +kernel) rfl) rfl (Nat.le_of_ble_eq_true rfl) z_ld751 hl.1 (Nat.le_of_ble_eq_true rfl) hcl hR hS (fun H locs hR hS => ?_)
  refine lv_icmp_eq (tgt := 1071) hx hb z_ld752 (by decide) (fun _ => ?_) (fun q => absurd rfl q)
  exact k h2 H locs hI2 hR hS
/-- all of the law's calls -/
def z_allop (Inv : z_H → Prop) : Prop := z_opok Inv 0 133 1 ∧ z_opok Inv 1 134 1 ∧ z_opok Inv 2 150 0 ∧ z_opok Inv 3 151 0 ∧ z_opok Inv 4 183 1 ∧ z_opok Inv 5 184 3 ∧ z_opok Inv 6 185 3 ∧ z_opok Inv 7 190 2 ∧ z_opok Inv 8 191 2 ∧ z_opok Inv 9 194 2 ∧ z_opok Inv 10 195 2 ∧ z_opok Inv 11 196 2 ∧ z_opok Inv 12 197 1 ∧ z_opok Inv 13 198 4 ∧ z_opok Inv 14 199 4 ∧ z_opok Inv 15 200 3 ∧ z_opok Inv 16 201 3 ∧ z_opok Inv 17 203 0 ∧ z_opok Inv 18 204 0 ∧ z_opok Inv 19 206 3 ∧ z_opok Inv 20 207 1 ∧ z_opok Inv 21 208 2 ∧ z_opok Inv 22 209 1 ∧ z_opok Inv 23 210 1 ∧ z_opok Inv 24 212 3 ∧ z_opok Inv 25 213 3 ∧ z_opok Inv 26 214 4 ∧ z_opok Inv 27 215 0 ∧ z_opok Inv 28 220 1
theorem z_lgt {i L : Nat} (h1 : i ≤ 2570) (h2 : L ≤ 2560) (h : L < i + 5) : nI L - nI 5 < nI i := by
  rw [Int32.lt_iff_toInt_lt, pk_sub_toInt (by omega) (by omega), nI_toInt (by omega)]
  omega
theorem z_lngt {i L : Nat} (h1 : i ≤ 2570) (h2 : L ≤ 2560) (h : ¬ L < i + 5) : ¬ nI L - nI 5 < nI i := by
  rw [Int32.lt_iff_toInt_lt, pk_sub_toInt (by omega) (by omega), nI_toInt (by omega)]
  omega
/-! THE LAW'S LOOP -/
set_option maxRecDepth 8000 in
set_option maxHeartbeats 4000000 in
theorem z_law_loop {p : Program} {l : Launch} {e : Env} {s : State} {m : MethodId} {below : List Frame} {meth : Method} {c : Code} {b L : Nat} {xs : Nat → Int32} {G : z_G} {Inv : z_H → Prop} (C0 : lw_At p s m meth c b L xs) (hL : L ≤ 2560) (hG : G.1 = s.heap.size) (hK : z_Kn G s) (hSt : z_St G s s.heap) (hmo : ∀ i, z_idok i → z_mok i) (hmet : ∀ id a h r, id < 221 → z_cat a ≤ z_ml id → z_M id a h = some r → z_Met l G id a h r) (hop : z_allop Inv) :
    ∀ (n i : Nat) (h : z_H) (H : Heap) (locs : List Loc) (ls : Array Slot), L < i + n → i ≤ L + 5 → lv_has ls 4 [(0, .ref b), (1, .ref (G.1 + 0)), (2, .ref (G.1 + 122)), (3, .int (nI i))] → Inv h → z_Rep G h H → va_S (fun q : Nat => s.heap.size ≤ q) s.heap H locs → W p l e room_1 s m #[Value.ref b] below meth c H locs 600000 7302250 (lw_Z below #[Value.ref b] s) (F0 m 18 ls []) := by
  obtain ⟨hx, hb, hr, hml, hown, hts, hX, hbl, hlocks, hgv⟩ := id C0
  have hbA : ¬ (fun q : Nat => s.heap.size ≤ q) b := Nat.not_le.mpr hbl
  have hcl : 600000 ≤ room_1.cells ∧ 7302250 ≤ room_1.slots := ⟨Nat.le_of_ble_eq_true rfl, Nat.le_of_ble_eq_true rfl⟩
  intro n
  induction n with
  | zero =>
    intro i h H locs ls h1 h2 hl hI hR hS
    have hgt : L < i + 5 := by omega
    refine lv_iload_n hx hb z_ld10 rfl (lv_at hl 3 rfl) ?_
    refine lv_aload_n hx hb z_ld11 rfl (lv_at hl 0 rfl) ?_
    refine va_slen hx hb hX hbl hbA hS z_ld12 ?_
    refine lv_iconst (v := nI 5) hx hb z_ld13 (by decide) ?_
    refine lv_isub hx hb z_ld14 ?_
    refine lv_icmp_gt (tgt := 1077) hx hb z_ld15 (by decide) (fun _ => ?_) (fun q => absurd (z_lgt (by omega) (by omega) hgt) q)
    refine lv_iconst (v := 1) hx hb z_ld757 (by decide) ?_
    refine va_forget (fun q hq => hS.2.2 q hq) ?_
    exact lw_ret hx hb hr hlocks z_ld758
  | succ n ih =>
    intro i h H locs ls h1 h2 hl hI hR hS
    refine lv_iload_n hx hb z_ld10 rfl (lv_at hl 3 rfl) ?_
    refine lv_aload_n hx hb z_ld11 rfl (lv_at hl 0 rfl) ?_
    refine va_slen hx hb hX hbl hbA hS z_ld12 ?_
    refine lv_iconst (v := nI 5) hx hb z_ld13 (by decide) ?_
    refine lv_isub hx hb z_ld14 ?_
    by_cases hgt : L < i + 5
    · refine lv_icmp_gt (tgt := 1077) hx hb z_ld15 (by decide) (fun _ => ?_) (fun q => absurd (z_lgt (by omega) (by omega) hgt) q)
      refine lv_iconst (v := 1) hx hb z_ld757 (by decide) ?_
      refine va_forget (fun q hq => hS.2.2 q hq) ?_
      exact lw_ret hx hb hr hlocks z_ld758
    · refine lv_icmp_gt (tgt := 1077) hx hb z_ld15 (by decide) (fun q => absurd q (z_lngt (by omega) (by omega) hgt)) (fun _ => ?_)
      refine lv_aload_n hx hb z_ld16 rfl (lv_at hl 0 rfl) ?_
      refine lv_iload_n hx hb z_ld17 rfl (lv_at hl 3 rfl) ?_
      refine va_sld hx hb hX hbl hbA hS (vp_in_nI (by omega) (by omega)) z_ld18 ?_
      refine lv_bipush (v := 31) hx hb z_ld19 (by decide) ?_
      refine lv_iand hx hb z_ld20 ?_
      obtain ⟨j, hj, ej⟩ := pk_andE (xs (nI i).toNatClampNeg) (m := 31) 5 (by decide)
      rw [ej]
      have tail : ∀ (h2 : z_H) (H : Heap) (locs : List Loc), Inv h2 → z_Rep G h2 H → va_S (fun q : Nat => s.heap.size ≤ q) s.heap H locs → W p l e room_1 s m #[Value.ref b] below meth c H locs 600000 7302250 (lw_Z below #[Value.ref b] s) (F0 m 1071 ls []) := by
        intro h2 H locs hI hR hS
        refine lv_iinc (v := nI (i + 5)) (lv' := [(3, .int (nI (i + 5))), (0, .ref b), (1, .ref (G.1 + 0)), (2, .ref (G.1 + 122))]) hx hb z_ld755 hl (k := 3) rfl (by rw [← nI_add]; rfl) (by decide) rfl (fun ls hl => ?_)
        refine lv_goto (tgt := 18) hx hb z_ld756 (by decide) ?_
        exact ih (i + 5) h2 H locs ls (by omega) (by omega) (lv_sub hl [1, 2, 3, 0] rfl) hI hR hS
      obtain ⟨o0, o1, o2, o3, o4, o5, o6, o7, o8, o9, o10, o11, o12, o13, o14, o15, o16, o17, o18, o19, o20, o21, o22, o23, o24, o25, o26, o27, o28⟩ := hop
      have hsw := z_ld21
      have key : j = 0 ∨ j = 1 ∨ j = 2 ∨ j = 3 ∨ j = 4 ∨ j = 5 ∨ j = 6 ∨ j = 7 ∨ j = 8 ∨ j = 9 ∨ j = 10 ∨ j = 11 ∨ j = 12 ∨ j = 13 ∨ j = 14 ∨ j = 15 ∨ j = 16 ∨ j = 17 ∨ j = 18 ∨ j = 19 ∨ j = 20 ∨ j = 21 ∨ j = 22 ∨ j = 23 ∨ j = 24 ∨ j = 25 ∨ j = 26 ∨ j = 27 ∨ j = 28 ∨ j = 29 ∨ j = 30 ∨ j = 31 := by omega
      rcases key with rfl | rfl | rfl | rfl | rfl | rfl | rfl | rfl | rfl | rfl | rfl | rfl | rfl | rfl | rfl | rfl | rfl | rfl | rfl | rfl | rfl | rfl | rfl | rfl | rfl | rfl | rfl | rfl | rfl | rfl | rfl | rfl
      · exact lv_tableIn (tgt := 164) hx hb hsw (by decide) (by decide) rfl (by decide) (z_law_0 C0 hL hG hK hSt hmo hmet o0 hcl (by omega) hl hI hR hS tail)
      · exact lv_tableIn (tgt := 187) hx hb hsw (by decide) (by decide) rfl (by decide) (z_law_1 C0 hL hG hK hSt hmo hmet o1 hcl (by omega) hl hI hR hS tail)
      · exact lv_tableIn (tgt := 210) hx hb hsw (by decide) (by decide) rfl (by decide) (z_law_2 C0 hL hG hK hSt hmo hmet o2 hcl (by omega) hl hI hR hS tail)
      · exact lv_tableIn (tgt := 223) hx hb hsw (by decide) (by decide) rfl (by decide) (z_law_3 C0 hL hG hK hSt hmo hmet o3 hcl (by omega) hl hI hR hS tail)
      · exact lv_tableIn (tgt := 236) hx hb hsw (by decide) (by decide) rfl (by decide) (z_law_4 C0 hL hG hK hSt hmo hmet o4 hcl (by omega) hl hI hR hS tail)
      · exact lv_tableIn (tgt := 259) hx hb hsw (by decide) (by decide) rfl (by decide) (z_law_5 C0 hL hG hK hSt hmo hmet o5 hcl (by omega) hl hI hR hS tail)
      · exact lv_tableIn (tgt := 302) hx hb hsw (by decide) (by decide) rfl (by decide) (z_law_6 C0 hL hG hK hSt hmo hmet o6 hcl (by omega) hl hI hR hS tail)
      · exact lv_tableIn (tgt := 345) hx hb hsw (by decide) (by decide) rfl (by decide) (z_law_7 C0 hL hG hK hSt hmo hmet o7 hcl (by omega) hl hI hR hS tail)
      · exact lv_tableIn (tgt := 378) hx hb hsw (by decide) (by decide) rfl (by decide) (z_law_8 C0 hL hG hK hSt hmo hmet o8 hcl (by omega) hl hI hR hS tail)
      · exact lv_tableIn (tgt := 411) hx hb hsw (by decide) (by decide) rfl (by decide) (z_law_9 C0 hL hG hK hSt hmo hmet o9 hcl (by omega) hl hI hR hS tail)
      · exact lv_tableIn (tgt := 444) hx hb hsw (by decide) (by decide) rfl (by decide) (z_law_10 C0 hL hG hK hSt hmo hmet o10 hcl (by omega) hl hI hR hS tail)
      · exact lv_tableIn (tgt := 477) hx hb hsw (by decide) (by decide) rfl (by decide) (z_law_11 C0 hL hG hK hSt hmo hmet o11 hcl (by omega) hl hI hR hS tail)
      · exact lv_tableIn (tgt := 510) hx hb hsw (by decide) (by decide) rfl (by decide) (z_law_12 C0 hL hG hK hSt hmo hmet o12 hcl (by omega) hl hI hR hS tail)
      · exact lv_tableIn (tgt := 533) hx hb hsw (by decide) (by decide) rfl (by decide) (z_law_13 C0 hL hG hK hSt hmo hmet o13 hcl (by omega) hl hI hR hS tail)
      · exact lv_tableIn (tgt := 586) hx hb hsw (by decide) (by decide) rfl (by decide) (z_law_14 C0 hL hG hK hSt hmo hmet o14 hcl (by omega) hl hI hR hS tail)
      · exact lv_tableIn (tgt := 639) hx hb hsw (by decide) (by decide) rfl (by decide) (z_law_15 C0 hL hG hK hSt hmo hmet o15 hcl (by omega) hl hI hR hS tail)
      · exact lv_tableIn (tgt := 682) hx hb hsw (by decide) (by decide) rfl (by decide) (z_law_16 C0 hL hG hK hSt hmo hmet o16 hcl (by omega) hl hI hR hS tail)
      · exact lv_tableIn (tgt := 725) hx hb hsw (by decide) (by decide) rfl (by decide) (z_law_17 C0 hL hG hK hSt hmo hmet o17 hcl (by omega) hl hI hR hS tail)
      · exact lv_tableIn (tgt := 738) hx hb hsw (by decide) (by decide) rfl (by decide) (z_law_18 C0 hL hG hK hSt hmo hmet o18 hcl (by omega) hl hI hR hS tail)
      · exact lv_tableIn (tgt := 751) hx hb hsw (by decide) (by decide) rfl (by decide) (z_law_19 C0 hL hG hK hSt hmo hmet o19 hcl (by omega) hl hI hR hS tail)
      · exact lv_tableIn (tgt := 794) hx hb hsw (by decide) (by decide) rfl (by decide) (z_law_20 C0 hL hG hK hSt hmo hmet o20 hcl (by omega) hl hI hR hS tail)
      · exact lv_tableIn (tgt := 817) hx hb hsw (by decide) (by decide) rfl (by decide) (z_law_21 C0 hL hG hK hSt hmo hmet o21 hcl (by omega) hl hI hR hS tail)
      · exact lv_tableIn (tgt := 850) hx hb hsw (by decide) (by decide) rfl (by decide) (z_law_22 C0 hL hG hK hSt hmo hmet o22 hcl (by omega) hl hI hR hS tail)
      · exact lv_tableIn (tgt := 873) hx hb hsw (by decide) (by decide) rfl (by decide) (z_law_23 C0 hL hG hK hSt hmo hmet o23 hcl (by omega) hl hI hR hS tail)
      · exact lv_tableIn (tgt := 896) hx hb hsw (by decide) (by decide) rfl (by decide) (z_law_24 C0 hL hG hK hSt hmo hmet o24 hcl (by omega) hl hI hR hS tail)
      · exact lv_tableIn (tgt := 939) hx hb hsw (by decide) (by decide) rfl (by decide) (z_law_25 C0 hL hG hK hSt hmo hmet o25 hcl (by omega) hl hI hR hS tail)
      · exact lv_tableIn (tgt := 982) hx hb hsw (by decide) (by decide) rfl (by decide) (z_law_26 C0 hL hG hK hSt hmo hmet o26 hcl (by omega) hl hI hR hS tail)
      · exact lv_tableIn (tgt := 1035) hx hb hsw (by decide) (by decide) rfl (by decide) (z_law_27 C0 hL hG hK hSt hmo hmet o27 hcl (by omega) hl hI hR hS tail)
      · exact lv_tableIn (tgt := 1048) hx hb hsw (by decide) (by decide) rfl (by decide) (z_law_28 C0 hL hG hK hSt hmo hmet o28 hcl (by omega) hl hI hR hS tail)
      · exact lv_tableOut (tgt := 1071) hx hb hsw (by decide) (by decide) (tail h H locs hI hR hS)
      · exact lv_tableOut (tgt := 1071) hx hb hsw (by decide) (by decide) (tail h H locs hI hR hS)
      · exact lv_tableOut (tgt := 1071) hx hb hsw (by decide) (by decide) (tail h H locs hI hR hS)
