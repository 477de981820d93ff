/-! FROM THE LAW'S ENTRY: the tables' facts, the two constructors, the loop -/
section YLA
variable {p : Program} {l : Launch} {e : Env} {R : Room} {s : State} {m : MethodId} {args : Array Value} {below : List Frame} {meth : Method} {c : Code} {Q : State → Prop}
variable {G : z_G}
theorem y_backM {H : Heap} {locs : List Loc} {ls : Array Slot} {pc ce sl mc ms : Nat} {a : Array Value} {rest st0 : List Value} {h : z_H} (hr : va_Run p l e R s m args below meth c H locs ce sl mc ms (F0 m pc ls st0) rest (y_cQM G h a) (fun q => G.1 ≤ q)) (z : y_Fr G s H locs) (k : ∀ (H1 : Heap) (locs1 : List Loc), z_Rep G h H1 → y_Fr G s H1 locs1 → W p l e R s m args below meth c H1 locs1 (ce + mc) (sl + ms) Q (F0 m (pc + 3) ls rest)) : W p l e R s m args below meth c H locs ce sl Q (F0 m pc ls st0) := by
  intro T hT X
  obtain ⟨v, st₀, t, T', L, h0, X', hL, e1, e2, ⟨hv, hR, hz, hq⟩, st⟩ := hr T hT X
  cases hv
  rw [h0] at hz hq
  obtain ⟨t2, a1, b1⟩ := k T'.heap (locs ++ L) (by rw [e1]; exact hR) ⟨by rw [e1]; exact Nat.le_trans z.1 hz, fun q h1 => by rw [e1, hq q h1]; exact z.2.1 q h1, fun q hq => by
      rcases List.mem_append.mp hq with h | h
      · exact z.2.2 q h
      · exact hL q h⟩ T' rfl X'
  exact ⟨t2, st t2 a1, b1⟩
theorem y_newL {own : String} {a i pc ce sl : Nat} {cc : ByteArray} {cs : List y_C} {H : Heap} {locs : List Loc} {ls : Array Slot} {rest : List Value} (hx : p.tables.exec = Jvm.exec) (hb : c.code = cc) (hown : s.vm.findClass own = some m.cls) (hts : ∀ w ∈ z_good, w.before args s = true) (hK : z_Kn G s) (a1 : 1 ≤ a) (a12 : a ≤ 12) (hwd : (Cond.classLink own i (z_q a).1).before args s = true) (hd : decode cc pc = .ok (.new i, 3)) (g4 : ce + 1 ≤ R.cells) (g5 : sl + (z_q a).2.2 ≤ R.slots) (y : y_Rep G cs H) (z : y_Fr G s H locs)
    (k : ∀ H1 : Heap, y_Rep G (cs ++ [.inl (a, y_def a)]) H1 → y_Fr G s H1 locs → W p l e R s m args below meth c H1 locs (ce + 1) (sl + (z_q a).2.2) Q (F0 m (pc + 3) ls (.ref (G.1 + cs.length) :: rest))) : W p l e R s m args below meth c H locs ce sl Q (F0 m pc ls rest) := by
  have hord := hK.1.1
  obtain ⟨q1, q2, q3, q4⟩ := z_q_ok a a1 a12
  have hKn := hord (a - 1) _ q1
  obtain ⟨i1, i2⟩ := y_inst a a1 a12
  refine W.newcK hx hb hown hwd (hts _ i1) (hts _ i2) rfl hd g4 g5 hKn.2.1 rfl fun H1 kC hkC e1 z1 o1 => ?_
  have h3 := k H1 (y.push (c := .inl (a, y_def a)) z1 o1 ⟨a1, a12, by unfold y_def; rw [List.length_map, List.length_range], (u_born (z_qT a) hts q2 hKn hkC e1 q4).to (fun j hj => ?_)⟩) (z.push y z1 o1)
  · rw [← y.1] at h3
    exact h3
  · have : (y_def a).getD j .null = defaultValue (z_qT a j) := by
      unfold y_def
      rw [List.getD_eq_getElem?_getD, List.getElem?_map, List.getElem?_range hj]
      rfl
    rw [this, y_up_def]
end YLA
def y_tm (i : Nat) : Term := .string "TestChoice$Reader" (100 + 2 * i)
def y_len : List Nat := [6, 3, 4, 5, 3, 4]
def y_byt : List (List Int32) := (List.range 6).map (fun j => z_txt (1000 + j))
def y_flat : List Cond := flatC (Jvm.Cond.and given_1 narrow_1)
theorem y_f1 : ∀ i, i < 6 → Cond.exactly (y_tm i) "java/lang/String" ∈ y_flat ∧ Cond.eq (.field (y_tm i) "java/lang/String" "coder" "B") (.int 0) ∈ y_flat ∧ Cond.arrayOf (.field (y_tm i) "java/lang/String" "value" "[B") .byte ∈ y_flat ∧ Cond.eq (.length (.field (y_tm i) "java/lang/String" "value" "[B")) (.int (Int32.ofNat (y_len.getD i 0))) ∈ y_flat := by decide +kernel
theorem y_f2 : ∀ i, i < 6 → ∀ j, j < y_len.getD i 0 → Cond.eq (.elem (.field (y_tm i) "java/lang/String" "value" "[B") (.int (Int32.ofNat j))) (.int ((y_byt.getD i []).getD j 0)) ∈ y_flat := by decide +kernel
theorem y_f3 : ∀ i, i < 6 → ∀ j, j < 6 → i ≠ j → Cond.not (Cond.eq (y_tm i) (y_tm j)) ∈ y_flat ∨ Cond.not (Cond.eq (y_tm j) (y_tm i)) ∈ y_flat := by decide +kernel
theorem y_f4 : Cond.eq (.static "java/lang/String" "COMPACT_STRINGS" "Z") (.int 1) ∈ y_flat ∧ Cond.isRef (.static "jdk/internal/util/Preconditions" "SIOOBE_FORMATTER" "Ljava/util/function/BiFunction;") ∈ y_flat := by decide +kernel
theorem y_f5 : ∀ j, j < 6 → Cond.stringRef "TestChoice$Reader" (100 + 2 * j) (z_word j) ∈ lw_tbl := by decide +kernel
theorem y_arrK {s : State} {args : Array Value} {ty : FieldType} (h : (Cond.arrayClass ty).before args s = true) : ∃ c : ClassId, ArrOfT s c ty ∧ s.vm.findClass ("[" ++ ty.toString) = some c := by
  obtain ⟨c, k, comp, h1, h2, h3⟩ := Cond.arrayClass_spec h
  exact ⟨c, fun n z => ⟨(fun _ h => nomatch h), k, h2, comp, h3⟩, h1⟩
theorem y_arrO {s : State} {args : Array Value} {C : String} (h : (Cond.arrayOver (.object C)).before args s = true) : ∃ c : ClassId, ArrOfT s c (.object C) ∧ va_RA s c (.object C) := by
  obtain ⟨comp, c, k, h1, h2, h3, h4, h5⟩ := Cond.arrayOver_spec h
  exact ⟨c, fun n z => ⟨(fun _ h => nomatch h), k, h3, comp, h4⟩, k, comp, h3, h4, h1, h5⟩
/-- what the tables and the start give: all that the picture's world is made of -/
theorem y_world {s : State} {args : Array Value} (hts : ∀ w ∈ lw_tbl, w.before args s = true) (hgv : (Jvm.Cond.and given_1 narrow_1).before args s = true) : ∃ G : z_G, G.1 = s.heap.size ∧ y_Kn G s ∧ z_St G s s.heap := by
  have hf := flat_of_before _ hgv
  have hA : ∀ a : Nat, a < s.heap.size → ¬ s.heap.size ≤ a := fun a h => Nat.not_le.mpr h
  obtain ⟨adK, adV, hS, hev⟩ := vk_Sof (N := 6) (tm := y_tm) (len := y_len) (byt := y_byt) (A := fun q => s.heap.size ≤ q) (by decide +kernel) (fun i hi => hf _ (y_f1 i hi).1) (fun i hi => hf _ (y_f1 i hi).2.1) (fun i hi => hf _ (y_f1 i hi).2.2.1) (fun i hi => hf _ (y_f1 i hi).2.2.2) (fun i hi j hj => hf _ (y_f2 i hi j hj)) (fun i j hi hj hne => (y_f3 i hi j hj hne).imp (hf _) (hf _)) hA
  have hZ := va_Zof (A := fun q => s.heap.size ≤ q) (hts (.laysStatic "java/lang/String" "COMPACT_STRINGS" "Z") (List.mem_of_getElem? (i := 573) (by decide +kernel))) (hts (.initialized "java/lang/String") (List.mem_of_getElem? (i := 106) (by decide +kernel))) (va_eqi (hf _ y_f4.1)) hA
  have hZq := va_Zqof (A := fun q => s.heap.size ≤ q) (hts (.laysStatic "jdk/internal/util/Preconditions" "SIOOBE_FORMATTER" "Ljava/util/function/BiFunction;") (List.mem_of_getElem? (i := 589) (by decide +kernel))) (hts (.initialized "jdk/internal/util/Preconditions") (List.mem_of_getElem? (i := 108) (by decide +kernel))) (hf _ y_f4.2) hA
  have hcl : ∀ k : Nat, ∃ q : ClassId × (Nat → Nat), ∀ r : vw_C, z_cl[k]? = some r → u_Kn s r.1 r.2.1 r.2.2 q.1 q.2 := by
    intro k
    by_cases hk : k < 12
    · obtain ⟨q1, q2, q3, q4⟩ := z_q_ok (k + 1) (by omega) (by omega)
      obtain ⟨i1, -⟩ := y_inst (k + 1) (by omega) (by omega)
      obtain ⟨cC, iS, hKn⟩ := u_known (C := (z_q (k + 1)).1) (T := (z_q (k + 1)).2.1) (N := (z_q (k + 1)).2.2) (ws := z_good) (fun w hw => hts w (List.mem_filter.mp hw).1) q2 (hts _ (List.mem_filter.mp i1).1)
      refine ⟨(cC, iS), fun r hr => ?_⟩
      rw [show k + 1 - 1 = k by omega] at q1
      cases q1.symm.trans hr
      exact hKn
    · refine ⟨(0, fun _ => 0), fun r hr => ?_⟩
      have : k < z_cl.length := (List.getElem?_eq_some_iff.mp hr).1
      exact absurd this (by show ¬ k < 12; exact hk)
  obtain ⟨c20, a20, b20⟩ := y_arrK (ty := .int) (hts _ (List.mem_of_getElem? (i := 213) (by decide +kernel)))
  obtain ⟨c21, a21, b21⟩ := y_arrK (ty := .long) (hts _ (List.mem_of_getElem? (i := 295) (by decide +kernel)))
  obtain ⟨c22, a22, b22⟩ := y_arrK (ty := .byte) (hts _ (List.mem_of_getElem? (i := 150) (by decide +kernel)))
  obtain ⟨c23, a23, b23⟩ := y_arrK (ty := .boolean) (hts _ (List.mem_of_getElem? (i := 1209) (by decide +kernel)))
  have o24 := hts (.arrayOver (.object "TestChoice$EdgeSet")) (List.mem_of_getElem? (i := 361) (by decide +kernel))
  have o25 := hts (.arrayOver (.object "TestChoice$Image")) (List.mem_of_getElem? (i := 401) (by decide +kernel))
  have o26 := hts (.arrayOver (.object "TestChoice$Sheet")) (List.mem_of_getElem? (i := 403) (by decide +kernel))
  obtain ⟨c24, a24, b24⟩ := y_arrO o24
  obtain ⟨c25, a25, b25⟩ := y_arrO o25
  obtain ⟨c26, a26, b26⟩ := y_arrO o26
  refine ⟨(s.heap.size, fun o => adK (o - 1000), fun k => (Classical.choose (hcl k)).1, fun k => (Classical.choose (hcl k)).2, fun k => match k with
    | 20 => c20
    | 21 => c21
    | 22 => c22
    | 23 => c23
    | 24 => c24
    | 25 => c25
    | _ => c26), rfl, ⟨⟨⟨fun k q hq => Classical.choose_spec (hcl k) q hq, fun k q hq => ?_⟩, fun a i x h hm => va_Nw.of rfl (hts _ hm), fun j hj => vk_R.of (hts _ (y_f5 j hj)) ?_⟩, fun k h1 h2 => ?_⟩, adV, ?_, hZ, hZq⟩
  · match k, hq with
    | 0, hq => cases hq; exact ⟨a20, b20⟩
    | 1, hq => cases hq; exact ⟨a21, b21⟩
    | 2, hq => cases hq; exact ⟨a22, b22⟩
    | 3, hq => cases hq; exact ⟨a23, b23⟩
    | 4, hq => cases hq; exact ⟨a24, b24⟩
    | 5, hq => cases hq; exact ⟨a25, b25⟩
    | 6, hq => cases hq; exact ⟨a26, b26⟩
    | k + 7, hq => cases hq
  · have := hev j hj
    show _ = some (Value.ref (adK (1000 + j - 1000)))
    rw [show 1000 + j - 1000 = j by omega]
    exact this
  · rcases (show k = 24 ∨ k = 25 ∨ k = 26 by omega) with rfl | rfl | rfl
    · exact ⟨_, rfl, va_AO.of o24⟩
    · exact ⟨_, rfl, va_AO.of o25⟩
    · exact ⟨_, rfl, va_AO.of o26⟩
  · have : (fun j => adK (1000 + j - 1000)) = adK := by
      funext j
      rw [show 1000 + j - 1000 = j by omega]
    show vk_S 6 _ _ (fun j => adK (1000 + j - 1000)) adV _ s s.heap
    rw [this]
    exact hS

theorem y_pm : Cond.methodLink "TestChoiceLaw" 9 (y_mt 10).1 ∈ z_good ∧ Cond.methodLink "TestChoiceLaw" 12 (y_mt 11).1 ∈ z_good := ⟨y_g 115 (by decide +kernel) rfl, y_g 1091 (by decide +kernel) rfl⟩
theorem y_csx : ∃ cs, y_ev 5 10 [.ref 0] [.inl (1, y_def 1)] = some cs ∧ cs.length = 122 ∧ ∃ t, y_st 119 (0, [(0, .ref 122)], [], cs ++ [.inl (12, y_def 12)], 0, 0) = some t ∧ y_end t = true := by
  have h1 : (match y_ev 5 10 [.ref 0] [.inl (1, y_def 1)] with
    | none => false
    | some cs => Nat.beq cs.length 122 && (match y_st 119 (0, [(0, .ref 122)], [], cs ++ [.inl (12, y_def 12)], 0, 0) with
      | none => false
      | some t => y_end t)) = true := by decide +kernel
  cases hc : y_ev 5 10 [.ref 0] [.inl (1, y_def 1)] with
  | none => rw [hc] at h1; cases h1
  | some cs =>
    rw [hc] at h1
    simp only [Bool.and_eq_true] at h1
    cases ht : y_st 119 (0, [(0, .ref 122)], [], cs ++ [.inl (12, y_def 12)], 0, 0) with
    | none => rw [ht] at h1; cases h1.2
    | some t =>
      rw [ht] at h1
      exact ⟨cs, rfl, z_beq h1.1, t, ht, h1.2⟩
set_option maxRecDepth 20000 in
set_option maxHeartbeats 2000000 in
/-- the law, from its entry, out of the pure part: an invariant that the first picture has and that every call keeps -/
theorem y_whole {Inv : z_H → Prop} {h2 h3 : z_H} {x2 x3 : Int32} (hd1 : z_M 131 [.ref 122] y_h1 = some (x2, h2)) (hd2 : z_M 132 [.ref 122] h2 = some (x3, h3)) (hI : Inv h3) (hop : z_allop Inv)
    {p : Program} {e : Env} {s : State} {m : MethodId} {below : List Frame} {meth : Method} {c : Code} (l : Launch) {b L : Nat} {xs : Nat → Int32} (hL : L ≤ 2560) (C0 : lw_At p s m meth c b L xs) : W p l e room_1 s m #[Value.ref b] below meth c s.heap [] 0 0 (lw_Z below #[Value.ref b] s) (entryFrame m ([Value.ref b] : List Value).toArray 4) := by
  obtain ⟨hx, hb, hr, hml, hown, hts, hX, hbl, hlocks, hgv⟩ := id C0
  obtain ⟨G, hG, hK, hSt⟩ := y_world hts hgv
  have hgood : ∀ w ∈ z_good, w.before #[Value.ref b] s = true := fun w hw => hts w (List.mem_filter.mp hw).1
  have hmo := z_moks
  have hmet : ∀ id a h r, id < 221 → z_cat a ≤ z_ml id → z_M id a h = some r → z_Met l G id a h r := fun id a h r hid hcat hM => by
    obtain ⟨n, hn⟩ := z_M_iff.mp hM
    exact z_sound l G z_moks z_allok_ok (z_prims l G z_moks) n id a h r hn hcat (Or.inl hid)
  obtain ⟨cs, hcs, hlen, t, ht, hend⟩ := y_csx
  have hl := lv_entry ([Value.ref b]) (n := 4) (Nat.le_of_ble_eq_true rfl)
  rw [lg_entry_eq]
  generalize (lg_sl ([Value.ref b]) ++ List.replicate (4 - (lg_sl ([Value.ref b])).length) Slot.unset).toArray = ls at hl ⊢
  have hl : lv_has ls 4 [(0, .ref b)] := hl
  have hgi : ∀ tt : z_Mt, Cond.code tt.1 tt.2.1 tt.2.2.1 tt.2.2.2 ∈ z_good → GoodIn lw_tbl (y_ws tt) := by
    intro tt hm w hw
    have key : ∀ w ∈ z_good, w ∈ lw_tbl ∧ ((w.onTables && w.keeps) = true ∨ ∃ ty, w = .arrayClass ty) := fun w hw => ⟨(List.mem_filter.mp hw).1, good_of_word (List.mem_filter.mp hw).2⟩
    rcases List.mem_cons.mp hw with rfl | hw
    · exact key _ hm
    · exact key w hw
  have hfix : CallFix p m c code 4 s #[Value.ref b] lw_tbl R_law := ⟨hx, hb, hml, hown, hts⟩
  have hR0 : y_Rep G [] s.heap := ⟨by rw [hG]; rfl, fun o c h => by cases h⟩
  have hF0 : y_Fr G s s.heap [] := ⟨Nat.le_refl _, fun _ _ => rfl, fun _ h => by cases h⟩
  refine y_newL (own := R_law) (a := 1) (i := 7) hx hb hown hgood hK.1 (by decide) (by decide) (hts _ (List.mem_of_getElem? (i := 113) (by decide +kernel))) z_ld0 (Nat.le_of_ble_eq_true rfl) (Nat.le_of_ble_eq_true rfl) hR0 hF0 (fun H y z => ?_)
  refine lv_dup hx hb z_ld1 rfl ?_
  obtain ⟨m1, m2, m3, m4, m5, m6, m7, m8, m9, m10⟩ := y_moks 10 (by decide)
  have up0 : z_up G (.ref 0) = .ref (G.1 + 0) := z_up_obj (by decide)
  have hcon := y_sound l G y_allok_ok 5 10 [.ref 0] [.inl (1, y_def 1)] cs hcs (by decide)
  unfold y_Con at hcon
  refine y_backC (cs' := cs) (va_runI (R := room_1) (p := p) (l := l) (e := e) (below := below) (meth := meth) (cells := 0 + 1) (slots := 0 + (z_q 1).2.2) (locs := []) (index := 9) (As := []) (b := G.1 + 0) (rest := [.ref (G.1 + 0)]) hfix hcon (cw := ⟨⟨rfl, rfl, Nat.le_of_ble_eq_true rfl, Nat.le_of_ble_eq_true rfl, pay_in hts (hgi _ m1), List.mem_cons_self, hgood _ m1, hgood _ m2, m3, fun sig hs => (by rw [hs] at m4; exact (Option.some.inj m4).symm), hgood _ y_pm.1⟩, m8, hgood _ m5⟩) ⟨y_cblind G _ _, fun U hU hW => ⟨by rw [List.map_cons, up0]; rfl, hK.warm hW, by rw [hU]; exact y⟩⟩ rfl rfl hl.1 rfl (Nat.le_of_ble_eq_true rfl) z_ld2 ⟨Nat.le_of_ble_eq_true rfl, Nat.le_of_ble_eq_true rfl⟩) z (fun H locs y z => ?_)
  refine lv_astore_n (lv' := [(1, .ref (G.1 + 0)), (0, .ref b)]) hx hb z_ld3 rfl hl (by decide) rfl (fun ls hl => ?_)
  refine y_newL (own := R_law) (a := 12) (i := 10) hx hb hown hgood hK.1 (by decide) (by decide) (hts _ (List.mem_of_getElem? (i := 1089) (by decide +kernel))) z_ld4 (Nat.le_of_ble_eq_true rfl) (Nat.le_of_ble_eq_true rfl) y z (fun H y z => ?_)
  rw [hlen]
  refine lv_dup hx hb z_ld5 rfl ?_
  obtain ⟨n1, n2, n3, n4, n5, n6, n7, n8, n9, n10⟩ := y_moks 11 (by decide)
  have up1 : z_up G (.ref 122) = .ref (G.1 + 122) := z_up_obj (by decide)
  have hcat1 : z_cat [.ref 122] ≤ z_ml 131 := Nat.le_of_ble_eq_true rfl
  have hcat2 : z_cat [.ref 122] ≤ z_ml 132 := Nat.le_of_ble_eq_true rfl
  have hconM := y_ConM l G hmo ht hend (hmet 131 _ _ _ (by decide) hcat1 hd1) (hmet 132 _ _ _ (by decide) hcat2 hd2)
  have hSt2 : ∀ U : State, U.heap = H → s.WarmedH U.vm → z_St G U U.heap := fun U hU hW => by
    rw [hU]
    exact hSt.to hW.alike (fun q h1 h2 => z.2.1 q (by omega))
  refine y_backM (h := h3) (va_runI (R := room_1) (p := p) (l := l) (e := e) (below := below) (meth := meth) (cells := 0 + 1 + (y_cost 10).1 + 1) (slots := 0 + (z_q 1).2.2 + (y_cost 10).2.1 + (z_q 12).2.2) (locs := locs) (index := 12) (As := []) (b := G.1 + 122) (rest := [.ref (G.1 + 122)]) hfix hconM (cw := ⟨⟨rfl, rfl, Nat.le_of_ble_eq_true rfl, Nat.le_of_ble_eq_true rfl, pay_in hts (hgi _ n1), List.mem_cons_self, hgood _ n1, hgood _ n2, n3, fun sig hs => (by rw [hs] at n4; exact (Option.some.inj n4).symm), hgood _ y_pm.2⟩, n8, hgood _ n5⟩) ⟨fun _ U _ _ q => ⟨q.1, y_Kn.same (s := U) rfl q.2.1, z_St.to (s := U) (Vm.Alike.refl _) (fun _ _ _ => rfl) q.2.2.1, q.2.2.2⟩, fun U hU hW => ⟨by rw [List.map_cons, up1]; rfl, hK.warm hW, hSt2 U hU hW, by rw [hU]; exact y⟩⟩ rfl rfl hl.1 rfl (Nat.le_of_ble_eq_true rfl) z_ld6 ⟨Nat.le_of_ble_eq_true rfl, Nat.le_of_ble_eq_true rfl⟩) z (fun H locs y z => ?_)
  refine lv_astore_n (lv' := [(2, .ref (G.1 + 122)), (1, .ref (G.1 + 0)), (0, .ref b)]) hx hb z_ld7 rfl hl (by decide) rfl (fun ls hl => ?_)
  refine lv_iconst hx hb (v := nI 0) z_ld8 rfl ?_
  refine lv_istore_n (lv' := [(3, .int (nI 0)), (2, .ref (G.1 + 122)), (1, .ref (G.1 + 0)), (0, .ref b)]) hx hb z_ld9 rfl hl (by decide) rfl (fun ls hl => ?_)
  refine W.widen (k := 600000) (n := 7302250) (Nat.le_of_ble_eq_true rfl) (Nat.le_of_ble_eq_true rfl) ?_
  exact z_law_loop C0 hL hG hK.1 hSt hmo hmet hop (L + 1) 0 h3 H locs ls (by omega) (by omega) (lv_sub hl [3, 2, 1, 0] rfl) hI y ⟨z.1, fun q h1 h2 => z.2.1 q (by omega), fun q hq => by rw [← hG]; exact z.2.2 q hq⟩
