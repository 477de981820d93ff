/-! the library's methods that the small machine calls: fill, bitCount, length, charAt -/
theorem z_MetW {l : Launch} {G : z_G} {id : Nat} {a : List Value} {h : z_H} {r : z_A} (hm : z_mok id) (hcat : z_cat a ≤ z_ml id)
    (hk : ∀ (p : Program) (e : Env) (s : State) (m : MethodId) (below : List Frame) (meth : Method) (c : Code) (ls : Array Slot), p.tables.exec = Jvm.exec → c.code = (z_mt id).2.1 → c.maxLocals = (z_mt id).2.2.1 → s.vm.findClass (z_mt id).1.cls = some m.cls → (∀ w ∈ z_ws id, w.before (a.map (z_up G)).toArray s = true) → meth.sig.returnType = (z_mt id).2.2.2 → meth.locks = false → z_Kn G s → z_St G s s.heap → z_Rep G h s.heap → lv_has ls (z_mt id).2.2.1 (z_ul G (lv_args 0 a)) →
      W p l e (headSpec (z_ws id) (z_rm (z_rank id a))).room s m (a.map (z_up G)).toArray below meth c s.heap [] 0 0 (MQ below (z_Qc G (z_mt id).2.2.2 r) (a.map (z_up G)).toArray s 0 0 (fun q => G.1 ≤ q)) (F0 m 0 ls [])) : z_Met l G id a h r := by
  unfold z_Met
  refine Met.ofW (cc := (z_mt id).2.1) (maxL := (z_mt id).2.2.1) (ret := (z_mt id).2.2.2) hm.2.2.2.2.2.2.2.1 rfl ?_
  intro p e s m args below meth c s₁ B hml hv
  obtain ⟨rfl, hK, hSt, hR⟩ := hv
  have hent := lv_entry (a.map (z_up G)) (n := (z_mt id).2.2.1) (by
    rw [z_lgsl, hm.2.2.2.2.2.1]
    have : z_cat (a.map (z_up G)) = z_cat a := z_cat_up G a
    omega)
  rw [lg_entry_eq]
  rw [z_lvargs] at hent
  exact hk p e s m below meth c _ B.exec B.bytes hml (findClass_of_methodNamed B.named) (atoms_spec (ws := z_ws id) B.pre) B.returns B.notSynchronized hK hSt hR hent
theorem z_WQ {p : Program} {l : Launch} {e : Env} {R : Room} {s : State} {m : MethodId} {args : Array Value} {below : List Frame} {meth : Method} {c : Code} {Q Q' : State → Prop} {H : Heap} {locs : List Loc} {cells slots : Nat} {g : JFrame} (h : ∀ t, Q t → Q' t) (w : W p l e R s m args below meth c H locs cells slots Q g) : W p l e R s m args below meth c H locs cells slots Q' g := fun T hT X => by
  obtain ⟨t, a, b⟩ := w T hT X
  exact ⟨t, a, h t b⟩
theorem z_MQc {below : List Frame} {Qc Qc' : Array Value → State → Outcome → State → Prop} {a : Array Value} {s : State} {mc ms : Nat} {free : Addr → Prop} (h : ∀ o t, Qc a s o t → Qc' a s o t) (t : State) (q : MQ below Qc a s mc ms free t) : MQ below Qc' a s mc ms free t := by
  obtain ⟨o, q1, q2, q3, q4⟩ := q
  exact ⟨o, q1, q2, h o t q3, q4⟩
theorem z_Rep.congr {G : z_G} {h h' : z_H} {H : Heap} (h1 : ∀ o k, o < 141 → k < z_N o → h'.1 o k = h.1 o k ∧ h'.2.1 o k = h.2.1 o k) (h2 : h'.2.2 = h.2.2) (hR : z_Rep G h H) : z_Rep G h' H := by
  intro o ho
  obtain ⟨a1, a2⟩ := hR o ho
  refine ⟨fun hk => ?_, fun hk => ?_⟩
  · obtain ⟨cell, c1, c2, c3, c4⟩ := a1 hk
    refine ⟨cell, c1, c2, c3, fun k hkN => ?_⟩
    rw [c4 k hkN]
    unfold z_fv
    split <;> first | rfl | (rw [h2]) | (rw [(h1 o k ho hkN).1])
  · rw [a2 hk]
    have : arrV (G.2.2.2.2 (z_K o)) (z_N o) (z_av G h o) = arrV (G.2.2.2.2 (z_K o)) (z_N o) (z_av G h' o) := by
      unfold arrV
      congr 2
      funext j
      unfold z_av
      rw [(h1 o j.val ho j.isLt).1, (h1 o j.val ho j.isLt).2]
    rw [this]
theorem z_if_t {c : Bool} {x : Option z_O} (h : c = true) : z_if c x = x := by
  subst h
  rfl
theorem z_GoN {p : Program} {l : Launch} {e : Env} {R : Room} {s : State} {m : MethodId} {args : Array Value} {below : List Frame} {meth : Method} {c : Code} {Q : State → Prop} {G : z_G} {nL pc : Nat} {lo : z_L} {st : List Value} {h : z_H} (L : List Nat) (k : z_Go p l e R s m args below meth c Q G nL pc (z_norm (some L) lo) st h) : z_Go p l e R s m args below meth c Q G nL pc lo st h := fun ls H locs x y z => k ls H locs (z_norm_has x) y z
theorem y_in_nI {i N : Nat} (h : i < N) (hN : N < 2 ^ 31) : z_in (nI i) N = true := by
  unfold z_in
  rw [nI_clamp (by omega)]
  simp only [Bool.and_eq_true, Bool.not_eq_true', decide_eq_false_iff_not]
  exact ⟨nI_pos (by omega), Nat.ble_eq_true_of_le h⟩
theorem z_fill902_end {p : Program} {l : Launch} {e : Env} {R : Room} {s : State} {m : MethodId} {args : Array Value} {below : List Frame} {meth : Method} {c : Code} {G : z_G} {x : Int32} {o : Nat} {h h0 : z_H} (hx : p.tables.exec = Jvm.exec) (hb : c.code = (z_mt 902).2.1) (hml : c.maxLocals = (z_mt 902).2.2.1) (hown : s.vm.findClass (z_mt 902).1.cls = some m.cls) (hts : ∀ w ∈ z_good, w.before args s = true) (hK : z_Kn G s) (hr1 : 1 ≤ R.frames) (hr2 : 60 ≤ R.locals) (hr : meth.sig.returnType = (z_mt 902).2.2.2) (hlk : meth.locks = false) {lo : z_L} {st : List Value} (hh : ∀ o' k', h.1 o' k' = if o' = o ∧ k' < z_N o then x else h0.1 o' k') (hh2 : h.2 = h0.2) :
    z_Go p l e R s m args below meth c (MQ below (z_Qc G (z_mt 902).2.2.2 (0, z_fiI h0 o x)) args s 0 0 (fun q => G.1 ≤ q)) G (z_mt 902).2.2.1 20 lo st h := by
  intro ls H locs a b d
  refine z_WQ (z_MQc (Qc := z_Qc G (z_mt 902).2.2.2 (0, h)) fun _ _ q => ⟨q.1, z_Rep.congr (fun o' k' ho hk => ?_) ?_ q.2.1, q.2.2⟩) (z_sound_ret (id := 902) (pl := 0) (ins := .return_) (n := 21) (v := 0) (a := 0) (b := 0) (c' := 0) (sw := []) hx hb hr hlk (by decide +kernel) rfl ls H locs a b d)
  · refine ⟨?_, by show h0.2.1 o' k' = h.2.1 o' k'; rw [hh2]⟩
    rw [hh]
    show (bif Nat.beq o' o then x else h0.1 o' k') = _
    by_cases he : o' = o
    · subst he
      rw [z_beqT, if_pos ⟨rfl, hk⟩]
      rfl
    · rw [z_beqF he, if_neg (fun q => he q.1)]
      rfl
  · show h0.2.2 = h.2.2
    rw [hh2]
theorem z_fill902_loop {p : Program} {l : Launch} {e : Env} {R : Room} {s : State} {m : MethodId} {args : Array Value} {below : List Frame} {meth : Method} {c : Code} {G : z_G} {x : Int32} {o : Nat} {h0 : z_H} (hx : p.tables.exec = Jvm.exec) (hb : c.code = (z_mt 902).2.1) (hml : c.maxLocals = (z_mt 902).2.2.1) (hown : s.vm.findClass (z_mt 902).1.cls = some m.cls) (hts : ∀ w ∈ z_good, w.before args s = true) (hK : z_Kn G s) (hr1 : 1 ≤ R.frames) (hr2 : 60 ≤ R.locals) (hr : meth.sig.returnType = (z_mt 902).2.2.2) (hlk : meth.locks = false) (ho : o < 141) (hKo : z_K o = 20) :
    ∀ (n i : Nat) (h : z_H), i + n = z_N o → (∀ o' k', h.1 o' k' = if o' = o ∧ k' < i then x else h0.1 o' k') → (h.2 = h0.2) → z_Go p l e R s m args below meth c (MQ below (z_Qc G (z_mt 902).2.2.2 (0, z_fiI h0 o x)) args s 0 0 (fun q => G.1 ≤ q)) G (z_mt 902).2.2.1 5 [(0, .ref o), (1, .int x), (2, .int (nI i)), (3, .int (nI (z_N o)))] [] h := by
  have hN : z_N o < 65536 := (z_K_row o ho (by omega)).2
  intro n
  induction n with
  | zero =>
    intro i h hi hh hh2
    refine z_sound_step (id := 902) (pc := 5) (pl := 0) (ins := .iload_n 2) (n := 6) (v := 0) (a := 2) (b := 0) (c' := 0) (sw := []) hx hb hml hown hts hK hr1 hr2 (by decide +kernel) (s' := (6, [(0, .ref o), (1, .int x), (2, .int (nI i)), (3, .int (nI (z_N o)))], [.int (nI i)], h)) rfl ?_
    refine z_sound_step (id := 902) (pc := 6) (pl := 0) (ins := .iload_n 3) (n := 7) (v := 0) (a := 3) (b := 0) (c' := 0) (sw := []) hx hb hml hown hts hK hr1 hr2 (by decide +kernel) (s' := (7, [(0, .ref o), (1, .int x), (2, .int (nI i)), (3, .int (nI (z_N o)))], [.int (nI (z_N o)), .int (nI i)], h)) rfl ?_
    refine z_sound_step (id := 902) (pc := 7) (pl := 0) (ins := .if_icmp .ge 13) (n := 10) (v := 0) (a := 20) (b := 0) (c' := 0) (sw := []) hx hb hml hown hts hK hr1 hr2 (by decide +kernel) (s' := (20, [(0, .ref o), (1, .int x), (2, .int (nI i)), (3, .int (nI (z_N o)))], [], h)) (congrArg (fun q => some (Sum.inl q)) (if_pos (nI_le (by omega) (by omega)))) ?_
    have hi : i = z_N o := by omega
    subst hi
    exact z_fill902_end hx hb hml hown hts hK hr1 hr2 hr hlk hh hh2
  | succ n ih =>
    intro i h hi hh hh2
    have hc : (nI i).toNatClampNeg = i := nI_clamp (by omega)
    have hin : z_in (nI i) (z_N o) = true := y_in_nI (by omega) (by omega)
    have h999 : (!Nat.beq o 999) = true := by rw [z_beqF (by omega)]; rfl
    refine z_sound_step (id := 902) (pc := 5) (pl := 0) (ins := .iload_n 2) (n := 6) (v := 0) (a := 2) (b := 0) (c' := 0) (sw := []) hx hb hml hown hts hK hr1 hr2 (by decide +kernel) (s' := (6, [(0, .ref o), (1, .int x), (2, .int (nI i)), (3, .int (nI (z_N o)))], [.int (nI i)], h)) rfl ?_
    refine z_sound_step (id := 902) (pc := 6) (pl := 0) (ins := .iload_n 3) (n := 7) (v := 0) (a := 3) (b := 0) (c' := 0) (sw := []) hx hb hml hown hts hK hr1 hr2 (by decide +kernel) (s' := (7, [(0, .ref o), (1, .int x), (2, .int (nI i)), (3, .int (nI (z_N o)))], [.int (nI (z_N o)), .int (nI i)], h)) rfl ?_
    refine z_sound_step (id := 902) (pc := 7) (pl := 0) (ins := .if_icmp .ge 13) (n := 10) (v := 0) (a := 20) (b := 0) (c' := 0) (sw := []) hx hb hml hown hts hK hr1 hr2 (by decide +kernel) (s' := (10, [(0, .ref o), (1, .int x), (2, .int (nI i)), (3, .int (nI (z_N o)))], [], h)) (congrArg (fun q => some (Sum.inl q)) (if_neg (nI_ge (by omega) (by omega)))) ?_
    refine z_sound_step (id := 902) (pc := 10) (pl := 0) (ins := .aload_n 0) (n := 11) (v := 0) (a := 0) (b := 0) (c' := 0) (sw := []) hx hb hml hown hts hK hr1 hr2 (by decide +kernel) (s' := (11, [(0, .ref o), (1, .int x), (2, .int (nI i)), (3, .int (nI (z_N o)))], [.ref o], h)) (z_if_t h999) ?_
    refine z_sound_step (id := 902) (pc := 11) (pl := 0) (ins := .iload_n 2) (n := 12) (v := 0) (a := 2) (b := 0) (c' := 0) (sw := []) hx hb hml hown hts hK hr1 hr2 (by decide +kernel) (s' := (12, [(0, .ref o), (1, .int x), (2, .int (nI i)), (3, .int (nI (z_N o)))], [.int (nI i), .ref o], h)) rfl ?_
    refine z_sound_step (id := 902) (pc := 12) (pl := 0) (ins := .iload_n 1) (n := 13) (v := 0) (a := 1) (b := 0) (c' := 0) (sw := []) hx hb hml hown hts hK hr1 hr2 (by decide +kernel) (s' := (13, [(0, .ref o), (1, .int x), (2, .int (nI i)), (3, .int (nI (z_N o)))], [.int x, .int (nI i), .ref o], h)) rfl ?_
    refine z_sound_step (id := 902) (pc := 13) (pl := 0) (ins := .iastore) (n := 14) (v := 0) (a := 0) (b := 0) (c' := 0) (sw := []) hx hb hml hown hts hK hr1 hr2 (by decide +kernel) (s' := (14, [(0, .ref o), (1, .int x), (2, .int (nI i)), (3, .int (nI (z_N o)))], [], z_wI h o i x)) (by
      refine (z_if_t (by rw [hKo]; rfl)).trans ((z_if_t hin).trans ?_)
      rw [hc]
      rfl) ?_
    refine z_sound_step (id := 902) (pc := 14) (pl := 0) (ins := .iinc 2 1) (n := 17) (v := 1) (a := 2) (b := 0) (c' := 0) (sw := []) hx hb hml hown hts hK hr1 hr2 (by decide +kernel) (s' := (17, z_put1 [(0, .ref o), (1, .int x), (2, .int (nI i)), (3, .int (nI (z_N o)))] 2 (.int (nI i + 1)), [], z_wI h o i x)) rfl ?_
    refine z_sound_step (id := 902) (pc := 17) (pl := 0) (ins := .goto (-12)) (n := 20) (v := 0) (a := 5) (b := 0) (c' := 0) (sw := []) hx hb hml hown hts hK hr1 hr2 (by decide +kernel) (s' := (5, z_put1 [(0, .ref o), (1, .int x), (2, .int (nI i)), (3, .int (nI (z_N o)))] 2 (.int (nI i + 1)), [], z_wI h o i x)) rfl ?_
    refine z_GoN [0, 1, 2, 3] ?_
    have := ih (i + 1) (z_wI h o i x) (by omega) (fun o' k' => ?_) hh2
    · rw [← nI_1] at this
      exact this
    · rw [z_wI1, hh]
      by_cases h1 : o' = o
      · by_cases h2 : k' = i
        · rw [if_pos ⟨h1, h2⟩, if_pos ⟨h1, by omega⟩]
        · rw [if_neg (fun q => h2 q.2)]
          by_cases h3 : k' < i
          · rw [if_pos ⟨h1, h3⟩, if_pos ⟨h1, by omega⟩]
          · rw [if_neg (fun q => h3 q.2), if_neg (fun q => by omega)]
      · rw [if_neg (fun q => h1 q.1), if_neg (fun q => h1 q.1), if_neg (fun q => h1 q.1)]
theorem z_p902 (l : Launch) (G : z_G) (hm : z_mok 902) {o : Nat} {x : Int32} {h : z_H} (hKo : z_K o = 20) : z_Met l G 902 [.ref o, .int x] h (0, z_fiI h o x) := by
  have ho : o < 141 := z_K_lt (by omega)
  have h999 : (!Nat.beq o 999) = true := by rw [z_beqF (by omega)]; rfl
  refine z_MetW hm (Nat.le_of_ble_eq_true rfl) ?_
  intro p e s m below meth c ls hx hb hml hown hts hr hlk hK hSt hR hl
  have hts : ∀ w ∈ z_good, w.before _ s = true := fun w hw => hts w (List.mem_cons_of_mem _ hw)
  have hr1 : 1 ≤ (headSpec (z_ws 902) (z_rm (z_rank 902 [.ref o, .int x]))).room.frames := Nat.le_of_ble_eq_true rfl
  have hr2 : 60 ≤ (headSpec (z_ws 902) (z_rm (z_rank 902 [.ref o, .int x]))).room.locals := Nat.le_of_ble_eq_true rfl
  refine (?_ : z_Go p l e _ s m _ below meth c _ G (z_mt 902).2.2.1 0 (lv_args 0 [.ref o, .int x]) [] h) ls s.heap [] hl hR ⟨rfl, fun _ _ => rfl, fun _ h => by cases h⟩
  refine z_sound_step (id := 902) (pc := 0) (pl := 0) (ins := .iconst 0) (n := 1) (v := 0) (a := 0) (b := 0) (c' := 0) (sw := []) hx hb hml hown hts hK hr1 hr2 (by decide +kernel) (s' := (1, lv_args 0 [.ref o, .int x], [.int 0], h)) rfl ?_
  refine z_sound_step (id := 902) (pc := 1) (pl := 0) (ins := .istore_n 2) (n := 2) (v := 0) (a := 2) (b := 0) (c' := 0) (sw := []) hx hb hml hown hts hK hr1 hr2 (by decide +kernel) (s' := (2, z_put1 (lv_args 0 [.ref o, .int x]) 2 (.int 0), [], h)) rfl ?_
  refine z_sound_step (id := 902) (pc := 2) (pl := 0) (ins := .aload_n 0) (n := 3) (v := 0) (a := 0) (b := 0) (c' := 0) (sw := []) hx hb hml hown hts hK hr1 hr2 (by decide +kernel) (s' := (3, z_put1 (lv_args 0 [.ref o, .int x]) 2 (.int 0), [.ref o], h)) (z_if_t h999) ?_
  refine z_sound_step (id := 902) (pc := 3) (pl := 0) (ins := .arraylength) (n := 4) (v := 0) (a := 0) (b := 0) (c' := 0) (sw := []) hx hb hml hown hts hK hr1 hr2 (by decide +kernel) (s' := (4, z_put1 (lv_args 0 [.ref o, .int x]) 2 (.int 0), [.int (nI (z_N o))], h)) (z_if_t (by rw [hKo]; rfl)) ?_
  refine z_sound_step (id := 902) (pc := 4) (pl := 0) (ins := .istore_n 3) (n := 5) (v := 0) (a := 3) (b := 0) (c' := 0) (sw := []) hx hb hml hown hts hK hr1 hr2 (by decide +kernel) (s' := (5, z_put1 (z_put1 (lv_args 0 [.ref o, .int x]) 2 (.int 0)) 3 (.int (nI (z_N o))), [], h)) rfl ?_
  refine z_GoN [0, 1, 2, 3] ?_
  exact z_fill902_loop (h0 := h) hx hb hml hown hts hK hr1 hr2 hr hlk ho hKo (z_N o) 0 h (Nat.zero_add _) (fun o' k' => by rw [if_neg (fun q => absurd q.2 (Nat.not_lt_zero _))]) rfl
theorem z_fill903_end {p : Program} {l : Launch} {e : Env} {R : Room} {s : State} {m : MethodId} {args : Array Value} {below : List Frame} {meth : Method} {c : Code} {G : z_G} {x : Int64} {o : Nat} {h h0 : z_H} (hx : p.tables.exec = Jvm.exec) (hb : c.code = (z_mt 903).2.1) (hml : c.maxLocals = (z_mt 903).2.2.1) (hown : s.vm.findClass (z_mt 903).1.cls = some m.cls) (hts : ∀ w ∈ z_good, w.before args s = true) (hK : z_Kn G s) (hr1 : 1 ≤ R.frames) (hr2 : 60 ≤ R.locals) (hr : meth.sig.returnType = (z_mt 903).2.2.2) (hlk : meth.locks = false) {lo : z_L} {st : List Value} (hh : ∀ o' k', h.2.1 o' k' = if o' = o ∧ k' < z_N o then x else h0.2.1 o' k') (hh2 : h.1 = h0.1 ∧ h.2.2 = h0.2.2) :
    z_Go p l e R s m args below meth c (MQ below (z_Qc G (z_mt 903).2.2.2 (0, z_fiL h0 o x)) args s 0 0 (fun q => G.1 ≤ q)) G (z_mt 903).2.2.1 22 lo st h := by
  intro ls H locs a b d
  refine z_WQ (z_MQc (Qc := z_Qc G (z_mt 903).2.2.2 (0, h)) fun _ _ q => ⟨q.1, z_Rep.congr (fun o' k' ho hk => ?_) ?_ q.2.1, q.2.2⟩) (z_sound_ret (id := 903) (pl := 0) (ins := .return_) (n := 23) (v := 0) (a := 0) (b := 0) (c' := 0) (sw := []) hx hb hr hlk (by decide +kernel) rfl ls H locs a b d)
  · refine ⟨by show h0.1 o' k' = h.1 o' k'; rw [hh2.1], ?_⟩
    rw [hh]
    show (bif Nat.beq o' o then x else h0.2.1 o' k') = _
    by_cases he : o' = o
    · subst he
      rw [z_beqT, if_pos ⟨rfl, hk⟩]
      rfl
    · rw [z_beqF he, if_neg (fun q => he q.1)]
      rfl
  · show h0.2.2 = h.2.2
    rw [hh2.2]
theorem z_fill903_loop {p : Program} {l : Launch} {e : Env} {R : Room} {s : State} {m : MethodId} {args : Array Value} {below : List Frame} {meth : Method} {c : Code} {G : z_G} {x : Int64} {o : Nat} {h0 : z_H} (hx : p.tables.exec = Jvm.exec) (hb : c.code = (z_mt 903).2.1) (hml : c.maxLocals = (z_mt 903).2.2.1) (hown : s.vm.findClass (z_mt 903).1.cls = some m.cls) (hts : ∀ w ∈ z_good, w.before args s = true) (hK : z_Kn G s) (hr1 : 1 ≤ R.frames) (hr2 : 60 ≤ R.locals) (hr : meth.sig.returnType = (z_mt 903).2.2.2) (hlk : meth.locks = false) (ho : o < 141) (hKo : z_K o = 21) :
    ∀ (n i : Nat) (h : z_H), i + n = z_N o → (∀ o' k', h.2.1 o' k' = if o' = o ∧ k' < i then x else h0.2.1 o' k') → (h.1 = h0.1 ∧ h.2.2 = h0.2.2) → z_Go p l e R s m args below meth c (MQ below (z_Qc G (z_mt 903).2.2.2 (0, z_fiL h0 o x)) args s 0 0 (fun q => G.1 ≤ q)) G (z_mt 903).2.2.1 6 [(0, .ref o), (1, .long x), (3, .int (nI i)), (4, .int (nI (z_N o)))] [] h := by
  have hN : z_N o < 65536 := (z_K_row o ho (by omega)).2
  intro n
  induction n with
  | zero =>
    intro i h hi hh hh2
    refine z_sound_step (id := 903) (pc := 6) (pl := 0) (ins := .iload_n 3) (n := 7) (v := 0) (a := 3) (b := 0) (c' := 0) (sw := []) hx hb hml hown hts hK hr1 hr2 (by decide +kernel) (s' := (7, [(0, .ref o), (1, .long x), (3, .int (nI i)), (4, .int (nI (z_N o)))], [.int (nI i)], h)) rfl ?_
    refine z_sound_step (id := 903) (pc := 7) (pl := 0) (ins := .iload 4) (n := 9) (v := 0) (a := 4) (b := 0) (c' := 0) (sw := []) hx hb hml hown hts hK hr1 hr2 (by decide +kernel) (s' := (9, [(0, .ref o), (1, .long x), (3, .int (nI i)), (4, .int (nI (z_N o)))], [.int (nI (z_N o)), .int (nI i)], h)) rfl ?_
    refine z_sound_step (id := 903) (pc := 9) (pl := 0) (ins := .if_icmp .ge 13) (n := 12) (v := 0) (a := 22) (b := 0) (c' := 0) (sw := []) hx hb hml hown hts hK hr1 hr2 (by decide +kernel) (s' := (22, [(0, .ref o), (1, .long x), (3, .int (nI i)), (4, .int (nI (z_N o)))], [], h)) (congrArg (fun q => some (Sum.inl q)) (if_pos (nI_le (by omega) (by omega)))) ?_
    have hi : i = z_N o := by omega
    subst hi
    exact z_fill903_end hx hb hml hown hts hK hr1 hr2 hr hlk hh hh2
  | succ n ih =>
    intro i h hi hh hh2
    have hc : (nI i).toNatClampNeg = i := nI_clamp (by omega)
    have hin : z_in (nI i) (z_N o) = true := y_in_nI (by omega) (by omega)
    have h999 : (!Nat.beq o 999) = true := by rw [z_beqF (by omega)]; rfl
    refine z_sound_step (id := 903) (pc := 6) (pl := 0) (ins := .iload_n 3) (n := 7) (v := 0) (a := 3) (b := 0) (c' := 0) (sw := []) hx hb hml hown hts hK hr1 hr2 (by decide +kernel) (s' := (7, [(0, .ref o), (1, .long x), (3, .int (nI i)), (4, .int (nI (z_N o)))], [.int (nI i)], h)) rfl ?_
    refine z_sound_step (id := 903) (pc := 7) (pl := 0) (ins := .iload 4) (n := 9) (v := 0) (a := 4) (b := 0) (c' := 0) (sw := []) hx hb hml hown hts hK hr1 hr2 (by decide +kernel) (s' := (9, [(0, .ref o), (1, .long x), (3, .int (nI i)), (4, .int (nI (z_N o)))], [.int (nI (z_N o)), .int (nI i)], h)) rfl ?_
    refine z_sound_step (id := 903) (pc := 9) (pl := 0) (ins := .if_icmp .ge 13) (n := 12) (v := 0) (a := 22) (b := 0) (c' := 0) (sw := []) hx hb hml hown hts hK hr1 hr2 (by decide +kernel) (s' := (12, [(0, .ref o), (1, .long x), (3, .int (nI i)), (4, .int (nI (z_N o)))], [], h)) (congrArg (fun q => some (Sum.inl q)) (if_neg (nI_ge (by omega) (by omega)))) ?_
    refine z_sound_step (id := 903) (pc := 12) (pl := 0) (ins := .aload_n 0) (n := 13) (v := 0) (a := 0) (b := 0) (c' := 0) (sw := []) hx hb hml hown hts hK hr1 hr2 (by decide +kernel) (s' := (13, [(0, .ref o), (1, .long x), (3, .int (nI i)), (4, .int (nI (z_N o)))], [.ref o], h)) (z_if_t h999) ?_
    refine z_sound_step (id := 903) (pc := 13) (pl := 0) (ins := .iload_n 3) (n := 14) (v := 0) (a := 3) (b := 0) (c' := 0) (sw := []) hx hb hml hown hts hK hr1 hr2 (by decide +kernel) (s' := (14, [(0, .ref o), (1, .long x), (3, .int (nI i)), (4, .int (nI (z_N o)))], [.int (nI i), .ref o], h)) rfl ?_
    refine z_sound_step (id := 903) (pc := 14) (pl := 0) (ins := .lload_n 1) (n := 15) (v := 0) (a := 1) (b := 0) (c' := 0) (sw := []) hx hb hml hown hts hK hr1 hr2 (by decide +kernel) (s' := (15, [(0, .ref o), (1, .long x), (3, .int (nI i)), (4, .int (nI (z_N o)))], [.long x, .int (nI i), .ref o], h)) rfl ?_
    refine z_sound_step (id := 903) (pc := 15) (pl := 0) (ins := .lastore) (n := 16) (v := 0) (a := 0) (b := 0) (c' := 0) (sw := []) hx hb hml hown hts hK hr1 hr2 (by decide +kernel) (s' := (16, [(0, .ref o), (1, .long x), (3, .int (nI i)), (4, .int (nI (z_N o)))], [], z_wL h o i x)) (by
      refine (z_if_t (by rw [hKo]; rfl)).trans ((z_if_t hin).trans ?_)
      rw [hc]
      rfl) ?_
    refine z_sound_step (id := 903) (pc := 16) (pl := 0) (ins := .iinc 3 1) (n := 19) (v := 1) (a := 3) (b := 0) (c' := 0) (sw := []) hx hb hml hown hts hK hr1 hr2 (by decide +kernel) (s' := (19, z_put1 [(0, .ref o), (1, .long x), (3, .int (nI i)), (4, .int (nI (z_N o)))] 3 (.int (nI i + 1)), [], z_wL h o i x)) rfl ?_
    refine z_sound_step (id := 903) (pc := 19) (pl := 0) (ins := .goto (-13)) (n := 22) (v := 0) (a := 6) (b := 0) (c' := 0) (sw := []) hx hb hml hown hts hK hr1 hr2 (by decide +kernel) (s' := (6, z_put1 [(0, .ref o), (1, .long x), (3, .int (nI i)), (4, .int (nI (z_N o)))] 3 (.int (nI i + 1)), [], z_wL h o i x)) rfl ?_
    refine z_GoN [0, 1, 3, 4] ?_
    have := ih (i + 1) (z_wL h o i x) (by omega) (fun o' k' => ?_) hh2
    · rw [← nI_1] at this
      exact this
    · rw [z_wL1, hh]
      by_cases h1 : o' = o
      · by_cases h2 : k' = i
        · rw [if_pos ⟨h1, h2⟩, if_pos ⟨h1, by omega⟩]
        · rw [if_neg (fun q => h2 q.2)]
          by_cases h3 : k' < i
          · rw [if_pos ⟨h1, h3⟩, if_pos ⟨h1, by omega⟩]
          · rw [if_neg (fun q => h3 q.2), if_neg (fun q => by omega)]
      · rw [if_neg (fun q => h1 q.1), if_neg (fun q => h1 q.1), if_neg (fun q => h1 q.1)]
theorem z_p903 (l : Launch) (G : z_G) (hm : z_mok 903) {o : Nat} {x : Int64} {h : z_H} (hKo : z_K o = 21) : z_Met l G 903 [.ref o, .long x] h (0, z_fiL h o x) := by
  have ho : o < 141 := z_K_lt (by omega)
  have h999 : (!Nat.beq o 999) = true := by rw [z_beqF (by omega)]; rfl
  refine z_MetW hm (Nat.le_of_ble_eq_true rfl) ?_
  intro p e s m below meth c ls hx hb hml hown hts hr hlk hK hSt hR hl
  have hts : ∀ w ∈ z_good, w.before _ s = true := fun w hw => hts w (List.mem_cons_of_mem _ hw)
  have hr1 : 1 ≤ (headSpec (z_ws 903) (z_rm (z_rank 903 [.ref o, .long x]))).room.frames := Nat.le_of_ble_eq_true rfl
  have hr2 : 60 ≤ (headSpec (z_ws 903) (z_rm (z_rank 903 [.ref o, .long x]))).room.locals := Nat.le_of_ble_eq_true rfl
  refine (?_ : z_Go p l e _ s m _ below meth c _ G (z_mt 903).2.2.1 0 (lv_args 0 [.ref o, .long x]) [] h) ls s.heap [] hl hR ⟨rfl, fun _ _ => rfl, fun _ h => by cases h⟩
  refine z_sound_step (id := 903) (pc := 0) (pl := 0) (ins := .iconst 0) (n := 1) (v := 0) (a := 0) (b := 0) (c' := 0) (sw := []) hx hb hml hown hts hK hr1 hr2 (by decide +kernel) (s' := (1, lv_args 0 [.ref o, .long x], [.int 0], h)) rfl ?_
  refine z_sound_step (id := 903) (pc := 1) (pl := 0) (ins := .istore_n 3) (n := 2) (v := 0) (a := 3) (b := 0) (c' := 0) (sw := []) hx hb hml hown hts hK hr1 hr2 (by decide +kernel) (s' := (2, z_put1 (lv_args 0 [.ref o, .long x]) 3 (.int 0), [], h)) rfl ?_
  refine z_sound_step (id := 903) (pc := 2) (pl := 0) (ins := .aload_n 0) (n := 3) (v := 0) (a := 0) (b := 0) (c' := 0) (sw := []) hx hb hml hown hts hK hr1 hr2 (by decide +kernel) (s' := (3, z_put1 (lv_args 0 [.ref o, .long x]) 3 (.int 0), [.ref o], h)) (z_if_t h999) ?_
  refine z_sound_step (id := 903) (pc := 3) (pl := 0) (ins := .arraylength) (n := 4) (v := 0) (a := 0) (b := 0) (c' := 0) (sw := []) hx hb hml hown hts hK hr1 hr2 (by decide +kernel) (s' := (4, z_put1 (lv_args 0 [.ref o, .long x]) 3 (.int 0), [.int (nI (z_N o))], h)) (z_if_t (by rw [hKo]; rfl)) ?_
  refine z_sound_step (id := 903) (pc := 4) (pl := 0) (ins := .istore 4) (n := 6) (v := 0) (a := 4) (b := 0) (c' := 0) (sw := []) hx hb hml hown hts hK hr1 hr2 (by decide +kernel) (s' := (6, z_put1 (z_put1 (lv_args 0 [.ref o, .long x]) 3 (.int 0)) 4 (.int (nI (z_N o))), [], h)) rfl ?_
  refine z_GoN [0, 1, 3, 4] ?_
  exact z_fill903_loop (h0 := h) hx hb hml hown hts hK hr1 hr2 hr hlk ho hKo (z_N o) 0 h (Nat.zero_add _) (fun o' k' => by rw [if_neg (fun q => absurd q.2 (Nat.not_lt_zero _))]) ⟨rfl, rfl⟩
theorem z_p906 (l : Launch) (G : z_G) (hm : z_mok 906) {x : Int64} {h : z_H} : z_Met l G 906 [.long x] h (z_bits x, h) := by
  refine z_MetW hm (Nat.le_of_ble_eq_true rfl) ?_
  intro p e s m below meth c ls hx hb hml hown hts hr hlk hK hSt hR hl
  have hg : ∀ w ∈ z_good, w.before _ s = true := fun w hw => hts w (List.mem_cons_of_mem _ hw)
  refine lv_lload_n hx hb (k := 0) (i := 0) (by decide +kernel) rfl (lv_at hl 0 rfl) ?_
  refine lv_lload_n hx hb (k := 0) (i := 0) (by decide +kernel) rfl (lv_at hl 0 rfl) ?_
  refine lv_iconst hx hb (n := 1) (v := 1) (by decide +kernel) rfl ?_
  refine lv_lushr hx hb (by decide +kernel) rfl ?_
  refine lv_ldc2 (own := "java/lang/Long") (index := 314) (v := 6148914691236517205) hx hb hown (hg _ (y_g 772 (by decide +kernel) rfl)) (by decide +kernel) ?_
  refine lv_land hx hb (by decide +kernel) ?_
  refine lv_lsub hx hb (by decide +kernel) ?_
  refine lv_lstore_n hx hb (k := 0) (i := 0) (by decide +kernel) rfl hl (by decide) rfl (fun ls hl => ?_)
  refine lv_lload_n hx hb (k := 0) (i := 0) (by decide +kernel) rfl (lv_at hl 0 rfl) ?_
  refine lv_ldc2 (own := "java/lang/Long") (index := 316) (v := 3689348814741910323) hx hb hown (hg _ (y_g 773 (by decide +kernel) rfl)) (by decide +kernel) ?_
  refine lv_land hx hb (by decide +kernel) ?_
  refine lv_lload_n hx hb (k := 0) (i := 0) (by decide +kernel) rfl (lv_at hl 0 rfl) ?_
  refine lv_iconst hx hb (n := 2) (v := 2) (by decide +kernel) rfl ?_
  refine lv_lushr hx hb (by decide +kernel) rfl ?_
  refine lv_ldc2 (own := "java/lang/Long") (index := 316) (v := 3689348814741910323) hx hb hown (hg _ (y_g 773 (by decide +kernel) rfl)) (by decide +kernel) ?_
  refine lv_land hx hb (by decide +kernel) ?_
  refine lv_ladd hx hb (by decide +kernel) ?_
  refine lv_lstore_n hx hb (k := 0) (i := 0) (by decide +kernel) rfl hl (by decide) rfl (fun ls hl => ?_)
  refine lv_lload_n hx hb (k := 0) (i := 0) (by decide +kernel) rfl (lv_at hl 0 rfl) ?_
  refine lv_lload_n hx hb (k := 0) (i := 0) (by decide +kernel) rfl (lv_at hl 0 rfl) ?_
  refine lv_iconst hx hb (n := 4) (v := 4) (by decide +kernel) rfl ?_
  refine lv_lushr hx hb (by decide +kernel) rfl ?_
  refine lv_ladd hx hb (by decide +kernel) ?_
  refine lv_ldc2 (own := "java/lang/Long") (index := 318) (v := 1085102592571150095) hx hb hown (hg _ (y_g 774 (by decide +kernel) rfl)) (by decide +kernel) ?_
  refine lv_land hx hb (by decide +kernel) ?_
  refine lv_lstore_n hx hb (k := 0) (i := 0) (by decide +kernel) rfl hl (by decide) rfl (fun ls hl => ?_)
  refine lv_lload_n hx hb (k := 0) (i := 0) (by decide +kernel) rfl (lv_at hl 0 rfl) ?_
  refine lv_lload_n hx hb (k := 0) (i := 0) (by decide +kernel) rfl (lv_at hl 0 rfl) ?_
  refine lv_bipush hx hb (n := 8) (v := 8) (by decide +kernel) rfl ?_
  refine lv_lushr hx hb (by decide +kernel) rfl ?_
  refine lv_ladd hx hb (by decide +kernel) ?_
  refine lv_lstore_n hx hb (k := 0) (i := 0) (by decide +kernel) rfl hl (by decide) rfl (fun ls hl => ?_)
  refine lv_lload_n hx hb (k := 0) (i := 0) (by decide +kernel) rfl (lv_at hl 0 rfl) ?_
  refine lv_lload_n hx hb (k := 0) (i := 0) (by decide +kernel) rfl (lv_at hl 0 rfl) ?_
  refine lv_bipush hx hb (n := 16) (v := 16) (by decide +kernel) rfl ?_
  refine lv_lushr hx hb (by decide +kernel) rfl ?_
  refine lv_ladd hx hb (by decide +kernel) ?_
  refine lv_lstore_n hx hb (k := 0) (i := 0) (by decide +kernel) rfl hl (by decide) rfl (fun ls hl => ?_)
  refine lv_lload_n hx hb (k := 0) (i := 0) (by decide +kernel) rfl (lv_at hl 0 rfl) ?_
  refine lv_lload_n hx hb (k := 0) (i := 0) (by decide +kernel) rfl (lv_at hl 0 rfl) ?_
  refine lv_bipush hx hb (n := 32) (v := 32) (by decide +kernel) rfl ?_
  refine lv_lushr hx hb (by decide +kernel) rfl ?_
  refine lv_ladd hx hb (by decide +kernel) ?_
  refine lv_lstore_n hx hb (k := 0) (i := 0) (by decide +kernel) rfl hl (by decide) rfl (fun ls hl => ?_)
  refine lv_lload_n hx hb (k := 0) (i := 0) (by decide +kernel) rfl (lv_at hl 0 rfl) ?_
  refine lv_l2i hx hb (by decide +kernel) rfl ?_
  refine lv_bipush hx hb (n := 127) (v := 127) (by decide +kernel) rfl ?_
  refine lv_iand hx hb (by decide +kernel) ?_
  exact z_iret hx hb hr (fun t ht _ => ⟨rfl, by rw [ht]; exact hR, by rw [ht], fun q _ => by rw [ht]⟩) (fun _ h => by cases h) (by decide +kernel) hlk
theorem y_txt : ∀ i, i < 6 → ([6, 3, 4, 5, 3, 4] : List Nat).getD i 0 = (z_txt (1000 + i)).length ∧ (z_txt (1000 + i)).length < 1000 ∧ ((List.range 6).map (fun j => z_txt (1000 + j))).getD i [] = z_txt (1000 + i) := by decide +kernel
theorem y_chr : ∀ i, i < 6 → ∀ j, j < (z_txt (1000 + i)).length → (((z_txt (1000 + i)).getD j 0 &&& 255).toUInt32 % 65536).toInt32 = (z_txt (1000 + i)).getD j 0 ∧ vp_nar .char ((z_txt (1000 + i)).getD j 0) = (z_txt (1000 + i)).getD j 0 := by decide +kernel
theorem y_adr (G : z_G) {i : Nat} (hi : i < 6) : z_up G (.ref (1000 + i)) = .ref (G.2.1 (1000 + i)) := by
  show z_rv G _ = _
  unfold z_rv z_ad
  rw [z_beqF (by omega)]
  have : Nat.blt (1000 + i) 141 = false := by
    cases hb : Nat.blt (1000 + i) 141 with
    | false => rfl
    | true => have := Nat.le_of_ble_eq_true hb; omega
  rw [this]
  rfl
theorem z_p907 (l : Launch) (G : z_G) (hm : z_mok 907) {i : Nat} (hi : i < 6) {h : z_H} : z_Met l G 907 [.ref (1000 + i)] h (Int32.ofNat (z_txt (1000 + i)).length, h) := by
  refine z_MetW hm (Nat.le_of_ble_eq_true rfl) ?_
  intro p e s m below meth c ls hx hb hml hown hts hr hlk hK hSt hR hl
  have hl : lv_has ls 1 [(0, .ref (G.2.1 (1000 + i)))] := by
    have : z_ul G (lv_args 0 [.ref (1000 + i)]) = [(0, z_up G (.ref (1000 + i)))] := rfl
    rw [this, y_adr G hi] at hl
    exact hl
  have hP0 : ∀ U : State, U.heap = s.heap → s.WarmedH U.vm → y_P0 G U := fun U hU hW => by
    show z_St G U U.heap
    rw [hU]
    exact z_St.to hW.alike (fun _ _ _ => rfl) hSt
  obtain ⟨adV, hS, -, -⟩ := hSt
  obtain ⟨hO, hC, hV, hT⟩ := hS.1 i hi
  obtain ⟨t1, t2, t3⟩ := y_txt i hi
  have hg : ∀ w ∈ z_good, w.before _ s = true := fun w hw => hts w (List.mem_cons_of_mem _ hw)
  refine lv_aload_n hx hb (k := 0) (i := 0) (by decide +kernel) rfl (lv_at hl 0 rfl) ?_
  refine vk_getf (index := 9) (own := "java/lang/String") (ref := "java/lang/String") hx hb hV (y_S0 _) hown (hg _ (y_g 1587 (by decide +kernel) rfl)) (fun _ h => h) (by decide +kernel) ?_
  refine va_tlen hx hb hT (y_S0 _) (v := nI (z_txt (1000 + i)).length) (by rw [t1]; rfl) (by decide +kernel) ?_
  refine lv_aload_n hx hb (k := 0) (i := 0) (by decide +kernel) rfl (lv_at hl 0 rfl) ?_
  obtain ⟨cell, g1, g2, g3, g4⟩ := hO
  refine y_callV (own := z_mt 907) (t := y_coder) (i := 335) (As := []) (rest := [.int (nI (z_txt (1000 + i)).length)]) (k := 1) hx hb hml hown hts hl.1 (y_m_coder l G hi) ⟨y_g 571 (by decide +kernel) rfl, y_g 106 (by decide +kernel) rfl, by decide, (show _ = some 0 from by decide +kernel), y_g 568 (by decide +kernel) rfl, by decide⟩ ⟨y_g 569 (by decide +kernel) rfl, y_g 570 (by decide +kernel) rfl⟩ (y_b0 G) hP0 ⟨cell, g1, g2, g3⟩ ⟨Nat.le_of_ble_eq_true rfl, Nat.le_of_ble_eq_true rfl⟩ (Nat.le_of_ble_eq_true rfl) rfl (by decide +kernel) ?_
  refine lv_ishr hx hb (by decide +kernel) ?_
  have hsh : nI (z_txt (1000 + i)).length >>> ((0 : Int32) &&& 31) = nI (z_txt (1000 + i)).length := by
    have : ∀ i, i < 6 → nI (z_txt (1000 + i)).length >>> ((0 : Int32) &&& 31) = nI (z_txt (1000 + i)).length := by decide +kernel
    exact this i hi
  rw [hsh]
  exact z_iret hx hb hr (fun t ht _ => ⟨rfl, by rw [ht]; exact hR, by rw [ht], fun q _ => by rw [ht]⟩) (fun _ h => by cases h) (by decide +kernel) hlk
theorem z_p908 (l : Launch) (G : z_G) (hm : z_mok 908) {i j : Nat} (hi : i < 6) (hj : j < (z_txt (1000 + i)).length) {h : z_H} : z_Met l G 908 [.ref (1000 + i), .int (nI j)] h ((z_txt (1000 + i)).getD j 0, h) := by
  refine z_MetW hm (Nat.le_of_ble_eq_true rfl) ?_
  intro p e s m below meth c ls hx hb hml hown hts hr hlk hK hSt hR hl
  have hl : lv_has ls 2 [(0, .ref (G.2.1 (1000 + i))), (1, .int (nI j))] := by
    have : z_ul G (lv_args 0 [.ref (1000 + i), .int (nI j)]) = [(0, z_up G (.ref (1000 + i))), (1, .int (nI j))] := rfl
    rw [this, y_adr G hi] at hl
    exact hl
  have hP0 : ∀ U : State, U.heap = s.heap → s.WarmedH U.vm → y_P0 G U := fun U hU hW => by
    show z_St G U U.heap
    rw [hU]
    exact z_St.to hW.alike (fun _ _ _ => rfl) hSt
  have hSt0 := hSt
  obtain ⟨adV, hS, -, -⟩ := hSt
  obtain ⟨hO, hC, hV, hT⟩ := hS.1 i hi
  obtain ⟨t1, t2, t3⟩ := y_txt i hi
  have hP1 : ∀ U : State, U.heap = s.heap → s.WarmedH U.vm → y_P1 G (adV i) (z_txt (1000 + i)).length (fun j => .int ((z_txt (1000 + i)).getD j 0)) U := fun U hU hW => by
    refine ⟨hP0 U hU hW, ?_⟩
    rw [hU]
    rw [t1, t3] at hT
    exact va_T.moved hW.alike hT
  obtain ⟨q1, q2⟩ := y_chr i hi j hj
  have hg : ∀ w ∈ z_good, w.before _ s = true := fun w hw => hts w (List.mem_cons_of_mem _ hw)
  have hn : narrow .char (.int ((z_txt (1000 + i)).getD j 0)) = .int ((z_txt (1000 + i)).getD j 0) := by
    have : narrow .char (.int ((z_txt (1000 + i)).getD j 0)) = .int (vp_nar .char ((z_txt (1000 + i)).getD j 0)) := rfl
    rw [this, q2]
  refine lv_aload_n hx hb (k := 0) (i := 0) (by decide +kernel) rfl (lv_at hl 0 rfl) ?_
  obtain ⟨cell, g1, g2, g3, g4⟩ := hO
  refine y_callV (own := z_mt 908) (t := y_latin) (i := 492) (As := []) (rest := []) (k := 1) hx hb hml hown hts hl.1 (y_m_latin l G hi) ⟨y_g 581 (by decide +kernel) rfl, y_g 106 (by decide +kernel) rfl, by decide, (show _ = some 0 from by decide +kernel), y_g 578 (by decide +kernel) rfl, by decide⟩ ⟨y_g 579 (by decide +kernel) rfl, y_g 580 (by decide +kernel) rfl⟩ (y_b0 G) hP0 ⟨cell, g1, g2, g3⟩ ⟨Nat.le_of_ble_eq_true rfl, Nat.le_of_ble_eq_true rfl⟩ (Nat.le_of_ble_eq_true rfl) rfl (by decide +kernel) ?_
  refine lv_if_eq hx hb (off := 12) (tgt := 16) (by decide +kernel) rfl (fun h => absurd h (by decide)) (fun _ => ?_)
  refine lv_aload_n hx hb (k := 0) (i := 0) (by decide +kernel) rfl (lv_at hl 0 rfl) ?_
  refine vk_getf (index := 9) (own := "java/lang/String") (ref := "java/lang/String") hx hb hV (y_S0 _) hown (hg _ (y_g 1587 (by decide +kernel) rfl)) (fun _ h => h) (by decide +kernel) ?_
  refine lv_iload_n hx hb (k := 1) (i := 1) (by decide +kernel) rfl (lv_at hl 1 rfl) ?_
  refine y_callS (own := z_mt 908) (t := y_lat) (i := 495) (a := [.ref (adV i), .int (nI j)]) (rest := []) (k := 3) hx hb hml hown hts hl.1 (y_m_lat l G hj t2 rfl q1 hn) ⟨y_g 584 (by decide +kernel) rfl, y_g 107 (by decide +kernel) rfl, by decide, (show _ = some 2 from by decide +kernel), y_g 582 (by decide +kernel) rfl, by decide⟩ (y_g 583 (by decide +kernel) rfl) (y_b1 G _ _ _) hP1 ⟨Nat.le_of_ble_eq_true rfl, Nat.le_of_ble_eq_true rfl⟩ (Nat.le_of_ble_eq_true rfl) rfl (by decide +kernel) ?_
  exact y_ret hx hb hr hn (fun t ht _ => ⟨rfl, by rw [ht]; exact hR, by rw [ht], fun q _ => by rw [ht]⟩) (fun _ h => by cases h) (by decide +kernel) hlk
theorem y_i902 {a : List Value} {h : z_H} {r : z_A} (he : z_prim 902 a h = some r) : ∃ o x, a = [.ref o, .int x] ∧ z_K o = 20 ∧ r = (0, z_fiI h o x) := by
  unfold z_prim at he
  split at he
  all_goals first | (exfalso; omega) | skip
  · rename_i o x _
    cases hb : Nat.beq (z_K o) 20 with
    | false => rw [hb] at he; cases he
    | true => rw [hb] at he; cases he; exact ⟨o, x, rfl, z_beq hb, rfl⟩
  · cases he
theorem y_i903 {a : List Value} {h : z_H} {r : z_A} (he : z_prim 903 a h = some r) : ∃ o x, a = [.ref o, .long x] ∧ z_K o = 21 ∧ r = (0, z_fiL h o x) := by
  unfold z_prim at he
  split at he
  all_goals first | (exfalso; omega) | skip
  · rename_i o x _
    cases hb : Nat.beq (z_K o) 21 with
    | false => rw [hb] at he; cases he
    | true => rw [hb] at he; cases he; exact ⟨o, x, rfl, z_beq hb, rfl⟩
  · cases he
theorem y_i906 {a : List Value} {h : z_H} {r : z_A} (he : z_prim 906 a h = some r) : ∃ x, a = [.long x] ∧ r = (z_bits x, h) := by
  unfold z_prim at he
  split at he
  all_goals first | (exfalso; omega) | skip
  · rename_i x _
    cases he
    exact ⟨x, rfl, rfl⟩
  · cases he
theorem y_i907 {a : List Value} {h : z_H} {r : z_A} (he : z_prim 907 a h = some r) : ∃ i, i < 6 ∧ a = [.ref (1000 + i)] ∧ r = (Int32.ofNat (z_txt (1000 + i)).length, h) := by
  unfold z_prim at he
  split at he
  all_goals first | (exfalso; omega) | skip
  · rename_i o _
    cases hb : (Nat.ble 1000 o && Nat.ble o 1005) with
    | false => rw [hb] at he; cases he
    | true =>
      rw [hb] at he
      rw [Bool.and_eq_true] at hb
      have b1 := Nat.le_of_ble_eq_true hb.1
      have b2 := Nat.le_of_ble_eq_true hb.2
      obtain ⟨i, rfl⟩ : ∃ i, o = 1000 + i := ⟨o - 1000, (Nat.add_sub_of_le b1).symm⟩
      cases he
      exact ⟨i, Nat.lt_succ_of_le (Nat.le_of_add_le_add_left (show 1000 + i ≤ 1000 + 5 from b2)), rfl, rfl⟩
  · cases he
theorem y_i908 {a : List Value} {h : z_H} {r : z_A} (he : z_prim 908 a h = some r) : ∃ i j, i < 6 ∧ j < (z_txt (1000 + i)).length ∧ a = [.ref (1000 + i), .int (nI j)] ∧ r = ((z_txt (1000 + i)).getD j 0, h) := by
  unfold z_prim at he
  split at he
  all_goals first | (exfalso; omega) | skip
  · rename_i o x _
    cases hb : (Nat.ble 1000 o && Nat.ble o 1005 && z_in x (z_txt o).length) with
    | false => rw [hb] at he; cases he
    | true =>
      rw [hb] at he
      rw [Bool.and_eq_true, Bool.and_eq_true] at hb
      have b1 := Nat.le_of_ble_eq_true hb.1.1
      have b2 := Nat.le_of_ble_eq_true hb.1.2
      obtain ⟨i, rfl⟩ : ∃ i, o = 1000 + i := ⟨o - 1000, (Nat.add_sub_of_le b1).symm⟩
      obtain ⟨b3, b4⟩ := z_vin hb.2
      have b5 : ¬ x < 0 := fun q => b3 (Or.inl q)
      obtain ⟨j, hj, rfl⟩ := nI_of b5
      rw [nI_clamp hj] at b4 he
      cases he
      exact ⟨i, j, Nat.lt_succ_of_le (Nat.le_of_add_le_add_left (show 1000 + i ≤ 1000 + 5 from b2)), b4, rfl, rfl⟩
  · cases he
theorem z_prims (l : Launch) (G : z_G) (hmo : ∀ i, z_idok i → z_mok i) : ∀ id a h r, 902 ≤ id → z_idok id → z_cat a ≤ z_ml id → z_prim id a h = some r → z_Met l G id a h r := by
  intro id a h r hid hok hcat he
  have hcase : id = 902 ∨ id = 903 ∨ id = 906 ∨ id = 907 ∨ id = 908 := by
    rcases hok with h | h <;> omega
  have hm := hmo id hok
  rcases hcase with rfl | rfl | rfl | rfl | rfl
  · obtain ⟨o, x, rfl, h1, rfl⟩ := y_i902 he
    exact z_p902 l G hm h1
  · obtain ⟨o, x, rfl, h1, rfl⟩ := y_i903 he
    exact z_p903 l G hm h1
  · obtain ⟨x, rfl, rfl⟩ := y_i906 he
    exact z_p906 l G hm
  · obtain ⟨i, hi, rfl, rfl⟩ := y_i907 he
    exact z_p907 l G hm hi
  · obtain ⟨i, j, hi, hj, rfl, rfl⟩ := y_i908 he
    exact z_p908 l G hm hi hj
