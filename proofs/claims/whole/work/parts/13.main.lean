/-! THE SMALL MACHINE IS RIGHT: what a method comes to, it comes to on the real machine -/
theorem z_nx_no {pc : Nat} {l : z_L} {st : List Value} {h : z_H} {q : z_A ⊕ (Nat × List Value × Nat × z_S)} : z_nx pc l st h ≠ some (.inr q) := fun e => by cases e
theorem z_if_no {g : Bool} {x : Option z_O} {o : z_O} (hx : x ≠ some o) : z_if g x ≠ some o := fun e => hx (z_if_inv e).2
theorem z_i1_no {st : List Value} {f : Int32 → List Value → Option z_O} {o : z_O} (hf : ∀ x r, f x r ≠ some o) : z_i1 st f ≠ some o := fun e => by
  obtain ⟨x, r, -, g⟩ := z_i1_inv e
  exact hf _ _ g
theorem z_i2_no {st : List Value} {f : Int32 → Int32 → List Value → Option z_O} {o : z_O} (hf : ∀ x y r, f x y r ≠ some o) : z_i2 st f ≠ some o := fun e => by
  obtain ⟨x, y, r, -, g⟩ := z_i2_inv e
  exact hf _ _ _ g
theorem z_l1_no {st : List Value} {f : Int64 → List Value → Option z_O} {o : z_O} (hf : ∀ x r, f x r ≠ some o) : z_l1 st f ≠ some o := fun e => by
  obtain ⟨x, r, -, g⟩ := z_l1_inv e
  exact hf _ _ g
theorem z_l2_no {st : List Value} {f : Int64 → Int64 → List Value → Option z_O} {o : z_O} (hf : ∀ x y r, f x y r ≠ some o) : z_l2 st f ≠ some o := fun e => by
  obtain ⟨x, y, r, -, g⟩ := z_l2_inv e
  exact hf _ _ _ g
theorem z_li_no {st : List Value} {f : Int64 → Int32 → List Value → Option z_O} {o : z_O} (hf : ∀ x y r, f x y r ≠ some o) : z_li st f ≠ some o := fun e => by
  obtain ⟨x, y, r, -, g⟩ := z_li_inv e
  exact hf _ _ _ g
theorem z_r1_no {st : List Value} {f : Nat → List Value → Option z_O} {o : z_O} (hf : ∀ x r, f x r ≠ some o) : z_r1 st f ≠ some o := fun e => by
  obtain ⟨x, r, -, g⟩ := z_r1_inv e
  exact hf _ _ g
theorem z_ri_no {st : List Value} {f : Nat → Int32 → List Value → Option z_O} {o : z_O} (hf : ∀ x y r, f x y r ≠ some o) : z_ri st f ≠ some o := fun e => by
  obtain ⟨x, y, r, -, g⟩ := z_ri_inv e
  exact hf _ _ _ g
theorem z_rii_no {st : List Value} {f : Nat → Int32 → Int32 → List Value → Option z_O} {o : z_O} (hf : ∀ x y z r, f x y z r ≠ some o) : z_rii st f ≠ some o := fun e => by
  obtain ⟨x, y, z, r, -, g⟩ := z_rii_inv e
  exact hf _ _ _ _ g
theorem z_ril_no {st : List Value} {f : Nat → Int32 → Int64 → List Value → Option z_O} {o : z_O} (hf : ∀ x y z r, f x y z r ≠ some o) : z_ril st f ≠ some o := fun e => by
  obtain ⟨x, y, z, r, -, g⟩ := z_ril_inv e
  exact hf _ _ _ _ g
theorem z_rr_no {st : List Value} {f : Nat → Nat → List Value → Option z_O} {o : z_O} (hf : ∀ x y r, f x y r ≠ some o) : z_rr st f ≠ some o := fun e => by
  obtain ⟨x, y, r, -, g⟩ := z_rr_inv e
  exact hf _ _ _ g
theorem z_vi_no {v : Option Value} {f : Int32 → Option z_O} {o : z_O} (hf : ∀ x, f x ≠ some o) : z_vi v f ≠ some o := fun e => by
  obtain ⟨x, -, g⟩ := z_vi_inv e
  exact hf _ g
theorem z_vl_no {v : Option Value} {f : Int64 → Option z_O} {o : z_O} (hf : ∀ x, f x ≠ some o) : z_vl v f ≠ some o := fun e => by
  obtain ⟨x, -, g⟩ := z_vl_inv e
  exact hf _ g
theorem z_vr_no {v : Option Value} {f : Nat → Option z_O} {o : z_O} (hf : ∀ x, f x ≠ some o) : z_vr v f ≠ some o := fun e => by
  obtain ⟨x, -, g⟩ := z_vr_inv e
  exact hf _ g
theorem z_br_no {c : Prop} [Decidable c] {t n : Nat} {l : z_L} {st : List Value} {h : z_H} {q : z_A ⊕ (Nat × List Value × Nat × z_S)} : z_br c t n l st h ≠ some (.inr q) := fun e => by cases e
theorem z_sw_no {s : z_S} {q : z_A ⊕ (Nat × List Value × Nat × z_S)} : (some (Sum.inl s) : Option z_O) ≠ some (.inr q) := fun e => by cases e
set_option maxHeartbeats 1000000 in
theorem z_exec_inr {id pc pl : Nat} {ins : Instr} {n : Nat} {v : Int32} {a b c' : Nat} {sw : List (Int32 × Nat)} {l : z_L} {st : List Value} {h : z_H} {q : z_A ⊕ (Nat × List Value × Nat × z_S)} (hc : z_chk id pc pl ins n v a b c' sw = true) (he : z_exec ins n v a b c' sw l st h = some (.inr q)) :
    ins = .ireturn ∨ ins = .areturn ∨ ins = .return_ ∨ (∃ i, ins = .invokevirtual i) ∨ ∃ i, ins = .invokestatic i := by
  cases ins
  case ireturn => exact Or.inl rfl
  case areturn => exact Or.inr (Or.inl rfl)
  case return_ => exact Or.inr (Or.inr (Or.inl rfl))
  case invokevirtual i => exact Or.inr (Or.inr (Or.inr (Or.inl ⟨i, rfl⟩)))
  case invokestatic i => exact Or.inr (Or.inr (Or.inr (Or.inr ⟨i, rfl⟩)))
  case ifCond cnd off => cases cnd <;> exact absurd he (z_i1_no fun _ _ => z_br_no)
  case if_icmp cnd off => cases cnd <;> exact absurd he (z_i2_no fun _ _ _ => z_br_no)
  case pop =>
    match st, he with
    | .int _ :: r, he => exact absurd he z_nx_no
    | .ref _ :: r, he => exact absurd he z_nx_no
  case dup =>
    match st, he with
    | .int _ :: r, he => exact absurd he z_nx_no
    | .ref _ :: r, he => exact absurd he z_nx_no
  case putfield i =>
    simp only [z_chk, Bool.and_eq_true] at hc
    obtain ⟨-, h3⟩ := hc
    split at h3
    · match st, he with
      | .int x :: .ref o :: r, he => exact absurd he (z_if_no z_nx_no)
    · match st, he with
      | .int x :: .ref o :: r, he => exact absurd he (z_if_no z_nx_no)
    · exact absurd he (z_rr_no fun _ _ _ => z_if_no z_nx_no)
    · cases h3
  case tableswitch => exact absurd he (z_i1_no fun _ _ => z_sw_no)
  case lookupswitch => exact absurd he (z_i1_no fun _ _ => z_sw_no)
  all_goals first
    | exact absurd hc Bool.false_ne_true
    | exact absurd he z_nx_no
    | exact absurd he (z_vi_no fun _ => z_nx_no)
    | exact absurd he (z_vl_no fun _ => z_nx_no)
    | exact absurd he (z_vr_no fun _ => z_if_no z_nx_no)
    | exact absurd he (z_i1_no fun _ _ => z_nx_no)
    | exact absurd he (z_i2_no fun _ _ _ => z_nx_no)
    | exact absurd he (z_i2_no fun _ _ _ => z_if_no z_nx_no)
    | exact absurd he (z_l1_no fun _ _ => z_nx_no)
    | exact absurd he (z_l2_no fun _ _ _ => z_nx_no)
    | exact absurd he (z_li_no fun _ _ _ => z_nx_no)
    | exact absurd he (z_r1_no fun _ _ => z_if_no z_nx_no)
    | exact absurd he (z_ri_no fun _ _ _ => z_nx_no)
    | exact absurd he (z_ri_no fun _ _ _ => z_if_no (z_if_no z_nx_no))
    | exact absurd he (z_rii_no fun _ _ _ _ => z_if_no (z_if_no z_nx_no))
    | exact absurd he (z_ril_no fun _ _ _ _ => z_if_no (z_if_no z_nx_no))
section ZMN
variable {p : Program} {l : Launch} {e : Env} {R : Room} {s : State} {m : MethodId} {args : Array Value} {below : List Frame} {meth : Method} {c : Code} {Q : State → Prop}
variable {G : z_G} {nL : Nat} {cc : ByteArray} {pc : Nat} {lo : z_L} {st : List Value} {h : z_H}
theorem z_iret {free : Addr → Prop} {Qc : Array Value → State → Outcome → State → Prop} {v : Int32} {H : Heap} {locs : List Loc} {cells slots : Nat} (hexec : p.tables.exec = Jvm.exec) (hb : c.code = cc) (hr : meth.sig.returnType = some .int)
    (hq : ∀ t : State, t.heap = H → s.WarmedH t.vm → Qc args s (.returned (some (.int v))) t) (hf : ∀ q ∈ locs, free q.base)
    {ls : Array Slot} {stk : List Value} (hdg : decode cc pc = .ok (.ireturn, 1)) (hlocks : meth.locks = false) : W p l e R s m args below meth c H locs cells slots (MQ below Qc args s cells slots free) (F0 m pc ls (.int v :: stk)) := by
  intro T hT X
  obtain ⟨fs, hret, hrun, hended, hW, hframe⟩ := X.leave (v := some (.int v)) (fun h => by rw [hr] at h; cases h)
  have hmeth' : T.vm.method? m = some meth := X.method'
  refine ⟨T.setFrames fs, ?_, .returned (some (.int v)), hrun, hended, hq _ hT hW, locs, ⟨⟨_, rfl⟩, hW, hframe⟩, hf⟩
  jvm_step X.here [X.here.top, hexec, hb, hdg, hmeth', hr, narrow]
  (try refine ⟨rfl, ?_⟩); (try refine ⟨rfl, ?_⟩)
  first | (intro acts; rw [hret _ acts rfl rfl rfl]) | rw [hret _ _ rfl rfl rfl]
  exact Steps.refl _
theorem z_vret {free : Addr → Prop} {Qc : Array Value → State → Outcome → State → Prop} {H : Heap} {locs : List Loc} {cells slots : Nat} (hexec : p.tables.exec = Jvm.exec) (hb : c.code = cc) (hr : meth.sig.returnType = none)
    (hq : ∀ t : State, t.heap = H → s.WarmedH t.vm → Qc args s (.returned none) t) (hf : ∀ q ∈ locs, free q.base)
    {ls : Array Slot} {stk : List Value} (hdg : decode cc pc = .ok (.return_, 1)) (hlocks : meth.locks = false) : W p l e R s m args below meth c H locs cells slots (MQ below Qc args s cells slots free) (F0 m pc ls stk) := by
  intro T hT X
  obtain ⟨fs, hret, hrun, hended, hW, hframe⟩ := X.leave (v := none) (fun _ => rfl)
  have hmeth' : T.vm.method? m = some meth := X.method'
  refine ⟨T.setFrames fs, ?_, .returned none, hrun, hended, hq _ hT hW, locs, ⟨⟨_, rfl⟩, hW, hframe⟩, hf⟩
  jvm_step X.here [X.here.top, hexec, hb, hdg, hmeth', hr]
  (try refine ⟨rfl, ?_⟩); (try refine ⟨rfl, ?_⟩)
  first | (intro acts; rw [hret _ acts rfl rfl rfl]) | rw [hret _ _ rfl rfl rfl]
  exact Steps.refl _
theorem z_aret {free : Addr → Prop} {Qc : Array Value → State → Outcome → State → Prop} {v : Nat} {n : String} {H : Heap} {locs : List Loc} {cells slots : Nat} (hexec : p.tables.exec = Jvm.exec) (hb : c.code = cc) (hr : meth.sig.returnType = some (.object n))
    (hq : ∀ t : State, t.heap = H → s.WarmedH t.vm → Qc args s (.returned (some (.ref v))) t) (hf : ∀ q ∈ locs, free q.base)
    {ls : Array Slot} {stk : List Value} (hdg : decode cc pc = .ok (.areturn, 1)) (hlocks : meth.locks = false) : W p l e R s m args below meth c H locs cells slots (MQ below Qc args s cells slots free) (F0 m pc ls (.ref v :: stk)) := by
  intro T hT X
  obtain ⟨fs, hret, hrun, hended, hW, hframe⟩ := X.leave (v := some (.ref v)) (fun h => by rw [hr] at h; cases h)
  have hmeth' : T.vm.method? m = some meth := X.method'
  refine ⟨T.setFrames fs, ?_, .returned (some (.ref v)), hrun, hended, hq _ hT hW, locs, ⟨⟨_, rfl⟩, hW, hframe⟩, hf⟩
  jvm_step X.here [X.here.top, hexec, hb, hdg, hmeth', hr]
  (try refine ⟨rfl, ?_⟩); (try refine ⟨rfl, ?_⟩)
  first | (intro acts; rw [hret _ acts rfl rfl rfl]) | rw [hret _ _ rfl rfl rfl]
  exact Steps.refl _
/-- the end of a method -/
theorem z_sound_ret {id pl : Nat} {ins : Instr} {n : Nat} {v : Int32} {a b c' : Nat} {sw : List (Int32 × Nat)} {r : z_A} (hx : p.tables.exec = Jvm.exec) (hb : c.code = (z_mt id).2.1) (hr : meth.sig.returnType = (z_mt id).2.2.2) (hlocks : meth.locks = false) (hc : z_chk id pc pl ins n v a b c' sw = true) (he : z_exec ins n v a b c' sw lo st h = some (.inr (.inl r))) :
    z_Go p l e R s m args below meth c (MQ below (z_Qc G (z_mt id).2.2.2 r) args s 0 0 (fun q => G.1 ≤ q)) G nL pc lo st h := by
  intro ls H locs x y z
  have hq : ∀ (o : Outcome) (t : State), o = .returned (z_rval G (z_mt id).2.2.2 r.1) → r.2 = h → t.heap = H → z_Qc G (z_mt id).2.2.2 r args s o t := fun o t h1 h2 h3 => ⟨h1, by rw [h3, h2]; exact y, by rw [h3]; exact z.1, fun q h4 => by rw [h3]; exact z.2.1 q h4⟩
  rcases z_exec_inr hc he with rfl | rfl | rfl | ⟨i, rfl⟩ | ⟨i, rfl⟩
  · simp only [z_chk, Bool.and_eq_true] at hc
    obtain ⟨h1, h2⟩ := hc
    obtain ⟨hd, -⟩ := z_dk_inv h1
    obtain ⟨x0, r0, rfl, g⟩ := z_i1_inv (show z_i1 _ _ = _ from he)
    have g := Sum.inl.inj (Sum.inr.inj (Option.some.inj g))
    split at h2
    · rename_i q1 q2
      rw [q1] at hr
      refine z_iret hx hb hr (fun t ht _ => hq _ t ?_ (by rw [← g]) ht) z.2.2 hd hlocks
      rw [q1, ← g]; rfl
    · rename_i q1 q2
      rw [q1] at hr
      refine z_zret hx hb hr rfl (fun t ht _ => hq _ t ?_ (by rw [← g]) ht) z.2.2 hd hlocks
      rw [q1, ← g]; rfl
    · cases h2
  · simp only [z_chk, Bool.and_eq_true] at hc
    obtain ⟨h1, h2⟩ := hc
    obtain ⟨hd, -⟩ := z_dk_inv h1
    obtain ⟨x0, r0, rfl, g⟩ := z_r1_inv (show z_r1 _ _ = _ from he)
    obtain ⟨g1, g2⟩ := z_if_inv g
    have g := Sum.inl.inj (Sum.inr.inj (Option.some.inj g2))
    simp only [Bool.and_eq_true] at g1
    have g3 : x0 < 2000 := Nat.le_of_ble_eq_true g1.1
    split at h2
    · rename_i nm q1
      rw [q1] at hr
      simp only [List.map_cons]
      rw [z_up_ref (z_no999 g1.2)]
      refine z_aret hx hb hr (fun t ht _ => hq _ t ?_ (by rw [← g]) ht) z.2.2 hd hlocks
      rw [q1, ← g]
      show _ = Outcome.returned (some (z_rv G (Int32.ofNat x0).toNatClampNeg))
      rw [clamp_of rfl (Nat.lt_trans g3 (by decide))]
      rw [show z_rv G x0 = z_up G (.ref x0) from rfl, z_up_ref (z_no999 g1.2)]
    · cases h2
  · simp only [z_chk, Bool.and_eq_true] at hc
    obtain ⟨h1, h2⟩ := hc
    obtain ⟨hd, -⟩ := z_dk_inv h1
    have g := Sum.inl.inj (Sum.inr.inj (Option.some.inj (show some (Sum.inr (Sum.inl ((0 : Int32), h))) = _ from he)))
    split at h2
    · rename_i q1
      rw [q1] at hr
      refine z_vret hx hb hr (fun t ht _ => hq _ t ?_ (by rw [← g]) ht) z.2.2 hd hlocks
      rw [q1]; rfl
    · cases h2
  · obtain ⟨g1, g2⟩ := z_if_inv (show z_if _ _ = _ from he)
    cases g2
  · by_cases ha0 : a = 900
    · subst ha0
      obtain ⟨so, sp, d, dp, n, r, rfl, g⟩ := z_cp_inv (show z_cp _ _ = _ from he)
      exact absurd (z_if_inv g).2 z_nx_no
    by_cases ha1 : a = 901
    · subst ha1
      obtain ⟨so, sp, d, dp, n, r, rfl, g⟩ := z_cp_inv (show z_cp _ _ = _ from he)
      exact absurd (z_if_inv g).2 z_nx_no
    by_cases ha4 : a = 904
    · subst ha4
      obtain ⟨x, y, r, rfl, g⟩ := z_i2_inv (show z_i2 _ _ = _ from he)
      exact absurd (z_if_inv g).2 z_nx_no
    by_cases ha5 : a = 905
    · subst ha5
      obtain ⟨x, y, r, rfl, g⟩ := z_i2_inv (show z_i2 _ _ = _ from he)
      exact absurd (z_if_inv g).2 z_nx_no
    rw [z_exec_stat ha0 ha1 ha4 ha5] at he
    cases (z_if_inv he).2
/-- a call -/
theorem z_sound_call {own pl : Nat} {ins : Instr} {n : Nat} {v : Int32} {a b c' : Nat} {sw : List (Int32 × Nat)} {id cr : Nat} {as : List Value} {s' : z_S} {r : z_A} (hx : p.tables.exec = Jvm.exec) (hb : c.code = (z_mt own).2.1) (hml : c.maxLocals = nL) (hown : s.vm.findClass (z_mt own).1.cls = some m.cls) (hts : ∀ w ∈ z_ws own, w.before args s = true) (hK : z_Kn G s) (hSt : z_St G s s.heap)
    (hmo : ∀ i, z_idok i → z_mok i) (hc : z_chk own pc pl ins n v a b c' sw = true) (he : z_exec ins n v a b c' sw lo st h = some (.inr (.inr (id, as, cr, s')))) (hrk : z_rank id as + 1 ≤ R.frames ∧ 80 * (z_rank id as) + 80 ≤ R.locals)
    (hM : z_idok id → z_Met l G id as s'.2.2.2 r)
    (k : z_Go p l e R s m args below meth c Q G nL (z_ret cr r.1 s' r.2).1 (z_ret cr r.1 s' r.2).2.1 (z_ret cr r.1 s' r.2).2.2.1 (z_ret cr r.1 s' r.2).2.2.2) : z_Go p l e R s m args below meth c Q G nL pc lo st h := by
  rcases z_exec_inr hc he with rfl | rfl | rfl | ⟨i, rfl⟩ | ⟨i, rfl⟩
  · obtain ⟨x0, r0, rfl, g⟩ := z_i1_inv (show z_i1 _ _ = _ from he)
    cases g
  · obtain ⟨x0, r0, rfl, g⟩ := z_r1_inv (show z_r1 _ _ = _ from he)
    cases (z_if_inv g).2
  · cases (show some (Sum.inr (Sum.inl ((0 : Int32), h))) = some (Sum.inr (Sum.inr (id, as, cr, s'))) from he)
  · simp only [z_chk, Bool.and_eq_true] at hc
    obtain ⟨⟨h1, h2⟩, h3⟩ := hc
    obtain ⟨hd, hn⟩ := z_dk_inv h1
    obtain ⟨g1, g2⟩ := z_if_inv (show z_if _ _ = _ from he)
    simp only [Bool.and_eq_true] at g1
    obtain ⟨⟨g3, g4⟩, g5⟩ := g1
    cases g2
    have g3 : b ≤ st.length := Nat.le_of_ble_eq_true g3
    refine z_s_call (virt := true) hx hb hml hown hts hK hSt (hmo _ (z_ck_id h2)) (hM (z_ck_id h2)) (rest := st.drop b) (by rw [List.reverse_reverse, List.take_append_drop]) (by rw [List.length_reverse, List.length_take]; omega) (Nat.le_of_ble_eq_true g4) hrk h2 hn (fun _ => ?_) hd k
    match sw, h3, g5 with
    | (_, kk) :: _, h3, g5 =>
      have h3 := z_beq h3
      subst h3
      unfold z_rcv at g5
      split at g5
      · rename_i q1 q2
        cases q1
        exact ⟨_, _, q2, g5⟩
      · cases g5
  · simp only [z_chk, Bool.and_eq_true] at hc
    obtain ⟨h1, h2⟩ := hc
    obtain ⟨hd, hn⟩ := z_dk_inv h1
    by_cases ha0 : a = 900
    · subst ha0
      obtain ⟨so, sp, d, dp, n, r, rfl, g⟩ := z_cp_inv (show z_cp _ _ = _ from he)
      exact absurd (z_if_inv g).2 z_nx_no
    by_cases ha1 : a = 901
    · subst ha1
      obtain ⟨so, sp, d, dp, n, r, rfl, g⟩ := z_cp_inv (show z_cp _ _ = _ from he)
      exact absurd (z_if_inv g).2 z_nx_no
    by_cases ha4 : a = 904
    · subst ha4
      obtain ⟨x, y, r, rfl, g⟩ := z_i2_inv (show z_i2 _ _ = _ from he)
      exact absurd (z_if_inv g).2 z_nx_no
    by_cases ha5 : a = 905
    · subst ha5
      obtain ⟨x, y, r, rfl, g⟩ := z_i2_inv (show z_i2 _ _ = _ from he)
      exact absurd (z_if_inv g).2 z_nx_no
    rw [z_exec_stat ha0 ha1 ha4 ha5] at he
    have h2 : z_ck (z_mt own).1.cls i pl a b c' false = true := by
      split at h2
      · exact absurd rfl ha0
      · exact absurd rfl ha1
      · exact absurd rfl ha4
      · exact absurd rfl ha5
      · exact h2
    obtain ⟨g1, g2⟩ := z_if_inv he
    simp only [Bool.and_eq_true] at g1
    obtain ⟨g3, g4⟩ := g1
    cases g2
    have g3 : b ≤ st.length := Nat.le_of_ble_eq_true g3
    exact z_s_call (virt := false) hx hb hml hown hts hK hSt (hmo _ (z_ck_id h2)) (hM (z_ck_id h2)) (rest := st.drop b) (by rw [List.reverse_reverse, List.take_append_drop]) (by rw [List.length_reverse, List.length_take]; omega) (Nat.le_of_ble_eq_true g4) hrk h2 hn (fun q => by cases q) hd k
end ZMN
/-- what is decided of the tables: each entry of each method is in order -/
def z_allok : Prop := ∀ id pc i, id < 221 → z_code id pc = some i → ∃ pl, z_chk id pc pl i.1 i.2.1 i.2.2.1 i.2.2.2.1 i.2.2.2.2.1 i.2.2.2.2.2.1 i.2.2.2.2.2.2.2 = true
theorem z_lgsl (vs : List Value) : (lg_sl vs).length = z_cat vs := by
  induction vs with
  | nil => rfl
  | cons v r ih =>
    have h1 : lg_sl (v :: r) = (if v.category = 2 then [Slot.val v, .second] else [.val v]) ++ lg_sl r := rfl
    have h2 : z_cat (v :: r) = v.category + z_cat r := rfl
    rw [h1, h2, List.length_append, ih]
    rcases lv_cat v with q | q <;> rw [q] <;> rfl
theorem z_sound (l : Launch) (G : z_G) (hmo : ∀ i, z_idok i → z_mok i) (hok : z_allok) (hpr : ∀ id a h r, 902 ≤ id → z_idok id → z_cat a ≤ z_ml id → z_prim id a h = some r → z_Met l G id a h r) :
    ∀ (n id : Nat) (a : List Value) (h : z_H) (r : z_A), z_ev n id a h = some r → z_cat a ≤ z_ml id → z_idok id → z_Met l G id a h r := by
  intro n
  induction n with
  | zero => intro id a h r e; simp [z_ev] at e
  | succ n ih =>
    intro id a h r hev hcat hid
    unfold z_ev at hev
    by_cases hp : 900 ≤ id
    · rw [if_pos hp] at hev
      exact hpr id a h r (by have := hid; unfold z_idok at this; omega) hid hcat hev
    · rw [if_neg hp] at hev
      have hid2 : id < 221 := by have := hid; unfold z_idok at this; omega
      have hm := hmo id hid
      unfold z_Met
      refine Met.ofW (cc := (z_mt id).2.1) (maxL := (z_mt id).2.2.1) (ret := (z_mt id).2.2.2) hm.2.2.2.2.2.2.2.1 rfl ?_
      intro p e s m args below meth c s₁ B hml hv
      obtain ⟨rfl, hK, hSt, hR⟩ := hv
      have hts := atoms_spec (ws := z_ws id) B.pre
      have hown : s.vm.findClass (z_mt id).1.cls = some m.cls := findClass_of_methodNamed B.named
      have hgood : ∀ w ∈ z_good, w.before (a.map (z_up G)).toArray s = true := fun w hw => hts w (List.mem_cons_of_mem _ hw)
      have hrk : 1 ≤ z_rank id a := by
        have := hm.2.2.2.2.2.2.2.2
        unfold z_rank
        cases z_recs id with
        | true => simp only [cond_true]; omega
        | false => exact this
      have hr1 : 1 ≤ (headSpec (z_ws id) (z_rm (z_rank id a))).room.frames := hrk
      have hr2 : 60 ≤ (headSpec (z_ws id) (z_rm (z_rank id a))).room.locals := by
        show 60 ≤ 80 * z_rank id a
        omega
      have key : ∀ (k : Nat) (t : z_S), z_run (z_ev n) (z_code id) (z_rank id a) k t = some r → z_Go p l e (headSpec (z_ws id) (z_rm (z_rank id a))).room s m (a.map (z_up G)).toArray below meth c (MQ below (z_Qc G (z_mt id).2.2.2 r) (a.map (z_up G)).toArray s 0 0 (fun q => G.1 ≤ q)) G (z_mt id).2.2.1 t.1 t.2.1 t.2.2.1 t.2.2.2 := by
        intro k
        induction k with
        | zero => intro t ht; simp [z_run] at ht
        | succ k ihk =>
          intro t ht
          unfold z_run at ht
          cases hs : z_step (z_code id) t with
          | none => rw [hs] at ht; simp at ht
          | some o =>
            rw [hs] at ht
            unfold z_step at hs
            cases hcode : z_code id t.1 with
            | none => rw [hcode] at hs; cases hs
            | some i =>
              rw [hcode] at hs
              obtain ⟨pl, hchk⟩ := hok id t.1 i hid2 hcode
              intro ls H locs x y z
              have x := z_norm_has (lab := i.2.2.2.2.2.2.1) x
              revert ls H locs
              match o, hs, ht with
              | .inl s', hs, ht =>
                intro ls H locs x0 y z x
                exact z_sound_step B.exec B.bytes hml hown hgood hK hr1 hr2 hchk hs (ihk s' ht) ls H locs x y z
              | .inr (.inl r'), hs, ht =>
                intro ls H locs x0 y z x
                cases ht
                exact z_sound_ret B.exec B.bytes B.returns B.notSynchronized hchk hs ls H locs x y z
              | .inr (.inr (id', a', c', s')), hs, ht =>
                intro ls H locs x0 y z x
                simp only at ht
                by_cases hrk' : z_rank id' a' < z_rank id a ∧ z_cat a' ≤ z_ml id'
                · rw [if_pos hrk'] at ht
                  cases hcl : z_ev n id' a' s'.2.2.2 with
                  | none => rw [hcl] at ht; simp at ht
                  | some q =>
                    obtain ⟨v, h'⟩ := q
                    rw [hcl] at ht
                    refine z_sound_call (R := (headSpec (z_ws id) (z_rm (z_rank id a))).room) B.exec B.bytes hml hown hts hK hSt hmo hchk hs (r := (v, h')) ⟨hrk'.1, ?_⟩ (fun hid' => ih id' a' _ _ hcl hrk'.2 hid') (ihk _ ht) ls H locs x y z
                    show 80 * _ + 80 ≤ 80 * z_rank id a
                    have := hrk'.1
                    omega
                · rw [if_neg hrk'] at ht; simp at ht
      have hent := lv_entry (a.map (z_up G)) (n := (z_mt id).2.2.1) (by
        rw [z_lgsl, hm.2.2.2.2.2.1]
        have : z_cat (a.map (z_up G)) = z_cat a := z_cat_up G a
        omega)
      rw [lg_entry_eq]
      rw [z_lvargs] at hent
      exact key n (0, lv_args 0 a, [], h) hev _ s.heap [] hent hR ⟨rfl, fun _ _ => rfl, fun _ hq => by cases hq⟩
