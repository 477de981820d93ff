/-! the reference's constructor; the picture that stands behind the constructors -/
theorem y_isI_t {v : Value} {x : Int32} (h : y_isI v x = true) : v = .int x := by
  cases v <;> first | (unfold y_isI at h; exact congrArg Value.int (of_decide_eq_true h)) | (exact absurd h Bool.false_ne_true)
theorem y_isRf_t {v : Value} {x : Nat} (h : y_isRf v x = true) : v = .ref x := by
  cases v <;> first | (unfold y_isRf at h; exact congrArg Value.ref (z_beq h)) | (exact absurd h Bool.false_ne_true)
theorem y_isN_t {v : Value} (h : y_isN v = true) : v = .null := by
  cases v <;> first | rfl | (exact absurd h Bool.false_ne_true)
theorem y_fld_t {o : Nat} : ∀ {fs : List Value} {j : Nat}, y_fld o j fs = true → ∀ k v, fs[k]? = some v → (match z_ft (z_K o) (j + k) with
    | 1 => y_isRf v (z_R o (j + k))
    | 2 => y_isN v
    | _ => y_isI v 0) = true := by
  intro fs
  induction fs with
  | nil => intro j h k v hk; cases hk
  | cons w r ih =>
    intro j h k v hk
    unfold y_fld at h
    rw [Bool.and_eq_true] at h
    cases k with
    | zero =>
      cases hk
      exact h.1
    | succ k =>
      have := ih h.2 k v hk
      rw [show j + 1 + k = j + (k + 1) by omega] at this
      exact this
theorem y_mats_t : ∀ {cs : List y_C} {o : Nat}, y_mats o cs = true → ∀ k c, cs[k]? = some c → y_mat (o + k) c = true := by
  intro cs
  induction cs with
  | nil => intro o h k c hk; cases hk
  | cons w r ih =>
    intro o h k c hk
    unfold y_mats at h
    rw [Bool.and_eq_true] at h
    cases k with
    | zero =>
      cases hk
      exact h.1
    | succ k =>
      have := ih h.2 k c hk
      rw [show o + 1 + k = o + (k + 1) by omega] at this
      exact this
theorem y_arrE {cA : ClassId} {N : Nat} {f g : Nat → Value} (h : ∀ j, j < N → f j = g j) : arrV cA N f = arrV cA N g := by
  unfold arrV
  congr 2
  funext j
  exact h j.val j.isLt
theorem y_toRep {G : z_G} {cs : List y_C} {H : Heap} (hR : y_Rep G cs H) (hl : cs.length = 141) (hm : y_mats 0 cs = true) : z_Rep G y_h1 H := by
  intro o ho
  obtain ⟨c, hc⟩ : ∃ c, cs[o]? = some c := ⟨cs[o]'(by omega), List.getElem?_eq_getElem (by omega)⟩
  have hat := hR.2 o c hc
  have hmt := y_mats_t hm o c hc
  rw [Nat.zero_add] at hmt
  rcases c with ⟨k, fs⟩ | ⟨k, N, f⟩ | N | ⟨k, N, f⟩
  · obtain ⟨a1, a12, hlen, cell, c1, c2, c3, c4⟩ := hat
    simp only [y_mat, Bool.and_eq_true] at hmt
    obtain ⟨⟨hk, hn⟩, hf⟩ := hmt
    have hk := z_beq hk
    have hn := z_beq hn
    subst hk
    refine ⟨fun _ => ⟨cell, c1, c2, c3, fun j hj => ?_⟩, fun h => absurd h (by omega)⟩
    obtain ⟨v, hv⟩ : ∃ v, fs[j]? = some v := ⟨fs[j]'(by omega), List.getElem?_eq_getElem (by omega)⟩
    have h3 := y_fld_t hf j v hv
    rw [Nat.zero_add] at h3
    have h4 := c4 j (by omega)
    rw [h4]
    show some (z_up G (fs.getD j .null)) = _
    rw [y_getD hv]
    unfold z_fv
    split at h3
    · rename_i e
      rw [e, y_isRf_t h3]
      rfl
    · rename_i e
      rw [e, y_isN_t h3]
      rfl
    · rename_i e1 e2
      split
      · rename_i e; exact absurd e e1
      · rename_i e; exact absurd e e2
      · rw [y_isI_t h3]
        have : y_h1.1 o j = 0 := by
          show (bif Nat.beq o 137 then (-4 : Int32) else 0) = 0
          by_cases h137 : o = 137
          · subst h137
            exact absurd (show z_K 137 ≤ 12 from a12) (by decide)
          · rw [z_beqF h137]
            rfl
        rw [this]
        rfl
  · obtain ⟨hk3, e0⟩ := hat
    simp only [y_mat, Bool.and_eq_true] at hmt
    obtain ⟨⟨hk, hn⟩, hf⟩ := hmt
    have hk := z_beq hk
    have hn := z_beq hn
    subst hk
    subst hn
    refine ⟨fun h => absurd h (by omega), fun _ => ?_⟩
    rw [e0]
    congr 1
    refine y_arrE fun j hj => ?_
    rw [z_av_int hk3]
    show Value.int (y_fi f j) = Value.int (bif Nat.beq o 137 then (-4 : Int32) else 0)
    cases h137 : Nat.beq o 137 with
    | true =>
      rw [h137] at hf
      have := List.all_eq_true.mp hf j (List.mem_range.mpr hj)
      exact congrArg Value.int (of_decide_eq_true this)
    | false =>
      rw [h137] at hf
      cases f with
      | nil => rfl
      | cons q r => cases hf
  · simp only [y_mat, Bool.and_eq_true] at hmt
    obtain ⟨hk, hn⟩ := hmt
    have hk := z_beq hk
    have hn := z_beq hn
    subst hn
    refine ⟨fun h => absurd h (by omega), fun _ => ?_⟩
    have e0 : H[G.1 + o]? = some (arrV (G.2.2.2.2 21) (z_N o) (fun _ => .long 0)) := hat
    rw [e0, hk]
    congr 1
    refine y_arrE fun j hj => ?_
    unfold z_av
    rw [hk]
    rfl
  · obtain ⟨h24, h26, e0⟩ := hat
    simp only [y_mat, Bool.and_eq_true] at hmt
    obtain ⟨⟨hk, hn⟩, hf⟩ := hmt
    have hk := z_beq hk
    have hn := z_beq hn
    subst hk
    subst hn
    refine ⟨fun h => absurd h (by omega), fun _ => ?_⟩
    rw [e0]
    congr 1
    refine y_arrE fun j hj => ?_
    have := z_beq (List.all_eq_true.mp hf j (List.mem_range.mpr hj))
    unfold z_av
    rw [z_beqF (by omega), Nat.ble_eq_true_of_le h24]
    show z_rv G (y_fr f j) = z_rv G (z_R o j)
    rw [this]
section YMO
variable {p : Program} {l : Launch} {e : Env} {R : Room} {s : State} {m : MethodId} {args : Array Value} {below : List Frame} {meth : Method} {c : Code} {Q : State → Prop}
variable {G : z_G}
theorem y_callZ {own : z_Mt} {H : Heap} {locs : List Loc} {ls : Array Slot} {pc cells slots nL : Nat} {cc : ByteArray} {rest : List Value} {h : z_H} (hx : p.tables.exec = Jvm.exec) (hb : c.code = cc) (hml : c.maxLocals = nL) (hown : s.vm.findClass own.1.cls = some m.cls) (hts : ∀ w ∈ y_ws own, w.before args s = true) (hK : z_Kn G s) (hSt : z_St G s s.heap) {id i o : Nat} {r : z_A} (hm : z_mok id) (hv : (z_sg id).1 = false) (hn : 0 = (z_sg id).2.1) (ho : o < 141) (hk : z_K o = (z_sg id).2.2) (h12 : 1 ≤ (z_sg id).2.2 ∧ (z_sg id).2.2 ≤ 12 ∧ (z_q (z_sg id).2.2).1 = (z_mt id).1.cls) (hM : z_Met l G id [.ref o] h r) (hlk : Cond.methodLink own.1.cls i (z_mt id).1 ∈ z_good) (hrt : (z_mt id).2.2.2 = none)
    (hfr : z_rank id [.ref o] + 1 ≤ R.frames ∧ 80 * (z_rank id [.ref o]) + 80 ≤ R.locals) (hd : decode cc pc = .ok (.invokevirtual i, 3)) (hls : ls.size = nL) (hrest : (rest.map fun v => v.category).sum ≤ 8) (hcl : cells ≤ R.cells ∧ slots ≤ R.slots) (hR : z_Rep G h H) (z : y_Fr G s H locs)
    (k : ∀ (H1 : Heap) (locs1 : List Loc), z_Rep G r.2 H1 → y_Fr G s H1 locs1 → W p l e R s m args below meth c H1 locs1 cells slots Q (F0 m (pc + 3) ls rest)) : W p l e R s m args below meth c H locs cells slots Q (F0 m pc ls (.ref (G.1 + o) :: rest)) := by
  have hgood : ∀ w ∈ z_good, w.before args s = true := fun w hw => hts w (List.mem_cons_of_mem _ hw)
  obtain ⟨m1, m2, m3, m4, m5, m6, m7, m8, -⟩ := hm
  rw [hv] at m5
  obtain ⟨m5a, m5b, -⟩ := m5
  have hup : z_up G (.ref o) = .ref (G.1 + o) := z_up_obj ho
  have hcell : ∃ cellB : Cell, H[G.1 + o]? = some cellB ∧ cellB.vm.isStatics = false ∧ s.vm.findClass (z_mt id).1.cls = some cellB.cls := by
    obtain ⟨cell, c1, c2, c3, -⟩ := (hR o ho).1 (by omega)
    refine ⟨cell, c1, by rw [c3]; rfl, ?_⟩
    obtain ⟨q1, -⟩ := z_q_ok _ h12.1 h12.2.1
    obtain ⟨-, hfc, -⟩ := hK.1.1 _ _ q1
    rw [c2, hk, ← h12.2.2]
    exact hfc
  have hPc : ∀ U : State, U.heap = H → s.WarmedH U.vm → z_Pc G [.ref o] h (Value.ref (G.1 + o) :: []).toArray U := fun U hU hW => ⟨by rw [List.map_cons, hup]; rfl, z_Kn.warm hW hK, by
    rw [hU]
    exact hSt.to hW.alike (fun q h1 h2 => z.2.1 q (by omega)), by rw [hU]; exact hR⟩
  have hlen : ∀ sig, parseMethodDescriptor (z_mt id).1.desc = some sig → (z_sg id).2.1 = sig.parameters.length := fun sig hs => by
    rw [hs] at m4
    exact (Option.some.inj m4).symm
  have hpay := pay_in hts (y_goodIn (own := own) (t := z_mt id) m1)
  have hrun := va_runV (R := R) (p := p) (l := l) (e := e) (below := below) (meth := meth) (cells := cells) (slots := slots) (locs := locs) (C := (z_mt id).1.cls) (index := i) ⟨hx, hb, hml, hown, hts⟩ hM (cw := ⟨⟨rfl, rfl, hfr.1, by rw [m6]; show 8 + (_ + 11) + 80 * _ ≤ _; omega, hpay, List.mem_cons_self, hgood _ m1, hgood _ m2, m3, hlen, hgood _ hlk⟩, hgood _ m5a, hgood _ m5b⟩) (b := G.1 + o) (As := []) (rest := rest) ⟨z_blind G _ h, hcell, hPc⟩ (g := F0 m pc ls (.ref (G.1 + o) :: rest)) rfl hn hls rfl (by show 2 * 0 + _ ≤ 8; omega) hd ⟨hcl.1, hcl.2⟩
  intro T hT X
  obtain ⟨v, st₀, t, T', LL, h0, X', hL, e1, e2, ⟨hv, hR1, hz, hq⟩, st⟩ := hrun T hT X
  rw [hrt] at hv
  cases hv
  rw [h0] at hz hq
  obtain ⟨t2, a1, b1⟩ := k T'.heap (locs ++ LL) (by rw [e1]; exact hR1) ⟨by rw [e1, hz]; exact z.1, fun q h1 => by rw [e1, hq q h1]; exact z.2.1 q h1, fun q hq => by
      rcases List.mem_append.mp hq with h | h
      · exact z.2.2 q h
      · exact hL q h⟩ T' rfl X'
  exact ⟨t2, st t2 a1, b1⟩
theorem y_st_go {MC MS : Nat} (hMC : MC = 18) (hMS : MS = 3981) (hx : p.tables.exec = Jvm.exec) (hb : c.code = (y_mt 11).2.1) (hml : c.maxLocals = (y_mt 11).2.2.1) (hown : s.vm.findClass (y_mt 11).1.cls = some m.cls) (hts : ∀ w ∈ z_good, w.before args s = true) (hK : y_Kn G s) (hin : meth.name = "<init>") (hr1 : 1 ≤ R.frames) (hr2 : 60 ≤ R.locals) (hRc : MC ≤ R.cells) (hRs : MS ≤ R.slots) :
    ∀ (n : Nat) (t t' : y_S), y_st n t = some t' → y_Go p l e R s m args below meth c Q G (y_mt 11).2.2.1 t' → y_Go p l e R s m args below meth c Q G (y_mt 11).2.2.1 t := by
  subst hMC
  subst hMS
  intro n
  induction n with
  | zero => intro t t' h k; cases h; exact k
  | succ n ih =>
    intro t t' h k
    obtain ⟨pc, lo, st, cs0, ce, sl⟩ := t
    unfold y_st at h
    cases hcode : y_fd (y_ds 11) pc with
    | none => simp only [hcode] at h; cases h
    | some i =>
      simp only [hcode] at h
      have hchk := y_allok_ok 11 (by decide) pc i hcode
      cases hs : y_exec 18 3981 i.1 i.2.1 i.2.2.1 i.2.2.2.1 i.2.2.2.2 lo st cs0 ce sl with
      | none => simp only [hs] at h; cases h
      | some o =>
        simp only [hs] at h
        rcases o with s' | o
        · exact y_step hx hb hml hown hts hK hin hr1 hr2 hRc hRs hchk hs (ih s' t' h k)
        · cases h
end YMO
def y_rmM : Room := { frames := 40, cells := 18, slots := 3981, locals := 3200 }
def y_cPM (G : z_G) (cs : List y_C) : Array Value → State → Prop := fun v U => v = ([.ref 122].map (z_up G)).toArray ∧ y_Kn G U ∧ z_St G U U.heap ∧ y_Rep G cs U.heap
def y_cQM (G : z_G) (h : z_H) : Array Value → State → Outcome → State → Prop := fun _ st o t => o = .returned none ∧ z_Rep G h t.heap ∧ st.heap.size ≤ t.heap.size ∧ ∀ q, q < G.1 → t.heap[q]? = st.heap[q]?
def y_end (t : y_S) : Bool := Nat.beq t.1 173 && Nat.beq t.2.2.2.1.length 141 && y_mats 0 t.2.2.2.1 && t.2.2.1.isEmpty && Nat.ble t.2.2.2.2.1 18 && Nat.ble t.2.2.2.2.2 3981 && (match z_get t.2.1 0 with
  | some (.ref x) => Nat.beq x 122
  | _ => false)
set_option maxRecDepth 20000 in
theorem y_ConM (l : Launch) (G : z_G) (hmo : ∀ i, z_idok i → z_mok i) {cs : List y_C} {t' : y_S} {h2 h3 : z_H} {x2 x3 : Int32} (hst : y_st 119 (0, [(0, .ref 122)], [], cs, 0, 0) = some t') (hend : y_end t' = true) (hM1 : z_Met l G 131 [.ref 122] y_h1 (x2, h2)) (hM2 : z_Met l G 132 [.ref 122] h2 (x3, h3)) : Met l (y_mt 11).1 (y_ws (y_mt 11)) y_rmM (y_cPM G cs) (y_cQM G h3) 18 3981 (fun q => G.1 ≤ q) := by
  obtain ⟨m1, m2, m3, m4, m5, m6, m7, m8, m9, m10⟩ := y_moks 11 (by decide)
  refine Met.ofW (cc := (y_mt 11).2.1) (maxL := (y_mt 11).2.2.1) (ret := (y_mt 11).2.2.2) m7 rfl ?_
  intro p e s m args below meth c s₁ B hml hv
  obtain ⟨rfl, hK, hSt, hR⟩ := hv
  have hts := atoms_spec (ws := y_ws (y_mt 11)) B.pre
  have hx := B.exec
  have hb := B.bytes
  have hown : s.vm.findClass (y_mt 11).1.cls = some m.cls := findClass_of_methodNamed B.named
  have hgood : ∀ w ∈ z_good, w.before _ s = true := fun w hw => hts w (List.mem_cons_of_mem _ hw)
  have hin : meth.name = "<init>" := (name_of_methodNamed B.named B.method).1.trans m8
  have hent := lv_entry ([Value.ref 122].map (z_up G)) (n := (y_mt 11).2.2.1) (Nat.le_of_ble_eq_true rfl)
  rw [lg_entry_eq]
  rw [z_lvargs] at hent
  refine (y_st_go rfl rfl hx hb hml hown hgood hK hin (Nat.le_of_ble_eq_true rfl) (Nat.le_of_ble_eq_true rfl) (Nat.le_of_ble_eq_true rfl) (Nat.le_of_ble_eq_true rfl) 119 (0, [(0, .ref 122)], [], cs, 0, 0) t' hst ?_) _ s.heap [] hent hR ⟨Nat.le_refl _, fun _ _ => rfl, fun _ hq => by cases hq⟩
  obtain ⟨pc, lo, st, cs', ce, sl⟩ := t'
  unfold y_end at hend
  simp only [Bool.and_eq_true] at hend
  obtain ⟨⟨⟨⟨⟨⟨e1, e2⟩, e3⟩, e4⟩, e5⟩, e6⟩, e7⟩ := hend
  have e1 := z_beq e1
  have e2 := z_beq e2
  have e5 : ce ≤ 18 := Nat.le_of_ble_eq_true e5
  have e6 : sl ≤ 3981 := Nat.le_of_ble_eq_true e6
  have e4 : st = [] := List.isEmpty_iff.mp e4
  have e1 : pc = 173 := e1
  subst e1
  subst e4
  intro ls H locs x y z
  have hR1 := y_toRep y e2 e3
  refine W.widen e5 e6 ?_
  show W p l e _ s m _ below meth c H locs 18 3981 _ (F0 m 173 ls [])
  cases hg : z_get lo 0 with
  | none => simp only [hg] at e7; cases e7
  | some v0 =>
    simp only [hg] at e7
    cases v0 <;> first | (cases e7; done) | skip
    rename_i a0
    have ha0 : a0 = 122 := z_beq e7
    subst ha0
    obtain ⟨j, hj⟩ := z_ul_get (G := G) hg
    rw [z_up_obj (by decide)] at hj
    have hl0 := lv_at x j hj
    refine lv_aload_n hx hb (k := 0) (i := 0) (by decide +kernel) rfl hl0 ?_
    refine y_callZ (own := y_mt 11) (id := 131) (i := 65) (o := 122) hx hb hml hown hts hK.1 hSt (hmo 131 (Or.inl (by decide))) rfl rfl (by decide) (by decide +kernel) ⟨by decide, by decide, by decide +kernel⟩ hM1 (z_wd_good (pl := 1095) (by decide +kernel) rfl) rfl ⟨Nat.le_of_ble_eq_true rfl, Nat.le_of_ble_eq_true rfl⟩ (by decide +kernel) x.1 (Nat.le_of_ble_eq_true rfl) ⟨Nat.le_of_ble_eq_true rfl, Nat.le_of_ble_eq_true rfl⟩ hR1 z (fun H locs y z => ?_)
    refine lv_aload_n hx hb (k := 0) (i := 0) (by decide +kernel) rfl hl0 ?_
    refine y_callZ (own := y_mt 11) (id := 132) (i := 68) (o := 122) hx hb hml hown hts hK.1 hSt (hmo 132 (Or.inl (by decide))) rfl rfl (by decide) (by decide +kernel) ⟨by decide, by decide, by decide +kernel⟩ hM2 (z_wd_good (pl := 1102) (by decide +kernel) rfl) rfl ⟨Nat.le_of_ble_eq_true rfl, Nat.le_of_ble_eq_true rfl⟩ (by decide +kernel) x.1 (Nat.le_of_ble_eq_true rfl) ⟨Nat.le_of_ble_eq_true rfl, Nat.le_of_ble_eq_true rfl⟩ y z (fun H locs y z => ?_)
    exact z_vret hx hb (B.returns.trans m10) (fun t ht hW => ⟨rfl, by rw [ht]; exact y, by rw [ht]; exact z.1, fun q hq => by rw [ht]; exact z.2.1 q hq⟩) z.2.2 (by decide +kernel) B.notSynchronized
