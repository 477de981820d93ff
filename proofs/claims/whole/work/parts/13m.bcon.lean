/-! the constructors' contracts, out of a run of the building machine -/
def y_allok : Prop := ∀ id, id ≤ 11 → ∀ pc i, y_fd (y_ds id) pc = some i → y_ok1 id pc (y_fp (y_ps id) pc) i.1 i.2.1 i.2.2.1 i.2.2.2.1 i.2.2.2.2 = true
section YCO
variable {p : Program} {l : Launch} {e : Env} {R : Room} {s : State} {m : MethodId} {args : Array Value} {below : List Frame} {meth : Method} {c : Code} {Q : State → Prop}
variable {G : z_G}
theorem y_backC {H : Heap} {locs : List Loc} {ls : Array Slot} {pc ce sl mc ms : Nat} {a : Array Value} {rest st0 : List Value} {cs' : List y_C} (hr : va_Run p l e R s m args below meth c H locs ce sl mc ms (F0 m pc ls st0) rest (y_cQ G cs' a) (fun q => G.1 ≤ q)) (z : y_Fr G s H locs) (k : ∀ (H1 : Heap) (locs1 : List Loc), y_Rep G cs' H1 → y_Fr G s H1 locs1 → W p l e R s m args below meth c H1 locs1 (ce + mc) (sl + ms) Q (F0 m (pc + 3) ls rest)) : W p l e R s m args below meth c H locs ce sl Q (F0 m pc ls st0) := by
  intro T hT X
  obtain ⟨v, st₀, t, T', L, h0, X', hL, e1, e2, ⟨hv, hR, hz, hq⟩, st⟩ := hr T hT X
  cases hv
  rw [h0] at hz hq
  obtain ⟨t2, a1, b1⟩ := k T'.heap (locs ++ L) (by rw [e1]; exact hR) ⟨by rw [e1]; exact Nat.le_trans z.1 hz, fun q h1 => by rw [e1, hq q h1]; exact z.2.1 q h1, fun q hq => by
      rcases List.mem_append.mp hq with h | h
      · exact z.2.2 q h
      · exact hL q h⟩ T' rfl X'
  exact ⟨t2, st t2 a1, b1⟩
theorem y_call {id pc pl : Nat} {lo : z_L} {st : List Value} {cs : List y_C} {ce sl MC MS : Nat} (hx : p.tables.exec = Jvm.exec) (hb : c.code = (y_mt id).2.1) (hml : c.maxLocals = (y_mt id).2.2.1) (hown : s.vm.findClass (y_mt id).1.cls = some m.cls) (hts : ∀ w ∈ y_ws (y_mt id), w.before args s = true) (hK : y_Kn G s) (hRc : MC ≤ R.cells) (hRs : MS ≤ R.slots)
    {ins : Instr} {n : Nat} {v : Int32} {a b : Nat} {idc : Nat} {as : List Value} {s' : y_S} {cs' : List y_C} (hc : y_ok1 id pc pl ins n v a b = true) (he : y_exec MC MS ins n v a b lo st cs ce sl = some (.inr (.inr (idc, as, s')))) (hsp : y_isSp ins = true) (hrcv : y_rcv as = true)
    (hce : s'.2.2.2.2.1 + (y_cost idc).1 ≤ MC ∧ s'.2.2.2.2.2 + (y_cost idc).2.1 ≤ MS) (hfr : (y_cost idc).2.2 + 1 ≤ R.frames ∧ 80 * (y_cost idc).2.2 + 80 ≤ R.locals) (hM : idc ≤ 10 → y_Con l G idc as s'.2.2.2.1 cs')
    (k : y_Go p l e R s m args below meth c Q G (y_mt id).2.2.1 (s'.1, s'.2.1, s'.2.2.1, cs', s'.2.2.2.2.1 + (y_cost idc).1, s'.2.2.2.2.2 + (y_cost idc).2.1)) : y_Go p l e R s m args below meth c Q G (y_mt id).2.2.1 (pc, lo, st, cs, ce, sl) := by
  cases ins
  all_goals first | exact absurd hsp Bool.false_ne_true | skip
  rename_i i
  simp only [y_ok1, Bool.and_eq_true] at hc
  obtain ⟨h1, h2⟩ := hc
  obtain ⟨hd, rfl⟩ := y_dk_inv h1
  by_cases h99 : a = 99
  · subst h99
    obtain ⟨o, r, rfl, he⟩ := y_r1_inv (show y_r1 _ _ = _ from he)
    obtain ⟨g, he⟩ := y_if_inv he
    cases he
  · have hex : ∀ a, a ≠ 99 → y_exec MC MS (.invokespecial i) (pc + 3) v a b lo st cs ce sl = y_if (Nat.ble b st.length && Nat.ble (z_cat (st.drop b)) 8) (some (.inr (.inr (a, (st.take b).reverse, (pc + 3, lo, st.drop b, cs, ce, sl))))) := by
      intro a ha
      show (match a with | 99 => _ | _ => _) = _
      split
      · exact absurd rfl ha
      · rfl
    have hck : ∀ a, a ≠ 99 → (match a with | 99 => z_wd pl (.methodLink (y_mt id).1.cls i objectInit) | _ => Nat.ble a 10 && Nat.beq b (y_prm a + 1) && (z_wd pl (.methodLink (y_mt id).1.cls i (y_mt a).1) || z_wd pl (.methodLinkNest (y_mt id).1.cls i (y_mt a).1 "TestChoice"))) = (Nat.ble a 10 && Nat.beq b (y_prm a + 1) && (z_wd pl (.methodLink (y_mt id).1.cls i (y_mt a).1) || z_wd pl (.methodLinkNest (y_mt id).1.cls i (y_mt a).1 "TestChoice"))) := by
      intro a ha
      split
      · exact absurd rfl ha
      · rfl
    have h2 := (hck a h99).symm.trans h2
    rw [hex a h99] at he
    obtain ⟨g, he⟩ := y_if_inv he
    cases he
    simp only [Bool.and_eq_true, Bool.or_eq_true] at g h2
    obtain ⟨⟨h10, hbp⟩, hlk⟩ := h2
    have h10 := Nat.le_of_ble_eq_true h10
    have hbp := z_beq hbp
    have gb := Nat.le_of_ble_eq_true g.1
    have g8 := Nat.le_of_ble_eq_true g.2
    obtain ⟨m1, m2, m3, m4, m5, m6, m7, m8, m9, m10⟩ := y_moks a (by omega)
    cases has : (st.take b).reverse with
    | nil => rw [has] at hrcv; cases hrcv
    | cons v0 As =>
      rw [has] at hrcv hM
      cases v0 <;> first | (cases hrcv; done) | skip
      rename_i o
      have ho : o < 141 := Nat.le_of_ble_eq_true hrcv
      have hst : st = As.reverse ++ .ref o :: st.drop b := by
        have : st.take b = (.ref o :: As).reverse := by rw [← has, List.reverse_reverse]
        rw [List.reverse_cons] at this
        conv => lhs; rw [← List.take_append_drop b st, this]
        rw [List.append_assoc]
        rfl
      have hAl : As.length = y_prm a := by
        have := congrArg List.length has
        rw [List.length_reverse, List.length_take, List.length_cons] at this
        omega
      intro ls H locs x y z
      have hgood : ∀ w ∈ z_good, w.before args s = true := fun w hw => hts w (List.mem_cons_of_mem _ hw)
      have hfix : CallFix p m c (y_mt id).2.1 (y_mt id).2.2.1 s args (y_ws (y_mt id)) (y_mt id).1.cls := ⟨hx, hb, hml, hown, hts⟩
      have hpay := pay_in hts (y_goodIn (own := y_mt id) m1)
      have hlen : ∀ sig, parseMethodDescriptor (y_mt a).1.desc = some sig → y_prm a = sig.parameters.length := fun sig hs => by
        rw [hs] at m4
        exact (Option.some.inj m4).symm
      have hlo : 8 + ((y_mt a).2.2.1 + 11) + (y_rm a).locals ≤ R.locals := by
        show 8 + (_ + 11) + 80 * _ ≤ _
        omega
      have hW : 2 * (F0 m pc ls (st.map (z_up G))).monitorRoom + (((st.drop b).map (z_up G)).map fun v => v.category).sum ≤ 8 := by
        show 2 * 0 + _ ≤ 8
        rw [z_cat_up]
        omega
      have hup : z_up G (.ref o) = .ref (G.1 + o) := z_up_obj ho
      have hpre : PreS s H (y_cP G (.ref o :: As) cs) (.ref (G.1 + o) :: As.map (z_up G)) := ⟨y_cblind G _ cs, fun U hU hW => ⟨by rw [List.map_cons, hup], hK.warm hW, by rw [hU]; exact y⟩⟩
      have hstk : (F0 m pc ls (st.map (z_up G))).stack = (As.map (z_up G)).reverse ++ .ref (G.1 + o) :: (st.drop b).map (z_up G) := by
        show st.map (z_up G) = _
        conv => lhs; rw [hst]
        simp [hup]
      have hAl2 : (As.map (z_up G)).length = y_prm a := by rw [List.length_map]; exact hAl
      have hM' := hM h10
      unfold y_Con at hM'
      have m1' := m1
      rw [m10] at m1'
      have hws0 : Cond.code (y_mt a).1 (y_mt a).2.1 (y_mt a).2.2.1 none ∈ y_ws (y_mt a) := by
        have : Cond.code (y_mt a).1 (y_mt a).2.1 (y_mt a).2.2.1 (y_mt a).2.2.2 ∈ y_ws (y_mt a) := List.mem_cons_self
        rw [m10] at this
        exact this
      rcases hlk with hlk | hlk
      · exact y_backC (va_runI (R := R) (p := p) (l := l) (e := e) (below := below) (meth := meth) (cells := ce) (slots := sl) (locs := locs) (index := i) hfix hM' (cw := ⟨⟨rfl, rfl, hfr.1, hlo, hpay, hws0, hgood _ m1', hgood _ m2, m3, hlen, hgood _ (z_wd_good hlk rfl)⟩, m8, hgood _ m5⟩) hpre (g := F0 m pc ls (st.map (z_up G))) rfl hAl2 x.1 hstk hW hd ⟨Nat.le_trans hce.1 hRc, Nat.le_trans hce.2 hRs⟩) z (fun H1 locs1 y1 z1 => k ls H1 locs1 x y1 z1)
      · exact y_backC (va_runIN (R := R) (p := p) (l := l) (e := e) (below := below) (meth := meth) (cells := ce) (slots := sl) (locs := locs) (index := i) (host := "TestChoice") hfix hM' (cw := ⟨⟨⟨rfl, rfl, hfr.1, hlo, hpay, hws0⟩, hgood _ m1', hgood _ m2, m3, hlen, va_Nw.use rfl (hK.1.2.1 _ _ _ _ (z_wd_inv hlk))⟩, m8, hgood _ m5⟩) hpre (g := F0 m pc ls (st.map (z_up G))) rfl hAl2 x.1 hstk hW hd ⟨Nat.le_trans hce.1 hRc, Nat.le_trans hce.2 hRs⟩) z (fun H1 locs1 y1 z1 => k ls H1 locs1 x y1 z1)
end YCO
theorem y_sound (l : Launch) (G : z_G) (hok : y_allok) : ∀ (n id : Nat) (a : List Value) (cs cs' : List y_C), y_ev n id a cs = some cs' → id ≤ 10 → y_Con l G id a cs cs' := by
  intro n
  induction n with
  | zero => intro id a cs cs' e; cases e
  | succ n ih =>
    intro id a cs cs' hev hid
    unfold y_ev at hev
    cases hcat : Nat.ble (z_cat a) (y_mt id).2.2.1 with
    | false => rw [hcat] at hev; cases hev
    | true =>
      rw [hcat] at hev
      simp only [cond_true] at hev
      have hcat := Nat.le_of_ble_eq_true hcat
      obtain ⟨m1, m2, m3, m4, m5, m6, m7, m8, m9, m10⟩ := y_moks id (by omega)
      unfold y_Con
      refine Met.ofW (cc := (y_mt id).2.1) (maxL := (y_mt id).2.2.1) (ret := (y_mt id).2.2.2) m7 rfl ?_
      intro p e s m args below meth c s₁ B hml hv
      obtain ⟨rfl, hK, hR⟩ := hv
      have hts := atoms_spec (ws := y_ws (y_mt id)) B.pre
      have hown : s.vm.findClass (y_mt id).1.cls = some m.cls := findClass_of_methodNamed B.named
      have hgood : ∀ w ∈ z_good, w.before (a.map (z_up G)).toArray s = true := fun w hw => hts w (List.mem_cons_of_mem _ hw)
      have hin : meth.name = "<init>" := (name_of_methodNamed B.named B.method).1.trans m8
      have hr1 : 1 ≤ (headSpec (y_ws (y_mt id)) (y_rm id)).room.frames := Nat.le_trans (by decide) m9
      have hr2 : 60 ≤ (headSpec (y_ws (y_mt id)) (y_rm id)).room.locals := by
        show 60 ≤ 80 * _
        omega
      have key : ∀ (k : Nat) (t : y_S), y_run (y_ev n) y_cost (y_fd (y_ds id)) id k t = some cs' → y_Go p l e (headSpec (y_ws (y_mt id)) (y_rm id)).room s m (a.map (z_up G)).toArray below meth c (MQ below (y_cQ G cs') (a.map (z_up G)).toArray s (y_cost id).1 (y_cost id).2.1 (fun q => G.1 ≤ q)) G (y_mt id).2.2.1 t := by
        intro k
        induction k with
        | zero => intro t ht; cases ht
        | succ k ihk =>
          intro t ht
          obtain ⟨pc, lo, st, cs0, ce, sl⟩ := t
          unfold y_run at ht
          cases hcode : y_fd (y_ds id) pc with
          | none => simp only [hcode] at ht; cases ht
          | some i =>
            have hchk := hok id (by omega) pc i hcode
            simp only [hcode] at ht
            cases hs : y_exec (y_cost id).1 (y_cost id).2.1 i.1 i.2.1 i.2.2.1 i.2.2.2.1 i.2.2.2.2 lo st cs0 ce sl with
            | none => simp only [hs] at ht; cases ht
            | some o =>
              simp only [hs] at ht
              match o, hs, ht with
              | .inl s', hs, ht => exact y_step B.exec B.bytes hml hown hgood hK hin hr1 hr2 (Nat.le_refl _) (Nat.le_refl _) hchk hs (ihk s' ht)
              | .inr (.inl r), hs, ht =>
                simp only at ht
                cases hg : (y_isRet i.1 && Nat.ble r.2.1 (y_cost id).1 && Nat.ble r.2.2 (y_cost id).2.1) with
                | false => rw [hg] at ht; cases ht
                | true =>
                  rw [hg] at ht
                  simp only [cond_true] at ht
                  cases ht
                  simp only [Bool.and_eq_true] at hg
                  obtain ⟨ins, n1, v1, a1, b1⟩ := i
                  cases ins <;> first | exact absurd hg.1.1 Bool.false_ne_true | skip
                  simp only [y_ok1] at hchk
                  obtain ⟨hd, -⟩ := y_dk_inv hchk
                  cases hs
                  intro ls H locs x y z
                  refine W.widen (Nat.le_of_ble_eq_true hg.1.2) (Nat.le_of_ble_eq_true hg.2) (z_vret B.exec B.bytes (B.returns.trans m10) (fun t ht hW => ⟨rfl, by rw [ht]; exact y, by rw [ht]; exact z.1, fun q hq => by rw [ht]; exact z.2.1 q hq⟩) z.2.2 hd B.notSynchronized)
              | .inr (.inr (id', a', s')), hs, ht =>
                simp only at ht
                cases hg : (y_isSp i.1 && y_rcv a' && Nat.blt (y_cost id').2.2 (y_cost id).2.2 && Nat.ble (s'.2.2.2.2.1 + (y_cost id').1) (y_cost id).1 && Nat.ble (s'.2.2.2.2.2 + (y_cost id').2.1) (y_cost id).2.1) with
                | false => rw [hg] at ht; cases ht
                | true =>
                  rw [hg] at ht
                  simp only [cond_true] at ht
                  simp only [Bool.and_eq_true] at hg
                  obtain ⟨⟨⟨⟨g1, g2⟩, g3⟩, g4⟩, g5⟩ := hg
                  have g3 : (y_cost id').2.2 + 1 ≤ (y_cost id).2.2 := Nat.le_of_ble_eq_true g3
                  cases hcl : y_ev n id' a' s'.2.2.2.1 with
                  | none => simp only [hcl] at ht; cases ht
                  | some cs1 =>
                    simp only [hcl] at ht
                    refine y_call B.exec B.bytes hml hown hts hK (Nat.le_refl _) (Nat.le_refl _) hchk hs g1 g2 ⟨Nat.le_of_ble_eq_true g4, Nat.le_of_ble_eq_true g5⟩ ⟨g3, ?_⟩ (fun h10 => ih id' a' _ _ hcl h10) (ihk _ ht)
                    show 80 * _ + 80 ≤ 80 * _
                    omega
      have hent := lv_entry (a.map (z_up G)) (n := (y_mt id).2.2.1) (by
        rw [z_lgsl]
        have : z_cat (a.map (z_up G)) = z_cat a := z_cat_up G a
        omega)
      rw [lg_entry_eq]
      rw [z_lvargs] at hent
      exact key 2000 (0, lv_args 0 a, [], cs, 0, 0) hev _ s.heap [] hent hR ⟨Nat.le_refl _, fun _ _ => rfl, fun _ hq => by cases hq⟩
