theorem z_fv_c {G : z_G} {h : z_H} {o a b c : Nat} (hK : z_K o = a) (hc : c = (match z_ft a b with | 1 => 1 | 2 => 2 | _ => 0)) : z_up G (match (generalizing := false) c with | 1 => .ref (z_R o b) | 2 => .ref h.2.2 | _ => .int (h.1 o b)) = z_fv G h o b := by
  unfold z_fv
  subst hK
  subst hc
  generalize z_ft (z_K o) b = t
  match t with
  | 0 => rfl
  | 1 => rfl
  | 2 => rfl
  | t + 3 => rfl
theorem z_w_nat : Cond.native arraycopyName ∈ z_good := List.mem_filter.mpr ⟨List.mem_of_getElem? (i := 697) (by decide +kernel), rfl⟩
theorem z_w_sta : Cond.static arraycopyName ∈ z_good := List.mem_filter.mpr ⟨List.mem_of_getElem? (i := 696) (by decide +kernel), rfl⟩
theorem z_w_ini : Cond.initialized "java/lang/System" ∈ z_good := List.mem_filter.mpr ⟨List.mem_of_getElem? (i := 111) (by decide +kernel), rfl⟩
theorem z_exec_stat {i n : Nat} {v : Int32} {a b c : Nat} {sw : List (Int32 × Nat)} {l : z_L} {st : List Value} {h : z_H} (h0 : a ≠ 900) (h1 : a ≠ 901) (h2 : a ≠ 904) (h3 : a ≠ 905) : z_exec (.invokestatic i) n v a b c sw l st h = z_if (Nat.ble b st.length && Nat.ble (z_cat (st.drop b)) 8) (some (.inr (.inr (a, (st.take b).reverse, c, (n, l, st.drop b, h))))) := by
  show (match a with
    | 900 => _
    | 901 => _
    | 904 => _
    | 905 => _
    | _ => _) = _
  split
  · exact absurd rfl h0
  · exact absurd rfl h1
  · exact absurd rfl h2
  · exact absurd rfl h3
  · rfl
theorem z_w_smax : Cond.static Lib.Math.max.name ∈ z_good := List.mem_filter.mpr ⟨List.mem_of_getElem? (i := 672) (by decide +kernel), rfl⟩
theorem z_w_smin : Cond.static Lib.Math.min.name ∈ z_good := List.mem_filter.mpr ⟨List.mem_of_getElem? (i := 1041) (by decide +kernel), rfl⟩
theorem z_w_cmax : Cond.code Lib.Math.max.name Lib.Math.max.code 2 (some .int) ∈ z_good := List.mem_filter.mpr ⟨List.mem_of_getElem? (i := 673) (by decide +kernel), rfl⟩
theorem z_w_cmin : Cond.code Lib.Math.min.name Lib.Math.min.code 2 (some .int) ∈ z_good := List.mem_filter.mpr ⟨List.mem_of_getElem? (i := 1042) (by decide +kernel), rfl⟩
theorem z_w_im : Cond.initialized "java/lang/Math" ∈ z_good := List.mem_filter.mpr ⟨List.mem_of_getElem? (i := 110) (by decide +kernel), rfl⟩
/-! THE STEP: if the small machine goes on from a state, so does the real one -/
set_option maxHeartbeats 2000000 in
theorem z_sound_step {p : Program} {l : Launch} {e : Env} {R : Room} {s : State} {m : MethodId} {args : Array Value} {below : List Frame} {meth : Method} {c : Code} {Q : State → Prop} {G : z_G} {id pc pl : Nat} {lo : z_L} {st : List Value} {h : z_H}
    (hx : p.tables.exec = Jvm.exec) (hb : c.code = (z_mt id).2.1) (hml : c.maxLocals = (z_mt id).2.2.1) (hown : s.vm.findClass (z_mt id).1.cls = some m.cls) (hts : ∀ w ∈ z_good, w.before args s = true) (hK : z_Kn G s) (hr1 : 1 ≤ R.frames) (hr2 : 60 ≤ R.locals)
    {ins : Instr} {n : Nat} {v : Int32} {a b c' : Nat} {sw : List (Int32 × Nat)} {s' : z_S} (hc : z_chk id pc pl ins n v a b c' sw = true) (he : z_exec ins n v a b c' sw lo st h = some (.inl s'))
    (k : z_Go p l e R s m args below meth c Q G (z_mt id).2.2.1 s'.1 s'.2.1 s'.2.2.1 s'.2.2.2) : z_Go p l e R s m args below meth c Q G (z_mt id).2.2.1 pc lo st h := by
  cases ins
  all_goals first | exact absurd hc Bool.false_ne_true | skip
  case iconst q =>
    simp only [z_chk, Bool.and_eq_true, decide_eq_true_eq] at hc
    obtain ⟨h1, h2⟩ := hc
    obtain ⟨hd, rfl⟩ := z_dk_inv h1
    have hs := z_nx_inv (show z_nx _ _ _ _ = _ from he)
    subst hs
    exact z_s_iconst hx hb hd h2 k
  case bipush q =>
    simp only [z_chk, Bool.and_eq_true, decide_eq_true_eq] at hc
    obtain ⟨h1, h2⟩ := hc
    obtain ⟨hd, rfl⟩ := z_dk_inv h1
    have hs := z_nx_inv (show z_nx _ _ _ _ = _ from he)
    subst hs
    exact z_s_bipush hx hb hd h2 k
  case sipush q =>
    simp only [z_chk, Bool.and_eq_true, decide_eq_true_eq] at hc
    obtain ⟨h1, h2⟩ := hc
    obtain ⟨hd, rfl⟩ := z_dk_inv h1
    have hs := z_nx_inv (show z_nx _ _ _ _ = _ from he)
    subst hs
    exact z_s_sipush hx hb hd h2 k
  case lconst q =>
    simp only [z_chk, Bool.and_eq_true, decide_eq_true_eq] at hc
    obtain ⟨h1, h2⟩ := hc
    obtain ⟨hd, rfl⟩ := z_dk_inv h1
    have hs := z_nx_inv (show z_nx _ _ _ _ = _ from he)
    subst hs
    exact z_s_lconst hx hb hd h2 k
  case ldc q =>
    simp only [z_chk, Bool.and_eq_true] at hc
    obtain ⟨h1, h2⟩ := hc
    obtain ⟨hd, rfl⟩ := z_dk_inv h1
    have hs := z_nx_inv (show z_nx _ _ _ _ = _ from he)
    subst hs
    by_cases ha : a = 0
    · subst ha
      exact z_s_ldc hx hb hown (hts _ (z_wd_good (show z_wd pl (.constant (z_mt id).1.cls q v) = true from h2) rfl)) hd k
    · rw [z_beqF ha] at h2
      simp only [Bool.and_eq_true, decide_eq_true_eq] at h2
      obtain ⟨⟨⟨g1, g2⟩, g3⟩, g4⟩ := h2
      have g2 : 1000 ≤ a := Nat.le_of_ble_eq_true g2
      have g3 : a < 1006 := Nat.le_of_ble_eq_true g3
      have g4 := z_beq g4
      have k2 : z_Go p l e R s m args below meth c Q G (z_mt id).2.2.1 (pc + 2) lo (.ref a :: st) h := by
        have := k
        simp only [z_beqF ha, cond_false] at this
        exact this
      obtain ⟨j, hj⟩ : ∃ j, a = 1000 + j := ⟨a - 1000, by omega⟩
      have g5 : q = 100 + 2 * j := by rw [g4]; omega
      rw [g5] at hd
      rw [hj] at k2
      exact z_s_ldcS hx hb g1 (by omega) hown hK hd k2
  case ldc_w q =>
    simp only [z_chk, Bool.and_eq_true] at hc
    obtain ⟨h1, h2⟩ := hc
    obtain ⟨hd, rfl⟩ := z_dk_inv h1
    have hs := z_nx_inv (show z_nx _ _ _ _ = _ from he)
    subst hs
    exact z_s_ldcw hx hb hown (hts _ (z_wd_good h2 rfl)) hd k
  case ldc2_w q =>
    simp only [z_chk, Bool.and_eq_true] at hc
    obtain ⟨h1, h2⟩ := hc
    obtain ⟨hd, rfl⟩ := z_dk_inv h1
    have hs := z_nx_inv (show z_nx _ _ _ _ = _ from he)
    subst hs
    exact z_s_ldc2 hx hb hown (hts _ (z_wd_good h2 rfl)) hd k
  case iload q =>
    simp only [z_chk, Bool.and_eq_true] at hc
    obtain ⟨h1, h2⟩ := hc
    obtain ⟨hd, rfl⟩ := z_dk_inv h1
    have h2 := z_beq h2
    subst h2
    obtain ⟨x, g1, g2⟩ := z_vi_inv (show z_vi _ _ = _ from he)
    have hs := z_nx_inv g2
    subst hs
    exact z_s_iload hx hb g1 hd k
  case lload q =>
    simp only [z_chk, Bool.and_eq_true] at hc
    obtain ⟨h1, h2⟩ := hc
    obtain ⟨hd, rfl⟩ := z_dk_inv h1
    have h2 := z_beq h2
    subst h2
    obtain ⟨x, g1, g2⟩ := z_vl_inv (show z_vl _ _ = _ from he)
    have hs := z_nx_inv g2
    subst hs
    exact z_s_lload hx hb g1 hd k
  case iload_n q =>
    simp only [z_chk, Bool.and_eq_true] at hc
    obtain ⟨h1, h2⟩ := hc
    obtain ⟨hd, rfl⟩ := z_dk_inv h1
    have h2 := z_beq h2
    subst h2
    obtain ⟨x, g1, g2⟩ := z_vi_inv (show z_vi _ _ = _ from he)
    have hs := z_nx_inv g2
    subst hs
    exact z_s_iload_n hx hb g1 hd k
  case lload_n q =>
    simp only [z_chk, Bool.and_eq_true] at hc
    obtain ⟨h1, h2⟩ := hc
    obtain ⟨hd, rfl⟩ := z_dk_inv h1
    have h2 := z_beq h2
    subst h2
    obtain ⟨x, g1, g2⟩ := z_vl_inv (show z_vl _ _ = _ from he)
    have hs := z_nx_inv g2
    subst hs
    exact z_s_lload_n hx hb g1 hd k
  case aload q =>
    simp only [z_chk, Bool.and_eq_true] at hc
    obtain ⟨h1, h2⟩ := hc
    obtain ⟨hd, rfl⟩ := z_dk_inv h1
    have h2 := z_beq h2
    subst h2
    obtain ⟨x, g1, g2⟩ := z_vr_inv (show z_vr _ _ = _ from he)
    obtain ⟨g3, g4⟩ := z_if_inv g2
    have hs := z_nx_inv g4
    subst hs
    exact z_s_aload hx hb (z_no999 g3) g1 hd k
  case aload_n q =>
    simp only [z_chk, Bool.and_eq_true] at hc
    obtain ⟨h1, h2⟩ := hc
    obtain ⟨hd, rfl⟩ := z_dk_inv h1
    have h2 := z_beq h2
    subst h2
    obtain ⟨x, g1, g2⟩ := z_vr_inv (show z_vr _ _ = _ from he)
    obtain ⟨g3, g4⟩ := z_if_inv g2
    have hs := z_nx_inv g4
    subst hs
    exact z_s_aload_n hx hb (z_no999 g3) g1 hd k
  case istore q =>
    simp only [z_chk, Bool.and_eq_true] at hc
    obtain ⟨⟨h1, h2⟩, h3⟩ := hc
    obtain ⟨hd, rfl⟩ := z_dk_inv h1
    have h2 := z_beq h2
    subst h2
    obtain ⟨x, r, rfl, g2⟩ := z_i1_inv (show z_i1 _ _ = _ from he)
    have hs := z_nx_inv g2
    subst hs
    exact z_s_istore hx hb (Nat.le_of_ble_eq_true h3) hd k
  case istore_n q =>
    simp only [z_chk, Bool.and_eq_true] at hc
    obtain ⟨⟨h1, h2⟩, h3⟩ := hc
    obtain ⟨hd, rfl⟩ := z_dk_inv h1
    have h2 := z_beq h2
    subst h2
    obtain ⟨x, r, rfl, g2⟩ := z_i1_inv (show z_i1 _ _ = _ from he)
    have hs := z_nx_inv g2
    subst hs
    exact z_s_istore_n hx hb (Nat.le_of_ble_eq_true h3) hd k
  case lstore q =>
    simp only [z_chk, Bool.and_eq_true] at hc
    obtain ⟨⟨h1, h2⟩, h3⟩ := hc
    obtain ⟨hd, rfl⟩ := z_dk_inv h1
    have h2 := z_beq h2
    subst h2
    obtain ⟨x, r, rfl, g2⟩ := z_l1_inv (show z_l1 _ _ = _ from he)
    have hs := z_nx_inv g2
    subst hs
    exact z_s_lstore hx hb (Nat.le_of_ble_eq_true h3) hd k
  case lstore_n q =>
    simp only [z_chk, Bool.and_eq_true] at hc
    obtain ⟨⟨h1, h2⟩, h3⟩ := hc
    obtain ⟨hd, rfl⟩ := z_dk_inv h1
    have h2 := z_beq h2
    subst h2
    obtain ⟨x, r, rfl, g2⟩ := z_l1_inv (show z_l1 _ _ = _ from he)
    have hs := z_nx_inv g2
    subst hs
    exact z_s_lstore_n hx hb (Nat.le_of_ble_eq_true h3) hd k
  case astore q =>
    simp only [z_chk, Bool.and_eq_true] at hc
    obtain ⟨⟨h1, h2⟩, h3⟩ := hc
    obtain ⟨hd, rfl⟩ := z_dk_inv h1
    have h2 := z_beq h2
    subst h2
    obtain ⟨x, r, rfl, g2⟩ := z_r1_inv (show z_r1 _ _ = _ from he)
    obtain ⟨g3, g4⟩ := z_if_inv g2
    have hs := z_nx_inv g4
    subst hs
    exact z_s_astore hx hb (z_no999 g3) (Nat.le_of_ble_eq_true h3) hd k
  case astore_n q =>
    simp only [z_chk, Bool.and_eq_true] at hc
    obtain ⟨⟨h1, h2⟩, h3⟩ := hc
    obtain ⟨hd, rfl⟩ := z_dk_inv h1
    have h2 := z_beq h2
    subst h2
    obtain ⟨x, r, rfl, g2⟩ := z_r1_inv (show z_r1 _ _ = _ from he)
    obtain ⟨g3, g4⟩ := z_if_inv g2
    have hs := z_nx_inv g4
    subst hs
    exact z_s_astore_n hx hb (z_no999 g3) (Nat.le_of_ble_eq_true h3) hd k
  case iinc q w =>
    simp only [z_chk, Bool.and_eq_true, decide_eq_true_eq] at hc
    obtain ⟨⟨⟨h1, h2⟩, h3⟩, h4⟩ := hc
    obtain ⟨hd, rfl⟩ := z_dk_inv h1
    have h2 := z_beq h2
    subst h2
    obtain ⟨x, g1, g2⟩ := z_vi_inv (show z_vi _ _ = _ from he)
    have hs := z_nx_inv g2
    subst hs
    exact z_s_iinc hx hb g1 h3 (Nat.le_of_ble_eq_true h4) hd k
  case iadd  =>
    obtain ⟨hd, rfl⟩ := z_dk_inv (show z_dk _ _ _ _ 1 = true from hc)
    obtain ⟨x, y, r, rfl, g⟩ := z_i2_inv (show z_i2 _ _ = _ from he)
    have hs := z_nx_inv g
    subst hs
    exact z_s_iadd hx hb hd k
  case isub  =>
    obtain ⟨hd, rfl⟩ := z_dk_inv (show z_dk _ _ _ _ 1 = true from hc)
    obtain ⟨x, y, r, rfl, g⟩ := z_i2_inv (show z_i2 _ _ = _ from he)
    have hs := z_nx_inv g
    subst hs
    exact z_s_isub hx hb hd k
  case imul  =>
    obtain ⟨hd, rfl⟩ := z_dk_inv (show z_dk _ _ _ _ 1 = true from hc)
    obtain ⟨x, y, r, rfl, g⟩ := z_i2_inv (show z_i2 _ _ = _ from he)
    have hs := z_nx_inv g
    subst hs
    exact z_s_imul hx hb hd k
  case iand  =>
    obtain ⟨hd, rfl⟩ := z_dk_inv (show z_dk _ _ _ _ 1 = true from hc)
    obtain ⟨x, y, r, rfl, g⟩ := z_i2_inv (show z_i2 _ _ = _ from he)
    have hs := z_nx_inv g
    subst hs
    exact z_s_iand hx hb hd k
  case ishr  =>
    obtain ⟨hd, rfl⟩ := z_dk_inv (show z_dk _ _ _ _ 1 = true from hc)
    obtain ⟨x, y, r, rfl, g⟩ := z_i2_inv (show z_i2 _ _ = _ from he)
    have hs := z_nx_inv g
    subst hs
    exact z_s_ishr hx hb hd k
  case iushr  =>
    obtain ⟨hd, rfl⟩ := z_dk_inv (show z_dk _ _ _ _ 1 = true from hc)
    obtain ⟨x, y, r, rfl, g⟩ := z_i2_inv (show z_i2 _ _ = _ from he)
    have hs := z_nx_inv g
    subst hs
    exact z_s_iushr hx hb hd k
  case idiv  =>
    obtain ⟨hd, rfl⟩ := z_dk_inv (show z_dk _ _ _ _ 1 = true from hc)
    obtain ⟨x, y, r, rfl, g⟩ := z_i2_inv (show z_i2 _ _ = _ from he)
    obtain ⟨g1, g2⟩ := z_if_inv g
    have hs := z_nx_inv g2
    subst hs
    exact z_s_idiv hx hb (by simpa using g1) hd k
  case irem  =>
    obtain ⟨hd, rfl⟩ := z_dk_inv (show z_dk _ _ _ _ 1 = true from hc)
    obtain ⟨x, y, r, rfl, g⟩ := z_i2_inv (show z_i2 _ _ = _ from he)
    obtain ⟨g1, g2⟩ := z_if_inv g
    have hs := z_nx_inv g2
    subst hs
    exact z_s_irem hx hb (by simpa using g1) hd k
  case ladd  =>
    obtain ⟨hd, rfl⟩ := z_dk_inv (show z_dk _ _ _ _ 1 = true from hc)
    obtain ⟨x, y, r, rfl, g⟩ := z_l2_inv (show z_l2 _ _ = _ from he)
    have hs := z_nx_inv g
    subst hs
    exact z_s_ladd hx hb hd k
  case land  =>
    obtain ⟨hd, rfl⟩ := z_dk_inv (show z_dk _ _ _ _ 1 = true from hc)
    obtain ⟨x, y, r, rfl, g⟩ := z_l2_inv (show z_l2 _ _ = _ from he)
    have hs := z_nx_inv g
    subst hs
    exact z_s_land hx hb hd k
  case lor  =>
    obtain ⟨hd, rfl⟩ := z_dk_inv (show z_dk _ _ _ _ 1 = true from hc)
    obtain ⟨x, y, r, rfl, g⟩ := z_l2_inv (show z_l2 _ _ = _ from he)
    have hs := z_nx_inv g
    subst hs
    exact z_s_lor hx hb hd k
  case lxor  =>
    obtain ⟨hd, rfl⟩ := z_dk_inv (show z_dk _ _ _ _ 1 = true from hc)
    obtain ⟨x, y, r, rfl, g⟩ := z_l2_inv (show z_l2 _ _ = _ from he)
    have hs := z_nx_inv g
    subst hs
    exact z_s_lxor hx hb hd k
  case lcmp  =>
    obtain ⟨hd, rfl⟩ := z_dk_inv (show z_dk _ _ _ _ 1 = true from hc)
    obtain ⟨x, y, r, rfl, g⟩ := z_l2_inv (show z_l2 _ _ = _ from he)
    have hs := z_nx_inv g
    subst hs
    exact z_s_lcmp hx hb hd k
  case lshl  =>
    obtain ⟨hd, rfl⟩ := z_dk_inv (show z_dk _ _ _ _ 1 = true from hc)
    obtain ⟨x, y, r, rfl, g⟩ := z_li_inv (show z_li _ _ = _ from he)
    have hs := z_nx_inv g
    subst hs
    exact z_s_lshl hx hb hd k
  case lushr  =>
    obtain ⟨hd, rfl⟩ := z_dk_inv (show z_dk _ _ _ _ 1 = true from hc)
    obtain ⟨x, y, r, rfl, g⟩ := z_li_inv (show z_li _ _ = _ from he)
    have hs := z_nx_inv g
    subst hs
    exact z_s_lushr hx hb hd k
  case i2l  =>
    obtain ⟨hd, rfl⟩ := z_dk_inv (show z_dk _ _ _ _ 1 = true from hc)
    obtain ⟨x, r, rfl, g⟩ := z_i1_inv (show z_i1 _ _ = _ from he)
    have hs := z_nx_inv g
    subst hs
    exact z_s_i2l hx hb hd k
  case l2i  =>
    obtain ⟨hd, rfl⟩ := z_dk_inv (show z_dk _ _ _ _ 1 = true from hc)
    obtain ⟨x, r, rfl, g⟩ := z_l1_inv (show z_l1 _ _ = _ from he)
    have hs := z_nx_inv g
    subst hs
    exact z_s_l2i hx hb hd k
  case i2b  =>
    obtain ⟨hd, rfl⟩ := z_dk_inv (show z_dk _ _ _ _ 1 = true from hc)
    obtain ⟨x, r, rfl, g⟩ := z_i1_inv (show z_i1 _ _ = _ from he)
    have hs := z_nx_inv g
    subst hs
    exact z_s_i2b hx hb hd k
  case i2s  =>
    obtain ⟨hd, rfl⟩ := z_dk_inv (show z_dk _ _ _ _ 1 = true from hc)
    obtain ⟨x, r, rfl, g⟩ := z_i1_inv (show z_i1 _ _ = _ from he)
    have hs := z_nx_inv g
    subst hs
    exact z_s_i2s hx hb hd k
  case pop  =>
    obtain ⟨hd, rfl⟩ := z_dk_inv (show z_dk _ _ _ _ 1 = true from hc)
    match st, he with
    | .int _ :: r, he =>
      have hs := z_nx_inv (show z_nx _ _ _ _ = _ from he)
      subst hs
      exact z_s_pop1 hx hb rfl hd k
    | .ref _ :: r, he =>
      have hs := z_nx_inv (show z_nx _ _ _ _ = _ from he)
      subst hs
      exact z_s_pop1 hx hb rfl hd k
  case dup  =>
    obtain ⟨hd, rfl⟩ := z_dk_inv (show z_dk _ _ _ _ 1 = true from hc)
    match st, he with
    | .int _ :: r, he =>
      have hs := z_nx_inv (show z_nx _ _ _ _ = _ from he)
      subst hs
      exact z_s_dup hx hb rfl hd k
    | .ref _ :: r, he =>
      have hs := z_nx_inv (show z_nx _ _ _ _ = _ from he)
      subst hs
      exact z_s_dup hx hb rfl hd k
  case dup2  =>
    obtain ⟨hd, rfl⟩ := z_dk_inv (show z_dk _ _ _ _ 1 = true from hc)
    obtain ⟨o, j, r, rfl, g⟩ := z_ri_inv (show z_ri _ _ = _ from he)
    have hs := z_nx_inv g
    subst hs
    exact z_s_dup2 hx hb rfl rfl hd k
  case iaload  =>
    obtain ⟨hd, rfl⟩ := z_dk_inv (show z_dk _ _ _ _ 1 = true from hc)
    obtain ⟨o, j, r, rfl, g⟩ := z_ri_inv (show z_ri _ _ = _ from he)
    obtain ⟨g1, g2⟩ := z_if_inv g
    obtain ⟨g3, g4⟩ := z_if_inv g2
    have hs := z_nx_inv g4
    subst hs
    exact z_s_iaload hx hb hK (z_beq g1) g3 hd k
  case laload  =>
    obtain ⟨hd, rfl⟩ := z_dk_inv (show z_dk _ _ _ _ 1 = true from hc)
    obtain ⟨o, j, r, rfl, g⟩ := z_ri_inv (show z_ri _ _ = _ from he)
    obtain ⟨g1, g2⟩ := z_if_inv g
    obtain ⟨g3, g4⟩ := z_if_inv g2
    have hs := z_nx_inv g4
    subst hs
    exact z_s_laload hx hb hK (z_beq g1) g3 hd k
  case baload  =>
    obtain ⟨hd, rfl⟩ := z_dk_inv (show z_dk _ _ _ _ 1 = true from hc)
    obtain ⟨o, j, r, rfl, g⟩ := z_ri_inv (show z_ri _ _ = _ from he)
    obtain ⟨g1, g2⟩ := z_if_inv g
    obtain ⟨g3, g4⟩ := z_if_inv g2
    have hs := z_nx_inv g4
    subst hs
    have g1 : z_K o = 22 ∨ z_K o = 23 := by
      simp only [Bool.or_eq_true] at g1
      exact g1.imp z_beq z_beq
    exact z_s_baload hx hb hK g1 g3 hd k
  case aaload  =>
    obtain ⟨hd, rfl⟩ := z_dk_inv (show z_dk _ _ _ _ 1 = true from hc)
    obtain ⟨o, j, r, rfl, g⟩ := z_ri_inv (show z_ri _ _ = _ from he)
    obtain ⟨g1, g2⟩ := z_if_inv g
    obtain ⟨g3, g4⟩ := z_if_inv g2
    have hs := z_nx_inv g4
    subst hs
    simp only [Bool.and_eq_true] at g1
    exact z_s_aaload hx hb hK (Nat.le_of_ble_eq_true g1.1) g3 hd k
  case iastore  =>
    obtain ⟨hd, rfl⟩ := z_dk_inv (show z_dk _ _ _ _ 1 = true from hc)
    obtain ⟨o, j, x, r, rfl, g⟩ := z_rii_inv (show z_rii _ _ = _ from he)
    obtain ⟨g1, g2⟩ := z_if_inv g
    obtain ⟨g3, g4⟩ := z_if_inv g2
    have hs := z_nx_inv g4
    subst hs
    exact z_s_iastore hx hb hK (z_beq g1) g3 hd k
  case bastore  =>
    obtain ⟨hd, rfl⟩ := z_dk_inv (show z_dk _ _ _ _ 1 = true from hc)
    obtain ⟨o, j, x, r, rfl, g⟩ := z_rii_inv (show z_rii _ _ = _ from he)
    obtain ⟨g1, g2⟩ := z_if_inv g
    obtain ⟨g3, g4⟩ := z_if_inv g2
    have hs := z_nx_inv g4
    subst hs
    have g1 : z_K o = 22 ∨ z_K o = 23 := by
      simp only [Bool.or_eq_true] at g1
      exact g1.imp z_beq z_beq
    exact z_s_bastore hx hb hK g1 g3 hd k
  case lastore  =>
    obtain ⟨hd, rfl⟩ := z_dk_inv (show z_dk _ _ _ _ 1 = true from hc)
    obtain ⟨o, j, x, r, rfl, g⟩ := z_ril_inv (show z_ril _ _ = _ from he)
    obtain ⟨g1, g2⟩ := z_if_inv g
    obtain ⟨g3, g4⟩ := z_if_inv g2
    have hs := z_nx_inv g4
    subst hs
    exact z_s_lastore hx hb hK (z_beq g1) g3 hd k
  case arraylength  =>
    obtain ⟨hd, rfl⟩ := z_dk_inv (show z_dk _ _ _ _ 1 = true from hc)
    obtain ⟨o, r, rfl, g⟩ := z_r1_inv (show z_r1 _ _ = _ from he)
    obtain ⟨g1, g2⟩ := z_if_inv g
    have hs := z_nx_inv g2
    subst hs
    simp only [Bool.and_eq_true] at g1
    exact z_s_alen hx hb hK (Nat.le_of_ble_eq_true g1.1) hd k
  case getfield q =>
    simp only [z_chk, Bool.and_eq_true] at hc
    obtain ⟨⟨h1, h2⟩, h3⟩ := hc
    obtain ⟨hd, rfl⟩ := z_dk_inv h1
    obtain ⟨f1, f2, f3, f4, f5⟩ := z_fk_inv h2
    have h3 := z_beq h3
    obtain ⟨o, r, rfl, g⟩ := z_r1_inv (show z_r1 _ _ = _ from he)
    obtain ⟨g1, g2⟩ := z_if_inv g
    have hs := z_nx_inv g2
    subst hs
    have g1 := z_beq g1
    exact z_s_getfield hx hb hown hts hK f1 f2 g1 f3 f4 f5 hd (z_fv_c g1 h3) k
  case putfield q =>
    simp only [z_chk, Bool.and_eq_true] at hc
    obtain ⟨⟨⟨h1, h2⟩, hfin⟩, h3⟩ := hc
    obtain ⟨hd, rfl⟩ := z_dk_inv h1
    obtain ⟨f1, f2, f3, f4, f5⟩ := z_fk_inv h2
    have hfin : ((z_q a).2.1 b).2.2.2 = false := by simpa using hfin
    split at h3
    · rename_i e1 e2 e3
      match st, he with
      | .int x :: .ref o :: r, he =>
        obtain ⟨g1, g2⟩ := z_if_inv (show z_if _ _ = _ from he)
        have hs := z_nx_inv g2
        subst hs
        exact z_s_putI hx hb hown hts hK f1 f2 (z_beq g1) f3 f4 hfin f5 hd (by rw [e3]; rfl) (by rw [e3]; rfl) (by rw [e2]; decide) k
    · rename_i e1 e2 e3
      match st, he with
      | .int x :: .ref o :: r, he =>
        obtain ⟨g1, g2⟩ := z_if_inv (show z_if _ _ = _ from he)
        have hs := z_nx_inv g2
        subst hs
        simp only [Bool.and_eq_true, Bool.or_eq_true, decide_eq_true_eq] at g1
        obtain ⟨g1, g3⟩ := g1
        exact z_s_putI hx hb hown hts hK f1 f2 (z_beq g1) f3 f4 hfin f5 hd (by rw [e3]; rcases g3 with rfl | rfl <;> rfl) (by rw [e3]; rcases g3 with rfl | rfl <;> rfl) (by rw [e2]; decide) k
    · rename_i e1 e2 e3
      obtain ⟨o, x, r, rfl, g⟩ := z_rr_inv (show z_rr _ _ = _ from he)
      obtain ⟨g1, g2⟩ := z_if_inv g
      have hs := z_nx_inv g2
      subst hs
      simp only [Bool.and_eq_true] at g1
      exact z_s_putD hx hb hown hts hK f1 f2 (z_beq g1.1) f3 f4 hfin f5 hd ⟨_, e3⟩ (Nat.le_of_ble_eq_true g1.2) e2 k
    · cases h3
  case goto q =>
    simp only [z_chk, Bool.and_eq_true, decide_eq_true_eq] at hc
    obtain ⟨h1, h2⟩ := hc
    obtain ⟨hd, -⟩ := z_dk_inv h1
    have hs := z_nx_inv (show z_nx _ _ _ _ = _ from he)
    subst hs
    exact z_s_goto hx hb hd h2 k
  case ifCond cnd q =>
    simp only [z_chk, Bool.and_eq_true, decide_eq_true_eq] at hc
    obtain ⟨h1, h2⟩ := hc
    obtain ⟨hd, rfl⟩ := z_dk_inv h1
    cases cnd
    · obtain ⟨x, r, rfl, g⟩ := z_i1_inv (show z_i1 _ _ = _ from he)
      have hs := Sum.inl.inj (Option.some.inj g)
      obtain ⟨kt, kf⟩ := z_Go_ite (p := p) (l := l) (e := e) (R := R) (s := s) (m := m) (args := args) (below := below) (meth := meth) (c := c) (Q := Q) (G := G) (nL := (z_mt id).2.2.1) (fun s2 e2 => by rw [← e2, hs]; exact k)
      exact fun ls H locs u w z => lv_if_eq hx hb hd h2 (fun hp => kt hp ls H locs u w z) (fun hp => kf hp ls H locs u w z)
    · obtain ⟨x, r, rfl, g⟩ := z_i1_inv (show z_i1 _ _ = _ from he)
      have hs := Sum.inl.inj (Option.some.inj g)
      obtain ⟨kt, kf⟩ := z_Go_ite (p := p) (l := l) (e := e) (R := R) (s := s) (m := m) (args := args) (below := below) (meth := meth) (c := c) (Q := Q) (G := G) (nL := (z_mt id).2.2.1) (fun s2 e2 => by rw [← e2, hs]; exact k)
      exact fun ls H locs u w z => lv_if_ne hx hb hd h2 (fun hp => kt hp ls H locs u w z) (fun hp => kf (fun q => q hp) ls H locs u w z)
    · obtain ⟨x, r, rfl, g⟩ := z_i1_inv (show z_i1 _ _ = _ from he)
      have hs := Sum.inl.inj (Option.some.inj g)
      obtain ⟨kt, kf⟩ := z_Go_ite (p := p) (l := l) (e := e) (R := R) (s := s) (m := m) (args := args) (below := below) (meth := meth) (c := c) (Q := Q) (G := G) (nL := (z_mt id).2.2.1) (fun s2 e2 => by rw [← e2, hs]; exact k)
      exact fun ls H locs u w z => lv_if_lt hx hb hd h2 (fun hp => kt hp ls H locs u w z) (fun hp => kf hp ls H locs u w z)
    · obtain ⟨x, r, rfl, g⟩ := z_i1_inv (show z_i1 _ _ = _ from he)
      have hs := Sum.inl.inj (Option.some.inj g)
      obtain ⟨kt, kf⟩ := z_Go_ite (p := p) (l := l) (e := e) (R := R) (s := s) (m := m) (args := args) (below := below) (meth := meth) (c := c) (Q := Q) (G := G) (nL := (z_mt id).2.2.1) (fun s2 e2 => by rw [← e2, hs]; exact k)
      exact fun ls H locs u w z => lv_if_ge hx hb hd h2 (fun hp => kt hp ls H locs u w z) (fun hp => kf hp ls H locs u w z)
    · obtain ⟨x, r, rfl, g⟩ := z_i1_inv (show z_i1 _ _ = _ from he)
      have hs := Sum.inl.inj (Option.some.inj g)
      obtain ⟨kt, kf⟩ := z_Go_ite (p := p) (l := l) (e := e) (R := R) (s := s) (m := m) (args := args) (below := below) (meth := meth) (c := c) (Q := Q) (G := G) (nL := (z_mt id).2.2.1) (fun s2 e2 => by rw [← e2, hs]; exact k)
      exact fun ls H locs u w z => lv_if_gt hx hb hd h2 (fun hp => kt hp ls H locs u w z) (fun hp => kf hp ls H locs u w z)
    · obtain ⟨x, r, rfl, g⟩ := z_i1_inv (show z_i1 _ _ = _ from he)
      have hs := Sum.inl.inj (Option.some.inj g)
      obtain ⟨kt, kf⟩ := z_Go_ite (p := p) (l := l) (e := e) (R := R) (s := s) (m := m) (args := args) (below := below) (meth := meth) (c := c) (Q := Q) (G := G) (nL := (z_mt id).2.2.1) (fun s2 e2 => by rw [← e2, hs]; exact k)
      exact fun ls H locs u w z => lv_if_le hx hb hd h2 (fun hp => kt hp ls H locs u w z) (fun hp => kf hp ls H locs u w z)
  case if_icmp cnd q =>
    simp only [z_chk, Bool.and_eq_true, decide_eq_true_eq] at hc
    obtain ⟨h1, h2⟩ := hc
    obtain ⟨hd, rfl⟩ := z_dk_inv h1
    cases cnd
    · obtain ⟨x, y, r, rfl, g⟩ := z_i2_inv (show z_i2 _ _ = _ from he)
      have hs := Sum.inl.inj (Option.some.inj g)
      obtain ⟨kt, kf⟩ := z_Go_ite (p := p) (l := l) (e := e) (R := R) (s := s) (m := m) (args := args) (below := below) (meth := meth) (c := c) (Q := Q) (G := G) (nL := (z_mt id).2.2.1) (fun s2 e2 => by rw [← e2, hs]; exact k)
      exact fun ls H locs u w z => lv_icmp_eq hx hb hd h2 (fun hp => kt hp ls H locs u w z) (fun hp => kf hp ls H locs u w z)
    · obtain ⟨x, y, r, rfl, g⟩ := z_i2_inv (show z_i2 _ _ = _ from he)
      have hs := Sum.inl.inj (Option.some.inj g)
      obtain ⟨kt, kf⟩ := z_Go_ite (p := p) (l := l) (e := e) (R := R) (s := s) (m := m) (args := args) (below := below) (meth := meth) (c := c) (Q := Q) (G := G) (nL := (z_mt id).2.2.1) (fun s2 e2 => by rw [← e2, hs]; exact k)
      exact fun ls H locs u w z => lv_icmp_ne hx hb hd h2 (fun hp => kt hp ls H locs u w z) (fun hp => kf (fun q => q hp) ls H locs u w z)
    · obtain ⟨x, y, r, rfl, g⟩ := z_i2_inv (show z_i2 _ _ = _ from he)
      have hs := Sum.inl.inj (Option.some.inj g)
      obtain ⟨kt, kf⟩ := z_Go_ite (p := p) (l := l) (e := e) (R := R) (s := s) (m := m) (args := args) (below := below) (meth := meth) (c := c) (Q := Q) (G := G) (nL := (z_mt id).2.2.1) (fun s2 e2 => by rw [← e2, hs]; exact k)
      exact fun ls H locs u w z => lv_icmp_lt hx hb hd h2 (fun hp => kt hp ls H locs u w z) (fun hp => kf hp ls H locs u w z)
    · obtain ⟨x, y, r, rfl, g⟩ := z_i2_inv (show z_i2 _ _ = _ from he)
      have hs := Sum.inl.inj (Option.some.inj g)
      obtain ⟨kt, kf⟩ := z_Go_ite (p := p) (l := l) (e := e) (R := R) (s := s) (m := m) (args := args) (below := below) (meth := meth) (c := c) (Q := Q) (G := G) (nL := (z_mt id).2.2.1) (fun s2 e2 => by rw [← e2, hs]; exact k)
      exact fun ls H locs u w z => lv_icmp_ge hx hb hd h2 (fun hp => kt hp ls H locs u w z) (fun hp => kf hp ls H locs u w z)
    · obtain ⟨x, y, r, rfl, g⟩ := z_i2_inv (show z_i2 _ _ = _ from he)
      have hs := Sum.inl.inj (Option.some.inj g)
      obtain ⟨kt, kf⟩ := z_Go_ite (p := p) (l := l) (e := e) (R := R) (s := s) (m := m) (args := args) (below := below) (meth := meth) (c := c) (Q := Q) (G := G) (nL := (z_mt id).2.2.1) (fun s2 e2 => by rw [← e2, hs]; exact k)
      exact fun ls H locs u w z => lv_icmp_gt hx hb hd h2 (fun hp => kt hp ls H locs u w z) (fun hp => kf hp ls H locs u w z)
    · obtain ⟨x, y, r, rfl, g⟩ := z_i2_inv (show z_i2 _ _ = _ from he)
      have hs := Sum.inl.inj (Option.some.inj g)
      obtain ⟨kt, kf⟩ := z_Go_ite (p := p) (l := l) (e := e) (R := R) (s := s) (m := m) (args := args) (below := below) (meth := meth) (c := c) (Q := Q) (G := G) (nL := (z_mt id).2.2.1) (fun s2 e2 => by rw [← e2, hs]; exact k)
      exact fun ls H locs u w z => lv_icmp_le hx hb hd h2 (fun hp => kt hp ls H locs u w z) (fun hp => kf hp ls H locs u w z)
  case tableswitch d low hi offs =>
    simp only [z_chk, Bool.and_eq_true, decide_eq_true_eq] at hc
    obtain ⟨⟨⟨⟨⟨⟨h1, h2⟩, h3⟩, h4⟩, h5⟩, h6⟩, h7⟩ := hc
    obtain ⟨hd, -⟩ := z_dk_inv h1
    obtain ⟨x, r, rfl, g⟩ := z_i1_inv (show z_i1 _ _ = _ from he)
    have hs := Sum.inl.inj (Option.some.inj g)
    rw [z_sw_eq] at hs
    subst hs
    subst h7
    exact z_s_table hx hb hd h2 h3 h4 h5 h6 k
  case lookupswitch d ps =>
    simp only [z_chk, Bool.and_eq_true, decide_eq_true_eq] at hc
    obtain ⟨⟨⟨⟨h1, h2⟩, h3⟩, h4⟩, h5⟩ := hc
    obtain ⟨hd, -⟩ := z_dk_inv h1
    obtain ⟨x, r, rfl, g⟩ := z_i1_inv (show z_i1 _ _ = _ from he)
    have hs := Sum.inl.inj (Option.some.inj g)
    rw [z_sw_eq] at hs
    subst hs
    subst h5
    exact z_s_lookup hx hb hd h2 h3 h4 k
  case ireturn  =>
    obtain ⟨x, r, rfl, g⟩ := z_i1_inv (show z_i1 _ _ = _ from he)
    cases g
  case areturn  =>
    obtain ⟨x, r, rfl, g⟩ := z_r1_inv (show z_r1 _ _ = _ from he)
    obtain ⟨g1, g2⟩ := z_if_inv g
    cases g2
  case return_  =>
    cases (show some (Sum.inr (Sum.inl ((0 : Int32), h))) = some (Sum.inl s') from he)
  case invokevirtual q =>
    obtain ⟨g1, g2⟩ := z_if_inv (show z_if _ _ = _ from he)
    cases g2
  case invokestatic q =>
    simp only [z_chk, Bool.and_eq_true] at hc
    obtain ⟨h1, h2⟩ := hc
    obtain ⟨hd, rfl⟩ := z_dk_inv h1
    have hw2 : (Cond.native arraycopyName).before args s = true := hts _ z_w_nat
    have hw3 : (Cond.static arraycopyName).before args s = true := hts _ z_w_sta
    have hw4 : (Cond.initialized "java/lang/System").before args s = true := hts _ z_w_ini
    by_cases ha900 : a = 900
    · subst ha900
      obtain ⟨so, sp, d, dp, n, r, rfl, g⟩ := z_cp_inv (show z_cp _ _ = _ from he)
      obtain ⟨g1, g2⟩ := z_if_inv g
      have hs := z_nx_inv g2
      subst hs
      simp only [Bool.and_eq_true, Bool.not_eq_true', decide_eq_false_iff_not] at g1
      obtain ⟨⟨⟨⟨⟨⟨⟨⟨a1, a2⟩, a3⟩, a4⟩, a5⟩, a6⟩, a7⟩, a8⟩, a9⟩ := g1
      exact z_s_cpI hx hb hml hown (hts _ (z_wd_good (show z_wd pl (.methodLink (z_mt id).1.cls q arraycopyName) = true from h2) rfl)) hw2 hw3 hw4 hr1 hr2 hK (z_beq a1) (z_beq a2) a4 a5 a6 (Nat.le_of_ble_eq_true a7) (Nat.le_of_ble_eq_true a8) (Nat.le_of_ble_eq_true a9) hd k
    by_cases ha901 : a = 901
    · subst ha901
      obtain ⟨so, sp, d, dp, n, r, rfl, g⟩ := z_cp_inv (show z_cp _ _ = _ from he)
      obtain ⟨g1, g2⟩ := z_if_inv g
      have hs := z_nx_inv g2
      subst hs
      simp only [Bool.and_eq_true, Bool.not_eq_true', decide_eq_false_iff_not] at g1
      obtain ⟨⟨⟨⟨⟨⟨⟨⟨a1, a2⟩, a3⟩, a4⟩, a5⟩, a6⟩, a7⟩, a8⟩, a9⟩ := g1
      exact z_s_cpL hx hb hml hown (hts _ (z_wd_good (show z_wd pl (.methodLink (z_mt id).1.cls q arraycopyName) = true from h2) rfl)) hw2 hw3 hw4 hr1 hr2 hK (z_beq a1) (z_beq a2) a4 a5 a6 (Nat.le_of_ble_eq_true a7) (Nat.le_of_ble_eq_true a8) (Nat.le_of_ble_eq_true a9) hd k
    by_cases ha904 : a = 904
    · subst ha904
      obtain ⟨x, y, r, rfl, g⟩ := z_i2_inv (show z_i2 _ _ = _ from he)
      obtain ⟨g1, g2⟩ := z_if_inv g
      have hs := z_nx_inv g2
      subst hs
      exact z_s_mmax hx hb hml hown (hts _ (z_wd_good (show z_wd pl (.methodLink (z_mt id).1.cls q Lib.Math.max.name) = true from h2) rfl)) (hts _ z_w_smax) (hts _ z_w_im) (hts _ z_w_cmax) hr1 hr2 (Nat.le_of_ble_eq_true g1) hd k
    by_cases ha905 : a = 905
    · subst ha905
      obtain ⟨x, y, r, rfl, g⟩ := z_i2_inv (show z_i2 _ _ = _ from he)
      obtain ⟨g1, g2⟩ := z_if_inv g
      have hs := z_nx_inv g2
      subst hs
      exact z_s_mmin hx hb hml hown (hts _ (z_wd_good (show z_wd pl (.methodLink (z_mt id).1.cls q Lib.Math.min.name) = true from h2) rfl)) (hts _ z_w_smin) (hts _ z_w_im) (hts _ z_w_cmin) hr1 hr2 (Nat.le_of_ble_eq_true g1) hd k
    rw [z_exec_stat ha900 ha901 ha904 ha905] at he
    obtain ⟨g1, g2⟩ := z_if_inv he
    cases g2
