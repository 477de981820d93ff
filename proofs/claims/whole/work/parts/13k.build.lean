/-! THE BUILDING MACHINE: the constructors, on a list of the objects made so far -/
abbrev y_C : Type := (Nat × List Value) ⊕ ((Nat × Nat × List (Nat × Int32)) ⊕ (Nat ⊕ (Nat × Nat × List (Nat × Nat))))
def y_fi : List (Nat × Int32) → Nat → Int32
  | [], _ => 0
  | (i, x) :: r, j => bif Nat.beq i j then x else y_fi r j
def y_fr : List (Nat × Nat) → Nat → Nat
  | [], _ => 999
  | (i, x) :: r, j => bif Nat.beq i j then x else y_fr r j
def y_at (G : z_G) (H : Heap) (a : Nat) : y_C → Prop
  | .inl (k, fs) => 1 ≤ k ∧ k ≤ 12 ∧ fs.length = (z_q k).2.2 ∧ t_OB a (G.2.2.1 (k - 1)) (z_q k).2.2 (G.2.2.2.1 (k - 1)) H (fun j => z_up G (fs.getD j .null))
  | .inr (.inl (k, N, f)) => (k = 20 ∨ k = 22 ∨ k = 23) ∧ H[a]? = some (arrV (G.2.2.2.2 k) N (fun j => .int (y_fi f j)))
  | .inr (.inr (.inl N)) => H[a]? = some (arrV (G.2.2.2.2 21) N (fun _ => .long 0))
  | .inr (.inr (.inr (k, N, f))) => 24 ≤ k ∧ k ≤ 26 ∧ H[a]? = some (arrV (G.2.2.2.2 k) N (fun j => z_rv G (y_fr f j)))
theorem y_at.kept {G : z_G} {H H1 : Heap} {a : Nat} {c : y_C} (h : y_at G H a c) (h1 : H1[a]? = H[a]?) : y_at G H1 a c := by
  rcases c with ⟨k, fs⟩ | ⟨k, N, f⟩ | N | ⟨k, N, f⟩
  · exact ⟨h.1, h.2.1, h.2.2.1, h.2.2.2.kept h1⟩
  · exact ⟨h.1, h1.trans h.2⟩
  · exact h1.trans h
  · exact ⟨h.1, h.2.1, h1.trans h.2.2⟩
def y_Rep (G : z_G) (cs : List y_C) (H : Heap) : Prop := H.size = G.1 + cs.length ∧ ∀ o c, cs[o]? = some c → y_at G H (G.1 + o) c
theorem y_Rep.push {G : z_G} {cs : List y_C} {H H1 : Heap} {c : y_C} (h : y_Rep G cs H) (z : H1.size = H.size + 1) (hq : ∀ q, q < H.size → H1[q]? = H[q]?) (hc : y_at G H1 H.size c) : y_Rep G (cs ++ [c]) H1 := by
  refine ⟨by rw [z, h.1, List.length_append]; rfl, fun o c' ho => ?_⟩
  by_cases hl : o < cs.length
  · rw [List.getElem?_append_left hl] at ho
    exact (h.2 o c' ho).kept (hq _ (by rw [h.1]; omega))
  · rw [List.getElem?_append_right (by omega)] at ho
    have hz : o - cs.length < 1 := (List.getElem?_eq_some_iff.mp ho).1
    rw [show o - cs.length = 0 by omega] at ho
    cases ho
    rw [show G.1 + o = H.size by rw [h.1]; omega]
    exact hc
theorem y_Rep.set {G : z_G} {cs : List y_C} {H H1 : Heap} {o : Nat} {c : y_C} (h : y_Rep G cs H) (z : H1.size = H.size) (hq : ∀ q, q ≠ G.1 + o → H1[q]? = H[q]?) (hc : y_at G H1 (G.1 + o) c) : y_Rep G (cs.set o c) H1 := by
  refine ⟨by rw [z, h.1, List.length_set], fun o' c' ho => ?_⟩
  by_cases he : o = o'
  · subst he
    rw [List.getElem?_set_self' ] at ho
    cases hx : cs[o]? with
    | none => rw [hx] at ho; cases ho
    | some c0 => rw [hx] at ho; cases ho; exact hc
  · rw [List.getElem?_set_ne he] at ho
    exact (h.2 o' c' ho).kept (hq _ (by omega))
def y_Fr (G : z_G) (s : State) (H : Heap) (locs : List Loc) : Prop := s.heap.size ≤ H.size ∧ (∀ q, q < G.1 → H[q]? = s.heap[q]?) ∧ ∀ q ∈ locs, G.1 ≤ q.base
def y_Kn (G : z_G) (U : State) : Prop := z_Kn G U ∧ ∀ k, 24 ≤ k → k ≤ 26 → ∃ C, z_rowTy k = .object C ∧ va_AO C U
abbrev y_S : Type := Nat × z_L × List Value × List y_C × Nat × Nat
/-- instruction, next pc, a constant, two numbers -/
abbrev y_I : Type := Instr × Nat × Int32 × Nat × Nat
abbrev y_O : Type := y_S ⊕ ((List y_C × Nat × Nat) ⊕ (Nat × List Value × y_S))
def y_nx (pc : Nat) (l : z_L) (st : List Value) (cs : List y_C) (ce sl : Nat) : Option y_O := some (.inl (pc, l, st, cs, ce, sl))
def y_if (c : Bool) (a : Option y_O) : Option y_O := match c with
  | true => a
  | false => none
def y_kd (a N : Nat) : y_C := match a with
  | 21 => .inr (.inr (.inl N))
  | _ => .inr (.inl (a, N, []))
def y_def (k : Nat) : List Value := (List.range (z_q k).2.2).map (fun j => defaultValue (z_qT k j))
def y_isR : FieldType → Bool
  | .object _ => true
  | .array _ => true
  | _ => false
def y_cK (k : Nat) : Nat := match k with
  | 24 => 7
  | 25 => 10
  | _ => 11
def y_i1 (st : List Value) (f : Int32 → List Value → Option y_O) : Option y_O := match st with
  | .int x :: r => f x r
  | _ => none
def y_i2 (st : List Value) (f : Int32 → Int32 → List Value → Option y_O) : Option y_O := match st with
  | .int y :: .int x :: r => f x y r
  | _ => none
def y_r1 (st : List Value) (f : Nat → List Value → Option y_O) : Option y_O := match st with
  | .ref o :: r => f o r
  | _ => none
def y_rr (st : List Value) (f : Nat → Nat → List Value → Option y_O) : Option y_O := match st with
  | .ref x :: .ref o :: r => f o x r
  | _ => none
def y_rir (st : List Value) (f : Nat → Int32 → Nat → List Value → Option y_O) : Option y_O := match st with
  | .ref x :: .int j :: .ref o :: r => f o j x r
  | _ => none
def y_rii (st : List Value) (f : Nat → Int32 → Int32 → List Value → Option y_O) : Option y_O := match st with
  | .int x :: .int j :: .ref o :: r => f o j x r
  | _ => none
def y_vi (v : Option Value) (f : Int32 → Option y_O) : Option y_O := match v with
  | some (.int x) => f x
  | _ => none
def y_vr (v : Option Value) (f : Nat → Option y_O) : Option y_O := match v with
  | some (.ref x) => f x
  | _ => none
def y_co (c : Option y_C) (f : Nat → List Value → Option y_O) : Option y_O := match c with
  | some (.inl (k, fs)) => f k fs
  | _ => none
def y_cr (c : Option y_C) (f : Nat → Nat → List (Nat × Nat) → Option y_O) : Option y_O := match c with
  | some (.inr (.inr (.inr (k, N, g)))) => f k N g
  | _ => none
def y_ci (c : Option y_C) (f : Nat → Nat → List (Nat × Int32) → Option y_O) : Option y_O := match c with
  | some (.inr (.inl (k, N, g))) => f k N g
  | _ => none
def y_exec (MC MS : Nat) (ins : Instr) (n : Nat) (v : Int32) (a b : Nat) (l : z_L) (st : List Value) (cs : List y_C) (ce sl : Nat) : Option y_O := match ins with
  | .iconst _ => y_nx n l (.int v :: st) cs ce sl
  | .bipush _ => y_nx n l (.int v :: st) cs ce sl
  | .sipush _ => y_nx n l (.int v :: st) cs ce sl
  | .iload _ => y_vi (z_get l a) fun x => y_nx n l (.int x :: st) cs ce sl
  | .iload_n _ => y_vi (z_get l a) fun x => y_nx n l (.int x :: st) cs ce sl
  | .aload _ => y_vr (z_get l a) fun o => y_if (Nat.blt o 141) (y_nx n l (.ref o :: st) cs ce sl)
  | .aload_n _ => y_vr (z_get l a) fun o => y_if (Nat.blt o 141) (y_nx n l (.ref o :: st) cs ce sl)
  | .istore _ => y_i1 st fun x r => y_nx n (z_put1 l a (.int x)) r cs ce sl
  | .istore_n _ => y_i1 st fun x r => y_nx n (z_put1 l a (.int x)) r cs ce sl
  | .iinc _ _ => y_vi (z_get l a) fun x => y_nx n (z_put1 l a (.int (x + v))) st cs ce sl
  | .if_icmp .ge _ => y_i2 st fun x y r => y_nx (if y ≤ x then a else n) l r cs ce sl
  | .goto _ => y_nx a l st cs ce sl
  | .dup => y_r1 st fun o r => y_if (Nat.blt o 141) (y_nx n l (.ref o :: .ref o :: r) cs ce sl)
  | .getfield _ => y_r1 st fun o r => y_co cs[o]? fun k fs => y_vr fs[b]? fun x => y_if (Nat.beq k a && Nat.blt o 141 && Nat.blt x 141) (y_nx n l (.ref x :: r) cs ce sl)
  | .putfield _ => y_rr st fun o x r => y_co cs[o]? fun k fs => y_if (Nat.beq k a && Nat.blt o 141 && Nat.blt x 141) (y_nx n l r (cs.set o (.inl (k, fs.set b (.ref x)))) ce sl)
  | .newarray _ => y_i1 st fun x r => y_if (!(decide (x < 0)) && Nat.ble x.toNatClampNeg 2000 && Nat.blt cs.length 141 && Nat.ble (ce + 1) MC && Nat.ble (sl + x.toNatClampNeg) MS) (y_nx n l (.ref cs.length :: r) (cs ++ [y_kd a x.toNatClampNeg]) (ce + 1) (sl + x.toNatClampNeg))
  | .anewarray _ => y_i1 st fun x r => y_if (!(decide (x < 0)) && Nat.ble x.toNatClampNeg 2000 && Nat.blt cs.length 141 && Nat.ble (ce + 1) MC && Nat.ble (sl + x.toNatClampNeg) MS) (y_nx n l (.ref cs.length :: r) (cs ++ [.inr (.inr (.inr (a, x.toNatClampNeg, [])))]) (ce + 1) (sl + x.toNatClampNeg))
  | .aastore => y_rir st fun o j x r => y_cr cs[o]? fun k N g => y_co cs[x]? fun kc _ => y_if (Nat.beq kc (y_cK k) && z_in j N && Nat.blt o 141 && Nat.blt x 141) (y_nx n l r (cs.set o (.inr (.inr (.inr (k, N, (j.toNatClampNeg, x) :: g))))) ce sl)
  | .iastore => y_rii st fun o j x r => y_ci cs[o]? fun k N g => y_if (Nat.beq k 20 && z_in j N && Nat.blt o 141) (y_nx n l r (cs.set o (.inr (.inl (k, N, (j.toNatClampNeg, x) :: g)))) ce sl)
  | .new _ => y_if (Nat.blt cs.length 141 && Nat.ble (ce + 1) MC && Nat.ble (sl + (z_q a).2.2) MS) (y_nx n l (.ref cs.length :: st) (cs ++ [.inl (a, y_def a)]) (ce + 1) (sl + (z_q a).2.2))
  | .invokespecial _ => match a with
    | 99 => y_r1 st fun o r => y_if (Nat.blt o 141 && Nat.ble (z_cat r) 8) (y_nx n l r cs ce sl)
    | _ => y_if (Nat.ble b st.length && Nat.ble (z_cat (st.drop b)) 8) (some (.inr (.inr (a, (st.take b).reverse, (n, l, st.drop b, cs, ce, sl)))))
  | .return_ => some (.inr (.inl (cs, ce, sl)))
  | _ => none
def y_isRet : Instr → Bool
  | .return_ => true
  | _ => false
def y_isSp : Instr → Bool
  | .invokespecial _ => true
  | _ => false
def y_rcv : List Value → Bool
  | .ref o :: _ => Nat.blt o 141
  | _ => false
def y_run (call : Nat → List Value → List y_C → Option (List y_C)) (cost : Nat → Nat × Nat × Nat) (C : Nat → Option y_I) (me : Nat) : Nat → y_S → Option (List y_C)
  | 0, _ => none
  | n + 1, s => match C s.1 with
    | none => none
    | some i => match y_exec (cost me).1 (cost me).2.1 i.1 i.2.1 i.2.2.1 i.2.2.2.1 i.2.2.2.2 s.2.1 s.2.2.1 s.2.2.2.1 s.2.2.2.2.1 s.2.2.2.2.2 with
      | none => none
      | some (.inl s') => y_run call cost C me n s'
      | some (.inr (.inl r)) => bif y_isRet i.1 && Nat.ble r.2.1 (cost me).1 && Nat.ble r.2.2 (cost me).2.1 then some r.1 else none
      | some (.inr (.inr (id, args, s'))) => bif y_isSp i.1 && y_rcv args && Nat.blt (cost id).2.2 (cost me).2.2 && Nat.ble (s'.2.2.2.2.1 + (cost id).1) (cost me).1 && Nat.ble (s'.2.2.2.2.2 + (cost id).2.1) (cost me).2.1 then (match call id args s'.2.2.2.1 with
        | none => none
        | some cs' => y_run call cost C me n (s'.1, s'.2.1, s'.2.2.1, cs', s'.2.2.2.2.1 + (cost id).1, s'.2.2.2.2.2 + (cost id).2.1)) else none
def y_cost (id : Nat) : Nat × Nat × Nat := match id with
  | 0 => (1, 320, 2)
  | 1 => (13, 306, 3)
  | 2 => (7, 266, 2)
  | 3 => (3, 24, 2)
  | 4 => (2, 5, 3)
  | 5 => (1, 4, 2)
  | 6 => (4, 133, 3)
  | 7 => (24, 82, 3)
  | 8 => (20, 578, 3)
  | 9 => (1, 40, 2)
  | 10 => (121, 2810, 4)
  | _ => (18, 3981, 2)
def yd_0 : List (Nat × y_I) := [(0, .aload_n 0, 1, 0, 0, 0), (1, .invokespecial 3, 4, 0, 99, 0), (4, .aload_n 0, 5, 0, 0, 0), (5, .sipush 320, 8, 320, 0, 0), (8, .newarray .byte, 10, 0, 22, 0), (10, .putfield 9, 13, 0, 2, 5), (13, .return_, 14, 0, 0, 0)]
def yp_0 : List (Nat × Nat) := [(0, 0), (1, 126), (4, 0), (5, 0), (8, 0), (10, 136), (13, 0)]
def yd_1 : List (Nat × y_I) := [(0, .aload_n 0, 1, 0, 0, 0), (1, .invokespecial 3, 4, 0, 99, 0), (4, .aload_n 0, 5, 0, 0, 0), (5, .new 9, 8, 0, 4, 0), (8, .dup, 9, 0, 0, 0), (9, .invokespecial 11, 12, 0, 2, 1), (12, .putfield 12, 15, 0, 3, 3), (15, .aload_n 0, 16, 0, 0, 0), (16, .new 18, 19, 0, 5, 0), (19, .dup, 20, 0, 0, 0), (20, .invokespecial 20, 23, 0, 3, 1), (23, .putfield 21, 26, 0, 3, 4), (26, .aload_n 0, 27, 0, 0, 0), (27, .iconst 3, 28, 3, 0, 0), (28, .newarray .int, 30, 0, 20, 0), (30, .putfield 25, 33, 0, 3, 6), (33, .aload_n 0, 34, 0, 0, 0), (34, .aload_n 1, 35, 0, 1, 0), (35, .putfield 29, 38, 0, 3, 5), (38, .return_, 39, 0, 0, 0)]
def yp_1 : List (Nat × Nat) := [(0, 0), (1, 156), (4, 0), (5, 157), (8, 0), (9, 159), (12, 248), (15, 0), (16, 214), (19, 0), (20, 216), (23, 250), (26, 0), (27, 0), (28, 0), (30, 253), (33, 0), (34, 0), (35, 252), (38, 0)]
def yd_2 : List (Nat × y_I) := [(0, .aload_n 0, 1, 0, 0, 0), (1, .invokespecial 3, 4, 0, 99, 0), (4, .aload_n 0, 5, 0, 0, 0), (5, .bipush 6, 7, 6, 0, 0), (7, .newarray .int, 9, 0, 20, 0), (9, .putfield 9, 12, 0, 4, 2), (12, .aload_n 0, 13, 0, 0, 0), (13, .bipush 48, 15, 48, 0, 0), (15, .newarray .int, 17, 0, 20, 0), (17, .putfield 15, 20, 0, 4, 3), (20, .aload_n 0, 21, 0, 0, 0), (21, .bipush 48, 23, 48, 0, 0), (23, .newarray .int, 25, 0, 20, 0), (25, .putfield 18, 28, 0, 4, 4), (28, .aload_n 0, 29, 0, 0, 0), (29, .bipush 48, 31, 48, 0, 0), (31, .newarray .int, 33, 0, 20, 0), (33, .putfield 21, 36, 0, 4, 5), (36, .aload_n 0, 37, 0, 0, 0), (37, .bipush 96, 39, 96, 0, 0), (39, .newarray .int, 41, 0, 20, 0), (41, .putfield 24, 44, 0, 4, 6), (44, .aload_n 0, 45, 0, 0, 0), (45, .iconst 4, 46, 4, 0, 0), (46, .newarray .int, 48, 0, 20, 0), (48, .putfield 27, 51, 0, 4, 7), (51, .aload_n 0, 52, 0, 0, 0), (52, .bipush 16, 54, 16, 0, 0), (54, .newarray .int, 56, 0, 20, 0), (56, .putfield 30, 59, 0, 4, 8), (59, .return_, 60, 0, 0, 0)]
def yp_2 : List (Nat × Nat) := [(0, 0), (1, 162), (4, 0), (5, 0), (7, 0), (9, 172), (12, 0), (13, 0), (15, 0), (17, 176), (20, 0), (21, 0), (23, 0), (25, 180), (28, 0), (29, 0), (31, 0), (33, 184), (36, 0), (37, 0), (39, 0), (41, 188), (44, 0), (45, 0), (46, 0), (48, 190), (51, 0), (52, 0), (54, 0), (56, 191), (59, 0)]
def yd_3 : List (Nat × y_I) := [(0, .aload_n 0, 1, 0, 0, 0), (1, .invokespecial 3, 4, 0, 99, 0), (4, .aload_n 0, 5, 0, 0, 0), (5, .bipush 8, 7, 8, 0, 0), (7, .newarray .int, 9, 0, 20, 0), (9, .putfield 9, 12, 0, 5, 1), (12, .aload_n 0, 13, 0, 0, 0), (13, .bipush 8, 15, 8, 0, 0), (15, .newarray .int, 17, 0, 20, 0), (17, .putfield 15, 20, 0, 5, 2), (20, .aload_n 0, 21, 0, 0, 0), (21, .bipush 8, 23, 8, 0, 0), (23, .newarray .int, 25, 0, 20, 0), (25, .putfield 18, 28, 0, 5, 3), (28, .return_, 29, 0, 0, 0)]
def yp_3 : List (Nat × Nat) := [(0, 0), (1, 219), (4, 0), (5, 0), (7, 0), (9, 224), (12, 0), (13, 0), (15, 0), (17, 227), (20, 0), (21, 0), (23, 0), (25, 230), (28, 0)]
def yd_4 : List (Nat × y_I) := [(0, .aload_n 0, 1, 0, 0, 0), (1, .invokespecial 3, 4, 0, 99, 0), (4, .aload_n 0, 5, 0, 0, 0), (5, .new 9, 8, 0, 7, 0), (8, .dup, 9, 0, 0, 0), (9, .invokespecial 11, 12, 0, 5, 1), (12, .putfield 12, 15, 0, 6, 2), (15, .return_, 16, 0, 0, 0)]
def yp_4 : List (Nat × Nat) := [(0, 0), (1, 284), (4, 0), (5, 285), (8, 0), (9, 287), (12, 300), (15, 0)]
def yd_5 : List (Nat × y_I) := [(0, .aload_n 0, 1, 0, 0, 0), (1, .invokespecial 3, 4, 0, 99, 0), (4, .aload_n 0, 5, 0, 0, 0), (5, .iconst 4, 6, 4, 0, 0), (6, .newarray .long, 8, 0, 21, 0), (8, .putfield 11, 11, 0, 7, 0), (11, .return_, 12, 0, 0, 0)]
def yp_5 : List (Nat × Nat) := [(0, 0), (1, 290), (4, 0), (5, 0), (6, 0), (8, 291), (11, 0)]
def yd_6 : List (Nat × y_I) := [(0, .aload_n 0, 1, 0, 0, 0), (1, .invokespecial 3, 4, 0, 99, 0), (4, .aload_n 0, 5, 0, 0, 0), (5, .new 9, 8, 0, 7, 0), (8, .dup, 9, 0, 0, 0), (9, .invokespecial 11, 12, 0, 5, 1), (12, .putfield 12, 15, 0, 8, 0), (15, .aload_n 0, 16, 0, 0, 0), (16, .bipush 64, 18, 64, 0, 0), (18, .newarray .int, 20, 0, 20, 0), (20, .putfield 18, 23, 0, 8, 3), (23, .aload_n 0, 24, 0, 0, 0), (24, .bipush 64, 26, 64, 0, 0), (26, .newarray .int, 28, 0, 20, 0), (28, .putfield 22, 31, 0, 8, 4), (31, .aload_n 0, 32, 0, 0, 0), (32, .aload_n 1, 33, 0, 1, 0), (33, .putfield 25, 36, 0, 8, 1), (36, .aload_n 0, 37, 0, 0, 0), (37, .aload_n 2, 38, 0, 2, 0), (38, .putfield 29, 41, 0, 8, 2), (41, .return_, 42, 0, 0, 0)]
def yp_6 : List (Nat × Nat) := [(0, 0), (1, 330), (4, 0), (5, 331), (8, 0), (9, 332), (12, 333), (15, 0), (16, 0), (18, 0), (20, 338), (23, 0), (24, 0), (26, 0), (28, 339), (31, 0), (32, 0), (33, 336), (36, 0), (37, 0), (38, 337), (41, 0)]
def yd_7 : List (Nat × y_I) := [(0, .aload_n 0, 1, 0, 0, 0), (1, .invokespecial 3, 4, 0, 99, 0), (4, .aload_n 0, 5, 0, 0, 0), (5, .bipush 8, 7, 8, 0, 0), (7, .newarray .int, 9, 0, 20, 0), (9, .putfield 9, 12, 0, 9, 1), (12, .aload_n 0, 13, 0, 0, 0), (13, .bipush 8, 15, 8, 0, 0), (15, .newarray .int, 17, 0, 20, 0), (17, .putfield 15, 20, 0, 9, 2), (20, .aload_n 0, 21, 0, 0, 0), (21, .bipush 8, 23, 8, 0, 0), (23, .newarray .int, 25, 0, 20, 0), (25, .putfield 18, 28, 0, 9, 3), (28, .aload_n 0, 29, 0, 0, 0), (29, .bipush 8, 31, 8, 0, 0), (31, .anewarray 21, 34, 0, 24, 0), (34, .putfield 23, 37, 0, 9, 4), (37, .aload_n 0, 38, 0, 0, 0), (38, .new 21, 41, 0, 7, 0), (41, .dup, 42, 0, 0, 0), (42, .invokespecial 27, 45, 0, 5, 1), (45, .putfield 28, 48, 0, 9, 5), (48, .aload_n 0, 49, 0, 0, 0), (49, .new 21, 52, 0, 7, 0), (52, .dup, 53, 0, 0, 0), (53, .invokespecial 27, 56, 0, 5, 1), (56, .putfield 32, 59, 0, 9, 6), (59, .aload_n 0, 60, 0, 0, 0), (60, .aload_n 1, 61, 0, 1, 0), (61, .putfield 35, 64, 0, 9, 7), (64, .aload_n 0, 65, 0, 0, 0), (65, .aload_n 2, 66, 0, 2, 0), (66, .putfield 39, 69, 0, 9, 8), (69, .aload_n 0, 70, 0, 0, 0), (70, .aload_n 3, 71, 0, 3, 0), (71, .putfield 43, 74, 0, 9, 9), (74, .aload_n 0, 75, 0, 0, 0), (75, .aload 4, 77, 0, 4, 0), (77, .putfield 47, 80, 0, 9, 10), (80, .iconst 0, 81, 0, 0, 0), (81, .istore 5, 83, 0, 5, 0), (83, .iload 5, 85, 0, 5, 0), (85, .bipush 8, 87, 8, 0, 0), (87, .if_icmp .ge 23, 90, 0, 110, 0), (90, .aload_n 0, 91, 0, 0, 0), (91, .getfield 23, 94, 0, 9, 4), (94, .iload 5, 96, 0, 5, 0), (96, .new 21, 99, 0, 7, 0), (99, .dup, 100, 0, 0, 0), (100, .invokespecial 27, 103, 0, 5, 1), (103, .aastore, 104, 0, 0, 0), (104, .iinc 5 1, 107, 1, 5, 0), (107, .goto (-24), 110, 0, 83, 0), (110, .return_, 111, 0, 0, 0)]
def yp_7 : List (Nat × Nat) := [(0, 0), (1, 359), (4, 0), (5, 0), (7, 0), (9, 365), (12, 0), (13, 0), (15, 0), (17, 367), (20, 0), (21, 0), (23, 0), (25, 369), (28, 0), (29, 0), (31, 360), (34, 370), (37, 0), (38, 360), (41, 0), (42, 362), (45, 371), (48, 0), (49, 360), (52, 0), (53, 362), (56, 372), (59, 0), (60, 0), (61, 373), (64, 0), (65, 0), (66, 374), (69, 0), (70, 0), (71, 375), (74, 0), (75, 0), (77, 376), (80, 0), (81, 0), (83, 0), (85, 0), (87, 0), (90, 0), (91, 370), (94, 0), (96, 360), (99, 0), (100, 362), (103, 0), (104, 0), (107, 0), (110, 0)]
def yd_8 : List (Nat × y_I) := [(0, .aload_n 0, 1, 0, 0, 0), (1, .invokespecial 1, 4, 0, 99, 0), (4, .aload_n 0, 5, 0, 0, 0), (5, .new 7, 8, 0, 4, 0), (8, .dup, 9, 0, 0, 0), (9, .invokespecial 9, 12, 0, 2, 1), (12, .putfield 10, 15, 0, 10, 1), (15, .aload_n 0, 16, 0, 0, 0), (16, .new 7, 19, 0, 4, 0), (19, .dup, 20, 0, 0, 0), (20, .invokespecial 9, 23, 0, 2, 1), (23, .putfield 16, 26, 0, 10, 2), (26, .aload_n 0, 27, 0, 0, 0), (27, .new 19, 30, 0, 5, 0), (30, .dup, 31, 0, 0, 0), (31, .invokespecial 21, 34, 0, 3, 1), (34, .putfield 22, 37, 0, 10, 3), (37, .return_, 38, 0, 0, 0)]
def yp_8 : List (Nat × Nat) := [(0, 0), (1, 408), (4, 0), (5, 409), (8, 0), (9, 410), (12, 414), (15, 0), (16, 409), (19, 0), (20, 410), (23, 416), (26, 0), (27, 411), (30, 0), (31, 412), (34, 418), (37, 0)]
def yd_9 : List (Nat × y_I) := [(0, .aload_n 0, 1, 0, 0, 0), (1, .invokespecial 3, 4, 0, 99, 0), (4, .aload_n 0, 5, 0, 0, 0), (5, .bipush 40, 7, 40, 0, 0), (7, .newarray .int, 9, 0, 20, 0), (9, .putfield 9, 12, 0, 11, 3), (12, .return_, 13, 0, 0, 0)]
def yp_9 : List (Nat × Nat) := [(0, 0), (1, 433), (4, 0), (5, 0), (7, 0), (9, 439), (12, 0)]
def yd_10 : List (Nat × y_I) := [(0, .aload_n 0, 1, 0, 0, 0), (1, .invokespecial 1, 4, 0, 99, 0), (4, .aload_n 0, 5, 0, 0, 0), (5, .new 7, 8, 0, 2, 0), (8, .dup, 9, 0, 0, 0), (9, .invokespecial 9, 12, 0, 0, 1), (12, .putfield 10, 15, 0, 1, 0), (15, .aload_n 0, 16, 0, 0, 0), (16, .new 16, 19, 0, 3, 0), (19, .dup, 20, 0, 0, 0), (20, .aload_n 0, 21, 0, 0, 0), (21, .getfield 10, 24, 0, 1, 0), (24, .invokespecial 18, 27, 0, 1, 2), (27, .putfield 21, 30, 0, 1, 1), (30, .aload_n 0, 31, 0, 0, 0), (31, .new 25, 34, 0, 4, 0), (34, .dup, 35, 0, 0, 0), (35, .invokespecial 27, 38, 0, 2, 1), (38, .putfield 28, 41, 0, 1, 2), (41, .aload_n 0, 42, 0, 0, 0), (42, .new 25, 45, 0, 4, 0), (45, .dup, 46, 0, 0, 0), (46, .invokespecial 27, 49, 0, 2, 1), (49, .putfield 32, 52, 0, 1, 3), (52, .aload_n 0, 53, 0, 0, 0), (53, .new 35, 56, 0, 5, 0), (56, .dup, 57, 0, 0, 0), (57, .invokespecial 37, 60, 0, 3, 1), (60, .putfield 38, 63, 0, 1, 4), (63, .aload_n 0, 64, 0, 0, 0), (64, .new 42, 67, 0, 6, 0), (67, .dup, 68, 0, 0, 0), (68, .invokespecial 44, 71, 0, 4, 1), (71, .putfield 45, 74, 0, 1, 5), (74, .aload_n 0, 75, 0, 0, 0), (75, .new 49, 78, 0, 8, 0), (78, .dup, 79, 0, 0, 0), (79, .aload_n 0, 80, 0, 0, 0), (80, .getfield 28, 83, 0, 1, 2), (83, .aload_n 0, 84, 0, 0, 0), (84, .getfield 32, 87, 0, 1, 3), (87, .invokespecial 51, 90, 0, 6, 3), (90, .putfield 54, 93, 0, 1, 6), (93, .aload_n 0, 94, 0, 0, 0), (94, .new 58, 97, 0, 9, 0), (97, .dup, 98, 0, 0, 0), (98, .aload_n 0, 99, 0, 0, 0), (99, .getfield 28, 102, 0, 1, 2), (102, .aload_n 0, 103, 0, 0, 0), (103, .getfield 38, 106, 0, 1, 4), (106, .aload_n 0, 107, 0, 0, 0), (107, .getfield 54, 110, 0, 1, 6), (110, .aload_n 0, 111, 0, 0, 0), (111, .getfield 45, 114, 0, 1, 5), (114, .invokespecial 60, 117, 0, 7, 5), (117, .putfield 63, 120, 0, 1, 7), (120, .aload_n 0, 121, 0, 0, 0), (121, .iconst 2, 122, 2, 0, 0), (122, .anewarray 67, 125, 0, 25, 0), (125, .putfield 69, 128, 0, 1, 8), (128, .aload_n 0, 129, 0, 0, 0), (129, .iconst 4, 130, 4, 0, 0), (130, .anewarray 73, 133, 0, 26, 0), (133, .putfield 75, 136, 0, 1, 9), (136, .iconst 0, 137, 0, 0, 0), (137, .istore_n 1, 138, 0, 1, 0), (138, .iload_n 1, 139, 0, 1, 0), (139, .iconst 2, 140, 2, 0, 0), (140, .if_icmp .ge 22, 143, 0, 162, 0), (143, .aload_n 0, 144, 0, 0, 0), (144, .getfield 69, 147, 0, 1, 8), (147, .iload_n 1, 148, 0, 1, 0), (148, .new 67, 151, 0, 10, 0), (151, .dup, 152, 0, 0, 0), (152, .invokespecial 79, 155, 0, 8, 1), (155, .aastore, 156, 0, 0, 0), (156, .iinc 1 1, 159, 1, 1, 0), (159, .goto (-21), 162, 0, 138, 0), (162, .iconst 0, 163, 0, 0, 0), (163, .istore_n 1, 164, 0, 1, 0), (164, .iload_n 1, 165, 0, 1, 0), (165, .iconst 4, 166, 4, 0, 0), (166, .if_icmp .ge 22, 169, 0, 188, 0), (169, .aload_n 0, 170, 0, 0, 0), (170, .getfield 75, 173, 0, 1, 9), (173, .iload_n 1, 174, 0, 1, 0), (174, .new 73, 177, 0, 11, 0), (177, .dup, 178, 0, 0, 0), (178, .invokespecial 80, 181, 0, 9, 1), (181, .aastore, 182, 0, 0, 0), (182, .iinc 1 1, 185, 1, 1, 0), (185, .goto (-21), 188, 0, 164, 0), (188, .return_, 189, 0, 0, 0)]
def yp_10 : List (Nat × Nat) := [(0, 0), (1, 118), (4, 0), (5, 121), (8, 0), (9, 123), (12, 449), (15, 0), (16, 151), (19, 0), (20, 0), (21, 449), (24, 153), (27, 450), (30, 0), (31, 275), (34, 0), (35, 276), (38, 451), (41, 0), (42, 275), (45, 0), (46, 276), (49, 452), (52, 0), (53, 277), (56, 0), (57, 278), (60, 453), (63, 0), (64, 279), (67, 0), (68, 281), (71, 454), (74, 0), (75, 325), (78, 0), (79, 0), (80, 451), (83, 0), (84, 452), (87, 327), (90, 455), (93, 0), (94, 354), (97, 0), (98, 0), (99, 451), (102, 0), (103, 453), (106, 0), (107, 455), (110, 0), (111, 454), (114, 356), (117, 456), (120, 0), (121, 0), (122, 400), (125, 457), (128, 0), (129, 0), (130, 402), (133, 458), (136, 0), (137, 0), (138, 0), (139, 0), (140, 0), (143, 0), (144, 457), (147, 0), (148, 400), (151, 0), (152, 405), (155, 0), (156, 0), (159, 0), (162, 0), (163, 0), (164, 0), (165, 0), (166, 0), (169, 0), (170, 458), (173, 0), (174, 402), (177, 0), (178, 430), (181, 0), (182, 0), (185, 0), (188, 0)]
def yd_11 : List (Nat × y_I) := [(0, .aload_n 0, 1, 0, 0, 0), (1, .invokespecial 1, 4, 0, 99, 0), (4, .aload_n 0, 5, 0, 0, 0), (5, .sipush 549, 8, 549, 0, 0), (8, .newarray .int, 10, 0, 20, 0), (10, .putfield 7, 13, 0, 12, 0), (13, .aload_n 0, 14, 0, 0, 0), (14, .sipush 1098, 17, 1098, 0, 0), (17, .newarray .int, 19, 0, 20, 0), (19, .putfield 13, 22, 0, 12, 1), (22, .aload_n 0, 23, 0, 0, 0), (23, .iconst 2, 24, 2, 0, 0), (24, .newarray .boolean, 26, 0, 23, 0), (26, .putfield 16, 29, 0, 12, 2), (29, .aload_n 0, 30, 0, 0, 0), (30, .sipush 549, 33, 549, 0, 0), (33, .newarray .int, 35, 0, 20, 0), (35, .putfield 20, 38, 0, 12, 3), (38, .aload_n 0, 39, 0, 0, 0), (39, .sipush 320, 42, 320, 0, 0), (42, .newarray .int, 44, 0, 20, 0), (44, .putfield 23, 47, 0, 12, 6), (47, .aload_n 0, 48, 0, 0, 0), (48, .iconst 5, 49, 5, 0, 0), (49, .newarray .int, 51, 0, 20, 0), (51, .putfield 26, 54, 0, 12, 14), (54, .aload_n 0, 55, 0, 0, 0), (55, .iconst 5, 56, 5, 0, 0), (56, .newarray .int, 58, 0, 20, 0), (58, .putfield 29, 61, 0, 12, 15), (61, .aload_n 0, 62, 0, 0, 0), (62, .sipush 216, 65, 216, 0, 0), (65, .newarray .boolean, 67, 0, 23, 0), (67, .putfield 32, 70, 0, 12, 16), (70, .aload_n 0, 71, 0, 0, 0), (71, .sipush 216, 74, 216, 0, 0), (74, .newarray .boolean, 76, 0, 23, 0), (76, .putfield 35, 79, 0, 12, 22), (79, .aload_n 0, 80, 0, 0, 0), (80, .bipush 64, 82, 64, 0, 0), (82, .newarray .boolean, 84, 0, 23, 0), (84, .putfield 38, 87, 0, 12, 23), (87, .aload_n 0, 88, 0, 0, 0), (88, .sipush 216, 91, 216, 0, 0), (91, .newarray .boolean, 93, 0, 23, 0), (93, .putfield 41, 96, 0, 12, 24), (96, .aload_n 0, 97, 0, 0, 0), (97, .bipush 8, 99, 8, 0, 0), (99, .newarray .boolean, 101, 0, 23, 0), (101, .putfield 44, 104, 0, 12, 25), (104, .aload_n 0, 105, 0, 0, 0), (105, .bipush 8, 107, 8, 0, 0), (107, .newarray .int, 109, 0, 20, 0), (109, .putfield 47, 112, 0, 12, 26), (112, .aload_n 0, 113, 0, 0, 0), (113, .bipush 8, 115, 8, 0, 0), (115, .newarray .int, 117, 0, 20, 0), (117, .putfield 50, 120, 0, 12, 27), (120, .aload_n 0, 121, 0, 0, 0), (121, .iconst 4, 122, 4, 0, 0), (122, .newarray .int, 124, 0, 20, 0), (124, .putfield 53, 127, 0, 12, 29), (127, .aload_n 0, 128, 0, 0, 0), (128, .iconst 4, 129, 4, 0, 0), (129, .newarray .int, 131, 0, 20, 0), (131, .putfield 56, 134, 0, 12, 30), (134, .aload_n 0, 135, 0, 0, 0), (135, .sipush 160, 138, 160, 0, 0), (138, .newarray .int, 140, 0, 20, 0), (140, .putfield 59, 143, 0, 12, 31), (143, .aload_n 0, 144, 0, 0, 0), (144, .sipush 549, 147, 549, 0, 0), (147, .newarray .int, 149, 0, 20, 0), (149, .putfield 62, 152, 0, 12, 32), (152, .iconst 0, 153, 0, 0, 0), (153, .istore_n 1, 154, 0, 1, 0), (154, .iload_n 1, 155, 0, 1, 0), (155, .iconst 4, 156, 4, 0, 0), (156, .if_icmp .ge 17, 159, 0, 173, 0), (159, .aload_n 0, 160, 0, 0, 0), (160, .getfield 53, 163, 0, 12, 29), (163, .iload_n 1, 164, 0, 1, 0), (164, .bipush (-4), 166, (-4), 0, 0), (166, .iastore, 167, 0, 0, 0), (167, .iinc 1 1, 170, 1, 1, 0), (170, .goto (-16), 173, 0, 154, 0)]
def yp_11 : List (Nat × Nat) := [(0, 0), (1, 1094), (4, 0), (5, 0), (8, 0), (10, 1106), (13, 0), (14, 0), (17, 0), (19, 1107), (22, 0), (23, 0), (24, 0), (26, 1108), (29, 0), (30, 0), (33, 0), (35, 1109), (38, 0), (39, 0), (42, 0), (44, 1112), (47, 0), (48, 0), (49, 0), (51, 1120), (54, 0), (55, 0), (56, 0), (58, 1121), (61, 0), (62, 0), (65, 0), (67, 1122), (70, 0), (71, 0), (74, 0), (76, 1128), (79, 0), (80, 0), (82, 0), (84, 1129), (87, 0), (88, 0), (91, 0), (93, 1130), (96, 0), (97, 0), (99, 0), (101, 1131), (104, 0), (105, 0), (107, 0), (109, 1132), (112, 0), (113, 0), (115, 0), (117, 1133), (120, 0), (121, 0), (122, 0), (124, 1135), (127, 0), (128, 0), (129, 0), (131, 1136), (134, 0), (135, 0), (138, 0), (140, 1137), (143, 0), (144, 0), (147, 0), (149, 1138), (152, 0), (153, 0), (154, 0), (155, 0), (156, 0), (159, 0), (160, 1135), (163, 0), (164, 0), (166, 0), (167, 0), (170, 0)]
def y_fd : List (Nat × y_I) → Nat → Option y_I
  | [], _ => none
  | (k, i) :: r, pc => bif Nat.beq k pc then some i else y_fd r pc
def y_fp : List (Nat × Nat) → Nat → Nat
  | [], _ => 0
  | (k, i) :: r, pc => bif Nat.beq k pc then i else y_fp r pc
def y_ds (id : Nat) : List (Nat × y_I) := match id with
  | 0 => yd_0
  | 1 => yd_1
  | 2 => yd_2
  | 3 => yd_3
  | 4 => yd_4
  | 5 => yd_5
  | 6 => yd_6
  | 7 => yd_7
  | 8 => yd_8
  | 9 => yd_9
  | 10 => yd_10
  | _ => yd_11
def y_ps (id : Nat) : List (Nat × Nat) := match id with
  | 0 => yp_0
  | 1 => yp_1
  | 2 => yp_2
  | 3 => yp_3
  | 4 => yp_4
  | 5 => yp_5
  | 6 => yp_6
  | 7 => yp_7
  | 8 => yp_8
  | 9 => yp_9
  | 10 => yp_10
  | _ => yp_11
def y_mt (id : Nat) : z_Mt := match id with
  | 0 => (⟨"TestChoice$Tape", "<init>", "()V"⟩, prog_10_method_1_code, 1, none)
  | 1 => (⟨"TestChoice$Reader", "<init>", "(LTestChoice$Tape;)V"⟩, prog_7_method_1_code, 2, none)
  | 2 => (⟨"TestChoice$Program", "<init>", "()V"⟩, prog_6_method_1_code, 1, none)
  | 3 => (⟨"TestChoice$Tests", "<init>", "()V"⟩, prog_11_method_1_code, 1, none)
  | 4 => (⟨"TestChoice$Run", "<init>", "()V"⟩, prog_8_method_1_code, 1, none)
  | 5 => (⟨"TestChoice$EdgeSet", "<init>", "()V"⟩, prog_4_method_1_code, 1, none)
  | 6 => (⟨"TestChoice$Danger", "<init>", "(LTestChoice$Program;LTestChoice$Program;)V"⟩, prog_3_method_1_code, 3, none)
  | 7 => (⟨"TestChoice$Choice", "<init>", "(LTestChoice$Program;LTestChoice$Tests;LTestChoice$Danger;LTestChoice$Run;)V"⟩, prog_2_method_1_code, 6, none)
  | 8 => (⟨"TestChoice$Image", "<init>", "()V"⟩, prog_5_method_1_code, 1, none)
  | 9 => (⟨"TestChoice$Sheet", "<init>", "()V"⟩, prog_9_method_1_code, 1, none)
  | 10 => (⟨"TestChoice", "<init>", "()V"⟩, prog_1_method_1_code, 2, none)
  | _ => (⟨"TestChoiceModel", "<init>", "()V"⟩, prog_13_method_1_code, 2, none)
def y_ev : Nat → Nat → List Value → List y_C → Option (List y_C)
  | 0, _, _, _ => none
  | n + 1, id, args, cs => bif Nat.ble (z_cat args) (y_mt id).2.2.1 then y_run (y_ev n) y_cost (y_fd (y_ds id)) id 2000 (0, lv_args 0 args, [], cs, 0, 0) else none
