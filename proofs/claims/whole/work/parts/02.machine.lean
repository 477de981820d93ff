/-! A SMALL MACHINE over a picture of the heap: the objects of a run are numbered from 0 in the order of their making; a heap is what the int places, the long places hold, and the one reference that moves. Its steps are a function: so whole runs of the bytecode are reckoned, not walked. -/
abbrev z_H : Type := (Nat → Nat → Int32) × (Nat → Nat → Int64) × Nat
abbrev z_L : Type := List (Nat × Value)
/-- pc, locals, stack, heap -/
abbrev z_S : Type := Nat × z_L × List Value × z_H
/-- instruction, next pc, a constant, three numbers, which locals are kept here (at a label), a switch's targets -/
abbrev z_I : Type := Instr × Nat × Int32 × Nat × Nat × Nat × Option (List Nat) × List (Int32 × Nat)
abbrev z_C : Type := Nat → Option z_I
abbrev z_A : Type := Int32 × z_H
/-- a next state; the method's answer; a call: whom, with what, how its answer comes back (0 none, 1 int, 2 reference), the state behind it -/
abbrev z_O : Type := z_S ⊕ (z_A ⊕ (Nat × List Value × Nat × z_S))
def z_wI (h : z_H) (o k : Nat) (x : Int32) : z_H := (fun o' k' => bif Nat.beq o' o then (bif Nat.beq k' k then x else h.1 o' k') else h.1 o' k', h.2)
def z_wL (h : z_H) (o k : Nat) (x : Int64) : z_H := (h.1, fun o' k' => bif Nat.beq o' o then (bif Nat.beq k' k then x else h.2.1 o' k') else h.2.1 o' k', h.2.2)
def z_wD (h : z_H) (d : Nat) : z_H := (h.1, h.2.1, d)
def z_cpI (h : z_H) (s sp d dp n : Nat) : z_H := (fun o' k' => bif Nat.beq o' d then (va_cpy (h.1 s) (h.1 d) sp dp n) k' else h.1 o' k', h.2)
def z_cpL (h : z_H) (s sp d dp n : Nat) : z_H := (h.1, fun o' k' => bif Nat.beq o' d then (va_cpy (h.2.1 s) (h.2.1 d) sp dp n) k' else h.2.1 o' k', h.2.2)
def z_in (j : Int32) (n : Nat) : Bool := !(decide (j < 0)) && Nat.blt j.toNatClampNeg n
def z_get : z_L → Nat → Option Value
  | [], _ => none
  | (i, v) :: r, a => bif Nat.beq i a then some v else z_get r a
def z_put1 (l : z_L) (i : Nat) (v : Value) : z_L := (i, v) :: l.filter (fun q => !(q.1 == i) && !(q.1 + 1 == i && q.2.category == 2))
def z_put2 (l : z_L) (i : Nat) (v : Value) : z_L := (i, v) :: l.filter (fun q => !(q.1 == i) && (!(q.1 == i + 1) && !(q.1 + 1 == i && q.2.category == 2)))
def z_norm (lab : Option (List Nat)) (l : z_L) : z_L := match lab with
  | none => l
  | some L => L.filterMap (fun i => (z_get l i).map (fun v => (i, v)))
def z_nx (pc : Nat) (l : z_L) (st : List Value) (h : z_H) : Option z_O := some (.inl (pc, l, st, h))
def z_i1 (st : List Value) (f : Int32 → List Value → Option z_O) : Option z_O := match st with
  | .int x :: r => f x r
  | _ => none
def z_i2 (st : List Value) (f : Int32 → Int32 → List Value → Option z_O) : Option z_O := match st with
  | .int y :: .int x :: r => f x y r
  | _ => none
def z_l1 (st : List Value) (f : Int64 → List Value → Option z_O) : Option z_O := match st with
  | .long x :: r => f x r
  | _ => none
def z_l2 (st : List Value) (f : Int64 → Int64 → List Value → Option z_O) : Option z_O := match st with
  | .long y :: .long x :: r => f x y r
  | _ => none
def z_li (st : List Value) (f : Int64 → Int32 → List Value → Option z_O) : Option z_O := match st with
  | .int y :: .long x :: r => f x y r
  | _ => none
def z_r1 (st : List Value) (f : Nat → List Value → Option z_O) : Option z_O := match st with
  | .ref o :: r => f o r
  | _ => none
def z_ri (st : List Value) (f : Nat → Int32 → List Value → Option z_O) : Option z_O := match st with
  | .int j :: .ref o :: r => f o j r
  | _ => none
def z_rii (st : List Value) (f : Nat → Int32 → Int32 → List Value → Option z_O) : Option z_O := match st with
  | .int x :: .int j :: .ref o :: r => f o j x r
  | _ => none
def z_ril (st : List Value) (f : Nat → Int32 → Int64 → List Value → Option z_O) : Option z_O := match st with
  | .long x :: .int j :: .ref o :: r => f o j x r
  | _ => none
def z_rr (st : List Value) (f : Nat → Nat → List Value → Option z_O) : Option z_O := match st with
  | .ref x :: .ref o :: r => f o x r
  | _ => none
def z_cp (st : List Value) (f : Nat → Int32 → Nat → Int32 → Int32 → List Value → Option z_O) : Option z_O := match st with
  | .int n :: .int dp :: .ref d :: .int sp :: .ref s :: r => f s sp d dp n r
  | _ => none
def z_vi (v : Option Value) (f : Int32 → Option z_O) : Option z_O := match v with
  | some (.int x) => f x
  | _ => none
def z_vl (v : Option Value) (f : Int64 → Option z_O) : Option z_O := match v with
  | some (.long x) => f x
  | _ => none
def z_vr (v : Option Value) (f : Nat → Option z_O) : Option z_O := match v with
  | some (.ref x) => f x
  | _ => none
def z_sw (d : z_S) (x : Int32) (f : Nat → z_S) : List (Int32 × Nat) → z_S
  | [] => d
  | (k, t) :: r => if x = k then f t else z_sw d x f r
def z_cat (st : List Value) : Nat := (st.map fun v => v.category).sum
/-! the objects: kinds (1 to 12 the classes, 20 int, 21 long, 22 byte, 23 boolean rows, 24 to 26 rows of references), lengths, the references that stay -/
def z_KT : Nat := 285972929434903004923040216459093570233014006958313980162047911515773339775059562137093260082359924337541618214318671408923136321429751530002420449915575294214490074296188965753145958643355773879063164541466425090802589487124242261790835800130021939809138991368797763225968943454969066716718762847686660392548671597691395336060142433468929
def z_NT : Nat := 111369062312973706523976019251547330459264063167566880440936494462277133393601955339616798140001104835487378616155776406615994015086212350832063443730453063684466115357443601588212760509167156366364533272503700723868980692563796817966875648829863001733922854419591871700067635864805890111486040663030492712429170272290503105646561988345235930769161929828755294259978008122284110609158581735904044678252948119884087412449010569110979806964520805724916242146789930944819707688046748749875422699624849638999160055308536249979361149596006965953831930715734465224299078613704978044236525312478195394007667446243234315759258573142191285943236651329974382424986769610326690208598589452
def z_K (o : Nat) : Nat := (z_KT >>> (8 * o)) % 256
def z_N (o : Nat) : Nat := (z_NT >>> (16 * o)) % 65536
-- the references of the objects that there is one of: by 8 bits each
def z_R0 : Nat := 336582546260459338662657
def z_R1 : Nat := 2199023255552
def z_R3 : Nat := 4504750745714688
def z_R37 : Nat := 2490368
def z_R40 : Nat := 189701624105
def z_R45 : Nat := 44919759967281481964793344
def z_R122 : Nat := 16274008749625908538242086340594913409598934555745922677923817521735537585388667
def z_R (o k : Nat) : Nat := match z_K o with
  | 4 => o + k - 1
  | 5 => o + k
  | 7 => o + 1
  | 10 => o + 8 * k - 7
  | 11 => o + 1
  | 24 => 54 + 2 * k
  | 25 => 72 + 21 * k
  | 26 => 114 + 2 * k
  | 1 => (z_R0 >>> (8 * k)) % 256
  | 2 => (z_R1 >>> (8 * k)) % 256
  | 3 => (z_R3 >>> (8 * k)) % 256
  | 6 => (z_R37 >>> (8 * k)) % 256
  | 8 => (z_R40 >>> (8 * k)) % 256
  | 9 => (z_R45 >>> (8 * k)) % 256
  | 12 => (z_R122 >>> (8 * k)) % 256
  | _ => 0
/-- the receiver is of the kind that the call names (100: a text constant) -/
def z_rcv (sw : List (Int32 × Nat)) (args : List Value) : Bool := match sw, args with
  | (_, k) :: _, .ref o :: _ => bif Nat.beq k 100 then Nat.ble 1000 o && Nat.ble o 1005 else Nat.beq (z_K o) k
  | _, _ => false
def z_if (c : Bool) (a : Option z_O) : Option z_O := match c with
  | true => a
  | false => none
def z_br (c : Prop) [Decidable c] (t n : Nat) (l : z_L) (st : List Value) (h : z_H) : Option z_O := some (.inl (if c then (t, l, st, h) else (n, l, st, h)))
/-- one instruction: ins, next pc n, constant v, numbers a b c, a switch's targets; the locals, the stack, the heap -/
def z_exec (ins : Instr) (n : Nat) (v : Int32) (a b c : Nat) (sw : List (Int32 × Nat)) (l : z_L) (st : List Value) (h : z_H) : Option z_O := match ins with
  | .iconst _ => z_nx n l (.int v :: st) h
  | .bipush _ => z_nx n l (.int v :: st) h
  | .sipush _ => z_nx n l (.int v :: st) h
  | .ldc _ => z_nx n l ((bif Nat.beq a 0 then .int v else .ref a) :: st) h
  | .ldc_w _ => z_nx n l (.int v :: st) h
  | .lconst _ => z_nx n l (.long v.toInt64 :: st) h
  | .ldc2_w _ => z_nx n l (.long v.toInt64 :: st) h
  | .iload _ => z_vi (z_get l a) fun x => z_nx n l (.int x :: st) h
  | .iload_n _ => z_vi (z_get l a) fun x => z_nx n l (.int x :: st) h
  | .lload _ => z_vl (z_get l a) fun x => z_nx n l (.long x :: st) h
  | .lload_n _ => z_vl (z_get l a) fun x => z_nx n l (.long x :: st) h
  | .aload _ => z_vr (z_get l a) fun o => z_if (!Nat.beq o 999) (z_nx n l (.ref o :: st) h)
  | .aload_n _ => z_vr (z_get l a) fun o => z_if (!Nat.beq o 999) (z_nx n l (.ref o :: st) h)
  | .istore _ => z_i1 st fun x r => z_nx n (z_put1 l a (.int x)) r h
  | .istore_n _ => z_i1 st fun x r => z_nx n (z_put1 l a (.int x)) r h
  | .lstore _ => z_l1 st fun x r => z_nx n (z_put2 l a (.long x)) r h
  | .lstore_n _ => z_l1 st fun x r => z_nx n (z_put2 l a (.long x)) r h
  | .astore _ => z_r1 st fun o r => z_if (!Nat.beq o 999) (z_nx n (z_put1 l a (.ref o)) r h)
  | .astore_n _ => z_r1 st fun o r => z_if (!Nat.beq o 999) (z_nx n (z_put1 l a (.ref o)) r h)
  | .iinc _ _ => z_vi (z_get l a) fun x => z_nx n (z_put1 l a (.int (x + v))) st h
  | .iaload => z_ri st fun o j r => z_if (Nat.beq (z_K o) 20) (z_if (z_in j (z_N o)) (z_nx n l (.int (h.1 o j.toNatClampNeg) :: r) h))
  | .laload => z_ri st fun o j r => z_if (Nat.beq (z_K o) 21) (z_if (z_in j (z_N o)) (z_nx n l (.long (h.2.1 o j.toNatClampNeg) :: r) h))
  | .baload => z_ri st fun o j r => z_if (Nat.beq (z_K o) 22 || Nat.beq (z_K o) 23) (z_if (z_in j (z_N o)) (z_nx n l (.int (h.1 o j.toNatClampNeg) :: r) h))
  | .aaload => z_ri st fun o j r => z_if (Nat.ble 24 (z_K o) && Nat.ble (z_K o) 26) (z_if (z_in j (z_N o)) (z_nx n l (.ref (z_R o j.toNatClampNeg) :: r) h))
  | .iastore => z_rii st fun o j x r => z_if (Nat.beq (z_K o) 20) (z_if (z_in j (z_N o)) (z_nx n l r (z_wI h o j.toNatClampNeg x)))
  | .bastore => z_rii st fun o j x r => z_if (Nat.beq (z_K o) 22 || Nat.beq (z_K o) 23) (z_if (z_in j (z_N o)) (z_nx n l r (z_wI h o j.toNatClampNeg (bif Nat.beq (z_K o) 22 then x.toInt8.toInt32 else x &&& 1))))
  | .lastore => z_ril st fun o j x r => z_if (Nat.beq (z_K o) 21) (z_if (z_in j (z_N o)) (z_nx n l r (z_wL h o j.toNatClampNeg x)))
  | .arraylength => z_r1 st fun o r => z_if (Nat.ble 20 (z_K o) && Nat.ble (z_K o) 26) (z_nx n l (.int (Int32.ofNat (z_N o)) :: r) h)
  | .getfield _ => z_r1 st fun o r => z_if (Nat.beq (z_K o) a) (z_nx n l ((match c with | 1 => .ref (z_R o b) | 2 => .ref h.2.2 | _ => .int (h.1 o b)) :: r) h)
  | .putfield _ => match c with
    | 2 => z_rr st fun o x r => z_if (Nat.beq (z_K o) a && Nat.blt x 141) (z_nx n l r (z_wD h x))
    | 3 => match st with
      | .int x :: .ref o :: r => z_if (Nat.beq (z_K o) a && (decide (x = 0) || decide (x = 1))) (z_nx n l r (z_wI h o b x))
      | _ => none
    | 4 => match st with
      | .int x :: .ref o :: r => z_if (Nat.beq (z_K o) a) (z_nx n l r (z_wI h o b x))
      | _ => none
    | _ => none
  | .pop => match st with
    | .int _ :: r => z_nx n l r h
    | .ref _ :: r => z_nx n l r h
    | _ => none
  | .dup => match st with
    | .int x :: r => z_nx n l (.int x :: .int x :: r) h
    | .ref x :: r => z_nx n l (.ref x :: .ref x :: r) h
    | _ => none
  | .dup2 => z_ri st fun o j r => z_nx n l (.int j :: .ref o :: .int j :: .ref o :: r) h
  | .iadd => z_i2 st fun x y r => z_nx n l (.int (x + y) :: r) h
  | .isub => z_i2 st fun x y r => z_nx n l (.int (x - y) :: r) h
  | .imul => z_i2 st fun x y r => z_nx n l (.int (x * y) :: r) h
  | .iand => z_i2 st fun x y r => z_nx n l (.int (x &&& y) :: r) h
  | .idiv => z_i2 st fun x y r => z_if (!decide (y = 0)) (z_nx n l (.int (x / y) :: r) h)
  | .irem => z_i2 st fun x y r => z_if (!decide (y = 0)) (z_nx n l (.int (x - x / y * y) :: r) h)
  | .ishr => z_i2 st fun x y r => z_nx n l (.int (x >>> (y &&& 31)) :: r) h
  | .iushr => z_i2 st fun x y r => z_nx n l (.int ((x.toUInt32 >>> (y.toUInt32 &&& Int32.toUInt32 31)).toInt32) :: r) h
  | .ladd => z_l2 st fun x y r => z_nx n l (.long (x + y) :: r) h
  | .land => z_l2 st fun x y r => z_nx n l (.long (x &&& y) :: r) h
  | .lor => z_l2 st fun x y r => z_nx n l (.long (x ||| y) :: r) h
  | .lxor => z_l2 st fun x y r => z_nx n l (.long (x ^^^ y) :: r) h
  | .lcmp => z_l2 st fun x y r => z_nx n l (.int (lg_cmp x y) :: r) h
  | .lshl => z_li st fun x y r => z_nx n l (.long (x <<< (y.toInt64 &&& 63)) :: r) h
  | .lushr => z_li st fun x y r => z_nx n l (.long ((x.toUInt64 >>> (y.toInt64.toUInt64 &&& Int64.toUInt64 63)).toInt64) :: r) h
  | .i2l => z_i1 st fun x r => z_nx n l (.long x.toInt64 :: r) h
  | .l2i => z_l1 st fun x r => z_nx n l (.int x.toInt32 :: r) h
  | .i2b => z_i1 st fun x r => z_nx n l (.int x.toInt8.toInt32 :: r) h
  | .i2s => z_i1 st fun x r => z_nx n l (.int x.toInt16.toInt32 :: r) h
  | .ifCond .eq _ => z_i1 st fun x r => z_br (x = 0) a n l r h
  | .ifCond .ne _ => z_i1 st fun x r => z_br (¬ x = 0) a n l r h
  | .ifCond .lt _ => z_i1 st fun x r => z_br (x < 0) a n l r h
  | .ifCond .ge _ => z_i1 st fun x r => z_br (0 ≤ x) a n l r h
  | .ifCond .gt _ => z_i1 st fun x r => z_br (0 < x) a n l r h
  | .ifCond .le _ => z_i1 st fun x r => z_br (x ≤ 0) a n l r h
  | .if_icmp .eq _ => z_i2 st fun x y r => z_br (x = y) a n l r h
  | .if_icmp .ne _ => z_i2 st fun x y r => z_br (¬ x = y) a n l r h
  | .if_icmp .lt _ => z_i2 st fun x y r => z_br (x < y) a n l r h
  | .if_icmp .ge _ => z_i2 st fun x y r => z_br (y ≤ x) a n l r h
  | .if_icmp .gt _ => z_i2 st fun x y r => z_br (y < x) a n l r h
  | .if_icmp .le _ => z_i2 st fun x y r => z_br (x ≤ y) a n l r h
  | .goto _ => z_nx a l st h
  | .tableswitch _ _ _ _ => z_i1 st fun x r => some (.inl (z_sw (a, l, r, h) x (fun t => (t, l, r, h)) sw))
  | .lookupswitch _ _ => z_i1 st fun x r => some (.inl (z_sw (a, l, r, h) x (fun t => (t, l, r, h)) sw))
  | .ireturn => z_i1 st fun x _ => some (.inr (.inl ((bif Nat.beq a 1 then x &&& 1 else x), h)))
  | .areturn => z_r1 st fun o _ => z_if (Nat.blt o 2000 && !Nat.beq o 999) (some (.inr (.inl (Int32.ofNat o, h))))
  | .return_ => some (.inr (.inl (0, h)))
  | .invokevirtual _ => z_if (Nat.ble b st.length && Nat.ble (z_cat (st.drop b)) 8 && z_rcv sw (st.take b).reverse) (some (.inr (.inr (a, (st.take b).reverse, c, (n, l, st.drop b, h)))))
  | .invokestatic _ => match a with
    | 900 => z_cp st fun s sp d dp k r => z_if (Nat.beq (z_K s) 20 && Nat.beq (z_K d) 20 && !Nat.beq s d && !(decide (sp < 0)) && !(decide (dp < 0)) && !(decide (k < 0)) && Nat.ble (sp.toNatClampNeg + k.toNatClampNeg) (z_N s) && Nat.ble (dp.toNatClampNeg + k.toNatClampNeg) (z_N d) && Nat.ble (z_cat r) 8) (z_nx n l r (z_cpI h s sp.toNatClampNeg d dp.toNatClampNeg k.toNatClampNeg))
    | 901 => z_cp st fun s sp d dp k r => z_if (Nat.beq (z_K s) 21 && Nat.beq (z_K d) 21 && !Nat.beq s d && !(decide (sp < 0)) && !(decide (dp < 0)) && !(decide (k < 0)) && Nat.ble (sp.toNatClampNeg + k.toNatClampNeg) (z_N s) && Nat.ble (dp.toNatClampNeg + k.toNatClampNeg) (z_N d) && Nat.ble (z_cat r) 8) (z_nx n l r (z_cpL h s sp.toNatClampNeg d dp.toNatClampNeg k.toNatClampNeg))
    | 904 => z_i2 st fun x y r => z_if (Nat.ble (z_cat r) 8) (z_nx n l (.int (if x < y then y else x) :: r) h)
    | 905 => z_i2 st fun x y r => z_if (Nat.ble (z_cat r) 8) (z_nx n l (.int (if y < x then y else x) :: r) h)
    | _ => z_if (Nat.ble b st.length && Nat.ble (z_cat (st.drop b)) 8) (some (.inr (.inr (a, (st.take b).reverse, c, (n, l, st.drop b, h)))))
  | _ => none
def z_step (C : z_C) (s : z_S) : Option z_O := match C s.1 with
  | none => none
  | some i => z_exec i.1 i.2.1 i.2.2.1 i.2.2.2.1 i.2.2.2.2.1 i.2.2.2.2.2.1 i.2.2.2.2.2.2.2 (z_norm i.2.2.2.2.2.2.1 s.2.1) s.2.2.1 s.2.2.2
