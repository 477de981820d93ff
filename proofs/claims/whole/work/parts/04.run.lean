/-! whole methods by the small machine; what a run of any length comes to, and the equations by which it is reckoned -/
def z_codes : List z_C := [zc_X_feed, zc_X_end, zc_X_text, zc_X_fault, zc_X_rule, zc_X_node, zc_X_meant, zc_X_test, zc_X_said, zc_X_edge, zc_X_covers, zc_X_order, zc_X_same, zc_X_say, zc_X_lead, zc_X_nexts, zc_X_has, zc_X_take, zc_X_leave, zc_X_add, zc_X_drop, zc_X_draw, zc_X_keep, zc_X_back, zc_X_sheet, zc_X_lay, zc_X_read, zc_X_torn, zc_X_count, zc_X_programOf, zc_X_runTest, zc_X_edgesInDanger, zc_X_saysTheSame, zc_X_testsThatSayOther, zc_X_imagesKept, zc_X_firstRefused, zc_X_turnAll, zc_X_isName, zc_X_isNode, zc_X_isImage, zc_X_isSheet, zc_X_isLane, zc_X_placeOf, zc_X_edgeOfNext, zc_X_edgeOfCall, zc_Tp_append, zc_Tp_rewind, zc_Tp_advance, zc_Tp_isWord, zc_Tp_takeWord, zc_Tp_takeNumber, zc_Tp_isLetter, zc_Tp_isFigure, zc_Rd_readAll, zc_Rd_fail, zc_Rd_advance, zc_Rd_readLine, zc_Rd_lineOfWord, zc_Rd_wordOf, zc_Rd_hasRoomFor, zc_Rd_readRest, zc_Rd_leastArguments, zc_Rd_mostArguments, zc_Rd_isWithin, zc_Rd_tell, zc_Rd_tellNode, zc_Rd_tellHas, zc_Rd_tellsWhatIsNotThere, zc_P_clear, zc_P_becomeAs, zc_P_hasMethod, zc_P_hasNode, zc_P_hasNext, zc_P_hasClass, zc_P_hasEdge, zc_P_nextOf, zc_P_mayTurn, zc_P_turn, zc_P_widen, zc_P_meantBy, zc_P_partOf, zc_P_nodesOfAll, zc_P_nodesThatCall, zc_P_nodesOtherThan, zc_P_isNodeAsIn, zc_P_appendMethod, zc_P_appendNode, zc_P_appendNext, zc_P_appendClass, zc_P_leadsOnlyToNodes, zc_Ts_isThere, zc_Ts_isFull, zc_Ts_becomeAs, zc_Ts_append, zc_Ts_remove, zc_Ru_begin, zc_Ru_enter, zc_Ru_visit, zc_Ru_enterMeant, zc_Ru_goOn, zc_Ru_decide, zc_Es_clear, zc_Es_becomeAs, zc_Es_put, zc_Es_putAll, zc_Es_takeOut, zc_Es_holds, zc_Es_size, zc_Es_sizeWithin, zc_Dg_compare, zc_Dg_compareMethod, zc_Dg_compareNexts, zc_Dg_pairUp, zc_Dg_areAlike, zc_Ch_choose, zc_Ch_tellTest, zc_Ch_costOfChosen, zc_Ch_testsOver, zc_Ch_edgesOver, zc_Ch_rankAll, zc_Ch_nextOne, zc_Ch_rank, zc_Sh_renew, zc_Sh_put, zc_Sh_cellAt, zc_Sh_faultAs, zc_Sh_wholeFrom, zc_M_in, zc_M_flag, zc_M_nodeAt, zc_M_hasAt, zc_M_firstDraft, zc_M_keepDraft, zc_M_feed, zc_M_end, zc_M_requires, zc_M_byteAt, zc_M_is, zc_M_lineNow, zc_M_reads, zc_M_readNumber, zc_M_methodNow, zc_M_readNode, zc_M_readClass, zc_M_readHas, zc_M_readTest, zc_M_hasRoom, zc_M_readLineOf, zc_M_readLine, zc_M_isWhole, zc_M_text, zc_M_fault, zc_M_isMethod, zc_M_isNode, zc_M_isClass, zc_M_isName, zc_M_isTest, zc_M_isPart, zc_M_ofNode, zc_M_meantBy, zc_M_says, zc_M_goesTo, zc_M_comesBack, zc_M_enters, zc_M_goesOn, zc_M_callsIn, zc_M_runs, zc_M_ofTest, zc_M_runsTest, zc_M_areAlike, zc_M_pairsOn, zc_M_findPairs, zc_M_findDanger, zc_M_dangers, zc_M_dangersOf, zc_M_findOrder, zc_M_comesNext, zc_M_rankOf, zc_M_nodesOfAll, zc_M_costsChosen, zc_M_chosen, zc_M_areSame, zc_M_others, zc_M_rule, zc_M_node, zc_M_meant, zc_M_coveredMany, zc_M_nodesRun, zc_M_coveredBy, zc_M_dangersBy, zc_M_test, zc_M_said, zc_M_isEdge, zc_M_testsOver, zc_M_edge, zc_M_covers, zc_M_order, zc_M_same, zc_M_say, zc_M_lead, zc_M_nexts, zc_M_has, zc_M_becomes, zc_M_take, zc_M_leave, zc_M_comes, zc_M_add, zc_M_drop, zc_M_draw, zc_M_keep, zc_M_back, zc_M_isSheet, zc_M_sheet, zc_M_lay, zc_M_read, zc_M_torn, zc_M_callsOld, zc_M_isOther, zc_M_nodesOther, zc_M_edgesOver, zc_M_count]
def z_code (id : Nat) : z_C := z_codes.getD id (fun _ => none)
def z_rkT : Nat := 586872707794627578171953644506025093314913397636250163122963564518537233890663292873983940548031054358590376373256374724420619845613646791838180253450528595346849304325640788607199602913489317009097317416803180759920136200482301281400479974788553728900423750400368143728692775225401114215719914056596448513659308396407906325516773810921460840874488012012889564635765665707645502332553643775335564487291600050378776858652505616313882623143342296048040848293219619348058761913894440921234444424914903791754928217717945288860300542210
def z_recs (id : Nat) : Bool := Nat.ble 96 id && Nat.ble id 98
def z_mlT : Nat := 130729281144649194706473935430621995332048367736724773701319659149984750408227812949631600286746429937047109683412490067740230083319240190937355832367230570067663465240563887114621151594629694261869388182630263230527165667060319540394963281165349346072493584811515872382547464267660894733057911566137176340017310603080682725486716941162380341196756934687455782573678347599021859523607122097475992592887841219647452796320909277988610115671142950171302647230041551977990206232814199795269743050317959947539989985162584968671426380546
/-- how many words of locals a method has -/
def z_ml (id : Nat) : Nat := bif Nat.blt id 900 then (z_mlT >>> (8 * id)) % 256 else (match id with | 902 => 4 | 903 => 5 | 904 => 2 | 905 => 2 | 906 => 2 | 907 => 1 | _ => 2)
def z_rk (id : Nat) : Nat := bif Nat.blt id 900 then (z_rkT >>> (8 * id)) % 256 else (bif Nat.blt id 907 then 2 else 8)
def z_lastI : List Value → Nat
  | [] => 0
  | [.int c] => c.toNatClampNeg
  | _ :: r => z_lastI r
/-- how many frames a call of it may need above its own: the room -/
def z_rank (id : Nat) (args : List Value) : Nat := bif z_recs id then z_rk id + 3 * (5 - z_lastI args) else z_rk id
def z_bits (x0 : Int64) : Int32 :=
  let x1 := x0 - (((x0.toUInt64 >>> ((1 : Int32).toInt64.toUInt64 &&& Int64.toUInt64 63)).toInt64) &&& 6148914691236517205)
  let x2 := (x1 &&& 3689348814741910323) + (((x1.toUInt64 >>> ((2 : Int32).toInt64.toUInt64 &&& Int64.toUInt64 63)).toInt64) &&& 3689348814741910323)
  let x3 := (x2 + (x2.toUInt64 >>> ((4 : Int32).toInt64.toUInt64 &&& Int64.toUInt64 63)).toInt64) &&& 1085102592571150095
  let x4 := x3 + (x3.toUInt64 >>> ((8 : Int32).toInt64.toUInt64 &&& Int64.toUInt64 63)).toInt64
  let x5 := x4 + (x4.toUInt64 >>> ((16 : Int32).toInt64.toUInt64 &&& Int64.toUInt64 63)).toInt64
  let x6 := x5 + (x5.toUInt64 >>> ((32 : Int32).toInt64.toUInt64 &&& Int64.toUInt64 63)).toInt64
  x6.toInt32 &&& 127
/-- the text constants' letters -/
def z_txt (s : Nat) : List Int32 := match s with
  | 1000 => [109, 101, 116, 104, 111, 100]
  | 1001 => [115, 97, 121]
  | 1002 => [99, 97, 108, 108]
  | 1003 => [99, 108, 97, 115, 115]
  | 1004 => [104, 97, 115]
  | 1005 => [116, 101, 115, 116]
  | _ => []
def z_fiI (h : z_H) (o : Nat) (x : Int32) : z_H := (fun o' k' => bif Nat.beq o' o then x else h.1 o' k', h.2)
def z_fiL (h : z_H) (o : Nat) (x : Int64) : z_H := (h.1, fun o' k' => bif Nat.beq o' o then x else h.2.1 o' k', h.2.2)
/-- the library's own methods -/
def z_prim (id : Nat) (args : List Value) (h : z_H) : Option z_A := match id, args with
  | 902, [.ref o, .int x] => bif Nat.beq (z_K o) 20 then some (0, z_fiI h o x) else none
  | 903, [.ref o, .long x] => bif Nat.beq (z_K o) 21 then some (0, z_fiL h o x) else none
  | 904, [.int a, .int b] => some (if a < b then b else a, h)
  | 905, [.int a, .int b] => some (if b < a then b else a, h)
  | 906, [.long x] => some (z_bits x, h)
  | 907, [.ref s] => bif Nat.ble 1000 s && Nat.ble s 1005 then some (Int32.ofNat (z_txt s).length, h) else none
  | 908, [.ref s, .int i] => bif Nat.ble 1000 s && Nat.ble s 1005 && z_in i (z_txt s).length then some ((z_txt s).getD i.toNatClampNeg 0, h) else none
  | _, _ => none
def z_ret (c : Nat) (r : Int32) (s : z_S) (h : z_H) : z_S := (s.1, s.2.1, (match c with | 0 => s.2.2.1 | 1 => .int r :: s.2.2.1 | _ => .ref r.toNatClampNeg :: s.2.2.1), h)
def z_run (call : Nat → List Value → z_H → Option z_A) (C : z_C) (ρ : Nat) : Nat → z_S → Option z_A
  | 0, _ => none
  | n + 1, s => match z_step C s with
    | none => none
    | some (.inl s') => z_run call C ρ n s'
    | some (.inr (.inl r)) => some r
    | some (.inr (.inr (id, args, c, s'))) => if z_rank id args < ρ ∧ z_cat args ≤ z_ml id then (match call id args s'.2.2.2 with
      | none => none
      | some (r, h') => z_run call C ρ n (z_ret c r s' h')) else none
def z_ev : Nat → Nat → List Value → z_H → Option z_A
  | 0, _, _, _ => none
  | n + 1, id, args, h => if 900 ≤ id then z_prim id args h else z_run (z_ev n) (z_code id) (z_rank id args) n (0, lv_args 0 args, [], h)
theorem z_run_mono {call call' : Nat → List Value → z_H → Option z_A} (hc : ∀ id a h r, call id a h = some r → call' id a h = some r) {C : z_C} {ρ : Nat} : ∀ (n m : Nat) (s : z_S) (r : z_A), n ≤ m → z_run call C ρ n s = some r → z_run call' C ρ m s = some r := by
  intro n
  induction n with
  | zero => intro m s r _ h; simp [z_run] at h
  | succ n ih =>
    intro m s r hm h
    obtain ⟨m, rfl⟩ : ∃ k, m = k + 1 := ⟨m - 1, by omega⟩
    have hm : n ≤ m := by omega
    unfold z_run at h ⊢
    cases hs : z_step C s with
    | none => rw [hs] at h; simp at h
    | some o =>
      rw [hs] at h
      match o, h with
      | .inl s', h => exact ih m s' r hm h
      | .inr (.inl r'), h => exact h
      | .inr (.inr (id, args, c, s')), h =>
        simp only at h ⊢
        by_cases hr : z_rank id args < ρ ∧ z_cat args ≤ z_ml id
        · rw [if_pos hr] at h ⊢
          cases hq : call id args s'.2.2.2 with
          | none => rw [hq] at h; simp at h
          | some q =>
            obtain ⟨v, h'⟩ := q
            rw [hq] at h
            rw [hc _ _ _ _ hq]
            exact ih m _ r hm h
        · rw [if_neg hr] at h; simp at h
theorem z_ev_mono : ∀ (n m id : Nat) (a : List Value) (h : z_H) (r : z_A), n ≤ m → z_ev n id a h = some r → z_ev m id a h = some r := by
  intro n
  induction n with
  | zero => intro m id a h r _ e; simp [z_ev] at e
  | succ n ih =>
    intro m id a h r hm e
    obtain ⟨m, rfl⟩ : ∃ k, m = k + 1 := ⟨m - 1, by omega⟩
    unfold z_ev at e ⊢
    by_cases hp : 900 ≤ id
    · rw [if_pos hp] at e ⊢; exact e
    · rw [if_neg hp] at e ⊢
      exact z_run_mono (fun id a h r e => ih m id a h r (by omega) e) n m _ r (by omega) e
/-- what a method comes to (none: it doesn't come to an end within the small machine) -/
noncomputable def z_M (id : Nat) (a : List Value) (h : z_H) : Option z_A := by
  classical
  exact if hx : ∃ r, ∃ n, z_ev n id a h = some r then some (Classical.choose hx) else none
noncomputable def z_X (C : z_C) (ρ : Nat) (s : z_S) : Option z_A := by
  classical
  exact if hx : ∃ r, ∃ n, z_run (z_ev n) C ρ n s = some r then some (Classical.choose hx) else none
theorem z_run_det {C : z_C} {ρ : Nat} {s : z_S} {n m : Nat} {r r' : z_A} (h : z_run (z_ev n) C ρ n s = some r) (h' : z_run (z_ev m) C ρ m s = some r') : r = r' := by
  have a := z_run_mono (fun id a h r e => z_ev_mono n (n + m) id a h r (by omega) e) n (n + m) s r (by omega) h
  have b := z_run_mono (fun id a h r e => z_ev_mono m (n + m) id a h r (by omega) e) m (n + m) s r' (by omega) h'
  rw [a] at b
  exact Option.some.inj b
theorem z_ev_det {id : Nat} {a : List Value} {h : z_H} {n m : Nat} {r r' : z_A} (e : z_ev n id a h = some r) (e' : z_ev m id a h = some r') : r = r' := by
  have x := z_ev_mono n (n + m) id a h r (by omega) e
  have y := z_ev_mono m (n + m) id a h r' (by omega) e'
  rw [x] at y
  exact Option.some.inj y
theorem z_M_iff {id : Nat} {a : List Value} {h : z_H} {r : z_A} : z_M id a h = some r ↔ ∃ n, z_ev n id a h = some r := by
  classical
  unfold z_M
  constructor
  · intro e
    by_cases hx : ∃ r, ∃ n, z_ev n id a h = some r
    · rw [dif_pos hx] at e
      obtain ⟨n, hn⟩ := Classical.choose_spec hx
      exact ⟨n, by rw [← Option.some.inj e]; exact hn⟩
    · rw [dif_neg hx] at e; cases e
  · rintro ⟨n, hn⟩
    have hx : ∃ r, ∃ n, z_ev n id a h = some r := ⟨r, n, hn⟩
    rw [dif_pos hx]
    obtain ⟨m, hm⟩ := Classical.choose_spec hx
    rw [z_ev_det hm hn]
theorem z_X_iff {C : z_C} {ρ : Nat} {s : z_S} {r : z_A} : z_X C ρ s = some r ↔ ∃ n, z_run (z_ev n) C ρ n s = some r := by
  classical
  unfold z_X
  constructor
  · intro e
    by_cases hx : ∃ r, ∃ n, z_run (z_ev n) C ρ n s = some r
    · rw [dif_pos hx] at e
      obtain ⟨n, hn⟩ := Classical.choose_spec hx
      exact ⟨n, by rw [← Option.some.inj e]; exact hn⟩
    · rw [dif_neg hx] at e; cases e
  · rintro ⟨n, hn⟩
    have hx : ∃ r, ∃ n, z_run (z_ev n) C ρ n s = some r := ⟨r, n, hn⟩
    rw [dif_pos hx]
    obtain ⟨m, hm⟩ := Classical.choose_spec hx
    rw [z_run_det hm hn]
theorem z_opt_ext {α : Type} {a b : Option α} (h : ∀ r, a = some r ↔ b = some r) : a = b := by
  cases a with
  | none =>
    cases b with
    | none => rfl
    | some x => exact absurd ((h x).mpr rfl) (by simp)
  | some x => exact ((h x).mp rfl).symm
theorem z_X_step {C : z_C} {ρ : Nat} {s s' : z_S} (h : z_step C s = some (.inl s')) : z_X C ρ s = z_X C ρ s' := by
  apply z_opt_ext
  intro r
  rw [z_X_iff, z_X_iff]
  constructor
  · rintro ⟨n, hn⟩
    cases n with
    | zero => simp [z_run] at hn
    | succ n =>
      unfold z_run at hn
      rw [h] at hn
      exact ⟨n + 1, z_run_mono (fun _ _ _ _ e => e) n (n + 1) _ _ (by omega) hn⟩
  · rintro ⟨n, hn⟩
    refine ⟨n + 1, ?_⟩
    unfold z_run
    rw [h]
    exact z_run_mono (fun id a h r e => z_ev_mono n (n + 1) id a h r (by omega) e) n n _ _ (Nat.le_refl _) hn
theorem z_X_ret {C : z_C} {ρ : Nat} {s : z_S} {r : z_A} (h : z_step C s = some (.inr (.inl r))) : z_X C ρ s = some r := by
  rw [z_X_iff]
  exact ⟨1, by unfold z_run; rw [h]⟩
theorem z_X_none {C : z_C} {ρ : Nat} {s : z_S} (h : z_step C s = none) : z_X C ρ s = none := by
  apply z_opt_ext
  intro r
  rw [z_X_iff]
  constructor
  · rintro ⟨n, hn⟩
    cases n with
    | zero => simp [z_run] at hn
    | succ n =>
      unfold z_run at hn
      rw [h] at hn
      simp at hn
  · intro e; cases e
/-- what comes behind a call -/
def z_bd (a : Option z_A) (f : Int32 → z_H → Option z_A) : Option z_A := match a with
  | none => none
  | some (r, h) => f r h
theorem z_bd_some (r : Int32) (h : z_H) (f : Int32 → z_H → Option z_A) : z_bd (some (r, h)) f = f r h := rfl
theorem z_bd_none (f : Int32 → z_H → Option z_A) : z_bd none f = none := rfl
theorem z_X_call {C : z_C} {ρ : Nat} {s s' : z_S} {id c : Nat} {a : List Value} (h : z_step C s = some (.inr (.inr (id, a, c, s')))) (hr : z_rank id a < ρ ∧ z_cat a ≤ z_ml id) : z_X C ρ s = z_bd (z_M id a s'.2.2.2) (fun r h' => z_X C ρ (z_ret c r s' h')) := by
  apply z_opt_ext
  intro r
  rw [z_X_iff]
  constructor
  · rintro ⟨n, hn⟩
    cases n with
    | zero => simp [z_run] at hn
    | succ n =>
      unfold z_run at hn
      rw [h] at hn
      simp only [if_pos hr] at hn
      cases hq : z_ev (n + 1) id a s'.2.2.2 with
      | none => rw [hq] at hn; simp at hn
      | some q =>
        obtain ⟨v, h'⟩ := q
        rw [hq] at hn
        rw [z_M_iff.mpr ⟨n + 1, hq⟩]
        show z_X C ρ (z_ret c v s' h') = some r
        rw [z_X_iff]
        exact ⟨n + 1, z_run_mono (fun _ _ _ _ e => e) n (n + 1) _ _ (by omega) hn⟩
  · intro e
    cases hq : z_M id a s'.2.2.2 with
    | none => rw [hq] at e; cases e
    | some q =>
      obtain ⟨v, h'⟩ := q
      rw [hq] at e
      have e' : z_X C ρ (z_ret c v s' h') = some r := e
      rw [z_X_iff] at e'
      rw [z_M_iff] at hq
      obtain ⟨n, hn⟩ := hq
      obtain ⟨m, hm⟩ := e'
      refine ⟨n + m + 1, ?_⟩
      unfold z_run
      rw [h]
      simp only [if_pos hr]
      rw [z_ev_mono n (n + m + 1) _ _ _ _ (by omega) hn]
      exact z_run_mono (fun id a h r e => z_ev_mono m (n + m + 1) id a h r (by omega) e) m (n + m) _ _ (by omega) hm
theorem z_M_eq {id : Nat} {a : List Value} {h : z_H} (hid : ¬ 900 ≤ id) : z_M id a h = z_X (z_code id) (z_rank id a) (0, lv_args 0 a, [], h) := by
  apply z_opt_ext
  intro r
  rw [z_M_iff, z_X_iff]
  constructor
  · rintro ⟨n, hn⟩
    cases n with
    | zero => simp [z_ev] at hn
    | succ n =>
      unfold z_ev at hn
      rw [if_neg hid] at hn
      exact ⟨n, hn⟩
  · rintro ⟨n, hn⟩
    exact ⟨n + 1, by unfold z_ev; rw [if_neg hid]; exact hn⟩
theorem z_M_prim {id : Nat} {a : List Value} {h : z_H} (hid : 900 ≤ id) : z_M id a h = z_prim id a h := by
  apply z_opt_ext
  intro r
  rw [z_M_iff]
  constructor
  · rintro ⟨n, hn⟩
    cases n with
    | zero => simp [z_ev] at hn
    | succ n =>
      unfold z_ev at hn
      rw [if_pos hid] at hn
      exact hn
  · intro e
    exact ⟨1, by unfold z_ev; rw [if_pos hid]; exact e⟩
def z_steps (C : z_C) : Nat → z_S → Option z_S
  | 0, s => some s
  | k + 1, s => match z_step C s with
    | some (.inl s') => z_steps C k s'
    | _ => none
theorem z_X_steps {C : z_C} {ρ : Nat} (k : Nat) : ∀ {s s' : z_S}, z_steps C k s = some s' → z_X C ρ s = z_X C ρ s' := by
  induction k with
  | zero => intro s s' h; rw [Option.some.inj h]
  | succ k ih =>
    intro s s' h
    unfold z_steps at h
    split at h
    · rename_i s1 e
      rw [z_X_step e]
      exact ih h
    · cases h
theorem z_X_br {C : z_C} {ρ : Nat} {s s1 s2 : z_S} {c : Prop} [Decidable c] (h : z_step C s = some (.inl (if c then s1 else s2))) : z_X C ρ s = if c then z_X C ρ s1 else z_X C ρ s2 := by
  rw [z_X_step h]
  split <;> rfl
theorem z_X_if {C : z_C} {ρ : Nat} {s s' : z_S} {g : Bool} (h : z_step C s = z_if g (some (.inl s'))) : z_X C ρ s = bif g then z_X C ρ s' else none := by
  cases g with
  | true => exact z_X_step h
  | false => exact z_X_none h
theorem z_X_lab {C : z_C} {ρ : Nat} {s s' : z_S} (h : z_step C s = z_step C s') : z_X C ρ s = z_X C ρ s' := by
  apply z_opt_ext
  intro r
  rw [z_X_iff, z_X_iff]
  constructor <;>
  · rintro ⟨n, hn⟩
    refine ⟨n, ?_⟩
    cases n with
    | zero => simp [z_run] at hn
    | succ n =>
      unfold z_run at hn ⊢
      first | rw [h] at hn; exact hn | rw [← h] at hn; exact hn
