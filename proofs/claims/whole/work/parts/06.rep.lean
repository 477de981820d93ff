/-! WHAT A PICTURE SAYS OF THE HEAP: G holds the address of object 0, the text constants' addresses, the numbers of the classes, of their fields' places, of the row classes -/
abbrev z_G : Type := Nat × (Nat → Nat) × (Nat → ClassId) × (Nat → Nat → Nat) × (Nat → ClassId)
def z_ad (G : z_G) (o : Nat) : Nat := bif Nat.blt o 141 then G.1 + o else G.2.1 o
def z_rv (G : z_G) (o : Nat) : Value := bif Nat.beq o 999 then .null else .ref (z_ad G o)
def z_up (G : z_G) : Value → Value
  | .ref o => z_rv G o
  | v => v
def z_ul (G : z_G) (l : z_L) : List (Nat × Value) := l.map (fun q => (q.1, z_up G q.2))
def z_fv (G : z_G) (h : z_H) (o k : Nat) : Value := match z_ft (z_K o) k with
  | 1 => z_rv G (z_R o k)
  | 2 => z_rv G h.2.2
  | _ => .int (h.1 o k)
def z_av (G : z_G) (h : z_H) (o k : Nat) : Value := bif Nat.beq (z_K o) 21 then .long (h.2.1 o k) else bif Nat.ble 24 (z_K o) then z_rv G (z_R o k) else .int (h.1 o k)
def z_ob (G : z_G) (h : z_H) (H : Heap) (o : Nat) : Prop :=
  (z_K o < 20 → ∃ cell : Cell, H[G.1 + o]? = some cell ∧ cell.cls = G.2.2.1 (z_K o - 1) ∧ cell.vm = .none ∧ ∀ k, k < z_N o → cell.slots[G.2.2.2.1 (z_K o - 1) k]? = some (z_fv G h o k)) ∧
  (20 ≤ z_K o → H[G.1 + o]? = some (arrV (G.2.2.2.2 (z_K o)) (z_N o) (z_av G h o)))
def z_Rep (G : z_G) (h : z_H) (H : Heap) : Prop := ∀ o, o < 141 → z_ob G h H o
def z_tys (G : z_G) : List (ClassId × FieldType) := [(G.2.2.2.2 20, .int), (G.2.2.2.2 21, .long), (G.2.2.2.2 22, .byte), (G.2.2.2.2 23, .boolean), (G.2.2.2.2 24, .object "TestChoice$EdgeSet"), (G.2.2.2.2 25, .object "TestChoice$Image"), (G.2.2.2.2 26, .object "TestChoice$Sheet")]
def z_word (s : Nat) : String := match s with
  | 0 => "method"
  | 1 => "say"
  | 2 => "call"
  | 3 => "class"
  | 4 => "has"
  | _ => "test"
def z_Kn (G : z_G) (U : State) : Prop := va_K (G.2.2.1, G.2.2.2.1) z_cl (z_tys G) U ∧ (∀ (a : String) (i : Nat) (x : MethodName) (h : String), Cond.methodLinkNest a i x h ∈ lw_tbl → va_Nw (.methodLinkNest a i x h) U) ∧ ∀ j, j < 6 → vk_R "TestChoice$Reader" (100 + 2 * j) (z_word j) (G.2.1 (1000 + j)) U
/-- the text constants themselves: old cells -/
def z_St (G : z_G) (U : State) (H : Heap) : Prop := ∃ adV : Nat → Nat, vk_S 6 [6, 3, 4, 5, 3, 4] ((List.range 6).map (fun j => z_txt (1000 + j))) (fun j => G.2.1 (1000 + j)) adV (fun q => G.1 ≤ q) U H ∧ va_Z "java/lang/String" "COMPACT_STRINGS" "Z" (.int 1) (fun q => G.1 ≤ q) U H ∧ va_Zq "jdk/internal/util/Preconditions" "SIOOBE_FORMATTER" "Ljava/util/function/BiFunction;" (fun q => G.1 ≤ q) U H
theorem z_Kn.warm {G : z_G} {s U : State} (hW : s.WarmedH U.vm) (h : z_Kn G s) : z_Kn G U := ⟨va_K.moved hW.alike h.1, fun a i x hh hm => va_Nw.warmM hW (h.2.1 a i x hh hm), fun j hj => vk_R.warm hW (h.2.2 j hj)⟩
theorem z_Kn.same {G : z_G} {s U : State} (hv : U.vm = s.vm) (h : z_Kn G s) : z_Kn G U := ⟨va_K.moved (u := s) (by rw [hv]; exact Vm.Alike.refl _) h.1, fun a i x hh hm => va_Nw.same rfl hv.symm (h.2.1 a i x hh hm), fun j hj => vk_R.same hv (h.2.2 j hj)⟩
theorem z_St.to {G : z_G} {s U : State} {H H1 : Heap} (hvm : s.vm.Alike U.vm) (hq : ∀ a : Nat, a < H.size → ¬ G.1 ≤ a → H1[a]? = H[a]?) (h : z_St G s H) : z_St G U H1 := by
  obtain ⟨adV, h, h2, h3⟩ := h
  exact ⟨adV, (h.kept hq).moved hvm, (h2.kept hq).moved hvm, (h3.kept hq).moved hvm⟩
def z_Fr (G : z_G) (s : State) (H : Heap) (locs : List Loc) : Prop := H.size = s.heap.size ∧ (∀ q, q < G.1 → H[q]? = s.heap[q]?) ∧ ∀ q ∈ locs, G.1 ≤ q.base
theorem z_Fr.put {G : z_G} {s : State} {H H1 : Heap} {locs : List Loc} {o k : Nat} (h : z_Fr G s H locs) (z : H1.size = H.size) (oq : ∀ q, q ≠ G.1 + o → H1[q]? = H[q]?) : z_Fr G s H1 (locs ++ [⟨G.1 + o, k⟩]) := by
  refine ⟨z.trans h.1, fun q hq => (oq q (by omega)).trans (h.2.1 q hq), fun q hq => ?_⟩
  rcases List.mem_append.mp hq with h1 | h1
  · exact h.2.2 q h1
  · rw [List.mem_singleton] at h1
    subst h1
    exact Nat.le_add_right _ _
theorem z_beqF {a b : Nat} (h : a ≠ b) : Nat.beq a b = false := by
  cases hb : Nat.beq a b with
  | false => rfl
  | true => exact absurd (Nat.eq_of_beq_eq_true hb) h
theorem z_beqT (a : Nat) : Nat.beq a a = true := Nat.beq_refl a
theorem z_beq {a b : Nat} (h : Nat.beq a b = true) : a = b := Nat.eq_of_beq_eq_true h
/-! the tables' own facts -/
theorem z_K_lt {o : Nat} (h : ¬ z_K o = 0) : o < 141 := by
  apply Decidable.byContradiction
  intro hn
  apply h
  have h1 : 2 ^ (8 * 141) ≤ 2 ^ (8 * o) := Nat.pow_le_pow_right (by decide) (by omega)
  have h2 : z_KT < 2 ^ (8 * 141) := by decide +kernel
  unfold z_K
  rw [Nat.shiftRight_eq_div_pow, Nat.div_eq_of_lt (Nat.lt_of_lt_of_le h2 h1)]
theorem z_K_cls : ∀ o, o < 141 → z_K o < 20 → 1 ≤ z_K o ∧ z_K o ≤ 12 ∧ z_N o = (z_cl.getD (z_K o - 1) ("", z_F0, 0)).2.2 := by decide +kernel
theorem z_K_row : ∀ o, o < 141 → 20 ≤ z_K o → z_K o ≤ 26 ∧ z_N o < 65536 := by decide +kernel
theorem z_R_ok : ∀ o, o < 141 → 24 ≤ z_K o → ∀ k, k < z_N o → z_R o k < 141 := by decide +kernel
theorem z_wI1 (h : z_H) (o k : Nat) (x : Int32) (o' k' : Nat) : (z_wI h o k x).1 o' k' = if o' = o ∧ k' = k then x else h.1 o' k' := by
  unfold z_wI
  by_cases h1 : o' = o
  · by_cases h2 : k' = k
    · simp [h1, h2]
    · have := z_beqF h2
      simp [h1, h2, this]
  · have := z_beqF h1
    simp [h1, this]
theorem z_wL1 (h : z_H) (o k : Nat) (x : Int64) (o' k' : Nat) : (z_wL h o k x).2.1 o' k' = if o' = o ∧ k' = k then x else h.2.1 o' k' := by
  unfold z_wL
  by_cases h1 : o' = o
  · by_cases h2 : k' = k
    · simp [h1, h2]
    · have := z_beqF h2
      simp [h1, h2, this]
  · have := z_beqF h1
    simp [h1, this]
/-- an object that isn't touched stays -/
theorem z_ob.other {G : z_G} {h h' : z_H} {H H1 : Heap} {o : Nat} (hO : z_ob G h H o) (hq : H1[G.1 + o]? = H[G.1 + o]?) (h1 : ∀ k, h'.1 o k = h.1 o k) (h2 : ∀ k, h'.2.1 o k = h.2.1 o k) (h3 : (∀ k, k < z_N o → z_ft (z_K o) k ≠ 2) ∨ h'.2.2 = h.2.2) : z_ob G h' H1 o := by
  refine ⟨fun hk => ?_, fun hk => ?_⟩
  · obtain ⟨cell, c1, c2, c3, c4⟩ := hO.1 hk
    refine ⟨cell, by rw [hq]; exact c1, c2, c3, fun k hkN => ?_⟩
    rw [c4 k hkN]
    unfold z_fv
    rcases h3 with h3 | h3
    · have := h3 k hkN
      split <;> first | rfl | (rename_i e; exact absurd e this) | (rw [h1])
    · split <;> first | rfl | (rw [h3]) | (rw [h1])
  · rw [hq, hO.2 hk]
    have : z_av G h o = z_av G h' o := by
      funext k
      unfold z_av
      rw [h1, h2]
    rw [this]
/-- an int place of an object is written -/
theorem z_Rep.fld {G : z_G} {h : z_H} {H H1 : Heap} {o k : Nat} {x : Int32} {cell : Cell} (hR : z_Rep G h H) (ho : o < 141) (hK : z_K o < 20) (hft : z_ft (z_K o) k ≠ 1 ∧ z_ft (z_K o) k ≠ 2)
    (hc : H[G.1 + o]? = some cell) (e1 : H1[G.1 + o]? = some (cell.setSlot (G.2.2.2.1 (z_K o - 1) k) (.int x))) (oq : ∀ q, q ≠ G.1 + o → H1[q]? = H[q]?) (hap : ∀ a b, a < z_N o → b < z_N o → a ≠ b → G.2.2.2.1 (z_K o - 1) a ≠ G.2.2.2.1 (z_K o - 1) b) (hk : k < z_N o) : z_Rep G (z_wI h o k x) H1 := by
  intro o' ho'
  by_cases he : o' = o
  · subst he
    refine ⟨fun _ => ?_, fun h20 => absurd h20 (by omega)⟩
    obtain ⟨cell', c1, c2, c3, c4⟩ := (hR o' ho').1 hK
    cases c1.symm.trans hc
    refine ⟨_, e1, c2, c3, fun j hj => ?_⟩
    rw [t_set (V := z_fv G h o') c4 hap hk (.int x) j hj]
    unfold updV z_fv
    by_cases hjk : j = k
    · subst hjk
      rw [if_pos rfl]
      have : (z_wI h o' j x).1 o' j = x := by rw [z_wI1]; simp
      split <;> first | (rename_i e; exact absurd e hft.1) | (rename_i e; exact absurd e hft.2) | (rw [this])
    · rw [if_neg hjk]
      have : (z_wI h o' k x).1 o' j = h.1 o' j := by rw [z_wI1]; simp [hjk]
      split <;> first | rfl | (rw [this])
  · exact (hR o' ho').other (oq _ (by omega)) (fun j => by rw [z_wI1]; simp [he]) (fun _ => rfl) (Or.inr rfl)
theorem z_arrStore (cA : ClassId) (N k : Nat) (f : Nat → Value) (x : Value) : (arrV cA N f).setSlot k x = arrV cA N (updV f k x) := arrV_store cA N k f x
/-- an int place of a row is written -/
theorem z_Rep.row {G : z_G} {h : z_H} {H H1 : Heap} {o k : Nat} {x : Int32} (hR : z_Rep G h H) (ho : o < 141) (hK : z_K o = 20 ∨ z_K o = 22 ∨ z_K o = 23)
    (e1 : H1[G.1 + o]? = some ((arrV (G.2.2.2.2 (z_K o)) (z_N o) (z_av G h o)).setSlot k (.int x))) (oq : ∀ q, q ≠ G.1 + o → H1[q]? = H[q]?) : z_Rep G (z_wI h o k x) H1 := by
  intro o' ho'
  by_cases he : o' = o
  · subst he
    refine ⟨fun h20 => absurd h20 (by omega), fun _ => ?_⟩
    rw [e1, arrV_store]
    have : updV (z_av G h o') k (.int x) = z_av G (z_wI h o' k x) o' := by
      funext j
      unfold updV z_av
      have a1 : Nat.beq (z_K o') 21 = false := z_beqF (by omega)
      have a2 : Nat.ble 24 (z_K o') = false := by
        cases hb : Nat.ble 24 (z_K o') with
        | false => rfl
        | true => have := Nat.le_of_ble_eq_true hb; omega
      rw [a1, a2]
      simp only [cond_false]
      rw [z_wI1]
      by_cases hjk : j = k
      · simp [hjk]
      · simp [hjk]
    rw [this]
  · exact (hR o' ho').other (oq _ (by omega)) (fun j => by rw [z_wI1]; simp [he]) (fun _ => rfl) (Or.inr rfl)
theorem z_Rep.rowL {G : z_G} {h : z_H} {H H1 : Heap} {o k : Nat} {x : Int64} (hR : z_Rep G h H) (ho : o < 141) (hK : z_K o = 21)
    (e1 : H1[G.1 + o]? = some ((arrV (G.2.2.2.2 (z_K o)) (z_N o) (z_av G h o)).setSlot k (.long x))) (oq : ∀ q, q ≠ G.1 + o → H1[q]? = H[q]?) : z_Rep G (z_wL h o k x) H1 := by
  intro o' ho'
  by_cases he : o' = o
  · subst he
    refine ⟨fun h20 => absurd h20 (by omega), fun _ => ?_⟩
    rw [e1, arrV_store]
    have : updV (z_av G h o') k (.long x) = z_av G (z_wL h o' k x) o' := by
      funext j
      unfold updV z_av
      have a1 : Nat.beq (z_K o') 21 = true := by rw [hK]; rfl
      rw [a1]
      simp only [cond_true]
      rw [z_wL1]
      by_cases hjk : j = k
      · simp [hjk]
      · simp [hjk]
    rw [this]
  · exact (hR o' ho').other (oq _ (by omega)) (fun _ => rfl) (fun j => by rw [z_wL1]; simp [he]) (Or.inr rfl)
/-! locals -/
theorem z_up_cat (G : z_G) (v : Value) : (z_up G v).category = v.category := by
  cases v <;> try rfl
  rename_i a
  show (z_rv G a).category = 1
  unfold z_rv
  cases Nat.beq a 999 <;> rfl
theorem z_get_mem {l : z_L} {a : Nat} {v : Value} (h : z_get l a = some v) : (a, v) ∈ l := by
  induction l with
  | nil => cases h
  | cons q r ih =>
    obtain ⟨i, w⟩ := q
    unfold z_get at h
    by_cases hi : i = a
    · subst hi
      rw [z_beqT] at h
      cases h
      exact List.mem_cons_self
    · rw [z_beqF hi] at h
      exact List.mem_cons_of_mem _ (ih h)
theorem z_ul_get {G : z_G} {l : z_L} {a : Nat} {v : Value} (h : z_get l a = some v) : ∃ k : Nat, (z_ul G l)[k]? = some (a, z_up G v) := List.getElem?_of_mem (List.mem_map.mpr ⟨_, z_get_mem h, rfl⟩)
theorem z_ul_put1 (G : z_G) (l : z_L) (i : Nat) (v : Value) : (i, z_up G v) :: (z_ul G l).filter (fun q => !(q.1 == i) && !(q.1 + 1 == i && q.2.category == 2)) = z_ul G (z_put1 l i v) := by
  unfold z_ul z_put1
  rw [List.map_cons, List.filter_map]
  congr 2
  apply List.filter_congr
  intro q _
  simp only [Function.comp, z_up_cat]
theorem z_ul_put2 (G : z_G) (l : z_L) (i : Nat) (v : Value) : (i, z_up G v) :: (z_ul G l).filter (fun q => !(q.1 == i) && (!(q.1 == i + 1) && !(q.1 + 1 == i && q.2.category == 2))) = z_ul G (z_put2 l i v) := by
  unfold z_ul z_put2
  rw [List.map_cons, List.filter_map]
  congr 2
  apply List.filter_congr
  intro q _
  simp only [Function.comp, z_up_cat]
theorem z_norm_has {G : z_G} {ls : Array Slot} {nL : Nat} {lab : Option (List Nat)} {l : z_L} (h : lv_has ls nL (z_ul G l)) : lv_has ls nL (z_ul G (z_norm lab l)) := by
  refine ⟨h.1, h.2.1, fun q hq => ?_⟩
  cases lab with
  | none => exact h.2.2 q hq
  | some L =>
    obtain ⟨w, hw, rfl⟩ := List.mem_map.mp hq
    obtain ⟨i, -, hi⟩ := List.mem_filterMap.mp hw
    cases hg : z_get l i with
    | none => rw [hg] at hi; cases hi
    | some v =>
      rw [hg] at hi
      cases hi
      exact h.2.2 (i, z_up G v) (List.mem_map.mpr ⟨_, z_get_mem hg, rfl⟩)
theorem z_lvargs (G : z_G) (vs : List Value) : ∀ i : Nat, lv_args i (vs.map (z_up G)) = z_ul G (lv_args i vs) := by
  induction vs with
  | nil => intro i; rfl
  | cons v r ih =>
    intro i
    simp only [List.map_cons, lv_args, z_ul, z_up_cat]
    rw [ih]
    rfl
