/-! THE PURE PART: the class's run comes to what is told -/
def q_wr (I : Nat → Nat → Int32) (o k : Nat) (x : Int32) : Nat → Nat → Int32 := fun o' k' => bif Nat.beq o' o then (bif Nat.beq k' k then x else I o' k') else I o' k'
theorem q_wr1 (I : Nat → Nat → Int32) (o k : Nat) (x : Int32) (o' k' : Nat) : q_wr I o k x o' k' = if o' = o ∧ k' = k then x else I o' k' := z_wI1 (I, (fun _ _ => 0), 0) o k x o' k'
def q_rc (I : Nat → Nat → Int32) (L : Nat → Nat → Int64) (c b : Nat) (s : q_R) : Prop := I 37 0 = s.1 ∧ I 37 1 = nI s.2.1 ∧ I 37 4 = nI c ∧ I 37 5 = nI b ∧ I 37 6 = nI s.2.2.1 ∧ I 37 7 = q_b s.2.2.2.2 ∧ q_es L 38 s.2.2.2.1
def q_frC (I I' : Nat → Nat → Int32) (L L' : Nat → Nat → Int64) : Prop := (∀ o k, o ≠ 37 → I' o k = I o k) ∧ ∀ o k, o ≠ 39 → L' o k = L o k
theorem q_frC.refl {I : Nat → Nat → Int32} {L : Nat → Nat → Int64} : q_frC I I L L := ⟨fun _ _ _ => rfl, fun _ _ _ => rfl⟩
theorem q_frC.trans {I I' I2 : Nat → Nat → Int32} {L L' L2 : Nat → Nat → Int64} (h1 : q_frC I I' L L') (h2 : q_frC I' I2 L' L2) : q_frC I I2 L L2 := ⟨fun o k q => (h2.1 o k q).trans (h1.1 o k q), fun o k q => (h2.2 o k q).trans (h1.2 o k q)⟩
theorem q_frC.wr {I : Nat → Nat → Int32} {L : Nat → Nat → Int64} (k : Nat) (x : Int32) : q_frC I (q_wr I 37 k x) L L := ⟨fun o j q => by rw [q_wr1, if_neg (fun c => q c.1)], fun _ _ _ => rfl⟩
def q_op2 (o p : Nat) : Prop := (o = 17 ∧ p = 0) ∨ (o = 25 ∧ p = 1)
theorem q_op2.in2 {o p : Nat} (h : q_op2 o p) : o ∈ [17, 25] := by rcases h with ⟨rfl, -⟩ | ⟨rfl, -⟩ <;> decide
theorem q_op2.in7 {o p : Nat} (h : q_op2 o p) : o ∈ [4, 17, 25, 73, 81, 94, 102] := by rcases h with ⟨rfl, -⟩ | ⟨rfl, -⟩ <;> decide
theorem q_op2.lt {o p : Nat} (h : q_op2 o p) : p < 2 ∧ 17 ≤ o ∧ o ≤ 25 := by rcases h with ⟨rfl, rfl⟩ | ⟨rfl, rfl⟩ <;> decide
theorem q_frC.prg {I I' : Nat → Nat → Int32} {L L' : Nat → Nat → Int64} {o p : Nat} {a : Nat → Nat} (h : q_frC I I' L L') (ho : q_op2 o p) (hg : q_prg I o p a) : q_prg I' o p a := hg.congr (fun o' k q1 q2 => h.1 o' k (by have := ho.lt; omega))
section QCR
variable {a : Nat → Nat} {p c b o m i : Nat} {s : q_R} {I : Nat → Nat → Int32} {L : Nat → Nat → Int64}
theorem q_cPut {d e : Nat} (hr : q_rc I L c b s) (he : e < 216) : ∃ L', z_M 103 [.ref 38, .int (nI e)] (I, L, d) = some (0, (I, L', d)) ∧ q_rc I L' c b (q_pE s e) ∧ q_frC I I L L' := by
  obtain ⟨r0, r1, r4, r5, r6, r7, rE⟩ := hr
  obtain ⟨L', k1, k2, k3⟩ := q_es_put (o := 38) (I := I) (d := d) (by decide) rE he
  exact ⟨L', k1, ⟨r0, r1, r4, r5, r6, r7, k2⟩, fun _ _ _ => rfl, fun o k q => k3 o k q⟩
theorem q_cGo22 (hop : q_op2 o p) (ho : q_ok a) (hg : q_prg I o p a) (hm : m < a 0) (hi : i < a (7 + m)) {k : Nat} (hk : k < a (q_at p m i + 2)) (hr : q_rc I L c b s) : ∃ L', zl_Ru_goOn_22 o (nI m) (nI i) (nI k) (I, L, o) = some (nI (a (q_at p m i + 3 + k)), (I, L', o)) ∧ q_rc I L' c b (q_pE s (16 * m + 2 * i + k)) ∧ q_frC I I L L' := by
  have o0 := ho.1
  have o7 := ho.2.2.2.1 m hm
  have bb := ho.2.2.2.2.1 p m i hop.lt.1 hm hi
  obtain ⟨g1, g2, g3, g4⟩ := hg.2.2.2.1 m i hm hi
  have g4k := g4 k (by omega)
  rw [if_pos hk] at g4k
  obtain ⟨L', k1, k2, k3⟩ := q_cPut (d := o) (e := 16 * m + 2 * i + k) hr (by omega)
  refine ⟨L', ?_, k2, k3⟩
  rw [e_Ru_goOn_22 hop.in2, q_edgeN, z_bd_some, show z_M 103 [.ref 38, .int (nI (16 * m + 2 * i + k))] ((I, L, o).1, (I, L, o).2.1, o) = _ from k1, z_bd_some, q_inC (show 16 * m + 2 * i + k < 96 by omega) (by decide), nI_clamp (by omega)]
  show some (I (o + 5) (16 * m + 2 * i + k), (I, L', o)) = _
  rw [g4k]
theorem q_smod8 : ∀ j, j < 8 → ((nI j).toBitVec.smod 32).toNat = j := by decide +kernel
theorem q_bitI {b k : Nat} (hb : b < 256) (hk : k < 2 ^ 31) : (nI b >>> ((nI k &&& 7) &&& 31)) &&& 1 = nI (b / 2 ^ (k % 8) % 2) := by
  rw [pk_andN (n := k) (m := 7) (by omega) 3 (by decide), show (2 : Nat) ^ 3 = 8 from rfl, pk_andN (n := k % 8) (m := 31) (by omega) 5 (by decide), show k % 8 % 2 ^ 5 = k % 8 by omega, pk_shrN (by omega) _ (k % 8) (q_smod8 _ (by omega)), pk_andN (m := 1) (Nat.lt_of_le_of_lt (Nat.div_le_self _ _) (by omega)) 1 (by decide)]
theorem q_cGoOn (hop : q_op2 o p) (ho : q_ok a) (hb : b < 256) (hg : q_prg I o p a) (hm : m < a 0) (hi : i < a (7 + m)) (hr : q_rc I L c b s) (hk : q_sk s) (ha : s.2.2.1 ≤ s.2.1) : ∃ I' L', z_M 99 [.ref 37, .int (nI m), .int (nI i), .int (nI (a (q_at p m i + 2)))] (I, L, o) = some (nI (q_nx a p m i b s), (I', L', o)) ∧ q_rc I' L' c b (q_go a p m i b s) ∧ q_frC I I' L L' := by
  have bb := ho.2.2.2.2.1 p m i hop.lt.1 hm hi
  have h60 := hk.1
  rw [e_Ru_goOn hop.in2]
  unfold q_nx q_go
  by_cases h0 : a (q_at p m i + 2) = 0
  · rw [if_pos h0, if_pos h0, h0]
    exact ⟨I, L, by rw [if_neg (fun q => q rfl)]; rfl, hr, q_frC.refl⟩
  · have n0 : ¬ nI (a (q_at p m i + 2)) = 0 := nI_ne0 (by omega) (by omega)
    rw [if_neg h0, if_neg h0, if_pos n0]
    have hkb := q_nk_b (b := b) ho hop.lt.1 hm hi s h0
    by_cases h1 : a (q_at p m i + 2) = 1
    · have e1 : q_nk a p m i b s = 0 := if_pos h1
      rw [e1] at hkb ⊢
      obtain ⟨L', k1, k2, k3⟩ := q_cGo22 hop ho hg hm hi hkb.1 hr
      refine ⟨I, L', ?_, ?_, k3⟩
      · rw [h1, if_neg (show ¬ ¬ nI 1 = 1 from fun q => q rfl)]
        exact k1
      · rw [if_neg (show ¬ a (q_at p m i + 2) = 2 by omega)]
        exact k2
    · have e1 : q_nk a p m i b s = b / 2 ^ (s.2.2.1 % 8) % 2 := if_neg h1
      have n1 : ¬ nI (a (q_at p m i + 2)) = 1 := fun q => h1 ((nI_eq (by omega) (by decide)).mp q)
      obtain ⟨r0, r1, r4, r5, r6, r7, rE⟩ := hr
      have ed : z_M 100 [.ref 37] (I, L, o) = some (nI (q_nk a p m i b s), (q_wr I 37 6 (nI (s.2.2.1 + 1)), L, o)) := by
        rw [e_Ru_decide]
        show some ((I 37 5 >>> ((I 37 6 &&& 7) &&& 31)) &&& 1, (q_wr I 37 6 (I 37 6 + 1), L, o)) = _
        rw [r5, r6, q_bitI hb (by omega), nI_1, e1]
      have hr2 : q_rc (q_wr I 37 6 (nI (s.2.2.1 + 1))) L c b (s.1, s.2.1, s.2.2.1 + 1, s.2.2.2) := by
        refine ⟨?_, ?_, ?_, ?_, ?_, ?_, rE⟩
        · rw [q_wr1, if_neg (by omega)]; exact r0
        · rw [q_wr1, if_neg (by omega)]; exact r1
        · rw [q_wr1, if_neg (by omega)]; exact r4
        · rw [q_wr1, if_neg (by omega)]; exact r5
        · rw [q_wr1, if_pos ⟨rfl, rfl⟩]
        · rw [q_wr1, if_neg (by omega)]; exact r7
      have fr := q_frC.wr (I := I) (L := L) 6 (nI (s.2.2.1 + 1))
      obtain ⟨L', k1, k2, k3⟩ := q_cGo22 hop ho (fr.prg hop hg) hm hi hkb.1 hr2
      refine ⟨q_wr I 37 6 (nI (s.2.2.1 + 1)), L', ?_, ?_, fr.trans k3⟩
      · rw [if_pos n1, ed, z_bd_some]
        exact k1
      · rw [if_pos (show a (q_at p m i + 2) = 2 by omega)]
        exact k2
/-- to enter by the class, with so many calls within one another, is as told -/
def q_EC (a : Nat → Nat) (p c b o k : Nat) (sub : Nat → q_R → q_R) : Prop := ∀ m s I L, m < a 0 → q_sk s → s.2.2.1 ≤ s.2.1 → s.2.2.2.2 = false → q_prg I o p a → q_rc I L c b s → ∃ I' L', z_M 96 [.ref 37, .int (nI m), .int (nI k)] (I, L, o) = some (0, (I', L', o)) ∧ q_rc I' L' c b (sub m s) ∧ q_frC I I' L L'
theorem q_rk96 (x : Int32) {k : Nat} (hk : k < 2 ^ 31) : z_rank 96 [.ref 37, .int x, .int (nI k)] = 5 + 3 * (5 - k) := by
  show 5 + 3 * (5 - (nI k).toNatClampNeg) = _
  rw [nI_clamp hk]
theorem q_rk96' {k : Nat} (hk : k < 2 ^ 31) : z_rank 96 [.int (nI k)] = 5 + 3 * (5 - k) := by
  show 5 + 3 * (5 - (nI k).toNatClampNeg) = _
  rw [nI_clamp hk]
theorem q_rk97 (x y : Int32) {k : Nat} (hk : k < 2 ^ 31) : z_rank 97 [.ref 37, .int x, .int y, .int (nI k)] = 4 + 3 * (5 - k) := by
  show 4 + 3 * (5 - (nI k).toNatClampNeg) = _
  rw [nI_clamp hk]
theorem q_rk97' {k : Nat} (hk : k < 2 ^ 31) : z_rank 97 [.int (nI k)] = 4 + 3 * (5 - k) := by
  show 4 + 3 * (5 - (nI k).toNatClampNeg) = _
  rw [nI_clamp hk]
theorem q_rk98 (x : Int32) {k : Nat} (hk : k < 2 ^ 31) : z_rank 98 [.ref 37, .int x, .int (nI k)] = 3 + 3 * (5 - k) := by
  show 3 + 3 * (5 - (nI k).toNatClampNeg) = _
  rw [nI_clamp hk]
theorem q_rk98' {k : Nat} (hk : k < 2 ^ 31) : z_rank 98 [.int (nI k)] = 3 + 3 * (5 - k) := by
  show 3 + 3 * (5 - (nI k).toNatClampNeg) = _
  rw [nI_clamp hk]
theorem q_cMe (hop : q_op2 o p) (ho : q_ok a) (hc : c < a 1) {k : Nat} (hk4 : k ≤ 4) {sub : Nat → q_R → q_R} (hsub : (k < 4 ∧ q_EC a p c b o (k + 1) sub) ∨ (k = 4 ∧ sub = fun _ s => s)) {n : Nat} (hn : n < 4) (hg : q_prg I o p a) (hr : q_rc I L c b s) (hk : q_sk s) (ha : s.2.2.1 ≤ s.2.1) (hcut : s.2.2.2.2 = false) : ∃ I' L', z_M 98 [.ref 37, .int (nI n), .int (nI k)] (I, L, o) = some (0, (I', L', o)) ∧ q_rc I' L' c b (if q_mean a p n 4 c = 999 then q_pE s (200 + 4 * c + n) else sub (q_mean a p n 4 c) (q_pE s (200 + 4 * c + n))) ∧ q_frC I I' L L' := by
  have o1 := ho.2.1
  have ez := (z_M_eq (id := 98) (a := [.ref 37, .int (nI n), .int (nI k)]) (h := (I, L, o)) (by decide)).trans (ez_Ru_enterMeant (ρ := z_rank 98 [.ref 37, .int (nI n), .int (nI k)]) hop.in2 (by rw [q_rk98 _ (by omega)]; omega) (nI n) (nI k) I L (by rw [nI_1, q_rk96' (by omega), q_rk98 _ (by omega)]; omega))
  obtain ⟨L1, k1, k2, k3⟩ := q_cPut (d := o) (e := 200 + 4 * c + n) hr (by omega)
  have r4 := hr.2.2.1
  have em : z_M 79 [.ref o, .int (nI c), .int (nI n)] (I, L1, o) = some (q_v (q_mean a p n 4 c), (I, L1, o)) := q_meantC hop.in7 hop.lt.1 ho hg hc hn
  have em' : z_M 79 [.ref o, .int (I 37 4), .int (nI n)] (I, L1, o) = some (q_v (q_mean a p n 4 c), (I, L1, o)) := by
    rw [r4]
    exact em
  have e1 : z_M 98 [.ref 37, .int (nI n), .int (nI k)] (I, L, o) = (if q_v (q_mean a p n 4 c) = (-4) then some (0, (I, L1, o)) else (if (4 : Int32) ≤ nI k then some (0, (I, L1, o)) else z_bd (z_M 96 [.ref 37, .int (q_v (q_mean a p n 4 c)), .int (nI k + 1)] (I, L1, o)) (fun r7 h8 => some (0, (h8.1, h8.2.1, o))))) := by
    rw [ez, show z_M 44 [.int ((I, L, o).1 37 4), .int (nI n)] (I, L, o) = some (nI (200 + 4 * c + n), (I, L, o)) from by
      show z_M 44 [.int (I 37 4), .int (nI n)] (I, L, o) = _
      rw [r4, q_edgeC], z_bd_some, show z_M 103 [.ref 38, .int (nI (200 + 4 * c + n))] ((I, L, o).1, (I, L, o).2.1, o) = _ from k1, z_bd_some, show z_M 79 [.ref o, .int (((I, L1, o).1, (I, L1, o).2.1, o).1 37 4), .int (nI n)] ((I, L1, o).1, (I, L1, o).2.1, o) = some (q_v (q_mean a p n 4 c), (I, L1, o)) from em', z_bd_some]
  rw [e1]
  by_cases h9 : q_mean a p n 4 c = 999
  · rw [if_pos (by rw [h9]; rfl), if_pos h9]
    exact ⟨I, L1, rfl, k2, k3⟩
  · have hlt := (q_mean_b ho hop.lt.1 hn 4 c).resolve_left h9
    have o0 := ho.1
    rw [if_neg (q_vm (by omega)), if_neg h9]
    rcases hsub with ⟨hk3, hE⟩ | ⟨rfl, rfl⟩
    · have hst := q_pE_sk (e := 200 + 4 * c + n) hk (by omega)
      obtain ⟨I2, L2, j1, j2, j3⟩ := hE (q_mean a p n 4 c) (q_pE s (200 + 4 * c + n)) I L1 hlt hst.1 ha hcut hg k2
      refine ⟨I2, L2, ?_, j2, k3.trans j3⟩
      rw [n_4, if_neg (nI_ge hk3 (by decide)), q_vn h9, nI_1, j1, z_bd_some]
    · exact ⟨I, L1, by rw [if_pos (by decide)], k2, k3⟩
end QCR
