/-! THE LAW'S START: all that is fixed there -/
def sRep : List (String × Nat) := [("PairKeeper", 342), ("PairKeeper", 349), ("PairKeeper$Reader", 52), ("PairKeeper$Reader", 66), ("PairKeeper$Reader", 77), ("PairKeeper$Reader", 85), ("PairKeeper$Reader", 90), ("PairKeeper$Reader", 95), ("PairKeeper$Reader", 100), ("PairKeeper$Reader", 127), ("PairKeeper$Reader", 129)]
def sTm (i : Nat) : Term := .string (sRep.getD i ("", 0)).1 (sRep.getD i ("", 0)).2
def gFL : List Cond := flatC (Jvm.Cond.and given_1 narrow_1)
theorem eqR {args : Array Value} {s : State} {t u : Term} {a b : Nat} (h : (Cond.eq t u).before args s = true) (ht : t.eval args s none [] s = some (.ref a)) (hu : u.eval args s none [] s = some (.ref b)) : a = b := by
  simpa [Cond.before, Cond.holds, Cond.value, ht, hu] using h
theorem s_ex : ∀ i, i < 11 → Cond.exactly (sTm i) "java/lang/String" ∈ gFL := by decide +kernel
theorem s_co : ∀ i, i < 11 → Cond.eq (.field (sTm i) "java/lang/String" "coder" "B") (.int 0) ∈ gFL := by decide +kernel
theorem s_ar : ∀ i, i < 11 → Cond.arrayOf (.field (sTm i) "java/lang/String" "value" "[B") .byte ∈ gFL := by decide +kernel
theorem s_le : ∀ i, i < 11 → Cond.eq (.length (.field (sTm i) "java/lang/String" "value" "[B")) (.int (Int32.ofNat (sLen.getD i 0))) ∈ gFL := by decide +kernel
theorem s_el : ∀ i, i < 11 → ∀ j, j < sLen.getD i 0 → Cond.eq (.elem (.field (sTm i) "java/lang/String" "value" "[B") (.int (Int32.ofNat j))) (.int ((sByt.getD i []).getD j 0)) ∈ gFL := by decide +kernel
def sNe : List (List Nat) := [[0, 222, 70, 80, 89, 100, 141, 158, 174, 114, 127], [222, 0, 223, 224, 225, 226, 229, 230, 231, 227, 228], [70, 223, 0, 81, 90, 101, 142, 159, 175, 115, 128], [80, 224, 81, 0, 91, 102, 143, 160, 176, 116, 129], [89, 225, 90, 91, 0, 103, 144, 161, 177, 117, 130], [100, 226, 101, 102, 103, 0, 145, 162, 178, 118, 131], [141, 229, 142, 143, 144, 145, 0, 165, 181, 146, 147], [158, 230, 159, 160, 161, 162, 165, 0, 182, 163, 164], [174, 231, 175, 176, 177, 178, 181, 182, 0, 179, 180], [114, 227, 115, 116, 117, 118, 146, 163, 179, 0, 132], [127, 228, 128, 129, 130, 131, 147, 164, 180, 132, 0]]
theorem s_ne_0 : ∀ j, j < 11 → 0 ≠ j → gFL[(sNe.getD 0 []).getD j 0]? = some (Cond.not (Cond.eq (sTm 0) (sTm j))) ∨ gFL[(sNe.getD 0 []).getD j 0]? = some (Cond.not (Cond.eq (sTm j) (sTm 0))) := by decide +kernel
theorem s_ne_1 : ∀ j, j < 11 → 1 ≠ j → gFL[(sNe.getD 1 []).getD j 0]? = some (Cond.not (Cond.eq (sTm 1) (sTm j))) ∨ gFL[(sNe.getD 1 []).getD j 0]? = some (Cond.not (Cond.eq (sTm j) (sTm 1))) := by decide +kernel
theorem s_ne_2 : ∀ j, j < 11 → 2 ≠ j → gFL[(sNe.getD 2 []).getD j 0]? = some (Cond.not (Cond.eq (sTm 2) (sTm j))) ∨ gFL[(sNe.getD 2 []).getD j 0]? = some (Cond.not (Cond.eq (sTm j) (sTm 2))) := by decide +kernel
theorem s_ne_3 : ∀ j, j < 11 → 3 ≠ j → gFL[(sNe.getD 3 []).getD j 0]? = some (Cond.not (Cond.eq (sTm 3) (sTm j))) ∨ gFL[(sNe.getD 3 []).getD j 0]? = some (Cond.not (Cond.eq (sTm j) (sTm 3))) := by decide +kernel
theorem s_ne_4 : ∀ j, j < 11 → 4 ≠ j → gFL[(sNe.getD 4 []).getD j 0]? = some (Cond.not (Cond.eq (sTm 4) (sTm j))) ∨ gFL[(sNe.getD 4 []).getD j 0]? = some (Cond.not (Cond.eq (sTm j) (sTm 4))) := by decide +kernel
theorem s_ne_5 : ∀ j, j < 11 → 5 ≠ j → gFL[(sNe.getD 5 []).getD j 0]? = some (Cond.not (Cond.eq (sTm 5) (sTm j))) ∨ gFL[(sNe.getD 5 []).getD j 0]? = some (Cond.not (Cond.eq (sTm j) (sTm 5))) := by decide +kernel
theorem s_ne_6 : ∀ j, j < 11 → 6 ≠ j → gFL[(sNe.getD 6 []).getD j 0]? = some (Cond.not (Cond.eq (sTm 6) (sTm j))) ∨ gFL[(sNe.getD 6 []).getD j 0]? = some (Cond.not (Cond.eq (sTm j) (sTm 6))) := by decide +kernel
theorem s_ne_7 : ∀ j, j < 11 → 7 ≠ j → gFL[(sNe.getD 7 []).getD j 0]? = some (Cond.not (Cond.eq (sTm 7) (sTm j))) ∨ gFL[(sNe.getD 7 []).getD j 0]? = some (Cond.not (Cond.eq (sTm j) (sTm 7))) := by decide +kernel
theorem s_ne_8 : ∀ j, j < 11 → 8 ≠ j → gFL[(sNe.getD 8 []).getD j 0]? = some (Cond.not (Cond.eq (sTm 8) (sTm j))) ∨ gFL[(sNe.getD 8 []).getD j 0]? = some (Cond.not (Cond.eq (sTm j) (sTm 8))) := by decide +kernel
theorem s_ne_9 : ∀ j, j < 11 → 9 ≠ j → gFL[(sNe.getD 9 []).getD j 0]? = some (Cond.not (Cond.eq (sTm 9) (sTm j))) ∨ gFL[(sNe.getD 9 []).getD j 0]? = some (Cond.not (Cond.eq (sTm j) (sTm 9))) := by decide +kernel
theorem s_ne_10 : ∀ j, j < 11 → 10 ≠ j → gFL[(sNe.getD 10 []).getD j 0]? = some (Cond.not (Cond.eq (sTm 10) (sTm j))) ∨ gFL[(sNe.getD 10 []).getD j 0]? = some (Cond.not (Cond.eq (sTm j) (sTm 10))) := by decide +kernel
theorem s_ne : ∀ i, i < 11 → ∀ j, j < 11 → i ≠ j → Cond.not (Cond.eq (sTm i) (sTm j)) ∈ gFL ∨ Cond.not (Cond.eq (sTm j) (sTm i)) ∈ gFL := by
  intro i hi j hj hn
  match i, hi, hn with
  | 0, _, hn => exact (s_ne_0 j hj hn).imp List.mem_of_getElem? List.mem_of_getElem?
  | 1, _, hn => exact (s_ne_1 j hj hn).imp List.mem_of_getElem? List.mem_of_getElem?
  | 2, _, hn => exact (s_ne_2 j hj hn).imp List.mem_of_getElem? List.mem_of_getElem?
  | 3, _, hn => exact (s_ne_3 j hj hn).imp List.mem_of_getElem? List.mem_of_getElem?
  | 4, _, hn => exact (s_ne_4 j hj hn).imp List.mem_of_getElem? List.mem_of_getElem?
  | 5, _, hn => exact (s_ne_5 j hj hn).imp List.mem_of_getElem? List.mem_of_getElem?
  | 6, _, hn => exact (s_ne_6 j hj hn).imp List.mem_of_getElem? List.mem_of_getElem?
  | 7, _, hn => exact (s_ne_7 j hj hn).imp List.mem_of_getElem? List.mem_of_getElem?
  | 8, _, hn => exact (s_ne_8 j hj hn).imp List.mem_of_getElem? List.mem_of_getElem?
  | 9, _, hn => exact (s_ne_9 j hj hn).imp List.mem_of_getElem? List.mem_of_getElem?
  | 10, _, hn => exact (s_ne_10 j hj hn).imp List.mem_of_getElem? List.mem_of_getElem?
  | i + 11, hi, _ => exact absurd hi (Nat.not_lt.mpr (Nat.le_add_left 11 i))
/-- each constant of a pool: the same text as the first with it -/
theorem s_con : ∀ q ∈ sCon, q.2.2.2 < 11 ∧ Cond.stringRef q.1 q.2.1 q.2.2.1 ∈ lw_tbl ∧ ((Term.string q.1 q.2.1 = sTm q.2.2.2) ∨ (Cond.exactly (.string q.1 q.2.1) "java/lang/String" ∈ gFL ∧ Cond.eq (sTm q.2.2.2) (.string q.1 q.2.1) ∈ gFL)) := by decide +kernel
theorem u_all {ci : Nat} {C : String} {T : u_T} {N : Nat} {ty : Nat → FieldType} {s : State} {args : Array Value} (hts : ∀ w ∈ lw_tbl, w.before args s = true) (k : xCls ci C T N ty) (i : Cond.instantiable C N ∈ lw_gd) : ∃ z : ClassId × (Nat → Nat), u_Kn s C T N z.1 z.2 := by
  obtain ⟨cC, iS, h⟩ := u_known (n := N) hts (fun w hw => (List.mem_filter.mp (k.2.1 w hw)).1) (hts _ (List.mem_filter.mp i).1)
  exact ⟨(cC, iS), h⟩
theorem start_D {s : State} {args : Array Value} (hts : ∀ w ∈ lw_tbl, w.before args s = true) : ∃ D : va_G, ∀ (c : Nat) (q : vw_C), vwCl[c]? = some q → u_Kn s q.1 q.2.1 q.2.2 (D.1 c) (D.2 c) := by
  have h : ∀ c : Nat, ∃ z : ClassId × (Nat → Nat), ∀ q : vw_C, vwCl[c]? = some q → u_Kn s q.1 q.2.1 q.2.2 z.1 z.2 := by
    intro c
    match c with
    | 0 => obtain ⟨z, hz⟩ := u_all hts kc_X0 (gdm 200 (by decide +kernel) rfl); exact ⟨z, fun q hq => by cases hq; exact hz⟩
    | 1 => obtain ⟨z, hz⟩ := u_all hts kc_X1 (gdm 480 (by decide +kernel) rfl); exact ⟨z, fun q hq => by cases hq; exact hz⟩
    | 2 => obtain ⟨z, hz⟩ := u_all hts kc_X2 (gdm 280 (by decide +kernel) rfl); exact ⟨z, fun q hq => by cases hq; exact hz⟩
    | 3 => obtain ⟨z, hz⟩ := u_all hts kc_X3 (gdm 206 (by decide +kernel) rfl); exact ⟨z, fun q hq => by cases hq; exact hz⟩
    | 4 => obtain ⟨z, hz⟩ := u_all hts kc_X4 (gdm 407 (by decide +kernel) rfl); exact ⟨z, fun q hq => by cases hq; exact hz⟩
    | 5 => obtain ⟨z, hz⟩ := u_all hts kc_X5 (gdm 381 (by decide +kernel) rfl); exact ⟨z, fun q hq => by cases hq; exact hz⟩
    | 6 => obtain ⟨z, hz⟩ := u_all hts kc_X6 (gdm 300 (by decide +kernel) rfl); exact ⟨z, fun q hq => by cases hq; exact hz⟩
    | 7 => obtain ⟨z, hz⟩ := u_all hts kc_X7 (gdm 333 (by decide +kernel) rfl); exact ⟨z, fun q hq => by cases hq; exact hz⟩
    | 8 => obtain ⟨z, hz⟩ := u_all hts kc_X8 (gdm 445 (by decide +kernel) rfl); exact ⟨z, fun q hq => by cases hq; exact hz⟩
    | 9 => obtain ⟨z, hz⟩ := u_all hts kc_X9 (gdm 192 (by decide +kernel) rfl); exact ⟨z, fun q hq => by cases hq; exact hz⟩
    | 10 => obtain ⟨z, hz⟩ := u_all hts kc_X10 (gdm 1474 (by decide +kernel) rfl); exact ⟨z, fun q hq => by cases hq; exact hz⟩
    | c + 11 => exact ⟨(default, fun _ => 0), fun q hq => by have := (List.getElem?_eq_some_iff.mp hq).1; exact absurd this (Nat.not_lt.mpr (Nat.le_add_left 11 c))⟩
  obtain ⟨f, hf⟩ := Classical.axiomOfChoice h
  exact ⟨(fun c => (f c).1, fun c => (f c).2), hf⟩
theorem start_T {s : State} {args : Array Value} (hts : ∀ w ∈ lw_tbl, w.before args s = true) : ∃ t : Nat → ClassId, ∀ (k : Nat) (q : ClassId × FieldType), ([(t 0, .int), (t 1, .long), (t 2, .array .int), (t 3, .array (.array .int)), (t 4, .array .long), (t 5, .object "PairKeeper$Book")] : List (ClassId × FieldType))[k]? = some q → ArrOfT s q.1 q.2 ∧ va_RA s q.1 q.2 := by
  obtain ⟨c0, k0, p0, h01, h02, h03⟩ := Cond.arrayClass_spec (hts (.arrayClass .int) (List.mem_of_getElem? (i := 222) (by decide +kernel)))
  obtain ⟨c1, k1, p1, h11, h12, h13⟩ := Cond.arrayClass_spec (hts (.arrayClass .long) (List.mem_of_getElem? (i := 478) (by decide +kernel)))
  obtain ⟨p2, c2, k2, -, h22, h23, h21⟩ := Cond.arrayOver_specA (hts (.arrayOver (.array .int)) (List.mem_of_getElem? (i := 1480) (by decide +kernel)))
  obtain ⟨p3, c3, k3, -, h32, h33, h31⟩ := Cond.arrayOver_specA (hts (.arrayOver (.array (.array .int))) (List.mem_of_getElem? (i := 1482) (by decide +kernel)))
  obtain ⟨p4, c4, k4, -, h42, h43, h41⟩ := Cond.arrayOver_specA (hts (.arrayOver (.array .long)) (List.mem_of_getElem? (i := 1484) (by decide +kernel)))
  obtain ⟨p5, c5, k5, h50, -, h52, h53, h51⟩ := Cond.arrayOver_spec (hts (.arrayOver (.object "PairKeeper$Book")) (List.mem_of_getElem? (i := 286) (by decide +kernel)))
  refine ⟨fun k => match k with | 0 => c0 | 1 => c1 | 2 => c2 | 3 => c3 | 4 => c4 | _ => c5, fun k q hq => ?_⟩
  match k, hq with
  | 0, hq => cases hq; exact ⟨fun n z => ⟨fun k h => (by cases h), k0, h02, p0, h03⟩, h01⟩
  | 1, hq => cases hq; exact ⟨fun n z => ⟨fun k h => (by cases h), k1, h12, p1, h13⟩, h11⟩
  | 2, hq => cases hq; exact ⟨fun n z => ⟨fun k h => (by cases h), k2, h22, p2, h23⟩, h21⟩
  | 3, hq => cases hq; exact ⟨fun n z => ⟨fun k h => (by cases h), k3, h32, p3, h33⟩, h31⟩
  | 4, hq => cases hq; exact ⟨fun n z => ⟨fun k h => (by cases h), k4, h42, p4, h43⟩, h41⟩
  | 5, hq => cases hq; exact ⟨fun n z => ⟨fun k h => (by cases h), k5, h52, p5, h53⟩, k5, p5, h52, h53, h50, h51⟩
  | k + 6, hq => exact absurd (List.getElem?_eq_some_iff.mp hq).1 (Nat.not_lt.mpr (Nat.le_add_left 6 k))
theorem start_KK {s : State} {b L : Nat} {xs : Nat → Int32} (l : Launch) (hflags : l.flags = flags0) (hL : L ≤ 3072) (hts : ∀ w ∈ lw_tbl, w.before #[Value.ref b] s = true) (hX : va_X b L xs s s.heap) (hbl : b < s.heap.size) (hgv : (Jvm.Cond.and given_1 narrow_1).before #[Value.ref b] s = true) :
    ∃ g : xG, gl g = l ∧ gB g = s.heap.size ∧ gS g 0 = b ∧ gX g = (List.range L).map xs ∧ KK g s := by
  have hs : ∀ w ∈ gFL, w.before #[Value.ref b] s = true := flat_of_before _ hgv
  have hA : ∀ a : Nat, a < s.heap.size → ¬ (s.heap.size ≤ a) := fun a h => Nat.not_le.mpr h
  obtain ⟨D, hD⟩ := start_D hts
  obtain ⟨t, ht⟩ := start_T hts
  obtain ⟨adK, adV, hV, hE⟩ := vk_Sof (args := #[Value.ref b]) (s := s) (N := 11) (tm := sTm) (len := sLen) (byt := sByt) (A := fun q => s.heap.size ≤ q) (by decide +kernel) (fun i hi => hs _ (s_ex i hi)) (fun i hi => hs _ (s_co i hi)) (fun i hi => hs _ (s_ar i hi)) (fun i hi => hs _ (s_le i hi)) (fun i hi j hj => hs _ (s_el i hi j hj)) (fun i j hi hj hn => (s_ne i hi j hj hn).imp (hs _) (hs _)) hA
  have hF : ∃ z : Nat, va_Z "jdk/internal/util/Preconditions" "SIOOBE_FORMATTER" "Ljava/util/function/BiFunction;" .null (fun q => s.heap.size ≤ q) s s.heap ∨ va_Z "jdk/internal/util/Preconditions" "SIOOBE_FORMATTER" "Ljava/util/function/BiFunction;" (.ref z) (fun q => s.heap.size ≤ q) s s.heap := by
    rcases va_Zqof (A := fun q => s.heap.size ≤ q) (hts (.laysStatic "jdk/internal/util/Preconditions" "SIOOBE_FORMATTER" "Ljava/util/function/BiFunction;") (List.mem_of_getElem? (i := 952) (by decide +kernel))) (hts (.initialized "jdk/internal/util/Preconditions") (List.mem_of_getElem? (i := 185) (by decide +kernel))) (hs _ (by decide +kernel)) hA with h | ⟨z, h⟩
    · exact ⟨0, Or.inl h⟩
    · exact ⟨z, Or.inr h⟩
  obtain ⟨z, hF⟩ := hF
  refine ⟨(l, s.heap.size, (fun k => if k = 0 then b else if k ≤ 100 then adK (k - 1) else if k < 200 then adV (k - 101) else z), D.1, D.2, t, (List.range L).map xs), rfl, rfl, rfl, rfl, ?_⟩
  generalize hg : ((l, s.heap.size, (fun k => if k = 0 then b else if k ≤ 100 then adK (k - 1) else if k < 200 then adV (k - 101) else z), D.1, D.2, t, (List.range L).map xs) : xG) = g
  have gK : ∀ i : Nat, i < 11 → gS g (1 + i) = adK i := fun i hi => by
    rw [← hg]
    show (if 1 + i = 0 then b else if 1 + i ≤ 100 then adK (1 + i - 1) else _) = _
    rw [if_neg (by omega), if_pos (by omega), show 1 + i - 1 = i by omega]
  have gV : ∀ i : Nat, i < 11 → gS g (101 + i) = adV i := fun i hi => by
    rw [← hg]
    show (if 101 + i = 0 then b else if 101 + i ≤ 100 then adK (101 + i - 1) else if 101 + i < 200 then adV (101 + i - 101) else z) = _
    rw [if_neg (by omega), if_neg (by omega), if_pos (by omega), show 101 + i - 101 = i by omega]
  have gZ : gS g 200 = z := by rw [← hg]; rfl
  have gA' : gA g = fun q => s.heap.size ≤ q := by rw [← hg]; rfl
  have gD' : gD g = D := by rw [← hg]; rfl
  have gT' : gT g = t := by rw [← hg]; rfl
  have gX' : gX g = (List.range L).map xs := by rw [← hg]; rfl
  have gl' : gl g = l := by rw [← hg]; rfl
  have g0 : gS g 0 = b := by rw [← hg]; rfl
  refine ⟨⟨⟨?_, ?_⟩, ?_, ?_, ?_, ?_⟩, ⟨?_, ?_, ?_, ?_, ?_, ?_⟩, ?_⟩
  · intro c q hq
    rw [gD']
    exact hD c q hq
  · intro k q hq
    unfold tysG at hq
    rw [gT'] at hq
    exact ht k q hq
  · intro w hw
    exact va_Nw.of (nw_tabs (List.mem_filter.mp hw).2) (hts w (List.mem_filter.mp hw).1)
  · intro q hq
    obtain ⟨q1, q2, q3⟩ := s_con q hq
    rw [gK _ q1]
    refine vk_R.of (A := #[Value.ref b]) (hts _ q2) ?_
    rcases q3 with q3 | ⟨q3, q4⟩
    · rw [q3]; exact hE _ q1
    · obtain ⟨a, c, cA, kA, r1, -⟩ := Cond.exactly_spec (args := #[Value.ref b]) (first := s) (o := none) (s := s) (idx := []) (t := .string q.1 q.2.1) (cls := "java/lang/String") (hs _ q3)
      rw [r1, eqR (hs _ q4) (hE _ q1) r1]
  · intro ty hty
    simp only [kAO, List.mem_cons, List.not_mem_nil, or_false] at hty
    rcases hty with rfl | rfl | rfl | rfl
    · exact hts (.arrayOver (.array .int)) (List.mem_of_getElem? (i := 1480) (by decide +kernel))
    · exact hts (.arrayOver (.array (.array .int))) (List.mem_of_getElem? (i := 1482) (by decide +kernel))
    · exact hts (.arrayOver (.array .long)) (List.mem_of_getElem? (i := 1484) (by decide +kernel))
    · exact hts (.arrayOver (.object "PairKeeper$Book")) (List.mem_of_getElem? (i := 286) (by decide +kernel))
  · exact va_Nc.of (args := #[Value.ref b]) (hs _ (by decide +kernel))
  · intro i hi
    have hi : i < 11 := hi
    rw [gK i hi, gV i hi, gA']
    exact hV.1 i hi
  · obtain ⟨cell, h1, h2, h3, h4, h5⟩ := hX
    refine ⟨cell, by rw [g0]; exact h1, h2, h3, ?_, ?_, ?_, ?_⟩
    · rw [gX', List.length_map, List.length_range, h4]; exact Nat.le_refl _
    · rw [gX', List.length_map, List.length_range, h4]
    · intro j hj
      rw [gX', List.length_map, List.length_range] at hj
      rw [h5 j hj, gX']
      simp [List.getD_eq_getElem?_getD, hj]
    · rw [gA', g0]; exact hA b hbl
  · rw [gA']
    exact vx_Zqof (hts (.laysStatic Bundle.tN "UNASSIGNED_STACK" Bundle.steD) (List.mem_of_getElem? (i := 858) (by decide +kernel))) (hts (.initialized Bundle.tN) (List.mem_of_getElem? (i := 179) (by decide +kernel))) (hs _ (by decide +kernel)) hA
  · rw [gA']
    exact vx_Zqof (hts (.laysStatic Bundle.tN "SUPPRESSED_SENTINEL" Bundle.listD) (List.mem_of_getElem? (i := 860) (by decide +kernel))) (hts (.initialized Bundle.tN) (List.mem_of_getElem? (i := 179) (by decide +kernel))) (hs _ (by decide +kernel)) hA
  · rw [gA']
    exact va_Zof (hts (.laysStatic "java/lang/String" "COMPACT_STRINGS" "Z") (List.mem_of_getElem? (i := 936) (by decide +kernel))) (hts (.initialized "java/lang/String") (List.mem_of_getElem? (i := 183) (by decide +kernel))) (va_eqi (hs _ (by decide +kernel))) hA
  · unfold kForm
    rw [gA', gZ]
    exact hF
  · rw [gl']
    unfold Launch.stackTraces
    rw [hflags]
    decide +kernel
