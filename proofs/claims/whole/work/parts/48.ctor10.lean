/-! CONSTRUCTORS: rows of rows over a shape -/
def gC (n t t1 : Nat) (dv : Value) (N M : Nat) : xH := (t, (List.range N).map fun i => .ref (n + 1 + i)) :: List.replicate N (t1, List.replicate M dv)
def g3C (n N M K : Nat) : xH := (103, (List.range N).map fun i => .ref (n + 1 + i * (1 + M))) :: rows3 (n + 1) M K N
theorem rep_all {n : Nat} {v : Value} (h : dfl v = true) : (List.replicate n v).all dfl = true := by
  rw [List.all_eq_true]
  intro w hw
  rw [(List.mem_replicate.mp hw).2]; exact h
theorem refs_all {n : Nat} {f : Nat → Nat} : ((List.range n).map fun i => Value.ref (f i)).all dfl = true := by
  rw [List.all_eq_true]
  intro w hw
  obtain ⟨i, -, rfl⟩ := List.mem_map.mp hw
  rfl
theorem gC_all {n t t1 N M : Nat} {dv : Value} (h : dfl dv = true) : (gC n t t1 dv N M).all (fun c => c.2.all dfl) = true := by
  rw [gC, List.all_cons, Bool.and_eq_true]
  refine ⟨refs_all, ?_⟩
  rw [List.all_eq_true]
  intro c hc
  rw [(List.mem_replicate.mp hc).2]
  exact rep_all h
theorem row3_all {b M K : Nat} : (row3 b M K).all (fun c => c.2.all dfl) = true := by
  rw [row3, List.all_cons, Bool.and_eq_true]
  refine ⟨refs_all, ?_⟩
  rw [List.all_eq_true]
  intro c hc
  rw [(List.mem_replicate.mp hc).2]
  exact rep_all rfl
theorem rows3_all {b M K : Nat} : ∀ i, (rows3 b M K i).all (fun c => c.2.all dfl) = true
  | 0 => rfl
  | i + 1 => by rw [rows3, List.all_append, rows3_all i, row3_all]; rfl
theorem g3C_all {n N M K : Nat} : (g3C n N M K).all (fun c => c.2.all dfl) = true := by
  rw [g3C, List.all_cons, rows3_all, Bool.and_eq_true]
  exact ⟨refs_all, rfl⟩
theorem gC_len {n t t1 N M : Nat} {dv : Value} : (gC n t t1 dv N M).length = 1 + N := by simp [gC]; omega
theorem g3C_len {n N M K : Nat} : (g3C n N M K).length = 1 + N * (1 + M) := by rw [g3C, List.length_cons, rows3_len]; omega
theorem nwG_s {sh : xH} {μ : MM} {t t1 N M : Nat} {dv : Value} {n k : Int32} (h : Z μ sh.length) (hd : dfl dv = true) (hn : n = Int32.ofNat N) (hk : k = Int32.ofNat M) (hN : N < 100000) (hM : M < 100000) (hl : sh.length + 1 + N < 1000000) : nwG t t1 dv (mS sh μ) n k = some (sh.length, mS (sh ++ gC sh.length t t1 dv N M) μ) := by
  subst hn; subst hk
  obtain ⟨⟨a1, -⟩, a2⟩ := ain_nat (k := N) (n := N + 1) (by omega) (by omega)
  obtain ⟨⟨b1, -⟩, b2⟩ := ain_nat (k := M) (n := M + 1) (by omega) (by omega)
  unfold nwG
  rw [a2, b2, mS_len, if_pos ⟨a1, b1, by omega, by omega, hl⟩, ← mS_push h (gC_all hd)]
  rfl
theorem nwG3_s {sh : xH} {μ : MM} {N M K : Nat} {n k q : Int32} (h : Z μ sh.length) (hn : n = Int32.ofNat N) (hk : k = Int32.ofNat M) (hq : q = Int32.ofNat K) (hN : N < 100000) (hM : M < 100000) (hK : K < 100000) (hl : sh.length + 1 + N * (1 + M) < 1000000) : nwG3 (mS sh μ) n k q = some (sh.length, mS (sh ++ g3C sh.length N M K) μ) := by
  subst hn; subst hk; subst hq
  obtain ⟨⟨a1, -⟩, a2⟩ := ain_nat (k := N) (n := N + 1) (by omega) (by omega)
  obtain ⟨⟨b1, -⟩, b2⟩ := ain_nat (k := M) (n := M + 1) (by omega) (by omega)
  obtain ⟨⟨c1, -⟩, c2⟩ := ain_nat (k := K) (n := K + 1) (by omega) (by omega)
  unfold nwG3
  rw [a2, b2, c2, mS_len, if_pos ⟨a1, b1, c1, by omega, by omega, by omega, hl⟩, ← mS_push h g3C_all]
  rfl
