/-! THE LAW'S BEGINNING -/
def mu00 : MM := (fun _ _ => 0, fun _ _ => 0)
def mu9 : MM := st (st (st (M9_9 mu00) 0 9 0) 0 10 0) 0 11 0
def mu0 : MM := mbM (st mu9 168 5 (-1)) 0 1 1
theorem Z00 (n : Nat) : Z mu00 n := fun _ _ _ => ⟨rfl, rfl⟩
theorem mu9_Z : Z mu9 168 := (((M9_9_Z (Z00 1)).st (by omega)).st (by omega)).st (by omega)
theorem crM_Z {μ : MM} {r n : Nat} (h : Z μ n) (hn : 261 + 13 * r ≤ n) : ∀ w, w ≤ 12 → Z (crM μ r w) n
  | 0, _ => h
  | w + 1, hw => (crM_Z h hn w (by omega)).rw (by omega)
theorem mbM_Z {μ : MM} {r k : Nat} {n m : Int32} (h : Z μ k) (hn : 482 ≤ k) (hr : r < 17) : Z (mbM μ r n m) k :=
  crM_Z ((((((((h.st (by omega)).st (by omega)).st (by omega)).st (by omega)).st (by omega)).rw (by omega)).rw (by omega)).rw (by omega)) (by omega) 12 (Nat.le_refl _)
theorem shM_len : shM.length = 532 := by rw [shM, List.length_append, List.length_cons, List.length_cons, R9_9_len, RA_19_len]
theorem mu0_Z : Z mu0 532 := by
  have h1 : Z mu9 532 := mu9_Z.mono (by omega)
  have h2 : Z (st mu9 168 5 (-1)) 532 := h1.st (by omega)
  exact mbM_Z h2 (by omega) (by omega)
