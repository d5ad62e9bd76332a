/-! what is reached: one alone -/
theorem AlW.mono {E : Nat → Nat → Bool} {M : Nat → Nat} {Wt x y x' y' : Int32} (h : AlW E M Wt x y) (s : SoW E M Wt x' y') (m1 : ∀ k, hb x k = true → hb x' k = true) (m2 : ∀ k, hb y k = true → hb y' k = true) : AlW E M Wt x' y' :=
  ⟨fun k => ⟨s.1 k, fun q => m1 k ((h.1 k).mpr q)⟩, fun k => ⟨s.2.1 k, fun q => m2 k ((h.2 k).mpr q)⟩⟩
theorem AlW.uniq {E : Nat → Nat → Bool} {M : Nat → Nat} {Wt x y x' y' : Int32} (h : AlW E M Wt x y) (h' : AlW E M Wt x' y') : x = x' ∧ y = y' :=
  ⟨hb_ext fun k _ => by rw [Bool.eq_iff_iff, h.1 k, h'.1 k], hb_ext fun k _ => by rw [Bool.eq_iff_iff, h.2 k, h'.2 k]⟩
theorem AlW.full {E : Nat → Nat → Bool} {M : Nat → Nat} {Wt x y : Int32} (hE : Eb E) (s : SoW E M Wt x y) (c : 24 ≤ cnt (hb x) 12 + cnt (hb y) 12) : AlW E M Wt x y := by
  have h1 := cnt_le (hb x) 12
  have h2 := cnt_le (hb y) 12
  exact ⟨fun k => ⟨s.1 k, fun q => cnt_all (p := hb x) (n := 12) (by omega) k q.lt⟩, fun k => ⟨s.2.1 k, fun q => cnt_all (p := hb y) (n := 12) (by omega) k (q.lt hE)⟩⟩
theorem AlW.next {E : Nat → Nat → Bool} {M : Nat → Nat} {Wt x y x' y' : Int32} {i : Nat} (hE : Eb E) (hM : Mt M) (h : AlW E M Wt x y ∨ i ≤ cnt (hb x) 12 + cnt (hb y) 12) (s : SoW E M Wt x y) (s' : SoW E M Wt x' y') (m1 : ∀ k, hb x k = true → hb x' k = true) (m2 : ∀ k, hb y k = true → hb y' k = true)
    (p1 : ∀ w t, w < 12 → hb x w = true → E w t = true → hb y' t = true) (p2 : ∀ w, w < 12 → M w < 12 → hb y (M w) = true → hb x' w = true) : AlW E M Wt x' y' ∨ i + 1 ≤ cnt (hb x') 12 + cnt (hb y') 12 := by
  rcases h with h | h
  · exact Or.inl (h.mono s' m1 m2)
  · by_cases c : x' = x ∧ y' = y
    · left
      refine s'.all hE ⟨fun w t a b => ?_, fun w a b d => ?_⟩
      · exact p1 w t (hE _ _ b).1 (by rw [← c.1]; exact a) b
      · exact p2 w a b (by rw [← c.2]; exact d)
    · right
      have c1 := cnt_mono (p := hb x) (q := hb x') (n := 12) fun k _ q => m1 k q
      have c2 := cnt_mono (p := hb y) (q := hb y') (n := 12) fun k _ q => m2 k q
      by_cases d : x' = x
      · have d2 : y ≠ y' := fun z => c ⟨d, z.symm⟩
        obtain ⟨k, k1, k2⟩ := hb_sub_eq m2 d2
        have := cnt_lt (p := hb y) (q := hb y') (n := 12) (fun k _ q => m2 k q) ((s'.m12 hE).2 k k2) k1 k2
        omega
      · obtain ⟨k, k1, k2⟩ := hb_sub_eq m1 (fun z => d z.symm)
        have := cnt_lt (p := hb x) (q := hb x') (n := 12) (fun k _ q => m1 k q) ((s'.m12 hE).1 k k2) k1 k2
        omega
