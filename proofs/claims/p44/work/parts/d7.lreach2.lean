/-! THE LAW'S BOOK: reached, to its end -/
theorem cnt_sup {p : Nat → Bool} {n : Nat} : ∀ d, (∀ k, n ≤ k → p k = false) → cnt p (n + d) = cnt p n
  | 0, _ => rfl
  | d + 1, h => by rw [← Nat.add_assoc, cnt, cnt_sup d h]; simp [h (n + d) (by omega)]
theorem fwW.bn {E : Nat → Nat → Bool} {M : Nat → Nat} {Wt : Int32} {n m k : Nat} (hW : ∀ k, hb Wt k = true → k < n) (hf : ∀ w t, E w t = true → w < n ∧ t < m) (hM : Ms E M) (hE : Eb E) (h : fwW E M Wt k) : k < n :=
  h.sub (R := fun w => w < n) (fun w _ q _ => hW w q) (fun v t _ e o => by
    have e1 := ow_M o
    have := hM.2 (ow M t) (by rw [e1]; exact (hE _ _ e).2)
    exact (hf _ _ this).1)
theorem fwT.bn {E : Nat → Nat → Bool} {M : Nat → Nat} {Wt : Int32} {n m k : Nat} (hf : ∀ w t, E w t = true → w < n ∧ t < m) (h : fwT E M Wt k) : k < m := by
  obtain ⟨w, -, e⟩ := h
  exact (hf _ _ e).2
section D7
variable {sh : xH} {μ : MM} {a b : LA} {B : Bk}
theorem Eq4.symm' {y : Nat} {ν ξ : MM} (h : Eq4 y ν ξ) : Eq4 y ξ ν := fun k hk => (h k hk).symm
theorem Eq4.trans {y : Nat} {ν ξ ζ : MM} (h : Eq4 y ν ξ) (h' : Eq4 y ξ ζ) : Eq4 y ν ζ := fun k hk => (h' k hk).trans (h k hk)
theorem Eq4.le {y : Nat} {ν ξ : MM} (h : Eq4 y ν ξ) : Le4 y ξ ν := fun k hk => by rw [h k hk]; exact Mle.refl _
section Rc
variable {M : Nat → Nat} {y : Nat}
/-- a row of pairs, the tasks from t on -/
theorem l_rc_row (hs : lbS sh a) (hsb : lbS sh b) (hE : Eb (gE B)) (hM : Ms (gE B) M) (hy : sh[y]? = some (100, dI 4)) (hyA : ∀ i, ¬ LF a y i) (hyB : ∀ i, ¬ LF b y i) {w : Nat} (hw : w < 12) (hm : bm B ≤ 12) {x3 : Int32} : ∀ (d t : Nat) (ν : MM), t + d = bm B → lbV ν a B → lbV ν b (wM B M) → SS4 (gE B) M (bw B) (bt B) y ν →
    ∃ ξ, (∀ n kE, f_X10_reached_L139 kE (d + 1 + n) (lab a) (lab b) y x3 (Int32.ofNat w) (Int32.ofNat t) (mS sh ν) = kE (lab a) (lab b) y x3 (Int32.ofNat w) (mS sh ξ)) ∧ Fr (fun q _ => q = y) ν ξ ∧ SS4 (gE B) M (bw B) (bt B) y ξ ∧ Le4 y ν ξ ∧ (Eq4 y ν ξ → ∀ u, t ≤ u → u < bm B → CC4 (gE B) M y ν w u) ∧ ((∀ u, t ≤ u → u < bm B → CC4 (gE B) M y ν w u) → Eq4 y ν ξ)
  | 0, t, ν, h, hv, hvb, hS => by
    have g1 : ν.1 (lab a) 1 = Int32.ofNat (bm B) := hv.1.2.1
    have ct : (Int32.ofNat t ≥ Int32.ofNat (bm B)) := by rw [oN_ge (by omega) (by omega)]; omega
    refine ⟨ν, fun n kE => ?_, Fr.refl _ _, hS, fun k _ => Mle.refl _, fun _ u a b => by omega, fun _ _ _ => rfl⟩
    rw [show 0 + 1 + n = n + 1 by omega]
    simp only [f_X10_reached_L139, hs.g (show 1 < 5 by decide), Option.bind_some, g1, if_pos ct]
  | d + 1, t, ν, h, hv, hvb, hS => by
    have ct : ¬ (Int32.ofNat t ≥ Int32.ofNat (bm B)) := by rw [oN_ge (by omega) (by omega)]; omega
    obtain ⟨ν1, k0, f1, s1, l1, c1, c2⟩ := l_rc_step' hs hsb hE hM hy hw (show t < 12 by omega) hv hvb hyB ct hS x3
    have hv1 : lbV ν1 a B := hv.fr hs f1 fun q i z e => hyA i (by rw [← e]; exact z)
    have hvb1 : lbV ν1 b (wM B M) := hvb.fr hsb f1 fun q i z e => hyB i (by rw [← e]; exact z)
    obtain ⟨ξ, e, f2, s2, l2, d1, d2⟩ := l_rc_row hs hsb hE hM hy hyA hyB hw hm (x3 := x3) d (t + 1) ν1 (by omega) hv1 hvb1 s1
    refine ⟨ξ, fun n kE => ?_, f1.trans f2, s2, l1.trans l2, fun q u hu hu2 => ?_, fun q => ?_⟩
    · rw [show d + 1 + 1 + n = d + 1 + n + 1 by omega, k0, e]
    · have q1 : Eq4 y ν ν1 := l1.anti (l2.trans q.le)
      have q2 : Eq4 y ν1 ξ := q1.symm'.trans q
      rcases Nat.eq_or_lt_of_le hu with z | z
      · rw [← z]; exact c1 q1
      · exact (d1 q2 u (by omega) hu2).congr q1.symm'
    · have q1 := c2 (q t (Nat.le_refl t) (by omega))
      exact q1.trans (d2 fun u hu hu2 => (q u (by omega) hu2).congr q1)
end Rc
end D7
