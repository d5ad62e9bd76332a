/-! THE LAW'S BOOK: reached, the sweeps -/
/-- how many bits stand in the four masks -/
def c4 (n m y : Nat) (ν : MM) : Nat := cnt (fun k => hb (ν.1 y 0) k) n + cnt (fun k => hb (ν.1 y 1) k) m + cnt (fun k => hb (ν.1 y 2) k) n + cnt (fun k => hb (ν.1 y 3) k) m
def b4 (n m y : Nat) (ν : MM) : Prop := (∀ k, hb (ν.1 y 0) k = true → k < n) ∧ (∀ k, hb (ν.1 y 1) k = true → k < m) ∧ (∀ k, hb (ν.1 y 2) k = true → k < n) ∧ ∀ k, hb (ν.1 y 3) k = true → k < m
theorem cnt_grow {x y : Int32} {n : Nat} (h : Mle x y) (hn : ∀ k, hb y k = true → k < n) (ne : x ≠ y) : cnt (fun k => hb x k) n < cnt (fun k => hb y k) n := by
  obtain ⟨k, e1, e2⟩ := hb_sub_eq h ne
  exact cnt_lt (fun k _ q => h k q) (hn k e2) e1 e2
theorem c4_grow {n m y : Nat} {ν ξ : MM} (h : Le4 y ν ξ) (b : b4 n m y ξ) (ne : ¬ Eq4 y ν ξ) : c4 n m y ν < c4 n m y ξ := by
  have m0 := cnt_mono (p := fun k => hb (ν.1 y 0) k) (q := fun k => hb (ξ.1 y 0) k) (n := n) fun k _ q => h 0 (by omega) k q
  have m1 := cnt_mono (p := fun k => hb (ν.1 y 1) k) (q := fun k => hb (ξ.1 y 1) k) (n := m) fun k _ q => h 1 (by omega) k q
  have m2 := cnt_mono (p := fun k => hb (ν.1 y 2) k) (q := fun k => hb (ξ.1 y 2) k) (n := n) fun k _ q => h 2 (by omega) k q
  have m3 := cnt_mono (p := fun k => hb (ν.1 y 3) k) (q := fun k => hb (ξ.1 y 3) k) (n := m) fun k _ q => h 3 (by omega) k q
  unfold c4
  by_cases e0 : ν.1 y 0 = ξ.1 y 0
  · by_cases e1 : ν.1 y 1 = ξ.1 y 1
    · by_cases e2 : ν.1 y 2 = ξ.1 y 2
      · by_cases e3 : ν.1 y 3 = ξ.1 y 3
        · refine absurd (fun k hk => ?_) ne
          match k, hk with
          | 0, _ => exact e0.symm
          | 1, _ => exact e1.symm
          | 2, _ => exact e2.symm
          | 3, _ => exact e3.symm
        · have := cnt_grow (h 3 (by omega)) b.2.2.2 e3; omega
      · have := cnt_grow (h 2 (by omega)) b.2.2.1 e2; omega
    · have := cnt_grow (h 1 (by omega)) b.2.1 e1; omega
  · have := cnt_grow (h 0 (by omega)) b.1 e0; omega
theorem c4_full {n m y : Nat} {ν : MM} (h : 2 * (n + m) ≤ c4 n m y ν) : (∀ k, k < n → hb (ν.1 y 0) k = true) ∧ (∀ k, k < m → hb (ν.1 y 1) k = true) ∧ (∀ k, k < n → hb (ν.1 y 2) k = true) ∧ ∀ k, k < m → hb (ν.1 y 3) k = true := by
  have m0 := cnt_le (fun k => hb (ν.1 y 0) k) n
  have m1 := cnt_le (fun k => hb (ν.1 y 1) k) m
  have m2 := cnt_le (fun k => hb (ν.1 y 2) k) n
  have m3 := cnt_le (fun k => hb (ν.1 y 3) k) m
  unfold c4 at h
  exact ⟨cnt_all (p := fun k => hb (ν.1 y 0) k) (by omega), cnt_all (p := fun k => hb (ν.1 y 1) k) (by omega), cnt_all (p := fun k => hb (ν.1 y 2) k) (by omega), cnt_all (p := fun k => hb (ν.1 y 3) k) (by omega)⟩
theorem SS4.b4 {E : Nat → Nat → Bool} {M : Nat → Nat} {Wt Tt : Int32} {y n m : Nat} {ν : MM} (h : SS4 E M Wt Tt y ν) (hE : Eb E) (hM : Ms E M) (hf : ∀ w t, E w t = true → w < n ∧ t < m) (hW : ∀ k, hb Wt k = true → k < n) (hT : ∀ k, hb Tt k = true → k < m) : b4 n m y ν :=
  ⟨fun k q => fwW.bn hW hf hM hE (h.1.1 k q), fun k q => fwT.bn hf (h.1.2.1 k q), fun k q => fwT.bn (E := trE E) (n := m) (fun w t e => ⟨(hf t w e).2, (hf t w e).1⟩) (h.2.2.1 k q), fun k q => fwW.bn (E := trE E) (m := n) hT (fun w t e => ⟨(hf t w e).2, (hf t w e).1⟩) (tr_Ms hM) (trE_Eb hE) (h.2.1 k q)⟩
section D8
variable {sh : xH} {μ : MM} {a b : LA} {B : Bk} {M : Nat → Nat} {y : Nat}
theorem l_rc_sweep (hs : lbS sh a) (hsb : lbS sh b) (hE : Eb (gE B)) (hM : Ms (gE B) M) (hy : sh[y]? = some (100, dI 4)) (hyA : ∀ i, ¬ LF a y i) (hyB : ∀ i, ¬ LF b y i) (hn : bn B ≤ 12) (hm : bm B ≤ 12) {x3 : Int32} : ∀ (d w : Nat) (ν : MM), w + d = bn B → lbV ν a B → lbV ν b (wM B M) → SS4 (gE B) M (bw B) (bt B) y ν →
    ∃ ξ, (∀ n kE, f_X10_reached_L127 kE (d + 1 + n) (lab a) (lab b) y x3 (Int32.ofNat w) (mS sh ν) = kE (lab a) (lab b) y x3 (mS sh ξ)) ∧ Fr (fun q _ => q = y) ν ξ ∧ SS4 (gE B) M (bw B) (bt B) y ξ ∧ Le4 y ν ξ ∧ (Eq4 y ν ξ → ∀ v u, w ≤ v → v < bn B → u < bm B → CC4 (gE B) M y ν v u) ∧ ((∀ v u, w ≤ v → v < bn B → u < bm B → CC4 (gE B) M y ν v u) → Eq4 y ν ξ)
  | 0, w, ν, h, hv, hvb, hS => by
    have g0 : ν.1 (lab a) 0 = Int32.ofNat (bn B) := hv.1.1
    have ct : (Int32.ofNat w ≥ Int32.ofNat (bn B)) := by rw [oN_ge (by omega) (by omega)]; omega
    refine ⟨ν, fun n kE => ?_, Fr.refl _ _, hS, fun k _ => Mle.refl _, fun _ v u a b => by omega, fun _ _ _ => rfl⟩
    rw [show 0 + 1 + n = n + 1 by omega]
    simp only [f_X10_reached_L127, hs.g (show 0 < 5 by decide), Option.bind_some, g0, if_pos ct]
  | d + 1, w, ν, h, hv, hvb, hS => by
    have g0 : ν.1 (lab a) 0 = Int32.ofNat (bn B) := hv.1.1
    have ct : ¬ (Int32.ofNat w ≥ Int32.ofNat (bn B)) := by rw [oN_ge (by omega) (by omega)]; omega
    obtain ⟨ν1, k0, f1, s1, l1, c1, c2⟩ := l_rc_row hs hsb hE hM hy hyA hyB (show w < 12 by omega) hm (x3 := x3) (bm B) 0 ν (by omega) hv hvb hS
    have hv1 : lbV ν1 a B := hv.fr hs f1 fun q i z e => hyA i (by rw [← e]; exact z)
    have hvb1 : lbV ν1 b (wM B M) := hvb.fr hsb f1 fun q i z e => hyB i (by rw [← e]; exact z)
    obtain ⟨ξ, e, f2, s2, l2, d1, d2⟩ := l_rc_sweep hs hsb hE hM hy hyA hyB hn hm (x3 := x3) d (w + 1) ν1 (by omega) hv1 hvb1 s1
    refine ⟨ξ, fun n kE => ?_, f1.trans f2, s2, l1.trans l2, fun q v u hv' hv2 hu => ?_, fun q => ?_⟩
    · have k1 := k0 (4999 - bm B) (f_X10_reached_J271 (f_X10_reached_L127 kE (d + 1 + n)) kE)
      rw [show bm B + 1 + (4999 - bm B) = 5000 by omega] at k1
      rw [show d + 1 + 1 + n = (d + 1 + n) + 1 by omega]
      simp only [f_X10_reached_L127, hs.g (show 0 < 5 by decide), Option.bind_some, g0, if_neg ct]
      refine Eq.trans k1 ?_
      simp only [f_X10_reached_J271, lt, i_succ, e]
    · have q1 : Eq4 y ν ν1 := l1.anti (l2.trans q.le)
      have q2 : Eq4 y ν1 ξ := q1.symm'.trans q
      rcases Nat.eq_or_lt_of_le hv' with z | z
      · rw [← z]; exact c1 q1 u (Nat.zero_le u) hu
      · exact (d1 q2 v u (by omega) hv2 hu).congr q1.symm'
    · have q1 := c2 fun u _ hu => q w u (Nat.le_refl w) (by omega) hu
      exact q1.trans (d2 fun v u hv' hv2 hu => (q v u (by omega) hv2 hu).congr q1)
/-- all sweeps: at the end nothing more comes -/
theorem l_rc_all (hs : lbS sh a) (hsb : lbS sh b) (hf : ∀ w t, gE B w t = true → w < bn B ∧ t < bm B) (hW : ∀ k, hb (bw B) k = true → k < bn B) (hT : ∀ k, hb (bt B) k = true → k < bm B) (hM : Ms (gE B) M) (hy : sh[y]? = some (100, dI 4)) (hyA : ∀ i, ¬ LF a y i) (hyB : ∀ i, ¬ LF b y i) {ν0 : MM} (hv : lbV ν0 a B) (hvb : lbV ν0 b (wM B M)) (hS : SS4 (gE B) M (bw B) (bt B) y ν0) :
    ∃ ξ, f_X10_reached_L109 f_X10_reached_J283 5000 (lab a) (lab b) y 0 (mS sh ν0) = some (some y, mS sh ξ) ∧ Fr (fun q _ => q = y) ν0 ξ ∧ AlW (gE B) M (bw B) (ξ.1 y 0) (ξ.1 y 1) ∧ AlW (trE (gE B)) (tr M) (bt B) (ξ.1 y 3) (ξ.1 y 2) := by
  have hn : bn B ≤ 12 := hv.2.2.2.2.1.1
  have hm : bm B ≤ 12 := hv.2.2.2.2.1.2.1
  have hE : Eb (gE B) := fun w t e => by have := hf w t e; omega
  have key : Hw (f_X10_reached_L109 f_X10_reached_J283 5000 (lab a) (lab b) y (Int32.ofNat 0) (mS sh ν0)) (fun r => ∃ ξ, r = (some y, mS sh ξ) ∧ Fr (fun q _ => q = y) ν0 ξ ∧ AlW (gE B) M (bw B) (ξ.1 y 0) (ξ.1 y 1) ∧ AlW (trE (gE B)) (tr M) (bt B) (ξ.1 y 3) (ξ.1 y 2)) := by
    refine hw_for (L := fun f r (s : MM) => f_X10_reached_L109 f_X10_reached_J283 f (lab a) (lab b) y r (mS sh s)) (s0 := ν0) (2 * (bn B + bm B)) (fun r s => Fr (fun q _ => q = y) ν0 s ∧ SS4 (gE B) M (bw B) (bt B) y s ∧ ((∀ v u, v < bn B → u < bm B → CC4 (gE B) M y s v u) ∨ r ≤ c4 (bn B) (bm B) y s)) ⟨Fr.refl _ _, hS, Or.inr (Nat.zero_le _)⟩ (by omega) (fun r hr s hJ => Or.inl ?_) (fun s hJ i => ?_)
    · obtain ⟨j1, j2, j3⟩ := hJ
      have hv1 : lbV s a B := hv.fr hs j1 fun q i z e => hyA i (by rw [← e]; exact z)
      have hvb1 : lbV s b (wM B M) := hvb.fr hsb j1 fun q i z e => hyB i (by rw [← e]; exact z)
      have g0 : s.1 (lab a) 0 = Int32.ofNat (bn B) := hv1.1.1
      have g1 : s.1 (lab a) 1 = Int32.ofNat (bm B) := hv1.1.2.1
      have cc : ¬ (Int32.ofNat r ≥ (2 : Int32) * (Int32.ofNat (bn B) + Int32.ofNat (bm B))) := by
        rw [show (2 : Int32) = Int32.ofNat 2 from rfl, oN_add, oN_mul, oN_ge (by omega) (by omega)]; omega
      obtain ⟨ξ, e, f2, s2, l2, d1, d2⟩ := l_rc_sweep hs hsb hE hM hy hyA hyB hn hm (x3 := Int32.ofNat r) (bn B) 0 s (by omega) hv1 hvb1 j2
      refine ⟨ξ, ⟨j1.trans f2, s2, ?_⟩, fun i => ?_⟩
      · rcases j3 with z | z
        · have q := d2 fun v u _ hv' hu => z v u hv' hu
          exact Or.inl fun v u hv' hu => (z v u hv' hu).congr q
        · by_cases q : Eq4 y s ξ
          · exact Or.inl fun v u hv' hu => (d1 q v u (Nat.zero_le v) hv' hu).congr q
          · have := c4_grow l2 (s2.b4 hE hM hf hW hT) q
            exact Or.inr (by omega)
      · have k1 := e (4999 - bn B) (f_X10_reached_J277 (f_X10_reached_L109 f_X10_reached_J283 i) f_X10_reached_J283)
        rw [show bn B + 1 + (4999 - bn B) = 5000 by omega] at k1
        simp only [f_X10_reached_L109, hs.g (show 0 < 5 by decide), hs.g (show 1 < 5 by decide), Option.bind_some, g0, g1, if_neg cc]
        refine Eq.trans k1 ?_
        simp only [f_X10_reached_J277, lt, i_succ]
    · obtain ⟨j1, j2, j3⟩ := hJ
      have hv1 : lbV s a B := hv.fr hs j1 fun q i z e => hyA i (by rw [← e]; exact z)
      have g0 : s.1 (lab a) 0 = Int32.ofNat (bn B) := hv1.1.1
      have g1 : s.1 (lab a) 1 = Int32.ofNat (bm B) := hv1.1.2.1
      have cc : (Int32.ofNat (2 * (bn B + bm B)) ≥ (2 : Int32) * (Int32.ofNat (bn B) + Int32.ofNat (bm B))) := by
        rw [show (2 : Int32) = Int32.ofNat 2 from rfl, oN_add, oN_mul, oN_ge (by omega) (by omega)]; omega
      show Hw (f_X10_reached_L109 f_X10_reached_J283 (i + 1) (lab a) (lab b) y (Int32.ofNat (2 * (bn B + bm B))) (mS sh s)) _
      simp only [f_X10_reached_L109, hs.g (show 0 < 5 by decide), hs.g (show 1 < 5 by decide), Option.bind_some, g0, g1, if_pos cc, f_X10_reached_J283]
      have cl : Cld (gE B) M (s.1 y 0) (s.1 y 1) (s.1 y 2) (s.1 y 3) := by
        intro w t e
        obtain ⟨h1, h2⟩ := hf w t e
        rcases j3 with z | z
        · exact z w t h1 h2 e
        · obtain ⟨p0, p1, p2, p3⟩ := c4_full z
          exact ⟨fun _ => p1 t h2, fun _ => p2 w h1, fun _ => ⟨fun _ => p0 w h1, fun _ => p3 t h2⟩⟩
      obtain ⟨r1, r2⟩ := Cld.all hE hM j2 cl
      exact hw_ret ⟨s, rfl, j1, r1, r2⟩
  obtain ⟨r, e, ξ, rfl, q⟩ := key
  exact ⟨ξ, e, q⟩
end D8
