/-! THE LAW'S BOOK: the most pairs, by all pairings from a worker on with some tasks had -/
def NH (E : Nat → Nat → Bool) (w : Nat) (x : Nat → Bool) (M : Nat → Nat) : Prop := Ms E M ∧ (∀ v, v < w → M v = 12) ∧ ∀ v, M v < 12 → x (M v) = false
def NuH (E : Nat → Nat → Bool) (w : Nat) (x : Nat → Bool) (k : Nat) : Prop := (∃ M, NH E w x M ∧ sz M = k) ∧ ∀ M, NH E w x M → sz M ≤ k
def NuT (E : Nat → Nat → Bool) (w : Nat) (x : Nat → Bool) (t k : Nat) : Prop := (∃ M, NH E w x M ∧ (M w = 12 ∨ M w < t) ∧ sz M = k) ∧ ∀ M, NH E w x M → (M w = 12 ∨ M w < t) → sz M ≤ k
section D1
variable {E : Nat → Nat → Bool} {w t k k' : Nat} {x : Nat → Bool}
theorem nh_end {n : Nat} (h : ∀ w t, E w t = true → w < n) : NuH E n x 0 := by
  have key : ∀ M, NH E n x M → sz M = 0 := fun M hM => cnt_zero fun v _ => by
    by_cases z : M v < 12
    · have := hM.2.1 v (h _ _ (hM.1.2 v z)); omega
    · simp [z]
  exact ⟨⟨fun _ => 12, ⟨e_Ms E, fun _ _ => rfl, fun _ z => absurd z (Nat.lt_irrefl 12)⟩, sz_e⟩, fun M hM => by rw [key M hM]; exact Nat.le_refl 0⟩
theorem nh_0 (h : NuH E (w + 1) x k) : NuT E w x 0 k := by
  obtain ⟨⟨M, ⟨a, b, c⟩, s⟩, g⟩ := h
  refine ⟨⟨M, ⟨a, fun v hv => b v (by omega), c⟩, Or.inl (b w (by omega)), s⟩, fun N hN hw => g N ⟨hN.1, fun v hv => ?_, hN.2.2⟩⟩
  rcases Nat.lt_succ_iff_lt_or_eq.mp hv with q | q
  · exact hN.2.1 v q
  · rw [q]; exact hw.resolve_right (Nat.not_lt_zero _)
theorem nh_skip (h : NuT E w x t k) (z : E w t = false ∨ x t = true) (ht : t < 12) : NuT E w x (t + 1) k := by
  obtain ⟨⟨M, a, b, s⟩, g⟩ := h
  refine ⟨⟨M, a, b.imp id fun y => by omega, s⟩, fun N hN hw => g N hN (hw.imp id fun y => ?_)⟩
  rcases Nat.lt_succ_iff_lt_or_eq.mp y with q | q
  · exact q
  · exfalso
    rcases z with z | z
    · have := hN.1.2 w (by omega); rw [q, z] at this; cases this
    · have := hN.2.2 w (by omega); rw [q, z] at this; cases this
theorem nh_take (h : NuT E w x t k) (h' : NuH E (w + 1) (fun s => x s || decide (s = t)) k') (e : E w t = true) (c : x t = false) (hw : w < 12) (ht : t < 12) : NuT E w x (t + 1) (max k (1 + k')) := by
  obtain ⟨⟨M, a, b, s⟩, g⟩ := h
  obtain ⟨⟨M', a', s'⟩, g'⟩ := h'
  have mw : M' w = 12 := a'.2.1 w (by omega)
  have free : ow M' t = 12 := ow_none.mpr fun v hv q => by
    have := a'.2.2 v (by omega)
    simp [q] at this
  have nM : NH E w x (up M' w t) := by
    refine ⟨give_Ms a'.1 hw ht e free, fun v hv => ?_, fun v hv => ?_⟩
    · rw [up_ne (by omega)]; exact a'.2.1 v (by omega)
    · by_cases q : v = w
      · rw [q, up_same]; exact c
      · rw [up_ne q] at hv ⊢
        have := a'.2.2 v hv
        simp only [Bool.or_eq_false_iff] at this
        exact this.1
  have sM : sz (up M' w t) = 1 + k' := by rw [sz_give hw ht mw, s']; omega
  refine ⟨?_, fun N hN hw' => ?_⟩
  · by_cases q : k ≤ 1 + k'
    · exact ⟨up M' w t, nM, Or.inr (by rw [up_same]; omega), by rw [sM]; omega⟩
    · exact ⟨M, a, b.imp id fun y => by omega, by rw [s]; omega⟩
  · by_cases q : N w = t
    · have nN : NH E (w + 1) (fun s => x s || decide (s = t)) (up N w 12) := by
        refine ⟨drop_Ms hN.1 w, fun v hv => ?_, fun v hv => ?_⟩
        · by_cases y : v = w
          · rw [y, up_same]
          · rw [up_ne y]; exact hN.2.1 v (by omega)
        · by_cases y : v = w
          · rw [y, up_same] at hv; omega
          · rw [up_ne y] at hv ⊢
            have h1 := hN.2.2 v hv
            have h2 : N v ≠ t := fun z => y (hN.1.1.2.2 v w hv (by rw [z, q]))
            simp [h1, h2]
      have := g' _ nN
      have := sz_drop (M := N) hw (by omega)
      omega
    · have := g N hN (hw'.imp id fun y => by omega)
      omega
theorem nh_fin {m : Nat} (h : NuT E w x m k) (hm : ∀ t, E w t = true → t < m) : NuH E w x k := by
  obtain ⟨⟨M, a, b, s⟩, g⟩ := h
  refine ⟨⟨M, a, s⟩, fun N hN => g N hN ?_⟩
  by_cases q : N w < 12
  · exact Or.inr (hm _ (hN.1.2 w q))
  · exact Or.inl (by have := hN.1.1.1 w; omega)
theorem nh_nu (h : NuH E 0 x k) (hx : ∀ t, x t = false) : Nu E k := by
  obtain ⟨⟨M, a, s⟩, g⟩ := h
  exact ⟨⟨M, a.1, s⟩, fun N hN => g N ⟨hN, fun v hv => absurd hv (Nat.not_lt_zero v), fun v _ => hx _⟩⟩
theorem NuH.le12 (h : NuH E w x k) : k ≤ 12 := by
  obtain ⟨⟨M, -, s⟩, -⟩ := h
  rw [← s]; exact sz_le M
theorem NuT.le12 (h : NuT E w x t k) : k ≤ 12 := by
  obtain ⟨⟨M, -, -, s⟩, -⟩ := h
  rw [← s]; exact sz_le M
theorem NuH.congr {y : Nat → Bool} (h : NuH E w x k) (e : ∀ s, s < 12 → x s = y s) : NuH E w y k := by
  obtain ⟨⟨M, a, s⟩, g⟩ := h
  exact ⟨⟨M, ⟨a.1, a.2.1, fun v q => by rw [← e _ q]; exact a.2.2 v q⟩, s⟩, fun N hN => g N ⟨hN.1, hN.2.1, fun v q => by rw [e _ q]; exact hN.2.2 v q⟩⟩
end D1
theorem imax_n {a b : Nat} (ha : a < 1000) (hb : b < 1000) : imax (Int32.ofNat a) ((1 : Int32) + Int32.ofNat b) = Int32.ofNat (max a (1 + b)) := by
  rw [show (1 : Int32) = Int32.ofNat 1 from rfl, oN_add]
  unfold imax
  by_cases q : a < 1 + b
  · rw [if_pos (by rw [oN_lt (by omega) (by omega)]; exact q), Nat.max_eq_right (by omega)]
  · rw [if_neg (by rw [oN_lt (by omega) (by omega)]; exact q), Nat.max_eq_left (by omega)]
section D1m
variable {sh : xH} {μ : MM} {a : LA} {B : Bk}
theorem l_most_rec (hs : lbS sh a) (hv : lbV μ a B) (hf : ∀ w t, gE B w t = true → w < bn B ∧ t < bm B) : ∀ (d w : Nat) (x : Int32) (fuel : Nat), w + d = bn B → d < fuel → ∃ k, f_X10_most fuel (lab a) (Int32.ofNat w) x (mS sh μ) = some (Int32.ofNat k, mS sh μ) ∧ NuH (gE B) w (hb x) k := by
  have g0 : μ.1 (lab a) 0 = Int32.ofNat (bn B) := hv.1.1
  have g1 : μ.1 (lab a) 1 = Int32.ofNat (bm B) := hv.1.2.1
  have hn : bn B ≤ 12 := hv.2.2.2.2.1.1
  have hm : bm B ≤ 12 := hv.2.2.2.2.1.2.1
  intro d
  induction d with
  | zero =>
    intro w x fuel h hfu
    obtain ⟨f, rfl⟩ : ∃ f, fuel = f + 1 := ⟨fuel - 1, by omega⟩
    have hw : w = bn B := by omega
    refine ⟨0, ?_, by rw [hw]; exact nh_end fun w t e => (hf w t e).1⟩
    show f_X10_most_B (f_X10_most f) (lab a) (Int32.ofNat w) x (mS sh μ) = _
    have c : Int32.ofNat w = Int32.ofNat (bn B) := by rw [hw]
    simp only [f_X10_most_B, hs.g (show 0 < 5 by decide), Option.bind_some, g0, if_pos c]
    rfl
  | succ d ih =>
    intro w x fuel h hfu
    obtain ⟨f, rfl⟩ : ∃ f, fuel = f + 1 := ⟨fuel - 1, by omega⟩
    have w12 : w < 12 := by omega
    obtain ⟨k0, e0, n0⟩ := ih (w + 1) x f (by omega) (by omega)
    have c : ¬ (Int32.ofNat w = Int32.ofNat (bn B)) := by rw [oN_inj (by omega) (by omega)]; omega
    have key : Hw (f_X10_most (f + 1) (lab a) (Int32.ofNat w) x (mS sh μ)) (fun r => ∃ k, r = (Int32.ofNat k, mS sh μ) ∧ NuH (gE B) w (hb x) k) := by
      show Hw (f_X10_most_B (f_X10_most f) (lab a) (Int32.ofNat w) x (mS sh μ)) _
      simp only [f_X10_most_B, hs.g (show 0 < 5 by decide), Option.bind_some, g0, if_neg c, i_succ, e0, hs.vc]
      rw [show (0 : Int32) = Int32.ofNat 0 from rfl]
      refine hw_for (L := fun i t (q : Int32) => f_X10_most_L22 (f_X10_most f) (f_X10_most_J76 (f_X10_most f)) i (lab a) (Int32.ofNat w) x q t (mS sh μ)) (s0 := Int32.ofNat k0) (bm B) (fun t q => ∃ k, q = Int32.ofNat k ∧ NuT (gE B) w (hb x) t k) ⟨k0, rfl, nh_0 n0⟩ (by omega) (fun t ht q hJ => Or.inl ?_) (fun q hJ i => ?_)
      · obtain ⟨k, rfl, hk⟩ := hJ
        have t12 : t < 12 := by omega
        have ct : ¬ (Int32.ofNat t ≥ Int32.ofNat (bm B)) := by rw [oN_ge (by omega) (by omega)]; omega
        have hc := l_can hs hv w12 t12
        have hx := has_eq (x := x) (show t < 32 by omega)
        cases c1 : gE B w t with
        | false =>
          rw [c1] at hc
          refine ⟨Int32.ofNat k, ⟨k, rfl, nh_skip hk (Or.inl c1) t12⟩, fun i => ?_⟩
          simp only [f_X10_most_L22, hs.g (show 1 < 5 by decide), Option.bind_some, g1, if_neg ct, hc, hs.vc, bI_0, if_true, f_X10_most_J70, lt, i_succ]
        | true =>
          rw [c1] at hc
          have nc : ¬ (bI true = 0) := by rw [bI_0]; simp
          cases c2 : hb x t with
          | true =>
            have nx : ¬ (((x >>> (Int32.ofNat t &&& 31)) &&& (1 : Int32)) = 0) := by rw [hx, c2]; simp
            refine ⟨Int32.ofNat k, ⟨k, rfl, nh_skip hk (Or.inr c2) t12⟩, fun i => ?_⟩
            simp only [f_X10_most_L22, hs.g (show 1 < 5 by decide), Option.bind_some, g1, if_neg ct, hc, hs.vc, if_neg nc, if_neg nx, f_X10_most_J70, lt, i_succ]
          | false =>
            have nx : (((x >>> (Int32.ofNat t &&& 31)) &&& (1 : Int32)) = 0) := by rw [hx, c2]
            obtain ⟨k', e', n'⟩ := ih (w + 1) (x ||| ((1 : Int32) <<< (Int32.ofNat t &&& 31))) f (by omega) (by omega)
            have n2 : NuH (gE B) (w + 1) (fun s => hb x s || decide (s = t)) k' := n'.congr fun s _ => by rw [hb_or, hb_bit s (by omega)]
            have l1 := hk.le12
            have l2 := n'.le12
            refine ⟨Int32.ofNat (max k (1 + k')), ⟨_, rfl, nh_take hk n2 c1 c2 w12 t12⟩, fun i => ?_⟩
            simp only [f_X10_most_L22, hs.g (show 1 < 5 by decide), Option.bind_some, g1, if_neg ct, hc, hs.vc, if_neg nc, if_pos nx, i_succ, e', f_X10_most_J70, lt, imax_n (show k < 1000 by omega) (show k' < 1000 by omega)]
      · obtain ⟨k, rfl, hk⟩ := hJ
        have ct : (Int32.ofNat (bm B) ≥ Int32.ofNat (bm B)) := by rw [oN_ge (by omega) (by omega)]; omega
        show Hw (f_X10_most_L22 (f_X10_most f) (f_X10_most_J76 (f_X10_most f)) (i + 1) (lab a) (Int32.ofNat w) x (Int32.ofNat k) (Int32.ofNat (bm B)) (mS sh μ)) _
        simp only [f_X10_most_L22, hs.g (show 1 < 5 by decide), Option.bind_some, g1, if_pos ct, f_X10_most_J76]
        exact hw_ret ⟨k, rfl, nh_fin hk fun t e => (hf w t e).2⟩
    obtain ⟨r, e, k, rfl, q⟩ := key
    exact ⟨k, e, q⟩
theorem l_most (hs : lbS sh a) (hv : lbV μ a B) (hf : ∀ w t, gE B w t = true → w < bn B ∧ t < bm B) : ∃ k, f_X10_most 40 (lab a) 0 0 (mS sh μ) = some (Int32.ofNat k, mS sh μ) ∧ Nu (gE B) k := by
  have hn : bn B ≤ 12 := hv.2.2.2.2.1.1
  obtain ⟨k, e, n⟩ := l_most_rec hs hv hf (bn B) 0 0 40 (by omega) (by omega)
  exact ⟨k, e, nh_nu n hb_zero⟩
end D1m
