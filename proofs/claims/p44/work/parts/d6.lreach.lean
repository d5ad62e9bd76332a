/-! THE LAW'S BOOK: reached -/
/-- what a pair asks of the four masks: workers and tasks from free workers, workers and tasks from free tasks -/
def PCd (E : Nat → Nat → Bool) (M : Nat → Nat) (x y u v : Int32) (w t : Nat) : Prop :=
  E w t = true → (hb x w = true → hb y t = true) ∧ (hb v t = true → hb u w = true) ∧ (M w = t → (hb y t = true → hb x w = true) ∧ (hb u w = true → hb v t = true))
def Snd (E : Nat → Nat → Bool) (M : Nat → Nat) (Wt Tt : Int32) (x y u v : Int32) : Prop := SoW E M Wt x y ∧ SoW (trE E) (tr M) Tt v u
def Mle (x y : Int32) : Prop := ∀ k, hb x k = true → hb y k = true
theorem Mle.refl (x : Int32) : Mle x x := fun _ h => h
theorem Mle.trans {x y z : Int32} (h : Mle x y) (h' : Mle y z) : Mle x z := fun k q => h' k (h k q)
theorem Mle.anti {x y : Int32} (h : Mle x y) (h' : Mle y x) : x = y := hb_ext fun k _ => by
  rw [Bool.eq_iff_iff]
  exact ⟨h k, h' k⟩
theorem Mle.or {x y : Int32} : Mle x (x ||| y) := fun k q => by rw [hb_or, q]; rfl
def Cld (E : Nat → Nat → Bool) (M : Nat → Nat) (x y u v : Int32) : Prop := ∀ w t, PCd E M x y u v w t
section D6
variable {E : Nat → Nat → Bool} {M : Nat → Nat} {Wt Tt x y u v : Int32}
theorem Cld.all (hE : Eb E) (hM : Ms E M) (h : Snd E M Wt Tt x y u v) (c : Cld E M x y u v) : AlW E M Wt x y ∧ AlW (trE E) (tr M) Tt v u := by
  refine ⟨h.1.all hE ⟨fun w t q e => (c w t e).1 q, fun w hw q z => ?_⟩, h.2.all (trE_Eb hE) ⟨fun t w q e => (c w t e).2.1 q, fun t ht q z => ?_⟩⟩
  · exact ((c w (M w) (hM.2 w q)).2.2 rfl).1 z
  · rw [tr_lt ht] at q z
    have e := ow_M q
    have := hM.2 (ow M t) (by rw [e]; exact ht)
    rw [e] at this
    exact ((c (ow M t) t this).2.2 e).2 z
/-- one pair: the four masks behind it -/
def sy (x y : Int32) (w t : Nat) : Int32 := if hb x w = true then y ||| ((1 : Int32) <<< (Int32.ofNat t &&& 31)) else y
theorem sy_le {w t : Nat} : Mle y (sy x y w t) := by
  unfold sy
  split
  · exact Mle.or
  · exact Mle.refl y
theorem sy_at {w t k : Nat} (ht : t < 32) : hb (sy x y w t) k = true ↔ hb y k = true ∨ (hb x w = true ∧ k = t) := by
  unfold sy
  split
  · rename_i q
    rw [hb_or, hb_bit k ht]
    simp [q]
  · rename_i q
    simp [q]
theorem sy_eq {w t : Nat} (h : hb x w = true → hb y t = true) (ht : t < 32) : sy x y w t = y := (Mle.anti (fun k q => by
  rcases (sy_at ht).mp q with z | ⟨z, rfl⟩
  · exact z
  · exact h z) sy_le)
theorem Snd.sy1 (hE : Eb E) (h : Snd E M Wt Tt x y u v) {w t : Nat} (e : E w t = true) : Snd E M Wt Tt x (sy x y w t) u v := by
  refine ⟨⟨h.1.1, fun k q => ?_, h.1.2.2⟩, h.2⟩
  rcases (sy_at (by have := (hE _ _ e).2; omega)).mp q with z | ⟨z, rfl⟩
  · exact h.1.2.1 k z
  · exact ⟨w, h.1.1 w z, e⟩
theorem Snd.su1 (hE : Eb E) (h : Snd E M Wt Tt x y u v) {w t : Nat} (e : E w t = true) : Snd E M Wt Tt x y (sy v u t w) v := by
  refine ⟨h.1, ⟨h.2.1, fun k q => ?_, h.2.2.2⟩⟩
  rcases (sy_at (by have := (hE _ _ e).1; omega)).mp q with z | ⟨z, rfl⟩
  · exact h.2.2.1 k z
  · exact ⟨t, h.2.1 t z, e⟩
theorem Snd.sx1 (hE : Eb E) (hM : Ms E M) (h : Snd E M Wt Tt x y u v) {w : Nat} (hw : w < 12) (q : M w < 12) : Snd E M Wt Tt (sy y x (M w) w) y u v := by
  refine ⟨⟨fun k q' => ?_, h.1.2.1, fun k a b c => sy_le k (h.1.2.2 k a b c)⟩, h.2⟩
  rcases (sy_at (show w < 32 by omega)).mp q' with z | ⟨z, rfl⟩
  · exact h.1.1 k z
  · exact (h.1.2.1 _ z).step hM.1 hE q
theorem Snd.sv1 (hE : Eb E) (hM : Ms E M) (h : Snd E M Wt Tt x y u v) {w : Nat} (hw : w < 12) (q : M w < 12) : Snd E M Wt Tt x y u (sy u v w (M w)) := by
  refine ⟨h.1, ⟨fun k q' => ?_, h.2.2.1, fun k a b c => sy_le k (h.2.2.2 k a b c)⟩⟩
  rcases (sy_at (show M w < 32 by omega)).mp q' with z | ⟨z, rfl⟩
  · exact h.2.1 k z
  · have e : tr M (M w) = w := by rw [tr_lt q, ow_of hM.1 q]
    have := h.2.2.1 w z
    rw [← e] at this
    exact this.step (tr_Mt hM.1) (trE_Eb hE) (by rw [e]; exact hw)
end D6
/-- the masks of a state -/
def orb (ν : MM) (y k i k' j : Nat) : MM := if hb (ν.1 y k) i = true then st ν y k' (ν.1 y k' ||| ((1 : Int32) <<< (Int32.ofNat j &&& 31))) else ν
theorem orb_same {ν : MM} {y k i k' j : Nat} : (orb ν y k i k' j).1 y k' = sy (ν.1 y k) (ν.1 y k') i j := by
  unfold orb sy
  split
  · rw [st_same]
  · rfl
theorem orb_ne {ν : MM} {y k i k' j q : Nat} (h : q ≠ k') : (orb ν y k i k' j).1 y q = ν.1 y q := by
  unfold orb
  split
  · rw [st_ne (Or.inr h)]
  · rfl
theorem orb_fr {ν μ : MM} {y k i k' j : Nat} (h : Fr (fun q _ => q = y) μ ν) : Fr (fun q _ => q = y) μ (orb ν y k i k' j) := by
  unfold orb
  split
  · exact h.st rfl
  · exact h
section D6m
variable {sh : xH} {μ : MM} {a b : LA} {B : Bk}
theorem co {β : Type} {ν : MM} {y k i k' j : Nat} {K : xH → Option β} (hA : isA sh 100 y 4 isInt = true) (hk : k < 4) (hk' : k' < 4) (hi : i < 32) :
    ((aI (mS sh ν) y (Int32.ofNat k)).bind fun v1 => if ((v1 >>> (Int32.ofNat i &&& 31)) &&& (1 : Int32)) = (1 : Int32) then (aI (mS sh ν) y (Int32.ofNat k')).bind fun v2 => (sI (mS sh ν) y (Int32.ofNat k') (v2 ||| ((1 : Int32) <<< (Int32.ofNat j &&& 31)))).bind fun h3 => K h3 else K (mS sh ν)) = K (mS sh (orb ν y k i k' j)) := by
  rw [aI_k hA hk (by omega), Option.bind_some]
  have e := has_eq1 (x := ν.1 y k) hi
  unfold orb
  by_cases c : hb (ν.1 y k) i = true
  · rw [if_pos (by rw [e]; exact c), if_pos c, aI_k hA hk' (by omega), Option.bind_some, sI_k hA hk' (by omega), Option.bind_some]
  · rw [if_neg (by rw [e]; exact c), if_neg c]
/-- the row of the masks, as it stands -/
def SS4 (E : Nat → Nat → Bool) (M : Nat → Nat) (Wt Tt : Int32) (y : Nat) (ν : MM) : Prop := Snd E M Wt Tt (ν.1 y 0) (ν.1 y 1) (ν.1 y 2) (ν.1 y 3)
def CC4 (E : Nat → Nat → Bool) (M : Nat → Nat) (y : Nat) (ν : MM) (w t : Nat) : Prop := PCd E M (ν.1 y 0) (ν.1 y 1) (ν.1 y 2) (ν.1 y 3) w t
def Le4 (y : Nat) (ν ξ : MM) : Prop := ∀ k, k < 4 → Mle (ν.1 y k) (ξ.1 y k)
def Eq4 (y : Nat) (ν ξ : MM) : Prop := ∀ k, k < 4 → ξ.1 y k = ν.1 y k
theorem Le4.orb {ν : MM} {y k i k' j : Nat} : Le4 y ν (orb ν y k i k' j) := fun q _ => by
  by_cases z : q = k'
  · rw [z, orb_same]; exact sy_le
  · rw [orb_ne z]; exact Mle.refl _
theorem Le4.trans {ν ξ ζ : MM} {y : Nat} (h : Le4 y ν ξ) (h' : Le4 y ξ ζ) : Le4 y ν ζ := fun k hk => (h k hk).trans (h' k hk)
theorem Le4.anti {ν ξ : MM} {y : Nat} (h : Le4 y ν ξ) (h' : Le4 y ξ ν) : Eq4 y ν ξ := fun k hk => (h k hk).anti (h' k hk) |>.symm
theorem CC4.congr {E : Nat → Nat → Bool} {M : Nat → Nat} {ν ξ : MM} {y w t : Nat} (h : CC4 E M y ν w t) (e : Eq4 y ν ξ) : CC4 E M y ξ w t := by
  unfold CC4
  rw [e 0 (by omega), e 1 (by omega), e 2 (by omega), e 3 (by omega)]
  exact h
/-- one pair of worker and task -/
theorem l_rc_step' (hs : lbS sh a) (hsb : lbS sh b) {M : Nat → Nat} (hE : Eb (gE B)) (hM : Ms (gE B) M) {y : Nat} (hy : sh[y]? = some (100, dI 4)) {w t : Nat} (hw : w < 12) (ht : t < 12) {ν : MM} (hv : lbV ν a B) (hvb : lbV ν b (wM B M)) (hyF : ∀ i, ¬ LF b y i) (c1 : ¬ (Int32.ofNat t ≥ Int32.ofNat (bm B)))
    (h : SS4 (gE B) M (bw B) (bt B) y ν) (x3 : Int32) : ∃ ξ, (∀ n (kE : Nat → Nat → Nat → Int32 → Int32 → xH → Option (Option Nat × xH)), f_X10_reached_L139 kE (n + 1) (lab a) (lab b) y x3 (Int32.ofNat w) (Int32.ofNat t) (mS sh ν) = f_X10_reached_L139 kE n (lab a) (lab b) y x3 (Int32.ofNat w) (Int32.ofNat (t + 1)) (mS sh ξ)) ∧ Fr (fun q _ => q = y) ν ξ ∧ SS4 (gE B) M (bw B) (bt B) y ξ ∧ Le4 y ν ξ ∧ (Eq4 y ν ξ → CC4 (gE B) M y ν w t) ∧ (CC4 (gE B) M y ν w t → Eq4 y ν ξ) := by
  have hA : isA sh 100 y 4 isInt = true := isA_of hy
  have g1 : ν.1 (lab a) 1 = Int32.ofNat (bm B) := hv.1.2.1
  have hc := l_can hs hv hw ht
  cases c2 : gE B w t with
  | false =>
    rw [c2] at hc
    refine ⟨ν, fun n kE => ?_, Fr.refl _ _, h, fun k _ => Mle.refl _, fun _ e => (by rw [c2] at e; cases e), fun _ _ _ => rfl⟩
    simp only [f_X10_reached_L139, hs.g (show 1 < 5 by decide), Option.bind_some, g1, if_neg c1, hc, hs.vc, bI_0, if_true, f_X10_reached_J265, lt, i_succ]
  | true =>
    rw [c2] at hc
    have nc : ¬ (bI true = 0) := by rw [bI_0]; simp
    obtain ⟨ν1, h1⟩ : ∃ x, x = orb ν y 0 w 1 t := ⟨_, rfl⟩
    obtain ⟨ν2, h2⟩ : ∃ x, x = orb ν1 y 3 t 2 w := ⟨_, rfl⟩
    obtain ⟨ν3, h3⟩ : ∃ x, x = orb ν2 y 1 t 0 w := ⟨_, rfl⟩
    obtain ⟨ν4, h4⟩ : ∃ x, x = orb ν3 y 2 w 3 t := ⟨_, rfl⟩
    have f1 : Fr (fun q _ => q = y) ν ν1 := by rw [h1]; exact orb_fr (Fr.refl _ _)
    have f2 : Fr (fun q _ => q = y) ν ν2 := by rw [h2]; exact orb_fr f1
    have f3 : Fr (fun q _ => q = y) ν ν3 := by rw [h3]; exact orb_fr f2
    have f4 : Fr (fun q _ => q = y) ν ν4 := by rw [h4]; exact orb_fr f3
    have l1 : Le4 y ν ν1 := by rw [h1]; exact Le4.orb
    have l2 : Le4 y ν1 ν2 := by rw [h2]; exact Le4.orb
    have l3 : Le4 y ν2 ν3 := by rw [h3]; exact Le4.orb
    have l4 : Le4 y ν3 ν4 := by rw [h4]; exact Le4.orb
    have s1 : SS4 (gE B) M (bw B) (bt B) y ν1 := by
      unfold SS4
      rw [h1, orb_same, orb_ne (by omega), orb_ne (by omega), orb_ne (by omega)]
      exact h.sy1 hE c2
    have s2 : SS4 (gE B) M (bw B) (bt B) y ν2 := by
      unfold SS4
      rw [h2, orb_same, orb_ne (by omega), orb_ne (by omega), orb_ne (by omega)]
      exact s1.su1 hE c2
    have hvb2 : lbV ν2 b (wM B M) := hvb.fr hsb f2 fun q i z e => hyF i (by rw [← e]; exact z)
    have gq : ν2.1 (laq b) w = eI (M w) := hvb2.2.2.1 w hw
    have head : ∀ n (kE : Nat → Nat → Nat → Int32 → Int32 → xH → Option (Option Nat × xH)), f_X10_reached_L139 kE (n + 1) (lab a) (lab b) y x3 (Int32.ofNat w) (Int32.ofNat t) (mS sh ν) = f_X10_reached_J206 (f_X10_reached_L139 kE n) kE (lab a) (lab b) y x3 (Int32.ofNat w) (Int32.ofNat t) (mS sh ν2) := fun n kE => by
      simp only [f_X10_reached_L139, hs.g (show 1 < 5 by decide), Option.bind_some, g1, if_neg c1, hc, hs.vc, if_neg nc]
      have e1 := co (sh := sh) (ν := ν) (y := y) (k := 0) (i := w) (k' := 1) (j := t) (K := f_X10_reached_J184 (f_X10_reached_L139 kE n) kE (lab a) (lab b) y x3 (Int32.ofNat w) (Int32.ofNat t)) hA (by omega) (by omega) (by omega)
      have e2 := co (sh := sh) (ν := ν1) (y := y) (k := 3) (i := t) (k' := 2) (j := w) (K := f_X10_reached_J206 (f_X10_reached_L139 kE n) kE (lab a) (lab b) y x3 (Int32.ofNat w) (Int32.ofNat t)) hA (by omega) (by omega) (by omega)
      rw [← h1] at e1
      rw [← h2] at e2
      exact e1.trans e2
    by_cases c3 : M w = t
    · have q12 : M w < 12 := by omega
      have ce : eI (M w) = Int32.ofNat t := by rw [eI_lt q12, c3]
      have s3 : SS4 (gE B) M (bw B) (bt B) y ν3 := by
        unfold SS4
        rw [h3, orb_same, orb_ne (by omega), orb_ne (by omega), orb_ne (by omega)]
        have := Snd.sx1 hE hM s2 hw q12
        rwa [c3] at this
      have s4 : SS4 (gE B) M (bw B) (bt B) y ν4 := by
        unfold SS4
        rw [h4, orb_same, orb_ne (by omega), orb_ne (by omega), orb_ne (by omega)]
        have := Snd.sv1 hE hM s3 hw q12
        rwa [c3] at this
      refine ⟨ν4, fun n kE => ?_, f4, s4, l1.trans (l2.trans (l3.trans l4)), fun e => ?_, fun pc => ?_⟩
      · rw [head n kE]
        simp only [f_X10_reached_J206, hsb.r6, hsb.aq hw, Option.bind_some, gq, if_pos ce]
        have e1 := co (sh := sh) (ν := ν2) (y := y) (k := 1) (i := t) (k' := 0) (j := w) (K := f_X10_reached_J243 (f_X10_reached_L139 kE n) kE (lab a) (lab b) y x3 (Int32.ofNat w) (Int32.ofNat t)) hA (by omega) (by omega) (by omega)
        have e2 := co (sh := sh) (ν := ν3) (y := y) (k := 2) (i := w) (k' := 3) (j := t) (K := f_X10_reached_J265 (f_X10_reached_L139 kE n) kE (lab a) (lab b) y x3 (Int32.ofNat w) (Int32.ofNat t)) hA (by omega) (by omega) (by omega)
        rw [← h3] at e1
        rw [← h4] at e2
        refine (e1.trans e2).trans ?_
        simp only [f_X10_reached_J265, lt, i_succ]
      · -- nothing changed at the end: nothing changed at each place
        have le4 : Le4 y ν4 ν := fun k hk => by rw [e k hk]; exact Mle.refl _
        have q1 : Eq4 y ν ν1 := l1.anti (l2.trans (l3.trans (l4.trans le4)))
        have q2 : Eq4 y ν1 ν2 := l2.anti (l3.trans (l4.trans (le4.trans l1)))
        have q3 : Eq4 y ν2 ν3 := l3.anti (l4.trans (le4.trans (l1.trans l2)))
        have q4 : Eq4 y ν3 ν4 := l4.anti (le4.trans (l1.trans (l2.trans l3)))
        have p1 := q1 1 (by omega)
        have p2 := q2 2 (by omega)
        have p3 := q3 0 (by omega)
        have p4 := q4 3 (by omega)
        rw [h1, orb_same] at p1
        rw [h2, orb_same] at p2
        rw [h3, orb_same] at p3
        rw [h4, orb_same] at p4
        have r1 : ∀ k, k < 4 → ν1.1 y k = ν.1 y k := q1
        have r2 : ∀ k, k < 4 → ν2.1 y k = ν.1 y k := fun k hk => (q2 k hk).trans (q1 k hk)
        have r3 : ∀ k, k < 4 → ν3.1 y k = ν.1 y k := fun k hk => (q3 k hk).trans (r2 k hk)
        rw [r1 3 (by omega), r1 2 (by omega)] at p2
        rw [r2 1 (by omega), r2 0 (by omega)] at p3
        rw [r3 2 (by omega), r3 3 (by omega)] at p4
        refine fun _ => ⟨fun z => ?_, fun z => ?_, fun _ => ⟨fun z => ?_, fun z => ?_⟩⟩
        · rw [← p1]; exact (sy_at (by omega)).mpr (Or.inr ⟨z, rfl⟩)
        · rw [← p2]; exact (sy_at (by omega)).mpr (Or.inr ⟨z, rfl⟩)
        · rw [← p3]; exact (sy_at (by omega)).mpr (Or.inr ⟨z, rfl⟩)
        · rw [← p4]; exact (sy_at (by omega)).mpr (Or.inr ⟨z, rfl⟩)
      · obtain ⟨p1, p2, p3⟩ := pc c2
        obtain ⟨p3, p4⟩ := p3 c3
        have q1 : Eq4 y ν ν1 := fun k hk => by
          by_cases z : k = 1
          · rw [z, h1]; exact (orb_same).trans (sy_eq p1 (by omega))
          · rw [h1]; exact orb_ne z
        have q2 : Eq4 y ν ν2 := fun k hk => by
          by_cases z : k = 2
          · rw [z, h2, orb_same, q1 3 (by omega), q1 2 (by omega)]; exact sy_eq p2 (by omega)
          · rw [h2]; exact (orb_ne z).trans (q1 k hk)
        have q3 : Eq4 y ν ν3 := fun k hk => by
          by_cases z : k = 0
          · rw [z, h3, orb_same, q2 1 (by omega), q2 0 (by omega)]; exact sy_eq p3 (by omega)
          · rw [h3]; exact (orb_ne z).trans (q2 k hk)
        intro k hk
        by_cases z : k = 3
        · rw [z, h4, orb_same, q3 2 (by omega), q3 3 (by omega)]; exact sy_eq p4 (by omega)
        · rw [h4]; exact (orb_ne z).trans (q3 k hk)
    · have ce : ¬ (eI (M w) = Int32.ofNat t) := by rw [eI_oN (hM.1.1 w) ht]; exact c3
      refine ⟨ν2, fun n kE => ?_, f2, s2, l1.trans l2, fun e => ?_, fun pc => ?_⟩
      · rw [head n kE]
        simp only [f_X10_reached_J206, hsb.r6, hsb.aq hw, Option.bind_some, gq, if_neg ce, f_X10_reached_J265, lt, i_succ]
      · have le2 : Le4 y ν2 ν := fun k hk => by rw [e k hk]; exact Mle.refl _
        have q1 : Eq4 y ν ν1 := l1.anti (l2.trans le2)
        have q2 : Eq4 y ν1 ν2 := l2.anti (le2.trans l1)
        have p1 := q1 1 (by omega)
        have p2 := q2 2 (by omega)
        rw [h1, orb_same] at p1
        rw [h2, orb_same, q1 3 (by omega), q1 2 (by omega)] at p2
        refine fun _ => ⟨fun z => ?_, fun z => ?_, fun z => absurd z c3⟩
        · rw [← p1]; exact (sy_at (by omega)).mpr (Or.inr ⟨z, rfl⟩)
        · rw [← p2]; exact (sy_at (by omega)).mpr (Or.inr ⟨z, rfl⟩)
      · obtain ⟨p1, p2, -⟩ := pc c2
        have q1 : Eq4 y ν ν1 := fun k hk => by
          by_cases z : k = 1
          · rw [z, h1]; exact (orb_same).trans (sy_eq p1 (by omega))
          · rw [h1]; exact orb_ne z
        intro k hk
        by_cases z : k = 2
        · rw [z, h2, orb_same, q1 3 (by omega), q1 2 (by omega)]; exact sy_eq p2 (by omega)
        · rw [h2]; exact (orb_ne z).trans (q1 k hk)
end D6m
