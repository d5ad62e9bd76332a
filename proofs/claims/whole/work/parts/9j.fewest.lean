/-! OPERATIONS: fewest -/
/-- in all pairings of most pairs -/
def al (E : Nat → Nat → Bool) (w t : Nat) : Prop := E w t = true ∧ nN (eE E w t) < nN E
theorem al_kv {E : Nat → Nat → Bool} {w t : Nat} (e : E w t = true) : kvE E w t = 3 ↔ al E w t := by
  unfold kvE al
  by_cases c : nN (eE E w t) < nN E
  · rw [if_pos c]; exact ⟨fun _ => ⟨e, c⟩, fun _ => rfl⟩
  · rw [if_neg c]
    refine ⟨fun z => ?_, fun z => absurd z.2 c⟩
    split at z <;> exact absurd z (by decide)
theorem al_M {E : Nat → Nat → Bool} {M : Nat → Nat} {w t : Nat} (h : al E w t) (hM : Ms E M) (hN : Nu E (sz M)) : M w = t := by
  apply Classical.byContradiction
  intro c
  have := (nN_nu (eE E w t)).2 M ⟨hM.1, fun x q => eE_iff.mpr ⟨hM.2 x q, fun z => c (by rw [← z.1]; exact z.2)⟩⟩
  have h2 := h.2
  rw [← hN.nN] at h2
  omega
theorem eE_no {E : Nat → Nat → Bool} {w t : Nat} (h : E w t = false) : eE E w t = E := by
  funext v s
  unfold eE
  by_cases z : v = w ∧ s = t
  · rw [z.1, z.2, h]; rfl
  · have : (decide (v = w) && decide (s = t)) = false := by
      rw [Bool.and_eq_false_iff, decide_eq_false_iff_not, decide_eq_false_iff_not]
      by_cases y : v = w
      · exact Or.inr fun x => z ⟨y, x⟩
      · exact Or.inl y
    rw [this]; simp
theorem eE_comm {E : Nat → Nat → Bool} {w t v s : Nat} : eE (eE E w t) v s = eE (eE E v s) w t := by
  funext a b
  unfold eE
  cases E a b <;> simp [Bool.and_comm]
theorem nN_mono {E E' : Nat → Nat → Bool} (h : ∀ w t, E w t = true → E' w t = true) : nN E ≤ nN E' := (nN_nu E).le (nN_nu E') h
theorem nN_eE (E : Nat → Nat → Bool) (w t : Nat) : nN (eE E w t) ≤ nN E := nN_mono fun _ _ q => (eE_iff.mp q).1
/-- the first of a row of places -/
def FST (P : Nat → Prop) (k0 : Nat) (v : Int32) : Prop := (v = -1 ∧ ∀ k, k0 ≤ k → k < 144 → ¬ P k) ∨ ∃ k, k0 ≤ k ∧ k < 144 ∧ v = Int32.ofNat k ∧ P k ∧ ∀ j, k0 ≤ j → j < k → ¬ P j
theorem FST.uniq {P Q : Nat → Prop} {k0 : Nat} {v v' : Int32} (h : FST P k0 v) (h' : FST Q k0 v') (e : ∀ k, k0 ≤ k → k < 144 → (∀ j, k0 ≤ j → j < k → ¬ P j) → (∀ j, k0 ≤ j → j < k → ¬ Q j) → (P k ↔ Q k)) : v = v' := by
  have key : ∀ n k, k0 ≤ k → k < 144 → k ≤ n → (P k ∨ Q k) → ∃ j, k0 ≤ j ∧ j < 144 ∧ P j ∧ Q j ∧ (∀ i, k0 ≤ i → i < j → ¬ P i) ∧ ∀ i, k0 ≤ i → i < j → ¬ Q i := by
    intro n
    induction n with
    | zero =>
      intro k a b c d
      have p0 : ∀ j, k0 ≤ j → j < k → ¬ P j := fun j x y => absurd y (by omega)
      have q0 : ∀ j, k0 ≤ j → j < k → ¬ Q j := fun j x y => absurd y (by omega)
      have i := e k a b p0 q0
      exact ⟨k, a, b, d.elim id i.mpr, d.elim i.mp id, p0, q0⟩
    | succ n ih =>
      intro k a b c d
      by_cases z : ∃ j, k0 ≤ j ∧ j < k ∧ (P j ∨ Q j)
      · obtain ⟨j, x, y, z⟩ := z
        exact ih j x (by omega) (by omega) z
      · have p0 : ∀ j, k0 ≤ j → j < k → ¬ P j := fun j x y p => z ⟨j, x, y, Or.inl p⟩
        have q0 : ∀ j, k0 ≤ j → j < k → ¬ Q j := fun j x y p => z ⟨j, x, y, Or.inr p⟩
        have i := e k a b p0 q0
        exact ⟨k, a, b, d.elim id i.mpr, d.elim i.mp id, p0, q0⟩
  rcases h with ⟨rfl, h⟩ | ⟨k, a, b, rfl, c, d⟩
  · rcases h' with ⟨rfl, h'⟩ | ⟨k', a', b', rfl, c', d'⟩
    · rfl
    · obtain ⟨j, x, y, p, _⟩ := key k' k' a' b' (Nat.le_refl _) (Or.inr c')
      exact absurd p (h j x y)
  · obtain ⟨j, x, y, p, q, p0, q0⟩ := key k k a b (Nat.le_refl _) (Or.inl c)
    have e1 : j = k := by
      rcases Nat.lt_trichotomy j k with z | z | z
      · exact absurd p (d j x z)
      · exact z
      · exact absurd c (p0 k a z)
    rcases h' with ⟨rfl, h'⟩ | ⟨k', a', b', rfl, c', d'⟩
    · exact absurd q (h' j x y)
    · have e2 : j = k' := by
        rcases Nat.lt_trichotomy j k' with z | z | z
        · exact absurd q (d' j x z)
        · exact z
        · exact absurd c' (q0 k' a' z)
      rw [← e1, ← e2]
/-- place k's worker and task -/
theorem dm12 {k : Nat} (h : k < 144) : Int32.ofNat k / (12 : Int32) = Int32.ofNat (k / 12) ∧ Int32.ofNat k - Int32.ofNat k / (12 : Int32) * (12 : Int32) = Int32.ofNat (k % 12) := by
  have : ∀ k, k < 144 → Int32.ofNat k / (12 : Int32) = Int32.ofNat (k / 12) ∧ Int32.ofNat k - Int32.ofNat k / (12 : Int32) * (12 : Int32) = Int32.ofNat (k % 12) := by decide +kernel
  exact this k h
/-- the model's test of a place; of two places -/
def P1 (B : Bk) (N k : Nat) : Prop := hb (bf B (k / 12)) (k % 12) = true ∧ nN (eE (gE B) (k / 12) (k % 12)) < N
/-- a fit is taken out of the row -/
def wO (B : Bk) (w t : Nat) : Bk := mkB (bn B) (bm B) (bk B) (bw B) (bt B) (be B) (fun x => if x = w then bf B w &&& (((1 : Int32) <<< (Int32.ofNat t &&& 31)) ^^^ (-1)) else bf B x) (bc B) (bM B)
theorem wO_hb {B : Bk} {w t x s : Nat} (ht : t < 12) : hb (bf (wO B w t) x) s = (hb (bf B x) s && !(decide (x = w) && decide (s = t))) := by
  show hb (if x = w then bf B w &&& (((1 : Int32) <<< (Int32.ofNat t &&& 31)) ^^^ (-1)) else bf B x) s = _
  by_cases e : x = w
  · rw [if_pos e, hb_and, hb_not, hb_bit s (by omega), e]
    by_cases c : s < 32
    · simp [c]
    · rw [hb_ge _ (by omega)]; simp
  · rw [if_neg e]; simp [e]
theorem wO_gE {B : Bk} {w t : Nat} (ht : t < 12) : gE (wO B w t) = eE (gE B) w t := by
  funext v s
  show (hb (bf (wO B w t) v) s && hb (bw B) v && hb (bt B) s) = _
  rw [wO_hb ht]
  unfold eE gE
  cases hb (bf B v) s <;> cases hb (bw B) v <;> cases hb (bt B) s <;> simp
def P2 (B : Bk) (N k : Nat) : Prop := hb (bf B (k / 12)) (k % 12) = true ∧ ∃ j, k < j ∧ j < 144 ∧ P1 (wO B (k / 12) (k % 12)) N j
def FBk (q i : Nat) : Prop := q = 191 ∨ Fk q i
section Fb
variable {μ : MM} {B : Bk}
theorem MR.re191' {ν : MM} (h : MR μ 0 B) (f : Fr FBk μ ν) (e : ∀ w, w < 12 → ν.1 191 w = bf B w) : MR ν 0 B := by
  obtain ⟨⟨h0, h1, h2, h3, h4⟩, h5, h6, h7, h8⟩ := h
  refine ⟨⟨?_, ?_, ?_, ?_, ?_⟩, e, fun x hx => ?_, fun x hx => ?_, fun x s hx hs q => ?_⟩
  · rw [(f _ _ (by unfold FBk Fk; omega)).1]; exact h0
  · rw [(f _ _ (by unfold FBk Fk; omega)).1]; exact h1
  · rw [(f _ _ (by unfold FBk Fk; omega)).1]; exact h2
  · rw [(f _ _ (by unfold FBk Fk; omega)).1]; exact h3
  · rw [(f _ _ (by unfold FBk Fk; omega)).1]; exact h4
  · rw [(f _ _ (by unfold FBk Fk; omega)).1]; exact h6 x hx
  · rw [(f _ _ (by unfold FBk Fk; omega)).1]; exact h7 x hx
  · rw [(f _ _ (by unfold FBk Fk; omega)).1]; exact h8 x s hx hs q
theorem MR.wO (h : MR μ 0 B) {w t : Nat} (hw : w < 12) (ht : t < 12) : MR (st μ 191 w (bf B w &&& (((1 : Int32) <<< (Int32.ofNat t &&& 31)) ^^^ (-1)))) 0 (wO B w t) := by
  obtain ⟨⟨h0, h1, h2, h3, h4⟩, h5, h6, h7, h8⟩ := h
  refine ⟨⟨?_, ?_, ?_, ?_, ?_⟩, fun x hx => ?_, fun x hx => ?_, fun x hx => ?_, fun x s hx hs q => ?_⟩
  · rw [st_ne (Or.inl (by omega))]; exact h0
  · rw [st_ne (Or.inl (by omega))]; exact h1
  · rw [st_ne (Or.inl (by omega))]; exact h2
  · rw [st_ne (Or.inl (by omega))]; exact h3
  · rw [st_ne (Or.inl (by omega))]; exact h4
  · rw [st_at]
    show _ = if x = w then bf B w &&& (((1 : Int32) <<< (Int32.ofNat t &&& 31)) ^^^ (-1)) else bf B x
    by_cases z : x = w
    · rw [if_pos ⟨rfl, z⟩, if_pos z]
    · rw [if_neg (fun y => z y.2), if_neg z]; exact h5 x hx
  · rw [st_ne (Or.inl (by omega))]; exact h6 x hx
  · rw [st_ne (Or.inl (by omega))]; exact h7 x hx
  · rw [wO_hb ht] at q
    rw [st_ne (Or.inl (by omega))]
    exact h8 x s hx hs ((Bool.and_eq_true _ _).mp q).1
theorem m_nuG (hm : MR μ 0 B) (hE : Eb (gE B)) : ∃ ν, f_X10_nu 168 (mem μ) = some (Int32.ofNat (nN (gE B)), mem ν) ∧ Fr Fk μ ν := by
  obtain ⟨k, ν, e, f, n⟩ := m_nu hE gE_W hm.MG
  exact ⟨ν, by rw [← n.nN]; exact e, f⟩
theorem back191 {w t : Nat} (ht : t < 12) (q : hb (bf B w) t = true) : (bf B w &&& (((1 : Int32) <<< (Int32.ofNat t &&& 31)) ^^^ (-1))) ||| ((1 : Int32) <<< (Int32.ofNat t &&& 31)) = bf B w := by
  apply hb_ext; intro k hk'
  rw [hb_or, hb_and, hb_not, hb_bit k (by omega)]
  by_cases z : k = t
  · rw [z, q]; simp
  · simp [z, hk']
/-- a place is tried, the row as it was behind -/
theorem m_fb_96 (hm : MR μ 0 B) {ξ : MM} {w t : Nat} (hw : w < 12) (ht : t < 12) (q : hb (bf B w) t = true) (f : Fr FBk (st μ 191 w (bf B w &&& (((1 : Int32) <<< (Int32.ofNat t &&& 31)) ^^^ (-1)))) ξ) (m : MR ξ 0 (wO B w t)) :
    Fr FBk μ (st ξ 191 w (bf B w)) ∧ MR (st ξ 191 w (bf B w)) 0 B ∧ ∀ rec kH kE kE2 N x3 x4 (s0 : Int32), f_X10_firstBut_J96 rec kH kE kE2 168 N x3 x4 (Int32.ofNat w) (Int32.ofNat t) s0 (mem ξ) = if s0 = 0 then f_X10_firstBut_J122 rec kH kE kE2 168 N x3 x4 (mem (st ξ 191 w (bf B w))) else kE x4 (mem (st ξ 191 w (bf B w))) := by
  have f1 : Fr FBk μ (st ξ 191 w (bf B w)) := ((((Fr.refl FBk μ).st (v := bf B w &&& (((1 : Int32) <<< (Int32.ofNat t &&& 31)) ^^^ (-1))) (Or.inl rfl)).trans f).st (Or.inl rfl))
  refine ⟨f1, hm.re191' f1 fun x hx => ?_, fun rec kH kE kE2 N x3 x4 s0 => ?_⟩
  · rw [st_at]
    by_cases z : x = w
    · rw [if_pos ⟨rfl, z⟩, z]
    · rw [if_neg (fun y => z y.2), m.2.1 x hx]
      show (if x = w then _ else bf B x) = bf B x
      rw [if_neg z]
  · have e : ξ.1 191 w = bf B w &&& (((1 : Int32) <<< (Int32.ofNat t &&& 31)) ^^^ (-1)) := by
      rw [m.2.1 w hw]
      show (if w = w then _ else bf B w) = _
      rw [if_pos rfl]
    simp only [f_X10_firstBut_J96, ↓hbind gR_168_10, ↓hbind mr_f0, ↓hbind (ma_f0 hw), e, back191 ht q, ↓hbind (ms_f0 hw)]
theorem m_fb0 (hE : Eb (gE B)) {N : Nat} (hN : N ≤ 12) (rec : Nat → Int32 → Int32 → Int32 → xH → Option (Int32 × xH)) : ∀ (d k : Nat) (ν : MM), k + d = 144 → MR ν 0 B → ∃ ξ v, (∀ f, f_X10_firstBut_L3 rec (f_X10_firstBut_J119 rec) (f_X10_firstBut_J128 rec) (d + 1 + f) 168 (Int32.ofNat N) 0 (Int32.ofNat k) (mem ν) = some (v, mem ξ)) ∧ Fr FBk ν ξ ∧ MR ξ 0 B ∧ FST (P1 B N) k v
  | 0, k, ν, h, hm => by
    have c : (Int32.ofNat k ≥ 144) = True := by rw [lge_144 (by omega)]; exact eq_true (by omega)
    refine ⟨ν, -1, fun f => ?_, Fr.refl _ _, hm, Or.inl ⟨rfl, fun j a b => absurd b (by omega)⟩⟩
    rw [show 0 + 1 + f = f + 1 by omega]
    simp only [f_X10_firstBut_L3, c, ↓reduceIte, f_X10_firstBut_J128]
  | d + 1, k, ν, h, hm => by
    have hk : k < 144 := by omega
    have c : (Int32.ofNat k ≥ 144) = False := by rw [lge_144 (by omega)]; exact eq_false (by omega)
    obtain ⟨d1, d2⟩ := dm12 hk
    have hw : k / 12 < 12 := by omega
    have ht : k % 12 < 12 := by omega
    have ef := m_isFit hm hw (show k % 12 < 32 by omega)
    -- from the next place on
    have nx : ∀ (ν' : MM), MR ν' 0 B → Fr FBk ν ν' → ¬ P1 B N k → (∀ f, f_X10_firstBut_L3 rec (f_X10_firstBut_J119 rec) (f_X10_firstBut_J128 rec) (d + 1 + f + 1) 168 (Int32.ofNat N) 0 (Int32.ofNat k) (mem ν) = f_X10_firstBut_J122 rec (f_X10_firstBut_L3 rec (f_X10_firstBut_J119 rec) (f_X10_firstBut_J128 rec) (d + 1 + f)) (f_X10_firstBut_J119 rec) (f_X10_firstBut_J128 rec) 168 (Int32.ofNat N) 0 (Int32.ofNat k) (mem ν')) → ∃ ξ v, (∀ f, f_X10_firstBut_L3 rec (f_X10_firstBut_J119 rec) (f_X10_firstBut_J128 rec) (d + 1 + 1 + f) 168 (Int32.ofNat N) 0 (Int32.ofNat k) (mem ν) = some (v, mem ξ)) ∧ Fr FBk ν ξ ∧ MR ξ 0 B ∧ FST (P1 B N) k v := fun ν' m' f' np e => by
      obtain ⟨ξ, v, e2, f2, m2, fs⟩ := m_fb0 hE hN rec d (k + 1) ν' (by omega) m'
      refine ⟨ξ, v, fun f => ?_, f'.trans f2, m2, ?_⟩
      · rw [show d + 1 + 1 + f = d + 1 + f + 1 by omega, e f]
        simp only [f_X10_firstBut_J122, lt, i_succ, e2 f]
      · rcases fs with ⟨rfl, fs⟩ | ⟨j, a, b, c, p, fs⟩
        · refine Or.inl ⟨rfl, fun j a b => ?_⟩
          by_cases z : j = k
          · rw [z]; exact np
          · exact fs j (by omega) b
        · refine Or.inr ⟨j, by omega, b, c, p, fun i a' b' => ?_⟩
          by_cases z : i = k
          · rw [z]; exact np
          · exact fs i (by omega) b'
    cases q : hb (bf B (k / 12)) (k % 12) with
    | false =>
      rw [q] at ef
      refine nx ν hm (Fr.refl _ _) (fun z => by have := z.1; rw [q] at this; cases this) (fun f => ?_)
      simp only [f_X10_firstBut_L3, c, ↓reduceIte, lt]
      rw [d2, d1]
      simp only [↓hvc (fun _ => vc_168), ↓hbind ef, show bI false = 0 from rfl, ↓reduceIte]
    | true =>
      rw [q] at ef
      have hE' : Eb (gE (wO B (k / 12) (k % 12))) := by rw [wO_gE ht]; exact eE_Eb hE
      have m1 := hm.wO hw ht
      obtain ⟨ζ, e1, f1⟩ := m_nuG m1 hE'
      have m2 := m1.fr f1 fun q i a z => by unfold FR at a; unfold Fk at z; omega
      obtain ⟨g1, g2, g3⟩ := m_fb_96 hm hw ht q (f1.mono fun q i z => Or.inr z) m2
      have e0 : ν.1 191 (k / 12) = bf B (k / 12) := hm.2.1 _ hw
      have n1 := nN_le (gE (wO B (k / 12) (k % 12)))
      rw [wO_gE ht] at e1 n1
      by_cases p : nN (eE (gE B) (k / 12) (k % 12)) < N
      · have p' : (Int32.ofNat (nN (eE (gE B) (k / 12) (k % 12))) ≥ Int32.ofNat N) = False := by rw [oN_ge (by omega) (by omega)]; exact eq_false (by omega)
        refine ⟨st ζ 191 (k / 12) (bf B (k / 12)), Int32.ofNat k, fun f => ?_, g1, g2, Or.inr ⟨k, Nat.le_refl _, hk, rfl, ⟨q, p⟩, fun j a b => absurd b (by omega)⟩⟩
        rw [show d + 1 + 1 + f = d + 1 + f + 1 by omega]
        simp only [f_X10_firstBut_L3, c, ↓reduceIte, lt]
        rw [d2, d1]
        simp only [↓hvc (fun _ => vc_168), ↓hbind ef, show bI true = 1 from rfl, z_1, ↓reduceIte, ↓hbind gR_168_10, ↓hbind mr_f0, ↓hbind (ma_f0 hw), e0, ↓hbind (ms_f0 hw), ↓hbind e1, p', g3, f_X10_firstBut_J119]
      · have p' : (Int32.ofNat (nN (eE (gE B) (k / 12) (k % 12))) ≥ Int32.ofNat N) = True := by rw [oN_ge (by omega) (by omega)]; exact eq_true (by omega)
        refine nx _ g2 g1 (fun z => p z.2) (fun f => ?_)
        simp only [f_X10_firstBut_L3, c, ↓reduceIte, lt]
        rw [d2, d1]
        simp only [↓hvc (fun _ => vc_168), ↓hbind ef, show bI true = 1 from rfl, z_1, ↓reduceIte, ↓hbind gR_168_10, ↓hbind mr_f0, ↓hbind (ma_f0 hw), e0, ↓hbind (ms_f0 hw), ↓hbind e1, p', g3]
end Fb
