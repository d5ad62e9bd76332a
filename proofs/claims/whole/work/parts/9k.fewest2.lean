/-! OPERATIONS: fewest, the second half -/
section Fb2
variable {μ : MM} {B : Bk}
theorem m_fb1 (hE : Eb (gE B)) {N : Nat} (hN : N ≤ 12) (rec : Nat → Int32 → Int32 → Int32 → xH → Option (Int32 × xH)) (hr : ∀ (ν : MM) (B' : Bk) (k : Nat), k ≤ 144 → MR ν 0 B' → Eb (gE B') → ∃ ξ v, rec 168 (Int32.ofNat k) (Int32.ofNat N) 0 (mem ν) = some (v, mem ξ) ∧ Fr FBk ν ξ ∧ MR ξ 0 B' ∧ FST (P1 B' N) k v) : ∀ (d k : Nat) (ν : MM), k + d = 144 → MR ν 0 B → ∃ ξ v, (∀ f, f_X10_firstBut_L3 rec (f_X10_firstBut_J119 rec) (f_X10_firstBut_J128 rec) (d + 1 + f) 168 (Int32.ofNat N) 1 (Int32.ofNat k) (mem ν) = some (v, mem ξ)) ∧ Fr FBk ν ξ ∧ MR ξ 0 B ∧ FST (P2 B N) k v
  | 0, k, ν, h, hm => by
    have c : (Int32.ofNat k ≥ 144) = True := by rw [lge_144 (by omega)]; exact eq_true (by omega)
    refine ⟨ν, -1, fun f => ?_, Fr.refl _ _, hm, Or.inl ⟨rfl, fun j a b => absurd b (by omega)⟩⟩
    rw [show 0 + 1 + f = f + 1 by omega]
    simp only [f_X10_firstBut_L3, c, ↓reduceIte, f_X10_firstBut_J128]
  | d + 1, k, ν, h, hm => by
    have hk : k < 144 := by omega
    have c : (Int32.ofNat k ≥ 144) = False := by rw [lge_144 (by omega)]; exact eq_false (by omega)
    obtain ⟨d1, d2⟩ := dm12 hk
    have hw : k / 12 < 12 := by omega
    have ht : k % 12 < 12 := by omega
    have ef := m_isFit hm hw (show k % 12 < 32 by omega)
    have nx : ∀ (ν' : MM), MR ν' 0 B → Fr FBk ν ν' → ¬ P2 B N k → (∀ f, f_X10_firstBut_L3 rec (f_X10_firstBut_J119 rec) (f_X10_firstBut_J128 rec) (d + 1 + f + 1) 168 (Int32.ofNat N) 1 (Int32.ofNat k) (mem ν) = f_X10_firstBut_J122 rec (f_X10_firstBut_L3 rec (f_X10_firstBut_J119 rec) (f_X10_firstBut_J128 rec) (d + 1 + f)) (f_X10_firstBut_J119 rec) (f_X10_firstBut_J128 rec) 168 (Int32.ofNat N) 1 (Int32.ofNat k) (mem ν')) → ∃ ξ v, (∀ f, f_X10_firstBut_L3 rec (f_X10_firstBut_J119 rec) (f_X10_firstBut_J128 rec) (d + 1 + 1 + f) 168 (Int32.ofNat N) 1 (Int32.ofNat k) (mem ν) = some (v, mem ξ)) ∧ Fr FBk ν ξ ∧ MR ξ 0 B ∧ FST (P2 B N) k v := fun ν' m' f' np e => by
      obtain ⟨ξ, v, e2, f2, m2, fs⟩ := m_fb1 hE hN rec hr d (k + 1) ν' (by omega) m'
      refine ⟨ξ, v, fun f => ?_, f'.trans f2, m2, ?_⟩
      · rw [show d + 1 + 1 + f = d + 1 + f + 1 by omega, e f]
        simp only [f_X10_firstBut_J122, lt, i_succ, e2 f]
      · rcases fs with ⟨rfl, fs⟩ | ⟨j, a, b, c, p, fs⟩
        · refine Or.inl ⟨rfl, fun j a b => ?_⟩
          by_cases z : j = k
          · rw [z]; exact np
          · exact fs j (by omega) b
        · refine Or.inr ⟨j, by omega, b, c, p, fun i a' b' => ?_⟩
          by_cases z : i = k
          · rw [z]; exact np
          · exact fs i (by omega) b'
    cases q : hb (bf B (k / 12)) (k % 12) with
    | false =>
      rw [q] at ef
      refine nx ν hm (Fr.refl _ _) (fun z => by have := z.1; rw [q] at this; cases this) (fun f => ?_)
      simp only [f_X10_firstBut_L3, c, ↓reduceIte, lt]
      rw [d2, d1]
      simp only [↓hvc (fun _ => vc_168), ↓hbind ef, show bI false = 0 from rfl, ↓reduceIte]
    | true =>
      rw [q] at ef
      have hE' : Eb (gE (wO B (k / 12) (k % 12))) := by rw [wO_gE ht]; exact eE_Eb hE
      have m1 := hm.wO hw ht
      obtain ⟨ζ, v, e1, f1, m2, fs⟩ := hr _ _ (k + 1) (by omega) m1 hE'
      obtain ⟨g1, g2, g3⟩ := m_fb_96 hm hw ht q f1 m2
      have e0 : ν.1 191 (k / 12) = bf B (k / 12) := hm.2.1 _ hw
      by_cases p : v = -1
      · have np : ¬ P2 B N k := fun ⟨_, j, a, b, c⟩ => by
          rcases fs with ⟨_, fs⟩ | ⟨j', a', b', c', _⟩
          · exact fs j (by omega) b c
          · rw [p] at c'
            have : (Int32.ofNat j' = -1) = False := oN_n1 (by omega)
            rw [c'.symm] at this
            exact this.mp rfl
        refine nx _ g2 g1 np (fun f => ?_)
        simp only [f_X10_firstBut_L3, c, ↓reduceIte, lt]
        rw [d2, d1]
        simp only [↓hvc (fun _ => vc_168), ↓hbind ef, show bI true = 1 from rfl, z_1, ↓reduceIte, ↓hbind gR_168_10, ↓hbind mr_f0, ↓hbind (ma_f0 hw), e0, ↓hbind (ms_f0 hw), i_succ, ↓hbind e1, p, g3]
      · have yp : P2 B N k := by
          rcases fs with ⟨z, _⟩ | ⟨j', a', b', c', d', _⟩
          · exact absurd z p
          · exact ⟨q, j', by omega, b', d'⟩
        refine ⟨st ζ 191 (k / 12) (bf B (k / 12)), Int32.ofNat k, fun f => ?_, g1, g2, Or.inr ⟨k, Nat.le_refl _, hk, rfl, yp, fun j a b => absurd b (by omega)⟩⟩
        rw [show d + 1 + 1 + f = d + 1 + f + 1 by omega]
        simp only [f_X10_firstBut_L3, c, ↓reduceIte, lt]
        rw [d2, d1]
        simp only [↓hvc (fun _ => vc_168), ↓hbind ef, show bI true = 1 from rfl, z_1, ↓reduceIte, ↓hbind gR_168_10, ↓hbind mr_f0, ↓hbind (ma_f0 hw), e0, ↓hbind (ms_f0 hw), i_succ, ↓hbind e1, p, g3, f_X10_firstBut_J119]
theorem m_first0 {N : Nat} (hN : N ≤ 12) (D : Nat) : ∀ (ν : MM) (B' : Bk) (k : Nat), k ≤ 144 → MR ν 0 B' → Eb (gE B') → ∃ ξ v, f_X10_firstBut (D + 1) 168 (Int32.ofNat k) (Int32.ofNat N) 0 (mem ν) = some (v, mem ξ) ∧ Fr FBk ν ξ ∧ MR ξ 0 B' ∧ FST (P1 B' N) k v := fun ν B' k hk hm hE => by
  obtain ⟨ξ, v, e, r⟩ := m_fb0 hE hN (f_X10_firstBut D) (144 - k) k ν (by omega) hm
  refine ⟨ξ, v, ?_, r⟩
  have e := e (5000 - (144 - k + 1))
  rw [show 144 - k + 1 + (5000 - (144 - k + 1)) = 5000 by omega] at e
  rw [f_X10_firstBut, f_X10_firstBut_B]; exact e
theorem m_first1 {N : Nat} (hN : N ≤ 12) (D : Nat) (ν : MM) (hm : MR ν 0 B) (hE : Eb (gE B)) : ∃ ξ v, f_X10_firstBut (D + 1 + 1) 168 0 (Int32.ofNat N) 1 (mem ν) = some (v, mem ξ) ∧ Fr FBk ν ξ ∧ MR ξ 0 B ∧ FST (P2 B N) 0 v := by
  obtain ⟨ξ, v, e, r⟩ := m_fb1 hE hN (f_X10_firstBut (D + 1)) (m_first0 hN D) 144 0 ν (by omega) hm
  refine ⟨ξ, v, ?_, r⟩
  have e : f_X10_firstBut_L3 (f_X10_firstBut (D + 1)) (f_X10_firstBut_J119 (f_X10_firstBut (D + 1))) (f_X10_firstBut_J128 (f_X10_firstBut (D + 1))) 5000 168 (Int32.ofNat N) 1 0 (mem ν) = _ := e 4855
  rw [f_X10_firstBut, f_X10_firstBut_B]; exact e
end Fb2
/-! THE CLASS: the first in all; the first of two -/
def Qa (E : Nat → Nat → Bool) (k : Nat) : Prop := al E (k / 12) (k % 12)
def Q2 (E : Nat → Nat → Bool) (w t : Nat) : Prop := E w t = true ∧ ∃ v s, al (eE E w t) v s
/-- a place as the class tells it -/
def cd (v : Int32) : Int32 := if v = -1 then -1 else (100 : Int32) * (v / (12 : Int32)) + (v - v / (12 : Int32) * (12 : Int32))
theorem cd_1 : cd (-1) = -1 := if_pos rfl
theorem cd_k {k : Nat} (hk : k < 144) : cd (Int32.ofNat k) = (100 : Int32) * Int32.ofNat (k / 12) + Int32.ofNat (k % 12) := by
  unfold cd
  have n : ¬ (Int32.ofNat k = -1) := by rw [oN_n1 (by omega)]; exact id
  rw [if_neg n, (dm12 hk).2, (dm12 hk).1]
theorem cd_n {k : Nat} (hk : k < 144) : cd (Int32.ofNat k) ≠ -1 := by
  rw [cd_k hk, show (100 : Int32) = Int32.ofNat 100 from rfl, oN_mul, oN_add]
  intro z
  have : (Int32.ofNat (100 * (k / 12) + k % 12) = -1) = False := oN_n1 (by omega)
  rw [z] at this
  exact this.mp rfl
section Fa
variable {μ : MM} {n m : Nat} {Wt Tt : Int32} {E : Nat → Nat → Bool} {M : Nat → Nat}
def FLC (q i : Nat) : Prop := FX q i ∨ q = 150
theorem SR.flc {ν : MM} (h : SR μ n m Wt Tt E M) (f : Fr FLC μ ν) : SR ν n m Wt Tt E M := by
  obtain ⟨⟨h1, h2, h3, h4⟩, h5, h6⟩ := h
  refine ⟨⟨?_, ?_, ?_, ?_⟩, fun w hw k => ?_, h6.fr f (fun i z => by unfold FLC FX at z; omega) (fun i z => by unfold FLC FX at z; omega)⟩
  · rw [(f _ _ (by unfold FLC FX; omega)).1]; exact h1
  · rw [(f _ _ (by unfold FLC FX; omega)).1]; exact h2
  · rw [(f _ _ (by unfold FLC FX; omega)).1]; exact h3
  · rw [(f _ _ (by unfold FLC FX; omega)).1]; exact h4
  · rw [(f _ _ (by unfold FLC FX; omega)).1]; exact h5 w hw k
theorem c_fa (hS : SR μ n m Wt Tt E M) (hO : SOK n m Wt E M) (hN : Nu E (sz M)) (hT : ∀ w t, E w t = true → hb Tt t = true) (hT2 : ∀ t, hb Tt t = true → t < 12) (e0 : μ.1 1 0 = Int32.ofNat n) : ∃ ξ v, f_X9_firstAlways 0 (mem μ) = some (cd v, mem ξ) ∧ Fr FLC μ ξ ∧ FST (Qa E) 0 v := by
  have hE := hO.Eb
  have hM := hO.2.2.2.2
  have hn := hO.1
  have hW : ∀ w t, E w t = true → hb Wt w = true := fun w t q => (hO.2.2.1 w t q).2.2
  obtain ⟨ν, e1, f1, r⟩ := c_look hS hO hT2
  obtain ⟨ξ, e2, f2, d⟩ := c_close (hS.fx f1) hE
  have ff : Fr FLC μ ξ := (f1.mono fun q i z => Or.inl z).trans (f2.mono fun q i z => Or.inr z)
  have hS2 := hS.flc ff
  have r2 : CRs ξ E M Wt Tt := by
    unfold CRs
    rw [(f2 149 0 (by omega)).1, (f2 149 1 (by omega)).1, (f2 149 2 (by omega)).1, (f2 149 3 (by omega)).1]; exact r
  have e0' : ξ.1 1 0 = Int32.ofNat n := by rw [(ff _ _ (by unfold FLC FX; omega)).1]; exact e0
  have key : Hw (f_X9_firstAlways_L24 f_X9_firstAlways_J69 f_X9_firstAlways_J82 5000 0 0 (mem ξ)) (fun r => ∃ v, r = (cd v, mem ξ) ∧ FST (Qa E) 0 v) := by
    refine hw_for (L := fun N i (_ : Unit) => f_X9_firstAlways_L24 f_X9_firstAlways_J69 f_X9_firstAlways_J82 N 0 i (mem ξ)) (s0 := ()) n (fun i _ => ∀ w, w < i → ∀ t, ¬ al E w t) (fun w a => absurd a (Nat.not_lt_zero _)) (by omega) (fun i hi _ h => ?_) (fun _ h N => ?_)
    · have hi2 : i < 12 := by omega
      have c : (Int32.ofNat i ≥ Int32.ofNat n) = False := by rw [oN_ge (by omega) (by omega)]; exact eq_false (by omega)
      have et := c_taskOf pr142 hS2.2.2 hi2
      by_cases q : M i < 12
      · rw [eI_lt q] at et
        have nz : (Int32.ofNat (M i) = -1) = False := oN_n1 (by omega)
        have em := hM.2 i q
        have ek := c_X5kindE hS2 hM hN r2 d hE hW hT em
        by_cases a : al E i (M i)
        · right
          intro N
          have k3 := (al_kv em).mpr a
          rw [k3] at ek
          show Hw (f_X9_firstAlways_L24 f_X9_firstAlways_J69 f_X9_firstAlways_J82 (N + 1) 0 (Int32.ofNat i) (mem ξ)) _
          simp only [f_X9_firstAlways_L24, ↓hbind gR_0_0, ↓hbind (bk_i0 bk1), e0', c, ↓reduceIte, ↓hbind gR_0_4, ↓hbind gR_141_0, ↓hvc (fun _ => pr_v pr142), ↓hbind et, nz, ↓hbind gR_0_5, ↓hvc (fun _ => vc_149), ↓hbind ek, f_X9_firstAlways_J69]
          have hk : 12 * i + M i < 144 := by omega
          have x1 : (12 * i + M i) / 12 = i := by omega
          have x2 : (12 * i + M i) % 12 = M i := by omega
          refine hw_ret ⟨Int32.ofNat (12 * i + M i), by rw [cd_k hk, x1, x2], Or.inr ⟨_, Nat.zero_le _, hk, rfl, by unfold Qa; rw [x1, x2]; exact a, fun j _ b z => ?_⟩⟩
          by_cases y : j / 12 < i
          · exact h _ y _ z
          · have y : j / 12 = i := by omega
            unfold Qa at z
            rw [y] at z
            have := al_M z hM hN
            omega
        · left
          have k3 : (kvE E i (M i) = 3) = False := eq_false fun z => a ((al_kv em).mp z)
          refine ⟨(), fun w hw t z => ?_, fun N => ?_⟩
          · by_cases y : w = i
            · rw [y] at z
              have := al_M z hM hN
              rw [← this] at z; exact a z
            · exact h w (by omega) t z
          · show f_X9_firstAlways_L24 f_X9_firstAlways_J69 f_X9_firstAlways_J82 (N + 1) 0 (Int32.ofNat i) (mem ξ) = f_X9_firstAlways_L24 f_X9_firstAlways_J69 f_X9_firstAlways_J82 N 0 (Int32.ofNat (i + 1)) (mem ξ)
            simp only [f_X9_firstAlways_L24, ↓hbind gR_0_0, ↓hbind (bk_i0 bk1), e0', c, ↓reduceIte, ↓hbind gR_0_4, ↓hbind gR_141_0, ↓hvc (fun _ => pr_v pr142), ↓hbind et, nz, ↓hbind gR_0_5, ↓hvc (fun _ => vc_149), ↓hbind ek, k3, f_X9_firstAlways_J76, lt, i_succ]
      · rw [eI_ge (by omega)] at et
        left
        refine ⟨(), fun w hw t z => ?_, fun N => ?_⟩
        · by_cases y : w = i
          · rw [y] at z
            have := al_M z hM hN
            have := (hE _ _ z.1).2
            omega
          · exact h w (by omega) t z
        · show f_X9_firstAlways_L24 f_X9_firstAlways_J69 f_X9_firstAlways_J82 (N + 1) 0 (Int32.ofNat i) (mem ξ) = f_X9_firstAlways_L24 f_X9_firstAlways_J69 f_X9_firstAlways_J82 N 0 (Int32.ofNat (i + 1)) (mem ξ)
          simp only [f_X9_firstAlways_L24, ↓hbind gR_0_0, ↓hbind (bk_i0 bk1), e0', c, ↓reduceIte, ↓hbind gR_0_4, ↓hbind gR_141_0, ↓hvc (fun _ => pr_v pr142), ↓hbind et, n1_n1, f_X9_firstAlways_J76, lt, i_succ]
    · have c : (Int32.ofNat n ≥ Int32.ofNat n) = True := by rw [oN_ge (by omega) (by omega)]; exact eq_true (by omega)
      show Hw (f_X9_firstAlways_L24 f_X9_firstAlways_J69 f_X9_firstAlways_J82 (N + 1) 0 (Int32.ofNat n) (mem ξ)) _
      simp only [f_X9_firstAlways_L24, ↓hbind gR_0_0, ↓hbind (bk_i0 bk1), e0', c, ↓reduceIte, f_X9_firstAlways_J82]
      exact hw_ret ⟨-1, by rw [cd_1], Or.inl ⟨rfl, fun k _ _ z => h _ (hO.2.2.1 _ _ z.1).1 _ z⟩⟩
  obtain ⟨x, e3, v, rfl, fs⟩ := key
  refine ⟨ξ, v, ?_, ff, fs⟩
  simp only [f_X9_firstAlways, ↓hbind gR_0_5, ↓hbind gR_0_4, ↓hvc (fun _ => vc_149), ↓hbind e1, ↓hbind e2, e3]
theorem c_shut (hS : SR μ n m Wt Tt E M) (hO : SOK n m Wt E M) {w t : Nat} (hw : w < 12) (ht : t < 12) : ∃ ν M1, f_X7_shut 141 (Int32.ofNat w) (Int32.ofNat t) (mem μ) = some (mem ν) ∧ Fr FS μ ν ∧ SR ν n m Wt Tt (eE E w t) M1 ∧ SOK n m Wt (eE E w t) M1 := by
  have hM := hO.2.2.2.2
  have i1 := c_inLimit_n (k := w) (h := mem μ) (by omega)
  rw [decide_eq_true hw] at i1
  have i2 := c_inLimit_n (k := t) (h := mem μ) (by omega)
  rw [decide_eq_true ht] at i2
  obtain ⟨ν1, hd⟩ : ∃ z, z = st μ 145 w (μ.1 145 w &&& (((1 : Int32) <<< (Int32.ofNat t &&& 31)) ^^^ (-1))) := ⟨_, rfl⟩
  have f1 : Fr (fun q _ => q = 145) μ ν1 := by rw [hd]; exact (Fr.refl _ _).st rfl
  have hp : PR ν1 142 M := hS.2.2.fr f1 (fun i => by omega) (fun i => by omega)
  have hr : ∀ v, v < 12 → ∀ k, hb (ν1.1 145 v) k = eE E w t v k := fun v hv k => by
    rw [hd, st_at]
    by_cases z : v = w
    · rw [if_pos ⟨rfl, z⟩, hb_and, hb_not, hb_bit k (by omega), hS.2.1 w hw k, z]
      unfold eE
      cases y : E w k with
      | false => simp
      | true => have := (hO.Eb _ _ y).2; simp [show k < 32 by omega]
    · rw [if_neg (fun y => z y.2), hS.2.1 v hv k]
      unfold eE
      simp [z]
  have et := c_taskOf pr142 hp hw
  have et : f_X3_taskOf 142 (Int32.ofNat w) (mem (st μ 145 w (μ.1 145 w &&& (((1 : Int32) <<< (Int32.ofNat t &&& 31)) ^^^ (-1))))) = some (eI (M w), mem ν1) := by rw [← hd]; exact et
  have sok : ∀ M1, Ms (eE E w t) M1 → SOK n m Wt (eE E w t) M1 := fun M1 h => ⟨hO.1, hO.2.1, fun v s q => hO.2.2.1 v s (eE_iff.mp q).1, hO.2.2.2.1, h⟩
  by_cases c : M w = t
  · obtain ⟨ξ, e2, p1, p2⟩ := c_loosenWorker pr142 hp (k := w) (by omega)
    rw [eI_lt hw] at e2
    rw [c, eI_lt ht] at et
    refine ⟨ξ, up M w 12, ?_, (f1.mono fun q i z => by unfold FS; omega).trans (p2.mono fun q i z => by unfold FP at z; unfold FS; omega), ⟨⟨?_, ?_, ?_, ?_⟩, fun v hv k => ?_, p1⟩, sok _ ⟨(drop_Ms hM w).1, fun x q => ?_⟩⟩
    · simp only [f_X7_shut, f_X7_shut_J49, ↓hbind i1, ↓hbind i2, show bI true = 1 from rfl, z_1, ↓reduceIte, ↓hbind gR_141_1, ↓hbind (aI_145 hw), ↓hbind c_bit, ↓hbind (sI_145 hw), ↓hbind gR_141_0, ↓hvc (fun _ => pr_v pr142), ↓hbind et, ↓hbind e2]
    · rw [(p2 _ _ (by unfold FP; omega)).1, (f1 _ _ (by omega)).1]; exact hS.1.1
    · rw [(p2 _ _ (by unfold FP; omega)).1, (f1 _ _ (by omega)).1]; exact hS.1.2.1
    · rw [(p2 _ _ (by unfold FP; omega)).1, (f1 _ _ (by omega)).1]; exact hS.1.2.2.1
    · rw [(p2 _ _ (by unfold FP; omega)).1, (f1 _ _ (by omega)).1]; exact hS.1.2.2.2
    · rw [(p2 _ _ (by unfold FP; omega)).1]; exact hr v hv k
    · have xw : x ≠ w := fun z => by rw [z, up_same] at q; omega
      rw [up_ne xw] at q ⊢
      exact eE_iff.mpr ⟨hM.2 x q, fun z => xw z.1⟩
  · have c' : (eI (M w) = Int32.ofNat t) = False := by rw [eI_oN (hM.1.1 w) ht]; exact eq_false c
    refine ⟨ν1, M, ?_, f1.mono fun q i z => by unfold FS; omega, ⟨⟨?_, ?_, ?_, ?_⟩, hr, hp⟩, sok _ ⟨hM.1, fun x q => eE_iff.mpr ⟨hM.2 x q, fun z => c (by rw [← z.1]; exact z.2)⟩⟩⟩
    · simp only [f_X7_shut, f_X7_shut_J49, ↓hbind i1, ↓hbind i2, show bI true = 1 from rfl, z_1, ↓reduceIte, ↓hbind gR_141_1, ↓hbind (aI_145 hw), ↓hbind c_bit, ↓hbind (sI_145 hw), ↓hbind gR_141_0, ↓hvc (fun _ => pr_v pr142), ↓hbind et, c']
    · rw [(f1 _ _ (by omega)).1]; exact hS.1.1
    · rw [(f1 _ _ (by omega)).1]; exact hS.1.2.1
    · rw [(f1 _ _ (by omega)).1]; exact hS.1.2.2.1
    · rw [(f1 _ _ (by omega)).1]; exact hS.1.2.2.2
theorem c_open {w t : Nat} (hS : SR μ n m Wt Tt (eE E w t) M) (hE : Eb E) (e : E w t = true) : ∃ ν, f_X7_open 141 (Int32.ofNat w) (Int32.ofNat t) (mem μ) = some (mem ν) ∧ Fr (fun q _ => q = 145) μ ν ∧ SR ν n m Wt Tt E M := by
  obtain ⟨hw, ht⟩ := hE _ _ e
  have i1 := c_inLimit_n (k := w) (h := mem μ) (by omega)
  rw [decide_eq_true hw] at i1
  have i2 := c_inLimit_n (k := t) (h := mem μ) (by omega)
  rw [decide_eq_true ht] at i2
  have f1 : Fr (fun q _ => q = 145) μ (st μ 145 w (μ.1 145 w ||| ((1 : Int32) <<< (Int32.ofNat t &&& 31)))) := (Fr.refl _ _).st rfl
  refine ⟨_, ?_, f1, ⟨⟨?_, ?_, ?_, ?_⟩, fun v hv k => ?_, hS.2.2.fr f1 (fun i => by omega) (fun i => by omega)⟩⟩
  · simp only [f_X7_open, f_X7_open_J27, ↓hbind i1, ↓hbind i2, show bI true = 1 from rfl, z_1, ↓reduceIte, ↓hbind gR_141_1, ↓hbind (aI_145 hw), ↓hbind c_bit, ↓hbind (sI_145 hw)]
  · rw [(f1 _ _ (by omega)).1]; exact hS.1.1
  · rw [(f1 _ _ (by omega)).1]; exact hS.1.2.1
  · rw [(f1 _ _ (by omega)).1]; exact hS.1.2.2.1
  · rw [(f1 _ _ (by omega)).1]; exact hS.1.2.2.2
  · rw [st_at]
    by_cases z : v = w
    · rw [if_pos ⟨rfl, z⟩, hb_or, hb_bit k (by omega), hS.2.1 w hw k, z]
      unfold eE
      by_cases y : k = t
      · rw [y, e]; simp
      · simp [y]
    · rw [if_neg (fun y => z y.2), hS.2.1 v hv k]
      unfold eE
      simp [z]
end Fa
