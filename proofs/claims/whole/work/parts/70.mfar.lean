/-! THE MODEL: laysFar -/
def sm (f : Nat → Nat) : Nat → Nat
  | 0 => 0
  | n + 1 => sm f n + f n
theorem sm_congr {f g : Nat → Nat} : ∀ {n : Nat}, (∀ k, k < n → f k = g k) → sm f n = sm g n
  | 0, _ => rfl
  | n + 1, h => by
    have ih := sm_congr (f := f) (g := g) (n := n) (fun k hk => h k (by omega))
    simp only [sm, ih, h n (by omega)]
theorem sm_up {f : Nat → Nat} {w a : Nat} : ∀ {n : Nat}, w < n → sm (up f w a) n + f w = sm f n + a
  | 0, h => absurd h (Nat.not_lt_zero _)
  | n + 1, h => by
    by_cases z : w = n
    · subst z
      have : sm (up f w a) w = sm f w := sm_congr fun k hk => up_ne (by omega)
      simp only [sm, this, up_same]
      omega
    · have ih := sm_up (f := f) (a := a) (n := n) (w := w) (by omega)
      simp only [sm, up_ne (Ne.symm z)]
      omega
theorem sm_le {f : Nat → Nat} {b : Nat} : ∀ {n : Nat}, (∀ k, k < n → f k ≤ b) → sm f n ≤ b * n
  | 0, _ => Nat.zero_le _
  | n + 1, h => by
    have ih := sm_le (f := f) (b := b) (n := n) (fun k hk => h k (by omega))
    have := h n (by omega)
    simp only [sm, Nat.mul_succ]
    omega
/-- the labels: K w fits (0: none) -/
def fK (k : Nat) : Nat := if k = 0 then 1000000 else 2 * k - 1
def gK (k : Nat) : Nat := if k = 0 then 1000002 else 2 * k - 1
noncomputable def nx (M K : Nat → Nat) (t : Nat) : Nat := if ow M t = 12 then 1 else if K (ow M t) = 0 then 0 else K (ow M t) + 1
def bet (a b : Nat) : Prop := a ≠ 0 ∧ (b = 0 ∨ a < b)
def mK (K : Nat → Nat) : Nat := sm (fun w => if K w = 0 then 13 else K w) 12
def KJ (E : Nat → Nat → Bool) (M K : Nat → Nat) : Prop := (∀ w, w < 12 → K w ≠ 0 → rch E M (K w) w) ∧ ∀ w, w < 12 → K w ≤ cnt (fun v => decide (K v ≠ 0)) 12
/-- exact labels -/
def Kx (E : Nat → Nat → Bool) (M K : Nat → Nat) : Prop := ∀ w, w < 12 → (K w = 0 → Nr E M w) ∧ (K w ≠ 0 → rch E M (K w) w ∧ ¬ rch E M (K w - 1) w)
theorem nx_1 {M K : Nat → Nat} {t : Nat} (c : ow M t = 12) : nx M K t = 1 := if_pos c
theorem nx_0 {M K : Nat → Nat} {t : Nat} (c : ow M t ≠ 12) (d : K (ow M t) = 0) : nx M K t = 0 := (if_neg c).trans (if_pos d)
theorem nx_s {M K : Nat → Nat} {t : Nat} (c : ow M t ≠ 12) (d : K (ow M t) ≠ 0) : nx M K t = K (ow M t) + 1 := (if_neg c).trans (if_neg d)
theorem fK_0 : fK 0 = 1000000 := if_pos rfl
theorem fK_s {k : Nat} (h : k ≠ 0) : fK k = 2 * k - 1 := if_neg h
theorem gK_0 : gK 0 = 1000002 := if_pos rfl
theorem gK_s {k : Nat} (h : k ≠ 0) : gK k = 2 * k - 1 := if_neg h
theorem fK_nx {M K : Nat → Nat} {t : Nat} (c : ow M t ≠ 12) : fK (K (ow M t)) + 2 = gK (nx M K t) := by
  by_cases d : K (ow M t) = 0
  · rw [nx_0 c d, d, fK_0, gK_0]
  · rw [nx_s c d, fK_s d, gK_s (by omega)]
    omega
section Fr'
variable {E : Nat → Nat → Bool} {M K : Nat → Nat}
theorem KJ.le (h : KJ E M K) {w : Nat} (hw : w < 12) : K w ≤ 12 := Nat.le_trans (h.2 w hw) (cnt_le _ _)
theorem bet_iff {a b : Nat} (ha : a ≤ 13) (hb : b ≤ 13) : gK a < fK b ↔ bet a b := by
  unfold gK fK bet
  by_cases h1 : a = 0
  · rw [if_pos h1]
    by_cases h2 : b = 0
    · rw [if_pos h2]; omega
    · rw [if_neg h2]; omega
  · rw [if_neg h1]
    by_cases h2 : b = 0
    · rw [if_pos h2]; omega
    · rw [if_neg h2]; omega
theorem nx_le (h : KJ E M K) (t : Nat) : nx M K t ≤ 13 := by
  have := ow_le M t
  by_cases c : ow M t = 12
  · rw [nx_1 c]; omega
  · by_cases d : K (ow M t) = 0
    · rw [nx_0 c d]; omega
    · rw [nx_s c d]
      have := h.le (w := ow M t) (by omega)
      omega
theorem nx_rch (h : KJ E M K) {w t a : Nat} (hb : Eb E) (he : E w t = true) (hm : M w ≠ t) (ha : a = nx M K t) (hn : a ≠ 0) : rch E M a w := by
  have hol := ow_le M t
  have ht := (hb w t he).2
  by_cases c : ow M t = 12
  · have : a = 0 + 1 := by rw [ha, nx_1 c]
    subst this
    exact ⟨t, ht, he, hm, Or.inl c⟩
  · by_cases d : K (ow M t) = 0
    · exact absurd (ha.trans (nx_0 c d)) hn
    · have hr := h.1 (ow M t) (by omega) d
      have e : a = K (ow M t) + 1 := ha.trans (nx_s c d)
      obtain ⟨b, hb2⟩ : ∃ b, b = K (ow M t) := ⟨_, rfl⟩
      rw [← hb2] at hr e
      subst e
      exact ⟨t, ht, he, hm, Or.inr hr⟩
theorem KJ.better (h : KJ E M K) {w t a : Nat} (hb : Eb E) (he : E w t = true) (hm : M w ≠ t) (ha : a = nx M K t) (hbt : bet a (K w)) : KJ E M (up K w a) ∧ mK (up K w a) < mK K := by
  have hw := (hb w t he).1
  have hr := nx_rch h hb he hm ha hbt.1
  have nle : a ≤ cnt (fun v => decide (K v ≠ 0)) 12 + 1 := by
    have hol := ow_le M t
    by_cases c : ow M t = 12
    · rw [ha, nx_1 c]; omega
    · by_cases d : K (ow M t) = 0
      · rw [ha, nx_0 c d]; omega
      · rw [ha, nx_s c d]
        have := h.2 (ow M t) (by omega)
        omega
  clear ha
  have sub : ∀ v, v < 12 → decide (K v ≠ 0) = true → decide (up K w a v ≠ 0) = true := fun v hv q => by
    simp only [decide_eq_true_eq] at q ⊢
    by_cases z : v = w
    · rw [z, up_same]; exact hbt.1
    · rw [up_ne z]; exact q
  have cge : cnt (fun v => decide (K v ≠ 0)) 12 ≤ cnt (fun v => decide (up K w a v ≠ 0)) 12 := cnt_mono sub
  refine ⟨⟨fun v hv q => ?_, fun v hv => ?_⟩, ?_⟩
  · by_cases z : v = w
    · rw [z, up_same]; exact hr
    · rw [up_ne z] at q ⊢; exact h.1 v hv q
  · by_cases z : v = w
    · rw [z, up_same]
      by_cases k0 : K w = 0
      · have : cnt (fun v => decide (K v ≠ 0)) 12 < cnt (fun v => decide (up K w a v ≠ 0)) 12 := cnt_lt (j := w) sub hw (by simp [k0]) (by simp [up_same, hbt.1])
        omega
      · have := h.2 w hw
        rcases hbt.2 with y | y <;> omega
    · rw [up_ne z]
      have := h.2 v hv
      omega
  · unfold mK
    have e : sm (fun v => if up K w a v = 0 then 13 else up K w a v) 12 = sm (up (fun v => if K v = 0 then 13 else K v) w a) 12 := sm_congr fun v _ => by
      by_cases z : v = w
      · rw [z, up_same, up_same, if_neg hbt.1]
      · rw [up_ne z, up_ne z]
    rw [e]
    have hs := sm_up (f := fun v => if K v = 0 then 13 else K v) (a := a) (n := 12) hw
    have hk := h.le hw
    have hlt : a < (if K w = 0 then 13 else K w) := by
      by_cases k0 : K w = 0
      · rw [if_pos k0]
        have : cnt (fun v => decide (K v ≠ 0)) 12 < cnt (fun _ => true) 12 := cnt_lt (j := w) (fun _ _ _ => rfl) hw (by simp [k0]) rfl
        rw [cnt_true] at this
        omega
      · rw [if_neg k0]; rcases hbt.2 with y | y <;> omega
    have hs' : sm (up (fun v => if K v = 0 then 13 else K v) w a) 12 + (if K w = 0 then 13 else K w) = sm (fun v => if K v = 0 then 13 else K v) 12 + a := hs
    omega
theorem Kx.of (h : KJ E M K) (hb : Eb E) (hf : ∀ w t, E w t = true → M w ≠ t → ¬ bet (nx M K t) (K w)) : Kx E M K := by
  have key : ∀ j w, rch E M j w → K w ≠ 0 ∧ K w ≤ j := by
    intro j
    induction j with
    | zero => intro w q; exact q.elim
    | succ j ih =>
      intro w ⟨t, t1, t2, t3, t4⟩
      have nb := hf w t t2 t3
      have hol := ow_le M t
      by_cases c : ow M t = 12
      · rw [nx_1 c] at nb
        unfold bet at nb
        omega
      · rcases t4 with t4 | t4
        · exact absurd t4 c
        · obtain ⟨a, b⟩ := ih _ t4
          rw [nx_s c a] at nb
          unfold bet at nb
          omega
  refine fun w hw => ⟨fun k0 j q => (key j w q).1 k0, fun k0 => ⟨h.1 w hw k0, fun q => ?_⟩⟩
  have := (key _ w q).2
  omega
end Fr'
def Fl (q _i : Nat) : Prop := q = 482
section Lf
variable {μ : MM} {n m : Nat} {Wt Tt : Int32} {E : Nat → Nat → Bool} {M : Nat → Nat}
/-- the labels in a sweep: b whether any was bettered -/
def SI (μ ν : MM) (E : Nat → Nat → Bool) (M K : Nat → Nat) (m0 : Nat) (b : Bool) (w t : Nat) : Prop :=
  Fr Fl μ ν ∧ (∀ v, v < 12 → ν.1 482 v = Int32.ofNat (fK (K v))) ∧ KJ E M K ∧ mK K ≤ m0 ∧ (b = true → mK K < m0) ∧ (b = false → ∀ v s, (v < w ∨ (v = w ∧ s < t)) → E v s = true → M v ≠ s → ¬ bet (nx M K s) (K v))
theorem fK_lt (k : Nat) (h : k ≤ 13) : fK k < 2147483648 := by unfold fK; split <;> omega
theorem gK_lt (k : Nat) (h : k ≤ 13) : gK k < 2147483648 := by unfold gK; split <;> omega
theorem m_far_t {kE144 : Nat → Int32 → Int32 → xH → Option xH} {P : xH → Prop} (hE : Eb E) (hm : m ≤ 12) (hS : MS μ n m Wt Tt E M) (hO : ∀ w t, E w t = true → t < m) {w m0 : Nat} (hw : w < 12) (ht : hb Wt w = true)
    {ν : MM} {K : Nat → Nat} {b : Bool} (h : SI μ ν E M K m0 b w 0) (A : ∀ (ν : MM) (K : Nat → Nat) (b : Bool), SI μ ν E M K m0 b (w + 1) 0 → Hw (kE144 168 (bI b) (Int32.ofNat w) (mem ν)) P) :
    Hw (f_X10_laysFar_L58 kE144 5000 168 (bI b) (Int32.ofNat w) (Int32.ofNat 0) (mem ν)) P := by
  refine hw_for (L := fun i t (s : Bool × (Nat → Nat) × MM) => f_X10_laysFar_L58 kE144 i 168 (bI s.1) (Int32.ofNat w) t (mem s.2.2)) (s0 := (b, K, ν)) m (fun t s => SI μ s.2.2 E M s.2.1 m0 s.1 w t) h (by omega) (fun t ht s hs => ?_) (fun s hs i => ?_)
  · obtain ⟨b, K, ν⟩ := s
    obtain ⟨h1, h2, h3, h6, h4, h5⟩ := hs
    simp only at h1 h2 h3 h6 h4 h5
    have hS' := hS.fr h1 (fun i => by unfold Fl; omega) (fun i => by unfold Fl; omega) (fun i => by unfold Fl; omega)
    obtain ⟨x, ex, hx⟩ := m_openTo hE hS' hw (by assumption)
    have e1 := hS'.1.2.1
    have hxt := hx t (by omega)
    left
    by_cases c : E w t = true ∧ M w ≠ t
    · have hxt : hb x t = true := by rw [hxt, c.1, decide_eq_true c.2]; rfl
      have hp := m_partner1 hS' (t := t) (by omega)
      have hol := ow_le M t
      have hn := nx_le h3 t
      have hkw := h3.le hw
      have vw := h2 w hw
      have bi := bet_iff hn (show K w ≤ 13 by omega)
      -- the number that t brings
      have go : ∀ i, f_X10_laysFar_L58 kE144 (i + 1) 168 (bI b) (Int32.ofNat w) (Int32.ofNat t) (mem ν) = f_X10_laysFar_J112 (f_X10_laysFar_L58 kE144 i) kE144 168 (bI b) (Int32.ofNat w) (Int32.ofNat t) (Int32.ofNat (gK (nx M K t))) (mem ν) := fun i => by
        by_cases o : ow M t < 12
        · have vo := h2 (ow M t) o
          have e2 : Int32.ofNat (fK (K (ow M t))) + (2 : Int32) = Int32.ofNat (gK (nx M K t)) := by
            rw [show (2 : Int32) = Int32.ofNat 2 from rfl, oN_add, fK_nx (show ow M t ≠ 12 by omega)]
          simp (disch := omega) only [f_X10_laysFar_L58, vc_168, gI_168_0, pI_168_0, gR_168_1, gI_168_2, pI_168_2, gI_168_3, pI_168_3, gI_168_4, pI_168_4, gI_168_5, pI_168_5, gI_168_6, pI_168_6, gI_168_7, pI_168_7, gR_168_8, gR_168_9, gR_168_10, gR_168_11, gR_168_12, gR_168_13, gI_168_14, pI_168_14, gI_168_15, pI_168_15, gI_168_16, pI_168_16, gR_168_17, gI_168_18, pI_168_18, gR_168_19, gI_168_20, pI_168_20, gI_168_21, pI_168_21, gI_168_22, pI_168_22, gI_168_23, pI_168_23, gR_168_24, gR_168_25, gI_168_26, pI_168_26, gI_168_27, pI_168_27, gR_168_28, gI_168_29, pI_168_29, gI_168_30, pI_168_30, gI_168_31, pI_168_31, gR_168_32, gR_168_33, gR_168_34, gR_168_35, gR_168_36, gR_168_37, gR_168_38, mr_h0, mr_f0, mr_m0, mr_w0, mr_c0, mc_c0, mc_a0, mc_s0, mh_a0_0, mh_s0_0, mh_a0_1, mh_s0_1, mh_a0_2, mh_s0_2, mh_a0_3, mh_s0_3, mh_a0_4, mh_s0_4, ma_f0, ms_f0, ma_m0, ms_m0, ma_w0, ms_w0, aI_482, sI_482, m_has, e1, ex, hxt, hp, vo, e2, lt, true_or, or_true, false_or, or_false, Option.bind_some, if_true, if_false, bI_0, bI_1, bI_z, eI_n1, eI_l0, eI_g12, oN_n1, oN_l0, oN_g0, n1_l0, n1_g12, n1_0, n1_n1, z_0, z_1, z_2, z_3, z_4, z_5, z_6, z_7, z_8, z_9, z_a, z_b, z_c, z_d, z_e, z_f, oN_inj, oN_lt, oN_gt, oN_ge, oN_le, i_succ, if_pos, if_neg, c_has, c_bit, Bool.true_eq_false, Bool.false_eq_true, decide_true, decide_false, decide_eq_true_eq, decide_eq_false_iff_not, eI_lt, lle_0, lge_0, llt_0, lgt_0, leq_0, lle_1, lge_1, llt_1, lgt_1, leq_1, lle_2, lge_2, llt_2, lgt_2, leq_2, lle_3, lge_3, llt_3, lgt_3, leq_3, lle_4, lge_4, llt_4, lgt_4, leq_4, lle_5, lge_5, llt_5, lgt_5, leq_5, lle_6, lge_6, llt_6, lgt_6, leq_6, lle_7, lge_7, llt_7, lgt_7, leq_7, lle_11, lge_11, llt_11, lgt_11, leq_11, lle_12, lge_12, llt_12, lgt_12, leq_12, lle_15, lge_15, llt_15, lgt_15, leq_15, lle_20, lge_20, llt_20, lgt_20, leq_20, lle_24, lge_24, llt_24, lgt_24, leq_24, lle_25, lge_25, llt_25, lgt_25, leq_25, lle_31, lge_31, llt_31, lgt_31, leq_31, lle_48, lge_48, llt_48, lgt_48, leq_48, lle_57, lge_57, llt_57, lgt_57, leq_57, lle_32, lge_32, llt_32, lgt_32, leq_32, lle_59, lge_59, llt_59, lgt_59, leq_59, lle_97, lge_97, llt_97, lgt_97, leq_97, lle_122, lge_122, llt_122, lgt_122, leq_122, lle_99, lge_99, llt_99, lgt_99, leq_99, lle_100, lge_100, llt_100, lgt_100, leq_100, lle_144, lge_144, llt_144, lgt_144, leq_144, lle_255, lge_255, llt_255, lgt_255, leq_255, lle_300, lge_300, llt_300, lgt_300, leq_300, lle_1000, lge_1000, llt_1000, lgt_1000, leq_1000, lle_1000000, lge_1000000, llt_1000000, lgt_1000000, leq_1000000, lle_4096, lge_4096, llt_4096, lgt_4096, leq_4096, b_ft]
        · have e2 : (1 : Int32) = Int32.ofNat (gK (nx M K t)) := by
            rw [nx_1 (show ow M t = 12 by omega), gK_s (by omega)]; rfl
          simp (disch := omega) only [f_X10_laysFar_L58, vc_168, gI_168_0, pI_168_0, gR_168_1, gI_168_2, pI_168_2, gI_168_3, pI_168_3, gI_168_4, pI_168_4, gI_168_5, pI_168_5, gI_168_6, pI_168_6, gI_168_7, pI_168_7, gR_168_8, gR_168_9, gR_168_10, gR_168_11, gR_168_12, gR_168_13, gI_168_14, pI_168_14, gI_168_15, pI_168_15, gI_168_16, pI_168_16, gR_168_17, gI_168_18, pI_168_18, gR_168_19, gI_168_20, pI_168_20, gI_168_21, pI_168_21, gI_168_22, pI_168_22, gI_168_23, pI_168_23, gR_168_24, gR_168_25, gI_168_26, pI_168_26, gI_168_27, pI_168_27, gR_168_28, gI_168_29, pI_168_29, gI_168_30, pI_168_30, gI_168_31, pI_168_31, gR_168_32, gR_168_33, gR_168_34, gR_168_35, gR_168_36, gR_168_37, gR_168_38, mr_h0, mr_f0, mr_m0, mr_w0, mr_c0, mc_c0, mc_a0, mc_s0, mh_a0_0, mh_s0_0, mh_a0_1, mh_s0_1, mh_a0_2, mh_s0_2, mh_a0_3, mh_s0_3, mh_a0_4, mh_s0_4, ma_f0, ms_f0, ma_m0, ms_m0, ma_w0, ms_w0, aI_482, sI_482, m_has, e1, ex, hxt, hp, lt, true_or, or_true, false_or, or_false, Option.bind_some, if_true, if_false, bI_0, bI_1, bI_z, eI_n1, eI_l0, eI_g12, oN_n1, oN_l0, oN_g0, n1_l0, n1_g12, n1_0, n1_n1, z_0, z_1, z_2, z_3, z_4, z_5, z_6, z_7, z_8, z_9, z_a, z_b, z_c, z_d, z_e, z_f, oN_inj, oN_lt, oN_gt, oN_ge, oN_le, i_succ, if_pos, if_neg, c_has, c_bit, Bool.true_eq_false, Bool.false_eq_true, decide_true, decide_false, decide_eq_true_eq, decide_eq_false_iff_not, eI_lt, lle_0, lge_0, llt_0, lgt_0, leq_0, lle_1, lge_1, llt_1, lgt_1, leq_1, lle_2, lge_2, llt_2, lgt_2, leq_2, lle_3, lge_3, llt_3, lgt_3, leq_3, lle_4, lge_4, llt_4, lgt_4, leq_4, lle_5, lge_5, llt_5, lgt_5, leq_5, lle_6, lge_6, llt_6, lgt_6, leq_6, lle_7, lge_7, llt_7, lgt_7, leq_7, lle_11, lge_11, llt_11, lgt_11, leq_11, lle_12, lge_12, llt_12, lgt_12, leq_12, lle_15, lge_15, llt_15, lgt_15, leq_15, lle_20, lge_20, llt_20, lgt_20, leq_20, lle_24, lge_24, llt_24, lgt_24, leq_24, lle_25, lge_25, llt_25, lgt_25, leq_25, lle_31, lge_31, llt_31, lgt_31, leq_31, lle_48, lge_48, llt_48, lgt_48, leq_48, lle_57, lge_57, llt_57, lgt_57, leq_57, lle_32, lge_32, llt_32, lgt_32, leq_32, lle_59, lge_59, llt_59, lgt_59, leq_59, lle_97, lge_97, llt_97, lgt_97, leq_97, lle_122, lge_122, llt_122, lgt_122, leq_122, lle_99, lge_99, llt_99, lgt_99, leq_99, lle_100, lge_100, llt_100, lgt_100, leq_100, lle_144, lge_144, llt_144, lgt_144, leq_144, lle_255, lge_255, llt_255, lgt_255, leq_255, lle_300, lge_300, llt_300, lgt_300, leq_300, lle_1000, lge_1000, llt_1000, lgt_1000, leq_1000, lle_1000000, lge_1000000, llt_1000000, lgt_1000000, leq_1000000, lle_4096, lge_4096, llt_4096, lgt_4096, leq_4096, b_ft]
          rw [e2]
      by_cases d : gK (nx M K t) < fK (K w)
      · have hbt := bi.mp d
        obtain ⟨u1, u2⟩ := h3.better hE c.1 c.2 rfl hbt
        refine ⟨(true, up K w (nx M K t), st ν 482 w (Int32.ofNat (gK (nx M K t)))), ⟨h1.st rfl, fun v hv => ?_, u1, ?_, fun _ => ?_, fun z => nomatch z⟩, fun i => ?_⟩
        · show (st ν 482 w (Int32.ofNat (gK (nx M K t)))).1 482 v = Int32.ofNat (fK (up K w (nx M K t) v))
          by_cases z : v = w
          · rw [z, st_same, up_same]
            rw [gK_s hbt.1, fK_s hbt.1]
          · rw [st_ne (Or.inr z), up_ne z]; exact h2 v hv
        · show mK (up K w (nx M K t)) ≤ m0
          omega
        · show mK (up K w (nx M K t)) < m0
          omega
        · rw [go i]
          have l1 := gK_lt _ hn
          have l2 := fK_lt _ (show K w ≤ 13 by omega)
          simp (disch := omega) only [f_X10_laysFar_J153, f_X10_laysFar_J150, f_X10_laysFar_J144, f_X10_laysFar_J138, f_X10_laysFar_J112, f_X10_laysFar_J22, vc_168, gI_168_0, pI_168_0, gR_168_1, gI_168_2, pI_168_2, gI_168_3, pI_168_3, gI_168_4, pI_168_4, gI_168_5, pI_168_5, gI_168_6, pI_168_6, gI_168_7, pI_168_7, gR_168_8, gR_168_9, gR_168_10, gR_168_11, gR_168_12, gR_168_13, gI_168_14, pI_168_14, gI_168_15, pI_168_15, gI_168_16, pI_168_16, gR_168_17, gI_168_18, pI_168_18, gR_168_19, gI_168_20, pI_168_20, gI_168_21, pI_168_21, gI_168_22, pI_168_22, gI_168_23, pI_168_23, gR_168_24, gR_168_25, gI_168_26, pI_168_26, gI_168_27, pI_168_27, gR_168_28, gI_168_29, pI_168_29, gI_168_30, pI_168_30, gI_168_31, pI_168_31, gR_168_32, gR_168_33, gR_168_34, gR_168_35, gR_168_36, gR_168_37, gR_168_38, aI_482, sI_482, vw, d, lt, true_or, or_true, false_or, or_false, Option.bind_some, if_true, if_false, bI_0, bI_1, bI_z, eI_n1, eI_l0, eI_g12, oN_n1, oN_l0, oN_g0, n1_l0, n1_g12, n1_0, n1_n1, z_0, z_1, z_2, z_3, z_4, z_5, z_6, z_7, z_8, z_9, z_a, z_b, z_c, z_d, z_e, z_f, oN_inj, oN_lt, oN_gt, oN_ge, oN_le, i_succ, if_pos, if_neg, c_has, c_bit, Bool.true_eq_false, Bool.false_eq_true, decide_true, decide_false, decide_eq_true_eq, decide_eq_false_iff_not, eI_lt, lle_0, lge_0, llt_0, lgt_0, leq_0, lle_1, lge_1, llt_1, lgt_1, leq_1, lle_2, lge_2, llt_2, lgt_2, leq_2, lle_3, lge_3, llt_3, lgt_3, leq_3, lle_4, lge_4, llt_4, lgt_4, leq_4, lle_5, lge_5, llt_5, lgt_5, leq_5, lle_6, lge_6, llt_6, lgt_6, leq_6, lle_7, lge_7, llt_7, lgt_7, leq_7, lle_11, lge_11, llt_11, lgt_11, leq_11, lle_12, lge_12, llt_12, lgt_12, leq_12, lle_15, lge_15, llt_15, lgt_15, leq_15, lle_20, lge_20, llt_20, lgt_20, leq_20, lle_24, lge_24, llt_24, lgt_24, leq_24, lle_25, lge_25, llt_25, lgt_25, leq_25, lle_31, lge_31, llt_31, lgt_31, leq_31, lle_48, lge_48, llt_48, lgt_48, leq_48, lle_57, lge_57, llt_57, lgt_57, leq_57, lle_32, lge_32, llt_32, lgt_32, leq_32, lle_59, lge_59, llt_59, lgt_59, leq_59, lle_97, lge_97, llt_97, lgt_97, leq_97, lle_122, lge_122, llt_122, lgt_122, leq_122, lle_99, lge_99, llt_99, lgt_99, leq_99, lle_100, lge_100, llt_100, lgt_100, leq_100, lle_144, lge_144, llt_144, lgt_144, leq_144, lle_255, lge_255, llt_255, lgt_255, leq_255, lle_300, lge_300, llt_300, lgt_300, leq_300, lle_1000, lge_1000, llt_1000, lgt_1000, leq_1000, lle_1000000, lge_1000000, llt_1000000, lgt_1000000, leq_1000000, lle_4096, lge_4096, llt_4096, lgt_4096, leq_4096, b_ft]
          rfl
      · refine ⟨(b, K, ν), ⟨h1, h2, h3, h6, h4, fun z v s q e' m' => ?_⟩, fun i => ?_⟩
        · by_cases y : v = w ∧ s = t
          · obtain ⟨rfl, rfl⟩ := y
            exact fun z => d (bi.mpr z)
          · exact h5 z v s (by omega) e' m'
        · rw [go i]
          have l1 := gK_lt _ hn
          have l2 := fK_lt _ (show K w ≤ 13 by omega)
          simp (disch := omega) only [f_X10_laysFar_J153, f_X10_laysFar_J150, f_X10_laysFar_J144, f_X10_laysFar_J138, f_X10_laysFar_J112, f_X10_laysFar_J22, vc_168, gI_168_0, pI_168_0, gR_168_1, gI_168_2, pI_168_2, gI_168_3, pI_168_3, gI_168_4, pI_168_4, gI_168_5, pI_168_5, gI_168_6, pI_168_6, gI_168_7, pI_168_7, gR_168_8, gR_168_9, gR_168_10, gR_168_11, gR_168_12, gR_168_13, gI_168_14, pI_168_14, gI_168_15, pI_168_15, gI_168_16, pI_168_16, gR_168_17, gI_168_18, pI_168_18, gR_168_19, gI_168_20, pI_168_20, gI_168_21, pI_168_21, gI_168_22, pI_168_22, gI_168_23, pI_168_23, gR_168_24, gR_168_25, gI_168_26, pI_168_26, gI_168_27, pI_168_27, gR_168_28, gI_168_29, pI_168_29, gI_168_30, pI_168_30, gI_168_31, pI_168_31, gR_168_32, gR_168_33, gR_168_34, gR_168_35, gR_168_36, gR_168_37, gR_168_38, aI_482, sI_482, vw, d, lt, true_or, or_true, false_or, or_false, Option.bind_some, if_true, if_false, bI_0, bI_1, bI_z, eI_n1, eI_l0, eI_g12, oN_n1, oN_l0, oN_g0, n1_l0, n1_g12, n1_0, n1_n1, z_0, z_1, z_2, z_3, z_4, z_5, z_6, z_7, z_8, z_9, z_a, z_b, z_c, z_d, z_e, z_f, oN_inj, oN_lt, oN_gt, oN_ge, oN_le, i_succ, if_pos, if_neg, c_has, c_bit, Bool.true_eq_false, Bool.false_eq_true, decide_true, decide_false, decide_eq_true_eq, decide_eq_false_iff_not, eI_lt, lle_0, lge_0, llt_0, lgt_0, leq_0, lle_1, lge_1, llt_1, lgt_1, leq_1, lle_2, lge_2, llt_2, lgt_2, leq_2, lle_3, lge_3, llt_3, lgt_3, leq_3, lle_4, lge_4, llt_4, lgt_4, leq_4, lle_5, lge_5, llt_5, lgt_5, leq_5, lle_6, lge_6, llt_6, lgt_6, leq_6, lle_7, lge_7, llt_7, lgt_7, leq_7, lle_11, lge_11, llt_11, lgt_11, leq_11, lle_12, lge_12, llt_12, lgt_12, leq_12, lle_15, lge_15, llt_15, lgt_15, leq_15, lle_20, lge_20, llt_20, lgt_20, leq_20, lle_24, lge_24, llt_24, lgt_24, leq_24, lle_25, lge_25, llt_25, lgt_25, leq_25, lle_31, lge_31, llt_31, lgt_31, leq_31, lle_48, lge_48, llt_48, lgt_48, leq_48, lle_57, lge_57, llt_57, lgt_57, leq_57, lle_32, lge_32, llt_32, lgt_32, leq_32, lle_59, lge_59, llt_59, lgt_59, leq_59, lle_97, lge_97, llt_97, lgt_97, leq_97, lle_122, lge_122, llt_122, lgt_122, leq_122, lle_99, lge_99, llt_99, lgt_99, leq_99, lle_100, lge_100, llt_100, lgt_100, leq_100, lle_144, lge_144, llt_144, lgt_144, leq_144, lle_255, lge_255, llt_255, lgt_255, leq_255, lle_300, lge_300, llt_300, lgt_300, leq_300, lle_1000, lge_1000, llt_1000, lgt_1000, leq_1000, lle_1000000, lge_1000000, llt_1000000, lgt_1000000, leq_1000000, lle_4096, lge_4096, llt_4096, lgt_4096, leq_4096, b_ft]
    · have hxt' : hb x t = false := by
        rw [hxt]
        cases q : E w t with
        | false => rfl
        | true =>
          have : M w = t := Classical.byContradiction fun z => c ⟨q, z⟩
          simp [this]
      refine ⟨(b, K, ν), ⟨h1, h2, h3, h6, h4, fun z v s q e' m' => ?_⟩, fun i => ?_⟩
      · by_cases y : v = w ∧ s = t
        · obtain ⟨rfl, rfl⟩ := y
          exact absurd ⟨e', m'⟩ c
        · exact h5 z v s (by omega) e' m'
      · simp (disch := omega) only [f_X10_laysFar_L58, f_X10_laysFar_J153, f_X10_laysFar_J150, f_X10_laysFar_J144, f_X10_laysFar_J138, f_X10_laysFar_J112, f_X10_laysFar_J22, vc_168, gI_168_0, pI_168_0, gR_168_1, gI_168_2, pI_168_2, gI_168_3, pI_168_3, gI_168_4, pI_168_4, gI_168_5, pI_168_5, gI_168_6, pI_168_6, gI_168_7, pI_168_7, gR_168_8, gR_168_9, gR_168_10, gR_168_11, gR_168_12, gR_168_13, gI_168_14, pI_168_14, gI_168_15, pI_168_15, gI_168_16, pI_168_16, gR_168_17, gI_168_18, pI_168_18, gR_168_19, gI_168_20, pI_168_20, gI_168_21, pI_168_21, gI_168_22, pI_168_22, gI_168_23, pI_168_23, gR_168_24, gR_168_25, gI_168_26, pI_168_26, gI_168_27, pI_168_27, gR_168_28, gI_168_29, pI_168_29, gI_168_30, pI_168_30, gI_168_31, pI_168_31, gR_168_32, gR_168_33, gR_168_34, gR_168_35, gR_168_36, gR_168_37, gR_168_38, mr_h0, mr_f0, mr_m0, mr_w0, mr_c0, mc_c0, mc_a0, mc_s0, mh_a0_0, mh_s0_0, mh_a0_1, mh_s0_1, mh_a0_2, mh_s0_2, mh_a0_3, mh_s0_3, mh_a0_4, mh_s0_4, ma_f0, ms_f0, ma_m0, ms_m0, ma_w0, ms_w0, m_has, e1, ex, hxt', lt, true_or, or_true, false_or, or_false, Option.bind_some, if_true, if_false, bI_0, bI_1, bI_z, eI_n1, eI_l0, eI_g12, oN_n1, oN_l0, oN_g0, n1_l0, n1_g12, n1_0, n1_n1, z_0, z_1, z_2, z_3, z_4, z_5, z_6, z_7, z_8, z_9, z_a, z_b, z_c, z_d, z_e, z_f, oN_inj, oN_lt, oN_gt, oN_ge, oN_le, i_succ, if_pos, if_neg, c_has, c_bit, Bool.true_eq_false, Bool.false_eq_true, decide_true, decide_false, decide_eq_true_eq, decide_eq_false_iff_not, eI_lt, lle_0, lge_0, llt_0, lgt_0, leq_0, lle_1, lge_1, llt_1, lgt_1, leq_1, lle_2, lge_2, llt_2, lgt_2, leq_2, lle_3, lge_3, llt_3, lgt_3, leq_3, lle_4, lge_4, llt_4, lgt_4, leq_4, lle_5, lge_5, llt_5, lgt_5, leq_5, lle_6, lge_6, llt_6, lgt_6, leq_6, lle_7, lge_7, llt_7, lgt_7, leq_7, lle_11, lge_11, llt_11, lgt_11, leq_11, lle_12, lge_12, llt_12, lgt_12, leq_12, lle_15, lge_15, llt_15, lgt_15, leq_15, lle_20, lge_20, llt_20, lgt_20, leq_20, lle_24, lge_24, llt_24, lgt_24, leq_24, lle_25, lge_25, llt_25, lgt_25, leq_25, lle_31, lge_31, llt_31, lgt_31, leq_31, lle_48, lge_48, llt_48, lgt_48, leq_48, lle_57, lge_57, llt_57, lgt_57, leq_57, lle_32, lge_32, llt_32, lgt_32, leq_32, lle_59, lge_59, llt_59, lgt_59, leq_59, lle_97, lge_97, llt_97, lgt_97, leq_97, lle_122, lge_122, llt_122, lgt_122, leq_122, lle_99, lge_99, llt_99, lgt_99, leq_99, lle_100, lge_100, llt_100, lgt_100, leq_100, lle_144, lge_144, llt_144, lgt_144, leq_144, lle_255, lge_255, llt_255, lgt_255, leq_255, lle_300, lge_300, llt_300, lgt_300, leq_300, lle_1000, lge_1000, llt_1000, lgt_1000, leq_1000, lle_1000000, lge_1000000, llt_1000000, lgt_1000000, leq_1000000, lle_4096, lge_4096, llt_4096, lgt_4096, leq_4096, b_ft]
  · obtain ⟨b, K, ν⟩ := s
    obtain ⟨h1, h2, h3, h6, h4, h5⟩ := hs
    simp only at h1 h2 h3 h6 h4 h5
    have hS' := hS.fr h1 (fun i => by unfold Fl; omega) (fun i => by unfold Fl; omega) (fun i => by unfold Fl; omega)
    have e1 := hS'.1.2.1
    show Hw (f_X10_laysFar_L58 kE144 (i + 1) 168 (bI b) (Int32.ofNat w) (Int32.ofNat m) (mem ν)) P
    simp (disch := omega) only [f_X10_laysFar_L58, vc_168, gI_168_0, pI_168_0, gR_168_1, gI_168_2, pI_168_2, gI_168_3, pI_168_3, gI_168_4, pI_168_4, gI_168_5, pI_168_5, gI_168_6, pI_168_6, gI_168_7, pI_168_7, gR_168_8, gR_168_9, gR_168_10, gR_168_11, gR_168_12, gR_168_13, gI_168_14, pI_168_14, gI_168_15, pI_168_15, gI_168_16, pI_168_16, gR_168_17, gI_168_18, pI_168_18, gR_168_19, gI_168_20, pI_168_20, gI_168_21, pI_168_21, gI_168_22, pI_168_22, gI_168_23, pI_168_23, gR_168_24, gR_168_25, gI_168_26, pI_168_26, gI_168_27, pI_168_27, gR_168_28, gI_168_29, pI_168_29, gI_168_30, pI_168_30, gI_168_31, pI_168_31, gR_168_32, gR_168_33, gR_168_34, gR_168_35, gR_168_36, gR_168_37, gR_168_38, mr_h0, mr_f0, mr_m0, mr_w0, mr_c0, mc_c0, mc_a0, mc_s0, mh_a0_0, mh_s0_0, mh_a0_1, mh_s0_1, mh_a0_2, mh_s0_2, mh_a0_3, mh_s0_3, mh_a0_4, mh_s0_4, ma_f0, ms_f0, ma_m0, ms_m0, ma_w0, ms_w0, e1, lt, true_or, or_true, false_or, or_false, Option.bind_some, if_true, if_false, bI_0, bI_1, bI_z, eI_n1, eI_l0, eI_g12, oN_n1, oN_l0, oN_g0, n1_l0, n1_g12, n1_0, n1_n1, z_0, z_1, z_2, z_3, z_4, z_5, z_6, z_7, z_8, z_9, z_a, z_b, z_c, z_d, z_e, z_f, oN_inj, oN_lt, oN_gt, oN_ge, oN_le, i_succ, if_pos, if_neg, c_has, c_bit, Bool.true_eq_false, Bool.false_eq_true, decide_true, decide_false, decide_eq_true_eq, decide_eq_false_iff_not, eI_lt, lle_0, lge_0, llt_0, lgt_0, leq_0, lle_1, lge_1, llt_1, lgt_1, leq_1, lle_2, lge_2, llt_2, lgt_2, leq_2, lle_3, lge_3, llt_3, lgt_3, leq_3, lle_4, lge_4, llt_4, lgt_4, leq_4, lle_5, lge_5, llt_5, lgt_5, leq_5, lle_6, lge_6, llt_6, lgt_6, leq_6, lle_7, lge_7, llt_7, lgt_7, leq_7, lle_11, lge_11, llt_11, lgt_11, leq_11, lle_12, lge_12, llt_12, lgt_12, leq_12, lle_15, lge_15, llt_15, lgt_15, leq_15, lle_20, lge_20, llt_20, lgt_20, leq_20, lle_24, lge_24, llt_24, lgt_24, leq_24, lle_25, lge_25, llt_25, lgt_25, leq_25, lle_31, lge_31, llt_31, lgt_31, leq_31, lle_48, lge_48, llt_48, lgt_48, leq_48, lle_57, lge_57, llt_57, lgt_57, leq_57, lle_32, lge_32, llt_32, lgt_32, leq_32, lle_59, lge_59, llt_59, lgt_59, leq_59, lle_97, lge_97, llt_97, lgt_97, leq_97, lle_122, lge_122, llt_122, lgt_122, leq_122, lle_99, lge_99, llt_99, lgt_99, leq_99, lle_100, lge_100, llt_100, lgt_100, leq_100, lle_144, lge_144, llt_144, lgt_144, leq_144, lle_255, lge_255, llt_255, lgt_255, leq_255, lle_300, lge_300, llt_300, lgt_300, leq_300, lle_1000, lge_1000, llt_1000, lgt_1000, leq_1000, lle_1000000, lge_1000000, llt_1000000, lgt_1000000, leq_1000000, lle_4096, lge_4096, llt_4096, lgt_4096, leq_4096, b_ft]
    refine A ν K b ⟨h1, h2, h3, h6, h4, fun z v s q e' m' => h5 z v s ?_ e' m'⟩
    have := hO v s e'
    omega
end Lf
