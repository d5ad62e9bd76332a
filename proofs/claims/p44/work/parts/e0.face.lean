/-! THE CLASS'S FACE: what each call answers, whatever cells lie behind the class's -/
variable {Ξ : xH}
/-- the class's state, whatever it counts: its book, its history, nothing fed -/
def RS (μ : MM) (B : Bk) (H : List Bk) : Prop := ∃ A, RC TT μ A ∧ AOK A ∧ aB A = B ∧ aH A = H ∧ aN A = 0
/-- a question: its answer, one cell more at most, the state as it was -/
def Ask (Ξ : xH) (μ : MM) (B : Bk) (H : List Bk) (o : Option (Int32 × xH)) (v : Int32) : Prop := ∃ Δ ν, o = some (v, mX (Ξ ++ Δ) ν) ∧ Gw 1 Δ ∧ Fr CL μ ν ∧ RS ν B H
theorem RS.ok {μ : MM} {B : Bk} {H : List Bk} (h : RS μ B H) : BOK B := by
  obtain ⟨A, -, hA, rfl, -⟩ := h
  exact hA.1
theorem knw {B : Bk} (hB : BOK B) {k : Nat} (hk : k < bn B) : KN B 0 (Int32.ofNat k) := by
  have := hB.n
  exact Or.inl ⟨rfl, (inN_iff (by omega)).mpr ⟨k, hk, rfl⟩⟩
theorem knt {B : Bk} (hB : BOK B) {k : Nat} (hk : k < bm B) : KN B 1 (Int32.ofNat k) := by
  have := hB.m
  exact Or.inr ⟨rfl, (inN_iff (by omega)).mpr ⟨k, hk, rfl⟩⟩
theorem knw_n {B : Bk} (hB : BOK B) {k : Nat} (hk : bn B ≤ k) (hk2 : k < 1000) : ¬ KN B 0 (Int32.ofNat k) := by
  have := hB.n
  rintro (⟨-, h1, h2⟩ | ⟨h, -⟩)
  · rw [oN_lt (by omega) (by omega)] at h2; omega
  · exact absurd h (by decide)
theorem knt_n {B : Bk} (hB : BOK B) {k : Nat} (hk : bm B ≤ k) (hk2 : k < 1000) : ¬ KN B 1 (Int32.ofNat k) := by
  have := hB.m
  rintro (⟨h, -⟩ | ⟨-, h1, h2⟩)
  · exact absurd h (by decide)
  · rw [oN_lt (by omega) (by omega)] at h2; omega
section E0
variable {μ : MM} {B : Bk} {H : List Bk}
theorem CX.imp {T : MM → Bk → Prop} {o : Option ((Int32 ⊕ String) × xH)} {S S' : (Int32 ⊕ String) → AS → Prop} (c : CX Ξ T μ o S) (k : ∀ x A', S x A' → S' x A') : CX Ξ T μ o S' := fun hl => by
  obtain ⟨x, ν, A', Δ, e, hΔ, f, r, ok, s⟩ := c hl
  exact ⟨x, ν, A', Δ, e, hΔ, f, r, ok, k x A' s⟩
theorem q_of (hl : (shI ++ Ξ).length + 1 < 1000000) {F : xH → Option ((Int32 ⊕ String) × xH)} {wc : String → Option Int32} {S : (Int32 ⊕ String) → AS → Prop} {v : Int32} (c : CX Ξ TT μ (F (mX Ξ μ)) S) (k : ∀ x A', S x A' → ((x = .inl v ∨ ∃ E, x = .inr E ∧ wc E = some v) ∧ aB A' = B ∧ aH A' = H ∧ aN A' = 0)) :
    Ask Ξ μ B H ((vc (mX Ξ μ) 9 0 (F (mX Ξ μ))).bind (wrp wc)) v := by
  obtain ⟨x, ν, A', Δ, e, hΔ, f, r, ok, s⟩ := c hl
  obtain ⟨hx, h2, h3, h4⟩ := k x A' s
  refine ⟨Δ, ν, ?_, hΔ, f, A', r, ok, h2, h3, h4⟩
  rw [vc_0, e, Option.bind_some]
  rcases hx with rfl | ⟨E, rfl, w⟩
  · rfl
  · show (wc E).bind _ = _
    rw [w]; rfl
theorem q_v (h : RS μ B H) (hl : (shI ++ Ξ).length + 1 < 1000000) {F : xH → Option ((Int32 ⊕ String) × xH)} {wc : String → Option Int32} {v : Int32} (c : ∀ A, RC TT μ A → AOK A → aB A = B → CX Ξ TT μ (F (mX Ξ μ)) (SV A v)) : Ask Ξ μ B H ((vc (mX Ξ μ) 9 0 (F (mX Ξ μ))).bind (wrp wc)) v := by
  obtain ⟨A, hC, hA, h1, h2, h3⟩ := h
  exact q_of hl (c A hC hA h1) fun x A' s => ⟨Or.inl s.1, by rw [s.2]; exact h1, by rw [s.2]; exact h2, by rw [s.2]; exact h3⟩
theorem q_p (h : RS μ B H) (hl : (shI ++ Ξ).length + 1 < 1000000) {F : xH → Option ((Int32 ⊕ String) × xH)} {wc : String → Option Int32} {v : Int32} (w : wc NSE = some v) (c : ∀ A, RC TT μ A → AOK A → aB A = B → CX Ξ TT μ (F (mX Ξ μ)) (SP A)) : Ask Ξ μ B H ((vc (mX Ξ μ) 9 0 (F (mX Ξ μ))).bind (wrp wc)) v := by
  obtain ⟨A, hC, hA, h1, h2, h3⟩ := h
  exact q_of hl (c A hC hA h1) fun x A' s => ⟨Or.inr ⟨_, s.1, w⟩, by rw [s.2]; exact h1, by rw [s.2]; exact h2, by rw [s.2]; exact h3⟩
theorem q_a (h : RS μ B H) (hl : (shI ++ Ξ).length + 1 < 1000000) {F : xH → Option ((Int32 ⊕ String) × xH)} {wc : String → Option Int32} {v : Int32} (w : wc IAE = some v) (c : ∀ A, RC TT μ A → AOK A → aB A = B → CX Ξ TT μ (F (mX Ξ μ)) (SA A)) : Ask Ξ μ B H ((vc (mX Ξ μ) 9 0 (F (mX Ξ μ))).bind (wrp wc)) v := by
  obtain ⟨A, hC, hA, h1, h2, h3⟩ := h
  exact q_of hl (c A hC hA h1) fun x A' s => ⟨Or.inr ⟨_, s.1, w⟩, by rw [s.2]; exact h1, by rw [s.2]; exact h2, by rw [s.2]; exact h3⟩
/-! partner, cost, fits -/
theorem q_partner0 (h : RS μ B H) (hl : (shI ++ Ξ).length + 1 < 1000000) {k : Nat} (hk : k < bn B) : Ask Ξ μ B H (f_L_partner 0 0 (Int32.ofNat k) (mX Ξ μ)) (eI (bM B k)) :=
  q_v (F := f_X9_partner 0 0 (Int32.ofNat k)) h hl fun A hC hA e => by
    subst e
    have hB := hA.1
    have c := knw hB hk
    have k2 : k < 12 := Nat.lt_of_lt_of_le hk hB.n
    refine CX_V TT_F hC hA (ν := μ) ?_ (Fr.refl _ _)
    simp only [f_X9_partner, vc_0, gR_0_0, gR_0_1, gR_0_2, gR_0_3, gR_0_4, gR_0_5, gR_0_6, gR_0_7, gR_0_8, gI_0_9, pI_0_9, gI_0_10, pI_0_10, gI_0_11, pI_0_11, bk_v bk1, c_kn bk1 hC.1 hB, pb_1 c, show bI true = 1 from rfl, c_dp1, thr, c_partnerOf0 bk1 hC.1 k2, Option.bind_some]
theorem q_partner1 (h : RS μ B H) (hl : (shI ++ Ξ).length + 1 < 1000000) {k : Nat} (hk : k < bm B) : Ask Ξ μ B H (f_L_partner 0 1 (Int32.ofNat k) (mX Ξ μ)) (eI (ow (bM B) k)) :=
  q_v (F := f_X9_partner 0 1 (Int32.ofNat k)) h hl fun A hC hA e => by
    subst e
    have hB := hA.1
    have c := knt hB hk
    have k2 : k < 12 := Nat.lt_of_lt_of_le hk hB.m
    refine CX_V TT_F hC hA (ν := μ) ?_ (Fr.refl _ _)
    simp only [f_X9_partner, vc_0, gR_0_0, gR_0_1, gR_0_2, gR_0_3, gR_0_4, gR_0_5, gR_0_6, gR_0_7, gR_0_8, gI_0_9, pI_0_9, gI_0_10, pI_0_10, gI_0_11, pI_0_11, bk_v bk1, c_kn bk1 hC.1 hB, pb_1 c, show bI true = 1 from rfl, c_dp1, thr, c_partnerOf1 bk1 hC.1 k2, Option.bind_some]
theorem q_partner_p (h : RS μ B H) (hl : (shI ++ Ξ).length + 1 < 1000000) {s x : Int32} (c : ¬ KN B s x) : Ask Ξ μ B H (f_L_partner 0 s x (mX Ξ μ)) (-2000000096) :=
  q_p (F := f_X9_partner 0 s x) h hl rfl fun A hC hA e => by
    subst e
    have hB := hA.1
    refine CX_P TT_F hC hA fun ν e => ?_
    simp only [f_X9_partner, vc_0, gR_0_0, gR_0_1, gR_0_2, gR_0_3, gR_0_4, gR_0_5, gR_0_6, gR_0_7, gR_0_8, gI_0_9, pI_0_9, gI_0_10, pI_0_10, gI_0_11, pI_0_11, bk_v bk1, c_kn bk1 hC.1 hB, pb_f c, show bI false = 0 from rfl, e, thr, Option.bind_some]
theorem q_cost (h : RS μ B H) (hl : (shI ++ Ξ).length + 1 < 1000000) {w t : Nat} (hw : w < bn B) (ht : t < bm B) : Ask Ξ μ B H (f_L_cost 0 (Int32.ofNat w) (Int32.ofNat t) (mX Ξ μ)) (if hb (bf B w) t then Int32.ofNat (bc B w t) else -1) :=
  q_v (F := f_X9_cost 0 (Int32.ofNat w) (Int32.ofNat t)) h hl fun A hC hA e => by
    subst e
    have hB := hA.1
    have c := knw hB hw
    have d := knt hB ht
    have w2 : w < 12 := Nat.lt_of_lt_of_le hw hB.n
    have t2 : t < 12 := Nat.lt_of_lt_of_le ht hB.m
    refine CX_V TT_F hC hA (ν := μ) ?_ (Fr.refl _ _)
    simp only [f_X9_cost, vc_0, gR_0_0, gR_0_1, gR_0_2, gR_0_3, gR_0_4, gR_0_5, gR_0_6, gR_0_7, gR_0_8, gI_0_9, pI_0_9, gI_0_10, pI_0_10, gI_0_11, pI_0_11, bk_v bk1, c_kb bk1 hC.1 hB, pb_1 c, pb_1 d, Bool.and_self, show bI true = 1 from rfl, c_dp1, thr, c_costOf bk1 hC.1 w2 t2, Option.bind_some]
theorem q_cost_p (h : RS μ B H) (hl : (shI ++ Ξ).length + 1 < 1000000) {x y : Int32} (d : ¬ KN B 1 y) : Ask Ξ μ B H (f_L_cost 0 x y (mX Ξ μ)) (-2000000096) :=
  q_p (F := f_X9_cost 0 x y) h hl rfl fun A hC hA e => by
    subst e
    have hB := hA.1
    refine CX_P TT_F hC hA fun ν e => ?_
    simp only [f_X9_cost, vc_0, gR_0_0, gR_0_1, gR_0_2, gR_0_3, gR_0_4, gR_0_5, gR_0_6, gR_0_7, gR_0_8, gI_0_9, pI_0_9, gI_0_10, pI_0_10, gI_0_11, pI_0_11, bk_v bk1, c_kb bk1 hC.1 hB, pb_f d, Bool.and_false, show bI false = 0 from rfl, e, thr, Option.bind_some]
theorem q_fits0 (h : RS μ B H) (hl : (shI ++ Ξ).length + 1 < 1000000) {k : Nat} (hk : k < bn B) : Ask Ξ μ B H (f_L_fits 0 0 (Int32.ofNat k) (mX Ξ μ)) (bf B k) :=
  q_v (F := f_X9_fits 0 0 (Int32.ofNat k)) h hl fun A hC hA e => by
    subst e
    have hB := hA.1
    have c := knw hB hk
    have k2 : k < 12 := Nat.lt_of_lt_of_le hk hB.n
    refine CX_V TT_F hC hA (ν := μ) ?_ (Fr.refl _ _)
    simp only [f_X9_fits, f_X9_fits_J36, vc_0, gR_0_0, gR_0_1, gR_0_2, gR_0_3, gR_0_4, gR_0_5, gR_0_6, gR_0_7, gR_0_8, gI_0_9, pI_0_9, gI_0_10, pI_0_10, gI_0_11, pI_0_11, bk_v bk1, c_kn bk1 hC.1 hB, pb_1 c, show bI true = 1 from rfl, c_dp1, thr, if_true, c_tasksFor bk1 hC.1 k2, Option.bind_some]
/-! most, way -/
theorem q_most (h : RS μ B H) {k : Nat} (nu : Nu (gE B) k) : ∃ ν, f_X9_most 0 (mX Ξ μ) = some (Int32.ofNat k, mX Ξ ν) ∧ Fr CL μ ν ∧ RS ν B H := by
  obtain ⟨A, hC, hA, rfl, h2, h3⟩ := h
  have hB := hA.1
  obtain ⟨ν, k', M', e, f, s, o, g⟩ := c_makeMost (Ξ := Ξ) hC hA
  have := nu.uniq (g.nu hB.Eb hB.M).2.1
  subst this
  refine ⟨ν, ?_, f.mono fun _ _ z => z.Q.L, A, hC.fr TT_F f fun q i _ z => Or.inl z.Q, hA, rfl, h2, h3⟩
  simp only [f_X9_most, vc_0, gR_0_0, gR_0_1, gR_0_2, gR_0_3, gR_0_4, gR_0_5, gR_0_6, gR_0_7, gR_0_8, gI_0_9, pI_0_9, gI_0_10, pI_0_10, gI_0_11, pI_0_11, e, Option.bind_some]
theorem q_way0 (h : RS μ B H) (n : Fin' (gE B) (bM B)) : ∃ ν, f_X9_way 0 (mX Ξ μ) = some (0, mX Ξ ν) ∧ Fr CL μ ν ∧ RS ν B H := by
  obtain ⟨A, hC, hA, rfl, h2, h3⟩ := h
  obtain ⟨ν, e1, f1, s1, o1⟩ := c_loaded (Ξ := Ξ) hC hA
  obtain ⟨r, ξ, e2, f2, q⟩ := c_findFirst (Ξ := Ξ) s1 o1
  have fq : Fr CQ μ ξ := (f1.mono fun _ _ z => z.Q).trans (f2.mono fun _ _ z => z.Q)
  rcases q with ⟨rfl, -⟩ | ⟨L, pw, pt, q1, -⟩
  · refine ⟨ξ, ?_, fq.mono fun _ _ z => z.L, A, hC.fr TT_F fq fun q i _ z => Or.inl z, hA, rfl, h2, h3⟩
    simp only [f_X9_way, vc_0, gR_0_0, gR_0_1, gR_0_2, gR_0_3, gR_0_4, gR_0_5, gR_0_6, gR_0_7, gR_0_8, gI_0_9, pI_0_9, gI_0_10, pI_0_10, gI_0_11, pI_0_11, vc_141, e1, e2, Option.bind_some]
  · exact (q1.fin n).elim
theorem q_way1 (h : RS μ B H) {L : Nat} {pw pt : Nat → Nat} (t : Tw (gE B) (bM B) L pw pt) (n : ∀ v, v < pw 0 → bM B v = 12 → Nr (gE B) (bM B) v) : ∃ ν, f_X9_way 0 (mX Ξ μ) = some (Int32.ofNat (2 * L), mX Ξ ν) ∧ Fr CL μ ν ∧ RS ν B H := by
  obtain ⟨A, hC, hA, rfl, h2, h3⟩ := h
  obtain ⟨ν, e1, f1, s1, o1⟩ := c_loaded (Ξ := Ξ) hC hA
  obtain ⟨r, ξ, e2, f2, q⟩ := c_findFirst (Ξ := Ξ) s1 o1
  have fq : Fr CQ μ ξ := (f1.mono fun _ _ z => z.Q).trans (f2.mono fun _ _ z => z.Q)
  rcases q with ⟨-, q⟩ | ⟨L', pw', pt', q1, q2, q3, -⟩
  · exact (t.fin q).elim
  · refine ⟨ξ, ?_, fq.mono fun _ _ z => z.L, A, hC.fr TT_F fq fun q i _ z => Or.inl z, hA, rfl, h2, h3⟩
    rw [(t.least n q1 q2).1, ← q3]
    simp only [f_X9_way, vc_0, gR_0_0, gR_0_1, gR_0_2, gR_0_3, gR_0_4, gR_0_5, gR_0_6, gR_0_7, gR_0_8, gI_0_9, pI_0_9, gI_0_10, pI_0_10, gI_0_11, pI_0_11, vc_141, e1, e2, Option.bind_some]
end E0
