/-! THE CLASS'S FACE: wayAt wayFrom reached cover hall of fit fitMany many cheap -/
variable {Ξ : xH}
/-- the law's most is the class's -/
theorem Gr.g12 {E : Nat → Nat → Bool} {k : Nat} {M M' : Nat → Nat} (hb : Eb E) (hM : Ms E M) (h : Gr E 99 k M M') : Gr E 12 k M M' := by
  obtain ⟨c, -, h3⟩ := h
  have s := (Ch.Ms hb hM c).2
  have := sz_le M'
  exact ⟨c, by omega, Or.inr (h3.resolve_left (by omega))⟩
section E2
variable {μ : MM} {B : Bk} {H : List Bk}
theorem q_wayAt_p (h : RS μ B H) (hl : (shI ++ Ξ).length + 1 < 1000000) {x : Int32} (n : Fin' (gE B) (bM B) ∨ ∃ L pw pt, Tw (gE B) (bM B) L pw pt ∧ (∀ v, v < pw 0 → bM B v = 12 → Nr (gE B) (bM B) v) ∧ ¬ ∃ k, k < 2 * L ∧ x = Int32.ofNat k) : Ask Ξ μ B H (f_L_wayAt 0 x (mX Ξ μ)) (-2000000096) :=
  q_p (F := f_X9_wayAt 0 x) h hl rfl fun A hC hA e => by
    subst e
    have hB := hA.1
    obtain ⟨ν, e1, f1, s1, o1⟩ := c_loaded (Ξ := Ξ) hC hA
    obtain ⟨r, ξ, e2, f2, q⟩ := c_findFirst (Ξ := Ξ) s1 o1
    have fq : Fr CQ μ ξ := (f1.mono fun _ _ z => z.Q).trans (f2.mono fun _ _ z => z.Q)
    have cno : ¬ (0 ≤ x ∧ x < r) → ∀ h', f_X9_demandPlace 0 0 (mX Ξ ξ) = some (.inr NSE, h') → f_X9_wayAt 0 x (mX Ξ μ) = some (.inr NSE, h') := fun n h' e => by
      have n3 : f_X9_wayAt_J33 0 x 0 (mX Ξ ξ) = some (.inr NSE, h') := by
        simp only [f_X9_wayAt_J34, f_X9_wayAt_J33, ↓hvc (fun _ => vc_0), ↓hbind e, ↓thr_er]
      simp only [f_X9_wayAt, ↓hbind gR_0_4, ↓hbind gR_0_0, ↓hvc (fun _ => vc_141), ↓hbind e1, ↓hbind e2]
      by_cases n1 : x < 0
      · rw [if_pos n1]; exact n3
      · rw [if_neg n1]
        by_cases n2 : x ≥ r
        · rw [if_pos n2]; exact n3
        · exact absurd ⟨Int32.not_lt.mp n1, Int32.not_le.mp n2⟩ n
    refine CX_P' TT_F hC hA fq (cno ?_)
    rcases q with ⟨r0, q⟩ | ⟨L, pw, pt, q1, q2, q3, q4, q5⟩
    · subst r0
      exact fun z => Int32.not_lt.mpr z.1 z.2
    · have hL := q1.len hB.Eb
      rw [q3, inN_iff (by omega)]
      rcases n with n | ⟨L', pw', pt', t1, t2, t3⟩
      · exact (q1.fin n).elim
      · rw [(q1.least q2 t1 t2).1]; exact t3
theorem q_wayAt_k (h : RS μ B H) (hl : (shI ++ Ξ).length + 1 < 1000000) {L : Nat} {pw pt : Nat → Nat} (t : Tw (gE B) (bM B) L pw pt) (n : ∀ v, v < pw 0 → bM B v = 12 → Nr (gE B) (bM B) v) {k : Nat} (hk : k < 2 * L) : Ask Ξ μ B H (f_L_wayAt 0 (Int32.ofNat k) (mX Ξ μ)) (Int32.ofNat (wPl pw pt k)) :=
  q_v (F := f_X9_wayAt 0 (Int32.ofNat k)) h hl fun A hC hA e => by
    subst e
    have hB := hA.1
    obtain ⟨ν, e1, f1, s1, o1⟩ := c_loaded (Ξ := Ξ) hC hA
    obtain ⟨r, ξ, e2, f2, q⟩ := c_findFirst (Ξ := Ξ) s1 o1
    have fq : Fr CQ μ ξ := (f1.mono fun _ _ z => z.Q).trans (f2.mono fun _ _ z => z.Q)
    rcases q with ⟨r0, q⟩ | ⟨L', pw', pt', q1, q2, q3, q4, q5⟩
    · exact (t.fin q).elim
    · have hL := q1.len hB.Eb
      obtain ⟨rfl, eq⟩ := q1.least q2 t n
      have n1 : ¬ (Int32.ofNat k < 0) := by rw [oN_l0 (by omega)]; exact id
      have n2 : ¬ (Int32.ofNat k ≥ r) := by rw [q3, oN_ge (by omega) (by omega)]; omega
      have ew := c_wayAtPlace (Ξ := Ξ) q4 hk (by omega)
      have ep : wPl pw' pt' k = wPl pw pt k := by
        unfold wPl
        obtain ⟨a1, a2⟩ := eq (k / 2) (by omega)
        rw [a1, a2]
      rw [wPl_at q5 hk, ep] at ew
      refine CX_V TT_F hC hA (ν := ξ) ?_ fq
      simp only [f_X9_wayAt, f_X9_wayAt_J34, f_X9_wayAt_J33, ↓hbind gR_0_4, ↓hbind gR_0_0, ↓hvc (fun _ => vc_141), ↓hvc (fun _ => vc_0), ↓hbind e1, ↓hbind e2, if_neg n1, if_neg n2, ↓hbind c_dp1, ↓thr_ok, ↓hbind ew]
/-- from a worker: no way -/
theorem q_wayFrom0 (h : RS μ B H) (hl : (shI ++ Ξ).length + 1 < 1000000) {w : Nat} (hw : w < bn B) (n : bM B w < 12 ∨ Nr (gE B) (bM B) w) {y : Int32} (d : y = 0 ∨ y = 1) : Ask Ξ μ B H (f_L_wayFrom 0 (Int32.ofNat w) y (mX Ξ μ)) 0 :=
  q_v (F := f_X9_wayFrom 0 (Int32.ofNat w) y) h hl fun A hC hA e => by
    subst e
    have hB := hA.1
    obtain ⟨r, ξ, e, f, q⟩ := c_wayFrom_k (Ξ := Ξ) hA hC (Nat.lt_of_lt_of_le hw hB.n) (knw hB hw) d
    have r0 : r = 0 := by
      rcases q with ⟨rfl, -⟩ | ⟨L, pw, pt, t, rfl, -⟩
      · rfl
      · rcases n with n | n
        · have := t.2.1; omega
        · exact absurd (t.2.2.2 0 t.1).1 (n _)
    have rv : wfr r y = 0 := by
      rw [r0]; unfold wfr
      rcases d with rfl | rfl
      · rfl
      · rfl
    rw [rv] at e
    exact CX_V TT_F hC hA e f
theorem q_wayFrom1 (h : RS μ B H) (hl : (shI ++ Ξ).length + 1 < 1000000) {w : Nat} (hw : w < bn B) {L : Nat} {pw pt : Nat → Nat} (t : Tw (gE B) (bM B) L pw pt) (t0 : pw 0 = w) {y : Int32} (d : y = 0 ∨ y = 1) : Ask Ξ μ B H (f_L_wayFrom 0 (Int32.ofNat w) y (mX Ξ μ)) (if y = 1 then Int32.ofNat (2 * L) else 1) :=
  q_v (F := f_X9_wayFrom 0 (Int32.ofNat w) y) h hl fun A hC hA e => by
    subst e
    have hB := hA.1
    obtain ⟨r, ξ, e, f, q⟩ := c_wayFrom_k (Ξ := Ξ) hA hC (Nat.lt_of_lt_of_le hw hB.n) (knw hB hw) d
    have hL := t.len hB.Eb
    have hL0 := t.1
    have r0 : r = Int32.ofNat (2 * L) := by
      rcases q with ⟨rfl, n⟩ | ⟨L', pw', pt', t', e0, rfl⟩
      · exact absurd (t.2.2.2 0 t.1).1 (by rw [t0]; exact n (by rw [← t0]; exact t.2.1) _)
      · rw [(t.uniq t' (by rw [t0, e0])).1]
    have rv : wfr r y = if y = 1 then Int32.ofNat (2 * L) else 1 := by
      rw [r0]; unfold wfr
      rcases d with rfl | rfl
      · have z1 : ¬ ((0 : Int32) = 1) := by decide
        have z2 : ¬ (Int32.ofNat (2 * L) ≤ 0) := by rw [lle_0 (by omega)]; omega
        rw [if_neg z1, if_neg z2, if_neg z1]
      · rfl
    rw [rv] at e
    exact CX_V TT_F hC hA e f
/-- from what is reached -/
theorem q_re {wc : String → Option Int32} {f : xH → Option ((Int32 ⊕ String) × xH)} (F : Int32 → Int32 → Int32 → Int32 → Int32) (h : RS μ B H) (hl : (shI ++ Ξ).length + 1 < 1000000) {k : Nat} {M' : Nat → Nat} {a b u v : Int32} (g : Gr (gE B) 12 k (bM B) M') (r1 : AlW (gE B) M' (bw B) a b) (r2 : AlW (trE (gE B)) (tr M') (bt B) v u)
    (hf : ∀ A ν ξ N, RC TT μ A → AOK A → aB A = B → f_X9_makeMost 0 (mX Ξ μ) = some (Int32.ofNat N, mX Ξ ν) → f_X5_look 149 141 (mX Ξ ν) = some (mX Ξ ξ) → ξ.1 1 2 = bw B → f (mX Ξ μ) = some (.inl (F (ξ.1 149 0) (ξ.1 149 1) (ξ.1 149 2) (ξ.1 149 3)), mX Ξ ξ)) : Ask Ξ μ B H ((vc (mX Ξ μ) 9 0 (f (mX Ξ μ))).bind (wrp wc)) (F a b u v) :=
  q_v (F := f) h hl fun A hC hA e => by
    subst e
    obtain ⟨ν, ξ, k2, M2, e1, e2, fq, gr, -, -, p1, p2⟩ := c_mmLook (Ξ := Ξ) hC hA
    have eb : ξ.1 1 2 = bw (aB A) := by rw [(fq _ _ (by unfold CQ; omega)).1]; exact hC.1.1.2.2.1
    obtain ⟨-, rfl⟩ := g.uniq gr
    obtain ⟨x1, x2⟩ := p1.uniq r1
    obtain ⟨x3, x4⟩ := p2.uniq r2
    have e3 := hf A ν ξ _ hC hA rfl e1 e2 eb
    rw [x1, x2, x3, x4] at e3
    exact CX_V TT_F hC hA e3 fq
variable {k : Nat} {M' : Nat → Nat} {a b u v : Int32}
theorem q_reached0 (h : RS μ B H) (hl : (shI ++ Ξ).length + 1 < 1000000) (g : Gr (gE B) 12 k (bM B) M') (r1 : AlW (gE B) M' (bw B) a b) (r2 : AlW (trE (gE B)) (tr M') (bt B) v u) : Ask Ξ μ B H (f_L_reached 0 0 (mX Ξ μ)) a :=
  q_re (f := f_X9_reached 0 0) (fun a _ _ _ => a) h hl g r1 r2 fun A ν ξ N _ _ _ e1 e2 _ => by
    simp only [f_X9_reached, f_X9_reached_J10, f_X9_reached_J15, f_X9_reached_J55, ↓reduceIte, ↓hvc (fun _ => vc_0), ↓hbind c_dp1, ↓thr_ok, ↓thr_er, ↓hbind e1, ↓hbind gR_0_5, ↓hbind gR_0_4, ↓hvc (fun _ => vc_149), ↓hbind e2, ↓hbind gI_149_0]
theorem q_reached1 (h : RS μ B H) (hl : (shI ++ Ξ).length + 1 < 1000000) (g : Gr (gE B) 12 k (bM B) M') (r1 : AlW (gE B) M' (bw B) a b) (r2 : AlW (trE (gE B)) (tr M') (bt B) v u) : Ask Ξ μ B H (f_L_reached 0 1 (mX Ξ μ)) b :=
  q_re (f := f_X9_reached 0 1) (fun _ b _ _ => b) h hl g r1 r2 fun A ν ξ N _ _ _ e1 e2 _ => by
    simp only [f_X9_reached, f_X9_reached_J10, f_X9_reached_J15, f_X9_reached_J55, ↓reduceIte, z_1, ↓hvc (fun _ => vc_0), ↓hbind c_dp1, ↓thr_ok, ↓thr_er, ↓hbind e1, ↓hbind gR_0_5, ↓hbind gR_0_4, ↓hvc (fun _ => vc_149), ↓hbind e2, ↓hbind gI_149_1]
theorem q_cover0 (h : RS μ B H) (hl : (shI ++ Ξ).length + 1 < 1000000) (g : Gr (gE B) 12 k (bM B) M') (r1 : AlW (gE B) M' (bw B) a b) (r2 : AlW (trE (gE B)) (tr M') (bt B) v u) : Ask Ξ μ B H (f_L_cover 0 0 (mX Ξ μ)) (bw B &&& (a ^^^ (-1))) :=
  q_re (f := f_X9_cover 0 0) (fun a _ _ _ => bw B &&& (a ^^^ (-1))) h hl g r1 r2 fun A ν ξ N _ _ _ e1 e2 eb => by
    simp only [f_X9_cover, f_X9_cover_J10, f_X9_cover_J15, f_X9_cover_J65, ↓reduceIte, ↓hvc (fun _ => vc_0), ↓hbind c_dp1, ↓thr_ok, ↓thr_er, ↓hbind e1, ↓hbind gR_0_5, ↓hbind gR_0_4, ↓hbind gR_0_0, ↓hbind (bk_i2 bk1), eb, ↓hvc (fun _ => vc_149), ↓hbind e2, ↓hbind gI_149_0]
theorem q_cover1 (h : RS μ B H) (hl : (shI ++ Ξ).length + 1 < 1000000) (g : Gr (gE B) 12 k (bM B) M') (r1 : AlW (gE B) M' (bw B) a b) (r2 : AlW (trE (gE B)) (tr M') (bt B) v u) : Ask Ξ μ B H (f_L_cover 0 1 (mX Ξ μ)) b :=
  q_re (f := f_X9_cover 0 1) (fun _ b _ _ => b) h hl g r1 r2 fun A ν ξ N _ _ _ e1 e2 _ => by
    simp only [f_X9_cover, f_X9_cover_J10, f_X9_cover_J15, f_X9_cover_J65, ↓reduceIte, z_1, ↓hvc (fun _ => vc_0), ↓hbind c_dp1, ↓thr_ok, ↓thr_er, ↓hbind e1, ↓hbind gR_0_5, ↓hbind gR_0_4, ↓hvc (fun _ => vc_149), ↓hbind e2, ↓hbind gI_149_1]
theorem q_hall1 (h : RS μ B H) (hl : (shI ++ Ξ).length + 1 < 1000000) (g : Gr (gE B) 12 k (bM B) M') (r1 : AlW (gE B) M' (bw B) a b) (r2 : AlW (trE (gE B)) (tr M') (bt B) v u) : Ask Ξ μ B H (f_L_hall 0 1 (mX Ξ μ)) a :=
  q_re (f := f_X9_hall 0 1) (fun a _ _ _ => a) h hl g r1 r2 fun A ν ξ N _ _ _ e1 e2 _ => by
    simp only [f_X9_hall, f_X9_hall_J10, f_X9_hall_J15, ↓reduceIte, z_1, ↓hvc (fun _ => vc_0), ↓hbind c_da1, ↓thr_ok, ↓thr_er, ↓hbind e1, ↓hbind gR_0_5, ↓hbind gR_0_4, ↓hvc (fun _ => vc_149), ↓hbind e2, ↓hbind gI_149_0]
theorem q_hall0 (h : RS μ B H) (hl : (shI ++ Ξ).length + 1 < 1000000) {N : Nat} (nu : Nu (gE B) N) : Ask Ξ μ B H (f_L_hall 0 0 (mX Ξ μ)) (Int32.ofNat (cnt (hb (bw B)) 12) - Int32.ofNat N) :=
  q_v (F := f_X9_hall 0 0) h hl fun A hC hA e => by
    subst e
    have hB := hA.1
    obtain ⟨ν, k, M', e1, f1, s1, o1, g⟩ := c_makeMost (Ξ := Ξ) hC hA
    have fq : Fr CQ μ ν := f1.mono fun _ _ z => z.Q
    have nn := nu.uniq (g.nu hB.Eb hB.M).2.1
    subst nn
    have eb : ν.1 1 2 = bw (aB A) := by rw [(fq _ _ (by unfold CQ; omega)).1]; exact hC.1.1.2.2.1
    have ec := c_bitCount (h := mX Ξ ν) hB.bw12
    refine CX_V TT_F hC hA (ν := ν) ?_ fq
    simp only [f_X9_hall, f_X9_hall_J10, f_X9_hall_J15, ↓reduceIte, ↓hvc (fun _ => vc_0), ↓hbind c_da1, ↓thr_ok, ↓thr_er, ↓hbind e1, ↓hbind gR_0_0, ↓hbind (bk_i2 bk1), eb, ↓hbind ec]
end E2
