/-! THE MODEL: a phase; all phases in thought -/
theorem updP_or {M : Nat → Nat} : ∀ (p : PP) (x : Nat), (∃ y, y ∈ p ∧ updP M p x = y.2) ∨ updP M p x = M x
  | [], _ => Or.inr rfl
  | (w, t) :: p, x => by
    by_cases z : x = w
    · rw [z]
      exact Or.inl ⟨(w, t), List.mem_cons_self, by show up (updP M p) w t w = t; exact up_same _ _ _⟩
    · have e : updP M ((w, t) :: p) x = updP M p x := by show up (updP M p) w t x = _; exact up_ne z
      rw [e]
      rcases updP_or p x with ⟨y, a, b⟩ | b
      · exact Or.inl ⟨y, List.mem_cons_of_mem _ a, b⟩
      · exact Or.inr b
def FPm (q i : Nat) : Prop := q = 210 ∨ (q = 168 ∧ 20 ≤ i ∧ i ≤ 27)
section Mh
variable {μ : MM} {n m : Nat} {Wt Tt : Int32} {E : Nat → Nat → Bool} {M : Nat → Nat} {lw lr : LA}
theorem m_ph (hO : SOK n m Wt E M) (hl : ∀ v, lw v = 0 ↔ (hb Wt v = true ∧ M v = 12)) {c0 a F0 : Nat} (ha : a ≤ 12) : ∀ (k w : Nat) (ν : MM) (s : PS), w + k = n → MS ν n m Wt Tt E s.1 → LyM ν lw lr → (∀ i, hb (ν.1 168 27) i = s.2.1 i) → (∀ v, v < 12 → hb (ν.1 168 26) v = true → s.1 v < 12 → s.2.1 (s.1 v) = true) → (∀ v, v < 12 → hb (ν.1 168 26) v = true → v < w ∨ s.1 v < 12) →
    ν.1 168 20 = Int32.ofNat (a + 1) → ν.1 168 21 = Int32.ofNat s.2.2.1 → ν.1 168 22 = Int32.ofNat (if a = 0 then s.2.2.1 else F0) → ν.1 168 23 = Int32.ofNat s.2.2.2 → PfI E M lw c0 w s →
    ∃ ξ, (∀ f, f_X10_onePhase_L22 f_X10_onePhase_J114 (k + 1 + f) 168 (Int32.ofNat w) (mem ν) = some (mem ξ)) ∧ Fr FPm ν ξ ∧ MS ξ n m Wt Tt E (phF E lw lr k w s).1 ∧ ξ.1 168 20 = Int32.ofNat (a + 1) ∧ ξ.1 168 21 = Int32.ofNat (phF E lw lr k w s).2.2.1 ∧ ξ.1 168 22 = Int32.ofNat (if a = 0 then (phF E lw lr k w s).2.2.1 else F0) ∧ ξ.1 168 23 = Int32.ofNat (phF E lw lr k w s).2.2.2
  | 0, w, ν, s, h, hS, hL, h27, i2, i3, h20, h21, h22, h23, hI => by
    have hn := hO.1
    have e0 : ν.1 172 0 = Int32.ofNat n := hS.1.1
    have c : (Int32.ofNat w ≥ Int32.ofNat n) = True := by rw [oN_ge (by omega) (by omega)]; exact eq_true (by omega)
    refine ⟨ν, fun f => ?_, Fr.refl _ _, hS, h20, h21, h22, h23⟩
    rw [show 0 + 1 + f = f + 1 by omega]
    simp only [f_X10_onePhase_L22, ↓hbind gR_168_9, ↓hbind mr_h0, ↓hbind mh_a0_0, e0, c, ↓reduceIte, f_X10_onePhase_J114]
  | k + 1, w, ν, s, h, hS, hL, h27, i2, i3, h20, h21, h22, h23, hI => by
    have hn := hO.1
    have hE := hO.Eb
    have e0 : ν.1 172 0 = Int32.ofNat n := hS.1.1
    have c : (Int32.ofNat w ≥ Int32.ofNat n) = False := by rw [oN_ge (by omega) (by omega)]; exact eq_false (by omega)
    have hw : w < 12 := by omega
    have ef := m_isFree0 hS hw
    have nx := ph1_I (lt := lr) hE hI
    show ∃ ξ, _ ∧ _ ∧ MS ξ n m Wt Tt E (phF E lw lr k (w + 1) (ph1 E lw lr w s)).1 ∧ _ ∧ ξ.1 168 21 = Int32.ofNat (phF E lw lr k (w + 1) (ph1 E lw lr w s)).2.2.1 ∧ ξ.1 168 22 = Int32.ofNat (if a = 0 then (phF E lw lr k (w + 1) (ph1 E lw lr w s)).2.2.1 else F0) ∧ ξ.1 168 23 = Int32.ofNat (phF E lw lr k (w + 1) (ph1 E lw lr w s)).2.2.2
    by_cases z : lw w = 0
    · obtain ⟨z1, z2⟩ := (hl w).mp z
      have fw := hI.2.2.2.1 w (Nat.le_refl w) z
      have et : (hb Wt w && decide (s.1 w = 12)) = true := by rw [z1, decide_eq_true fw]; rfl
      rw [et] at ef
      have eu := m_has (x := ν.1 168 26) (h := mem ν) (show w < 32 by omega)
      have un0 : hb (ν.1 168 26) w = false := by
        cases q : hb (ν.1 168 26) w with
        | false => rfl
        | true => have := i3 w hw q; omega
      rw [un0] at eu
      have ul := un_le s.2.1
      obtain ⟨ζ, r, er, b1, b2, b3, b4, b5⟩ := m_seeks (lw := lw) (lr := lr) (hO.M hI.1) 40 w s.2.1 ν (by omega) hw z1 hS hL h27 i2 (fun x => by omega)
      have hL1 : LyM ζ lw lr := hL.fr b1 fun q i a z => by unfold Fsk at z; omega
      have f1 : Fr FPm ν ζ := b1.mono fun q i z => by unfold Fsk at z; unfold FPm; omega
      have k20 : ζ.1 168 20 = Int32.ofNat (a + 1) := by rw [(b1 _ _ (by unfold Fsk; omega)).1]; exact h20
      have k21 : ζ.1 168 21 = Int32.ofNat s.2.2.1 := by rw [(b1 _ _ (by unfold Fsk; omega)).1]; exact h21
      have k22 : ζ.1 168 22 = Int32.ofNat (if a = 0 then s.2.2.1 else F0) := by rw [(b1 _ _ (by unfold Fsk; omega)).1]; exact h22
      have k23 : ζ.1 168 23 = Int32.ofNat s.2.2.2 := by rw [(b1 _ _ (by unfold Fsk; omega)).1]; exact h23
      rcases b5 with ⟨n1, rfl, n3⟩ | ⟨p, n1, rfl, n3, n4⟩
      · have ep : ph1 E lw lr w s = (s.1, (dsN E s.1 lw lr w s.2.1).1, s.2.2.1, s.2.2.2) := by unfold ph1; rw [if_pos z, n1]
        rw [ep] at nx ⊢
        obtain ⟨ξ, e2, f2, r2⟩ := m_ph hO hl ha k (w + 1) ζ (s.1, (dsN E s.1 lw lr w s.2.1).1, s.2.2.1, s.2.2.2) (by omega) (hS.sk b1 (fun q i a z => by unfold Fsk at z; omega) hI.1.1 n3) hL1 b2 b3 (fun v x y => by
          rcases b4 v x y with q | q | q
          · exact (i3 v x q).imp (by omega) id
          · exact Or.inl (by omega)
          · exact Or.inr q) k20 k21 k22 k23 nx
        refine ⟨ξ, fun f => ?_, f1.trans f2, r2⟩
        rw [show k + 1 + 1 + f = k + 1 + f + 1 by omega, ← e2 f]
        simp only [f_X10_onePhase_L22, ↓hbind gR_168_9, ↓hbind mr_h0, ↓hbind mh_a0_0, e0, c, ↓reduceIte, ↓hvc (fun _ => vc_168), ↓hbind ef, show bI true = 1 from rfl, z_1, ↓hbind gI_168_26, ↓hbind eu, show bI false = 0 from rfl, ↓hbind er, f_X10_onePhase_J108, lt_go, i_succ]
      · have ep : ph1 E lw lr w s = (updP s.1 p, (dsN E s.1 lw lr w s.2.1).1, s.2.2.1 + 1, 2 * p.length) := by unfold ph1; rw [if_pos z, n1]
        obtain ⟨p1, p2⟩ := dsN_path hE 12 w s.2.1 p ul n1
        obtain ⟨d1, _, _, d3⟩ := PV.doit hE hI.1 fw p1 p2
        rw [ep] at nx ⊢
        have nz : (Int32.ofNat (2 * p.length) = -1) = False := oN_n1 (by omega)
        obtain ⟨η, hd⟩ : ∃ x, x = st (st (st ζ 168 21 (Int32.ofNat (s.2.2.1 + 1))) 168 22 (Int32.ofNat (if a = 0 then s.2.2.1 + 1 else F0))) 168 23 (Int32.ofNat (2 * p.length)) := ⟨_, rfl⟩
        have f2 : Fr (fun q i => q = 168 ∧ (i = 21 ∨ i = 22 ∨ i = 23)) ζ η := by rw [hd]; exact (((Fr.refl _ _).st ⟨rfl, Or.inl rfl⟩).st ⟨rfl, Or.inr (Or.inl rfl)⟩).st ⟨rfl, Or.inr (Or.inr rfl)⟩
        have j21 : η.1 168 21 = Int32.ofNat (s.2.2.1 + 1) := by rw [hd, st_ne (Or.inr (by omega)), st_ne (Or.inr (by omega))]; exact st_same _ _ _ _
        have j22 : η.1 168 22 = Int32.ofNat (if a = 0 then s.2.2.1 + 1 else F0) := by rw [hd, st_ne (Or.inr (by omega))]; exact st_same _ _ _ _
        have j23 : η.1 168 23 = Int32.ofNat (2 * p.length) := by rw [hd]; exact st_same _ _ _ _
        have hS2 : MS η n m Wt Tt E (updP s.1 p) := hS.sk (f1.trans (f2.mono fun q i z => Or.inr (by omega))) (fun q i a z => by unfold FPm at z; omega) d1.1 (fun x hx => by rw [(f2 _ _ (by omega)).1]; exact n4 x hx)
        obtain ⟨ξ, e2, f3, r2⟩ := m_ph hO hl ha k (w + 1) η (updP s.1 p, (dsN E s.1 lw lr w s.2.1).1, s.2.2.1 + 1, 2 * p.length) (by omega) hS2 (hL1.fr f2 fun q i a z => by omega) (fun i => by rw [(f2 _ _ (by omega)).1]; exact b2 i) (fun v x y q => by
          rw [(f2 _ _ (by omega)).1] at y
          show (dsN E s.1 lw lr w s.2.1).1 (updP s.1 p v) = true
          rcases updP_or (M := s.1) p v with ⟨u, u1, u2⟩ | u
          · rw [u2]; exact (p2.mem u u1).2.2
          · have q : updP s.1 p v < 12 := q
            rw [u] at q ⊢
            exact b3 v x y q) (fun v x y => by
          rw [(f2 _ _ (by omega)).1] at y
          show v < w + 1 ∨ updP s.1 p v < 12
          have le := d1.1.1 v
          by_cases u : updP s.1 p v = 12
          · obtain ⟨u1, u2⟩ := (d3 v).mp u
            rcases b4 v x y with q | q | q
            · rcases i3 v x q with q | q
              · exact Or.inl (by omega)
              · omega
            · omega
            · omega
          · exact Or.inr (by omega)) (by rw [(f2 _ _ (by omega)).1]; exact k20) j21 j22 j23 nx
        refine ⟨ξ, fun f => ?_, (f1.trans (f2.mono fun q i z => Or.inr (by omega))).trans f3, r2⟩
        rw [show k + 1 + 1 + f = k + 1 + f + 1 by omega, ← e2 f, hd]
        have kk20 : (st ζ 168 21 (Int32.ofNat (s.2.2.1 + 1))).1 168 20 = Int32.ofNat (a + 1) := by rw [st_ne (Or.inr (by omega))]; exact k20
        have kk22 : (st ζ 168 21 (Int32.ofNat (s.2.2.1 + 1))).1 168 22 = Int32.ofNat (if a = 0 then s.2.2.1 else F0) := by rw [st_ne (Or.inr (by omega))]; exact k22
        by_cases y : a = 0
        · have c1 : (Int32.ofNat (a + 1) = 1) = True := by rw [y]; exact eq_true rfl
          rw [if_pos y] at kk22 ⊢
          simp only [f_X10_onePhase_L22, ↓hbind gR_168_9, ↓hbind mr_h0, ↓hbind mh_a0_0, e0, c, ↓reduceIte, ↓hvc (fun _ => vc_168), ↓hbind ef, show bI true = 1 from rfl, z_1, ↓hbind gI_168_26, ↓hbind eu, show bI false = 0 from rfl, ↓hbind er, nz, ↓hbind gI_168_21, k21, i_succ, ↓hbind pI_168_21, ↓hbind gI_168_22, kk22, ↓hbind gI_168_20, kk20, c1, f_X10_onePhase_J99, ↓hbind pI_168_22, ↓hbind pI_168_23, f_X10_onePhase_J108, lt_go]
        · have c1 : (Int32.ofNat (a + 1) = 1) = False := by rw [show (1 : Int32) = Int32.ofNat 1 from rfl, oN_inj (by omega) (by omega)]; exact eq_false (by omega)
          rw [if_neg y] at kk22 ⊢
          simp only [f_X10_onePhase_L22, ↓hbind gR_168_9, ↓hbind mr_h0, ↓hbind mh_a0_0, e0, c, ↓reduceIte, ↓hvc (fun _ => vc_168), ↓hbind ef, show bI true = 1 from rfl, z_1, ↓hbind gI_168_26, ↓hbind eu, show bI false = 0 from rfl, ↓hbind er, nz, ↓hbind gI_168_21, k21, i_succ, ↓hbind pI_168_21, ↓hbind gI_168_22, kk22, ↓hbind gI_168_20, kk20, c1, f_X10_onePhase_J99, add_0', ↓hbind pI_168_22, ↓hbind pI_168_23, f_X10_onePhase_J108, lt_go]
    · have ep : ph1 E lw lr w s = s := by unfold ph1; rw [if_neg z]
      have et : (hb Wt w && decide (s.1 w = 12)) = false := by
        cases q : hb Wt w with
        | false => rfl
        | true =>
          have : ¬ s.1 w = 12 := fun y => z ((hl w).mpr ⟨q, (hI.2.2.2.2.1 w (Nat.le_refl w)).mp y⟩)
          rw [decide_eq_false this]; rfl
      rw [et] at ef
      rw [ep] at nx ⊢
      obtain ⟨ξ, e2, f2, r2⟩ := m_ph hO hl ha k (w + 1) ν s (by omega) hS hL h27 i2 (fun v x y => (i3 v x y).imp (by omega) id) h20 h21 h22 h23 nx
      refine ⟨ξ, fun f => ?_, f2, r2⟩
      rw [show k + 1 + 1 + f = k + 1 + f + 1 by omega, ← e2 f]
      simp only [f_X10_onePhase_L22, ↓hbind gR_168_9, ↓hbind mr_h0, ↓hbind mh_a0_0, e0, c, ↓reduceIte, ↓hvc (fun _ => vc_168), ↓hbind ef, show bI false = 0 from rfl, f_X10_onePhase_J108, lt_go, i_succ]
end Mh
