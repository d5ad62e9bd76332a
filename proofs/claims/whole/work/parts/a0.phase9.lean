/-! THE MODEL: a way sought deep first -/
def Fsk (q i : Nat) : Prop := (q = 168 ∧ (i = 26 ∨ i = 27)) ∨ q = 210
def SkP (E : Nat → Nat → Bool) (M : Nat → Nat) (w : Nat) (S : SB) (ν : MM) (R : DR) (ξ : MM) (r : Int32) : Prop :=
  Fr Fsk ν ξ ∧ (∀ i, hb (ξ.1 168 27) i = R.1 i) ∧ (∀ v, v < 12 → hb (ξ.1 168 26) v = true → M v < 12 → R.1 (M v) = true) ∧ (∀ v, v < 12 → hb (ξ.1 168 26) v = true → hb (ν.1 168 26) v = true ∨ v = w ∨ M v < 12) ∧
  ((R.2 = none ∧ r = -1 ∧ ∀ x, x < 12 → ξ.1 210 x = eI (M x)) ∨ ∃ p, R.2 = some p ∧ r = Int32.ofNat (2 * p.length) ∧ p.length + un R.1 ≤ un S ∧ ∀ x, x < 12 → ξ.1 210 x = eI (updP M p x))
section Mk
variable {μ : MM} {n m : Nat} {Wt Tt : Int32} {E : Nat → Nat → Bool} {M : Nat → Nat} {lw lr : LA}
theorem MS.sk {ν : MM} {M' : Nat → Nat} {P : Nat → Nat → Prop} (h : MS μ n m Wt Tt E M) (f : Fr P μ ν) (hp : ∀ q i, q = 172 ∨ q = 191 → ¬ P q i) (hM : Mt M') (c : ∀ x, x < 12 → ν.1 210 x = eI (M' x)) : MS ν n m Wt Tt E M' := by
  obtain ⟨⟨h1, h2, h3, h4⟩, h5, h6, h7⟩ := h
  refine ⟨⟨?_, ?_, ?_, ?_⟩, fun w hw k => ?_, hM, c⟩
  · rw [(f _ _ (hp _ _ (Or.inl rfl))).1]; exact h1
  · rw [(f _ _ (hp _ _ (Or.inl rfl))).1]; exact h2
  · rw [(f _ _ (hp _ _ (Or.inl rfl))).1]; exact h3
  · rw [(f _ _ (hp _ _ (Or.inl rfl))).1]; exact h4
  · rw [(f _ _ (hp _ _ (Or.inr rfl))).1]; exact h5 w hw k
theorem LyM.fr {ν : MM} {P : Nat → Nat → Prop} (h : LyM μ lw lr) (f : Fr P μ ν) (hp : ∀ q i, q = 484 ∨ q = 485 → ¬ P q i) : LyM ν lw lr :=
  ⟨fun w hw => by rw [(f _ _ (hp _ _ (Or.inl rfl))).1]; exact h.1 w hw, fun t ht => by rw [(f _ _ (hp _ _ (Or.inr rfl))).1]; exact h.2 t ht⟩
/-- as far as a task that is looked at -/
theorem ms_a {rec : Nat → Int32 → xH → Option (Int32 × xH)} {K1 : Nat → Int32 → Int32 → Int32 → xH → Option (Int32 × xH)} {K2 : xH → Option (Int32 × xH)} {ν : MM} {w j : Nat} {y : Int32} (hw : w < 12) (hj : j < 12) (jm : j < m) (h12 : m ≤ 12) (e1 : ν.1 172 1 = Int32.ofNat m) (ey : f_X10_openTo 168 (Int32.ofNat w) (mem ν) = some (y, mem ν)) (eh : f_X10_has y (Int32.ofNat j) (mem ν) = some (1, mem ν)) (es : f_X10_has (ν.1 168 27) (Int32.ofNat j) (mem ν) = some (0, mem ν)) (v : ν.1 485 j = ν.1 484 w + 1) (F : Nat) : f_X10_seeks_L14 rec K1 K2 (F + 1) 168 (Int32.ofNat w) (Int32.ofNat j) (mem ν) =
    ((pI (mem ν) 10 168 27 (ν.1 168 27 ||| ((1 : Int32) <<< (Int32.ofNat j &&& 31)))).bind fun h13 =>
            (vc h13 10 168 (f_X10_partnerOf 168 (1 : Int32) (Int32.ofNat j) h13)).bind fun r14 =>
            if r14.1 = (-1 : Int32) then
              f_X10_seeks_J135 rec (f_X10_seeks_L14 rec K1 K2 F) K1 K2 168 (Int32.ofNat w) (Int32.ofNat j) (0 : Int32) r14.2
            else
              (gR r14.2 10 168 24).bind fun v15 =>
              (aI r14.2 v15 r14.1).bind fun v16 =>
              (gR r14.2 10 168 24).bind fun v17 =>
              (aI r14.2 v17 (Int32.ofNat w)).bind fun v18 =>
              if v16 = (v18 + (2 : Int32)) then
                (gI r14.2 10 168 26).bind fun v19 =>
                (f_X10_has v19 r14.1 r14.2).bind fun r20 =>
                if r20.1 = (0 : Int32) then
                  (vc r20.2 10 168 (rec 168 r14.1 r20.2)).bind fun r21 =>
                  f_X10_seeks_J133 rec (f_X10_seeks_L14 rec K1 K2 F) K1 K2 168 (Int32.ofNat w) (Int32.ofNat j) r21.1 r21.2
                else
                  f_X10_seeks_J132 rec (f_X10_seeks_L14 rec K1 K2 F) K1 K2 168 (Int32.ofNat w) (Int32.ofNat j) r20.2
              else
                f_X10_seeks_J132 rec (f_X10_seeks_L14 rec K1 K2 F) K1 K2 168 (Int32.ofNat w) (Int32.ofNat j) r14.2) := by
  have c : (Int32.ofNat j ≥ Int32.ofNat m) = False := by rw [oN_ge (by omega) (by omega)]; exact eq_false (by omega)
  have v' : (ν.1 485 j = ν.1 484 w + 1) = True := eq_true v
  simp only [f_X10_seeks_L14, ↓hbind gR_168_9, ↓hbind mr_h0, ↓hbind mh_a0_1, e1, c, ↓reduceIte, ↓hvc (fun _ => vc_168), ↓hbind ey, ↓hbind eh, z_1, ↓hbind gI_168_27, ↓hbind es, ↓hbind gR_168_25, ↓hbind (aI_485 hj), ↓hbind gR_168_24, ↓hbind (aI_484 hw), v']
/-- behind its mark -/
theorem ms_b {rec : Nat → Int32 → xH → Option (Int32 × xH)} {K1 : Nat → Int32 → Int32 → Int32 → xH → Option (Int32 × xH)} {K2 : xH → Option (Int32 × xH)} {H : Nat → Int32 → Int32 → xH → Option (Int32 × xH)} {ν : MM} {w j o : Nat} (hw : w < 12) (ho : o < 12) (ep : f_X10_partnerOf 168 1 (Int32.ofNat j) (mem ν) = some (Int32.ofNat o, mem ν)) (c : ν.1 484 o = ν.1 484 w + 2) (eh : f_X10_has (ν.1 168 26) (Int32.ofNat o) (mem ν) = some (0, mem ν)) : ((vc (mem ν) 10 168 (f_X10_partnerOf 168 (1 : Int32) (Int32.ofNat j) (mem ν))).bind fun r14 =>
            if r14.1 = (-1 : Int32) then
              f_X10_seeks_J135 rec H K1 K2 168 (Int32.ofNat w) (Int32.ofNat j) (0 : Int32) r14.2
            else
              (gR r14.2 10 168 24).bind fun v15 =>
              (aI r14.2 v15 r14.1).bind fun v16 =>
              (gR r14.2 10 168 24).bind fun v17 =>
              (aI r14.2 v17 (Int32.ofNat w)).bind fun v18 =>
              if v16 = (v18 + (2 : Int32)) then
                (gI r14.2 10 168 26).bind fun v19 =>
                (f_X10_has v19 r14.1 r14.2).bind fun r20 =>
                if r20.1 = (0 : Int32) then
                  (vc r20.2 10 168 (rec 168 r14.1 r20.2)).bind fun r21 =>
                  f_X10_seeks_J133 rec H K1 K2 168 (Int32.ofNat w) (Int32.ofNat j) r21.1 r21.2
                else
                  f_X10_seeks_J132 rec H K1 K2 168 (Int32.ofNat w) (Int32.ofNat j) r20.2
              else
                f_X10_seeks_J132 rec H K1 K2 168 (Int32.ofNat w) (Int32.ofNat j) r14.2) =
    (rec 168 (Int32.ofNat o) (mem ν)).bind fun r21 => f_X10_seeks_J133 rec H K1 K2 168 (Int32.ofNat w) (Int32.ofNat j) r21.1 r21.2 := by
  have nz : (Int32.ofNat o = -1) = False := oN_n1 (by omega)
  have c' : (ν.1 484 o = ν.1 484 w + 2) = True := eq_true c
  simp only [↓hvc (fun _ => vc_168), ↓hbind ep, nz, ↓reduceIte, ↓hbind gR_168_24, ↓hbind (aI_484 ho), ↓hbind (aI_484 hw), c', ↓hbind gI_168_26, ↓hbind eh]
theorem m_seeks (hO : SOK n m Wt E M) : ∀ (d w : Nat) (S : SB) (ν : MM), un S < d → w < 12 → hb Wt w = true → MS ν n m Wt Tt E M → LyM ν lw lr → (∀ i, hb (ν.1 168 27) i = S i) → (∀ v, v < 12 → hb (ν.1 168 26) v = true → M v < 12 → S (M v) = true) → (M w < 12 → S (M w) = true) → ∃ ξ r, f_X10_seeks d 168 (Int32.ofNat w) (mem ν) = some (r, mem ξ) ∧ SkP E M w S ν (dsN E M lw lr w S) ξ r := by
  have hE := hO.Eb
  have hm := hO.2.1
  have hM := hO.2.2.2.2
  intro d
  induction d with
  | zero => intro w S ν h; exact absurd h (Nat.not_lt_zero _)
  | succ d ih =>
    intro w S ν hu hw hwW hS hL hs i2 i1
    have loop : ∀ (k j : Nat) (S : SB) (ν : MM), j + k = 12 → un S < d + 1 → MS ν n m Wt Tt E M → LyM ν lw lr → (∀ i, hb (ν.1 168 27) i = S i) → (∀ v, v < 12 → hb (ν.1 168 26) v = true → M v < 12 → S (M v) = true) → (M w < 12 → S (M w) = true) → ∃ ξ r, (∀ F, f_X10_seeks_L14 (f_X10_seeks d) (f_X10_seeks_J144 (f_X10_seeks d)) (f_X10_seeks_J164 (f_X10_seeks d)) (k + 1 + F) 168 (Int32.ofNat w) (Int32.ofNat j) (mem ν) = some (r, mem ξ)) ∧ SkP E M w S ν (dsL E M lw lr (dsN E M lw lr) w k j S) ξ r := by
      intro k
      induction k with
      | zero =>
        intro j S ν h hu hS hL hs i2 i1
        have e1 : ν.1 172 1 = Int32.ofNat m := hS.1.2.1
        have c : (Int32.ofNat j ≥ Int32.ofNat m) = True := by rw [oN_ge (by omega) (by omega)]; exact eq_true (by omega)
        refine ⟨ν, -1, fun F => ?_, Fr.refl _ _, hs, i2, fun v _ z => Or.inl z, Or.inl ⟨rfl, rfl, hS.2.2.2⟩⟩
        rw [show 0 + 1 + F = F + 1 by omega]
        simp only [f_X10_seeks_L14, ↓hbind gR_168_9, ↓hbind mr_h0, ↓hbind mh_a0_1, e1, c, ↓reduceIte, f_X10_seeks_J164]
      | succ k ihk =>
        intro j S ν h hu hS hL hs i2 i1
        have hj : j < 12 := by omega
        have e1 : ν.1 172 1 = Int32.ofNat m := hS.1.2.1
        by_cases jm : j < m
        · have c : (Int32.ofNat j ≥ Int32.ofNat m) = False := by rw [oN_ge (by omega) (by omega)]; exact eq_false (by omega)
          obtain ⟨y, ey, hy⟩ := m_openTo hE hS hw hwW
          have eh := m_has (x := y) (h := mem ν) (show j < 32 by omega)
          have es := m_has (x := ν.1 168 27) (h := mem ν) (show j < 32 by omega)
          rw [hy j (by omega)] at eh
          rw [hs j] at es
          have e4 : ν.1 484 w = lw w := hL.1 w hw
          have e5 : ν.1 485 j = lr j := hL.2 j hj
          have skip : qd E lw lr w j S = false → (∀ F, f_X10_seeks_L14 (f_X10_seeks d) (f_X10_seeks_J144 (f_X10_seeks d)) (f_X10_seeks_J164 (f_X10_seeks d)) (k + 1 + 1 + F) 168 (Int32.ofNat w) (Int32.ofNat j) (mem ν) = f_X10_seeks_L14 (f_X10_seeks d) (f_X10_seeks_J144 (f_X10_seeks d)) (f_X10_seeks_J164 (f_X10_seeks d)) (k + 1 + F) 168 (Int32.ofNat w) (Int32.ofNat (j + 1)) (mem ν)) → ∃ ξ r, (∀ F, f_X10_seeks_L14 (f_X10_seeks d) (f_X10_seeks_J144 (f_X10_seeks d)) (f_X10_seeks_J164 (f_X10_seeks d)) (k + 1 + 1 + F) 168 (Int32.ofNat w) (Int32.ofNat j) (mem ν) = some (r, mem ξ)) ∧ SkP E M w S ν (dsL E M lw lr (dsN E M lw lr) w (k + 1) j S) ξ r := fun q g => by
            obtain ⟨ξ, r, a, b⟩ := ihk (j + 1) S ν (by omega) hu hS hL hs i2 i1
            refine ⟨ξ, r, fun F => by rw [g, a], ?_⟩
            rw [dsL, if_neg (by rw [q]; simp)]
            exact b
          cases q : (E w j && decide (M w ≠ j)) with
          | false =>
            rw [q] at eh
            refine skip ?_ (fun F => ?_)
            · cases e : E w j with
              | false => unfold qd; rw [e]; rfl
              | true =>
                rw [e] at q
                have mj : M w = j := by simpa using q
                exact qd_ins (by rw [← mj]; exact i1 (by omega))
            · rw [show k + 1 + 1 + F = k + 1 + F + 1 by omega]
              simp only [f_X10_seeks_L14, ↓hbind gR_168_9, ↓hbind mr_h0, ↓hbind mh_a0_1, e1, c, ↓reduceIte, ↓hvc (fun _ => vc_168), ↓hbind ey, ↓hbind eh, show bI false = 0 from rfl, f_X10_seeks_J158, lt_go, i_succ]
          | true =>
            rw [q] at eh
            have eij : E w j = true := ((Bool.and_eq_true _ _).mp q).1
            cases sj : S j with
            | true =>
              rw [sj] at es
              refine skip (qd_ins sj) (fun F => ?_)
              rw [show k + 1 + 1 + F = k + 1 + F + 1 by omega]
              simp only [f_X10_seeks_L14, ↓hbind gR_168_9, ↓hbind mr_h0, ↓hbind mh_a0_1, e1, c, ↓reduceIte, ↓hvc (fun _ => vc_168), ↓hbind ey, ↓hbind eh, show bI true = 1 from rfl, z_1, ↓hbind gI_168_27, ↓hbind es, f_X10_seeks_J158, lt_go, i_succ]
            | false =>
              rw [sj] at es
              by_cases l : lr j = lw w + 1
              · have qt : qd E lw lr w j S = true := by unfold qd; rw [eij, sj, decide_eq_true l]; rfl
                have u1 := un_ins hj sj
                have es0 : f_X10_has (ν.1 168 27) (Int32.ofNat j) (mem ν) = some (0, mem ν) := es
                have eh1 : f_X10_has y (Int32.ofNat j) (mem ν) = some (1, mem ν) := eh
                have go := fun F => ms_a (rec := f_X10_seeks d) (K1 := f_X10_seeks_J144 (f_X10_seeks d)) (K2 := f_X10_seeks_J164 (f_X10_seeks d)) hw hj jm hm e1 ey eh1 es0 (by rw [e5, e4]; exact l) F
                obtain ⟨ν1, hd⟩ : ∃ z, z = st ν 168 27 (ν.1 168 27 ||| ((1 : Int32) <<< (Int32.ofNat j &&& 31))) := ⟨_, rfl⟩
                have f1 : Fr Fsk ν ν1 := by rw [hd]; exact (Fr.refl _ _).st (Or.inl ⟨rfl, Or.inr rfl⟩)
                have f1' : Fr (fun q i => q = 168 ∧ i = 27) ν ν1 := by rw [hd]; exact (Fr.refl _ _).st ⟨rfl, rfl⟩
                have ep1 : pI (mem ν) 10 168 27 (ν.1 168 27 ||| ((1 : Int32) <<< (Int32.ofNat j &&& 31))) = some (mem ν1) := by rw [hd]; exact pI_168_27
                have s1 : ∀ i, hb (ν1.1 168 27) i = ins S j i := fun i => by
                  rw [hd, st_same, hb_or, hb_bit i (by omega), hs i]; rfl
                have u26 : ν1.1 168 26 = ν.1 168 26 := (f1' _ _ (by omega)).1
                have hS1 := hS.ll f1' (fun q i a z => by omega)
                have hL1 := hL.fr f1' (fun q i a z => by omega)
                have mo : ∀ i, S i = true → ins S j i = true := fun i z => by unfold ins; rw [z]; rfl
                have sjj : ins S j j = true := by unfold ins; simp
                have i2' : ∀ v, v < 12 → hb (ν1.1 168 26) v = true → M v < 12 → ins S j (M v) = true := fun v a b e => mo _ (i2 v a (by rw [← u26]; exact b) e)
                have i1' : M w < 12 → ins S j (M w) = true := fun a => mo _ (i1 a)
                have ep := m_partner1 hS1 hj
                -- on with the next task
                have on : ∀ (S2 : SB) (ζ : MM), un S2 ≤ un (ins S j) → Fr Fsk ν ζ → MS ζ n m Wt Tt E M → LyM ζ lw lr → (∀ i, hb (ζ.1 168 27) i = S2 i) → (∀ v, v < 12 → hb (ζ.1 168 26) v = true → M v < 12 → S2 (M v) = true) → (M w < 12 → S2 (M w) = true) → (∀ v, v < 12 → hb (ζ.1 168 26) v = true → hb (ν.1 168 26) v = true ∨ v = w ∨ M v < 12) → dsL E M lw lr (dsN E M lw lr) w (k + 1) j S = dsL E M lw lr (dsN E M lw lr) w k (j + 1) S2 → (∀ F, f_X10_seeks_L14 (f_X10_seeks d) (f_X10_seeks_J144 (f_X10_seeks d)) (f_X10_seeks_J164 (f_X10_seeks d)) (k + 1 + F + 1) 168 (Int32.ofNat w) (Int32.ofNat j) (mem ν) = f_X10_seeks_L14 (f_X10_seeks d) (f_X10_seeks_J144 (f_X10_seeks d)) (f_X10_seeks_J164 (f_X10_seeks d)) (k + 1 + F) 168 (Int32.ofNat w) (Int32.ofNat (j + 1)) (mem ζ)) → ∃ ξ r, (∀ F, f_X10_seeks_L14 (f_X10_seeks d) (f_X10_seeks_J144 (f_X10_seeks d)) (f_X10_seeks_J164 (f_X10_seeks d)) (k + 1 + 1 + F) 168 (Int32.ofNat w) (Int32.ofNat j) (mem ν) = some (r, mem ξ)) ∧ SkP E M w S ν (dsL E M lw lr (dsN E M lw lr) w (k + 1) j S) ξ r := fun S2 ζ us fz a1 a2 a3 a4 a5 a6 de g => by
                  obtain ⟨ξ, r, a, b1, b2, b3, b4, b5⟩ := ihk (j + 1) S2 ζ (by omega) (by omega) a1 a2 a3 a4 a5
                  refine ⟨ξ, r, fun F => by rw [show k + 1 + 1 + F = k + 1 + F + 1 by omega, g, a], fz.trans b1, ?_⟩
                  rw [de]
                  refine ⟨b2, b3, fun v x y => ?_, b5.imp id fun ⟨p, c1, c2, c3, c4⟩ => ⟨p, c1, c2, by omega, c4⟩⟩
                  rcases b4 v x y with z | z
                  · exact a6 v x z
                  · exact Or.inr z
                by_cases o : ow M j = 12
                · rw [o, eI_ge (Nat.le_refl 12)] at ep
                  have zn : ((0 : Int32) = -1) = False := eq_false (by decide)
                  have de : dsL E M lw lr (dsN E M lw lr) w (k + 1) j S = (ins S j, some [(w, j)]) := by
                    rw [dsL, if_pos qt, if_pos o]
                  refine ⟨st ν1 210 w (Int32.ofNat j), 2, fun F => ?_, f1.st (Or.inr rfl), ?_⟩
                  · rw [show k + 1 + 1 + F = k + 1 + F + 1 by omega, go, hbind ep1]
                    simp only [↓hvc (fun _ => vc_168), ↓hbind ep, ↓reduceIte, f_X10_seeks_J135, zn, f_X10_seeks_J144, ↓hbind gR_168_11, ↓hbind mr_m0, ↓hbind (ms_m0 hw)]
                    rfl
                  · rw [de]
                    refine ⟨fun i => by rw [st_ne (Or.inl (by omega))]; exact s1 i, fun v a b e => by rw [st_ne (Or.inl (by omega))] at b; exact i2' v a b e, fun v a b => by rw [st_ne (Or.inl (by omega)), u26] at b; exact Or.inl b, Or.inr ⟨[(w, j)], rfl, rfl, ?_, fun x hx => ?_⟩⟩
                    · show 1 + un (ins S j) ≤ un S; omega
                    · show _ = eI (up M w j x)
                      by_cases z : x = w
                      · rw [z, st_same, up_same, eI_lt hj]
                      · rw [st_ne (Or.inr z), up_ne z]; exact hS1.2.2.2 x hx
                · have o2 : ow M j < 12 := by have := ow_le M j; omega
                  have om := ow_M o2
                  rw [eI_lt o2] at ep
                  have e6 : ν1.1 484 (ow M j) = lw (ow M j) := hL1.1 _ o2
                  have e7 : ν1.1 484 w = lw w := hL1.1 _ hw
                  have add2 : lw w + 2 = lw w + 1 + 1 := by rw [Int32.add_assoc]; rfl
                  by_cases ll : lw (ow M j) = lr j + 1
                  · have c2 : ν1.1 484 (ow M j) = ν1.1 484 w + 2 := by rw [e6, e7, ll, l, add2]
                    have hno : hb (ν1.1 168 26) (ow M j) = false := by
                      rw [u26]
                      cases z : hb (ν.1 168 26) (ow M j) with
                      | false => rfl
                      | true =>
                        have := i2 _ o2 z (by rw [om]; exact hj)
                        rw [om, sj] at this; cases this
                    have eu := m_has (x := ν1.1 168 26) (h := mem ν1) (show ow M j < 32 by omega)
                    rw [hno] at eu
                    have wo : hb Wt (ow M j) = true := by
                      have := hM.2 (ow M j) (by rw [om]; exact hj)
                      exact (hO.2.2.1 _ _ this).2.2
                    obtain ⟨ζ, r, er, b1, b2, b3, b4, b5⟩ := ih (ow M j) (ins S j) ν1 (by omega) o2 wo hS1 hL1 s1 i2' (fun _ => by rw [om]; exact sjj)
                    have b4' : ∀ v, v < 12 → hb (ζ.1 168 26) v = true → hb (ν.1 168 26) v = true ∨ v = w ∨ M v < 12 := fun v x y => by
                      rcases b4 v x y with z | z | z
                      · rw [u26] at z; exact Or.inl z
                      · exact Or.inr (Or.inr (by rw [z, om]; exact hj))
                      · exact Or.inr (Or.inr z)
                    rcases b5 with ⟨n1, rfl, n3⟩ | ⟨p, n1, rfl, n3, n4⟩
                    · refine on (dsN E M lw lr (ow M j) (ins S j)).1 ζ (un_mono (dsN_mono _ _)) (f1.trans b1) (hS1.sk b1 (fun q i a z => by unfold Fsk at z; omega) hM.1 n3) (hL1.fr b1 (fun q i a z => by unfold Fsk at z; omega)) b2 b3 (fun a => dsN_mono _ _ _ (i1' a)) b4' ?_ (fun F => ?_)
                      · rw [dsL, if_pos qt, if_neg o, if_pos ll, n1]
                      · rw [go, hbind ep1, ms_b hw o2 ep c2 eu, hbind er]
                        simp only [f_X10_seeks_J133, f_X10_seeks_J135, ↓reduceIte, f_X10_seeks_J158, lt_go, i_succ]
                    · have pl : p.length ≤ 12 := by have := un_le (ins S j); omega
                      have nz : (Int32.ofNat (2 * p.length) = -1) = False := oN_n1 (by omega)
                      have de : dsL E M lw lr (dsN E M lw lr) w (k + 1) j S = ((dsN E M lw lr (ow M j) (ins S j)).1, some ((w, j) :: p)) := by
                        rw [dsL, if_pos qt, if_neg o, if_pos ll, n1]
                      have i2e : Int32.ofNat (2 * p.length) + 2 = Int32.ofNat (2 * (p.length + 1)) := by rw [show (2 : Int32) = Int32.ofNat 2 from rfl, oN_add, show 2 * p.length + 2 = 2 * (p.length + 1) by omega]
                      refine ⟨st ζ 210 w (Int32.ofNat j), Int32.ofNat (2 * (p.length + 1)), fun F => ?_, (f1.trans b1).st (Or.inr rfl), ?_⟩
                      · rw [show k + 1 + 1 + F = k + 1 + F + 1 by omega, go, hbind ep1, ms_b hw o2 ep c2 eu, hbind er]
                        simp only [f_X10_seeks_J133, f_X10_seeks_J135, nz, ↓reduceIte, f_X10_seeks_J144, ↓hbind gR_168_11, ↓hbind mr_m0, ↓hbind (ms_m0 hw), i2e]
                      · rw [de]
                        refine ⟨fun i => by rw [st_ne (Or.inl (by omega))]; exact b2 i, fun v a b e => by rw [st_ne (Or.inl (by omega))] at b; exact b3 v a b e, fun v a b => by rw [st_ne (Or.inl (by omega))] at b; exact b4' v a b, Or.inr ⟨(w, j) :: p, rfl, rfl, ?_, fun x hx => ?_⟩⟩
                        · show p.length + 1 + un (dsN E M lw lr (ow M j) (ins S j)).1 ≤ un S; omega
                        · show _ = eI (up (updP M p) w j x)
                          by_cases z : x = w
                          · rw [z, st_same, up_same, eI_lt hj]
                          · rw [st_ne (Or.inr z), up_ne z]; exact n4 x hx
                  · have c2 : (ν1.1 484 (ow M j) = ν1.1 484 w + 2) = False := by
                      rw [e6, e7, add2, ← l]; exact eq_false ll
                    have nz : (Int32.ofNat (ow M j) = -1) = False := oN_n1 (by omega)
                    refine on (ins S j) ν1 (Nat.le_refl _) f1 hS1 hL1 s1 i2' i1' (fun v x y => by rw [u26] at y; exact Or.inl y) ?_ (fun F => ?_)
                    · rw [dsL, if_pos qt, if_neg o, if_neg ll]
                    · rw [go, hbind ep1]
                      simp only [↓hvc (fun _ => vc_168), ↓hbind ep, nz, ↓reduceIte, ↓hbind gR_168_24, ↓hbind (aI_484 o2), ↓hbind (aI_484 hw), c2, f_X10_seeks_J132, f_X10_seeks_J133, f_X10_seeks_J135, f_X10_seeks_J158, lt_go, i_succ]
              · refine skip (by unfold qd; rw [decide_eq_false l]; simp) (fun F => ?_)
                have l' : (ν.1 485 j = ν.1 484 w + 1) = False := by rw [e5, e4]; exact eq_false l
                rw [show k + 1 + 1 + F = k + 1 + F + 1 by omega]
                simp only [f_X10_seeks_L14, ↓hbind gR_168_9, ↓hbind mr_h0, ↓hbind mh_a0_1, e1, c, ↓reduceIte, ↓hvc (fun _ => vc_168), ↓hbind ey, ↓hbind eh, show bI true = 1 from rfl, z_1, ↓hbind gI_168_27, ↓hbind es, show bI false = 0 from rfl, ↓hbind gR_168_25, ↓hbind (aI_485 hj), ↓hbind gR_168_24, ↓hbind (aI_484 hw), l', f_X10_seeks_J158, lt_go, i_succ]
        · have c : (Int32.ofNat j ≥ Int32.ofNat m) = True := by rw [oN_ge (by omega) (by omega)]; exact eq_true (by omega)
          have de : dsL E M lw lr (dsN E M lw lr) w (k + 1) j S = (S, none) := by
            have := dsL_skip (E := E) (M := M) (lw := lw) (lt := lr) (rec := dsN E M lw lr) (w := w) (k + 1) 0 j S (fun i a b => by
              unfold qd
              cases z : E w i with
              | false => rfl
              | true => have := (hO.2.2.1 w i z).2.1; omega)
            exact this
          refine ⟨ν, -1, fun F => ?_, Fr.refl _ _, ?_⟩
          · rw [show k + 1 + 1 + F = k + 1 + F + 1 by omega]
            simp only [f_X10_seeks_L14, ↓hbind gR_168_9, ↓hbind mr_h0, ↓hbind mh_a0_1, e1, c, ↓reduceIte, f_X10_seeks_J164]
          · rw [de]
            exact ⟨hs, i2, fun v _ z => Or.inl z, Or.inl ⟨rfl, rfl, hS.2.2.2⟩⟩
    obtain ⟨ν1, hd⟩ : ∃ z, z = st ν 168 26 (ν.1 168 26 ||| ((1 : Int32) <<< (Int32.ofNat w &&& 31))) := ⟨_, rfl⟩
    have f1' : Fr (fun q i => q = 168 ∧ i = 26) ν ν1 := by rw [hd]; exact (Fr.refl _ _).st ⟨rfl, rfl⟩
    have f1 : Fr Fsk ν ν1 := f1'.mono fun q i z => Or.inl ⟨z.1, Or.inl z.2⟩
    have ub : ∀ v, v < 12 → hb (ν1.1 168 26) v = true → hb (ν.1 168 26) v = true ∨ v = w := fun v a b => by
      rw [hd, st_same, hb_or, hb_bit v (by omega)] at b
      simpa using b
    obtain ⟨ξ, r, a, b1, b2, b3, b4, b5⟩ := loop 12 0 S ν1 (by omega) hu (hS.ll f1' (fun q i a z => by omega)) (hL.fr f1' (fun q i a z => by omega)) (fun i => by rw [(f1' _ _ (by omega)).1]; exact hs i) (fun v x y z => by
      rcases ub v x y with e | e
      · exact i2 v x e z
      · rw [e] at z ⊢; exact i1 z) i1
    have a : f_X10_seeks_L14 (f_X10_seeks d) (f_X10_seeks_J144 (f_X10_seeks d)) (f_X10_seeks_J164 (f_X10_seeks d)) 5000 168 (Int32.ofNat w) 0 (mem ν1) = some (r, mem ξ) := a 4987
    refine ⟨ξ, r, ?_, f1.trans b1, ?_⟩
    · rw [hd] at a
      simp only [f_X10_seeks, f_X10_seeks_B, ↓hbind gI_168_26, ↓hbind pI_168_26, a]
    · rw [dsN_eq hE]
      refine ⟨b2, b3, fun v x y => ?_, b5⟩
      rcases b4 v x y with z | z
      · exact (ub v x z).imp id Or.inl
      · exact Or.inr z
end Mk
