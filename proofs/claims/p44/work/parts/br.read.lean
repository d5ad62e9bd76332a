/-! THE CLASS: a text read -/
variable {Ξ : xH}
section Rd
variable {μ ν : MM} {n p : Nat} {y : Nat → Nat} {B : Bk} {kr : Bool}
theorem c_lnEnd (hn : n ≤ 300) (hy : ∀ k, y k < 256) (hp : p ≤ n) (h : TC n y ν p B kr) : ∃ ξ r, f_X6_readEnd 139 ((mX Ξ) ν) = some (r, (mX Ξ) ξ) ∧ Fr FTx ν ξ ∧ OC n y ξ r (lnEnd n y (.ok p B kr)) := by
  show ∃ ξ r, _ ∧ _ ∧ OC n y ξ r (if skp n y p < n ∧ y (skp n y p) = 59 then .ok (skp n y p + 1) B kr else .er 1 (skp n y p))
  by_cases z : skp n y p < n ∧ y (skp n y p) = 59
  · rw [if_pos z]
    obtain ⟨ξ, a, b, g⟩ := c_end_ok (Ξ := Ξ) hn hy hp h.1 z.1 z.2
    exact ⟨ξ, 1, a, g.mono fun _ _ z => z.T, rfl, h.go b (g.mono fun q i z => by unfold F5 at z; unfold F56; omega)⟩
  · rw [if_neg z]
    obtain ⟨ξ, a, g, v1, v2⟩ := c_end_er (Ξ := Ξ) hn hy hp h.1 z
    exact ⟨ξ, 0, a, g.mono fun _ _ z => z.T, rfl, v1, v2⟩
/-- a line, and what goes on -/
theorem c_line (hn : n ≤ 300) (hy : ∀ k, y k < 256) (hp : p ≤ n) (hB : BOK B) (h : TC n y ν p B kr) : ∃ ξ r, (∀ (kH : Nat → Nat → Int32 → Int32 → xH → Option (Int32 × xH)) (kE : Nat → xH → Option (Int32 × xH)) (i : Nat), ((vc ((mX Ξ) ν) 6 139 (f_X6_readLine 139 9 ((mX Ξ) ν))).bind fun r2 =>
          if r2.1 = (0 : Int32) then
            f_X6_read_J77 kH kE 139 9 (Int32.ofNat i) r2.2
          else
            (vc r2.2 6 139 (f_X6_readEnd 139 r2.2)).bind fun r3 =>
            if r3.1 = (0 : Int32) then
              f_X6_read_J77 kH kE 139 9 (Int32.ofNat i) r3.2
            else
              f_X6_read_J78 kH kE 139 9 (Int32.ofNat i) (1 : Int32) r3.2) = kH 139 9 r (Int32.ofNat (i + 1)) ((mX Ξ) ξ)) ∧ Fr FTx ν ξ ∧ OC n y ξ r (line n y p B kr) := by
  obtain ⟨ζ, r, e1, f1, o1⟩ := c_ln1 (Ξ := Ξ) hn hy hp hB h
  have ok1 := ln1_ok (y := y) (kr := kr) hp hB
  unfold line
  rcases hR : ln1 n y p B kr with ⟨p1, B1, k1⟩ | ⟨a, q⟩
  rotate_left
  · rw [hR] at o1
    obtain ⟨r0, v1, v2⟩ := o1
    refine ⟨ζ, 0, fun kH kE i => ?_, f1, rfl, v1, v2⟩
    rw [r0] at e1
    simp only [↓hvc (fun _ => vc_139), ↓hbind e1, ↓reduceIte, f_X6_read_J77, f_X6_read_J78, lt_go, i_succ]
  · rw [hR] at o1 ok1
    obtain ⟨r0, t1⟩ := o1
    obtain ⟨ξ, r2, e2, f2, o2⟩ := c_lnEnd (Ξ := Ξ) hn hy ok1.2.1 t1
    refine ⟨ξ, r2, fun kH kE i => ?_, f1.trans f2, o2⟩
    rw [r0] at e1
    have cs : r2 = 0 ∨ r2 = 1 := by
      rcases hE : lnEnd n y (.ok p1 B1 k1) with ⟨a, b, d⟩ | ⟨a, q⟩
      · rw [hE] at o2; exact Or.inr o2.1
      · rw [hE] at o2; exact Or.inl o2.1
    rcases cs with rfl | rfl
    · simp only [↓hvc (fun _ => vc_139), ↓hbind e1, z_1, ↓reduceIte, ↓hbind e2, f_X6_read_J77, f_X6_read_J78, lt_go, i_succ]
    · simp only [↓hvc (fun _ => vc_139), ↓hbind e1, z_1, ↓reduceIte, ↓hbind e2, f_X6_read_J78, lt_go, i_succ]
/-- all lines -/
def OF (ξ : MM) (a : Nat) : Rs → Prop
  | .inl (_, B, _) => a = 0 ∧ BC ξ 9 B ∧ ξ.1 139 2 = -1
  | .inr (b, q) => a = b ∧ ξ.1 139 2 = Int32.ofNat q
theorem c_lines (hn : n ≤ 300) (hy : ∀ k, y k < 256) : ∀ (d i : Nat) (ν : MM) (r : Int32) (R : Rs), OC n y ν r R → ROK n i R → n + 1 ≤ i + d → i ≤ 301 → ∃ ξ a, (∀ f, f_X6_read_L39 f_X6_read_J85 (d + 1 + f) 139 9 r (Int32.ofNat i) ((mX Ξ) ν) = some (Int32.ofNat a, (mX Ξ) ξ)) ∧ Fr FTx ν ξ ∧ OF ξ a (lines n y d R)
  | d, i, ν, r, .inr (a, q), ho, hk, hd, h301 => by
    obtain ⟨r0, v1, v2⟩ := ho
    have el : lines n y d (.er a q) = .er a q := by cases d <;> rfl
    rw [el]
    refine ⟨ν, a, fun f => ?_, Fr.refl _ _, rfl, v2⟩
    rw [show d + 1 + f = d + f + 1 by omega]
    have c : (Int32.ofNat i ≥ 300) = (300 ≤ i) := lge_300 (by omega)
    by_cases z : 300 ≤ i
    · have c := c.trans (eq_true z)
      simp only [f_X6_read_L39, c, ↓reduceIte, f_X6_read_J85, ↓hbind gI_139_3, v1]
    · have c := c.trans (eq_false z)
      simp only [f_X6_read_L39, c, ↓reduceIte, r0, f_X6_read_J85, ↓hbind gI_139_3, v1]
  | 0, i, ν, r, .inl (p, B, k), ho, hk, hd, h301 => by
    have := hk.1
    have := hk.2.1
    omega
  | d + 1, i, ν, r, .inl (p, B, k), ho, hk, hd, h301 => by
    obtain ⟨r1, t⟩ := ho
    obtain ⟨h1, h2, h3⟩ := hk
    have l := skp_le (y := y) h2
    have el : lines n y (d + 1) (.ok p B k) = if skp n y p < n then lines n y d (line n y (skp n y p) B k) else .ok (skp n y p) B k := rfl
    have c : (Int32.ofNat i ≥ 300) = (300 ≤ i) := lge_300 (by omega)
    rw [el]
    by_cases z : skp n y p < n
    · rw [if_pos z]
      have c := c.trans (eq_false (by omega))
      obtain ⟨ν1, e1, r2, f1⟩ := c_more (Ξ := Ξ) hn hy h2 t.1
      rw [decide_eq_true z] at e1
      have t1 := t.go r2 (f1.mono fun q i z => by unfold F5 at z; unfold F56; omega)
      obtain ⟨ν2, r3, e2, f2, o2⟩ := c_line (Ξ := Ξ) hn hy l.2 h3 t1
      obtain ⟨ξ, a, e3, f3, o3⟩ := c_lines hn hy d (i + 1) ν2 r3 (line n y (skp n y p) B k) o2 ((line_ok l.2 h3).le (by omega)) (by omega) (by omega)
      refine ⟨ξ, a, fun f => ?_, ((f1.mono fun _ _ z => z.T).trans f2).trans f3, o3⟩
      have e2 := e2 (f_X6_read_L39 f_X6_read_J85 (d + 1 + f)) f_X6_read_J85 i
      rw [show d + 1 + 1 + f = d + 1 + f + 1 by omega, ← e3 f, ← e2, r1]
      simp only [f_X6_read_L39, c, z_1, ↓reduceIte, ↓hvc (fun _ => vc_139), ↓hbind e1, show bI true = 1 from rfl]
    · rw [if_neg z]
      by_cases x : 300 ≤ i
      · have c := c.trans (eq_true x)
        refine ⟨ν, 0, fun f => ?_, Fr.refl _ _, rfl, t.2.1, t.2.2.2.2⟩
        rw [show d + 1 + 1 + f = d + 1 + f + 1 by omega]
        simp only [f_X6_read_L39, c, ↓reduceIte, f_X6_read_J85, ↓hbind gI_139_3, t.2.2.2.1]
        rfl
      · have c := c.trans (eq_false x)
        obtain ⟨ν1, e1, r2, f1⟩ := c_more (Ξ := Ξ) hn hy h2 t.1
        rw [decide_eq_false z] at e1
        have t1 := t.go r2 (f1.mono fun q i z => by unfold F5 at z; unfold F56; omega)
        refine ⟨ν1, 0, fun f => ?_, f1.mono fun _ _ z => z.T, rfl, t1.2.1, t1.2.2.2.2⟩
        rw [show d + 1 + 1 + f = d + 1 + f + 1 by omega, r1]
        simp only [f_X6_read_L39, c, z_1, ↓reduceIte, ↓hvc (fun _ => vc_139), ↓hbind e1, show bI false = 0 from rfl, f_X6_read_J85, ↓hbind gI_139_3, t1.2.2.2.1]
        rfl
/-- a word that must stand -/
theorem c_readWord (hn : n ≤ 300) (hy : ∀ k, y k < 256) (hp : p ≤ n) (h : RP ν n y p) {j : Nat} (hj : j < 9) : ∃ ξ, f_X6_readWord 139 (1000003 + j) ((mX Ξ) ν) = some (bI (isW y (skp n y p) (sme n y (skp n y p)) (wdW j)), (mX Ξ) ξ) ∧ (isW y (skp n y p) (sme n y (skp n y p)) (wdW j) = true → RP ξ n y (sme n y (skp n y p)) ∧ Fr F56 ν ξ) ∧ (isW y (skp n y p) (sme n y (skp n y p)) (wdW j) = false → ξ.1 139 3 = 1 ∧ ξ.1 139 2 = Int32.ofNat (skp n y p)) ∧ Fr FTx ν ξ := by
  obtain ⟨ν1, e1, r1, s1, f1⟩ := c_takeWord (Ξ := Ξ) hn hy hp h
  have l1 := skp_le (y := y) hp
  have l2 := sme_le (y := y) l1.2
  have w := c_wordIs (Ξ := Ξ) hn hy (WD_j hj) (wdW_lt hj) r1 s1 l2.1 l2.2
  cases z : isW y (skp n y p) (sme n y (skp n y p)) (wdW j) with
  | true =>
    rw [z] at w
    refine ⟨ν1, ?_, fun _ => ⟨r1, f1⟩, fun x => (by cases x), f1.mono fun _ _ z => z.T⟩
    simp only [f_X6_readWord, ↓hvc (fun _ => vc_139), ↓hbind e1, ↓hbind w, show bI true = 1 from rfl, z_1, ↓reduceIte, f_X6_readWord_J24, f_X6_readWord_J29, j01_1, true_or, or_true]
  | false =>
    rw [z] at w
    obtain ⟨ζ, i1, i2, i3, i4⟩ := c_isFault (Ξ := Ξ) (ν := ν1) (a := 1) (q := Int32.ofNat (skp n y p))
    refine ⟨ζ, ?_, fun x => (by cases x), fun _ => ⟨i3, i4⟩, (f1.mono fun _ _ z => z.T).trans (i2.mono fun _ _ z => z.T)⟩
    simp only [f_X6_readWord, ↓hvc (fun _ => vc_139), ↓hbind e1, ↓hbind w, show bI false = 0 from rfl, ↓reduceIte, ↓hbind gI_139_6, s1, ↓hbind i1, f_X6_readWord_J29, j01_0, true_or, or_true]
def TH (ν : MM) : Prop := ν.1 139 7 = 0 ∧ ν.1 139 3 = 0 ∧ ν.1 139 2 = -1
theorem TH.go {ξ : MM} (h : TH ν) (f : Fr F56 ν ξ) : TH ξ := ⟨by rw [(f _ _ (by unfold F56; omega)).1]; exact h.1, by rw [(f _ _ (by unfold F56; omega)).1]; exact h.2.1, by rw [(f _ _ (by unfold F56; omega)).1]; exact h.2.2⟩
theorem c_head (hn : n ≤ 300) (hy : ∀ k, y k < 256) (h : RP ν n y 0) (hT : TH ν) : ∃ ξ r, f_X6_readHead 139 9 ((mX Ξ) ν) = some (r, (mX Ξ) ξ) ∧ Fr FTx ν ξ ∧ OC n y ξ r (txHead n y) := by
  obtain ⟨ν1, e1, a1, b1, f1⟩ := c_readWord (Ξ := Ξ) hn hy (Nat.zero_le n) h (j := 0) (by decide)
  have e1 : f_X6_readWord 139 1000003 ((mX Ξ) ν) = some (bI (isW y (skp n y 0) (sme n y (skp n y 0)) (wdW 0)), (mX Ξ) ν1) := e1
  have l1 := skp_le (y := y) (Nat.zero_le n)
  have l2 := sme_le (y := y) l1.2
  unfold txHead
  by_cases z : isW y (skp n y 0) (sme n y (skp n y 0)) (wdW 0) = true
  · rw [z] at e1
    obtain ⟨r1, g1⟩ := a1 z
    have T1 := hT.go g1
    rw [if_pos z]
    rcases q1 : num n y (sme n y (skp n y 0)) 1 12 with ⟨a, q⟩ | ⟨N, s, p1⟩
    · obtain ⟨ξ, e2, f2, v1, v2⟩ := c_num_er (Ξ := Ξ) (lo := 1) (hi := 12) hn hy l2.2 r1 (by omega) (by omega) q1
      have e2 : f_X6_readNumber 139 1 12 ((mX Ξ) ν1) = some (0, (mX Ξ) ξ) := e2
      refine ⟨ξ, 0, ?_, f1.trans (f2.mono fun _ _ z => z.T), rfl, v1, v2⟩
      simp only [f_X6_readHead, ↓hvc (fun _ => vc_139), ↓hbind e1, show bI true = 1 from rfl, z_1, ↓reduceIte, ↓hbind e2, f_X6_readHead_J19, j01_0, true_or, or_true]
    · obtain ⟨-, -, -, N1, N12, -, -, hp1⟩ := num_ok l2.2 q1
      obtain ⟨ν2, e2, r2, -, f2, d2⟩ := c_num_ok (Ξ := Ξ) (lo := 1) (hi := 12) hn hy l2.2 r1 (by omega) (by omega) q1
      have e2 : f_X6_readNumber 139 1 12 ((mX Ξ) ν1) = some (1, (mX Ξ) ν2) := e2
      have T2 := T1.go f2
      have f2' : Fr FTx ν1 ν2 := f2.mono fun _ _ z => z.T
      show ∃ ξ r, _ ∧ _ ∧ OC n y ξ r (if skp n y p1 < n ∧ y (skp n y p1) = 59 then _ else .er 1 (skp n y p1))
      by_cases x : skp n y p1 < n ∧ y (skp n y p1) = 59
      · rw [if_pos x]
        obtain ⟨ν3, e3, r3, f3⟩ := c_end_ok (Ξ := Ξ) hn hy hp1 r2 x.1 x.2
        have T3 := T2.go (f3.mono fun q i z => by unfold F5 at z; unfold F56; omega)
        have f3' : Fr FTx ν2 ν3 := f3.mono fun _ _ z => z.T
        have hp3 : skp n y p1 + 1 ≤ n := by omega
        obtain ⟨ν4, e4, a4, b4, f4⟩ := c_readWord (Ξ := Ξ) hn hy hp3 r3 (j := 1) (by decide)
        have e4 : f_X6_readWord 139 1000004 ((mX Ξ) ν3) = some (bI (isW y (skp n y (skp n y p1 + 1)) (sme n y (skp n y (skp n y p1 + 1))) (wdW 1)), (mX Ξ) ν4) := e4
        have l3 := skp_le (y := y) hp3
        have l4 := sme_le (y := y) l3.2
        by_cases u : isW y (skp n y (skp n y p1 + 1)) (sme n y (skp n y (skp n y p1 + 1))) (wdW 1) = true
        · rw [u] at e4
          obtain ⟨r4, g4⟩ := a4 u
          have T4 := T3.go g4
          rw [if_pos u]
          rcases q2 : num n y (sme n y (skp n y (skp n y p1 + 1))) 1 12 with ⟨a, q⟩ | ⟨M, s2, p2⟩
          · obtain ⟨ξ, e5, f5, v1, v2⟩ := c_num_er (Ξ := Ξ) (lo := 1) (hi := 12) hn hy l4.2 r4 (by omega) (by omega) q2
            have e5 : f_X6_readNumber 139 1 12 ((mX Ξ) ν4) = some (0, (mX Ξ) ξ) := e5
            refine ⟨ξ, 0, ?_, (((f1.trans f2').trans f3').trans f4).trans (f5.mono fun _ _ z => z.T), rfl, v1, v2⟩
            simp only [f_X6_readHead, ↓hvc (fun _ => vc_139), ↓hbind e1, show bI true = 1 from rfl, z_1, ↓reduceIte, ↓hbind e2, ↓hbind d2, ↓hbind e3, ↓hbind e4, ↓hbind e5, f_X6_readHead_J52, j01_0, true_or, or_true]
          · obtain ⟨-, -, -, M1, M12, -, -, hp2⟩ := num_ok l4.2 q2
            obtain ⟨ν5, e5, r5, -, f5, d5⟩ := c_num_ok (Ξ := Ξ) (lo := 1) (hi := 12) hn hy l4.2 r4 (by omega) (by omega) q2
            have e5 : f_X6_readNumber 139 1 12 ((mX Ξ) ν4) = some (1, (mX Ξ) ν5) := e5
            have T5 := T4.go f5
            obtain ⟨b6, f6⟩ := bg_BC (μ := ν5) (b := 9) (N := N) (M := M)
            have e6 : f_X0_begin 9 (Int32.ofNat N) (Int32.ofNat M) ((mX Ξ) ν5) = some ((mX Ξ) (bgM ν5 9 (Int32.ofNat N) (Int32.ofNat M))) := c_X0_begin bk9
            obtain ⟨ν6, hd6⟩ : ∃ x, x = bgM ν5 9 (Int32.ofNat N) (Int32.ofNat M) := ⟨_, rfl⟩
            rw [← hd6] at b6 f6 e6
            have t6 : TC n y ν6 p2 (nB N M) false := ⟨r5.fr f6 (by unfold FB; omega) (by unfold FB; omega) (fun k => by unfold FB; omega), b6, by rw [(f6 _ _ (by unfold FB; omega)).1]; exact T5.1, by rw [(f6 _ _ (by unfold FB; omega)).1]; exact T5.2.1, by rw [(f6 _ _ (by unfold FB; omega)).1]; exact T5.2.2⟩
            obtain ⟨ξ, r, e7, f7, o7⟩ := c_lnEnd (Ξ := Ξ) hn hy hp2 t6
            have cs : (r = 0 ∨ r = 1) = True := by
              rcases hE : lnEnd n y (.ok p2 (nB N M) false) with ⟨a, b, d⟩ | ⟨a, q⟩
              · rw [hE] at o7; exact eq_true (Or.inr o7.1)
              · rw [hE] at o7; exact eq_true (Or.inl o7.1)
            refine ⟨ξ, r, ?_, (((((f1.trans f2').trans f3').trans f4).trans (f5.mono fun _ _ z => z.T)).trans (f6.mono fun q i z => Or.inr z)).trans f7, o7⟩
            simp only [f_X6_readHead, ↓hvc (fun _ => vc_139), ↓hbind e1, show bI true = 1 from rfl, z_1, ↓reduceIte, ↓hbind e2, ↓hbind d2, ↓hbind e3, ↓hbind e4, ↓hbind e5, ↓hbind d5, ↓hvc (fun _ => bk_v bk9), ↓hbind e6, ↓hbind e7, cs]
        · have u' : isW y (skp n y (skp n y p1 + 1)) (sme n y (skp n y (skp n y p1 + 1))) (wdW 1) = false := by simpa using u
          rw [u'] at e4
          rw [if_neg u]
          obtain ⟨v1, v2⟩ := b4 u'
          refine ⟨ν4, 0, ?_, ((f1.trans f2').trans f3').trans f4, rfl, v1, v2⟩
          simp only [f_X6_readHead, ↓hvc (fun _ => vc_139), ↓hbind e1, show bI true = 1 from rfl, z_1, ↓reduceIte, ↓hbind e2, ↓hbind d2, ↓hbind e3, ↓hbind e4, show bI false = 0 from rfl, f_X6_readHead_J52, j01_0, true_or, or_true]
      · rw [if_neg x]
        obtain ⟨ξ, e3, f3, v1, v2⟩ := c_end_er (Ξ := Ξ) hn hy hp1 r2 x
        refine ⟨ξ, 0, ?_, (f1.trans f2').trans (f3.mono fun _ _ z => z.T), rfl, v1, v2⟩
        simp only [f_X6_readHead, ↓hvc (fun _ => vc_139), ↓hbind e1, show bI true = 1 from rfl, z_1, ↓reduceIte, ↓hbind e2, ↓hbind d2, ↓hbind e3, f_X6_readHead_J52, j01_0, true_or, or_true]
  · have z' : isW y (skp n y 0) (sme n y (skp n y 0)) (wdW 0) = false := by simpa using z
    rw [z'] at e1
    rw [if_neg z]
    obtain ⟨v1, v2⟩ := b1 z'
    refine ⟨ν1, 0, ?_, f1, rfl, v1, v2⟩
    simp only [f_X6_readHead, ↓hvc (fun _ => vc_139), ↓hbind e1, show bI false = 0 from rfl, ↓reduceIte, f_X6_readHead_J19, j01_0, true_or, or_true]
theorem txHead_ok : ROK n 0 (txHead n y) := by
  have l1 := skp_le (y := y) (Nat.zero_le n)
  have l2 := sme_le (y := y) l1.2
  unfold txHead
  by_cases z : isW y (skp n y 0) (sme n y (skp n y 0)) (wdW 0) = true
  · rw [if_pos z]
    rcases q1 : num n y (sme n y (skp n y 0)) 1 12 with ⟨a, q⟩ | ⟨N, s, p1⟩
    · exact num_er l2.2 q1
    · obtain ⟨-, -, -, N1, N12, -, -, hp1⟩ := num_ok l2.2 q1
      have l5 := skp_le (y := y) hp1
      show ROK n 0 (if skp n y p1 < n ∧ y (skp n y p1) = 59 then _ else .er 1 (skp n y p1))
      by_cases x : skp n y p1 < n ∧ y (skp n y p1) = 59
      · rw [if_pos x]
        have hp3 : skp n y p1 + 1 ≤ n := by omega
        have l3 := skp_le (y := y) hp3
        have l4 := sme_le (y := y) l3.2
        by_cases u : isW y (skp n y (skp n y p1 + 1)) (sme n y (skp n y (skp n y p1 + 1))) (wdW 1) = true
        · rw [if_pos u]
          rcases q2 : num n y (sme n y (skp n y (skp n y p1 + 1))) 1 12 with ⟨a, q⟩ | ⟨M, s2, p2⟩
          · exact num_er l4.2 q2
          · obtain ⟨-, -, -, M1, M12, -, -, hp2⟩ := num_ok l4.2 q2
            exact (lnEnd_ok (i := 0) (R := .ok p2 (nB N M) false) ⟨Nat.zero_le _, hp2, nB_ok N1 N12 M1 M12⟩).le (Nat.zero_le _)
        · rw [if_neg u]; exact ⟨by omega, by omega, l3.2⟩
      · rw [if_neg x]; exact ⟨by omega, by omega, l5.2⟩
  · rw [if_neg z]; exact ⟨by omega, by omega, l1.2⟩
/-- the class's read -/
theorem c_read (hn : n ≤ 300) (hy : ∀ k, y k < 256) (hb1 : ∀ k, k < n → μ.1 140 k = Int32.ofNat (y k)) : ∃ ξ a, f_X6_read 139 (Int32.ofNat n) 9 ((mX Ξ) μ) = some (Int32.ofNat a, (mX Ξ) ξ) ∧ Fr (fun q i => (q = 139) ∨ FB 9 q i) μ ξ ∧ ξ.1 139 1 = 0 ∧ OF ξ a (txAll n y) := by
  obtain ⟨ν, hd⟩ : ∃ x, x = st (st (st (st (st (st μ 139 4 (Int32.ofNat n)) 139 5 0) 139 2 (-1)) 139 3 0) 139 7 0) 139 1 0 := ⟨_, rfl⟩
  have f0 : Fr (fun q _ => q = 139) μ ν := by rw [hd]; exact ((((((Fr.refl (fun q _ => q = 139) μ).st rfl).st rfl).st rfl).st rfl).st rfl).st rfl
  have k1 : ν.1 139 1 = 0 := by rw [hd, st_same]
  have k7 : ν.1 139 7 = 0 := by rw [hd, st_ne (Or.inr (by omega)), st_same]
  have k3 : ν.1 139 3 = 0 := by rw [hd, st_ne (Or.inr (by omega)), st_ne (Or.inr (by omega)), st_same]
  have k2 : ν.1 139 2 = -1 := by rw [hd, st_ne (Or.inr (by omega)), st_ne (Or.inr (by omega)), st_ne (Or.inr (by omega)), st_same]
  have k5 : ν.1 139 5 = Int32.ofNat 0 := by rw [hd, st_ne (Or.inr (by omega)), st_ne (Or.inr (by omega)), st_ne (Or.inr (by omega)), st_ne (Or.inr (by omega)), st_same]; rfl
  have k4 : ν.1 139 4 = Int32.ofNat n := by rw [hd, st_ne (Or.inr (by omega)), st_ne (Or.inr (by omega)), st_ne (Or.inr (by omega)), st_ne (Or.inr (by omega)), st_ne (Or.inr (by omega)), st_same]
  have hR : RP ν n y 0 := ⟨k4, k5, fun k hk => by rw [(f0 _ _ (by omega)).1]; exact hb1 k hk⟩
  obtain ⟨ζ, r, e1, f1, o1⟩ := c_head (Ξ := Ξ) hn hy hR ⟨k7, k3, k2⟩
  obtain ⟨ξ, a, e2, f2, o2⟩ := c_lines (Ξ := Ξ) hn hy (n + 1) 0 ζ r (txHead n y) o1 txHead_ok (by omega) (by omega)
  have e2 := e2 (5000 - (n + 2))
  rw [show n + 1 + 1 + (5000 - (n + 2)) = 5000 by omega] at e2
  have e2 : f_X6_read_L39 f_X6_read_J85 5000 139 9 r 0 ((mX Ξ) ζ) = some (Int32.ofNat a, (mX Ξ) ξ) := e2
  have f12 := f1.trans f2
  have ez : pZ ((mX Ξ) (st (st (st (st μ 139 4 (Int32.ofNat n)) 139 5 0) 139 2 (-1)) 139 3 0)) 6 139 7 0 = some ((mX Ξ) (st (st (st (st (st μ 139 4 (Int32.ofNat n)) 139 5 0) 139 2 (-1)) 139 3 0) 139 7 0)) := pZ_x (by decide +kernel) (Or.inl rfl)
  refine ⟨ξ, a, ?_, (f0.mono fun q i z => Or.inl z).trans (f12.mono fun q i z => by unfold FTx at z; rcases z with z | z; exact Or.inl z.1; exact Or.inr z), by rw [(f12 _ _ (by unfold FTx FB; omega)).1]; exact k1, o2⟩
  rw [hd] at e1
  simp only [f_X6_read, ↓hbind pI_139_4, ↓hbind pI_139_5, ↓hbind pI_139_2, ↓hbind pI_139_3, ↓hbind ez, ↓hbind pI_139_1, ↓hvc (fun _ => vc_139), ↓hbind e1, e2]
end Rd
