/-! THE LAW: book, its head and its end -/
section Hh0
variable {Ξ : xH} {μ ν : MM} {a : LA} {B0 D P : Bk} {H : List Bk} {L : List Nat} {N M kp : Nat}
theorem TPs.fr9 (h : TPs Ξ B0 H L ν) {ν' : MM} (f : Fr (fun q _ => 169 ≤ q) ν ν') : TPs Ξ B0 H L ν' := by
  obtain ⟨h1, ⟨A, hC, hA, hB1⟩, h3, h4⟩ := h
  refine ⟨h1, ⟨A, hC.fr TT_F f fun q i a z => by omega, hA, hB1⟩, ?_, fun k hk => ?_⟩
  · rw [(f _ _ (by omega)).1]; exact h3
  · rw [(f _ _ (by omega)).1]; exact h4 k hk
theorem TPs.ap (h : TPs Ξ B0 H L ν) (E : xH) : TPs (Ξ ++ E) B0 H L ν := ⟨by rw [← List.append_assoc, List.getElem?_append_left (List.getElem?_eq_some_iff.mp h.1).1]; exact h.1, h.2⟩
theorem Z.pf (h : Z ν (shI ++ Ξ).length) {ν' : MM} (f : Fr PF ν ν') (h1 : (shI ++ Ξ)[168]? = some (100, dI 8)) : Z ν' (shI ++ Ξ).length := h.fr f fun q i z => by
  have := (List.getElem?_eq_some_iff.mp h1).1
  unfold PF CL at z
  omega
/-- pairs and the text's answer agree -/
theorem bk_516 (hs : lbS (shI ++ Ξ) a) (h9 : 169 ≤ lab a) (h : TPs Ξ B0 H L ν) (hl : L.length ≤ 300) (hx : (shI ++ Ξ).length + 1 < 1000000) (hZ : Z ν (shI ++ Ξ).length) {kr : Bool} (ht : Tld L P kr) (hP : BOK P) {C : Bk} (hv : lbV ν a C) (hk : ∀ B', Kp P B' → B' = C) : ∃ Δ ν', f_L_book_J516 0 168 (lab a) (mX Ξ ν) = some (1, mX (Ξ ++ Δ) ν') ∧ Gw 1 Δ ∧ TPs (Ξ ++ Δ) C [] [] ν' ∧ lbS (shI ++ (Ξ ++ Δ)) a ∧ lbV ν' a C ∧ Z ν' (shI ++ (Ξ ++ Δ)).length ∧ BOK C := by
  obtain ⟨Δ, ν', B', e, g, kp, t, f⟩ := texts_go h hl hx ht.all
  have := hk B' kp
  subst this
  have hC := kp.ok hP
  have hs' : lbS (shI ++ (Ξ ++ Δ)) a := by rw [← List.append_assoc]; exact hs.app Δ
  have hv' := hv.pf hs h9 f
  have ep := l_pairs hs' hv' hC.h12
  have z1 := hZ.pf f h.1
  refine ⟨Δ, ν', ?_, g, t, hs', hv', z1.mono (by rw [xl, xl, List.length_append]; omega), hC⟩
  have t1 : f_L_book_J516 0 168 (lab a) (mX Ξ ν) = f_L_book_J533 1 (mX (Ξ ++ Δ) ν') := by
    simp only [f_L_book_J516, ↓hbind e, ↓hvc (fun _ => hs'.vc), ↓hbind ep, if_true]
  exact t1.trans (if_pos (Or.inr rfl))
theorem wk_id (h : bk P = 1) : wk P 1 = P := by
  have e : wk P (bk P) = P := rfl
  rw [h] at e
  exact e
theorem bk_end (hs : lbS (shI ++ Ξ) a) (h9 : 169 ≤ lab a) {l : Nat} (h : BQ Ξ a B0 H N M kp false l L P ν) (hl : l ≤ 290) (hx : (shI ++ Ξ).length + 5000 < 1000000) (hZ : Z ν (shI ++ Ξ).length) (hk : kp = 0 ∨ kp = 1) : ∃ Δ ν' C, f_L_book_J492 0 168 (lab a) (mX Ξ ν) = some (1, mX (Ξ ++ Δ) ν') ∧ Gw 2001 Δ ∧ TPs (Ξ ++ Δ) C [] [] ν' ∧ lbS (shI ++ (Ξ ++ Δ)) a ∧ lbV ν' a C ∧ Z ν' (shI ++ (Ξ ++ Δ)).length ∧ BOK C ∧ bn C = N ∧ bm C = M := by
  obtain ⟨hb', htl, hP, ⟨p1, p2, p3⟩, hlen⟩ := h
  have g2 : ν.1 (lab a) 2 = Int32.ofNat kp := hb'.2.1.2.2.1
  rcases hk with rfl | rfl
  · have c0 : (Int32.ofNat 0 = 0) := rfl
    have l20 : (sNt 20).length = 7 := rfl
    obtain ⟨ν1, e1, b1, f1⟩ := tell_go hb'.1 (i := 20) (by decide) (by rw [l20]; omega)
    have e1 : f_L_tell 0 168 1000021 (mX Ξ ν) = some (mX Ξ ν1) := e1
    rw [s20] at b1
    have t1 : Tld (L ++ keepL) (wk P 0) true := htl.next (show 0 < 7 by decide) (show (107 : Nat) ≠ 32 by decide) (fun n y p r q => ln_keep r q)
    obtain ⟨Δ, ν', e, g, t, s', v', z', ok⟩ := bk_516 hs h9 b1 (by rw [List.length_append, show keepL.length = 7 from rfl]; omega) (by omega) (hZ.pf f1 hb'.1.1) t1 (wk_ok hP (by omega)) (hb'.2.pf hs h9 f1) (fun B' kp' => by
      rcases kp' with ⟨b, -⟩ | ⟨-, b⟩
      · have b : (0 : Nat) = 1 := b
        cases b
      · exact b)
    refine ⟨Δ, ν', _, ?_, g.mono (by omega), t, s', v', z', ok, p1, p2⟩
    simp only [f_L_book_J492, ↓hbind (hs.g (show 2 < 5 by decide)), g2, if_pos c0, ↓hbind e1, e]
  · have c0 : ¬ (Int32.ofNat 1 = 0) := by decide
    have wi := wk_id p3
    have hv := hb'.2
    rw [wi] at hv
    obtain ⟨E, ν1, k, M', e1, g1, f1, z1, gr, v1⟩ := l_settles hs hv hP.M hP.h12 hP.hf hZ (by omega) (most := 99) (by omega)
    rw [xXe] at e1
    have ql := hs.2.2.2.1
    have l169 : 169 ≤ (shI ++ Ξ).length := by have := (List.getElem?_eq_some_iff.mp hb'.1.1).1; omega
    have f9 : Fr (fun q _ => 169 ≤ q) ν ν1 := f1.mono fun q i z => by
      unfold UP at z
      omega
    have hs1 : lbS (shI ++ (Ξ ++ E)) a := by rw [← List.append_assoc]; exact hs.app E
    rw [List.append_assoc] at z1
    have le := g1.1
    have g12 := gr.g12 hP.Eb hP.M
    obtain ⟨Δ, ν', e, g, t, s', v', z', ok⟩ := bk_516 hs1 h9 ((hb'.1.fr9 f9).ap E) (by omega) (by rw [xl, List.length_append]; rw [xl] at hx; omega) z1 htl hP v1 (fun B' kp' => by
      rcases kp' with ⟨-, k2, M2, g2, rfl⟩ | ⟨b, -⟩
      · rw [(g2.uniq g12).2]
      · exact absurd p3 b)
    rw [List.append_assoc] at e t s' z'
    refine ⟨E ++ Δ, ν', wM P M', ?_, (g1.app g).mono (by omega), t, s', v', z', ok, p1, p2⟩
    have e1 : f_X10_settles (lab a) 99 (mX Ξ ν) = some (Int32.ofNat k, mX (Ξ ++ E) ν1) := e1
    simp only [f_L_book_J492, ↓hbind (hs.g (show 2 < 5 by decide)), g2, if_neg c0, ↓hvc (fun _ => hs.vc), ↓hbind e1, e]
/-- a new book's first fields -/
theorem lbV.nb (hs : lbS (shI ++ Ξ) a) (h : lbV ν a B00) (hN : N ≤ 12) (hM : M ≤ 12) (hk : kp ≤ 1) : lbV (st (st (st (st (st ν (lab a) 0 (Int32.ofNat N)) (lab a) 1 (Int32.ofNat M)) (lab a) 3 (((1 : Int32) <<< (Int32.ofNat N &&& 31)) - 1)) (lab a) 4 (((1 : Int32) <<< (Int32.ofNat M &&& 31)) - 1)) (lab a) 2 (Int32.ofNat kp)) a (wk (nB N M) kp) := by
  obtain ⟨-, h5, h6, h7, h8, h9, h10, h11⟩ := h
  obtain ⟨-, -, s1, s2, s3, s4, s5, s6⟩ := hs
  have e : ∀ q i, q ≠ lab a → (st (st (st (st (st ν (lab a) 0 (Int32.ofNat N)) (lab a) 1 (Int32.ofNat M)) (lab a) 3 (((1 : Int32) <<< (Int32.ofNat N &&& 31)) - 1)) (lab a) 4 (((1 : Int32) <<< (Int32.ofNat M &&& 31)) - 1)) (lab a) 2 (Int32.ofNat kp)).1 q i = ν.1 q i := fun q i z => by
    rw [st_ne (Or.inl z), st_ne (Or.inl z), st_ne (Or.inl z), st_ne (Or.inl z), st_ne (Or.inl z)]
  refine ⟨⟨?_, ?_, st_same _ _ _ _, ?_, ?_⟩, fun v s hv hs' => ?_, fun v hv => ?_, fun v hv => ?_, ⟨hN, hM, hk⟩, fun v => Nat.le_refl 12, fun v => (by decide : (1 : Nat) ≤ 99), fun v s => Nat.zero_le _⟩
  · rw [st_ne (Or.inr (by decide)), st_ne (Or.inr (by decide)), st_ne (Or.inr (by decide)), st_ne (Or.inr (by decide)), st_same]; rfl
  · rw [st_ne (Or.inr (by decide)), st_ne (Or.inr (by decide)), st_ne (Or.inr (by decide)), st_same]; rfl
  · rw [st_ne (Or.inr (by decide)), st_ne (Or.inr (by decide)), st_same]; rfl
  · rw [st_ne (Or.inr (by decide)), st_same]; rfl
  · rw [e _ _ (by have := s4 v hv; omega), h5 v s hv hs']; rfl
  · rw [e _ _ (by omega)]; exact h6 v hv
  · rw [e _ _ (by omega)]; exact h7 v hv
theorem bk_go (hs : lbS (shI ++ Ξ) a) (h9 : 169 ≤ lab a) (h : TPs Ξ B0 H [] ν) (hv : lbV ν a B00) (hx : (shI ++ Ξ).length + 5000 < 1000000) (hZ : Z ν (shI ++ Ξ).length) (n1 : 2 ≤ N) (n4 : N ≤ 4) (m1 : 2 ≤ M) (m4 : M ≤ 4) (x3 : Int32) : ∃ Δ ν' C, f_L_book 0 168 (lab a) x3 (Int32.ofNat N) (Int32.ofNat M) (mX Ξ ν) = some (1, mX (Ξ ++ Δ) ν') ∧ Gw 2001 Δ ∧ TPs (Ξ ++ Δ) C [] [] ν' ∧ lbS (shI ++ (Ξ ++ Δ)) a ∧ lbV ν' a C ∧ Z ν' (shI ++ (Ξ ++ Δ)).length ∧ BOK C ∧ bn C = N ∧ bm C = M := by
  obtain ⟨kp, hkp, hke⟩ : ∃ kp, (kp = 0 ∨ kp = 1) ∧ kp = if (x3 &&& (1 : Int32)) = (0 : Int32) then 1 else 0 := by
    by_cases c : (x3 &&& (1 : Int32)) = (0 : Int32)
    · exact ⟨1, Or.inr rfl, by rw [if_pos c]⟩
    · exact ⟨0, Or.inl rfl, by rw [if_neg c]⟩
  obtain ⟨ν1, hν1⟩ : ∃ ν1, ν1 = st (st (st (st ν (lab a) 0 (Int32.ofNat N)) (lab a) 1 (Int32.ofNat M)) (lab a) 3 (((1 : Int32) <<< (Int32.ofNat N &&& 31)) - 1)) (lab a) 4 (((1 : Int32) <<< (Int32.ofNat M &&& 31)) - 1) := ⟨_, rfl⟩
  have v2 := hv.nb hs (N := N) (M := M) (kp := kp) (by omega) (by omega) (by omega)
  rw [← hν1] at v2
  have lA := hs.2.1
  have lB := hs.2.2.1
  have fA : Fr (fun q _ => q = lab a) ν (st ν1 (lab a) 2 (Int32.ofNat kp)) := by
    have f0 : Fr (fun q _ => q = lab a) ν ν := Fr.refl _ _
    rw [hν1]; exact ((((f0.st rfl).st rfl).st rfl).st rfl).st rfl
  have b2 : BT Ξ a B0 H [] (wk (nB N M) kp) (st ν1 (lab a) 2 (Int32.ofNat kp)) := ⟨h.fr9 (fA.mono fun q i z => by omega), v2⟩
  have f2 : Fr (F8 a) ν (st ν1 (lab a) 2 (Int32.ofNat kp)) := fA.mono fun q i z => Or.inr (by unfold LF; omega)
  have d1 := dgs1 (w := N) (by omega)
  have d2 := dgs1 (w := M) (by omega)
  have l11 : (sNt 11).length = 8 := rfl
  have l12 : (sNt 12).length = 7 := rfl
  have l13 : (sNt 13).length = 2 := rfl
  obtain ⟨ν3, e3, b3, f3⟩ := tell_b hs h9 b2 (i := 11) (by decide) (by rw [l11, List.length_nil]; omega)
  obtain ⟨ν4, e4, b4, f4⟩ := dig_b hs h9 b3 (v := N) (by omega) (by simp only [List.length_append, l11, List.length_nil]; omega)
  obtain ⟨ν5, e5, b5, f5⟩ := tell_b hs h9 b4 (i := 12) (by decide) (by simp only [List.length_append, l11, l12, d1, List.length_nil]; omega)
  obtain ⟨ν6, e6, b6, f6⟩ := dig_b hs h9 b5 (v := M) (by omega) (by simp only [List.length_append, l11, l12, d1, List.length_nil]; omega)
  obtain ⟨ν7, e7, b7, f7⟩ := tell_b hs h9 b6 (i := 13) (by decide) (by simp only [List.length_append, l11, l12, l13, d1, d2, List.length_nil]; omega)
  have e3 : f_L_tell 0 168 1000012 (mX Ξ (st ν1 (lab a) 2 (Int32.ofNat kp))) = some (mX Ξ ν3) := e3
  have e5 : f_L_tell 0 168 1000013 (mX Ξ ν4) = some (mX Ξ ν5) := e5
  have e7 : f_L_tell 0 168 1000014 (mX Ξ ν6) = some (mX Ξ ν7) := e7
  have la : [] ++ sNt 11 ++ dgs N ++ sNt 12 ++ dgs M ++ sNt 13 = headL N M := by
    rw [s11, s12, s13]
    unfold headL
    simp only [List.append_assoc, List.cons_append, List.nil_append]
  rw [la] at b7
  have ll : (headL N M).length = 19 := by
    unfold headL
    simp only [List.length_append, List.length_cons, d1, d2]
    rfl
  have q7 : BQ Ξ a B0 H N M kp false 19 (headL N M) (nB N M) ν7 := ⟨b7, Tld.hd (by omega) (by omega) (by omega) (by omega), nB_ok (by omega) (by omega) (by omega) (by omega), ⟨rfl, rfl, rfl⟩, by omega⟩
  obtain ⟨L8, P8, ν8, b8, n8, f8, e8⟩ := bk_w hs h9 n4 m4 x3 N 0 19 _ _ ν7 (by omega) (by omega) q7 ⟨fun v => rfl, rfl⟩
  obtain ⟨L9, P9, ν9, b9, n9, f9, e9⟩ := bk_away hs h9 b8 n4 (by omega) m4 (by omega) x3 n8
  obtain ⟨L10, P10, ν10, b10, f10, e10⟩ := bk_ps hs h9 n4 m4 (by omega) x3 N 0 _ L9 P9 ν9 (by omega) (by omega) b9 (fun v _ => n9 v)
  obtain ⟨L11, P11, ν11, b11, f11, e11⟩ := bk_we hs h9 b10 n4 (by omega) (by omega) x3
  have ff : Fr (F8 a) ν ν11 := (((((((((f2.trans f3).trans f4).trans f5).trans f6).trans f7).trans f8).trans f9).trans f10).trans f11)
  have z11 : Z ν11 (shI ++ Ξ).length := hZ.fr ff fun q i z => by
    have := (List.getElem?_eq_some_iff.mp h.1).1
    unfold F8 PF CL LF at z
    omega
  obtain ⟨Δ, ν', C, e12, r⟩ := bk_end hs h9 b11 (by omega) hx z11 hkp
  refine ⟨Δ, ν', C, ?_, r⟩
  have e8 := e8 (4999 - N) f_L_book_J252
  rw [show N + 1 + (4999 - N) = 5000 by omega] at e8
  have e8 : f_L_book_L85 f_L_book_J252 5000 0 168 (lab a) x3 (Int32.ofNat N) (Int32.ofNat M) 0 (mX Ξ ν7) = _ := e8
  have e10 := e10 (4999 - N) f_L_book_J416
  rw [show N + 1 + (4999 - N) = 5000 by omega] at e10
  have e10 : f_L_book_J309 0 168 (lab a) x3 (Int32.ofNat N) (Int32.ofNat M) (mX Ξ ν9) = _ := e10
  have ez : pZ (mX Ξ ν1) 10 (lab a) 2 (Int32.ofNat kp) = some (mX Ξ (st ν1 (lab a) 2 (Int32.ofNat kp))) := hs.pz (by rcases hkp with rfl | rfl <;> decide)
  have t44 : f_L_book_J44 0 168 (lab a) x3 (Int32.ofNat N) (Int32.ofNat M) (lab a) (Int32.ofNat kp) (mX Ξ ν1) = some (1, mX (Ξ ++ Δ) ν') := by
    simp only [f_L_book_J44, ↓hbind ez, ↓hbind e3, ↓hbind e4, ↓hbind e5, ↓hbind e6, ↓hbind e7, e8, e9, e10, e11, e12]
  have i0 := hs.p (μ := ν) (v := Int32.ofNat N) (show 0 < 5 by decide)
  have i1 := hs.p (μ := st ν (lab a) 0 (Int32.ofNat N)) (v := Int32.ofNat M) (show 1 < 5 by decide)
  have i3 := hs.p (μ := st (st ν (lab a) 0 (Int32.ofNat N)) (lab a) 1 (Int32.ofNat M)) (v := ((1 : Int32) <<< (Int32.ofNat N &&& 31)) - 1) (show 3 < 5 by decide)
  have i4 := hs.p (μ := st (st (st ν (lab a) 0 (Int32.ofNat N)) (lab a) 1 (Int32.ofNat M)) (lab a) 3 (((1 : Int32) <<< (Int32.ofNat N &&& 31)) - 1)) (v := ((1 : Int32) <<< (Int32.ofNat M &&& 31)) - 1) (show 4 < 5 by decide)
  rw [← hν1] at i4
  by_cases c : (x3 &&& (1 : Int32)) = (0 : Int32)
  · rw [if_pos c] at hke
    subst hke
    have t44 : f_L_book_J44 0 168 (lab a) x3 (Int32.ofNat N) (Int32.ofNat M) (lab a) 1 (mX Ξ ν1) = _ := t44
    simp only [f_L_book, ↓hbind i0, ↓hbind i1, ↓hbind i3, ↓hbind i4, if_pos c, t44]
  · rw [if_neg c] at hke
    subst hke
    have t44 : f_L_book_J44 0 168 (lab a) x3 (Int32.ofNat N) (Int32.ofNat M) (lab a) 0 (mX Ξ ν1) = _ := t44
    simp only [f_L_book, ↓hbind i0, ↓hbind i1, ↓hbind i3, ↓hbind i4, if_neg c, t44]
end Hh0
