/-! THE LAW'S RUN: an act is kept, the book settled -/
section H2
variable {Ξ Ξ' Ξ'' : xH} {μ ν ξ : MM} {a b : LA} {B C D : Bk} {H : List Bk} {n m : Nat}
theorem set_X {c : xC} : (shI ++ Ξ).set 185 c = shI ++ Ξ.set 17 c := by
  rw [List.set_append_right _ _ (by rw [shI_len]; decide), shI_len]
theorem set_at {c : xC} {q : Nat} (h : q ≠ 185) : (shI ++ Ξ.set 17 c)[q]? = (shI ++ Ξ)[q]? := by
  rw [← set_X, List.getElem?_set_ne (Ne.symm h)]
theorem set_me {c d : xC} (h : (shI ++ Ξ)[185]? = some d) : (shI ++ Ξ.set 17 c)[185]? = some c := by
  rw [← set_X, List.getElem?_set_self (List.getElem?_eq_some_iff.mp h).1]
theorem set_ln {c : xC} : (shI ++ Ξ.set 17 c).length = (shI ++ Ξ).length := by rw [← set_X, List.length_set]
theorem lbS.st185 (h : lbS (shI ++ Ξ) b) {c : xC} {l : List Value} (e : (shI ++ Ξ)[185]? = some (103, l)) : lbS (shI ++ Ξ.set 17 c) b := by
  have ne : ∀ {q t : Nat} {l' : List Value}, (shI ++ Ξ)[q]? = some (t, l') → t ≠ 103 → (shI ++ Ξ.set 17 c)[q]? = some (t, l') := fun {q t l'} e' ht => by
    rw [set_at fun z => ?_]
    · exact e'
    · rw [z, e] at e'
      cases e'
      exact ht rfl
  obtain ⟨⟨h1, h2, h3, h4, h5⟩, ⟨h6, h7⟩, h8⟩ := h
  exact ⟨⟨ne h1 (by decide), ne h2 (by decide), ne h3 (by decide), ne h4 (by decide), fun w hw => ne (h5 w hw) (by decide)⟩, ⟨h6, by rw [set_ln]; exact h7⟩, h8⟩
/-- which way the round ends: settled by the law too, or not -/
def Md (x8 x9 x14 : Int32) (Bz Bc : Bk) : Prop := (x14 = 0 ∧ (x9 = 6 → (x8 &&& (1 : Int32)) = 0) ∧ Kp Bz Bc) ∨ ((x14 = 1 ∨ (x14 = 0 ∧ x9 = 6 ∧ ¬ (x8 &&& (1 : Int32)) = 0)) ∧ Bc = Bz)
theorem law_58 {S : List Int32} {i : Nat} {as : Nat → LA} (hi : i < 12) {Bz Bc : Bk} (hz : BOK Bz) (b1 : bk Bz = 1) (kp : Kp Bz Bc) (t : TW Ξ ν) (r : RS ν Bc H) (hs : lbS (shI ++ Ξ) a) (hv : lbV ν a Bz) (h9 : 169 ≤ lab a) (n4 : bn Bz ≤ 4) (m4 : bm Bz ≤ 4) (k : BKs Ξ ν H as a) (hH : H.length ≤ i + 1) (hZ : Z ν (shI ++ Ξ).length) (cz : Cz Ξ) (hl : (shI ++ Ξ).length ≤ bud i + 2050) :
    ∃ Ξ' ν', LI (i + 1) Ξ' ν' a Bc H as ∧ ∀ kH kE, f_L_law_J1058 S kH kE 0 168 (lab a) 185 (Int32.ofNat H.length) 1 (Int32.ofNat i) (mX Ξ ν) = kH 0 168 (lab a) 185 (Int32.ofNat H.length) 1 (Int32.ofNat (i + 1)) (mX Ξ' ν') := by
  have bl := bud_le (show i ≤ 12 by omega)
  obtain ⟨E, ν1, c, M', e1, g1, f1, z1, gr, v1⟩ := l_settles hs hv hz.M hz.h12 hz.hf hZ (by omega) (most := 99) (by omega)
  rw [xXe] at e1
  rw [List.append_assoc] at z1
  have e1 : f_X10_settles (lab a) 99 (mX Ξ ν) = some (Int32.ofNat c, mX (Ξ ++ E) ν1) := e1
  have ql := hs.2.2.2.1
  have o : Ost 2000 a Ξ ν (Ξ ++ E) ν1 := ⟨E, rfl, g1, f1.mono fun q i z => by
    rcases z with z | z
    · exact Or.inr (Or.inl (by unfold LF; omega))
    · exact Or.inr (Or.inr z), z1⟩
  have eB : Bc = wM Bz M' := by
    rcases kp with ⟨-, k2, M2, g2, rfl⟩ | ⟨q, -⟩
    · rw [(g2.uniq (gr.g12 hz.Eb hz.M)).2]
    · exact absurd b1 q
  have l169 : 168 ≤ (shI ++ Ξ).length := by rw [xl]; omega
  have r1 : RS ν1 Bc H := by
    obtain ⟨A, hC, hA, q1, q2, q3⟩ := r
    exact ⟨A, hC.fr TT_F f1 fun q i a z => by unfold UP at z; have := hs.2.1.1; omega, hA, q1, q2, q3⟩
  rw [← eB] at v1
  have ln := o.ln.2
  obtain ⟨Ξ', ν', li, ee⟩ := law_65 (S := S) hi (o.tw h9 t) r1 (o.s hs) v1 h9 (by rw [eB]; exact n4) (by rw [eB]; exact m4) (o.ks k) hH o.z (o.cz cz) (by omega)
  refine ⟨Ξ', ν', li, fun kH kE => ?_⟩
  rw [← ee kH kE]
  simp only [f_L_law_J1058, ↓hvc (fun _ => hs.vc), ↓hbind e1]
/-- an act was done: what was is kept, and the round ends -/
theorem law_17 {S : List Int32} {i : Nat} {as : Nat → LA} (hi : i < 12) {Bz Bc : Bk} {x8 x9 x14 : Int32} (hz : BOK Bz) (md : Md x8 x9 x14 Bz Bc) (t : TW Ξ ν) (r : RS ν Bc (H ++ [B])) (hs : lbS (shI ++ Ξ) a) (hv : lbV ν a Bz) (h9 : 169 ≤ lab a) (n4 : bn Bz ≤ 4) (m4 : bm Bz ≤ 4) (k : BKs Ξ ν H as a) (hH : H.length ≤ i) (hZ : Z ν (shI ++ Ξ).length) (cz : Cz Ξ) (hl : (shI ++ Ξ).length ≤ bud i + 2050) (hb1 : lbS (shI ++ Ξ) b) (hb2 : lbV ν b B) (hb9 : 169 ≤ lab b) (hba : Dj b a) (hbs : ∀ j, j < H.length → Dj (as j) b) (bn4 : bn B ≤ 4) (bm4 : bm B ≤ 4) :
    ∃ Ξ' ν' as', LI (i + 1) Ξ' ν' a Bc (H ++ [B]) as' ∧ ∀ kH kE, f_L_law_J1017 S kH kE 0 168 (lab a) 185 (Int32.ofNat H.length) 1 (Int32.ofNat i) x8 x9 (lab b) 1 x14 (mX Ξ ν) = kH 0 168 (lab a) 185 (Int32.ofNat (H ++ [B]).length) 1 (Int32.ofNat (i + 1)) (mX Ξ' ν') := by
  obtain ⟨l, k1, k2, k3⟩ := k
  have e1 := sB_s (μ := ν) (k := H.length) (q := lab b) k1 hb1.1.1 (by omega) (by omega)
  rw [set_X] at e1
  obtain ⟨c, hc⟩ : ∃ c : xC, c = (103, l.set H.length (.ref (lab b))) := ⟨_, rfl⟩
  rw [← hc] at e1
  have hs1 : lbS (shI ++ Ξ.set 17 c) a := hs.st185 k1
  have t1 : TW (Ξ.set 17 c) ν := ⟨by rw [set_at (by decide)]; exact t.1, t.2⟩
  obtain ⟨as', has⟩ : ∃ as' : Nat → LA, as' = fun j => if j = H.length then b else as j := ⟨_, rfl⟩
  have sl : (shI ++ Ξ.set 17 c).length = (shI ++ Ξ).length := set_ln
  have kk : BKs (Ξ.set 17 c) ν (H ++ [B]) as' a := by
    refine ⟨l.set H.length (.ref (lab b)), by rw [set_me k1, hc], by rw [List.length_set]; exact k2, fun j D e => ?_⟩
    by_cases z : j < H.length
    · rw [List.getElem?_append_left z] at e
      obtain ⟨q1, q2, q3, q4, q5, q6, q7⟩ := k3 j D e
      have ej : as' j = as j := by rw [has]; exact if_neg (by omega)
      rw [ej]
      refine ⟨by rw [List.getElem?_set_ne (by omega)]; exact q1, q2.st185 k1, q3, q4, q5, fun u hu => ?_, q7⟩
      have eu : as' u = as u := by rw [has]; exact if_neg (by omega)
      rw [eu]; exact q6 u hu
    · rw [List.getElem?_append_right (by omega)] at e
      have jl : j = H.length := by
        have := (List.getElem?_eq_some_iff.mp e).1
        simp at this
        omega
      subst jl
      rw [Nat.sub_self] at e
      have eD : B = D := by simpa using e
      subst eD
      have ej : as' H.length = b := by rw [has]; exact if_pos rfl
      rw [ej]
      refine ⟨List.getElem?_set_self (by omega), hb1.st185 k1, hb2, hb9, hba, fun u hu => ?_, bn4, bm4⟩
      have eu : as' u = as u := by rw [has]; exact if_neg (by omega)
      rw [eu]; exact hbs u hu
  have hL : (H ++ [B]).length = H.length + 1 := by rw [List.length_append]; rfl
  have z1 : Z ν (shI ++ Ξ.set 17 c).length := by rw [sl]; exact hZ
  have cz1 : Cz (Ξ.set 17 c) := fun d hd => by
    rcases List.mem_or_eq_of_mem_set hd with q | q
    · exact cz d q
    · rw [q, hc]
      show (l.set H.length (.ref (lab b))).length ≤ 40
      rw [List.length_set]; omega
  have kb := hz.k
  have g2 : ν.1 (lab a) 2 = Int32.ofNat (bk Bz) := hv.1.2.2.1
  have e2 := hs1.g (μ := ν) (show 2 < 5 by decide)
  rw [g2] at e2
  have n10 : ¬ ((1 : Int32) = 0) := by decide
  have pre : ∀ kH kE, f_L_law_J1017 S kH kE 0 168 (lab a) 185 (Int32.ofNat H.length) 1 (Int32.ofNat i) x8 x9 (lab b) 1 x14 (mX Ξ ν) = (if Int32.ofNat (bk Bz) = 0 then f_L_law_J1065 S kH kE 0 168 (lab a) 185 (Int32.ofNat (H ++ [B]).length) 1 (Int32.ofNat i) (mX (Ξ.set 17 c) ν) else if x14 = 0 then if x9 = 6 then if (x8 &&& (1 : Int32)) = 0 then f_L_law_J1058 S kH kE 0 168 (lab a) 185 (Int32.ofNat (H ++ [B]).length) 1 (Int32.ofNat i) (mX (Ξ.set 17 c) ν) else f_L_law_J1065 S kH kE 0 168 (lab a) 185 (Int32.ofNat (H ++ [B]).length) 1 (Int32.ofNat i) (mX (Ξ.set 17 c) ν) else f_L_law_J1058 S kH kE 0 168 (lab a) 185 (Int32.ofNat (H ++ [B]).length) 1 (Int32.ofNat i) (mX (Ξ.set 17 c) ν) else f_L_law_J1065 S kH kE 0 168 (lab a) 185 (Int32.ofNat (H ++ [B]).length) 1 (Int32.ofNat i) (mX (Ξ.set 17 c) ν)) := fun kH kE => by
    rw [hL]
    simp only [f_L_law_J1017, if_neg n10, ↓hbind e1, lt, i_succ, ↓hbind e2]
  have direct : Bc = Bz → ∃ Ξ' ν', LI (i + 1) Ξ' ν' a Bc (H ++ [B]) as' ∧ ∀ kH kE, f_L_law_J1065 S kH kE 0 168 (lab a) 185 (Int32.ofNat (H ++ [B]).length) 1 (Int32.ofNat i) (mX (Ξ.set 17 c) ν) = kH 0 168 (lab a) 185 (Int32.ofNat (H ++ [B]).length) 1 (Int32.ofNat (i + 1)) (mX Ξ' ν') := fun e => by
    subst e
    exact law_65 (S := S) hi t1 r hs1 hv h9 n4 m4 kk (by omega) z1 cz1 (by omega)
  by_cases b0 : bk Bz = 0
  · have c0 : (Int32.ofNat (bk Bz) = 0) := by rw [b0]; rfl
    have eq : Bc = Bz := by
      rcases md with ⟨-, -, kp⟩ | ⟨-, e⟩
      · rcases kp with ⟨q, -⟩ | ⟨-, e⟩
        · omega
        · exact e
      · exact e
    obtain ⟨Ξ', ν', li, ee⟩ := direct eq
    refine ⟨Ξ', ν', as', li, fun kH kE => ?_⟩
    rw [pre, if_pos c0, ee]
  · have c0 : ¬ (Int32.ofNat (bk Bz) = 0) := by rw [leq_0 (by omega)]; exact b0
    rcases md with ⟨q1, q2, kp⟩ | ⟨q1, e⟩
    · obtain ⟨Ξ', ν', li, ee⟩ := law_58 (S := S) hi hz (by omega) kp t1 r hs1 hv h9 n4 m4 kk (by omega) z1 cz1 (by omega)
      refine ⟨Ξ', ν', as', li, fun kH kE => ?_⟩
      rw [pre, if_neg c0, if_pos q1]
      by_cases q6 : x9 = 6
      · rw [if_pos q6, if_pos (q2 q6), ee]
      · rw [if_neg q6, ee]
    · obtain ⟨Ξ', ν', li, ee⟩ := direct e
      refine ⟨Ξ', ν', as', li, fun kH kE => ?_⟩
      rw [pre, if_neg c0]
      rcases q1 with q1 | ⟨q1, q6, q8⟩
      · rw [if_neg (by rw [q1]; decide), ee]
      · rw [if_pos q1, if_pos q6, if_neg q8, ee]
end H2
