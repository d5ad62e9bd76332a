/-! THE LAW'S RUN: from one heap of it to a later one -/
/-- n cells more at the most; the class's may change, and the new ones; what the law had stands -/
def Gst (n : Nat) (Ξ : xH) (μ : MM) (Ξ' : xH) (ν : MM) : Prop := ∃ Δ, Ξ' = Ξ ++ Δ ∧ Gw n Δ ∧ Fr (fun q i => CL q i ∨ UP (shI ++ Ξ).length q i) μ ν ∧ Z ν (shI ++ Ξ').length
section F0
variable {Ξ Ξ' Ξ'' : xH} {μ ν ξ : MM} {n m : Nat}
theorem xl (Ξ : xH) : (shI ++ Ξ).length = 168 + Ξ.length := by rw [List.length_append, shI_len]
theorem Gst.rf (h : Z μ (shI ++ Ξ).length) : Gst 0 Ξ μ Ξ μ := ⟨[], by rw [List.append_nil], Gw.nil 0, Fr.refl _ _, h⟩
theorem Gst.z (h : Gst n Ξ μ Ξ' ν) : Z ν (shI ++ Ξ').length := by
  obtain ⟨_, _, _, _, z⟩ := h
  exact z
theorem Gst.ln (h : Gst n Ξ μ Ξ' ν) : (shI ++ Ξ).length ≤ (shI ++ Ξ').length ∧ (shI ++ Ξ').length ≤ (shI ++ Ξ).length + n := by
  obtain ⟨Δ, rfl, g, -, -⟩ := h
  have := g.1
  rw [xl, xl, List.length_append]
  omega
theorem Gst.tr (h : Gst n Ξ μ Ξ' ν) (h' : Gst m Ξ' ν Ξ'' ξ) : Gst (n + m) Ξ μ Ξ'' ξ := by
  have l := h.ln.1
  obtain ⟨Δ, rfl, g, f, z⟩ := h
  obtain ⟨Δ', rfl, g', f', z'⟩ := h'
  exact ⟨Δ ++ Δ', by rw [List.append_assoc], g.app g', f.trans (f'.mono fun q i y => y.imp id fun y => Nat.le_trans l y), z'⟩
theorem Gst.mn (h : Gst n Ξ μ Ξ' ν) (l : n ≤ m) : Gst m Ξ μ Ξ' ν := by
  obtain ⟨Δ, e, g, f, z⟩ := h
  exact ⟨Δ, e, g.mono l, f, z⟩
theorem Gst.sh (h : Gst n Ξ μ Ξ' ν) {y : Nat} {c : xC} (e : (shI ++ Ξ)[y]? = some c) : (shI ++ Ξ')[y]? = some c := by
  obtain ⟨Δ, rfl, -⟩ := h
  rw [← List.append_assoc, List.getElem?_append_left (List.getElem?_eq_some_iff.mp e).1]; exact e
theorem Gst.vl (h : Gst n Ξ μ Ξ' ν) {q : Nat} (h1 : 168 ≤ q) (h2 : q < (shI ++ Ξ).length) (i : Nat) : ν.1 q i = μ.1 q i ∧ ν.2 q i = μ.2 q i := by
  obtain ⟨Δ, rfl, -, f, -⟩ := h
  exact f q i (fun z => by unfold CL UP at z; omega)
theorem Gst.bk {a : LA} {B : Bk} (h : Gst n Ξ μ Ξ' ν) (hs : lbS (shI ++ Ξ) a) (hv : lbV μ a B) : lbS (shI ++ Ξ') a ∧ lbV ν a B := by
  obtain ⟨Δ, rfl, -, f, -⟩ := h
  have := hs.2.1
  refine ⟨by rw [← List.append_assoc]; exact hs.app Δ, hv.fr hs f fun q i z y => ?_⟩
  unfold LF at z
  unfold CL UP at y
  omega
theorem Gst.sw (h : Gst n Ξ μ Ξ' ν) {q k : Nat} {v : Int32} (h1 : (shI ++ Ξ).length ≤ q) (h2 : q < (shI ++ Ξ').length) : Gst n Ξ μ Ξ' (st ν q k v) := by
  obtain ⟨Δ, e, g, f, z⟩ := h
  exact ⟨Δ, e, g, f.st (Or.inr h1), z.st h2⟩
theorem Gst.mk' {E : xH} (g : Gw n E) (f : Fr (UP (shI ++ Ξ).length) μ ν) (z : Z ν ((shI ++ Ξ) ++ E).length) : Gst n Ξ μ (Ξ ++ E) ν := ⟨E, rfl, g, f.mono fun _ _ y => Or.inr y, by rw [← List.append_assoc]; exact z⟩
theorem Gst.cl (f : Fr CL μ ν) (h : Z μ (shI ++ Ξ).length) : Gst 0 Ξ μ Ξ ν := ⟨[], by rw [List.append_nil], Gw.nil 0, f.mono fun _ _ y => Or.inl y, h.fr f fun q i y => by unfold CL at y; rw [xl]; omega⟩
theorem xXe {E : xH} : mS ((shI ++ Ξ) ++ E) ν = mX (Ξ ++ E) ν := by rw [List.append_assoc]
variable {B : Bk} {H : List Bk}
theorem RS.up (h : RS μ B H) (f : Fr (UP (shI ++ Ξ).length) μ ν) : RS ν B H := by
  obtain ⟨A, hC, hA, h1, h2, h3⟩ := h
  exact ⟨A, hC.fr TT_F f fun q i a z => by unfold UP at z; rw [xl] at z; omega, hA, h1, h2, h3⟩
theorem RS.sw (h : RS μ B H) {q k : Nat} {v : Int32} (hq : 168 ≤ q) : RS (st μ q k v) B H := by
  obtain ⟨A, hC, hA, h1, h2, h3⟩ := h
  exact ⟨A, hC.fr TT_F (P := fun p _ => 168 ≤ p) ((Fr.refl _ _).st hq) fun q i a z => by omega, hA, h1, h2, h3⟩
theorem Ask.go {o : Option (Int32 × xH)} {v : Int32} (h : Ask Ξ μ B H o v) (hZ : Z μ (shI ++ Ξ).length) : ∃ Ξ' ν, o = some (v, mX Ξ' ν) ∧ Gst 1 Ξ μ Ξ' ν ∧ RS ν B H := by
  obtain ⟨Δ, ν, e, g, f, r⟩ := h
  refine ⟨Ξ ++ Δ, ν, e, ⟨Δ, rfl, g, f.mono fun _ _ z => Or.inl z, ?_⟩, r⟩
  have := hZ.fr f (fun q i z => by unfold CL at z; rw [xl]; omega)
  exact this.mono (by rw [xl, xl, List.length_append]; omega)
theorem Act.go {B2 : Bk} {o : Option (Int32 × xH)} {v : Int32} (h : Act Ξ μ B2 H o v) (hZ : Z μ (shI ++ Ξ).length) : ∃ Ξ' ν B', o = some (v, mX Ξ' ν) ∧ Gst 1 Ξ μ Ξ' ν ∧ Kp B2 B' ∧ RS ν B' H := by
  obtain ⟨Δ, ν, e, g, f, B', k, r⟩ := h
  refine ⟨Ξ ++ Δ, ν, B', e, ⟨Δ, rfl, g, f.mono fun _ _ z => Or.inl z, ?_⟩, k, r⟩
  have := hZ.fr f (fun q i z => by unfold CL at z; rw [xl]; omega)
  exact this.mono (by rw [xl, xl, List.length_append]; omega)
theorem BOK.h12 (hB : BOK B) : ∀ w, bn B ≤ w → bM B w = 12 := fun w hw => by
  by_cases z : bM B w < 12
  · have := hB.w (hB.fit z).2.1; omega
  · have := hB.M.1.1 w; omega
theorem BOK.hf (hB : BOK B) : ∀ w t, gE B w t = true → w < bn B ∧ t < bm B := fun w t e => by
  simp only [gE, Bool.and_eq_true] at e
  exact hB.f e.1.1
/-! the law's book: other workers, other tasks, a fit less -/
def wX (B : Bk) (x y : Int32) : Bk := mkB (bn B) (bm B) (bk B) x y (be B) (bf B) (bc B) (bM B)
def wDf (B : Bk) (w t : Nat) : Bk := mkB (bn B) (bm B) (bk B) (bw B) (bt B) (be B) (fun x => if x = w then bf B w &&& (((1 : Int32) <<< (Int32.ofNat t &&& 31)) ^^^ (-1)) else bf B x) (bc B) (bM B)
theorem hb_nb {x : Int32} {t : Nat} (ht : t < 12) (k : Nat) : hb (x &&& (((1 : Int32) <<< (Int32.ofNat t &&& 31)) ^^^ (-1))) k = (hb x k && decide (k ≠ t)) := by
  rw [hb_and, hb_not, hb_bit k (by omega)]
  by_cases z : k < 32
  · simp [z]
  · rw [hb_ge x (by omega)]; simp
theorem wDf_gE {w t : Nat} (ht : t < 12) (v s : Nat) : gE (wDf B w t) v s = eE (gE B) w t v s := by
  show (hb (if v = w then bf B w &&& (((1 : Int32) <<< (Int32.ofNat t &&& 31)) ^^^ (-1)) else bf B v) s && hb (bw B) v && hb (bt B) s) = (hb (bf B v) s && hb (bw B) v && hb (bt B) s && !(decide (v = w) && decide (s = t)))
  by_cases z : v = w
  · rw [if_pos z, hb_nb ht, z]
    by_cases y : s = t
    · simp [y]
    · simp [y]
  · rw [if_neg z]; simp [z]
theorem wX_oE {w t : Nat} (hw : w < 12) (ht : t < 12) (v s : Nat) : gE (wX B (bw B &&& (((1 : Int32) <<< (Int32.ofNat w &&& 31)) ^^^ (-1))) (bt B &&& (((1 : Int32) <<< (Int32.ofNat t &&& 31)) ^^^ (-1)))) v s = oE (gE B) w t v s := by
  show (hb (bf B v) s && hb (bw B &&& (((1 : Int32) <<< (Int32.ofNat w &&& 31)) ^^^ (-1))) v && hb (bt B &&& (((1 : Int32) <<< (Int32.ofNat t &&& 31)) ^^^ (-1))) s) = (hb (bf B v) s && hb (bw B) v && hb (bt B) s && decide (v ≠ w) && decide (s ≠ t))
  rw [hb_nb hw, hb_nb ht]
  cases hb (bf B v) s <;> cases hb (bw B) v <;> cases hb (bt B) s <;> simp
theorem wX_w {w : Nat} (hw : w < 12) (v s : Nat) : gE (wX B (bw B &&& (((1 : Int32) <<< (Int32.ofNat w &&& 31)) ^^^ (-1))) (bt B)) v s = xE B false w v s := by
  show (hb (bf B v) s && hb (bw B &&& (((1 : Int32) <<< (Int32.ofNat w &&& 31)) ^^^ (-1))) v && hb (bt B) s) = (hb (bf B v) s && hb (bw B) v && hb (bt B) s && hb (bw B &&& (((1 : Int32) <<< (Int32.ofNat w &&& 31)) ^^^ (-1))) v && hb (bt B) s)
  rw [hb_nb hw]
  cases hb (bf B v) s <;> cases hb (bw B) v <;> cases hb (bt B) s <;> simp
theorem wX_t {t : Nat} (ht : t < 12) (v s : Nat) : gE (wX B (bw B) (bt B &&& (((1 : Int32) <<< (Int32.ofNat t &&& 31)) ^^^ (-1)))) v s = xE B true t v s := by
  show (hb (bf B v) s && hb (bw B) v && hb (bt B &&& (((1 : Int32) <<< (Int32.ofNat t &&& 31)) ^^^ (-1))) s) = (hb (bf B v) s && hb (bw B) v && hb (bt B) s && hb (bw B) v && hb (bt B &&& (((1 : Int32) <<< (Int32.ofNat t &&& 31)) ^^^ (-1))) s)
  rw [hb_nb ht]
  cases hb (bf B v) s <;> cases hb (bw B) v <;> cases hb (bt B) s <;> simp
variable {sh : xH} {a : LA}
theorem lbV.w3 (hs : lbS sh a) (h : lbV μ a B) (x : Int32) : lbV (st μ (lab a) 3 x) a (wX B x (bt B)) := h.ww hs x
theorem lbV.w4 (hs : lbS sh a) (h : lbV μ a B) (x : Int32) : lbV (st μ (lab a) 4 x) a (wX B (bw B) x) := by
  obtain ⟨⟨h0, h1, h2, h3, h4⟩, h5, h6, h7, h8⟩ := h
  obtain ⟨-, -, s1, s2, s3, s4, -⟩ := hs
  refine ⟨⟨?_, ?_, ?_, ?_, st_same _ _ _ _⟩, fun w t hw ht => ?_, fun w hw => ?_, fun w hw => ?_, h8⟩
  · rw [st_ne (Or.inr (by decide))]; exact h0
  · rw [st_ne (Or.inr (by decide))]; exact h1
  · rw [st_ne (Or.inr (by decide))]; exact h2
  · rw [st_ne (Or.inr (by decide))]; exact h3
  · have := s4 w hw
    rw [st_ne (Or.inl (by omega))]; exact h5 w t hw ht
  · rw [st_ne (Or.inl (by omega))]; exact h6 w hw
  · rw [st_ne (Or.inl (by omega))]; exact h7 w hw
theorem lbV.df (hs : lbS sh a) (h : lbV μ a B) {w t : Nat} (hw : w < 12) (ht : t < 12) : lbV (st μ (lao a w) t (-1)) a (wDf B w t) := by
  obtain ⟨⟨h0, h1, h2, h3, h4⟩, h5, h6, h7, h8⟩ := h
  obtain ⟨-, -, s1, s2, s3, s4, s5, s6⟩ := hs
  have o := s4 w hw
  have p := s5.2 w hw
  refine ⟨⟨?_, ?_, ?_, ?_, ?_⟩, fun v s hv hs' => ?_, fun v hv => ?_, fun v hv => ?_, h8⟩
  · rw [st_ne (Or.inl (by omega))]; exact h0
  · rw [st_ne (Or.inl (by omega))]; exact h1
  · rw [st_ne (Or.inl (by omega))]; exact h2
  · rw [st_ne (Or.inl (by omega))]; exact h3
  · rw [st_ne (Or.inl (by omega))]; exact h4
  · show _ = if hb (if v = w then bf B w &&& (((1 : Int32) <<< (Int32.ofNat t &&& 31)) ^^^ (-1)) else bf B v) s = true then Int32.ofNat (bc B v s) else -1
    by_cases z : v = w
    · rw [if_pos z, hb_nb ht, z]
      by_cases y : s = t
      · rw [y, st_same]; simp
      · rw [st_ne (Or.inr y), h5 w s hw hs']; simp [y]
    · rw [if_neg z, st_ne (Or.inl fun e => z (s6 v w hv hw e))]
      exact h5 v s hv hs'
  · rw [st_ne (Or.inl fun e => p.1 e.symm)]; exact h6 v hv
  · rw [st_ne (Or.inl fun e => p.2 e.symm)]; exact h7 v hv
/-- a copy -/
theorem lk_go (hs : lbS (shI ++ Ξ) a) (hv : lbV μ a B) (hZ : Z μ (shI ++ Ξ).length) (hl : (shI ++ Ξ).length + 100 < 1000000) {C : Bk} (hR : RS μ C H) : ∃ Ξ' ν p, f_X10_like (lab a) (mX Ξ μ) = some (some p, mX Ξ' ν) ∧ Gst 30 Ξ μ Ξ' ν ∧ RS ν C H ∧ (shI ++ Ξ).length ≤ p ∧ p + 30 ≤ (shI ++ Ξ').length ∧ p = lab (lkA p) ∧ lbS (shI ++ Ξ') (lkA p) ∧ lbV ν (lkA p) B := by
  obtain ⟨E, ν, e, l, g, f, z, s, v⟩ := l_like hs hv hZ hl
  rw [xXe] at e
  rw [List.append_assoc] at s
  refine ⟨Ξ ++ E, ν, (shI ++ Ξ).length, e, Gst.mk' g f z, hR.up f, Nat.le_refl _, ?_, rfl, s, v⟩
  rw [xl, xl, List.length_append]; omega
/-- the most of a book of the law's -/
theorem most_go (hs : lbS (shI ++ Ξ) a) {D : Bk} (hv : lbV μ a D) (hf : ∀ w t, gE D w t = true → w < bn D ∧ t < bm D) : ∃ k, f_X10_most 40 (lab a) 0 0 (mX Ξ μ) = some (Int32.ofNat k, mX Ξ μ) ∧ Nu (gE D) k := l_most hs hv hf
end F0
