/-! THE LAW'S RUN: a round's steps; what holds between rounds -/
/-- cells apart -/
def Dj (a b : LA) : Prop := lab a + lan a ≤ lab b ∨ lab b + lan b ≤ lab a
/-- a step of a round: the class's cells, the law's own book's, new ones -/
def Ost (n : Nat) (a : LA) (Ξ : xH) (μ : MM) (Ξ' : xH) (ν : MM) : Prop := ∃ Δ, Ξ' = Ξ ++ Δ ∧ Gw n Δ ∧ Fr (fun q i => CL q i ∨ LF a q i ∨ UP (shI ++ Ξ).length q i) μ ν ∧ Z ν (shI ++ Ξ').length
/-- the tape is empty -/
def TW (Ξ : xH) (ν : MM) : Prop := (shI ++ Ξ)[168]? = some (100, dI 8) ∧ ν.1 168 0 = 0 ∧ ∀ k, k < 20 → fby (ν.1 168 (1 + k / 4)) (k % 4) = 0
section H1
variable {Ξ Ξ' Ξ'' : xH} {μ ν ξ : MM} {a b : LA} {B C D : Bk} {H : List Bk} {n m : Nat}
theorem Gst.os (h : Gst n Ξ μ Ξ' ν) : Ost n a Ξ μ Ξ' ν := by
  obtain ⟨Δ, e, g, f, z⟩ := h
  exact ⟨Δ, e, g, f.mono fun q i y => y.imp id Or.inr, z⟩
theorem Ost.ln (h : Ost n a Ξ μ Ξ' ν) : (shI ++ Ξ).length ≤ (shI ++ Ξ').length ∧ (shI ++ Ξ').length ≤ (shI ++ Ξ).length + n := by
  obtain ⟨Δ, rfl, g, -, -⟩ := h
  have := g.1
  rw [xl, xl, List.length_append]
  omega
theorem Ost.tr (h : Ost n a Ξ μ Ξ' ν) (h' : Ost m a Ξ' ν Ξ'' ξ) : Ost (n + m) a Ξ μ Ξ'' ξ := by
  have l := h.ln.1
  obtain ⟨Δ, rfl, g, f, z⟩ := h
  obtain ⟨Δ', rfl, g', f', z'⟩ := h'
  exact ⟨Δ ++ Δ', by rw [List.append_assoc], g.app g', f.trans (f'.mono fun q i y => y.imp id fun y => y.imp id fun y => Nat.le_trans l y), z'⟩
theorem Ost.mn (h : Ost n a Ξ μ Ξ' ν) (l : n ≤ m) : Ost m a Ξ μ Ξ' ν := by
  obtain ⟨Δ, e, g, f, z⟩ := h
  exact ⟨Δ, e, g.mono l, f, z⟩
theorem Ost.z (h : Ost n a Ξ μ Ξ' ν) : Z ν (shI ++ Ξ').length := by
  obtain ⟨_, _, _, _, z⟩ := h
  exact z
theorem Ost.rf (h : Z μ (shI ++ Ξ).length) : Ost 0 a Ξ μ Ξ μ := ⟨[], by rw [List.append_nil], Gw.nil 0, Fr.refl _ _, h⟩
theorem Ost.sw (h : Ost n a Ξ μ Ξ' ν) (hs : lbS (shI ++ Ξ) a) {q k : Nat} {v : Int32} (hq : LF a q k) : Ost n a Ξ μ Ξ' (st ν q k v) := by
  have l := h.ln.1
  obtain ⟨Δ, e, g, f, z⟩ := h
  have := hs.2.1.2
  refine ⟨Δ, e, g, f.st (Or.inr (Or.inl hq)), z.st ?_⟩
  unfold LF at hq
  omega
theorem Ost.sh (h : Ost n a Ξ μ Ξ' ν) {y : Nat} {c : xC} (e : (shI ++ Ξ)[y]? = some c) : (shI ++ Ξ')[y]? = some c := by
  obtain ⟨Δ, rfl, -⟩ := h
  rw [← List.append_assoc, List.getElem?_append_left (List.getElem?_eq_some_iff.mp e).1]; exact e
theorem Ost.s (h : Ost n a Ξ μ Ξ' ν) (hs : lbS (shI ++ Ξ) b) : lbS (shI ++ Ξ') b := by
  obtain ⟨Δ, rfl, -⟩ := h
  rw [← List.append_assoc]; exact hs.app Δ
theorem Ost.bk (h : Ost n a Ξ μ Ξ' ν) (hs : lbS (shI ++ Ξ) b) (hv : lbV μ b D) (d : Dj b a) : lbS (shI ++ Ξ') b ∧ lbV ν b D := by
  refine ⟨h.s hs, ?_⟩
  obtain ⟨Δ, rfl, -, f, -⟩ := h
  have := hs.2.1
  refine hv.fr hs f fun q i z y => ?_
  unfold Dj at d
  unfold LF at z
  unfold CL LF UP at y
  omega
theorem Ost.tw (h : Ost n a Ξ μ Ξ' ν) (h9 : 169 ≤ lab a) (t : TW Ξ μ) : TW Ξ' ν := by
  obtain ⟨t1, t2, t3⟩ := t
  have l := (List.getElem?_eq_some_iff.mp t1).1
  refine ⟨h.sh t1, ?_⟩
  obtain ⟨Δ, rfl, -, f, -⟩ := h
  have e : ∀ i, ν.1 168 i = μ.1 168 i := fun i => (f 168 i (by unfold CL LF UP; omega)).1
  exact ⟨by rw [e]; exact t2, fun k hk => by rw [e]; exact t3 k hk⟩
theorem TW.tp (t : TW Ξ ν) (r : RS ν B H) : TPs Ξ B H [] ν := by
  obtain ⟨t1, t2, t3⟩ := t
  obtain ⟨A, hC, hA, h1, h2, h3⟩ := r
  exact ⟨t1, ⟨A, hC, hA, h1, h2, h3, fun k hk => by rw [h3] at hk; exact absurd hk (Nat.not_lt_zero k)⟩, t2, fun k hk => by rw [t3 k hk, if_neg (show ¬ k < ([] : List Nat).length % 20 from Nat.not_lt_zero k)]⟩
theorem TPs.tw (h : TPs Ξ B H [] ν) : TW Ξ ν ∧ RS ν B H := by
  obtain ⟨t1, ⟨A, hC, hA, h1, h2, h3, -⟩, t2, t3⟩ := h
  exact ⟨⟨t1, t2, fun k hk => by rw [t3 k hk, if_neg (show ¬ k < ([] : List Nat).length % 20 from Nat.not_lt_zero k)]⟩, A, hC, hA, h1, h2, h3⟩
/-- books kept to be taken back -/
def BKs (Ξ : xH) (ν : MM) (H : List Bk) (as : Nat → LA) (a : LA) : Prop := ∃ l, (shI ++ Ξ)[185]? = some (103, l) ∧ l.length = 40 ∧ ∀ j D, H[j]? = some D → l[j]? = some (.ref (lab (as j))) ∧ lbS (shI ++ Ξ) (as j) ∧ lbV ν (as j) D ∧ 169 ≤ lab (as j) ∧ Dj (as j) a ∧ (∀ i, i < j → Dj (as i) (as j)) ∧ bn D ≤ 4 ∧ bm D ≤ 4
theorem Ost.ks (h : Ost n a Ξ μ Ξ' ν) {as : Nat → LA} (k : BKs Ξ μ H as a) : BKs Ξ' ν H as a := by
  obtain ⟨l, k1, k2, k3⟩ := k
  refine ⟨l, h.sh k1, k2, fun j D e => ?_⟩
  obtain ⟨q1, q2, q3, q4, q5, q6, q7⟩ := k3 j D e
  obtain ⟨b1, b2⟩ := h.bk q2 q3 q5
  exact ⟨q1, b1, b2, q4, q5, q6, q7⟩
/-- no cell too large -/
def Cz (Ξ : xH) : Prop := ∀ c, c ∈ Ξ → c.2.length ≤ 40
theorem Cz.gw {Δ : xH} (h : Cz Ξ) (g : Gw n Δ) : Cz (Ξ ++ Δ) := fun c hc => (List.mem_append.mp hc).elim (h c) fun q => by have := g.2 c q; omega
theorem Ost.cz (h : Ost n a Ξ μ Ξ' ν) (z : Cz Ξ) : Cz Ξ' := by
  obtain ⟨Δ, rfl, g, -⟩ := h
  exact z.gw g
/-- cells ahead of round i -/
def bud (i : Nat) : Nat := 186 + i * 10100
theorem bud_s (i : Nat) : bud (i + 1) = bud i + 10100 := by unfold bud; omega
theorem bud_le {i : Nat} (h : i ≤ 12) : bud i ≤ 121386 := by unfold bud; omega
/-- what holds ahead of round i -/
def LI (i : Nat) (Ξ : xH) (ν : MM) (a : LA) (B : Bk) (H : List Bk) (as : Nat → LA) : Prop :=
  TW Ξ ν ∧ RS ν B H ∧ (lbS (shI ++ Ξ) a ∧ lbV ν a B ∧ 169 ≤ lab a) ∧ (bn B ≤ 4 ∧ bm B ≤ 4) ∧ BKs Ξ ν H as a ∧ H.length ≤ i ∧ Z ν (shI ++ Ξ).length ∧ Cz Ξ ∧ (shI ++ Ξ).length ≤ bud i
theorem Gst.bka (h : Gst n Ξ μ Ξ' ν) {as : Nat → LA} (k : BKs Ξ μ H as a) : BKs Ξ' ν H as a := (h.os (a := a)).ks k
/-- the round's end: all is looked at -/
theorem law_65 {S : List Int32} {i : Nat} {as : Nat → LA} (hi : i < 12) (t : TW Ξ ν) (r : RS ν B H) (hs : lbS (shI ++ Ξ) a) (hv : lbV ν a B) (h9 : 169 ≤ lab a) (n4 : bn B ≤ 4) (m4 : bm B ≤ 4) (k : BKs Ξ ν H as a) (hH : H.length ≤ i + 1) (hZ : Z ν (shI ++ Ξ).length) (cz : Cz Ξ) (hl : (shI ++ Ξ).length ≤ bud i + 4060) :
    ∃ Ξ' ν', LI (i + 1) Ξ' ν' a B H as ∧ ∀ kH kE, f_L_law_J1065 S kH kE 0 168 (lab a) 185 (Int32.ofNat H.length) 1 (Int32.ofNat i) (mX Ξ ν) = kH 0 168 (lab a) 185 (Int32.ofNat H.length) 1 (Int32.ofNat (i + 1)) (mX Ξ' ν') := by
  have bl := bud_le (show i ≤ 12 by omega)
  have bs := bud_s i
  obtain ⟨Ξ1, ν1, e1, s1, r1⟩ := (q_told10 r (by omega)).go hZ
  have l1 := s1.ln.2
  obtain ⟨b1, b2⟩ := s1.bk hs hv
  obtain ⟨Ξ2, ν2, e2, s2, r2⟩ := l_isBook b1 b2 r1 s1.z (by omega) n4 m4
  have s12 := s1.tr s2
  have l2 := s12.ln.2
  obtain ⟨b3, b4⟩ := s12.bk hs hv
  obtain ⟨Ξ3, ν3, e3, s3, r3⟩ := l_isChosen b3 b4 r2 s12.z (by omega) n4 m4
  have s13 := s12.tr s3
  have l3 := s13.ln.2
  obtain ⟨b5, b6⟩ := s13.bk hs hv
  have o := s13.os (a := a)
  have hf : (shI ++ Ξ3).length ≤ bud (i + 1) := by omega
  refine ⟨Ξ3, ν3, ⟨o.tw h9 t, r3, ⟨b5, b6, h9⟩, ⟨n4, m4⟩, o.ks k, hH, s13.z, o.cz cz, hf⟩, fun kH kE => ?_⟩
  have n1 : ¬ ((1 : Int32) = 0) := by decide
  simp only [f_L_law_J1065, if_neg n1, ↓hbind e1, if_true, ↓hbind e2, ↓hbind e3, f_L_law_J1102, lt, i_succ]
end H1
