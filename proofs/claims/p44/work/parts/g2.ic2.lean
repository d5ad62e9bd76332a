/-! THE LAW: isChosen, the rounds -/
/-- what the tables of the rounds hold ahead of worker w and task t -/
def CTb (Ξ0 : xH) (μ0 : MM) (B : Bk) (H : List Bk) (a : LA) (p q : Nat) (w t n : Nat) (Ξ : xH) (ν : MM) : Prop :=
  Gst n Ξ0 μ0 Ξ ν ∧ RS ν B H ∧ (lbS (shI ++ Ξ) a ∧ lbV ν a B ∧ lab a + lan a ≤ (shI ++ Ξ0).length) ∧
  ((shI ++ Ξ0).length ≤ p ∧ (shI ++ Ξ)[p]? = some (100, dI (bm B)) ∧ ∀ u, u < bm B → ν.1 p u = Int32.ofNat (cnt (fun v => decide (rdC B v u < 12)) (if u < t then w + 1 else w))) ∧
  ((shI ++ Ξ0).length ≤ q ∧ (shI ++ Ξ)[q]? = some (100, dI (bm B)) ∧ ∀ u, u < bm B → ∀ c, hb (ν.1 q u) c = true ↔ (c < 12 ∧ ∃ v, (v < w ∨ (v = w ∧ u < t)) ∧ rdC B v u = c)) ∧ p ≠ q
/-- the most so far -/
def CMx (B : Bk) (w t M : Nat) : Prop := M ≤ rdV B ∧ (∀ v, v < w → cnt (fun u => decide (rdC B v u < 12)) (bm B) ≤ M) ∧ ∀ u, u < bm B → cnt (fun v => decide (rdC B v u < 12)) (if u < t then w + 1 else w) ≤ M
section G2
variable {Ξ0 Ξ Ξ' : xH} {μ0 ν ν' : MM} {a : LA} {B : Bk} {H : List Bk} {n k p q w t M : Nat} {x10 : Int32}
theorem CTb.go (h : CTb Ξ0 μ0 B H a p q w t n Ξ ν) (s : Gst k Ξ ν Ξ' ν') (r : RS ν' B H) : CTb Ξ0 μ0 B H a p q w t (n + k) Ξ' ν' := by
  obtain ⟨h1, h2, ⟨h3, h4, h8⟩, ⟨h5, h6, h7⟩, ⟨g5, g6, g7⟩, h9⟩ := h
  obtain ⟨b1, b2⟩ := s.bk h3 h4
  have l0 : 168 ≤ (shI ++ Ξ0).length := by rw [xl]; omega
  have ly := (List.getElem?_eq_some_iff.mp h6).1
  have lq := (List.getElem?_eq_some_iff.mp g6).1
  exact ⟨h1.tr s, r, ⟨b1, b2, h8⟩, ⟨h5, s.sh h6, fun i hi => (s.vl (by omega) ly i).1.trans (h7 i hi)⟩, ⟨g5, s.sh g6, fun i hi c => by rw [(s.vl (by omega) lq i).1]; exact g7 i hi c⟩, h9⟩
theorem CTb.mn (h : CTb Ξ0 μ0 B H a p q w t n Ξ ν) (l : n ≤ k) : CTb Ξ0 μ0 B H a p q w t k Ξ ν := ⟨h.1.mn l, h.2⟩
/-- no round: nothing changes -/
theorem CTb.no (h : CTb Ξ0 μ0 B H a p q w t n Ξ ν) (e : ¬ rdC B w t < 12) : CTb Ξ0 μ0 B H a p q w (t + 1) n Ξ ν := by
  obtain ⟨h1, h2, h3, ⟨h5, h6, h7⟩, ⟨g5, g6, g7⟩, h9⟩ := h
  refine ⟨h1, h2, h3, ⟨h5, h6, fun u hu => ?_⟩, ⟨g5, g6, fun u hu c => ?_⟩, h9⟩
  · rw [h7 u hu]
    by_cases z : u = t
    · rw [z, if_neg (by omega), if_pos (by omega), cnt, decide_eq_false e]; rfl
    · by_cases y : u < t
      · rw [if_pos y, if_pos (by omega)]
      · rw [if_neg y, if_neg (by omega)]
  · rw [g7 u hu c]
    constructor
    · rintro ⟨c12, v, hv, e1⟩
      exact ⟨c12, v, by omega, e1⟩
    · rintro ⟨c12, v, hv, e1⟩
      refine ⟨c12, v, ?_, e1⟩
      rcases hv with hv | ⟨rfl, hv⟩
      · exact Or.inl hv
      · by_cases z : u = t
        · rw [z] at e1; omega
        · exact Or.inr ⟨rfl, by omega⟩
theorem CMx.no (h : CMx B w t M) (e : ¬ rdC B w t < 12) : CMx B w (t + 1) M := by
  obtain ⟨h1, h2, h3⟩ := h
  refine ⟨h1, h2, fun u hu => ?_⟩
  have := h3 u hu
  by_cases z : u = t
  · rw [z] at this ⊢
    rw [if_neg (by omega)] at this
    rw [if_pos (by omega), cnt, decide_eq_false e]
    exact this
  · by_cases y : u < t
    · rw [if_pos y] at this; rw [if_pos (by omega)]; exact this
    · rw [if_neg y] at this; rw [if_neg (by omega)]; exact this
/-- a round: the two tables' cells -/
theorem CTb.yes (hB : BOK B) (h : CTb Ξ0 μ0 B H a p q w t n Ξ ν) (ht : t < bm B) {c : Nat} (e : rdC B w t = c) (c12 : c < 12) :
    aI (mX Ξ ν) q (Int32.ofNat t) = some (ν.1 q t) ∧ hb (ν.1 q t) c = false ∧ ∃ ν1 ν2, sI (mX Ξ ν) q (Int32.ofNat t) (ν.1 q t ||| ((1 : Int32) <<< (Int32.ofNat c &&& 31))) = some (mX Ξ ν1) ∧ aI (mX Ξ ν1) p (Int32.ofNat t) = some (Int32.ofNat (cnt (fun v => decide (rdC B v t < 12)) w)) ∧ sI (mX Ξ ν1) p (Int32.ofNat t) (Int32.ofNat (cnt (fun v => decide (rdC B v t < 12)) w + 1)) = some (mX Ξ ν2) ∧ aI (mX Ξ ν2) p (Int32.ofNat t) = some (Int32.ofNat (cnt (fun v => decide (rdC B v t < 12)) w + 1)) ∧ CTb Ξ0 μ0 B H a p q w (t + 1) n Ξ ν2 := by
  have hm := hB.m
  have t12 : t < 12 := by omega
  have cp := (rd_all hB).1
  obtain ⟨h1, h2, ⟨h3, h4, h8⟩, ⟨h5, h6, h7⟩, ⟨g5, g6, g7⟩, h9⟩ := h
  have lp := (List.getElem?_eq_some_iff.mp h6).1
  have lq := (List.getElem?_eq_some_iff.mp g6).1
  have l0 : 168 ≤ (shI ++ Ξ0).length := by rw [xl]; omega
  have hp0 := h7 t ht
  rw [if_neg (by omega)] at hp0
  have f0 : hb (ν.1 q t) c = false := by
    cases z : hb (ν.1 q t) c with
    | false => rfl
    | true =>
      obtain ⟨-, v, hv, e1⟩ := (g7 t ht c).mp z
      have := (cp.2 t).2.2 v w (by show rdC B v t < 12; omega) (by show rdC B v t = rdC B w t; omega)
      omega
  refine ⟨aI_k (isA_of g6) ht (by omega), f0, st ν q t (ν.1 q t ||| ((1 : Int32) <<< (Int32.ofNat c &&& 31))), st (st ν q t (ν.1 q t ||| ((1 : Int32) <<< (Int32.ofNat c &&& 31)))) p t (Int32.ofNat (cnt (fun v => decide (rdC B v t < 12)) w + 1)), sI_k (isA_of g6) ht (by omega), ?_, sI_k (isA_of h6) ht (by omega), ?_, ?_⟩
  · rw [aI_k (isA_of h6) ht (by omega), st_ne (Or.inl h9), hp0]
  · rw [aI_k (isA_of h6) ht (by omega), st_same]
  · have fr : Fr (fun r _ => r = p ∨ r = q) ν (st (st ν q t (ν.1 q t ||| ((1 : Int32) <<< (Int32.ofNat c &&& 31)))) p t (Int32.ofNat (cnt (fun v => decide (rdC B v t < 12)) w + 1))) := ((Fr.refl _ _).st (Or.inr rfl)).st (Or.inl rfl)
    refine ⟨(h1.sw g5 lq).sw h5 lp, (h2.sw (by omega)).sw (by omega), ⟨h3, h4.fr h3 fr fun r i z y => by unfold LF at z; omega, h8⟩, ⟨h5, h6, fun u hu => ?_⟩, ⟨g5, g6, fun u hu d => ?_⟩, h9⟩
    · by_cases z : u = t
      · rw [z, st_same, if_pos (by omega), cnt, decide_eq_true (show rdC B w t < 12 by omega)]; rfl
      · rw [st_ne (Or.inr z), st_ne (Or.inl h9), h7 u hu]
        by_cases y : u < t
        · rw [if_pos y, if_pos (by omega)]
        · rw [if_neg y, if_neg (by omega)]
    · by_cases z : u = t
      · rw [st_ne (Or.inl (Ne.symm h9)), z, st_same, hb_or, hb_bit d (by omega), Bool.or_eq_true, decide_eq_true_eq, g7 t ht d]
        constructor
        · rintro (⟨d12, v, hv, e1⟩ | rfl)
          · exact ⟨d12, v, by omega, e1⟩
          · exact ⟨c12, w, by omega, e⟩
        · rintro ⟨d12, v, hv, e1⟩
          by_cases y : v = w
          · right; rw [y] at e1; omega
          · left; exact ⟨d12, v, by omega, e1⟩
      · rw [st_ne (Or.inl (Ne.symm h9)), st_ne (Or.inr z), g7 u hu d]
        constructor
        · rintro ⟨d12, v, hv, e1⟩
          exact ⟨d12, v, by omega, e1⟩
        · rintro ⟨d12, v, hv, e1⟩
          exact ⟨d12, v, by omega, e1⟩
theorem CMx.yes (hB : BOK B) (h : CMx B w t M) (e : rdC B w t < 12) : CMx B w (t + 1) (max M (cnt (fun v => decide (rdC B v t < 12)) w + 1)) := by
  obtain ⟨h1, h2, h3⟩ := h
  have ra := rd_all hB
  have ec : cnt (fun v => decide (rdC B v t < 12)) (w + 1) = cnt (fun v => decide (rdC B v t < 12)) w + 1 := by rw [cnt, decide_eq_true e]; rfl
  have le := rd_le (M := fun v => rdC B v t) (V := rdV B) (n := w + 1) (ra.1.2 t) (fun v q => ra.2.2.1 v t q)
  rw [ec] at le
  refine ⟨by omega, fun v hv => by have := h2 v hv; omega, fun u hu => ?_⟩
  have := h3 u hu
  by_cases z : u = t
  · rw [z, if_pos (by omega), ec]; omega
  · by_cases y : u < t
    · rw [if_pos y] at this; rw [if_pos (by omega)]; omega
    · rw [if_neg y] at this; rw [if_neg (by omega)]; omega
/-- the rounds that a worker had so far -/
def Hd (B : Bk) (w t : Nat) (x : Int32) : Prop := ∀ c, hb x c = true ↔ (c < 12 ∧ ∃ u, u < t ∧ rdC B w u = c)
theorem Hd.no (h : Hd B w t x10) (e : ¬ rdC B w t < 12) : Hd B w (t + 1) x10 := fun c => by
  rw [h c]
  constructor
  · rintro ⟨c12, u, hu, e1⟩; exact ⟨c12, u, by omega, e1⟩
  · rintro ⟨c12, u, hu, e1⟩
    refine ⟨c12, u, ?_, e1⟩
    by_cases z : u = t
    · rw [z] at e1; omega
    · omega
theorem Hd.yes (h : Hd B w t x10) {c : Nat} (e : rdC B w t = c) (c12 : c < 12) : Hd B w (t + 1) (x10 ||| ((1 : Int32) <<< (Int32.ofNat c &&& 31))) := fun d => by
  rw [hb_or, hb_bit d (by omega), Bool.or_eq_true, decide_eq_true_eq, h d]
  constructor
  · rintro (⟨d12, u, hu, e1⟩ | rfl)
    · exact ⟨d12, u, by omega, e1⟩
    · exact ⟨c12, t, by omega, e⟩
  · rintro ⟨d12, u, hu, e1⟩
    by_cases z : u = t
    · right; rw [z] at e1; omega
    · left; exact ⟨d12, u, by omega, e1⟩
/-- one worker and one task -/
theorem ic_e (h : CTb Ξ0 μ0 B H a p q w t n Ξ ν) (hn : n ≤ 9000) (hl : (shI ++ Ξ0).length + 10000 < 1000000) (hw : w < bn B) (ht : t < bm B) (hM : CMx B w t M) (hd : Hd B w t x10) : ∃ Ξ' ν' M' x', CTb Ξ0 μ0 B H a p q w (t + 1) (n + 1) Ξ' ν' ∧ CMx B w (t + 1) M' ∧ Hd B w (t + 1) x' ∧
    ∀ f k1 k2 k3 k4, f_L_isChosen_L226 k1 k2 k3 k4 (f + 1) 0 (lab a) (Int32.ofNat M) p q (Int32.ofNat w) (Int32.ofNat (cnt (fun u => decide (rdC B w u < 12)) t)) x10 (Int32.ofNat t) (mX Ξ ν) = f_L_isChosen_L226 k1 k2 k3 k4 f 0 (lab a) (Int32.ofNat M') p q (Int32.ofNat w) (Int32.ofNat (cnt (fun u => decide (rdC B w u < 12)) (t + 1))) x' (Int32.ofNat (t + 1)) (mX Ξ' ν') := by
  have hB := h.2.1.ok
  have hm := hB.m
  have ln := h.1.ln.2
  have w12 : w < 12 := Nat.lt_of_lt_of_le hw hB.n
  have t12 : t < 12 := Nat.lt_of_lt_of_le ht hB.m
  have ra := rd_all hB
  have hs := h.2.2.1.1
  have g1 : ν.1 (lab a) 1 = Int32.ofNat (bm B) := h.2.2.1.2.1.1.2.1
  have c0 : ¬ (Int32.ofNat t ≥ Int32.ofNat (bm B)) := by rw [oN_ge (by omega) (by omega)]; omega
  obtain ⟨Ξ1, ν1, e1, s1, p1⟩ := (q_round h.2.1 (by omega) hw ht).go h.1.z
  have e1 : f_L_round 0 (Int32.ofNat w) (Int32.ofNat t) (mX Ξ ν) = some (eI (rdC B w t), mX Ξ1 ν1) := e1
  have h1 := h.go s1 p1
  have hs1 := h1.2.2.1.1
  have ec := l_can hs1 h1.2.2.1.2.1 w12 t12
  have gi := ra.2.2.2.1 w t
  by_cases c : rdC B w t < 12
  · have g : gE B w t = true := gi.mp c
    rw [g] at ec
    have ec : f_X10_can (lab a) (Int32.ofNat w) (Int32.ofNat t) (mX Ξ1 ν1) = some (1, mX Ξ1 ν1) := ec
    rw [eI_lt c] at e1
    obtain ⟨d, hdd⟩ : ∃ d, d = rdC B w t := ⟨_, rfl⟩
    rw [← hdd] at e1 c
    have n1 : ¬ (Int32.ofNat d < 0) := by rw [oN_l0 (by omega)]; exact id
    have n2 : (Int32.ofNat d ≥ 0) := by rw [oN_g0 (by omega)]; trivial
    have n3 : ¬ (((x10 >>> (Int32.ofNat d &&& 31)) &&& (1 : Int32)) = 1) := by
      rw [has_eq1 (show d < 32 by omega), hd d]
      rintro ⟨-, u, hu, e2⟩
      have := (ra.1.1 w).2.2 u t (by omega) (by omega)
      omega
    obtain ⟨a1, a2, ν2, ν3, a3, a4, a5, a6, a7⟩ := h1.yes hB ht hdd.symm c
    have n4 : ¬ (((ν1.1 q t >>> (Int32.ofNat d &&& 31)) &&& (1 : Int32)) = 1) := by rw [has_eq1 (show d < 32 by omega), a2]; simp
    obtain ⟨ν4, e4, f4, p4⟩ := q_rounds (Ξ := Ξ1) a7.2.1
    have e4 : f_X9_rounds 0 (mX Ξ1 ν3) = some (Int32.ofNat (rdV B), mX Ξ1 ν4) := e4
    have h4 := a7.go (Gst.cl f4 a7.1.z) p4
    have v12 := ra.2.1
    have dV := ra.2.2.1 w t (by omega)
    have n5 : (Int32.ofNat d < Int32.ofNat (rdV B)) := by rw [oN_lt (by omega) (by omega)]; omega
    have cw := cnt_le (fun v => decide (rdC B v t < 12)) w
    have hM1 := hM.1
    have ex : cnt (fun u => decide (rdC B w u < 12)) (t + 1) = cnt (fun u => decide (rdC B w u < 12)) t + 1 := by rw [cnt, decide_eq_true (show rdC B w t < 12 by omega)]; rfl
    refine ⟨Ξ1, ν4, max M (cnt (fun v => decide (rdC B v t < 12)) w + 1), x10 ||| ((1 : Int32) <<< (Int32.ofNat d &&& 31)), h4.mn (by omega), hM.yes hB (by omega), hd.yes hdd.symm c, fun f k1 k2 k3 k4 => ?_⟩
    rw [ex]
    simp only [f_L_isChosen_L226, ↓hbind (hs.g (show 1 < 5 by decide)), g1, if_neg c0, ↓hbind e1, if_neg n1, f_L_isChosen_J255, ↓hvc (fun _ => hs1.vc), ↓hbind ec, if_true, if_pos n2, if_neg n3, ↓hbind a1, if_neg n4, lt, ↓hbind a3, i_succ, ↓hbind a4, ↓hbind a5, ↓hbind a6, imax_oN (show M < 2147483648 by omega) (show cnt (fun v => decide (rdC B v t < 12)) w + 1 < 2147483648 by omega), ↓hvc (fun _ => vc_0), ↓hbind e4, if_pos n5, f_L_isChosen_J359]
  · have g : gE B w t = false := by
      cases z : gE B w t with
      | false => rfl
      | true => exact absurd (gi.mpr z) c
    rw [g] at ec
    have ec : f_X10_can (lab a) (Int32.ofNat w) (Int32.ofNat t) (mX Ξ1 ν1) = some (0, mX Ξ1 ν1) := ec
    rw [eI_ge (by omega)] at e1
    have n1 : ((-1 : Int32) < 0) := by decide
    have n2 : ¬ ((-1 : Int32) ≥ 0) := by decide
    have ex : cnt (fun u => decide (rdC B w u < 12)) (t + 1) = cnt (fun u => decide (rdC B w u < 12)) t := by rw [cnt, decide_eq_false c]; rfl
    refine ⟨Ξ1, ν1, M, x10, h1.no c, hM.no c, hd.no c, fun f k1 k2 k3 k4 => ?_⟩
    rw [ex]
    simp only [f_L_isChosen_L226, ↓hbind (hs.g (show 1 < 5 by decide)), g1, if_neg c0, ↓hbind e1, if_pos n1, f_L_isChosen_J255, ↓hvc (fun _ => hs1.vc), ↓hbind ec, if_true, if_neg n2, f_L_isChosen_J359, lt, i_succ]
end G2
