/-! BOOKS: acts on one -/
variable {Ξ : xH}
/-- other pairs -/
def wM (B : Bk) (M : Nat → Nat) : Bk := mkB (bn B) (bm B) (bk B) (bw B) (bt B) (be B) (bf B) (bc B) M
/-- KEEP -/
def wk (B : Bk) (k : Nat) : Bk := mkB (bn B) (bm B) k (bw B) (bt B) (be B) (bf B) (bc B) (bM B)
/-- a weight -/
def wE (B : Bk) (w v : Nat) : Bk := mkB (bn B) (bm B) (bk B) (bw B) (bt B) (up (be B) w v) (bf B) (bc B) (bM B)
/-- a FIT comes -/
def wF (B : Bk) (w t c : Nat) : Bk := mkB (bn B) (bm B) (bk B) (bw B) (bt B) (be B) (fun x => if x = w then bf B w ||| ((1 : Int32) <<< (Int32.ofNat t &&& 31)) else bf B x) (fun x s => if x = w ∧ s = t then c else bc B x s) (bM B)
/-- a FIT goes -/
def wD (B : Bk) (w t : Nat) : Bk := mkB (bn B) (bm B) (bk B) (bw B) (bt B) (be B) (fun x => if x = w then bf B w &&& (((1 : Int32) <<< (Int32.ofNat t &&& 31)) ^^^ (-1)) else bf B x) (bc B) (if bM B w = t then up (bM B) w 12 else bM B)
/-- a worker, a task goes or comes -/
def wW (B : Bk) (w : Nat) (there : Bool) : Bk := mkB (bn B) (bm B) (bk B) (if there then bw B ||| ((1 : Int32) <<< (Int32.ofNat w &&& 31)) else bw B &&& (((1 : Int32) <<< (Int32.ofNat w &&& 31)) ^^^ (-1))) (bt B) (be B) (bf B) (bc B) (up (bM B) w 12)
noncomputable def wT (B : Bk) (t : Nat) (there : Bool) : Bk := mkB (bn B) (bm B) (bk B) (bw B) (if there then bt B ||| ((1 : Int32) <<< (Int32.ofNat t &&& 31)) else bt B &&& (((1 : Int32) <<< (Int32.ofNat t &&& 31)) ^^^ (-1))) (be B) (bf B) (bc B) (up (bM B) (ow (bM B) t) 12)
section Wb
variable {B : Bk}
theorem wM_ok (h : BOK B) {M : Nat → Nat} (hM : Ms (gE B) M) : BOK (wM B M) := ⟨h.1, h.2.1, h.2.2.1, h.2.2.2.1, h.2.2.2.2.1, h.2.2.2.2.2.1, hM⟩
theorem wM_M : wM B (bM B) = B := rfl
theorem wk_ok (h : BOK B) {k : Nat} (hk : k ≤ 1) : BOK (wk B k) := ⟨⟨h.1.1, h.1.2.1, h.1.2.2.1, h.1.2.2.2.1, hk⟩, h.2.1, h.2.2.1, h.2.2.2.1, h.2.2.2.2.1, h.2.2.2.2.2.1, h.M⟩
theorem wE_ok (h : BOK B) {w v : Nat} (hv : v ≤ 99) : BOK (wE B w v) := ⟨h.1, h.2.1, h.2.2.1, h.2.2.2.1, fun x => by
  show up (be B) w v x ≤ 99
  unfold up; split
  · exact hv
  · exact h.e x, h.2.2.2.2.2.1, h.M⟩
theorem wF_hb {w t c x s : Nat} (ht : t < 12) : hb (bf (wF B w t c) x) s = (hb (bf B x) s || (decide (x = w) && decide (s = t))) := by
  show hb (if x = w then bf B w ||| ((1 : Int32) <<< (Int32.ofNat t &&& 31)) else bf B x) s = _
  by_cases e : x = w
  · rw [if_pos e, hb_or, hb_bit s (by omega), e]; simp
  · rw [if_neg e]; simp [e]
theorem wF_ok (h : BOK B) {w t c : Nat} (hw : w < bn B) (ht : t < bm B) (hc : c ≤ 99) : BOK (wF B w t c) := by
  have hm := h.m
  refine ⟨h.1, h.2.1, h.2.2.1, fun x s q => ?_, h.2.2.2.2.1, fun x s => ?_, h.M.1, fun x q => ?_⟩
  · rw [wF_hb (by omega)] at q
    rcases (Bool.or_eq_true _ _).mp q with q | q
    · exact h.f q
    · simp only [Bool.and_eq_true, decide_eq_true_eq] at q
      rw [q.1, q.2]; exact ⟨hw, ht⟩
  · show (if x = w ∧ s = t then c else bc B x s) ≤ 99
    split
    · exact hc
    · exact h.c x s
  · obtain ⟨a1, a2, a3⟩ := h.fit q
    show (hb (bf (wF B w t c) x) (bM B x) && hb (bw B) x && hb (bt B) (bM B x)) = true
    rw [wF_hb (by omega), a1, a2, a3]; rfl
theorem wD_hb {w t x s : Nat} (ht : t < 12) : hb (bf (wD B w t) x) s = (hb (bf B x) s && !(decide (x = w) && decide (s = t))) := by
  show hb (if x = w then bf B w &&& (((1 : Int32) <<< (Int32.ofNat t &&& 31)) ^^^ (-1)) else bf B x) s = _
  by_cases e : x = w
  · rw [if_pos e, hb_and, hb_not, hb_bit s (by omega), e]
    by_cases c : s < 32
    · simp [c]
    · rw [hb_ge _ (by omega)]; simp
  · rw [if_neg e]; simp [e]
theorem wD_ok (h : BOK B) {w t : Nat} (ht : t < 12) : BOK (wD B w t) := by
  have hM : Mt (bM (wD B w t)) := by
    show Mt (if bM B w = t then up (bM B) w 12 else bM B)
    split
    · exact dr_Mt h.M.1 w
    · exact h.M.1
  refine ⟨h.1, h.2.1, h.2.2.1, fun x s q => ?_, h.2.2.2.2.1, h.2.2.2.2.2.1, hM, fun x q => ?_⟩
  · rw [wD_hb ht] at q
    exact h.f ((Bool.and_eq_true _ _).mp q).1
  · have e : bM (wD B w t) x = bM B x ∧ ¬ (x = w ∧ bM B x = t) := by
      have q : (if bM B w = t then up (bM B) w 12 else bM B) x < 12 := q
      show (if bM B w = t then up (bM B) w 12 else bM B) x = bM B x ∧ _
      by_cases c : bM B w = t
      · rw [if_pos c] at q ⊢
        have z : x ≠ w := fun z => by rw [z, up_same] at q; omega
        exact ⟨up_ne z, fun y => z y.1⟩
      · rw [if_neg c] at q ⊢
        exact ⟨rfl, fun y => c (by rw [← y.1]; exact y.2)⟩
    rw [e.1] at q ⊢
    obtain ⟨a1, a2, a3⟩ := h.fit q
    show (hb (bf (wD B w t) x) (bM B x) && hb (bw B) x && hb (bt B) (bM B x)) = true
    rw [wD_hb ht, a1, a2, a3]
    have := e.2
    by_cases y : x = w
    · have : bM B x ≠ t := fun z => this ⟨y, z⟩
      simp [this]
    · simp [y]
theorem wW_hb {w x : Nat} {th : Bool} (hw : w < 12) : hb (bw (wW B w th)) x = if x = w then th else hb (bw B) x := by
  show hb (if th then bw B ||| ((1 : Int32) <<< (Int32.ofNat w &&& 31)) else bw B &&& (((1 : Int32) <<< (Int32.ofNat w &&& 31)) ^^^ (-1))) x = _
  cases th with
  | true =>
    rw [if_pos rfl, hb_or, hb_bit x (by omega)]
    by_cases e : x = w
    · simp [e]
    · simp [e]
  | false =>
    rw [if_neg (by simp), hb_and, hb_not, hb_bit x (by omega)]
    by_cases e : x = w
    · simp [e]
    · by_cases c : x < 32
      · simp [e, c]
      · rw [hb_ge _ (by omega)]; simp
theorem wT_hb {t x : Nat} {th : Bool} (ht : t < 12) : hb (bt (wT B t th)) x = if x = t then th else hb (bt B) x := by
  show hb (if th then bt B ||| ((1 : Int32) <<< (Int32.ofNat t &&& 31)) else bt B &&& (((1 : Int32) <<< (Int32.ofNat t &&& 31)) ^^^ (-1))) x = _
  cases th with
  | true =>
    rw [if_pos rfl, hb_or, hb_bit x (by omega)]
    by_cases e : x = t
    · simp [e]
    · simp [e]
  | false =>
    rw [if_neg (by simp), hb_and, hb_not, hb_bit x (by omega)]
    by_cases e : x = t
    · simp [e]
    · by_cases c : x < 32
      · simp [e, c]
      · rw [hb_ge _ (by omega)]; simp
theorem wW_ok (h : BOK B) {w : Nat} {th : Bool} (hw : w < bn B) : BOK (wW B w th) := by
  have hn := h.n
  refine ⟨h.1, fun x q => ?_, h.2.2.1, h.2.2.2.1, h.2.2.2.2.1, h.2.2.2.2.2.1, dr_Mt h.M.1 w, fun x q => ?_⟩
  · rw [wW_hb (by omega)] at q
    by_cases e : x = w
    · rw [e]; exact hw
    · rw [if_neg e] at q; exact h.w q
  · have q : up (bM B) w 12 x < 12 := q
    have e : x ≠ w := fun z => by rw [z, up_same] at q; omega
    rw [up_ne e] at q
    obtain ⟨a1, a2, a3⟩ := h.fit q
    show (hb (bf B x) (up (bM B) w 12 x) && hb (bw (wW B w th)) x && hb (bt B) (up (bM B) w 12 x)) = true
    rw [up_ne e, wW_hb (by omega), if_neg e, a1, a2, a3]; rfl
theorem wT_ok (h : BOK B) {t : Nat} {th : Bool} (ht : t < bm B) : BOK (wT B t th) := by
  have hm := h.m
  refine ⟨h.1, h.2.1, fun x q => ?_, h.2.2.2.1, h.2.2.2.2.1, h.2.2.2.2.2.1, dr_Mt h.M.1 _, fun x q => ?_⟩
  · rw [wT_hb (by omega)] at q
    by_cases e : x = t
    · rw [e]; exact ht
    · rw [if_neg e] at q; exact h.t q
  · have q : up (bM B) (ow (bM B) t) 12 x < 12 := q
    have e : x ≠ ow (bM B) t := fun z => by rw [z, up_same] at q; omega
    rw [up_ne e] at q
    obtain ⟨a1, a2, a3⟩ := h.fit q
    have e2 : bM B x ≠ t := fun z => by
      have hx := h.M.1.w12 q
      exact e ((ow_iff h.M.1 (by omega) hx).mpr z).symm
    show (hb (bf B x) (up (bM B) (ow (bM B) t) 12 x) && hb (bw B) x && hb (bt (wT B t th)) (up (bM B) (ow (bM B) t) 12 x)) = true
    rw [up_ne e, wT_hb (by omega), if_neg e2, a1, a2, a3]; rfl
end Wb
section Ba
variable {b : Nat} {μ : MM} {B : Bk}
theorem c_setFit (hk : bkOK shI b = true) (h : BC μ b B) {w t c : Nat} (hw : w < 12) (ht : t < 12) : ∃ ν, f_X0_setFit b (Int32.ofNat w) (Int32.ofNat t) (Int32.ofNat c) ((mX Ξ) μ) = some ((mX Ξ) ν) ∧ BC ν b (wF B w t c) ∧ Fr (FB b) μ ν := by
  have e : Int32.ofNat w * (12 : Int32) + Int32.ofNat t = Int32.ofNat (w * 12 + t) := by
    rw [show (12 : Int32) = Int32.ofNat 12 from rfl, oN_mul, oN_add]
  obtain ⟨⟨h0, h1, h2, h3, h4⟩, h5, h6, h7, h8, h9⟩ := h
  have r1 : ∀ v, (st μ (b + 4) (w * 12 + t) v).1 (b + 2) w = bf B w := fun v => by rw [st_ne (Or.inl (by omega))]; exact h6 w hw
  have r2 : ∀ v u, (st (st μ (b + 4) (w * 12 + t) v) (b + 2) w u).1 (b + 3) t = μ.1 (b + 3) t := fun v u => by rw [st_ne (Or.inl (by omega)), st_ne (Or.inl (by omega))]
  refine ⟨st (st (st μ (b + 4) (w * 12 + t) (Int32.ofNat c)) (b + 2) w (bf B w ||| ((1 : Int32) <<< (Int32.ofNat t &&& 31)))) (b + 3) t (μ.1 (b + 3) t ||| ((1 : Int32) <<< (Int32.ofNat w &&& 31))), ?_, ⟨⟨?_, ?_, ?_, ?_, ?_⟩, fun x hx => ?_, fun x hx => ?_, fun s hs => ?_, fun x s hx hs => ?_, ?_⟩, (((Fr.refl _ _).st (by unfold FB; omega)).st (by unfold FB; omega)).st (by unfold FB; omega)⟩
  · simp (disch := omega) only [f_X0_setFit, f_X0_setFit_J52, bk_v hk, bk_i0 hk, bk_i1 hk, bk_i2 hk, bk_i3 hk, bk_i4 hk, bk_p0 hk, bk_p1 hk, bk_p2 hk, bk_p3 hk, bk_p4 hk, bk_r5 hk, bk_r6 hk, bk_r7 hk, bk_r8 hk, bk_r9 hk, bk_a1 hk, bk_a2 hk, bk_a3 hk, bk_a4 hk, bk_s1 hk, bk_s2 hk, bk_s3 hk, bk_s4 hk, c_inLimit_n, hw, ht, e, r1, r2, lt, true_or, or_true, false_or, or_false, Option.bind_some, if_true, if_false, bI_0, bI_1, bI_z, eI_n1, eI_l0, eI_g12, oN_n1, oN_l0, oN_g0, n1_l0, n1_g12, n1_0, n1_n1, z_0, z_1, z_2, z_3, z_4, z_5, z_6, z_7, z_8, z_9, z_a, z_b, z_c, z_d, z_e, z_f, oN_inj, oN_lt, oN_gt, oN_ge, oN_le, i_succ, if_pos, if_neg, c_has, c_bit, Bool.true_eq_false, Bool.false_eq_true, decide_true, decide_false, decide_eq_true_eq, decide_eq_false_iff_not, eI_lt, lle_0, lge_0, llt_0, lgt_0, leq_0, lle_1, lge_1, llt_1, lgt_1, leq_1, lle_2, lge_2, llt_2, lgt_2, leq_2, lle_3, lge_3, llt_3, lgt_3, leq_3, lle_4, lge_4, llt_4, lgt_4, leq_4, lle_5, lge_5, llt_5, lgt_5, leq_5, lle_6, lge_6, llt_6, lgt_6, leq_6, lle_7, lge_7, llt_7, lgt_7, leq_7, lle_11, lge_11, llt_11, lgt_11, leq_11, lle_12, lge_12, llt_12, lgt_12, leq_12, lle_15, lge_15, llt_15, lgt_15, leq_15, lle_20, lge_20, llt_20, lgt_20, leq_20, lle_24, lge_24, llt_24, lgt_24, leq_24, lle_25, lge_25, llt_25, lgt_25, leq_25, lle_31, lge_31, llt_31, lgt_31, leq_31, lle_48, lge_48, llt_48, lgt_48, leq_48, lle_57, lge_57, llt_57, lgt_57, leq_57, lle_32, lge_32, llt_32, lgt_32, leq_32, lle_59, lge_59, llt_59, lgt_59, leq_59, lle_97, lge_97, llt_97, lgt_97, leq_97, lle_122, lge_122, llt_122, lgt_122, leq_122, lle_99, lge_99, llt_99, lgt_99, leq_99, lle_100, lge_100, llt_100, lgt_100, leq_100, lle_144, lge_144, llt_144, lgt_144, leq_144, lle_255, lge_255, llt_255, lgt_255, leq_255, lle_300, lge_300, llt_300, lgt_300, leq_300, lle_1000, lge_1000, llt_1000, lgt_1000, leq_1000, lle_1000000, lge_1000000, llt_1000000, lgt_1000000, leq_1000000, lle_4096, lge_4096, llt_4096, lgt_4096, leq_4096, b_ft]
  · rw [st_ne (Or.inl (by omega)), st_ne (Or.inl (by omega)), st_ne (Or.inl (by omega))]; exact h0
  · rw [st_ne (Or.inl (by omega)), st_ne (Or.inl (by omega)), st_ne (Or.inl (by omega))]; exact h1
  · rw [st_ne (Or.inl (by omega)), st_ne (Or.inl (by omega)), st_ne (Or.inl (by omega))]; exact h2
  · rw [st_ne (Or.inl (by omega)), st_ne (Or.inl (by omega)), st_ne (Or.inl (by omega))]; exact h3
  · rw [st_ne (Or.inl (by omega)), st_ne (Or.inl (by omega)), st_ne (Or.inl (by omega))]; exact h4
  · rw [st_ne (Or.inl (by omega)), st_ne (Or.inl (by omega)), st_ne (Or.inl (by omega))]; exact h5 x hx
  · rw [st_ne (Or.inl (by omega)), st_at]
    show _ = if x = w then bf B w ||| ((1 : Int32) <<< (Int32.ofNat t &&& 31)) else bf B x
    by_cases z : x = w
    · rw [if_pos ⟨rfl, z⟩, if_pos z]
    · rw [if_neg (fun y => z y.2), if_neg z, st_ne (Or.inl (by omega))]; exact h6 x hx
  · intro k
    rw [st_at]
    have hm := h7 s hs
    show _ = (decide (k < 12) && hb (bf (wF B w t c) k) s)
    rw [wF_hb ht]
    by_cases z : s = t
    · rw [if_pos ⟨rfl, z⟩, hb_or, hb_bit k (by omega), ← z, hm k]
      by_cases y : k = w
      · subst y; simp [hw]
      · simp [y]
    · rw [if_neg (fun y => z y.2), st_ne (Or.inl (by omega)), st_ne (Or.inl (by omega)), hm k]
      simp [z]
  · rw [st_ne (Or.inl (by omega)), st_ne (Or.inl (by omega)), st_at, wF_hb ht]
    show _ = if _ then Int32.ofNat (if x = w ∧ s = t then c else bc B x s) else -1
    by_cases z : x = w ∧ s = t
    · rw [if_pos ⟨rfl, by rw [z.1, z.2]⟩, if_pos z]
      simp [z.1, z.2]
    · rw [if_neg (fun y => z (by omega)), if_neg z, h8 x s hx hs]
      have : (decide (x = w) && decide (s = t)) = false := by
        by_cases y : x = w
        · have : s ≠ t := fun q => z ⟨y, q⟩
          simp [this]
        · simp [y]
      rw [this, Bool.or_false]
  · exact h9.fr ((((Fr.refl (fun q _ => q = b + 4 ∨ q = b + 2 ∨ q = b + 3) _).st (Or.inl rfl)).st (Or.inr (Or.inl rfl))).st (Or.inr (Or.inr rfl))) (fun i => by omega) (fun i => by omega)
theorem c_removeFit (hk : bkOK shI b = true) (h : BC μ b B) {w t : Nat} (hw : w < 12) (ht : t < 12) : ∃ ν, f_X0_removeFit b (Int32.ofNat w) (Int32.ofNat t) ((mX Ξ) μ) = some ((mX Ξ) ν) ∧ BC ν b (wD B w t) ∧ Fr (FB b) μ ν := by
  have e : Int32.ofNat w * (12 : Int32) + Int32.ofNat t = Int32.ofNat (w * 12 + t) := by
    rw [show (12 : Int32) = Int32.ofNat 12 from rfl, oN_mul, oN_add]
  obtain ⟨⟨h0, h1, h2, h3, h4⟩, h5, h6, h7, h8, h9⟩ := h
  have hp := bk_pr hk
  have r1 : ∀ v, (st μ (b + 4) (w * 12 + t) v).1 (b + 2) w = bf B w := fun v => by rw [st_ne (Or.inl (by omega))]; exact h6 w hw
  have r2 : ∀ v u, (st (st μ (b + 4) (w * 12 + t) v) (b + 2) w u).1 (b + 3) t = μ.1 (b + 3) t := fun v u => by rw [st_ne (Or.inl (by omega)), st_ne (Or.inl (by omega))]
  let ν := st (st (st μ (b + 4) (w * 12 + t) (-1)) (b + 2) w (bf B w &&& (((1 : Int32) <<< (Int32.ofNat t &&& 31)) ^^^ (-1)))) (b + 3) t (μ.1 (b + 3) t &&& (((1 : Int32) <<< (Int32.ofNat w &&& 31)) ^^^ (-1)))
  have f0 : Fr (fun q _ => q = b + 4 ∨ q = b + 2 ∨ q = b + 3) μ ν := (((Fr.refl _ _).st (Or.inl rfl)).st (Or.inr (Or.inl rfl))).st (Or.inr (Or.inr rfl))
  have p0 : PR ν (b + 5) (bM B) := h9.fr f0 (fun i => by omega) (fun i => by omega)
  have f1 : Fr (FB b) μ ν := f0.mono fun q i z => by unfold FB; omega
  -- all but the pairs
  have bc' : ∀ ξ : MM, Fr (FP (b + 5)) ν ξ → PR ξ (b + 5) (bM (wD B w t)) → BC ξ b (wD B w t) := fun ξ hf hpr => by
    have g : ∀ q i, q ≠ b + 6 → q ≠ b + 7 → ξ.1 q i = ν.1 q i := fun q i x y => (hf q i (by unfold FP; omega)).1
    refine ⟨⟨?_, ?_, ?_, ?_, ?_⟩, fun x hx => ?_, fun x hx => ?_, fun s hs => ?_, fun x s hx hs => ?_, hpr⟩
    · rw [g _ _ (by omega) (by omega), st_ne (Or.inl (by omega)), st_ne (Or.inl (by omega)), st_ne (Or.inl (by omega))]; exact h0
    · rw [g _ _ (by omega) (by omega), st_ne (Or.inl (by omega)), st_ne (Or.inl (by omega)), st_ne (Or.inl (by omega))]; exact h1
    · rw [g _ _ (by omega) (by omega), st_ne (Or.inl (by omega)), st_ne (Or.inl (by omega)), st_ne (Or.inl (by omega))]; exact h2
    · rw [g _ _ (by omega) (by omega), st_ne (Or.inl (by omega)), st_ne (Or.inl (by omega)), st_ne (Or.inl (by omega))]; exact h3
    · rw [g _ _ (by omega) (by omega), st_ne (Or.inl (by omega)), st_ne (Or.inl (by omega)), st_ne (Or.inl (by omega))]; exact h4
    · rw [g _ _ (by omega) (by omega), st_ne (Or.inl (by omega)), st_ne (Or.inl (by omega)), st_ne (Or.inl (by omega))]; exact h5 x hx
    · rw [g _ _ (by omega) (by omega), st_ne (Or.inl (by omega)), st_at]
      show _ = if x = w then bf B w &&& (((1 : Int32) <<< (Int32.ofNat t &&& 31)) ^^^ (-1)) else bf B x
      by_cases z : x = w
      · rw [if_pos ⟨rfl, z⟩, if_pos z]
      · rw [if_neg (fun y => z y.2), if_neg z, st_ne (Or.inl (by omega))]; exact h6 x hx
    · intro k
      rw [g _ _ (by omega) (by omega), st_at]
      have hm := h7 s hs
      show _ = (decide (k < 12) && hb (bf (wD B w t) k) s)
      rw [wD_hb ht]
      by_cases z : s = t
      · rw [if_pos ⟨rfl, z⟩, hb_and, hb_not, hb_bit k (by omega), ← z, hm k]
        by_cases y : k = w
        · subst y; simp
        · by_cases c : k < 12
          · simp [y, c, show k < 32 by omega]
          · simp [c]
      · rw [if_neg (fun y => z y.2), st_ne (Or.inl (by omega)), st_ne (Or.inl (by omega)), hm k]
        simp [z]
    · rw [g _ _ (by omega) (by omega), st_ne (Or.inl (by omega)), st_ne (Or.inl (by omega)), st_at, wD_hb ht]
      show _ = if _ then Int32.ofNat (bc B x s) else -1
      by_cases z : x = w ∧ s = t
      · rw [if_pos ⟨rfl, by rw [z.1, z.2]⟩]
        simp [z.1, z.2]
      · rw [if_neg (fun y => z (by omega)), h8 x s hx hs]
        have : (decide (x = w) && decide (s = t)) = false := by
          by_cases y : x = w
          · have : s ≠ t := fun q => z ⟨y, q⟩
            simp [this]
          · simp [y]
        rw [this]; simp
  have ct := c_taskOf (Ξ := Ξ) hp p0 hw
  by_cases c : bM B w = t
  · obtain ⟨ξ, e2, p1, p2⟩ := c_loosenWorker (Ξ := Ξ) hp p0 (k := w) (by omega)
    rw [eI_lt hw] at e2
    refine ⟨ξ, ?_, bc' ξ p2 (by show PR ξ (b + 5) (if bM B w = t then up (bM B) w 12 else bM B); rw [if_pos c]; exact p1), f1.trans (p2.mono fun q i z => by unfold FP at z; unfold FB; omega)⟩
    simp (disch := omega) only [f_X0_removeFit, f_X0_removeFit_J76, bk_v hk, bk_i0 hk, bk_i1 hk, bk_i2 hk, bk_i3 hk, bk_i4 hk, bk_p0 hk, bk_p1 hk, bk_p2 hk, bk_p3 hk, bk_p4 hk, bk_r5 hk, bk_r6 hk, bk_r7 hk, bk_r8 hk, bk_r9 hk, bk_a1 hk, bk_a2 hk, bk_a3 hk, bk_a4 hk, bk_s1 hk, bk_s2 hk, bk_s3 hk, bk_s4 hk, c_inLimit_n, hw, ht, e, r1, r2, lt, true_or, or_true, false_or, or_false, Option.bind_some, if_true, if_false, bI_0, bI_1, bI_z, eI_n1, eI_l0, eI_g12, oN_n1, oN_l0, oN_g0, n1_l0, n1_g12, n1_0, n1_n1, z_0, z_1, z_2, z_3, z_4, z_5, z_6, z_7, z_8, z_9, z_a, z_b, z_c, z_d, z_e, z_f, oN_inj, oN_lt, oN_gt, oN_ge, oN_le, i_succ, if_pos, if_neg, c_has, c_bit, Bool.true_eq_false, Bool.false_eq_true, decide_true, decide_false, decide_eq_true_eq, decide_eq_false_iff_not, eI_lt, lle_0, lge_0, llt_0, lgt_0, leq_0, lle_1, lge_1, llt_1, lgt_1, leq_1, lle_2, lge_2, llt_2, lgt_2, leq_2, lle_3, lge_3, llt_3, lgt_3, leq_3, lle_4, lge_4, llt_4, lgt_4, leq_4, lle_5, lge_5, llt_5, lgt_5, leq_5, lle_6, lge_6, llt_6, lgt_6, leq_6, lle_7, lge_7, llt_7, lgt_7, leq_7, lle_11, lge_11, llt_11, lgt_11, leq_11, lle_12, lge_12, llt_12, lgt_12, leq_12, lle_15, lge_15, llt_15, lgt_15, leq_15, lle_20, lge_20, llt_20, lgt_20, leq_20, lle_24, lge_24, llt_24, lgt_24, leq_24, lle_25, lge_25, llt_25, lgt_25, leq_25, lle_31, lge_31, llt_31, lgt_31, leq_31, lle_48, lge_48, llt_48, lgt_48, leq_48, lle_57, lge_57, llt_57, lgt_57, leq_57, lle_32, lge_32, llt_32, lgt_32, leq_32, lle_59, lge_59, llt_59, lgt_59, leq_59, lle_97, lge_97, llt_97, lgt_97, leq_97, lle_122, lge_122, llt_122, lgt_122, leq_122, lle_99, lge_99, llt_99, lgt_99, leq_99, lle_100, lge_100, llt_100, lgt_100, leq_100, lle_144, lge_144, llt_144, lgt_144, leq_144, lle_255, lge_255, llt_255, lgt_255, leq_255, lle_300, lge_300, llt_300, lgt_300, leq_300, lle_1000, lge_1000, llt_1000, lgt_1000, leq_1000, lle_1000000, lge_1000000, llt_1000000, lgt_1000000, leq_1000000, lle_4096, lge_4096, llt_4096, lgt_4096, leq_4096, b_ft]
    rw [show f_X3_taskOf (b + 5) (Int32.ofNat w) ((mX Ξ) (st (st (st μ (b + 4) (w * 12 + t) (-1)) (b + 2) w (bf B w &&& (((1 : Int32) <<< (Int32.ofNat t &&& 31)) ^^^ (-1)))) (b + 3) t (μ.1 (b + 3) t &&& (((1 : Int32) <<< (Int32.ofNat w &&& 31)) ^^^ (-1))))) = _ from ct]
    simp (disch := omega) only [pr_v hp, pr_1 hp, pr_2 hp, pr_a1 hp, pr_a2 hp, pr_s1 hp, pr_s2 hp, bk_v hk, bk_i0 hk, bk_i1 hk, bk_i2 hk, bk_i3 hk, bk_i4 hk, bk_p0 hk, bk_p1 hk, bk_p2 hk, bk_p3 hk, bk_p4 hk, bk_r5 hk, bk_r6 hk, bk_r7 hk, bk_r8 hk, bk_r9 hk, bk_a1 hk, bk_a2 hk, bk_a3 hk, bk_a4 hk, bk_s1 hk, bk_s2 hk, bk_s3 hk, bk_s4 hk, c, e2, lt, true_or, or_true, false_or, or_false, Option.bind_some, if_true, if_false, bI_0, bI_1, bI_z, eI_n1, eI_l0, eI_g12, oN_n1, oN_l0, oN_g0, n1_l0, n1_g12, n1_0, n1_n1, z_0, z_1, z_2, z_3, z_4, z_5, z_6, z_7, z_8, z_9, z_a, z_b, z_c, z_d, z_e, z_f, oN_inj, oN_lt, oN_gt, oN_ge, oN_le, i_succ, if_pos, if_neg, c_has, c_bit, Bool.true_eq_false, Bool.false_eq_true, decide_true, decide_false, decide_eq_true_eq, decide_eq_false_iff_not, eI_lt, lle_0, lge_0, llt_0, lgt_0, leq_0, lle_1, lge_1, llt_1, lgt_1, leq_1, lle_2, lge_2, llt_2, lgt_2, leq_2, lle_3, lge_3, llt_3, lgt_3, leq_3, lle_4, lge_4, llt_4, lgt_4, leq_4, lle_5, lge_5, llt_5, lgt_5, leq_5, lle_6, lge_6, llt_6, lgt_6, leq_6, lle_7, lge_7, llt_7, lgt_7, leq_7, lle_11, lge_11, llt_11, lgt_11, leq_11, lle_12, lge_12, llt_12, lgt_12, leq_12, lle_15, lge_15, llt_15, lgt_15, leq_15, lle_20, lge_20, llt_20, lgt_20, leq_20, lle_24, lge_24, llt_24, lgt_24, leq_24, lle_25, lge_25, llt_25, lgt_25, leq_25, lle_31, lge_31, llt_31, lgt_31, leq_31, lle_48, lge_48, llt_48, lgt_48, leq_48, lle_57, lge_57, llt_57, lgt_57, leq_57, lle_32, lge_32, llt_32, lgt_32, leq_32, lle_59, lge_59, llt_59, lgt_59, leq_59, lle_97, lge_97, llt_97, lgt_97, leq_97, lle_122, lge_122, llt_122, lgt_122, leq_122, lle_99, lge_99, llt_99, lgt_99, leq_99, lle_100, lge_100, llt_100, lgt_100, leq_100, lle_144, lge_144, llt_144, lgt_144, leq_144, lle_255, lge_255, llt_255, lgt_255, leq_255, lle_300, lge_300, llt_300, lgt_300, leq_300, lle_1000, lge_1000, llt_1000, lgt_1000, leq_1000, lle_1000000, lge_1000000, llt_1000000, lgt_1000000, leq_1000000, lle_4096, lge_4096, llt_4096, lgt_4096, leq_4096, b_ft]
  · refine ⟨ν, ?_, bc' ν (Fr.refl _ _) (by show PR ν (b + 5) (if bM B w = t then up (bM B) w 12 else bM B); rw [if_neg c]; exact p0), f1⟩
    have ne : ¬ (eI (bM B w) = Int32.ofNat t) := by rw [eI_oN (p0.1.1 w) ht]; exact c
    simp (disch := omega) only [f_X0_removeFit, f_X0_removeFit_J76, bk_v hk, bk_i0 hk, bk_i1 hk, bk_i2 hk, bk_i3 hk, bk_i4 hk, bk_p0 hk, bk_p1 hk, bk_p2 hk, bk_p3 hk, bk_p4 hk, bk_r5 hk, bk_r6 hk, bk_r7 hk, bk_r8 hk, bk_r9 hk, bk_a1 hk, bk_a2 hk, bk_a3 hk, bk_a4 hk, bk_s1 hk, bk_s2 hk, bk_s3 hk, bk_s4 hk, c_inLimit_n, hw, ht, e, r1, r2, lt, true_or, or_true, false_or, or_false, Option.bind_some, if_true, if_false, bI_0, bI_1, bI_z, eI_n1, eI_l0, eI_g12, oN_n1, oN_l0, oN_g0, n1_l0, n1_g12, n1_0, n1_n1, z_0, z_1, z_2, z_3, z_4, z_5, z_6, z_7, z_8, z_9, z_a, z_b, z_c, z_d, z_e, z_f, oN_inj, oN_lt, oN_gt, oN_ge, oN_le, i_succ, if_pos, if_neg, c_has, c_bit, Bool.true_eq_false, Bool.false_eq_true, decide_true, decide_false, decide_eq_true_eq, decide_eq_false_iff_not, eI_lt, lle_0, lge_0, llt_0, lgt_0, leq_0, lle_1, lge_1, llt_1, lgt_1, leq_1, lle_2, lge_2, llt_2, lgt_2, leq_2, lle_3, lge_3, llt_3, lgt_3, leq_3, lle_4, lge_4, llt_4, lgt_4, leq_4, lle_5, lge_5, llt_5, lgt_5, leq_5, lle_6, lge_6, llt_6, lgt_6, leq_6, lle_7, lge_7, llt_7, lgt_7, leq_7, lle_11, lge_11, llt_11, lgt_11, leq_11, lle_12, lge_12, llt_12, lgt_12, leq_12, lle_15, lge_15, llt_15, lgt_15, leq_15, lle_20, lge_20, llt_20, lgt_20, leq_20, lle_24, lge_24, llt_24, lgt_24, leq_24, lle_25, lge_25, llt_25, lgt_25, leq_25, lle_31, lge_31, llt_31, lgt_31, leq_31, lle_48, lge_48, llt_48, lgt_48, leq_48, lle_57, lge_57, llt_57, lgt_57, leq_57, lle_32, lge_32, llt_32, lgt_32, leq_32, lle_59, lge_59, llt_59, lgt_59, leq_59, lle_97, lge_97, llt_97, lgt_97, leq_97, lle_122, lge_122, llt_122, lgt_122, leq_122, lle_99, lge_99, llt_99, lgt_99, leq_99, lle_100, lge_100, llt_100, lgt_100, leq_100, lle_144, lge_144, llt_144, lgt_144, leq_144, lle_255, lge_255, llt_255, lgt_255, leq_255, lle_300, lge_300, llt_300, lgt_300, leq_300, lle_1000, lge_1000, llt_1000, lgt_1000, leq_1000, lle_1000000, lge_1000000, llt_1000000, lgt_1000000, leq_1000000, lle_4096, lge_4096, llt_4096, lgt_4096, leq_4096, b_ft]
    rw [show f_X3_taskOf (b + 5) (Int32.ofNat w) ((mX Ξ) (st (st (st μ (b + 4) (w * 12 + t) (-1)) (b + 2) w (bf B w &&& (((1 : Int32) <<< (Int32.ofNat t &&& 31)) ^^^ (-1)))) (b + 3) t (μ.1 (b + 3) t &&& (((1 : Int32) <<< (Int32.ofNat w &&& 31)) ^^^ (-1))))) = _ from ct]
    simp only [pr_v hp, Option.bind_some, if_neg ne, f_X0_removeFit_J76]
end Ba
