/-! MATHEMATICS: the way that changes, edge by edge -/
variable {Ξ : xH}
noncomputable def kEw (C : CC) (a b t0 i : Nat) : Nat := kW C a b t0 (i / 2)
noncomputable def kEt (C : CC) (a b t0 i : Nat) : Nat := kT C a b t0 ((i + 1) / 2)
def kAl (C : CC) (a b t0 i : Nat) : Prop := kEw C a b t0 i < 12 ∧ kEt C a b t0 i < 12
def kIn (C : CC) (a b t0 i w t : Nat) : Prop := ∃ j, j < i ∧ kEw C a b t0 j = w ∧ kEt C a b t0 j = t
def kLen (C : CC) (a b t0 N : Nat) : Prop := (∀ j, j < N → kAl C a b t0 j) ∧ ¬ kAl C a b t0 N
def kco (a b i : Nat) : Nat := if i % 2 = 0 then a else b
section Cl
variable {C : CC} {a b t0 : Nat}
theorem kE_even (k : Nat) : kEw C a b t0 (2 * k) = kW C a b t0 k ∧ kEt C a b t0 (2 * k) = kT C a b t0 k := by
  unfold kEw kEt
  rw [show 2 * k / 2 = k by omega, show (2 * k + 1) / 2 = k by omega]; exact ⟨rfl, rfl⟩
theorem kE_odd (k : Nat) : kEw C a b t0 (2 * k + 1) = kW C a b t0 k ∧ kEt C a b t0 (2 * k + 1) = kT C a b t0 (k + 1) := by
  unfold kEw kEt
  rw [show (2 * k + 1) / 2 = k by omega, show (2 * k + 1 + 1) / 2 = k + 1 by omega]; exact ⟨rfl, rfl⟩
theorem kAl_co (h : Cp C) (ha : a < 12) (hb : b < 12) {i : Nat} (q : kAl C a b t0 i) : C (kEw C a b t0 i) (kEt C a b t0 i) = kco a b i := by
  unfold kco
  rcases Nat.mod_two_eq_zero_or_one i with z | z
  · obtain ⟨k, rfl⟩ : ∃ k, i = 2 * k := ⟨i / 2, by omega⟩
    unfold kAl at q
    rw [(kE_even k).1, (kE_even k).2] at q ⊢
    rw [if_pos z]; exact (kW_edge h ha q.1).1
  · obtain ⟨k, rfl⟩ : ∃ k, i = 2 * k + 1 := ⟨i / 2, by omega⟩
    unfold kAl at q
    rw [(kE_odd k).1, (kE_odd k).2] at q ⊢
    rw [if_neg (by omega)]; exact (kT_edge h ha hb q.2).2.2.2
theorem kAl_23 (h : Cp C) (ha : a < 12) (hb : b < 12) (h0 : ∀ w, C w t0 ≠ b) {i : Nat} (q : kAl C a b t0 i) : i ≤ 22 := by
  apply Nat.le_of_not_lt
  intro z
  have : kT C a b t0 ((i + 1) / 2) < 12 := q.2
  exact kT_dead h ha hb h0 (kT_down h ha hb ((i + 1) / 2 - 12) 12 (by rw [show 12 + ((i + 1) / 2 - 12) = (i + 1) / 2 by omega]; exact this))
/-- a dead edge: all behind it are -/
theorem kAl_down (h : Cp C) (ha : a < 12) (hb : b < 12) {i : Nat} (q : kAl C a b t0 (i + 1)) : kAl C a b t0 i := by
  rcases Nat.mod_two_eq_zero_or_one i with z | z
  · obtain ⟨k, rfl⟩ : ∃ k, i = 2 * k := ⟨i / 2, by omega⟩
    unfold kAl at q ⊢
    rw [(kE_odd k).1, (kE_odd k).2] at q
    rw [(kE_even k).1, (kE_even k).2]
    exact ⟨q.1, (kT_edge h ha hb q.2).2.1⟩
  · obtain ⟨k, rfl⟩ : ∃ k, i = 2 * k + 1 := ⟨i / 2, by omega⟩
    unfold kAl at q ⊢
    rw [show 2 * k + 1 + 1 = 2 * (k + 1) by omega, (kE_even (k + 1)).1, (kE_even (k + 1)).2] at q
    rw [(kE_odd k).1, (kE_odd k).2]
    exact ⟨(kT_edge h ha hb q.2).1, q.2⟩
theorem kAl_le (h : Cp C) (ha : a < 12) (hb : b < 12) : ∀ (d i : Nat), kAl C a b t0 (i + d) → kAl C a b t0 i
  | 0, _, q => q
  | d + 1, i, q => kAl_le h ha hb d i (kAl_down h ha hb q)
theorem kAl_TS (h : Cp C) {i : Nat} (q : kAl C a b t0 i) : TSk C a b t0 (kEt C a b t0 i) := ⟨q.2, _, rfl⟩
/-- the edges that change are those of the way -/
theorem kIn_iff (h : Cp C) (ha : a < 12) (hb : b < 12) (h0 : ∀ w, C w t0 ≠ b) {N : Nat} (hN : kLen C a b t0 N) {w t : Nat} : kIn C a b t0 N w t ↔ (TSk C a b t0 t ∧ (C w t = a ∨ C w t = b)) := by
  have al : ∀ i, kAl C a b t0 i → i < N := fun i q => by
    apply Nat.lt_of_not_le
    intro z
    exact hN.2 (kAl_le h ha hb (i - N) N (by rw [show N + (i - N) = i by omega]; exact q))
  constructor
  · rintro ⟨j, j1, rfl, rfl⟩
    have q := hN.1 j j1
    refine ⟨kAl_TS h q, ?_⟩
    rw [kAl_co h ha hb q]
    unfold kco
    split
    · exact Or.inl rfl
    · exact Or.inr rfl
  · rintro ⟨⟨t12, k, rfl⟩, e⟩
    have w12 : w < 12 := h.w (t := kT C a b t0 k) (by omega)
    rcases e with e | e
    · have ew : kW C a b t0 k = w := (wA_iff h ha w12).mpr e
      refine ⟨2 * k, al _ ?_, ?_, ?_⟩
      · unfold kAl
        rw [(kE_even k).1, (kE_even k).2, ew]; exact ⟨w12, t12⟩
      · rw [(kE_even k).1]; exact ew
      · exact (kE_even k).2
    · cases k with
      | zero => exact absurd e (h0 w)
      | succ k =>
        obtain ⟨q1, q2, _, q4⟩ := kT_edge h ha hb t12
        have ew : kW C a b t0 k = w := (h.2 (kT C a b t0 (k + 1))).2.2 _ _ (by show C _ _ < 12; rw [q4]; exact hb) (q4.trans e.symm)
        refine ⟨2 * k + 1, al _ ?_, ?_, ?_⟩
        · unfold kAl
          rw [(kE_odd k).1, (kE_odd k).2]; exact ⟨q1, t12⟩
        · rw [(kE_odd k).1]; exact ew
        · exact (kE_odd k).2
theorem kw_in (h : Cp C) (ha : a < 12) (hb : b < 12) {i : Nat} (q : kAl C a b t0 i) (ab : a ≠ b) : kw C a b t0 (kEw C a b t0 i) (kEt C a b t0 i) = kco b a i := by
  rw [kw_t (kAl_TS h q), kAl_co h ha hb q]
  unfold kco sw
  by_cases z : i % 2 = 0
  · rw [if_pos z, if_pos rfl, if_pos z]
  · rw [if_neg z, if_neg (Ne.symm ab), if_pos rfl, if_neg z]
theorem kw_out (h : Cp C) (ha : a < 12) (hb : b < 12) (h0 : ∀ w, C w t0 ≠ b) {N : Nat} (hN : kLen C a b t0 N) {w t : Nat} (q : ¬ kIn C a b t0 N w t) : kw C a b t0 w t = C w t := by
  by_cases z : TSk C a b t0 t
  · rw [kw_t z]
    exact sw_out (fun e => q ((kIn_iff h ha hb h0 hN).mpr ⟨z, Or.inl e⟩)) (fun e => q ((kIn_iff h ha hb h0 hN).mpr ⟨z, Or.inr e⟩))
  · exact kw_f z
/-- a part of what another has -/
def Sub (D C : CC) : Prop := ∀ w t, D w t = C w t ∨ D w t = 12
theorem Sub.lt {D C : CC} (s : Sub D C) {w t : Nat} (q : D w t < 12) : D w t = C w t := (s w t).resolve_right (by omega)
theorem Sub.Cp {D C : CC} (s : Sub D C) (h : Cp C) : Cp D := by
  refine ⟨fun w => ⟨fun t => ?_, fun t ht => ?_, fun t u q e => ?_⟩, fun t => ⟨fun w => ?_, fun w hw => ?_, fun w v q e => ?_⟩⟩
  · rcases s w t with z | z
    · rw [z]; exact (h.1 w).1 t
    · omega
  · rcases s w t with z | z
    · rw [z]; exact (h.1 w).2.1 t ht
    · exact z
  · have e1 := s.lt q
    have e2 := s.lt (show D w u < 12 by omega)
    exact (h.1 w).2.2 t u (by omega) (by omega)
  · show D w t ≤ 12
    rcases s w t with z | z
    · rw [z]; exact (h.1 w).1 t
    · omega
  · show D w t = 12
    rcases s w t with z | z
    · rw [z]; exact (h.2 t).2.1 w hw
    · exact z
  · have q : D w t < 12 := q
    have e : D w t = D v t := e
    have e1 := s.lt q
    have e2 := s.lt (show D v t < 12 by omega)
    exact (h.2 t).2.2 w v (by show C w t < 12; omega) (by show C w t = C v t; omega)
theorem Sub.set {D C : CC} (s : Sub D C) {w t c : Nat} (e : c = C w t ∨ c = 12) : Sub (setC D w t c) C := fun v u => by
  by_cases z : v = w ∧ u = t
  · rw [z.1, z.2, setC_same]; exact e
  · rw [setC_ne z]; exact s v u
/-- a cell changes between a round and none: the tables -/
theorem tA_set {D : CC} {w t c x : Nat} (hD : Cp (setC D w t x)) (hx : x = c ∨ x = 12) (hc : c < 12) (ht : t < 12) (hw : w < 12) (he : D w t = c ∨ D w t = 12) (fr : ∀ u, u ≠ t → D w u ≠ c) {v d : Nat} (hd : d < 12) : tA (setC D w t x) v d = if v = w ∧ d = c then (if x = c then t else 12) else tA D v d := by
  by_cases z : v = w ∧ d = c
  · rw [if_pos z, z.1, z.2]
    by_cases y : x = c
    · rw [if_pos y]
      exact (tA_iff hD hc ht).mpr (by rw [setC_same]; exact y)
    · rw [if_neg y]
      refine ow_none.mpr fun u hu e => ?_
      by_cases q : u = t
      · rw [q, setC_same] at e; omega
      · rw [setC_ne (by omega)] at e; exact fr u q e
  · rw [if_neg z]
    unfold tA ow
    refine fi_congr fun u hu => ?_
    by_cases q : v = w ∧ u = t
    · rw [q.1, q.2, setC_same]
      have n1 : ¬ x = d := by omega
      have n2 : ¬ D w t = d := by omega
      rw [decide_eq_false n1, decide_eq_false n2]
    · rw [setC_ne q]
end Cl
/-- the class's tables: D in the two of the rounds, X in that of the fits -/
def CRd (ν : MM) (D X : CC) : Prop := (∀ w c, w < 12 → c < 12 → ν.1 163 (w * 12 + c) = eI (tA D w c)) ∧ (∀ t c, t < 12 → c < 12 → ν.1 164 (t * 12 + c) = eI (wA D t c)) ∧ ∀ w t, w < 12 → t < 12 → ν.1 165 (w * 12 + t) = eI (X w t)
section Cm
variable {μ : MM}
theorem c_cellOf {p i j : Nat} (ha : ∀ {ν : MM} {k : Nat}, k < 144 → aI ((mX Ξ) ν) p (Int32.ofNat k) = some (ν.1 p k)) (hi : i < 12) (hj : j < 12) : f_X1_cellOf p (Int32.ofNat i) (Int32.ofNat j) ((mX Ξ) μ) = some (μ.1 p (i * 12 + j), (mX Ξ) μ) := by
  have i1 := c_inLimit_n (k := i) (h := (mX Ξ) μ) (by omega)
  have i2 := c_inLimit_n (k := j) (h := (mX Ξ) μ) (by omega)
  rw [decide_eq_true hi] at i1
  rw [decide_eq_true hj] at i2
  have e : Int32.ofNat i * 12 + Int32.ofNat j = Int32.ofNat (i * 12 + j) := by rw [show (12 : Int32) = Int32.ofNat 12 from rfl, oN_mul, oN_add]
  simp only [f_X1_cellOf, ↓hbind i1, show bI true = 1 from rfl, z_1, ↓reduceIte, ↓hbind i2, e, ↓hbind (ha (ν := μ) (show i * 12 + j < 144 by omega)), f_X1_cellOf_J26]
theorem c_setCell {p i j : Nat} {v : Int32} (ha : ∀ {ν : MM} {k : Nat} {v : Int32}, k < 144 → sI ((mX Ξ) ν) p (Int32.ofNat k) v = some ((mX Ξ) (st ν p k v))) (hi : i < 12) (hj : j < 12) : f_X1_setCell p (Int32.ofNat i) (Int32.ofNat j) v ((mX Ξ) μ) = some ((mX Ξ) (st μ p (i * 12 + j) v)) := by
  have i1 := c_inLimit_n (k := i) (h := (mX Ξ) μ) (by omega)
  have i2 := c_inLimit_n (k := j) (h := (mX Ξ) μ) (by omega)
  rw [decide_eq_true hi] at i1
  rw [decide_eq_true hj] at i2
  have e : Int32.ofNat i * 12 + Int32.ofNat j = Int32.ofNat (i * 12 + j) := by rw [show (12 : Int32) = Int32.ofNat 12 from rfl, oN_mul, oN_add]
  simp only [f_X1_setCell, ↓hbind i1, show bI true = 1 from rfl, z_1, ↓reduceIte, ↓hbind i2, e, ↓hbind (ha (ν := μ) (v := v) (show i * 12 + j < 144 by omega)), f_X1_setCell_J23]
/-- the transposed -/
def tc (C : CC) : CC := fun t w => C w t
theorem tc_Cp {C : CC} (h : Cp C) : Cp (tc C) := ⟨h.2, h.1⟩
theorem tc_set (C : CC) (w t c : Nat) : tc (setC C w t c) = setC (tc C) t w c := by
  funext u v
  unfold tc setC
  by_cases z : v = w ∧ u = t
  · rw [if_pos z, if_pos ⟨z.2, z.1⟩]
  · rw [if_neg z, if_neg fun y => z ⟨y.2, y.1⟩]
theorem wA_set {D : CC} {w t c x : Nat} (hD : Cp (setC D w t x)) (hx : x = c ∨ x = 12) (hc : c < 12) (ht : t < 12) (hw : w < 12) (he : D w t = c ∨ D w t = 12) (fr : ∀ v, v ≠ w → D v t ≠ c) {u d : Nat} (hd : d < 12) : wA (setC D w t x) u d = if u = t ∧ d = c then (if x = c then w else 12) else wA D u d := by
  have := tA_set (D := tc D) (w := t) (t := w) (c := c) (x := x) (by rw [← tc_set]; exact tc_Cp hD) hx hc hw ht he fr (v := u) hd
  rw [← tc_set] at this
  exact this
def FC2 (q _i : Nat) : Prop := q = 163 ∨ q = 164
theorem c_clear162 {C D X : CC} {w t c : Nat} (hC : Cp C) (s : Sub D C) (e : C w t = c) (hc : c < 12) (hr : CRd μ D X) : ∃ ξ, f_X1_clear 162 (Int32.ofNat w) (Int32.ofNat t) (Int32.ofNat c) ((mX Ξ) μ) = some ((mX Ξ) ξ) ∧ Fr FC2 μ ξ ∧ CRd ξ (setC D w t 12) X := by
  have hw : w < 12 := hC.w (t := t) (by omega)
  have ht : t < 12 := hC.t (w := w) (by omega)
  have s' : Sub (setC D w t 12) C := s.set (Or.inr rfl)
  have hD' := s'.Cp hC
  have he : D w t = c ∨ D w t = 12 := by rw [← e]; exact s w t
  have fr1 : ∀ u, u ≠ t → D w u ≠ c := fun u n q => n ((hC.1 w).2.2 u t (by rw [← s.lt (by omega)]; omega) (by rw [← s.lt (w := w) (t := u) (by omega)]; omega))
  have fr2 : ∀ v, v ≠ w → D v t ≠ c := fun v n q => n ((hC.2 t).2.2 v w (by show C v t < 12; rw [← s.lt (by omega)]; omega) (by show C v t = C w t; rw [← s.lt (w := v) (t := t) (by omega)]; omega))
  refine ⟨st (st μ 163 (w * 12 + c) (-1)) 164 (t * 12 + c) (-1), ?_, ((Fr.refl _ _).st (Or.inl rfl)).st (Or.inr rfl), fun v d hv hd => ?_, fun u d hu hd => ?_, fun v u hv hu => ?_⟩
  · simp only [f_X1_clear, ↓hbind gR_162_0, ↓hbind (c_setCell (μ := μ) (v := -1) sI_163 hw hc), ↓hbind gR_162_1, ↓hbind (c_setCell (μ := st μ 163 (w * 12 + c) (-1)) (v := -1) sI_164 ht hc)]
  · rw [st_ne (Or.inl (by omega)), tA_set hD' (Or.inr rfl) hc ht hw he fr1 hd]
    by_cases z : v = w ∧ d = c
    · rw [z.1, z.2, st_same, if_pos ⟨rfl, rfl⟩, if_neg (by omega)]; exact (eI_ge (Nat.le_refl 12)).symm
    · rw [if_neg z, st_ne (Or.inr (by omega))]; exact hr.1 v d hv hd
  · rw [wA_set hD' (Or.inr rfl) hc ht hw he fr2 hd]
    by_cases z : u = t ∧ d = c
    · rw [z.1, z.2, st_same, if_pos ⟨rfl, rfl⟩, if_neg (by omega)]; exact (eI_ge (Nat.le_refl 12)).symm
    · rw [if_neg z, st_ne (Or.inr (by omega)), st_ne (Or.inl (by omega))]; exact hr.2.1 u d hu hd
  · rw [st_ne (Or.inl (by omega)), st_ne (Or.inl (by omega))]; exact hr.2.2 v u hv hu
theorem imax_oN {x y : Nat} (hx : x < 2147483648) (hy : y < 2147483648) : imax (Int32.ofNat x) (Int32.ofNat y) = Int32.ofNat (max x y) := by
  unfold imax
  have c : (Int32.ofNat x < Int32.ofNat y) = (x < y) := by
    have h1 : (Int32.ofNat y > Int32.ofNat x) = (x < y) := oN_gt hy hx
    exact h1
  by_cases z : x < y
  · rw [if_pos (by rw [c]; exact z), Nat.max_eq_right (by omega)]
  · rw [if_neg (by rw [c]; exact z), Nat.max_eq_left (by omega)]
def FC3 (q i : Nat) : Prop := q = 163 ∨ q = 164 ∨ q = 165 ∨ (q = 162 ∧ i = 5)
theorem c_put162 {C D X : CC} {w t c V : Nat} (hC : Cp C) (s : Sub D C) (e : C w t = c) (hc : c < 12) (hV : V ≤ 12) (h5 : μ.1 162 5 = Int32.ofNat V) (hr : CRd μ D X) : ∃ ξ, f_X1_put 162 (Int32.ofNat w) (Int32.ofNat t) (Int32.ofNat c) ((mX Ξ) μ) = some ((mX Ξ) ξ) ∧ Fr FC3 μ ξ ∧ CRd ξ (setC D w t c) (setC X w t c) ∧ ξ.1 162 5 = Int32.ofNat (max V (c + 1)) := by
  have hw : w < 12 := hC.w (t := t) (by omega)
  have ht : t < 12 := hC.t (w := w) (by omega)
  have s' : Sub (setC D w t c) C := s.set (Or.inl e.symm)
  have hD' := s'.Cp hC
  have he : D w t = c ∨ D w t = 12 := by rw [← e]; exact s w t
  have fr1 : ∀ u, u ≠ t → D w u ≠ c := fun u n q => n ((hC.1 w).2.2 u t (by rw [← s.lt (by omega)]; omega) (by rw [← s.lt (w := w) (t := u) (by omega)]; omega))
  have fr2 : ∀ v, v ≠ w → D v t ≠ c := fun v n q => n ((hC.2 t).2.2 v w (by show C v t < 12; rw [← s.lt (by omega)]; omega) (by show C v t = C w t; rw [← s.lt (w := v) (t := t) (by omega)]; omega))
  obtain ⟨ν, hd'⟩ : ∃ x, x = st (st (st μ 163 (w * 12 + c) (Int32.ofNat t)) 164 (t * 12 + c) (Int32.ofNat w)) 165 (w * 12 + t) (Int32.ofNat c) := ⟨_, rfl⟩
  have f1 : Fr (fun q _ => q = 163 ∨ q = 164 ∨ q = 165) μ ν := by rw [hd']; exact (((Fr.refl _ _).st (Or.inl rfl)).st (Or.inr (Or.inl rfl))).st (Or.inr (Or.inr rfl))
  have k5 : ν.1 162 5 = Int32.ofNat V := by rw [(f1 _ _ (by omega)).1]; exact h5
  have r1 : CRd ν (setC D w t c) (setC X w t c) := by
    rw [hd']
    refine ⟨fun v d hv hd => ?_, fun u d hu hd => ?_, fun v u hv hu => ?_⟩
    · rw [st_ne (Or.inl (by omega)), st_ne (Or.inl (by omega)), tA_set hD' (Or.inl rfl) hc ht hw he fr1 hd]
      by_cases z : v = w ∧ d = c
      · rw [z.1, z.2, st_same, if_pos ⟨rfl, rfl⟩, if_pos rfl]; exact (eI_lt ht).symm
      · rw [if_neg z, st_ne (Or.inr (by omega))]; exact hr.1 v d hv hd
    · rw [st_ne (Or.inl (by omega)), wA_set hD' (Or.inl rfl) hc ht hw he fr2 hd]
      by_cases z : u = t ∧ d = c
      · rw [z.1, z.2, st_same, if_pos ⟨rfl, rfl⟩, if_pos rfl]; exact (eI_lt hw).symm
      · rw [if_neg z, st_ne (Or.inr (by omega)), st_ne (Or.inl (by omega))]; exact hr.2.1 u d hu hd
    · by_cases z : v = w ∧ u = t
      · rw [z.1, z.2, st_same, setC_same]; exact (eI_lt hc).symm
      · rw [st_ne (Or.inr (by omega)), st_ne (Or.inl (by omega)), st_ne (Or.inl (by omega)), setC_ne z]; exact hr.2.2 v u hv hu
  have f2 : Fr (fun q i => q = 162 ∧ i = 5) ν (st ν 162 5 (Int32.ofNat (max V (c + 1)))) := (Fr.refl _ _).st ⟨rfl, rfl⟩
  refine ⟨st ν 162 5 (Int32.ofNat (max V (c + 1))), ?_, (f1.mono fun q i z => by unfold FC3; omega).trans (f2.mono fun q i z => Or.inr (Or.inr (Or.inr z))), ⟨fun v d hv hd => ?_, fun u d hu hd => ?_, fun v u hv hu => ?_⟩, st_same _ _ _ _⟩
  · have im := imax_oN (x := V) (y := c + 1) (by omega) (by omega)
    rw [hd'] at k5 ⊢
    simp only [f_X1_put, ↓hbind gR_162_0, ↓hbind (c_setCell (μ := μ) (v := Int32.ofNat t) sI_163 hw hc), ↓hbind gR_162_1, ↓hbind (c_setCell (μ := st μ 163 (w * 12 + c) (Int32.ofNat t)) (v := Int32.ofNat w) sI_164 ht hc), ↓hbind gR_162_2, ↓hbind (c_setCell (μ := st (st μ 163 (w * 12 + c) (Int32.ofNat t)) 164 (t * 12 + c) (Int32.ofNat w)) (v := Int32.ofNat c) sI_165 hw ht), ↓hbind gI_162_5, k5, i_succ, im, ↓hbind pI_162_5]
  · rw [st_ne (Or.inl (by omega))]; exact r1.1 v d hv hd
  · rw [st_ne (Or.inl (by omega))]; exact r1.2.1 u d hu hd
  · rw [st_ne (Or.inl (by omega))]; exact r1.2.2 v u hv hu
end Cm
