/-! THE MODEL: rounds -/
theorem rdOK : ∀ w, w < 12 → (slot shI 102 487 w (isRef (488 + w)) && isA shI 100 (488 + w) 12 isInt) = true := by decide +kernel
theorem mr_rd {μ : MM} {w : Nat} (h : w < 12) : aR 102 (mem μ) 487 (Int32.ofNat w) = some (488 + w) := aR_k ((Bool.and_eq_true _ _).mp (rdOK w h)).1 (by omega)
theorem ma_rd {μ : MM} {w t : Nat} (h : w < 12) (h2 : t < 12) : aI (mem μ) (488 + w) (Int32.ofNat t) = some (μ.1 (488 + w) t) := aI_k ((Bool.and_eq_true _ _).mp (rdOK w h)).2 h2 (by decide)
theorem ms_rd {μ : MM} {w t : Nat} {v : Int32} (h : w < 12) (h2 : t < 12) : sI (mem μ) (488 + w) (Int32.ofNat t) v = some (mem (st μ (488 + w) t v)) := sI_k ((Bool.and_eq_true _ _).mp (rdOK w h)).2 h2 (by decide)
def CRm (ν : MM) (C : CC) : Prop := ∀ w t, w < 12 → t < 12 → ν.1 (488 + w) t = eI (C w t)
def FRd (q _i : Nat) : Prop := 488 ≤ q ∧ q < 500
section Mq
variable {μ : MM} {C : CC} {a b t0 : Nat} {B : Bk}
theorem CRm.set {ν : MM} (h : CRm ν C) {w t c : Nat} (hc : c < 12) : CRm (st ν (488 + w) t (Int32.ofNat c)) (setC C w t c) := fun v u hv hu => by
  by_cases z : v = w ∧ u = t
  · rw [z.1, z.2, st_same, setC_same]; exact (eI_lt hc).symm
  · rw [setC_ne z]
    by_cases y : v = w
    · rw [y, st_ne (Or.inr (by omega))]; exact h w u (by omega) hu
    · rw [st_ne (Or.inl (by omega))]; exact h v u hv hu
theorem m_wr {s x : Int32} {M : Nat → Nat} (hM : Mt M) {c : Nat} (hc : c < 12) (hs : ∀ i, i < 12 → ∀ N, f_X10_withRound_L3 f_X10_withRound_J39 f_X10_withRound_J48 (N + 1) 168 s x (Int32.ofNat c) (Int32.ofNat i) (mem μ) = f_X10_withRound_J35 (f_X10_withRound_L3 f_X10_withRound_J39 f_X10_withRound_J48 N) f_X10_withRound_J39 f_X10_withRound_J48 168 s x (Int32.ofNat c) (Int32.ofNat i) (eI (M i)) (mem μ)) : f_X10_withRound 168 s x (Int32.ofNat c) (mem μ) = some (eI (ow M c), mem μ) := by
  have ol := ow_le M c
  have key : ∀ d i, i + d = ow M c → ∀ f, f_X10_withRound_L3 f_X10_withRound_J39 f_X10_withRound_J48 (d + 1 + f) 168 s x (Int32.ofNat c) (Int32.ofNat i) (mem μ) = some (eI (ow M c), mem μ) := by
    intro d
    induction d with
    | zero =>
      intro i hi f
      rw [show 0 + 1 + f = f + 1 by omega]
      by_cases o : ow M c < 12
      · have e : (eI (M i) = Int32.ofNat c) = True := by rw [show i = ow M c by omega, ow_M o, eI_lt hc]; exact eq_true rfl
        rw [hs i (by omega)]
        simp only [f_X10_withRound_J35, e, ↓reduceIte, f_X10_withRound_J39]
        rw [show i = ow M c by omega, eI_lt o]
      · have c1 : (Int32.ofNat i ≥ 12) = True := by rw [lge_12 (by omega)]; exact eq_true (by omega)
        rw [eI_ge (by omega)]
        simp only [f_X10_withRound_L3, c1, ↓reduceIte, f_X10_withRound_J48]
    | succ d ih =>
      intro i hi f
      have e : (eI (M i) = Int32.ofNat c) = False := by
        rw [← eI_lt hc, eI_inj (hM.1 i) (by omega)]
        refine eq_false fun z => ?_
        have := ow_of hM (w := i) (by omega)
        rw [z] at this; omega
      rw [show d + 1 + 1 + f = d + 1 + f + 1 by omega, hs i (by omega), ← ih (i + 1) (by omega) f]
      simp only [f_X10_withRound_J35, e, ↓reduceIte, lt_go, i_succ]
  have := key (ow M c) 0 (by omega) (5000 - (ow M c + 1))
  rw [show ow M c + 1 + (5000 - (ow M c + 1)) = 5000 by omega] at this
  exact this
theorem m_wr0 (h : Cp C) (hr : CRm μ C) {w c : Nat} (hw : w < 12) (hc : c < 12) : f_X10_withRound 168 0 (Int32.ofNat w) (Int32.ofNat c) (mem μ) = some (eI (tA C w c), mem μ) := by
  refine m_wr (h.1 w) hc (fun i hi N => ?_)
  have c1 : (Int32.ofNat i ≥ 12) = False := by rw [lge_12 (by omega)]; exact eq_false (by omega)
  have e := hr w i hw hi
  simp only [f_X10_withRound_L3, c1, ↓reduceIte, ↓hbind gR_168_32, ↓hbind (mr_rd hw), ↓hbind (ma_rd hw hi), e]
theorem m_wr1 (h : Cp C) (hr : CRm μ C) {t c : Nat} (ht : t < 12) (hc : c < 12) : f_X10_withRound 168 1 (Int32.ofNat t) (Int32.ofNat c) (mem μ) = some (eI (wA C t c), mem μ) := by
  refine m_wr (h.2 t) hc (fun i hi N => ?_)
  have c1 : (Int32.ofNat i ≥ 12) = False := by rw [lge_12 (by omega)]; exact eq_false (by omega)
  have e := hr i t hi ht
  simp only [f_X10_withRound_L3, c1, ↓reduceIte, z_1, ↓hbind gR_168_32, ↓hbind (mr_rd hi), ↓hbind (ma_rd hi ht), e]
theorem m_lr {s x : Int32} {M : Nat → Nat} (hl : lf M < 12) (hs : ∀ c, c < 12 → f_X10_withRound 168 s x (Int32.ofNat c) (mem μ) = some (eI (ow M c), mem μ)) : f_X10_leastRound 168 s x (mem μ) = some (Int32.ofNat (lf M), mem μ) := by
  have key : ∀ d i, i + d = lf M → ∀ f, f_X10_leastRound_L2 f_X10_leastRound_J19 (d + 1 + f) 168 s x (Int32.ofNat i) (mem μ) = some (Int32.ofNat (lf M), mem μ) := by
    intro d
    induction d with
    | zero =>
      intro i hi f
      have e := hs i (by omega)
      rw [show ow M i = 12 by rw [show i = lf M by omega]; exact lf_free hl, eI_ge (Nat.le_refl 12)] at e
      rw [show 0 + 1 + f = f + 1 by omega, ← show i = lf M by omega]
      simp only [f_X10_leastRound_L2, ↓hvc (fun _ => vc_168), ↓hbind e, ↓reduceIte, f_X10_leastRound_J19]
    | succ d ih =>
      intro i hi f
      have e := hs i (by omega)
      have o := lf_min (M := M) (c := i) (by omega)
      have nz : (Int32.ofNat (ow M i) = -1) = False := oN_n1 (by omega)
      rw [eI_lt o] at e
      rw [show d + 1 + 1 + f = d + 1 + f + 1 by omega, ← ih (i + 1) (by omega) f]
      simp only [f_X10_leastRound_L2, ↓hvc (fun _ => vc_168), ↓hbind e, nz, ↓reduceIte, lt_go, i_succ]
  have := key (lf M) 0 (by omega) (5000 - (lf M + 1))
  rw [show lf M + 1 + (5000 - (lf M + 1)) = 5000 by omega] at this
  exact this
/-- changed from the i-th edge of the way on -/
noncomputable def Qi (C : CC) (a b t0 N i : Nat) : CC := fun v u => if pb (∃ j, i ≤ j ∧ j < N ∧ kEw C a b t0 j = v ∧ kEt C a b t0 j = u) then kw C a b t0 v u else C v u
theorem Qi_N {N : Nat} : Qi C a b t0 N N = C := by
  funext v u
  unfold Qi
  rw [pb_f (fun ⟨j, h1, h2, _⟩ => by omega)]; rfl
theorem Qi_set {N i : Nat} (hi : i < N) : setC (Qi C a b t0 N (i + 1)) (kEw C a b t0 i) (kEt C a b t0 i) (kw C a b t0 (kEw C a b t0 i) (kEt C a b t0 i)) = Qi C a b t0 N i := by
  funext v u
  by_cases z : v = kEw C a b t0 i ∧ u = kEt C a b t0 i
  · rw [z.1, z.2, setC_same]
    unfold Qi
    rw [pb_t.mpr ⟨i, Nat.le_refl i, hi, rfl, rfl⟩]; rfl
  · rw [setC_ne z]
    unfold Qi
    by_cases y : ∃ j, i + 1 ≤ j ∧ j < N ∧ kEw C a b t0 j = v ∧ kEt C a b t0 j = u
    · obtain ⟨j, y1, y2, y3⟩ := id y
      rw [pb_t.mpr y, pb_t.mpr ⟨j, by omega, y2, y3⟩]
    · rw [pb_f y, pb_f fun ⟨j, y1, y2, y3, y4⟩ => by
        by_cases x : j = i
        · rw [x] at y3 y4; exact z ⟨y3.symm, y4.symm⟩
        · exact y ⟨j, by omega, y2, y3, y4⟩]
theorem Qi_0 {N : Nat} : Qi C a b t0 N 0 = Pi' C a b t0 N C := by
  funext v u
  unfold Qi Pi'
  by_cases y : kIn C a b t0 N v u
  · obtain ⟨j, j1, j2⟩ := id y
    rw [pb_t.mpr y, pb_t.mpr ⟨j, Nat.zero_le j, j1, j2⟩]
  · rw [pb_f y, pb_f fun ⟨j, _, j1, j2⟩ => y ⟨j, j1, j2⟩]
theorem CRm.fr {ν : MM} {P : Nat → Nat → Prop} (h : CRm μ C) (f : Fr P μ ν) (hp : ∀ q i, 488 ≤ q → q < 500 → ¬ P q i) : CRm ν C := fun w t hw ht => by rw [(f _ _ (hp _ _ (by omega) (by omega))).1]; exact h w t hw ht
/-- the call at the i-th edge -/
def kSd (i : Nat) : Int32 := if i % 2 = 0 then 1 else 0
noncomputable def kX (C : CC) (a b t0 i : Nat) : Nat := if i % 2 = 0 then kEt C a b t0 i else kEw C a b t0 i
noncomputable def kY (C : CC) (a b t0 i : Nat) : Nat := if i % 2 = 0 then kEw C a b t0 i else kEt C a b t0 i
theorem m_cf (h : Cp C) (ha : a < 12) (hb : b < 12) (ab : a ≠ b) (h0 : ∀ w, C w t0 ≠ b) {N : Nat} (hN : kLen C a b t0 N) : ∀ (m i d : Nat) (ν : MM), i + m + 1 = N → m < d → CRm ν C → ∃ ξ, f_X10_changesFrom d 168 (kSd i) (Int32.ofNat (kX C a b t0 i)) (Int32.ofNat (kco a b i)) (Int32.ofNat (kco b a i)) (Int32.ofNat (kY C a b t0 i)) (mem ν) = some (mem ξ) ∧ Fr FRd ν ξ ∧ CRm ξ (Qi C a b t0 N i) := by
  intro m
  induction m with
  | zero =>
    intro i d ν hi hd hr
    obtain ⟨d, rfl⟩ : ∃ e, d = e + 1 := ⟨d - 1, by omega⟩
    have q := hN.1 i (by omega)
    have dead := hN.2
    rw [show N = i + 1 by omega] at dead
    have co := kw_in h ha hb q ab
    have kc : kco b a i < 12 := by unfold kco; split <;> assumption
    have q1 := q.1
    have q2 := q.2
    have hQ : CRm (st ν (488 + kEw C a b t0 i) (kEt C a b t0 i) (Int32.ofNat (kco b a i))) (Qi C a b t0 N i) := by
      rw [← Qi_set (show i < N by omega), co, show i + 1 = N by omega, Qi_N]
      exact hr.set kc
    refine ⟨_, ?_, (Fr.refl FRd ν).st (by unfold FRd; omega), hQ⟩
    unfold kSd kX kY kco
    rcases Nat.mod_two_eq_zero_or_one i with z | z
    · obtain ⟨k, hk⟩ : ∃ k, i = 2 * k := ⟨i / 2, by omega⟩
      have e := m_wr0 h hr q1 hb
      have ev : tA C (kEw C a b t0 i) b = kEt C a b t0 (i + 1) := by rw [hk, (kE_odd k).2, (kE_even k).1]; rfl
      have ew : kEw C a b t0 (i + 1) = kEw C a b t0 i := by rw [hk, (kE_odd k).1, (kE_even k).1]
      have n12 : ¬ kEt C a b t0 (i + 1) < 12 := fun y => dead ⟨by rw [ew]; exact q1, y⟩
      rw [ev, eI_ge (by omega)] at e
      rw [if_pos z, if_pos z, if_pos z, if_pos z, if_pos z]
      simp only [f_X10_changesFrom, f_X10_changesFrom_B, show (1 : Int32) - 1 = 0 from rfl, ↓hvc (fun _ => vc_168), ↓hbind e, ↓reduceIte, f_X10_changesFrom_J33, z_1, ↓hbind gR_168_32, ↓hbind (mr_rd q1), ↓hbind (ms_rd q1 q2), f_X10_changesFrom_J62]
    · obtain ⟨k, hk⟩ : ∃ k, i = 2 * k + 1 := ⟨i / 2, by omega⟩
      have e := m_wr1 h hr q2 ha
      have ev : wA C (kEt C a b t0 i) a = kEw C a b t0 (i + 1) := by rw [hk, show 2 * k + 1 + 1 = 2 * (k + 1) by omega, (kE_odd k).2, (kE_even (k + 1)).1]; rfl
      have ew : kEt C a b t0 (i + 1) = kEt C a b t0 i := by rw [hk, show 2 * k + 1 + 1 = 2 * (k + 1) by omega, (kE_odd k).2, (kE_even (k + 1)).2]
      have n12 : ¬ kEw C a b t0 (i + 1) < 12 := fun y => dead ⟨y, by rw [ew]; exact q2⟩
      rw [ev, eI_ge (by omega)] at e
      have zn : ¬ i % 2 = 0 := by omega
      rw [if_neg zn, if_neg zn, if_neg zn, if_neg zn, if_neg zn]
      simp only [f_X10_changesFrom, f_X10_changesFrom_B, show (1 : Int32) - 0 = 1 from rfl, ↓hvc (fun _ => vc_168), ↓hbind e, ↓reduceIte, f_X10_changesFrom_J33, ↓hbind gR_168_32, ↓hbind (mr_rd q1), ↓hbind (ms_rd q1 q2), f_X10_changesFrom_J62]
  | succ m ih =>
    intro i d ν hi hd hr
    obtain ⟨d, rfl⟩ : ∃ e, d = e + 1 := ⟨d - 1, by omega⟩
    have q := hN.1 i (by omega)
    have p := hN.1 (i + 1) (by omega)
    have co := kw_in h ha hb q ab
    have kc : kco b a i < 12 := by unfold kco; split <;> assumption
    have q1 := q.1
    have q2 := q.2
    obtain ⟨ζ, er, f1, r1⟩ := ih (i + 1) d ν (by omega) (by omega) hr
    have hQ : CRm (st ζ (488 + kEw C a b t0 i) (kEt C a b t0 i) (Int32.ofNat (kco b a i))) (Qi C a b t0 N i) := by
      rw [← Qi_set (show i < N by omega), co]
      exact r1.set kc
    refine ⟨_, ?_, f1.st (by unfold FRd; omega), hQ⟩
    unfold kSd kX kY kco at er ⊢
    rcases Nat.mod_two_eq_zero_or_one i with z | z
    · obtain ⟨k, hk⟩ : ∃ k, i = 2 * k := ⟨i / 2, by omega⟩
      have e := m_wr0 h hr q1 hb
      have ev : tA C (kEw C a b t0 i) b = kEt C a b t0 (i + 1) := by rw [hk, (kE_odd k).2, (kE_even k).1]; rfl
      have ew : kEw C a b t0 (i + 1) = kEw C a b t0 i := by rw [hk, (kE_odd k).1, (kE_even k).1]
      have nz : (Int32.ofNat (kEt C a b t0 (i + 1)) = -1) = False := oN_n1 (by have := p.2; omega)
      rw [ev, eI_lt p.2] at e
      have zn : ¬ (i + 1) % 2 = 0 := by omega
      rw [if_neg zn, if_neg zn, if_neg zn, if_neg zn, if_neg zn, ew] at er
      rw [if_pos z, if_pos z, if_pos z, if_pos z, if_pos z]
      simp only [f_X10_changesFrom, f_X10_changesFrom_B, show (1 : Int32) - 1 = 0 from rfl, ↓hvc (fun _ => vc_168), ↓hbind e, nz, ↓reduceIte, ↓hbind er, f_X10_changesFrom_J33, z_1, ↓hbind gR_168_32, ↓hbind (mr_rd q1), ↓hbind (ms_rd q1 q2), f_X10_changesFrom_J62]
    · obtain ⟨k, hk⟩ : ∃ k, i = 2 * k + 1 := ⟨i / 2, by omega⟩
      have e := m_wr1 h hr q2 ha
      have ev : wA C (kEt C a b t0 i) a = kEw C a b t0 (i + 1) := by rw [hk, show 2 * k + 1 + 1 = 2 * (k + 1) by omega, (kE_odd k).2, (kE_even (k + 1)).1]; rfl
      have ew : kEt C a b t0 (i + 1) = kEt C a b t0 i := by rw [hk, show 2 * k + 1 + 1 = 2 * (k + 1) by omega, (kE_odd k).2, (kE_even (k + 1)).2]
      have nz : (Int32.ofNat (kEw C a b t0 (i + 1)) = -1) = False := oN_n1 (by have := p.1; omega)
      rw [ev, eI_lt p.1] at e
      have zp : (i + 1) % 2 = 0 := by omega
      have zn : ¬ i % 2 = 0 := by omega
      rw [if_pos zp, if_pos zp, if_pos zp, if_pos zp, if_pos zp, ew] at er
      rw [if_neg zn, if_neg zn, if_neg zn, if_neg zn, if_neg zn]
      simp only [f_X10_changesFrom, f_X10_changesFrom_B, show (1 : Int32) - 0 = 1 from rfl, ↓hvc (fun _ => vc_168), ↓hbind e, nz, ↓reduceIte, ↓hbind er, f_X10_changesFrom_J33, ↓hbind gR_168_32, ↓hbind (mr_rd q1), ↓hbind (ms_rd q1 q2), f_X10_changesFrom_J62]
/-- the way's length -/
theorem kLen_ex (h : Cp C) (ha : a < 12) (hb : b < 12) (h0 : ∀ w, C w t0 ≠ b) : ∃ N, kLen C a b t0 N := by
  have key : ∀ d i, i + d = 23 → (∀ j, j < i → kAl C a b t0 j) → ∃ N, kLen C a b t0 N := by
    intro d
    induction d with
    | zero =>
      intro i hi al
      exact ⟨i, al, fun q => by have := kAl_23 h ha hb h0 q; omega⟩
    | succ d ih =>
      intro i hi al
      by_cases q : kAl C a b t0 i
      · exact ih (i + 1) (by omega) fun j hj => by
          by_cases z : j = i
          · rw [z]; exact q
          · exact al j (by omega)
      · exact ⟨i, al, q⟩
  exact key 23 0 (by omega) fun j z => absurd z (Nat.not_lt_zero _)
theorem m_changes (h : Cp C) (ha : a < 12) (hb : b < 12) (ht : t0 < 12) (h0 : ∀ w, C w t0 ≠ b) (hr : CRm μ C) (ab : wA C t0 a ≠ 12 → a ≠ b) : ∃ ξ, f_X10_changes 168 (Int32.ofNat t0) (Int32.ofNat a) (Int32.ofNat b) (mem μ) = some (mem ξ) ∧ Fr FRd μ ξ ∧ CRm ξ (if wA C t0 a = 12 then C else kw C a b t0) := by
  have e := m_wr1 h hr ht ha
  by_cases z : wA C t0 a = 12
  · rw [if_pos z]
    rw [z, eI_ge (Nat.le_refl 12)] at e
    refine ⟨μ, ?_, Fr.refl _ _, hr⟩
    simp only [f_X10_changes, ↓hvc (fun _ => vc_168), ↓hbind e, ↓reduceIte, f_X10_changes_J25]
  · rw [if_neg z]
    have o : wA C t0 a < 12 := by have := ow_le (fun w => C w t0) a; unfold wA at z ⊢; omega
    have nz : (Int32.ofNat (wA C t0 a) = -1) = False := oN_n1 (by omega)
    rw [eI_lt o] at e
    obtain ⟨N, hN⟩ := kLen_ex h ha hb h0
    have n23 := kLen_23 h ha hb h0 hN
    have n1 : 1 ≤ N := by
      apply Nat.le_of_not_lt
      intro y
      have : N = 0 := by omega
      rw [this] at hN
      exact hN.2 ⟨o, ht⟩
    obtain ⟨ξ, er, f1, r1⟩ := m_cf h ha hb (ab z) h0 hN (N - 1) 0 40 μ (by omega) (by omega) hr
    rw [Qi_0, (Pi_end h ha hb h0 hN).2] at r1
    have er : f_X10_changesFrom 40 168 1 (Int32.ofNat t0) (Int32.ofNat a) (Int32.ofNat b) (Int32.ofNat (wA C t0 a)) (mem μ) = some (mem ξ) := er
    refine ⟨ξ, ?_, f1, r1⟩
    simp only [f_X10_changes, ↓hvc (fun _ => vc_168), ↓hbind e, nz, ↓reduceIte, ↓hbind er, f_X10_changes_J25]
end Mq
