/-! ACTS: pair settle -/
variable {Ξ : xH}
/-- what goes on, what is thrown: as rules of their own (unfolded, the kernel walks into the heap) -/
theorem thr_ok {α β : Type} {u : α} {h : xH} {K : xH → Option ((β ⊕ String) × xH)} : thr ((.inl u, h) : (α ⊕ String) × xH) K = K h := by simp only [thr]
theorem thr_er {α β : Type} {E : String} {h : xH} {K : xH → Option ((β ⊕ String) × xH)} : thr ((.inr E, h) : (α ⊕ String) × xH) K = some (.inr E, h) := by simp only [thr]
theorem up_jo {M : Nat → Nat} (h : Mt M) {w t : Nat} (hw : w < 12) (ht : t < 12) : up (up (up M w 12) (ow (up M w 12) t) 12) w t = jo M w t := by
  have h1 := dr_Mt h w
  funext x
  by_cases e : x = w
  · rw [e, up_same]; unfold jo; rw [if_pos rfl]
  · rw [up_ne e]
    unfold jo
    rw [if_neg e]
    have e1 : up M w 12 x = M x := up_ne e
    by_cases q : M x = t
    · rw [if_pos q]
      have hx : x < 12 := h.w12 (by omega)
      have : ow (up M w 12) t = x := (ow_iff h1 ht hx).mpr (by rw [e1]; exact q)
      rw [this, up_same]
    · rw [if_neg q]
      by_cases y : x = ow (up M w 12) t
      · have y' := y
        rw [y, up_same]
        by_cases z : x < 12
        · exact absurd (e1.symm.trans ((ow_iff h1 ht z).mp y.symm)) q
        · rw [← y]; exact (h.2.1 x (by omega)).symm
      · rw [up_ne y, e1]
theorem jo_Ms {E : Nat → Nat → Bool} {M : Nat → Nat} (h : Ms E M) {w t : Nat} (hw : w < 12) (ht : t < 12) (e : E w t = true) : Ms E (jo M w t) := by
  refine ⟨jo_Mt h.1 hw ht, fun x q => ?_⟩
  unfold jo at q ⊢
  by_cases z : x = w
  · rw [if_pos z, z]; exact e
  · rw [if_neg z] at q ⊢
    by_cases y : M x = t
    · rw [if_pos y] at q; omega
    · rw [if_neg y] at q ⊢; exact h.2 x q
section O11
variable {T : MM → Bk → Prop} {μ : MM} {A : AS}
/-- 1 to 12 -/
theorem in112 {x : Int32} : (1 ≤ x ∧ x ≤ 12) ↔ ∃ k, 1 ≤ k ∧ k ≤ 12 ∧ x = Int32.ofNat k := by
  rcases i32_cases x with q | ⟨k, hk, rfl⟩
  · constructor
    · rintro ⟨a, _⟩; exact absurd (Int32.lt_of_lt_of_le (Int32.lt_of_lt_of_le q (show (0 : Int32) ≤ 1 by decide)) a) (Int32.lt_irrefl)
    · rintro ⟨k, a, b, rfl⟩
      rw [oN_l0 (by omega)] at q; exact q.elim
  · rw [show (1 : Int32) = Int32.ofNat 1 from rfl, show (12 : Int32) = Int32.ofNat 12 from rfl, oN_le (by omega) hk, oN_le hk (by omega)]
    constructor
    · rintro ⟨a, b⟩; exact ⟨k, a, b, rfl⟩
    · rintro ⟨j, a, b, e⟩
      rw [oN_inj hk (by omega)] at e
      omega
/-- what settle answers and does -/
def SS (A : AS) (n : Nat) (x : Int32 ⊕ String) (A' : AS) : Prop := ∃ k M', Gr (gE (aB A)) n k (bM (aB A)) M' ∧ x = .inl (Int32.ofNat k) ∧ A' = if k = 0 then A else wAct A (wM (aB A) M')
theorem SS.uq {n : Nat} : UQ (SS A n) := fun _ _ _ _ h h' => by
  obtain ⟨k, M1, g, e1, e2⟩ := h
  obtain ⟨k', M2, g', e1', e2'⟩ := h'
  obtain ⟨rfl, rfl⟩ := g.uniq g'
  exact ⟨e1.trans e1'.symm, e2.trans e2'.symm⟩
theorem c_settle (hT : TF T) (hA : AOK A) (hC : RC T μ A) {n : Nat} (n1 : 1 ≤ n) (n2 : n ≤ 12) : CX Ξ T μ (f_X9_settle 0 (Int32.ofNat n) ((mX Ξ) μ)) (SS A n) := by
  have hB := hA.1
  have p6 : prOK shI 6 = true := bk_pr bk1
  obtain ⟨ν, e1, f1, s1, o1⟩ := c_loaded (Ξ := Ξ) hC hA
  obtain ⟨k, ξ, M', e2, f2, s2, o2, g⟩ := c_grow (Ξ := Ξ) s1 o1 n2
  have f12 : Fr FS μ ξ := f1.trans f2
  have hC2 : RC T ξ A := hC.fr hT f12 fun q i _ z => Or.inl z.Q
  have kn : k ≤ 12 := Nat.le_trans g.2.1 n2
  have c1 : ¬ (Int32.ofNat n < 1) := by rw [llt_1 (by omega)]; omega
  have c2 : ¬ (Int32.ofNat n > 12) := by rw [lgt_12 (by omega)]; omega
  have t1 : f_X9_settle 0 (Int32.ofNat n) ((mX Ξ) μ) = f_X9_settle_J17 0 (Int32.ofNat n) 0 1 ((mX Ξ) μ) := by
    unfold f_X9_settle; rw [if_neg c1, if_neg c2]
  by_cases k0 : k = 0
  · have c3 : (Int32.ofNat k ≤ 0) = True := by rw [lle_0 (by omega)]; exact eq_true (by omega)
    refine CX.of _ ξ A ⟨?_, f12.mono fun q i z => z.Q.L, hC2, hA, k, M', g, rfl, (if_pos k0).symm⟩
    rw [t1]
    simp only [f_X9_settle_J17, f_X9_settle_J65, ↓hbind gR_0_0, ↓hbind gR_0_4, ↓hvc (fun _ => vc_0), ↓hvc (fun _ => vc_141), ↓hbind c_da1, ↓thr_ok, ↓thr_er, ↓hbind e1, ↓hbind e2, c3, ↓reduceIte]
  · have c3 : (Int32.ofNat k ≤ 0) = False := by rw [lle_0 (by omega)]; exact eq_false (by omega)
    obtain ⟨ν1, e3, b1, h1, z1, f3⟩ := c_beginAct (Ξ := Ξ) hC2 hA
    have pr : PR ν1 142 M' := s2.2.2.fr f3 (fun i z => by unfold FH at z; omega) (fun i z => by unfold FH at z; omega)
    obtain ⟨ν2, e4, b2, f4⟩ := c_pairs (Ξ := Ξ) bk1 pr142 (Or.inr (by omega)) b1 pr
    have ff : Fr (fun q i => FS q i ∨ FB 1 q i ∨ FH q i ∨ (q = 0 ∧ i = 9)) ξ ν2 := (f3.mono fun q i z => Or.inr (Or.inr z)).trans (f4.mono fun q i z => Or.inr (Or.inl z))
    refine CX.of _ ν2 (wAct A (wM (aB A) M')) ⟨?_, (f12.mono fun q i z => z.Q.L).trans (ff.mono fun q i z => by unfold FS FB FH at z; unfold CL; omega), hC2.act hT b2 (h1.fr f4 fun q i a z => by unfold FH at a; unfold FB at z; omega) ?_ ff, wAct_ok hA (wM_ok hB o2.2.2.2.2), k, M', g, rfl, (if_neg k0).symm⟩
    · have e4 : f_X3_copy 6 142 ((mX Ξ) ν1) = some ((mX Ξ) ν2) := e4
      rw [t1]
      simp only [f_X9_settle_J17, f_X9_settle_J65, ↓hbind gR_0_0, ↓hbind gR_0_4, ↓hbind gR_141_0, ↓hbind (bk_r9 bk1), ↓hvc (fun _ => vc_0), ↓hvc (fun _ => vc_141), ↓hvc (fun _ => pr_v p6), ↓hbind c_da1, ↓thr_ok, ↓thr_er, ↓hbind e1, ↓hbind e2, c3, ↓reduceIte, ↓hbind e3, ↓hbind e4]
    · rw [(f4 _ _ (by unfold FB; omega)).1]; exact z1
end O11
