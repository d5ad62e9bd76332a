/-! OPERATIONS: of -/
/-- a graph on fewer -/
def rE (E : Nat → Nat → Bool) (W T : Int32) (w t : Nat) : Bool := E w t && hb W w && hb T t
section Lo
variable {μ : MM} {n m : Nat} {Wt Tt : Int32} {E : Nat → Nat → Bool} {M : Nat → Nat}
theorem c_leave_L (h8 : μ.1 141 8 = Wt) (h9 : μ.1 141 9 = Tt) (hr : ∀ w, w < 12 → ∀ k, hb (μ.1 145 w) k = E w k) : ∃ ν, f_X7_leaveOut_L55 f_X7_leaveOut_J99 5000 141 0 (mem μ) = some (mem ν) ∧ Fr (fun q _ => q = 145) μ ν ∧ ∀ w, w < 12 → ∀ k, hb (ν.1 145 w) k = rE E Wt Tt w k := by
  have key : Hw (f_X7_leaveOut_L55 f_X7_leaveOut_J99 5000 141 0 (mem μ)) (fun r => ∃ ν, r = mem ν ∧ Fr (fun q _ => q = 145) μ ν ∧ ∀ w, w < 12 → ∀ k, hb (ν.1 145 w) k = rE E Wt Tt w k) := by
    refine hw_for (L := fun n i (ν : MM) => f_X7_leaveOut_L55 f_X7_leaveOut_J99 n 141 i (mem ν)) (s0 := μ) 12 (fun i ν => Fr (fun q _ => q = 145) μ ν ∧ (∀ w, w < 12 → i ≤ w → ν.1 145 w = μ.1 145 w) ∧ ∀ w, w < i → ∀ k, hb (ν.1 145 w) k = rE E Wt Tt w k) ⟨Fr.refl _ _, fun _ _ _ => rfl, fun w a => absurd a (Nat.not_lt_zero _)⟩ (by decide) (fun i hi ν hν => Or.inl ?_) (fun ν hν n' => ?_)
    · obtain ⟨h1, h2, h3⟩ := hν
      have e8 : ν.1 141 8 = Wt := by rw [(h1 _ _ (by omega)).1]; exact h8
      have e9 : ν.1 141 9 = Tt := by rw [(h1 _ _ (by omega)).1]; exact h9
      have er : ν.1 145 i = μ.1 145 i := h2 i hi (Nat.le_refl i)
      have ei : (Int32.ofNat i ≥ 12) = False := by rw [lge_12 (by omega)]; exact eq_false (by omega)
      have eh := c_has (x := Wt) (h := mem ν) (show i < 32 by omega)
      cases q : hb Wt i with
      | false =>
        rw [q] at eh
        refine ⟨st ν 145 i 0, ⟨h1.st rfl, fun w a b => ?_, fun w a k => ?_⟩, fun n' => ?_⟩
        · rw [st_ne (Or.inr (by omega))]; exact h2 w a (by omega)
        · rw [st_at]
          by_cases z : w = i
          · rw [if_pos ⟨rfl, z⟩, hb_zero, z]; unfold rE; rw [q]; simp
          · rw [if_neg (fun y => z y.2)]; exact h3 w (by omega) k
        · show f_X7_leaveOut_L55 f_X7_leaveOut_J99 (n' + 1) 141 (Int32.ofNat i) (mem ν) = f_X7_leaveOut_L55 f_X7_leaveOut_J99 n' 141 (Int32.ofNat (i + 1)) (mem (st ν 145 i 0))
          simp only [f_X7_leaveOut_L55, f_X7_leaveOut_J92, ei, ↓reduceIte, ↓hbind gR_141_1, ↓hbind gI_141_8, e8, ↓hbind eh, show bI false = 0 from rfl, ↓hbind (sI_145 hi), lt, i_succ]
      | true =>
        rw [q] at eh
        refine ⟨st ν 145 i (μ.1 145 i &&& Tt), ⟨h1.st rfl, fun w a b => ?_, fun w a k => ?_⟩, fun n' => ?_⟩
        · rw [st_ne (Or.inr (by omega))]; exact h2 w a (by omega)
        · rw [st_at]
          by_cases z : w = i
          · rw [if_pos ⟨rfl, z⟩, hb_and, hr i hi k, z]; unfold rE; rw [q]; simp
          · rw [if_neg (fun y => z y.2)]; exact h3 w (by omega) k
        · show f_X7_leaveOut_L55 f_X7_leaveOut_J99 (n' + 1) 141 (Int32.ofNat i) (mem ν) = f_X7_leaveOut_L55 f_X7_leaveOut_J99 n' 141 (Int32.ofNat (i + 1)) _
          simp only [f_X7_leaveOut_L55, f_X7_leaveOut_J92, ei, ↓reduceIte, ↓hbind gR_141_1, ↓hbind gI_141_8, e8, ↓hbind eh, show bI true = 1 from rfl, z_1, ↓hbind (aI_145 hi), er, ↓hbind gI_141_9, e9, ↓hbind (sI_145 hi), lt, i_succ]
    · obtain ⟨h1, h2, h3⟩ := hν
      have ei : (Int32.ofNat 12 ≥ 12) = True := eq_true (by decide)
      show Hw (f_X7_leaveOut_L55 f_X7_leaveOut_J99 (n' + 1) 141 (Int32.ofNat 12) (mem ν)) _
      simp only [f_X7_leaveOut_L55, ei, ↓reduceIte, f_X7_leaveOut_J99]
      exact hw_ret ⟨ν, rfl, h1, h3⟩
  obtain ⟨r, e, ν, rfl, h⟩ := key
  exact ⟨ν, e, h⟩
theorem rE_SOK (hO : SOK n m Wt E M) {W' T' : Int32} {M' : Nat → Nat} (hW : ∀ w, hb W' w = true → hb Wt w = true) (hM : Ms (rE E W' T') M') : SOK n m W' (rE E W' T') M' := by
  refine ⟨hO.1, hO.2.1, fun w t q => ?_, fun w q => hO.2.2.2.1 w (hW w q), hM⟩
  unfold rE at q
  simp only [Bool.and_eq_true] at q
  have := hO.2.2.1 w t q.1.1
  exact ⟨this.1, this.2.1, q.1.2⟩
theorem rE_Eb (hE : Eb E) {W' T' : Int32} : Eb (rE E W' T') := fun w t q => by
  unfold rE at q
  simp only [Bool.and_eq_true] at q
  exact hE w t q.1.1
/-- one worker is left out -/
theorem c_leave0 (hS : SR μ n m Wt Tt E M) (hO : SOK n m Wt E M) (hT : ∀ w t, E w t = true → hb Tt t = true) {w : Nat} (hw : w < 12) : ∃ ν W' M', f_X7_leaveOut 141 0 (Int32.ofNat w) (mem μ) = some (mem ν) ∧ Fr FS μ ν ∧ W' = Wt &&& (((1 : Int32) <<< (Int32.ofNat w &&& 31)) ^^^ (-1)) ∧ SR ν n m W' Tt (rE E W' Tt) M' ∧ SOK n m W' (rE E W' Tt) M' := by
  let W' := Wt &&& (((1 : Int32) <<< (Int32.ofNat w &&& 31)) ^^^ (-1))
  have hk : ∀ k, hb W' k = true ↔ (hb Wt k = true ∧ k ≠ w) := fun k => by
    show hb (Wt &&& (((1 : Int32) <<< (Int32.ofNat w &&& 31)) ^^^ (-1))) k = true ↔ _
    rw [hb_and, hb_not, hb_bit k (by omega)]
    cases q : hb Wt k with
    | false => simp
    | true =>
      have : k < 32 := Classical.byContradiction fun z => by rw [hb_ge _ (by omega)] at q; cases q
      simp [this]
  have fx : Fr (fun q i => q = 141 ∧ i = 8) μ (st μ 141 8 W') := (Fr.refl _ _).st ⟨rfl, rfl⟩
  have p1 : PR (st μ 141 8 W') 142 M := hS.2.2.fr fx (fun i => by omega) (fun i => by omega)
  obtain ⟨ν1, e1, p2, f1⟩ := c_loosenWorker pr142 p1 (k := w) (by omega)
  rw [eI_lt hw] at e1
  have o1 : ∀ q i, ¬ (q = 141 ∧ i = 8) → q ≠ 143 → q ≠ 144 → ν1.1 q i = μ.1 q i := fun q i a b c => by rw [(f1 _ _ (by unfold FP; omega)).1, (fx _ _ a).1]
  have h8 : ν1.1 141 8 = W' := by rw [(f1 _ _ (by unfold FP; omega)).1]; exact st_same _ _ _ _
  have h9 : ν1.1 141 9 = Tt := by rw [o1 _ _ (by omega) (by omega) (by omega)]; exact hS.1.2.2.2
  obtain ⟨ν2, e2, f2, r2⟩ := c_leave_L (E := E) h8 h9 (fun w hw k => by rw [o1 _ _ (by omega) (by omega) (by omega)]; exact hS.2.1 w hw k)
  refine ⟨ν2, W', up M w 12, ?_, ?_, rfl, ⟨⟨?_, ?_, ?_, ?_⟩, r2, p2.fr f2 (fun i => by omega) (fun i => by omega)⟩, rE_SOK hO (fun k q => ((hk k).mp q).1) ⟨dr_Mt hO.2.2.2.2.1 w, fun x q => ?_⟩⟩
  · have e8 : μ.1 141 8 = Wt := hS.1.2.2.1
    have e1 : f_X3_loosenWorker 142 (Int32.ofNat w) (mem (st μ 141 8 (Wt &&& (((1 : Int32) <<< (Int32.ofNat w &&& 31)) ^^^ (-1))))) = some (mem ν1) := e1
    simp only [f_X7_leaveOut, f_X7_leaveOut_J53, ↓reduceIte, ↓hbind gI_141_8, e8, ↓hbind c_bit, ↓hbind pI_141_8, ↓hbind gR_141_0, ↓hvc (fun _ => pr_v pr142), ↓hbind e1, e2]
  · exact ((fx.mono fun q i z => by unfold FS; omega).trans (f1.mono fun q i z => by unfold FP at z; unfold FS; omega)).trans (f2.mono fun q i z => by unfold FS; omega)
  · rw [(f2 _ _ (by omega)).1, o1 _ _ (by omega) (by omega) (by omega)]; exact hS.1.1
  · rw [(f2 _ _ (by omega)).1, o1 _ _ (by omega) (by omega) (by omega)]; exact hS.1.2.1
  · rw [(f2 _ _ (by omega)).1]; exact h8
  · rw [(f2 _ _ (by omega)).1]; exact h9
  · have xw : x ≠ w := fun z => by rw [z, up_same] at q; omega
    rw [up_ne xw] at q ⊢
    have := hO.2.2.2.2.2 x q
    unfold rE
    rw [this, hT _ _ this, (hk x).mpr ⟨(hO.2.2.1 _ _ this).2.2, xw⟩]; rfl
/-- one task is left out -/
theorem c_leave1 (hS : SR μ n m Wt Tt E M) (hO : SOK n m Wt E M) (hT : ∀ w t, E w t = true → hb Tt t = true) {t : Nat} (ht : t < 12) : ∃ ν T' M', f_X7_leaveOut 141 1 (Int32.ofNat t) (mem μ) = some (mem ν) ∧ Fr FS μ ν ∧ T' = Tt &&& (((1 : Int32) <<< (Int32.ofNat t &&& 31)) ^^^ (-1)) ∧ SR ν n m Wt T' (rE E Wt T') M' ∧ SOK n m Wt (rE E Wt T') M' := by
  let T' := Tt &&& (((1 : Int32) <<< (Int32.ofNat t &&& 31)) ^^^ (-1))
  have hk : ∀ k, hb T' k = true ↔ (hb Tt k = true ∧ k ≠ t) := fun k => by
    show hb (Tt &&& (((1 : Int32) <<< (Int32.ofNat t &&& 31)) ^^^ (-1))) k = true ↔ _
    rw [hb_and, hb_not, hb_bit k (by omega)]
    cases q : hb Tt k with
    | false => simp
    | true =>
      have : k < 32 := Classical.byContradiction fun z => by rw [hb_ge _ (by omega)] at q; cases q
      simp [this]
  have fx : Fr (fun q i => q = 141 ∧ i = 9) μ (st μ 141 9 T') := (Fr.refl _ _).st ⟨rfl, rfl⟩
  have p1 : PR (st μ 141 9 T') 142 M := hS.2.2.fr fx (fun i => by omega) (fun i => by omega)
  obtain ⟨ν1, e1, p2, f1⟩ := c_loosenTask pr142 p1 ht
  have o1 : ∀ q i, ¬ (q = 141 ∧ i = 9) → q ≠ 143 → q ≠ 144 → ν1.1 q i = μ.1 q i := fun q i a b c => by rw [(f1 _ _ (by unfold FP; omega)).1, (fx _ _ a).1]
  have h9 : ν1.1 141 9 = T' := by rw [(f1 _ _ (by unfold FP; omega)).1]; exact st_same _ _ _ _
  have h8 : ν1.1 141 8 = Wt := by rw [o1 _ _ (by omega) (by omega) (by omega)]; exact hS.1.2.2.1
  obtain ⟨ν2, e2, f2, r2⟩ := c_leave_L (E := E) h8 h9 (fun w hw k => by rw [o1 _ _ (by omega) (by omega) (by omega)]; exact hS.2.1 w hw k)
  refine ⟨ν2, T', up M (ow M t) 12, ?_, ?_, rfl, ⟨⟨?_, ?_, ?_, ?_⟩, r2, p2.fr f2 (fun i => by omega) (fun i => by omega)⟩, rE_SOK hO (fun k q => q) ⟨dr_Mt hO.2.2.2.2.1 _, fun x q => ?_⟩⟩
  · have e9 : μ.1 141 9 = Tt := hS.1.2.2.2
    have e1 : f_X3_loosenTask 142 (Int32.ofNat t) (mem (st μ 141 9 (Tt &&& (((1 : Int32) <<< (Int32.ofNat t &&& 31)) ^^^ (-1))))) = some (mem ν1) := e1
    simp only [f_X7_leaveOut, f_X7_leaveOut_J53, z_1, ↓reduceIte, ↓hbind gI_141_9, e9, ↓hbind c_bit, ↓hbind pI_141_9, ↓hbind gR_141_0, ↓hvc (fun _ => pr_v pr142), ↓hbind e1, e2]
  · exact ((fx.mono fun q i z => by unfold FS; omega).trans (f1.mono fun q i z => by unfold FP at z; unfold FS; omega)).trans (f2.mono fun q i z => by unfold FS; omega)
  · rw [(f2 _ _ (by omega)).1, o1 _ _ (by omega) (by omega) (by omega)]; exact hS.1.1
  · rw [(f2 _ _ (by omega)).1, o1 _ _ (by omega) (by omega) (by omega)]; exact hS.1.2.1
  · rw [(f2 _ _ (by omega)).1]; exact h8
  · rw [(f2 _ _ (by omega)).1]; exact h9
  · have xw : x ≠ ow M t := fun z => by rw [z, up_same] at q; omega
    rw [up_ne xw] at q ⊢
    have := hO.2.2.2.2.2 x q
    have xt : M x ≠ t := fun z => xw (by rw [← z]; exact (ow_of hO.2.2.2.2.1 q).symm)
    unfold rE
    rw [this, (hk _).mpr ⟨hT _ _ this, xt⟩, (hO.2.2.1 _ _ this).2.2]; rfl
end Lo
section O18
variable {T : MM → Bk → Prop} {μ : MM} {A : AS}
/-- the book's graph without one worker, one task -/
def xE (B : Bk) (s : Bool) (k : Nat) : Nat → Nat → Bool := if s then rE (gE B) (bw B) (bt B &&& (((1 : Int32) <<< (Int32.ofNat k &&& 31)) ^^^ (-1))) else rE (gE B) (bw B &&& (((1 : Int32) <<< (Int32.ofNat k &&& 31)) ^^^ (-1))) (bt B)
theorem gE_T {B : Bk} : ∀ w t, gE B w t = true → hb (bt B) t = true := fun w t q => by
  simp only [gE, Bool.and_eq_true] at q
  exact q.2
/-- the class: how many pairs without one -/
theorem c_without (hC : RC T μ A) (hA : AOK A) (s : Bool) {k : Nat} (hk : k < 12) : ∃ ν1 ν2 ν3 c N, f_X7_load 141 1 (mem μ) = some (mem ν1) ∧ f_X7_leaveOut 141 (bI s) (Int32.ofNat k) (mem ν1) = some (mem ν2) ∧ f_X7_grow 141 12 (mem ν2) = some (c, mem ν3) ∧ f_X3_size 142 (mem ν3) = some (Int32.ofNat N, mem ν3) ∧ Fr FS μ ν3 ∧ Nu (xE (aB A) s k) N ∧ N ≤ 12 := by
  have hB := hA.1
  obtain ⟨ν1, e1, f1, s1, o1⟩ := c_loaded hC hA
  cases s with
  | false =>
    obtain ⟨ν2, W', M', e2, f2, rfl, s2, o2⟩ := c_leave0 s1 o1 gE_T hk
    obtain ⟨j, ν3, M2, e3, f3, s3, o3, g⟩ := c_grow s2 o2 (Nat.le_refl 12)
    exact ⟨ν1, ν2, ν3, _, sz M2, e1, e2, e3, c_size pr142 s3.2.2, (f1.trans f2).trans f3, (g.nu o2.Eb o2.2.2.2.2).2.1, sz_le _⟩
  | true =>
    obtain ⟨ν2, T', M', e2, f2, rfl, s2, o2⟩ := c_leave1 s1 o1 gE_T hk
    obtain ⟨j, ν3, M2, e3, f3, s3, o3, g⟩ := c_grow s2 o2 (Nat.le_refl 12)
    exact ⟨ν1, ν2, ν3, _, sz M2, e1, e2, e3, c_size pr142 s3.2.2, (f1.trans f2).trans f3, (g.nu o2.Eb o2.2.2.2.2).2.1, sz_le _⟩
/-- the model: the same -/
theorem m_without (hM : RM μ A) (hA : AOK A) (t : μ.1 168 0 = 0) (s : Bool) {k : Nat} (hk : k < 12) : ∃ ν N, f_X10_without 168 (bI s) (Int32.ofNat k) (mem μ) = some (Int32.ofNat N, mem ν) ∧ Fr (fun q i => QM q i ∨ FR 0 q i) μ ν ∧ RM ν A ∧ ν.1 168 0 = 0 ∧ Nu (xE (aB A) s k) N := by
  have hB := hA.1
  have hm := hM.1
  cases s with
  | false =>
    let W' := bw (aB A) &&& (((1 : Int32) <<< (Int32.ofNat k &&& 31)) ^^^ (-1))
    have m1 := hm.h3 (v := W')
    have f1 : Fr (fun q i => q = 172 ∧ i = 3) μ (st μ 172 3 W') := (Fr.refl _ _).st ⟨rfl, rfl⟩
    have hG : MG (st μ 172 3 W') W' (rE (gE (aB A)) W' (bt (aB A))) := by
      refine ⟨st_same _ _ _ _, fun w hw q j => ?_⟩
      rw [show (st μ 172 3 W').1 191 w = bf (aB A) w from m1.2.1 w hw, show (st μ 172 3 W').1 172 4 = bt (aB A) from m1.1.2.2.2.2, hb_and]
      have th : hb (bw (aB A)) w = true := by
        have q : hb (bw (aB A) &&& (((1 : Int32) <<< (Int32.ofNat k &&& 31)) ^^^ (-1))) w = true := q
        rw [hb_and, Bool.and_eq_true] at q; exact q.1
      unfold rE gE
      rw [q, th]
      cases hb (bf (aB A) w) j <;> cases hb (bt (aB A)) j <;> rfl
    obtain ⟨N, ξ, e, f2, nu⟩ := m_nu (rE_Eb hB.Eb) (fun w t q => by unfold rE at q; simp only [Bool.and_eq_true] at q; exact q.1.2) hG
    have m2 := m1.fr f2 fun q i a z => by unfold FR at a; unfold Fk at z; omega
    have m3 := m2.h3 (v := bw (aB A))
    have m3 : MR (st ξ 172 3 (bw (aB A))) 0 (aB A) := m3
    have f : Fr (fun q i => QM q i ∨ FR 0 q i) μ (st ξ 172 3 (bw (aB A))) := ((f1.mono fun q i z => by unfold QM FR; omega).trans (f2.mono fun q i z => Or.inl z.Q)).st (by unfold FR; omega)
    refine ⟨_, N, ?_, f, hM.re f m3, ?_, nu⟩
    · have e0 : μ.1 172 3 = bw (aB A) := hm.1.2.2.2.1
      have e : f_X10_nu 168 (mem (st μ 172 3 (bw (aB A) &&& (((1 : Int32) <<< (Int32.ofNat k &&& 31)) ^^^ (-1))))) = some (Int32.ofNat N, mem ξ) := e
      simp only [f_X10_without, f_X10_without_J9, show bI false = 0 from rfl, ↓reduceIte, ↓hbind gR_168_9, ↓hbind mr_h0, ↓hbind mh_a0_3, e0, ↓hbind mh_s0_3, ↓hvc (fun _ => vc_168), ↓hbind e]
    · rw [st_ne (Or.inl (by omega)), (f2 _ _ (by unfold Fk; omega)).1, st_ne (Or.inl (by omega))]; exact t
  | true =>
    let T' := bt (aB A) &&& (((1 : Int32) <<< (Int32.ofNat k &&& 31)) ^^^ (-1))
    have m1 := hm.h4 (v := T')
    have f1 : Fr (fun q i => q = 172 ∧ i = 4) μ (st μ 172 4 T') := (Fr.refl _ _).st ⟨rfl, rfl⟩
    have hG : MG (st μ 172 4 T') (bw (aB A)) (rE (gE (aB A)) (bw (aB A)) T') := by
      refine ⟨m1.1.2.2.2.1, fun w hw q j => ?_⟩
      rw [show (st μ 172 4 T').1 191 w = bf (aB A) w from m1.2.1 w hw, show (st μ 172 4 T').1 172 4 = T' from st_same _ _ _ _, hb_and]
      have ht : hb T' j = true → hb (bt (aB A)) j = true := fun z => by
        have z : hb (bt (aB A) &&& (((1 : Int32) <<< (Int32.ofNat k &&& 31)) ^^^ (-1))) j = true := z
        rw [hb_and, Bool.and_eq_true] at z; exact z.1
      unfold rE gE
      rw [q]
      cases z : hb T' j with
      | false => simp
      | true => rw [ht z]; simp
    obtain ⟨N, ξ, e, f2, nu⟩ := m_nu (rE_Eb hB.Eb) (fun w t q => by unfold rE at q; simp only [Bool.and_eq_true] at q; exact q.1.2) hG
    have m2 := m1.fr f2 fun q i a z => by unfold FR at a; unfold Fk at z; omega
    have m3 := m2.h4 (v := bt (aB A))
    have m3 : MR (st ξ 172 4 (bt (aB A))) 0 (aB A) := m3
    have f : Fr (fun q i => QM q i ∨ FR 0 q i) μ (st ξ 172 4 (bt (aB A))) := ((f1.mono fun q i z => by unfold QM FR; omega).trans (f2.mono fun q i z => Or.inl z.Q)).st (by unfold FR; omega)
    refine ⟨_, N, ?_, f, hM.re f m3, ?_, nu⟩
    · have e0 : μ.1 172 4 = bt (aB A) := hm.1.2.2.2.2
      have e : f_X10_nu 168 (mem (st μ 172 4 (bt (aB A) &&& (((1 : Int32) <<< (Int32.ofNat k &&& 31)) ^^^ (-1))))) = some (Int32.ofNat N, mem ξ) := e
      simp only [f_X10_without, f_X10_without_J9, show bI true = 1 from rfl, z_1, ↓reduceIte, ↓hbind gR_168_9, ↓hbind mr_h0, ↓hbind mh_a0_4, e0, ↓hbind mh_s0_4, ↓hvc (fun _ => vc_168), ↓hbind e]
    · rw [st_ne (Or.inl (by omega)), (f2 _ _ (by unfold Fk; omega)).1, st_ne (Or.inl (by omega))]; exact t
theorem CQ_ML {P : Nat → Nat → Prop} {ν ξ : MM} (f : Fr P ν ξ) (h : ∀ q i, P q i → QM q i ∨ FR 0 q i) : Fr ML ν ξ := f.mono fun q i z => by
  rcases h q i z with y | y
  · exact y.L
  · unfold FR at y; unfold ML; omega
/-- an answer from how many can be, without one, and with all -/
def SN2 (A : AS) (s : Bool) (k : Nat) (F : Nat → Nat → Int32) (x : Int32 ⊕ String) (A' : AS) : Prop := A' = A ∧ ∃ a b, Nu (xE (aB A) s k) a ∧ Nu (gE (aB A)) b ∧ x = .inl (F a b)
theorem SN2.uq {s : Bool} {k : Nat} {F : Nat → Nat → Int32} : UQ (SN2 A s k F) := by
  rintro x A1 y A2 ⟨rfl, a, b, n1, n2, rfl⟩ ⟨rfl, a', b', n1', n2', rfl⟩
  rw [n1.uniq n1', n2.uniq n2']; exact ⟨rfl, rfl⟩
/-- the entry of of -/
theorem c_of_a (hC : RC T μ A) (hA : AOK A) {s x y : Int32} (c : KN (aB A) s x) (d1 : ¬ y < 0) (d2 : ¬ y > 2) : f_X9_of 0 s x y (mem μ) = f_X9_of_J28 0 s x y 0 1 (mem μ) := by
  simp only [f_X9_of, ↓hbind gR_0_0, ↓hvc (fun _ => bk_v bk1), ↓hvc (fun _ => vc_0), ↓hbind (c_kn bk1 hC.1 hA.1 _ _), pb_1 c, show bI true = 1 from rfl, ↓hbind c_dp1, ↓thr_ok, ↓thr_er, if_neg d1, if_neg d2]
theorem m_of_a (hM : RM μ A) (hA : AOK A) {s x y : Int32} (c : KN (aB A) s x) (d : 0 ≤ y ∧ y ≤ 2) : f_X10_of 168 s x y (mem μ) = f_X10_of_J43 168 s x y 168 0 (mem (tz μ)) := by
  have ein : f_X10_in y 0 2 (mem (tz μ)) = some (1, mem (tz μ)) := by rw [m_in, decide_eq_true d]; rfl
  simp only [f_X10_of, f_X10_of_J20, ↓hbind pI_t0, ↓hvc (fun _ => vc_168), ↓hbind (m_isOne hM.t.1 hA.1 _ _), pb_1 c, show bI true = 1 from rfl, z_1, ↓reduceIte, ↓hbind m_b0t, ↓hbind ein]
theorem op_of_0 (hT : TF T) (hA : AOK A) (hC : RC T μ A) (hM : RM μ A) (s : Bool) {k : Nat} (hk : k < 12) (c : KN (aB A) (bI s) (Int32.ofNat k)) : OKc T μ (LB wc_L_of (f_X9_of 0 (bI s) (Int32.ofNat k) 0) (f_X10_of 168 (bI s) (Int32.ofNat k) 0)) := by
  have hB := hA.1
  obtain ⟨ν1, ν2, ν3, g, N, e1, e2, e3, e4, f3, nu, hN⟩ := c_without hC hA s hk
  have fq : Fr CQ μ ν3 := f3.mono fun _ _ z => z.Q
  obtain ⟨ν4, j, M', e5, f5, s5, o5, gr⟩ := c_makeMost (hC.fr hT fq fun q i _ z => Or.inl z) hA
  have fq2 : Fr CQ μ ν4 := fq.trans (f5.mono fun _ _ z => z.Q)
  have nu2 := (gr.nu hB.Eb hB.M).2.1
  have hz := sz_le M'
  refine LB_ok hT hM (SN2.uq (A := A) (s := s) (k := k) (F := fun a b => if b ≤ a then 0 else 1)) ⟨_, ν4, A, ?_, fq2.mono fun _ _ z => z.L, hC.fr hT fq2 fun q i _ z => Or.inl z, hA, rfl, N, sz M', nu, nu2, rfl⟩ (fun μ' hν => ?_)
  · rw [c_of_a hC hA c (by decide) (by decide)]
    have s1 : f_X9_of_J28 0 (bI s) (Int32.ofNat k) 0 0 1 (mem μ) = if Int32.ofNat N ≥ Int32.ofNat (sz M') then f_X9_of_J107 0 (mem ν4) else f_X9_of_J107 1 (mem ν4) := by
      simp only [f_X9_of_J28, ↓hvc (fun _ => vc_0), ↓hvc (fun _ => vc_141), ↓hvc (fun _ => pr_v pr142), ↓hbind c_da1, ↓thr_ok, ↓thr_er, show ((0 : Int32) = 2) = False from eq_false (by decide), z_3, ↓reduceIte, ↓hbind gR_0_4, ↓hbind gR_0_0, ↓hbind gR_141_0, ↓hbind e1, ↓hbind e2, ↓hbind e3, ↓hbind e4, ↓hbind e5]
    rw [s1]
    by_cases z : sz M' ≤ N
    · have z' : Int32.ofNat N ≥ Int32.ofNat (sz M') := by rw [oN_ge (by omega) (by omega)]; exact z
      rw [if_pos z', f_X9_of_J107]
      show some (Sum.inl (0 : Int32), mem ν4) = some (Sum.inl (if sz M' ≤ N then 0 else 1), mem ν4)
      rw [if_pos z]
    · have z' : ¬ Int32.ofNat N ≥ Int32.ofNat (sz M') := by rw [oN_ge (by omega) (by omega)]; exact z
      rw [if_neg z', f_X9_of_J107]
      show some (Sum.inl (1 : Int32), mem ν4) = some (Sum.inl (if sz M' ≤ N then 0 else 1), mem ν4)
      rw [if_neg z]
  · obtain ⟨ζ, N', e6, f6, m6, t6, n6⟩ := m_without hν.t hA t0_0 s hk
    obtain ⟨j', ω, e7, f7, n7⟩ := m_nuB m6.1 hB
    have h1 : N' ≤ 12 := by rw [n6.uniq nu]; exact hN
    have h2 : j' ≤ 12 := by rw [n7.uniq nu2]; exact hz
    have f7' : Fr QM ζ ω := f7.mono fun _ _ z => z.Q
    refine ⟨_, _, ω, A, ?_, (t0_ML.trans (CQ_ML f6 fun _ _ z => z)).trans (f7'.mono fun _ _ z => z.L), m6.fr f7' fun q i _ _ z => z, ⟨rfl, N', j', n6, n7, rfl⟩, ?_, rfl⟩
    · rw [m_of_a hν hA c (by decide)]
      have s1 : f_X10_of_J43 168 (bI s) (Int32.ofNat k) 0 168 0 (mem (tz μ')) = if Int32.ofNat N' ≥ Int32.ofNat j' then f_X10_of_J98 0 (mem ω) else f_X10_of_J98 1 (mem ω) := by
        simp only [f_X10_of_J43, ↓hvc (fun _ => vc_168), ↓hbind m_b0t, ↓reduceIte, ↓hbind e6, ↓hbind e7]
      rw [s1]
      by_cases z : j' ≤ N'
      · have z' : Int32.ofNat N' ≥ Int32.ofNat j' := by rw [oN_ge (by omega) (by omega)]; exact z
        rw [if_pos z', f_X10_of_J98]
        show some ((0 : Int32), mem ω) = some (if j' ≤ N' then 0 else 1, mem ω)
        rw [if_pos z]
      · have z' : ¬ Int32.ofNat N' ≥ Int32.ofNat j' := by rw [oN_ge (by omega) (by omega)]; exact z
        rw [if_neg z', f_X10_of_J98]
        show some ((1 : Int32), mem ω) = some (if j' ≤ N' then 0 else 1, mem ω)
        rw [if_neg z]
    · rw [(f7 _ _ (by unfold Fk; omega)).1]; exact t6
theorem op_of_1 (hT : TF T) (hA : AOK A) (hC : RC T μ A) (hM : RM μ A) (s : Bool) {k : Nat} (hk : k < 12) (c : KN (aB A) (bI s) (Int32.ofNat k)) : OKc T μ (LB wc_L_of (f_X9_of 0 (bI s) (Int32.ofNat k) 1) (f_X10_of 168 (bI s) (Int32.ofNat k) 1)) := by
  have hB := hA.1
  obtain ⟨ν1, ν2, ν3, g, N, e1, e2, e3, e4, f3, nu, hN⟩ := c_without hC hA s hk
  have fq : Fr CQ μ ν3 := f3.mono fun _ _ z => z.Q
  refine LB_ok hT hM (S := fun x A' => A' = A ∧ ∃ a, Nu (xE (aB A) s k) a ∧ x = .inl (Int32.ofNat a)) ?_ ⟨_, ν3, A, ?_, fq.mono fun _ _ z => z.L, hC.fr hT fq fun q i _ z => Or.inl z, hA, rfl, N, nu, rfl⟩ (fun μ' hν => ?_)
  · rintro x A1 y A2 ⟨rfl, a, n1, rfl⟩ ⟨rfl, a', n1', rfl⟩
    rw [n1.uniq n1']; exact ⟨rfl, rfl⟩
  · rw [c_of_a hC hA c (by decide) (by decide)]
    simp only [f_X9_of_J28, ↓hvc (fun _ => vc_0), ↓hvc (fun _ => vc_141), ↓hvc (fun _ => pr_v pr142), ↓hbind c_da1, ↓thr_ok, ↓thr_er, show ((1 : Int32) = 2) = False from eq_false (by decide), ↓reduceIte, ↓hbind gR_0_4, ↓hbind gR_0_0, ↓hbind gR_141_0, ↓hbind e1, ↓hbind e2, ↓hbind e3, ↓hbind e4]
  · obtain ⟨ζ, N', e6, f6, m6, t6, n6⟩ := m_without hν.t hA t0_0 s hk
    refine ⟨_, _, ζ, A, ?_, t0_ML.trans (CQ_ML f6 fun _ _ z => z), m6, ⟨rfl, N', n6, rfl⟩, t6, rfl⟩
    rw [m_of_a hν hA c (by decide)]
    simp only [f_X10_of_J43, f_X10_of_J98, ↓hvc (fun _ => vc_168), ↓hbind m_b0t, ↓reduceIte, z_1, ↓hbind e6]
/-- the kind of a worker, of a task -/
def prt (s : Bool) (k : Nat) (a b u v : Int32) : Int32 := if hb (if s then b else a) k then 1 else if hb (if s then v else u) k then 2 else 3
theorem c_partOf (hC : RC T μ A) (hA : AOK A) (s : Bool) {k : Nat} (hk : k < 12) (th : f_X0_isThere 1 (bI s) (Int32.ofNat k) (mem μ) = some (1, mem μ)) {ν ξ : MM} {N : Nat} (e1 : f_X9_makeMost 0 (mem μ) = some (Int32.ofNat N, mem ν)) (e2 : f_X5_look 149 141 (mem ν) = some (mem ξ)) : f_X9_partOf 0 (bI s) (Int32.ofNat k) (mem μ) = some (prt s k (ξ.1 149 0) (ξ.1 149 1) (ξ.1 149 2) (ξ.1 149 3), mem ξ) := by
  have h0 := c_has (x := ξ.1 149 0) (h := mem ξ) (show k < 32 by omega)
  have h1 := c_has (x := ξ.1 149 1) (h := mem ξ) (show k < 32 by omega)
  have h2 := c_has (x := ξ.1 149 2) (h := mem ξ) (show k < 32 by omega)
  have h3 := c_has (x := ξ.1 149 3) (h := mem ξ) (show k < 32 by omega)
  unfold prt
  cases s with
  | false =>
    have th : f_X0_isThere 1 0 (Int32.ofNat k) (mem μ) = some (1, mem μ) := th
    cases q : hb (ξ.1 149 0) k with
    | true =>
      rw [q] at h0
      simp only [f_X9_partOf, f_X9_partOf_J51, ↓hbind gR_0_0, ↓hvc (fun _ => bk_v bk1), ↓hvc (fun _ => vc_0), show bI false = 0 from rfl, ↓hbind th, z_1, ↓reduceIte, ↓hbind e1, ↓hbind gR_0_5, ↓hbind gR_0_4, ↓hvc (fun _ => vc_149), ↓hbind e2, ↓hbind gI_149_0, ↓hbind h0, show bI true = 1 from rfl, q, Bool.false_eq_true]
    | false =>
      rw [q] at h0
      cases q2 : hb (ξ.1 149 2) k with
      | true =>
        rw [q2] at h2
        simp only [f_X9_partOf, f_X9_partOf_J51, f_X9_partOf_J81, f_X9_partOf_J93, ↓hbind gR_0_0, ↓hvc (fun _ => bk_v bk1), ↓hvc (fun _ => vc_0), show bI false = 0 from rfl, ↓hbind th, z_1, ↓reduceIte, ↓hbind e1, ↓hbind gR_0_5, ↓hbind gR_0_4, ↓hvc (fun _ => vc_149), ↓hbind e2, ↓hbind gI_149_0, ↓hbind h0, ↓hbind gI_149_2, ↓hbind h2, show bI true = 1 from rfl, q, q2, Bool.false_eq_true]
      | false =>
        rw [q2] at h2
        simp only [f_X9_partOf, f_X9_partOf_J51, f_X9_partOf_J81, f_X9_partOf_J93, ↓hbind gR_0_0, ↓hvc (fun _ => bk_v bk1), ↓hvc (fun _ => vc_0), show bI false = 0 from rfl, ↓hbind th, z_1, ↓reduceIte, ↓hbind e1, ↓hbind gR_0_5, ↓hbind gR_0_4, ↓hvc (fun _ => vc_149), ↓hbind e2, ↓hbind gI_149_0, ↓hbind h0, ↓hbind gI_149_2, ↓hbind h2, q, q2, Bool.false_eq_true]
  | true =>
    have th : f_X0_isThere 1 1 (Int32.ofNat k) (mem μ) = some (1, mem μ) := th
    cases q : hb (ξ.1 149 1) k with
    | true =>
      rw [q] at h1
      simp only [f_X9_partOf, f_X9_partOf_J51, ↓hbind gR_0_0, ↓hvc (fun _ => bk_v bk1), ↓hvc (fun _ => vc_0), show bI true = 1 from rfl, ↓hbind th, z_1, ↓reduceIte, ↓hbind e1, ↓hbind gR_0_5, ↓hbind gR_0_4, ↓hvc (fun _ => vc_149), ↓hbind e2, ↓hbind gI_149_1, ↓hbind h1, q, Bool.false_eq_true]
    | false =>
      rw [q] at h1
      cases q2 : hb (ξ.1 149 3) k with
      | true =>
        rw [q2] at h3
        simp only [f_X9_partOf, f_X9_partOf_J51, f_X9_partOf_J81, f_X9_partOf_J93, ↓hbind gR_0_0, ↓hvc (fun _ => bk_v bk1), ↓hvc (fun _ => vc_0), show bI true = 1 from rfl, show bI false = 0 from rfl, ↓hbind th, z_1, ↓reduceIte, ↓hbind e1, ↓hbind gR_0_5, ↓hbind gR_0_4, ↓hvc (fun _ => vc_149), ↓hbind e2, ↓hbind gI_149_1, ↓hbind h1, ↓hbind gI_149_3, ↓hbind h3, q, q2, Bool.false_eq_true]
      | false =>
        rw [q2] at h3
        simp only [f_X9_partOf, f_X9_partOf_J51, f_X9_partOf_J81, f_X9_partOf_J93, ↓hbind gR_0_0, ↓hvc (fun _ => bk_v bk1), ↓hvc (fun _ => vc_0), show bI true = 1 from rfl, show bI false = 0 from rfl, ↓hbind th, z_1, ↓reduceIte, ↓hbind e1, ↓hbind gR_0_5, ↓hbind gR_0_4, ↓hvc (fun _ => vc_149), ↓hbind e2, ↓hbind gI_149_1, ↓hbind h1, ↓hbind gI_149_3, ↓hbind h3, q, q2, Bool.false_eq_true]
theorem m_partOf (s : Bool) {k : Nat} (hk : k < 12) (th : f_X10_isThere 168 (bI s) (Int32.ofNat k) (mem μ) = some (1, mem μ)) {ν : MM} (e1 : f_X10_laysReach 168 (mem μ) = some (mem ν)) : f_X10_partOf 168 (bI s) (Int32.ofNat k) (mem μ) = some (prt s k (ν.1 500 0) (ν.1 500 1) (ν.1 501 0) (ν.1 501 1), mem ν) := by
  have h0 := m_has (x := ν.1 500 0) (h := mem ν) (show k < 32 by omega)
  have h1 := m_has (x := ν.1 500 1) (h := mem ν) (show k < 32 by omega)
  have h2 := m_has (x := ν.1 501 0) (h := mem ν) (show k < 32 by omega)
  have h3 := m_has (x := ν.1 501 1) (h := mem ν) (show k < 32 by omega)
  unfold prt
  cases s with
  | false =>
    have th : f_X10_isThere 168 0 (Int32.ofNat k) (mem μ) = some (1, mem μ) := th
    cases q : hb (ν.1 500 0) k with
    | true =>
      rw [q] at h0
      simp only [f_X10_partOf, f_X10_partOf_J50, ↓hvc (fun _ => vc_168), show bI false = 0 from rfl, ↓hbind th, z_1, ↓reduceIte, ↓hbind e1, ↓hbind gR_168_33, ↓hbind a500_0, ↓hbind h0, show bI true = 1 from rfl, q, Bool.false_eq_true]
    | false =>
      rw [q] at h0
      cases q2 : hb (ν.1 501 0) k with
      | true =>
        rw [q2] at h2
        simp only [f_X10_partOf, f_X10_partOf_J50, ↓hvc (fun _ => vc_168), show bI false = 0 from rfl, ↓hbind th, z_1, ↓reduceIte, ↓hbind e1, ↓hbind gR_168_33, ↓hbind a500_0, ↓hbind h0, ↓hbind gR_168_34, ↓hbind a501_0, ↓hbind h2, show bI true = 1 from rfl, q, q2, Bool.false_eq_true]
      | false =>
        rw [q2] at h2
        simp only [f_X10_partOf, f_X10_partOf_J50, ↓hvc (fun _ => vc_168), show bI false = 0 from rfl, ↓hbind th, z_1, ↓reduceIte, ↓hbind e1, ↓hbind gR_168_33, ↓hbind a500_0, ↓hbind h0, ↓hbind gR_168_34, ↓hbind a501_0, ↓hbind h2, q, q2, Bool.false_eq_true]
  | true =>
    have th : f_X10_isThere 168 1 (Int32.ofNat k) (mem μ) = some (1, mem μ) := th
    cases q : hb (ν.1 500 1) k with
    | true =>
      rw [q] at h1
      simp only [f_X10_partOf, f_X10_partOf_J50, ↓hvc (fun _ => vc_168), show bI true = 1 from rfl, ↓hbind th, z_1, ↓reduceIte, ↓hbind e1, ↓hbind gR_168_33, ↓hbind a500_1, ↓hbind h1, q, Bool.false_eq_true]
    | false =>
      rw [q] at h1
      cases q2 : hb (ν.1 501 1) k with
      | true =>
        rw [q2] at h3
        simp only [f_X10_partOf, f_X10_partOf_J50, ↓hvc (fun _ => vc_168), show bI true = 1 from rfl, show bI false = 0 from rfl, ↓hbind th, z_1, ↓reduceIte, ↓hbind e1, ↓hbind gR_168_33, ↓hbind a500_1, ↓hbind h1, ↓hbind gR_168_34, ↓hbind a501_1, ↓hbind h3, q, q2, Bool.false_eq_true]
      | false =>
        rw [q2] at h3
        simp only [f_X10_partOf, f_X10_partOf_J50, ↓hvc (fun _ => vc_168), show bI true = 1 from rfl, show bI false = 0 from rfl, ↓hbind th, z_1, ↓reduceIte, ↓hbind e1, ↓hbind gR_168_33, ↓hbind a500_1, ↓hbind h1, ↓hbind gR_168_34, ↓hbind a501_1, ↓hbind h3, q, q2, Bool.false_eq_true]
theorem op_of_2 (hT : TF T) (hA : AOK A) (hC : RC T μ A) (hM : RM μ A) (s : Bool) {k : Nat} (hk : k < 12) (c : KN (aB A) (bI s) (Int32.ofNat k)) : OKc T μ (LB wc_L_of (f_X9_of 0 (bI s) (Int32.ofNat k) 2) (f_X10_of 168 (bI s) (Int32.ofNat k) 2)) := by
  have hB := hA.1
  have n0 : ((2 : Int32) = 0) = False := eq_false (by decide)
  have n1 : ((2 : Int32) = 1) = False := eq_false (by decide)
  let th := if s then hb (bt (aB A)) k else hb (bw (aB A)) k
  have ec : f_X0_isThere 1 (bI s) (Int32.ofNat k) (mem μ) = some (bI th, mem μ) := by
    cases s with
    | false => exact c_isThere0 bk1 hC.1 hB (show k < 32 by omega)
    | true => exact c_isThere1 bk1 hC.1 hB (show k < 32 by omega)
  have em : ∀ ν, RM ν A → f_X10_isThere 168 (bI s) (Int32.ofNat k) (mem (tz ν)) = some (bI th, mem (tz ν)) := fun ν hν => by
    cases s with
    | false =>
      have := m_isThere0 (μ := tz ν) (show k < 32 by omega)
      rw [show (tz ν).1 172 3 = bw (aB A) from hν.t.1.1.2.2.2.1] at this
      exact this
    | true =>
      have := m_isThere1 (μ := tz ν) (show k < 32 by omega)
      rw [show (tz ν).1 172 4 = bt (aB A) from hν.t.1.1.2.2.2.2] at this
      exact this
  cases q : th with
  | false =>
    rw [q] at ec
    refine LB_ok hT hM (SV.uq (A := A) (v := 0)) (CX_V hT hC hA (ν := μ) ?_ (Fr.refl _ _)) (fun ν hν => MX_V hν (ν := tz ν) ?_ t0_Q t0_0)
    · rw [c_of_a hC hA c (by decide) (by decide)]
      have ep : f_X9_partOf 0 (bI s) (Int32.ofNat k) (mem μ) = some (0, mem μ) := by
        simp only [f_X9_partOf, ↓hbind gR_0_0, ↓hvc (fun _ => bk_v bk1), ↓hbind ec, show bI false = 0 from rfl, ↓reduceIte]
      simp only [f_X9_of_J28, ↓hvc (fun _ => vc_0), ↓hbind c_da1, ↓thr_ok, ↓reduceIte, ↓hbind ep]
    · have em := em ν hν
      rw [q] at em
      rw [m_of_a hν hA c (by decide)]
      have ep : f_X10_partOf 168 (bI s) (Int32.ofNat k) (mem (tz ν)) = some (0, mem (tz ν)) := by
        simp only [f_X10_partOf, ↓hvc (fun _ => vc_168), ↓hbind em, show bI false = 0 from rfl, ↓reduceIte]
      simp only [f_X10_of_J43, f_X10_of_J98, ↓hvc (fun _ => vc_168), ↓hbind m_b0t, ↓reduceIte, n0, n1, ↓hbind ep]
  | true =>
    rw [q] at ec
    refine re_ok hT hA hC hM (prt s k) (fun ν ξ N e1 e2 _ => ?_) (fun μ' ν hν e3 m3 => ?_)
    · have ep := c_partOf hC hA s hk ec e1 e2
      rw [c_of_a hC hA c (by decide) (by decide)]
      simp only [f_X9_of_J28, ↓hvc (fun _ => vc_0), ↓hbind c_da1, ↓thr_ok, ↓reduceIte, ↓hbind ep]
    · have em := em μ' hν
      rw [q] at em
      have ep := m_partOf s hk em e3
      rw [m_of_a hν hA c (by decide)]
      simp only [f_X10_of_J43, f_X10_of_J98, ↓hvc (fun _ => vc_168), ↓hbind m_b0t, ↓reduceIte, n0, n1, ↓hbind ep]
theorem in02 {x : Int32} : (0 ≤ x ∧ x ≤ 2) → x = 0 ∨ x = 1 ∨ x = 2 := by
  rintro ⟨a, b⟩
  rcases i32_cases x with q | ⟨k, hk, rfl⟩
  · exact absurd q (Int32.not_lt.mpr a)
  · rw [show (2 : Int32) = Int32.ofNat 2 from rfl, oN_le hk (by omega)] at b
    rw [show (0 : Int32) = Int32.ofNat 0 from rfl, show (1 : Int32) = Int32.ofNat 1 from rfl, show (2 : Int32) = Int32.ofNat 2 from rfl, oN_inj hk (by omega), oN_inj hk (by omega), oN_inj hk (by omega)]
    omega
theorem op_of_a (hT : TF T) (hA : AOK A) (hC : RC T μ A) (hM : RM μ A) {s x y : Int32} (c : KN (aB A) s x) (d : ¬ (0 ≤ y ∧ y ≤ 2)) : OKc T μ (LB wc_L_of (f_X9_of 0 s x y) (f_X10_of 168 s x y)) := by
  have hB := hA.1
  refine LB_ok hT hM (SA.uq (A := A)) (CX_A hT hC hA fun ν e => ?_) (fun ν hν => MX_A hν (w := 2) (b := 0) rfl (by decide) ?_)
  · have n3 : f_X9_of_J27 0 s x y 0 (mem μ) = some (.inr IAE, mem ν) := by
      simp only [f_X9_of_J27, f_X9_of_J28, ↓hvc (fun _ => vc_0), ↓hbind e, ↓thr_er]
    simp only [f_X9_of, ↓hbind gR_0_0, ↓hvc (fun _ => bk_v bk1), ↓hvc (fun _ => vc_0), ↓hbind (c_kn bk1 hC.1 hB _ _), pb_1 c, show bI true = 1 from rfl, ↓hbind c_dp1, ↓thr_ok]
    by_cases n1 : y < 0
    · rw [if_pos n1]; exact n3
    · rw [if_neg n1]
      by_cases n2 : y > 2
      · rw [if_pos n2]; exact n3
      · exact absurd ⟨Int32.not_lt.mp n1, Int32.not_lt.mp n2⟩ d
  · have ein : f_X10_in y 0 2 (mem (tz ν)) = some (0, mem (tz ν)) := by rw [m_in, decide_eq_false d]; rfl
    simp only [f_X10_of, f_X10_of_J20, f_X10_of_J43, f_X10_of_J51, ↓hbind pI_t0, ↓hvc (fun _ => vc_168), ↓hbind (m_isOne hν.t.1 hB _ _), pb_1 c, show bI true = 1 from rfl, z_1, ↓reduceIte, ↓hbind m_b0t, ↓hbind ein, ↓hbind (m_bA (show (2 : Int32) ≠ 0 by decide))]
theorem op_of_p (hT : TF T) (hA : AOK A) (hC : RC T μ A) (hM : RM μ A) {s x y : Int32} (c : ¬ KN (aB A) s x) : OKc T μ (LB wc_L_of (f_X9_of 0 s x y) (f_X10_of 168 s x y)) := by
  have hB := hA.1
  refine LB_ok hT hM (SP.uq (A := A)) (CX_P hT hC hA fun ν e => ?_) (fun ν hν => MX_P hν (w := 1) (b := 0) rfl (by decide) ?_)
  · simp only [f_X9_of, ↓hbind gR_0_0, ↓hvc (fun _ => bk_v bk1), ↓hvc (fun _ => vc_0), ↓hbind (c_kn bk1 hC.1 hB _ _), pb_f c, show bI false = 0 from rfl, ↓hbind e, ↓thr_er]
  · simp only [f_X10_of, f_X10_of_J20, f_X10_of_J51, ↓hbind pI_t0, ↓hvc (fun _ => vc_168), ↓hbind (m_isOne hν.t.1 hB _ _), pb_f c, bI_0, ↓reduceIte, ↓hbind (m_bP (show (1 : Int32) ≠ 0 by decide)), z_1]
theorem op_of (hT : TF T) (hA : AOK A) (hC : RC T μ A) (hM : RM μ A) (s x y : Int32) : OKc T μ (LB wc_L_of (f_X9_of 0 s x y) (f_X10_of 168 s x y)) := by
  by_cases c : KN (aB A) s x
  · by_cases d : 0 ≤ y ∧ y ≤ 2
    · obtain ⟨b, k, hk, rfl, rfl⟩ : ∃ (b : Bool) (k : Nat), k < 12 ∧ s = bI b ∧ x = Int32.ofNat k := by
        rcases c.c hA.1 with ⟨rfl, k, k1, k2, rfl⟩ | ⟨rfl, k, k1, k2, rfl⟩
        · exact ⟨false, k, k2, rfl, rfl⟩
        · exact ⟨true, k, k2, rfl, rfl⟩
      rcases in02 d with rfl | rfl | rfl
      · exact op_of_0 hT hA hC hM b hk c
      · exact op_of_1 hT hA hC hM b hk c
      · exact op_of_2 hT hA hC hM b hk c
    · exact op_of_a hT hA hC hM c d
  · exact op_of_p hT hA hC hM c
end O18
