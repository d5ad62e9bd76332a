/-! OPERATIONS: of -/
variable {Ξ : xH}
/-- a graph on fewer -/
def rE (E : Nat → Nat → Bool) (W T : Int32) (w t : Nat) : Bool := E w t && hb W w && hb T t
section Lo
variable {μ : MM} {n m : Nat} {Wt Tt : Int32} {E : Nat → Nat → Bool} {M : Nat → Nat}
theorem c_leave_L (h8 : μ.1 141 8 = Wt) (h9 : μ.1 141 9 = Tt) (hr : ∀ w, w < 12 → ∀ k, hb (μ.1 145 w) k = E w k) : ∃ ν, f_X7_leaveOut_L55 f_X7_leaveOut_J99 5000 141 0 ((mX Ξ) μ) = some ((mX Ξ) ν) ∧ Fr (fun q _ => q = 145) μ ν ∧ ∀ w, w < 12 → ∀ k, hb (ν.1 145 w) k = rE E Wt Tt w k := by
  have key : Hw (f_X7_leaveOut_L55 f_X7_leaveOut_J99 5000 141 0 ((mX Ξ) μ)) (fun r => ∃ ν, r = (mX Ξ) ν ∧ Fr (fun q _ => q = 145) μ ν ∧ ∀ w, w < 12 → ∀ k, hb (ν.1 145 w) k = rE E Wt Tt w k) := by
    refine hw_for (L := fun n i (ν : MM) => f_X7_leaveOut_L55 f_X7_leaveOut_J99 n 141 i ((mX Ξ) ν)) (s0 := μ) 12 (fun i ν => Fr (fun q _ => q = 145) μ ν ∧ (∀ w, w < 12 → i ≤ w → ν.1 145 w = μ.1 145 w) ∧ ∀ w, w < i → ∀ k, hb (ν.1 145 w) k = rE E Wt Tt w k) ⟨Fr.refl _ _, fun _ _ _ => rfl, fun w a => absurd a (Nat.not_lt_zero _)⟩ (by decide) (fun i hi ν hν => Or.inl ?_) (fun ν hν n' => ?_)
    · obtain ⟨h1, h2, h3⟩ := hν
      have e8 : ν.1 141 8 = Wt := by rw [(h1 _ _ (by omega)).1]; exact h8
      have e9 : ν.1 141 9 = Tt := by rw [(h1 _ _ (by omega)).1]; exact h9
      have er : ν.1 145 i = μ.1 145 i := h2 i hi (Nat.le_refl i)
      have ei : (Int32.ofNat i ≥ 12) = False := by rw [lge_12 (by omega)]; exact eq_false (by omega)
      have eh := c_has (x := Wt) (h := (mX Ξ) ν) (show i < 32 by omega)
      cases q : hb Wt i with
      | false =>
        rw [q] at eh
        refine ⟨st ν 145 i 0, ⟨h1.st rfl, fun w a b => ?_, fun w a k => ?_⟩, fun n' => ?_⟩
        · rw [st_ne (Or.inr (by omega))]; exact h2 w a (by omega)
        · rw [st_at]
          by_cases z : w = i
          · rw [if_pos ⟨rfl, z⟩, hb_zero, z]; unfold rE; rw [q]; simp
          · rw [if_neg (fun y => z y.2)]; exact h3 w (by omega) k
        · show f_X7_leaveOut_L55 f_X7_leaveOut_J99 (n' + 1) 141 (Int32.ofNat i) ((mX Ξ) ν) = f_X7_leaveOut_L55 f_X7_leaveOut_J99 n' 141 (Int32.ofNat (i + 1)) ((mX Ξ) (st ν 145 i 0))
          simp only [f_X7_leaveOut_L55, f_X7_leaveOut_J92, ei, ↓reduceIte, ↓hbind gR_141_1, ↓hbind gI_141_8, e8, ↓hbind eh, show bI false = 0 from rfl, ↓hbind (sI_145 hi), lt, i_succ]
      | true =>
        rw [q] at eh
        refine ⟨st ν 145 i (μ.1 145 i &&& Tt), ⟨h1.st rfl, fun w a b => ?_, fun w a k => ?_⟩, fun n' => ?_⟩
        · rw [st_ne (Or.inr (by omega))]; exact h2 w a (by omega)
        · rw [st_at]
          by_cases z : w = i
          · rw [if_pos ⟨rfl, z⟩, hb_and, hr i hi k, z]; unfold rE; rw [q]; simp
          · rw [if_neg (fun y => z y.2)]; exact h3 w (by omega) k
        · show f_X7_leaveOut_L55 f_X7_leaveOut_J99 (n' + 1) 141 (Int32.ofNat i) ((mX Ξ) ν) = f_X7_leaveOut_L55 f_X7_leaveOut_J99 n' 141 (Int32.ofNat (i + 1)) _
          simp only [f_X7_leaveOut_L55, f_X7_leaveOut_J92, ei, ↓reduceIte, ↓hbind gR_141_1, ↓hbind gI_141_8, e8, ↓hbind eh, show bI true = 1 from rfl, z_1, ↓hbind (aI_145 hi), er, ↓hbind gI_141_9, e9, ↓hbind (sI_145 hi), lt, i_succ]
    · obtain ⟨h1, h2, h3⟩ := hν
      have ei : (Int32.ofNat 12 ≥ 12) = True := eq_true (by decide)
      show Hw (f_X7_leaveOut_L55 f_X7_leaveOut_J99 (n' + 1) 141 (Int32.ofNat 12) ((mX Ξ) ν)) _
      simp only [f_X7_leaveOut_L55, ei, ↓reduceIte, f_X7_leaveOut_J99]
      exact hw_ret ⟨ν, rfl, h1, h3⟩
  obtain ⟨r, e, ν, rfl, h⟩ := key
  exact ⟨ν, e, h⟩
theorem rE_SOK (hO : SOK n m Wt E M) {W' T' : Int32} {M' : Nat → Nat} (hW : ∀ w, hb W' w = true → hb Wt w = true) (hM : Ms (rE E W' T') M') : SOK n m W' (rE E W' T') M' := by
  refine ⟨hO.1, hO.2.1, fun w t q => ?_, fun w q => hO.2.2.2.1 w (hW w q), hM⟩
  unfold rE at q
  simp only [Bool.and_eq_true] at q
  have := hO.2.2.1 w t q.1.1
  exact ⟨this.1, this.2.1, q.1.2⟩
theorem rE_Eb (hE : Eb E) {W' T' : Int32} : Eb (rE E W' T') := fun w t q => by
  unfold rE at q
  simp only [Bool.and_eq_true] at q
  exact hE w t q.1.1
/-- one worker is left out -/
theorem c_leave0 (hS : SR μ n m Wt Tt E M) (hO : SOK n m Wt E M) (hT : ∀ w t, E w t = true → hb Tt t = true) {w : Nat} (hw : w < 12) : ∃ ν W' M', f_X7_leaveOut 141 0 (Int32.ofNat w) ((mX Ξ) μ) = some ((mX Ξ) ν) ∧ Fr FS μ ν ∧ W' = Wt &&& (((1 : Int32) <<< (Int32.ofNat w &&& 31)) ^^^ (-1)) ∧ SR ν n m W' Tt (rE E W' Tt) M' ∧ SOK n m W' (rE E W' Tt) M' := by
  let W' := Wt &&& (((1 : Int32) <<< (Int32.ofNat w &&& 31)) ^^^ (-1))
  have hk : ∀ k, hb W' k = true ↔ (hb Wt k = true ∧ k ≠ w) := fun k => by
    show hb (Wt &&& (((1 : Int32) <<< (Int32.ofNat w &&& 31)) ^^^ (-1))) k = true ↔ _
    rw [hb_and, hb_not, hb_bit k (by omega)]
    cases q : hb Wt k with
    | false => simp
    | true =>
      have : k < 32 := Classical.byContradiction fun z => by rw [hb_ge _ (by omega)] at q; cases q
      simp [this]
  have fx : Fr (fun q i => q = 141 ∧ i = 8) μ (st μ 141 8 W') := (Fr.refl _ _).st ⟨rfl, rfl⟩
  have p1 : PR (st μ 141 8 W') 142 M := hS.2.2.fr fx (fun i => by omega) (fun i => by omega)
  obtain ⟨ν1, e1, p2, f1⟩ := c_loosenWorker (Ξ := Ξ) pr142 p1 (k := w) (by omega)
  rw [eI_lt hw] at e1
  have o1 : ∀ q i, ¬ (q = 141 ∧ i = 8) → q ≠ 143 → q ≠ 144 → ν1.1 q i = μ.1 q i := fun q i a b c => by rw [(f1 _ _ (by unfold FP; omega)).1, (fx _ _ a).1]
  have h8 : ν1.1 141 8 = W' := by rw [(f1 _ _ (by unfold FP; omega)).1]; exact st_same _ _ _ _
  have h9 : ν1.1 141 9 = Tt := by rw [o1 _ _ (by omega) (by omega) (by omega)]; exact hS.1.2.2.2
  obtain ⟨ν2, e2, f2, r2⟩ := c_leave_L (Ξ := Ξ) (E := E) h8 h9 (fun w hw k => by rw [o1 _ _ (by omega) (by omega) (by omega)]; exact hS.2.1 w hw k)
  refine ⟨ν2, W', up M w 12, ?_, ?_, rfl, ⟨⟨?_, ?_, ?_, ?_⟩, r2, p2.fr f2 (fun i => by omega) (fun i => by omega)⟩, rE_SOK hO (fun k q => ((hk k).mp q).1) ⟨dr_Mt hO.2.2.2.2.1 w, fun x q => ?_⟩⟩
  · have e8 : μ.1 141 8 = Wt := hS.1.2.2.1
    have e1 : f_X3_loosenWorker 142 (Int32.ofNat w) ((mX Ξ) (st μ 141 8 (Wt &&& (((1 : Int32) <<< (Int32.ofNat w &&& 31)) ^^^ (-1))))) = some ((mX Ξ) ν1) := e1
    simp only [f_X7_leaveOut, f_X7_leaveOut_J53, ↓reduceIte, ↓hbind gI_141_8, e8, ↓hbind c_bit, ↓hbind pI_141_8, ↓hbind gR_141_0, ↓hvc (fun _ => pr_v pr142), ↓hbind e1, e2]
  · exact ((fx.mono fun q i z => by unfold FS; omega).trans (f1.mono fun q i z => by unfold FP at z; unfold FS; omega)).trans (f2.mono fun q i z => by unfold FS; omega)
  · rw [(f2 _ _ (by omega)).1, o1 _ _ (by omega) (by omega) (by omega)]; exact hS.1.1
  · rw [(f2 _ _ (by omega)).1, o1 _ _ (by omega) (by omega) (by omega)]; exact hS.1.2.1
  · rw [(f2 _ _ (by omega)).1]; exact h8
  · rw [(f2 _ _ (by omega)).1]; exact h9
  · have xw : x ≠ w := fun z => by rw [z, up_same] at q; omega
    rw [up_ne xw] at q ⊢
    have := hO.2.2.2.2.2 x q
    unfold rE
    rw [this, hT _ _ this, (hk x).mpr ⟨(hO.2.2.1 _ _ this).2.2, xw⟩]; rfl
/-- one task is left out -/
theorem c_leave1 (hS : SR μ n m Wt Tt E M) (hO : SOK n m Wt E M) (hT : ∀ w t, E w t = true → hb Tt t = true) {t : Nat} (ht : t < 12) : ∃ ν T' M', f_X7_leaveOut 141 1 (Int32.ofNat t) ((mX Ξ) μ) = some ((mX Ξ) ν) ∧ Fr FS μ ν ∧ T' = Tt &&& (((1 : Int32) <<< (Int32.ofNat t &&& 31)) ^^^ (-1)) ∧ SR ν n m Wt T' (rE E Wt T') M' ∧ SOK n m Wt (rE E Wt T') M' := by
  let T' := Tt &&& (((1 : Int32) <<< (Int32.ofNat t &&& 31)) ^^^ (-1))
  have hk : ∀ k, hb T' k = true ↔ (hb Tt k = true ∧ k ≠ t) := fun k => by
    show hb (Tt &&& (((1 : Int32) <<< (Int32.ofNat t &&& 31)) ^^^ (-1))) k = true ↔ _
    rw [hb_and, hb_not, hb_bit k (by omega)]
    cases q : hb Tt k with
    | false => simp
    | true =>
      have : k < 32 := Classical.byContradiction fun z => by rw [hb_ge _ (by omega)] at q; cases q
      simp [this]
  have fx : Fr (fun q i => q = 141 ∧ i = 9) μ (st μ 141 9 T') := (Fr.refl _ _).st ⟨rfl, rfl⟩
  have p1 : PR (st μ 141 9 T') 142 M := hS.2.2.fr fx (fun i => by omega) (fun i => by omega)
  obtain ⟨ν1, e1, p2, f1⟩ := c_loosenTask (Ξ := Ξ) pr142 p1 ht
  have o1 : ∀ q i, ¬ (q = 141 ∧ i = 9) → q ≠ 143 → q ≠ 144 → ν1.1 q i = μ.1 q i := fun q i a b c => by rw [(f1 _ _ (by unfold FP; omega)).1, (fx _ _ a).1]
  have h9 : ν1.1 141 9 = T' := by rw [(f1 _ _ (by unfold FP; omega)).1]; exact st_same _ _ _ _
  have h8 : ν1.1 141 8 = Wt := by rw [o1 _ _ (by omega) (by omega) (by omega)]; exact hS.1.2.2.1
  obtain ⟨ν2, e2, f2, r2⟩ := c_leave_L (Ξ := Ξ) (E := E) h8 h9 (fun w hw k => by rw [o1 _ _ (by omega) (by omega) (by omega)]; exact hS.2.1 w hw k)
  refine ⟨ν2, T', up M (ow M t) 12, ?_, ?_, rfl, ⟨⟨?_, ?_, ?_, ?_⟩, r2, p2.fr f2 (fun i => by omega) (fun i => by omega)⟩, rE_SOK hO (fun k q => q) ⟨dr_Mt hO.2.2.2.2.1 _, fun x q => ?_⟩⟩
  · have e9 : μ.1 141 9 = Tt := hS.1.2.2.2
    have e1 : f_X3_loosenTask 142 (Int32.ofNat t) ((mX Ξ) (st μ 141 9 (Tt &&& (((1 : Int32) <<< (Int32.ofNat t &&& 31)) ^^^ (-1))))) = some ((mX Ξ) ν1) := e1
    simp only [f_X7_leaveOut, f_X7_leaveOut_J53, z_1, ↓reduceIte, ↓hbind gI_141_9, e9, ↓hbind c_bit, ↓hbind pI_141_9, ↓hbind gR_141_0, ↓hvc (fun _ => pr_v pr142), ↓hbind e1, e2]
  · exact ((fx.mono fun q i z => by unfold FS; omega).trans (f1.mono fun q i z => by unfold FP at z; unfold FS; omega)).trans (f2.mono fun q i z => by unfold FS; omega)
  · rw [(f2 _ _ (by omega)).1, o1 _ _ (by omega) (by omega) (by omega)]; exact hS.1.1
  · rw [(f2 _ _ (by omega)).1, o1 _ _ (by omega) (by omega) (by omega)]; exact hS.1.2.1
  · rw [(f2 _ _ (by omega)).1]; exact h8
  · rw [(f2 _ _ (by omega)).1]; exact h9
  · have xw : x ≠ ow M t := fun z => by rw [z, up_same] at q; omega
    rw [up_ne xw] at q ⊢
    have := hO.2.2.2.2.2 x q
    have xt : M x ≠ t := fun z => xw (by rw [← z]; exact (ow_of hO.2.2.2.2.1 q).symm)
    unfold rE
    rw [this, (hk _).mpr ⟨hT _ _ this, xt⟩, (hO.2.2.1 _ _ this).2.2]; rfl
end Lo
section O18
variable {T : MM → Bk → Prop} {μ : MM} {A : AS}
/-- the book's graph without one worker, one task -/
def xE (B : Bk) (s : Bool) (k : Nat) : Nat → Nat → Bool := if s then rE (gE B) (bw B) (bt B &&& (((1 : Int32) <<< (Int32.ofNat k &&& 31)) ^^^ (-1))) else rE (gE B) (bw B &&& (((1 : Int32) <<< (Int32.ofNat k &&& 31)) ^^^ (-1))) (bt B)
theorem gE_T {B : Bk} : ∀ w t, gE B w t = true → hb (bt B) t = true := fun w t q => by
  simp only [gE, Bool.and_eq_true] at q
  exact q.2
/-- the class: how many pairs without one -/
theorem c_without (hC : RC T μ A) (hA : AOK A) (s : Bool) {k : Nat} (hk : k < 12) : ∃ ν1 ν2 ν3 c N, f_X7_load 141 1 ((mX Ξ) μ) = some ((mX Ξ) ν1) ∧ f_X7_leaveOut 141 (bI s) (Int32.ofNat k) ((mX Ξ) ν1) = some ((mX Ξ) ν2) ∧ f_X7_grow 141 12 ((mX Ξ) ν2) = some (c, (mX Ξ) ν3) ∧ f_X3_size 142 ((mX Ξ) ν3) = some (Int32.ofNat N, (mX Ξ) ν3) ∧ Fr FS μ ν3 ∧ Nu (xE (aB A) s k) N ∧ N ≤ 12 := by
  have hB := hA.1
  obtain ⟨ν1, e1, f1, s1, o1⟩ := c_loaded (Ξ := Ξ) hC hA
  cases s with
  | false =>
    obtain ⟨ν2, W', M', e2, f2, rfl, s2, o2⟩ := c_leave0 (Ξ := Ξ) s1 o1 gE_T hk
    obtain ⟨j, ν3, M2, e3, f3, s3, o3, g⟩ := c_grow (Ξ := Ξ) s2 o2 (Nat.le_refl 12)
    exact ⟨ν1, ν2, ν3, _, sz M2, e1, e2, e3, c_size pr142 s3.2.2, (f1.trans f2).trans f3, (g.nu o2.Eb o2.2.2.2.2).2.1, sz_le _⟩
  | true =>
    obtain ⟨ν2, T', M', e2, f2, rfl, s2, o2⟩ := c_leave1 (Ξ := Ξ) s1 o1 gE_T hk
    obtain ⟨j, ν3, M2, e3, f3, s3, o3, g⟩ := c_grow (Ξ := Ξ) s2 o2 (Nat.le_refl 12)
    exact ⟨ν1, ν2, ν3, _, sz M2, e1, e2, e3, c_size pr142 s3.2.2, (f1.trans f2).trans f3, (g.nu o2.Eb o2.2.2.2.2).2.1, sz_le _⟩
/-- an answer from how many can be, without one, and with all -/
def SN2 (A : AS) (s : Bool) (k : Nat) (F : Nat → Nat → Int32) (x : Int32 ⊕ String) (A' : AS) : Prop := A' = A ∧ ∃ a b, Nu (xE (aB A) s k) a ∧ Nu (gE (aB A)) b ∧ x = .inl (F a b)
theorem SN2.uq {s : Bool} {k : Nat} {F : Nat → Nat → Int32} : UQ (SN2 A s k F) := by
  rintro x A1 y A2 ⟨rfl, a, b, n1, n2, rfl⟩ ⟨rfl, a', b', n1', n2', rfl⟩
  rw [n1.uniq n1', n2.uniq n2']; exact ⟨rfl, rfl⟩
/-- the entry of of -/
theorem c_of_a (hC : RC T μ A) (hA : AOK A) {s x y : Int32} (c : KN (aB A) s x) (d1 : ¬ y < 0) (d2 : ¬ y > 2) : f_X9_of 0 s x y ((mX Ξ) μ) = f_X9_of_J28 0 s x y 0 1 ((mX Ξ) μ) := by
  simp only [f_X9_of, ↓hbind gR_0_0, ↓hvc (fun _ => bk_v bk1), ↓hvc (fun _ => vc_0), ↓hbind (c_kn bk1 hC.1 hA.1 _ _), pb_1 c, show bI true = 1 from rfl, ↓hbind c_dp1, ↓thr_ok, ↓thr_er, if_neg d1, if_neg d2]
/-- the kind of a worker, of a task -/
def prt (s : Bool) (k : Nat) (a b u v : Int32) : Int32 := if hb (if s then b else a) k then 1 else if hb (if s then v else u) k then 2 else 3
theorem c_partOf (hC : RC T μ A) (hA : AOK A) (s : Bool) {k : Nat} (hk : k < 12) (th : f_X0_isThere 1 (bI s) (Int32.ofNat k) ((mX Ξ) μ) = some (1, (mX Ξ) μ)) {ν ξ : MM} {N : Nat} (e1 : f_X9_makeMost 0 ((mX Ξ) μ) = some (Int32.ofNat N, (mX Ξ) ν)) (e2 : f_X5_look 149 141 ((mX Ξ) ν) = some ((mX Ξ) ξ)) : f_X9_partOf 0 (bI s) (Int32.ofNat k) ((mX Ξ) μ) = some (prt s k (ξ.1 149 0) (ξ.1 149 1) (ξ.1 149 2) (ξ.1 149 3), (mX Ξ) ξ) := by
  have h0 := c_has (x := ξ.1 149 0) (h := (mX Ξ) ξ) (show k < 32 by omega)
  have h1 := c_has (x := ξ.1 149 1) (h := (mX Ξ) ξ) (show k < 32 by omega)
  have h2 := c_has (x := ξ.1 149 2) (h := (mX Ξ) ξ) (show k < 32 by omega)
  have h3 := c_has (x := ξ.1 149 3) (h := (mX Ξ) ξ) (show k < 32 by omega)
  unfold prt
  cases s with
  | false =>
    have th : f_X0_isThere 1 0 (Int32.ofNat k) ((mX Ξ) μ) = some (1, (mX Ξ) μ) := th
    cases q : hb (ξ.1 149 0) k with
    | true =>
      rw [q] at h0
      simp only [f_X9_partOf, f_X9_partOf_J51, ↓hbind gR_0_0, ↓hvc (fun _ => bk_v bk1), ↓hvc (fun _ => vc_0), show bI false = 0 from rfl, ↓hbind th, z_1, ↓reduceIte, ↓hbind e1, ↓hbind gR_0_5, ↓hbind gR_0_4, ↓hvc (fun _ => vc_149), ↓hbind e2, ↓hbind gI_149_0, ↓hbind h0, show bI true = 1 from rfl, q, Bool.false_eq_true]
    | false =>
      rw [q] at h0
      cases q2 : hb (ξ.1 149 2) k with
      | true =>
        rw [q2] at h2
        simp only [f_X9_partOf, f_X9_partOf_J51, f_X9_partOf_J81, f_X9_partOf_J93, ↓hbind gR_0_0, ↓hvc (fun _ => bk_v bk1), ↓hvc (fun _ => vc_0), show bI false = 0 from rfl, ↓hbind th, z_1, ↓reduceIte, ↓hbind e1, ↓hbind gR_0_5, ↓hbind gR_0_4, ↓hvc (fun _ => vc_149), ↓hbind e2, ↓hbind gI_149_0, ↓hbind h0, ↓hbind gI_149_2, ↓hbind h2, show bI true = 1 from rfl, q, q2, Bool.false_eq_true]
      | false =>
        rw [q2] at h2
        simp only [f_X9_partOf, f_X9_partOf_J51, f_X9_partOf_J81, f_X9_partOf_J93, ↓hbind gR_0_0, ↓hvc (fun _ => bk_v bk1), ↓hvc (fun _ => vc_0), show bI false = 0 from rfl, ↓hbind th, z_1, ↓reduceIte, ↓hbind e1, ↓hbind gR_0_5, ↓hbind gR_0_4, ↓hvc (fun _ => vc_149), ↓hbind e2, ↓hbind gI_149_0, ↓hbind h0, ↓hbind gI_149_2, ↓hbind h2, q, q2, Bool.false_eq_true]
  | true =>
    have th : f_X0_isThere 1 1 (Int32.ofNat k) ((mX Ξ) μ) = some (1, (mX Ξ) μ) := th
    cases q : hb (ξ.1 149 1) k with
    | true =>
      rw [q] at h1
      simp only [f_X9_partOf, f_X9_partOf_J51, ↓hbind gR_0_0, ↓hvc (fun _ => bk_v bk1), ↓hvc (fun _ => vc_0), show bI true = 1 from rfl, ↓hbind th, z_1, ↓reduceIte, ↓hbind e1, ↓hbind gR_0_5, ↓hbind gR_0_4, ↓hvc (fun _ => vc_149), ↓hbind e2, ↓hbind gI_149_1, ↓hbind h1, q, Bool.false_eq_true]
    | false =>
      rw [q] at h1
      cases q2 : hb (ξ.1 149 3) k with
      | true =>
        rw [q2] at h3
        simp only [f_X9_partOf, f_X9_partOf_J51, f_X9_partOf_J81, f_X9_partOf_J93, ↓hbind gR_0_0, ↓hvc (fun _ => bk_v bk1), ↓hvc (fun _ => vc_0), show bI true = 1 from rfl, show bI false = 0 from rfl, ↓hbind th, z_1, ↓reduceIte, ↓hbind e1, ↓hbind gR_0_5, ↓hbind gR_0_4, ↓hvc (fun _ => vc_149), ↓hbind e2, ↓hbind gI_149_1, ↓hbind h1, ↓hbind gI_149_3, ↓hbind h3, q, q2, Bool.false_eq_true]
      | false =>
        rw [q2] at h3
        simp only [f_X9_partOf, f_X9_partOf_J51, f_X9_partOf_J81, f_X9_partOf_J93, ↓hbind gR_0_0, ↓hvc (fun _ => bk_v bk1), ↓hvc (fun _ => vc_0), show bI true = 1 from rfl, show bI false = 0 from rfl, ↓hbind th, z_1, ↓reduceIte, ↓hbind e1, ↓hbind gR_0_5, ↓hbind gR_0_4, ↓hvc (fun _ => vc_149), ↓hbind e2, ↓hbind gI_149_1, ↓hbind h1, ↓hbind gI_149_3, ↓hbind h3, q, q2, Bool.false_eq_true]
theorem in02 {x : Int32} : (0 ≤ x ∧ x ≤ 2) → x = 0 ∨ x = 1 ∨ x = 2 := by
  rintro ⟨a, b⟩
  rcases i32_cases x with q | ⟨k, hk, rfl⟩
  · exact absurd q (Int32.not_lt.mpr a)
  · rw [show (2 : Int32) = Int32.ofNat 2 from rfl, oN_le hk (by omega)] at b
    rw [show (0 : Int32) = Int32.ofNat 0 from rfl, show (1 : Int32) = Int32.ofNat 1 from rfl, show (2 : Int32) = Int32.ofNat 2 from rfl, oN_inj hk (by omega), oN_inj hk (by omega), oN_inj hk (by omega)]
    omega
end O18
