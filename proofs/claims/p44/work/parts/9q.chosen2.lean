/-! OPERATIONS: chosen, class and model -/
variable {Ξ : xH}
theorem ChS.congr {B : Bk} {C : Nat → Bool} {P P' : Nat → Prop} (h : ChS B C P) (e : ∀ v, hb (bw B) v = true → (P v ↔ P' v)) : ChS B C P' :=
  ⟨fun v q => ⟨(h.1 v q).1, (e v (h.1 v q).1).mp (h.1 v q).2⟩, fun w t p => h.2 w t ((e w t).mpr p)⟩
theorem or_f {C : Nat → Bool} {w : Nat} : (fun v => C v || (decide (v = w) && false)) = C := by funext v; simp
theorem or_t {C : Nat → Bool} {w : Nat} : (fun v => C v || (decide (v = w) && true)) = fun v => C v || decide (v = w) := by funext v; simp
theorem rk_inj {B : Bk} {v w : Nat} (hv : v < 12) (hw : w < 12) (h : rk B v = rk B w) : v = w := by
  unfold rk at h
  omega
section Hc
variable {T : MM → Bk → Prop} {μ : MM} {A : AS} {B : Bk}
theorem SOK.mset {n m : Nat} {Wt : Int32} {E : Nat → Nat → Bool} {M M' : Nat → Nat} (h : SOK n m Wt E M) (h' : Ms E M') : SOK n m Wt E M' := ⟨h.1, h.2.1, h.2.2.1, h.2.2.2.1, h'⟩
/-- what the class's round holds -/
def CI (B : Bk) (μ0 : MM) (i : Nat) (x2 x3 x4 : Int32) (ν : MM) : Prop := ∃ C M, Fr CQ μ0 ν ∧ SR ν (bn B) (bm B) (bw B) (bt B) (gE B) M ∧ Ms (gE B) M ∧ (∀ v, v < 12 → (M v < 12 ↔ C v = true)) ∧ (∀ k, hb x3 k = C k) ∧ x4 = Int32.ofNat (wsum B C 12) ∧ (∀ k, hb x2 k = true → hb (bw B) k = true) ∧ ChS B C (fun v => hb x2 v = false) ∧ (∀ v u, hb (bw B) v = true → hb x2 v = false → hb x2 u = true → rk B v < rk B u) ∧ cnt (hb x2) 12 + i ≤ 12
theorem c_ch_step (hB : BOK B) {μ0 : MM} (hb0 : BC μ0 1 B) {i : Nat} {x1 x2 x3 x4 : Int32} {ν : MM} (hi : i < 12) (h : CI B μ0 i x2 x3 x4 ν) (nz : x2 ≠ 0) : ∃ y2 y3 y4 ξ, CI B μ0 (i + 1) y2 y3 y4 ξ ∧ ∀ n, f_X9_chosen_L55 f_X9_chosen_J133 (n + 1) 0 x1 x2 x3 x4 (Int32.ofNat i) ((mX Ξ) ν) = f_X9_chosen_L55 f_X9_chosen_J133 n 0 x1 y2 y3 y4 (Int32.ofNat (i + 1)) ((mX Ξ) ξ) := by
  obtain ⟨C, M, f0, hS, hM, hC, h3, h4, h2, hc, ho, hn⟩ := h
  have hE := hB.Eb
  have c : (Int32.ofNat i ≥ 12) = False := by rw [lge_12 (by omega)]; exact eq_false (by omega)
  have z' : (x2 = 0) = False := eq_false nz
  have hb1 : BC ν 1 B := hb0.fr f0 fun q i a c z => by unfold CQ at z; omega
  obtain ⟨w, e1, qw, mn⟩ := c_heaviest (Ξ := Ξ) hB hb1 (fun k q => hB.w (h2 k q)) nz
  have tw := h2 w qw
  have hw : w < 12 := Nat.lt_of_lt_of_le (hB.w tw) hB.n
  have cw : C w = false := by
    cases q : C w with
    | false => rfl
    | true => have z : hb x2 w = false := (hc.1 w q).2; rw [qw] at z; cases z
  have mw : M w = 12 := Nat.le_antisymm (hM.1.1 w) (Nat.le_of_not_lt fun z => by rw [(hC w hw).mp z] at cw; cases cw)
  have hO : SOK (bn B) (bm B) (bw B) (gE B) M := hB.SOK.mset hM
  obtain ⟨r, ζ, e2, f2, q⟩ := c_find (Ξ := Ξ) hS hO hw
  have hS2 := hS.ff f2
  have fz : Fr CQ μ0 ζ := f0.trans (f2.mono fun _ _ z => z.Q)
  obtain ⟨y2, hy⟩ : ∃ y, y = x2 &&& (((1 : Int32) <<< (Int32.ofNat w &&& 31)) ^^^ (-1)) := ⟨_, rfl⟩
  have hk : ∀ k, hb y2 k = (hb x2 k && !(decide (k = w))) := fun k => by
    rw [hy, hb_and, hb_not, hb_bit k (by omega)]
    by_cases c : k < 32
    · simp [c]
    · rw [hb_ge _ (by omega)]; simp
  have hk0 : ∀ v, hb y2 v = false ↔ (hb x2 v = false ∨ v = w) := fun v => by
    rw [hk v]
    cases hb x2 v <;> simp
  have h2' : ∀ k, hb y2 k = true → hb (bw B) k = true := fun k q => by
    rw [hk k, Bool.and_eq_true] at q; exact h2 k q.1
  have ho' : ∀ v u, hb (bw B) v = true → hb y2 v = false → hb y2 u = true → rk B v < rk B u := fun v u tv pv pu => by
    have pu' := pu
    rw [hk u, Bool.and_eq_true] at pu'
    have uw : u ≠ w := fun z => by rw [z] at pu'; simp at pu'
    rcases (hk0 v).mp pv with z | z
    · exact ho v u tv z pu'.1
    · rw [z]
      have := mn u pu'.1
      have hu : u < 12 := Nat.lt_of_lt_of_le (hB.w (h2 u pu'.1)) hB.n
      have : rk B w ≠ rk B u := fun y => uw (rk_inj hw hu y).symm
      omega
  have hn' : cnt (hb y2) 12 + (i + 1) ≤ 12 := by
    have := cnt_del (p := hb x2) (n := 12) hw qw
    have e : cnt (hb y2) 12 = cnt (fun k => hb x2 k && decide (k ≠ w)) 12 := cnt_congr fun k _ => by rw [hk k]; simp
    omega
  have np : ¬ hb x2 w = false := fun z => by rw [qw] at z; cases z
  have bf' : ∀ v, hb x2 v = false → hb (bw B) v = true → rk B v < rk B w := fun v p t => ho v w t p qw
  rcases q with ⟨rfl, q⟩ | ⟨L, pw, pt, q1, q2, rfl, q4, q5⟩
  · have nb : ¬ mb (gE B) (fun v => C v || decide (v = w)) := mb_no (D := Ds (gE B) M) hE hM hC hw cw (Ds_dd hE) (fun t e => Ds_in hE (q mw) (by rw [mw]; have := (hE _ _ e).2; omega) e)
    have hc' := hc.next (b := false) tw np bf' ⟨fun z => (by cases z), fun z => absurd z nb⟩
    rw [or_f] at hc'
    refine ⟨y2, x3, x4, ζ, ⟨C, M, fz, hS2, hM, hC, h3, h4, h2', hc'.congr fun v _ => (hk0 v).symm, ho', hn'⟩, fun n => ?_⟩
    rw [hy]
    simp only [f_X9_chosen_L55, c, z', ↓reduceIte, ↓hbind gR_0_0, ↓hvc (fun _ => bk_v bk1), ↓hbind e1, ↓hbind c_bit, lt, ↓hbind gR_0_4, ↓hvc (fun _ => vc_141), ↓hbind e2, z_4, f_X9_chosen_J127, i_succ]
  · obtain ⟨ξ, e3, f3, s3, o3⟩ := c_follow (Ξ := Ξ) hS2 hO q1 q4 q5
    have fx : Fr CQ μ0 ξ := fz.trans (f3.mono fun _ _ z => z.Q)
    have hb2 : BC ξ 1 B := hb0.fr fx fun q i a c z => by unfold CQ at z; omega
    have e4 := c_weightOf (Ξ := Ξ) bk1 hb2 hw
    have hL := q1.len hE
    have hL0 := q1.1
    have l0 : (Int32.ofNat (2 * L) ≤ 0) = False := by rw [lle_0 (by omega)]; exact eq_false (by omega)
    have hC' : ∀ v, v < 12 → (aug M L pw pt v < 12 ↔ (C v || decide (v = w)) = true) := fun v hv => by
      have a := aug_free hE q1 v
      have b := o3.2.2.2.2.1.1 v
      have b2 := hM.1.1 v
      rw [Bool.or_eq_true, decide_eq_true_eq, ← hC v hv]
      rw [q2] at a
      constructor
      · intro z
        by_cases y : v = w
        · exact Or.inr y
        · refine Or.inl ?_
          have : ¬ M v = 12 := fun x => by have := a.mpr ⟨x, y⟩; omega
          omega
      · intro z
        have : ¬ aug M L pw pt v = 12 := fun x => by
          obtain ⟨x1, x2⟩ := a.mp x
          rcases z with z | z
          · omega
          · exact x2 z
        omega
    have hc' := hc.next (b := true) tw np bf' ⟨fun _ => ⟨_, o3.2.2.2.2, hC'⟩, fun _ => rfl⟩
    rw [or_t] at hc'
    refine ⟨y2, x3 ||| ((1 : Int32) <<< (Int32.ofNat w &&& 31)), x4 + Int32.ofNat (be B w), ξ, ⟨fun v => C v || decide (v = w), _, fx, s3, o3.2.2.2.2, hC', fun k => by rw [hb_or, hb_bit k (by omega), h3 k], ?_, h2', hc'.congr fun v _ => (hk0 v).symm, ho', hn'⟩, fun n => ?_⟩
    · rw [wsum_ins cw, if_pos hw, h4, oN_add]
    · rw [hy]
      simp only [f_X9_chosen_L55, c, z', ↓reduceIte, ↓hbind gR_0_0, ↓hvc (fun _ => bk_v bk1), ↓hbind e1, ↓hbind c_bit, lt, ↓hbind gR_0_4, ↓hvc (fun _ => vc_141), ↓hbind e2, l0, ↓hbind e3, ↓hbind e4, f_X9_chosen_J127, i_succ]
/-- what chosen answers -/
def SCh (A : AS) (p : Int32) (x : Int32 ⊕ String) (A' : AS) : Prop := A' = A ∧ ∃ C y, ChS (aB A) C (fun _ => True) ∧ (∀ k, hb y k = C k) ∧ x = .inl (if p = 0 then y else Int32.ofNat (wsum (aB A) C 12))
theorem SCh.uq {p : Int32} : UQ (SCh A p) := by
  rintro x A1 z A2 ⟨ha, C, y, h1, h2, rfl⟩ ⟨ha', C', y', h1', h2', rfl⟩
  have e := h1.uniq h1'
  subst e
  have e2 : y = y' := hb_ext fun k _ => by rw [h2 k, h2' k]
  subst e2
  exact ⟨rfl, ha.trans ha'.symm⟩
theorem c_chosen (hT : TF T) (hA : AOK A) (hC : RC T μ A) {x : Int32} (c : x = 0 ∨ x = 1) : CX Ξ T μ (f_X9_chosen 0 x ((mX Ξ) μ)) (SCh A x) := by
  have hB := hA.1
  obtain ⟨ν1, e1, f1, s1, o1⟩ := c_loaded (Ξ := Ξ) hC hA
  obtain ⟨ν2, e2, p2, f2⟩ := c_pclear (Ξ := Ξ) (μ := ν1) pr142
  have fq : Fr CQ μ ν2 := (f1.mono fun _ _ z => z.Q).trans (f2.mono fun q i z => by unfold FP at z; unfold CQ; omega)
  have s2 : SR ν2 (bn (aB A)) (bm (aB A)) (bw (aB A)) (bt (aB A)) (gE (aB A)) (fun _ => 12) := by
    obtain ⟨⟨h1, h2, h3, h4⟩, h5, -⟩ := s1
    refine ⟨⟨?_, ?_, ?_, ?_⟩, fun w hw k => ?_, p2⟩
    · rw [(f2 _ _ (by unfold FP; omega)).1]; exact h1
    · rw [(f2 _ _ (by unfold FP; omega)).1]; exact h2
    · rw [(f2 _ _ (by unfold FP; omega)).1]; exact h3
    · rw [(f2 _ _ (by unfold FP; omega)).1]; exact h4
    · rw [(f2 _ _ (by unfold FP; omega)).1]; exact h5 w hw k
  have ew : ν2.1 1 2 = bw (aB A) := by rw [(fq _ _ (by unfold CQ; omega)).1]; exact hC.1.1.2.2.1
  have i0 : CI (aB A) μ 0 (bw (aB A)) 0 0 ν2 := ⟨fun _ => false, fun _ => 12, fq, s2, e_Ms _, fun v _ => ⟨fun z => absurd z (Nat.lt_irrefl 12), fun z => (by cases z)⟩, fun k => hb_zero k, by rw [wsum_0]; rfl, fun _ q => q, ⟨fun v q => (by cases q), fun w t p => (by have p : hb (bw (aB A)) w = false := p; rw [t] at p; cases p)⟩, fun v u t p _ => (by rw [t] at p; cases p), by have := cnt_le (hb (bw (aB A))) 12; omega⟩
  have fin : ∀ i x2 x3 x4 (ν : MM), CI (aB A) μ i x2 x3 x4 ν → x2 = 0 → ∃ y, f_X9_chosen_J133 x x3 x4 ((mX Ξ) ν) = some (.inl y, (mX Ξ) ν) ∧ Fr CQ μ ν ∧ SCh A x (.inl y) A := fun i x2 x3 x4 ν h z => by
    obtain ⟨C, M, f0, hS, hM, hC', h3, h4, h2, hc, ho, hn⟩ := h
    have hc2 : ChS (aB A) C (fun _ => True) := hc.congr fun v _ => ⟨fun _ => trivial, fun _ => by rw [z, hb_zero]⟩
    refine ⟨if x = 0 then x3 else x4, ?_, f0, rfl, C, x3, hc2, h3, by rw [h4]⟩
    rcases c with rfl | rfl
    · simp only [f_X9_chosen_J133, f_X9_chosen_J143, ↓reduceIte]
    · simp only [f_X9_chosen_J133, f_X9_chosen_J143, ↓reduceIte, z_1]
  have key : Hw (f_X9_chosen_L55 f_X9_chosen_J133 5000 0 x (bw (aB A)) 0 0 0 ((mX Ξ) ν2)) (fun r => ∃ y ν, r = (.inl y, (mX Ξ) ν) ∧ Fr CQ μ ν ∧ SCh A x (.inl y) A) := by
    refine hw_for (L := fun n i (s : Int32 × Int32 × Int32 × MM) => f_X9_chosen_L55 f_X9_chosen_J133 n 0 x s.1 s.2.1 s.2.2.1 i ((mX Ξ) s.2.2.2)) (s0 := (bw (aB A), 0, 0, ν2)) 12 (fun i s => CI (aB A) μ i s.1 s.2.1 s.2.2.1 s.2.2.2) i0 (by decide) (fun i hi s hs => ?_) (fun s hs n => ?_)
    · obtain ⟨x2, x3, x4, ν⟩ := s
      by_cases z : x2 = 0
      · right
        intro n
        obtain ⟨y, e, f, r⟩ := fin i x2 x3 x4 ν hs z
        have cc : (Int32.ofNat i ≥ 12) = False := by rw [lge_12 (by omega)]; exact eq_false (by omega)
        show Hw (f_X9_chosen_L55 f_X9_chosen_J133 (n + 1) 0 x x2 x3 x4 (Int32.ofNat i) ((mX Ξ) ν)) _
        simp only [f_X9_chosen_L55, cc, ↓reduceIte, z, e]
        exact hw_ret ⟨y, ν, rfl, f, r⟩
      · left
        obtain ⟨y2, y3, y4, ξ, h, e⟩ := c_ch_step (Ξ := Ξ) hB hC.1 (x1 := x) hi hs z
        exact ⟨(y2, y3, y4, ξ), h, e⟩
    · obtain ⟨x2, x3, x4, ν⟩ := s
      have z : x2 = 0 := by
        obtain ⟨C, M, f0, hS, hM, hC', h3, h4, h2, hc, ho, hn⟩ := hs
        refine hb_ext fun k _ => ?_
        rw [hb_zero]
        cases q : hb x2 k with
        | false => rfl
        | true =>
          have hk : k < 12 := Nat.lt_of_lt_of_le (hB.w (h2 k q)) hB.n
          have := cnt_del (p := hb x2) (n := 12) hk q
          have hn : cnt (hb x2) 12 + 12 ≤ 12 := hn
          omega
      obtain ⟨y, e, f, r⟩ := fin 12 x2 x3 x4 ν hs z
      have cc : (Int32.ofNat 12 ≥ 12) = True := eq_true (by decide)
      show Hw (f_X9_chosen_L55 f_X9_chosen_J133 (n + 1) 0 x x2 x3 x4 (Int32.ofNat 12) ((mX Ξ) ν)) _
      simp only [f_X9_chosen_L55, cc, ↓reduceIte, e]
      exact hw_ret ⟨y, ν, rfl, f, r⟩
  obtain ⟨r, e, y, ν, rfl, f, h⟩ := key
  refine CX.of _ ν A ⟨?_, f.mono fun _ _ z => z.L, hC.fr hT f fun q i _ z => Or.inl z, hA, h⟩
  have t1 : f_X9_chosen 0 x ((mX Ξ) μ) = f_X9_chosen_J15 0 x 0 1 ((mX Ξ) μ) := by
    unfold f_X9_chosen f_X9_chosen_J10
    rcases c with rfl | rfl
    · rw [if_pos rfl]
    · rw [if_neg (by decide), if_pos rfl]
  rw [t1]
  simp only [f_X9_chosen_J15, ↓hvc (fun _ => vc_0), ↓hbind c_da1, ↓thr_ok, ↓hbind gR_0_4, ↓hbind gR_0_0, ↓hbind gR_141_0, ↓hvc (fun _ => vc_141), ↓hvc (fun _ => pr_v pr142), ↓hbind e1, ↓hbind e2, ↓hbind (bk_i2 bk1), ew, e]
/-! the model -/
theorem i_dec {v : Nat} : Int32.ofNat (v + 1) + (-1) = Int32.ofNat v := by
  rw [show Int32.ofNat (v + 1) = Int32.ofNat v + 1 from i_succ.symm, Int32.add_assoc]
  exact Int32.add_zero _
theorem tr_cov {E : Nat → Nat → Bool} {V : Nat → Nat} {C : Nat → Bool} (h : KV E V) (hi : KI V) (hc : ∀ u, u < 12 → ((∃ t, V t = u) ↔ C u = true)) : ∀ u, u < 12 → (tr V u < 12 ↔ C u = true) := fun u hu => by
  rw [← hc u hu]
  constructor
  · intro q
    exact ⟨tr V u, (tr_iff (h.Mt hi) q hu).mp rfl⟩
  · rintro ⟨t, e⟩
    have ht : t < 12 := Classical.byContradiction fun z => by rw [h.2.1 t (by omega)] at e; omega
    have := (tr_iff (h.Mt hi) ht hu).mpr e
    omega
end Hc
