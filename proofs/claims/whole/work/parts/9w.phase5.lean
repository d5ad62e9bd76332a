/-! THE CLASS: layers made; a task looked for; a way done -/
section Cq
variable {μ : MM} {n m : Nat} {Wt Tt : Int32} {E : Nat → Nat → Bool} {M : Nat → Nat}
def FLy (q _i : Nat) : Prop := q = 152 ∨ q = 153
theorem SR.fly {ν : MM} {P : Nat → Nat → Prop} (h : SR μ n m Wt Tt E M) (f : Fr P μ ν) (hp : ∀ q i, 141 ≤ q → q ≤ 148 → ¬ P q i) : SR ν n m Wt Tt E M := by
  obtain ⟨⟨h1, h2, h3, h4⟩, h5, h6⟩ := h
  refine ⟨⟨?_, ?_, ?_, ?_⟩, fun w hw k => ?_, h6.fr f (fun i => hp _ _ (by omega) (by omega)) (fun i => hp _ _ (by omega) (by omega))⟩
  · rw [(f _ _ (hp _ _ (by omega) (by omega))).1]; exact h1
  · rw [(f _ _ (hp _ _ (by omega) (by omega))).1]; exact h2
  · rw [(f _ _ (hp _ _ (by omega) (by omega))).1]; exact h3
  · rw [(f _ _ (hp _ _ (by omega) (by omega))).1]; exact h4
  · rw [(f _ _ (hp _ _ (by omega) (by omega))).1]; exact h5 w hw k
theorem c_ml_loop (hS : SR μ n m Wt Tt E M) (hE : Eb E) : ∀ (d k : Nat) (ν : MM), k + d = 12 → Fr FLy μ ν → LyR ν (ls E M Wt k).1 (ls E M Wt k).2 → (∀ j, j < k → ¬ hitk E M Wt j) → ∃ ξ b, (∀ f, f_X4_makeLayers_L57 f_X4_makeLayers_J76 f_X4_makeLayers_J93 f_X4_makeLayers_J154 (d + 1 + f) 151 141 (Int32.ofNat (2 * k)) (mem ν) = some (b, mem ξ)) ∧ Fr FLy μ ξ ∧ ((b = 1 ∧ ∃ lw lt, LAY E M Wt lw lt ∧ LyR ξ lw lt) ∨ (b = 0 ∧ NOL E M Wt))
  | 0, k, ν, h, f, g, nh => by
    have c : (Int32.ofNat (2 * k) ≥ 24) = True := by rw [lge_24 (by omega)]; exact eq_true (by omega)
    refine ⟨ν, 0, fun e => ?_, f, Or.inr ⟨rfl, fun j hj => nh j (by omega)⟩⟩
    rw [show 0 + 1 + e = e + 1 by omega]
    simp only [f_X4_makeLayers_L57, c, ↓reduceIte, f_X4_makeLayers_J154, true_or]
  | d + 1, k, ν, h, f, g, nh => by
    have c : (Int32.ofNat (2 * k) ≥ 24) = False := by rw [lge_24 (by omega)]; exact eq_false (by omega)
    have hS2 := hS.fly f fun q i a b z => by unfold FLy at z; omega
    have hi := ls_I (E := E) (M := M) (Wt := Wt) k (by omega)
    obtain ⟨fr, ζ, e1, f1, g1, h1⟩ := c_nextTasks hS2 g (L := 2 * k) (by omega)
    have fz : Fr FLy μ ζ := f.trans (f1.mono fun q i z => Or.inr z)
    have hS3 := hS.fly fz fun q i a b z => by unfold FLy at z; omega
    -- fresh: those that have the layer now
    have hf : ∀ t, t < 12 → (hb fr t = true ↔ ltn E (ls E M Wt k).1 (ls E M Wt k).2 (2 * k) t = Int32.ofNat (2 * k + 1)) := fun t ht => by
      rw [h1 t]
      constructor
      · rintro ⟨a, b, e⟩; exact ltn_new a b e
      · intro z
        apply Classical.byContradiction
        intro y
        rw [ltn_old y] at z
        rcases hi.2.1 t with x | ⟨j, a, b, _⟩
        · rw [x] at z; exact n1_oN (by omega) z
        · rw [b, oN_inj (by omega) (by omega)] at z; omega
    by_cases z : fr = 0
    · have em : emp (ltn E (ls E M Wt k).1 (ls E M Wt k).2 (2 * k)) (2 * k) := fun t ht e => by
        have := (hf t ht).mpr e
        rw [z, hb_zero] at this; cases this
      refine ⟨ζ, 0, fun e => ?_, fz, Or.inr ⟨rfl, emp_NOL nh em (by omega)⟩⟩
      rw [show d + 1 + 1 + e = d + 1 + e + 1 by omega]
      simp only [f_X4_makeLayers_L57, c, ↓reduceIte, ↓hvc (fun _ => vc_151), ↓hbind e1, z, f_X4_makeLayers_J76, true_or]
    · obtain ⟨x, ex, hx⟩ := c_tasksIn pr142 hS3.2.2
      by_cases y : fr &&& (x ^^^ (-1)) = 0
      · have y' := and_zero'.mp y
        have nhit : ¬ hitk E M Wt k := fun ⟨t, t1, t2, t3⟩ => by
          have a := y' t ((hf t t1).mpr t2)
          rw [hb_not, hx t] at a
          have : ¬ ow M t < 12 := by omega
          simp [this] at a
          omega
        obtain ⟨η, e2, f2, g2⟩ := c_ml_w hS3 g1 (L := 2 * k) (by omega) hf
        have fη : Fr FLy μ η := fz.trans (f2.mono fun q i z => Or.inl z)
        obtain ⟨ξ, b, e3, r⟩ := c_ml_loop hS hE d (k + 1) η (by omega) fη g2 (fun j hj => by
          by_cases q : j = k
          · rw [q]; exact nhit
          · exact nh j (by omega))
        refine ⟨ξ, b, fun e => ?_, r⟩
        have i2 : Int32.ofNat (2 * k) + 2 = Int32.ofNat (2 * (k + 1)) := by rw [show (2 : Int32) = Int32.ofNat 2 from rfl, oN_add, show 2 * k + 2 = 2 * (k + 1) by omega]
        rw [show d + 1 + 1 + e = d + 1 + e + 1 by omega, ← e3 e]
        simp only [f_X4_makeLayers_L57, c, ↓reduceIte, ↓hvc (fun _ => vc_151), ↓hbind e1, z, ↓hbind gR_141_0, ↓hvc (fun _ => pr_v pr142), ↓hbind ex, y, e2, f_X4_makeLayers_J148, lt_go, i2]
      · have hk : hitk E M Wt k := by
          apply Classical.byContradiction
          intro q
          refine y (and_zero'.mpr fun t a => ?_)
          have t12 : t < 12 := ((h1 t).mp a).2.1
          rw [hb_not, hx t]
          have : ow M t < 12 := by
            have := ow_le M t
            apply Classical.byContradiction
            intro u
            exact q ⟨t, t12, (hf t t12).mp a, by omega⟩
          simp [this, t12]
        refine ⟨ζ, 1, fun e => ?_, fz, Or.inl ⟨rfl, _, _, ⟨k, by omega, nh, hk, rfl, rfl⟩, g1⟩⟩
        rw [show d + 1 + 1 + e = d + 1 + e + 1 by omega]
        simp only [f_X4_makeLayers_L57, c, ↓reduceIte, ↓hvc (fun _ => vc_151), ↓hbind e1, z, ↓hbind gR_141_0, ↓hvc (fun _ => pr_v pr142), ↓hbind ex, y, f_X4_makeLayers_J93, or_true]
theorem c_makeLayers (hS : SR μ n m Wt Tt E M) (hE : Eb E) (hW : ∀ w, hb Wt w = true → w < 12) : ∃ ξ b, f_X4_makeLayers 151 141 (mem μ) = some (b, mem ξ) ∧ Fr FLy μ ξ ∧ ((b = 1 ∧ ∃ lw lt, LAY E M Wt lw lt ∧ LyR ξ lw lt) ∨ (b = 0 ∧ NOL E M Wt)) := by
  obtain ⟨x, ex, hx⟩ := c_workersIn pr142 hS.2.2
  have e8 : μ.1 141 8 = Wt := hS.1.2.2.1
  have hk : ∀ k, hb (Wt &&& (x ^^^ (-1))) k = true ↔ (hb Wt k = true ∧ M k = 12) := fun k => by
    rw [hb_and, hb_not, hx k]
    cases q : hb Wt k with
    | false => simp
    | true =>
      have h1 := hW k q
      have h2 := hS.2.2.1.1 k
      simp [h1, show k < 32 by omega]
      omega
  have key : Hw (f_X4_makeLayers_L17 f_X4_makeLayers_J55 5000 151 141 (Wt &&& (x ^^^ (-1))) 0 (mem μ)) (fun r => ∃ b ξ, r = (b, mem ξ) ∧ Fr FLy μ ξ ∧ ((b = 1 ∧ ∃ lw lt, LAY E M Wt lw lt ∧ LyR ξ lw lt) ∨ (b = 0 ∧ NOL E M Wt))) := by
    refine hw_for (L := fun N i (ν : MM) => f_X4_makeLayers_L17 f_X4_makeLayers_J55 N 151 141 (Wt &&& (x ^^^ (-1))) i (mem ν)) (s0 := μ) 12 (fun i ν => Fr FLy μ ν ∧ ∀ k, k < i → ν.1 152 k = lw0 M Wt k ∧ ν.1 153 k = -1) ⟨Fr.refl _ _, fun k a => absurd a (Nat.not_lt_zero _)⟩ (by decide) (fun i hi ν hν => Or.inl ⟨st (st ν 152 i (lw0 M Wt i)) 153 i (-1), ⟨(hν.1.st (Or.inl rfl)).st (Or.inr rfl), fun k a => ?_⟩, fun N => ?_⟩) (fun ν hν N => ?_)
    · by_cases z : k = i
      · rw [z, st_same, st_ne (Or.inl (by omega)), st_same]; exact ⟨rfl, rfl⟩
      · obtain ⟨a, b⟩ := hν.2 k (by omega)
        rw [st_ne (Or.inl (by omega)), st_ne (Or.inr z), st_ne (Or.inr z), st_ne (Or.inl (by omega))]
        exact ⟨a, b⟩
    · have c : (Int32.ofNat i ≥ 12) = False := by rw [lge_12 (by omega)]; exact eq_false (by omega)
      have eh := c_has (x := Wt &&& (x ^^^ (-1))) (h := mem ν) (show i < 32 by omega)
      show f_X4_makeLayers_L17 f_X4_makeLayers_J55 (N + 1) 151 141 (Wt &&& (x ^^^ (-1))) (Int32.ofNat i) (mem ν) = f_X4_makeLayers_L17 f_X4_makeLayers_J55 N 151 141 (Wt &&& (x ^^^ (-1))) (Int32.ofNat (i + 1)) (mem (st (st ν 152 i (lw0 M Wt i)) 153 i (-1)))
      cases q : hb (Wt &&& (x ^^^ (-1))) i with
      | false =>
        rw [q] at eh
        have e0 : lw0 M Wt i = -1 := if_neg fun z => by rw [(hk i).mpr z] at q; cases q
        rw [e0]
        simp only [f_X4_makeLayers_L17, c, ↓reduceIte, ↓hbind gR_151_0, ↓hbind eh, show bI false = 0 from rfl, f_X4_makeLayers_J41, ↓hbind (sI_152 hi), ↓hbind gR_151_1, ↓hbind (sI_153 hi), lt_go, i_succ]
      | true =>
        rw [q] at eh
        have e0 : lw0 M Wt i = 0 := if_pos ((hk i).mp q)
        rw [e0]
        simp only [f_X4_makeLayers_L17, c, ↓reduceIte, ↓hbind gR_151_0, ↓hbind eh, show bI true = 1 from rfl, z_1, f_X4_makeLayers_J41, ↓hbind (sI_152 hi), ↓hbind gR_151_1, ↓hbind (sI_153 hi), lt_go, i_succ]
    · obtain ⟨f, g⟩ := hν
      have c : (Int32.ofNat 12 ≥ 12) = True := eq_true (by decide)
      obtain ⟨ξ, b, e, r⟩ := c_ml_loop hS hE 12 0 ν (by omega) f ⟨fun w hw => (g w hw).1, fun t ht => (g t ht).2⟩ (fun j a => absurd a (Nat.not_lt_zero _))
      have e : f_X4_makeLayers_L57 f_X4_makeLayers_J76 f_X4_makeLayers_J93 f_X4_makeLayers_J154 5000 151 141 0 (mem ν) = some (b, mem ξ) := e 4987
      show Hw (f_X4_makeLayers_L17 f_X4_makeLayers_J55 (N + 1) 151 141 (Wt &&& (x ^^^ (-1))) (Int32.ofNat 12) (mem ν)) _
      simp only [f_X4_makeLayers_L17, c, ↓reduceIte, f_X4_makeLayers_J55, e]
      exact hw_ret ⟨b, ξ, rfl, r⟩
  obtain ⟨r, e, b, ξ, rfl, h⟩ := key
  refine ⟨ξ, b, ?_, h⟩
  simp only [f_X4_makeLayers, ↓hbind gI_141_8, e8, ↓hbind gR_141_0, ↓hvc (fun _ => pr_v pr142), ↓hbind ex, lt_go, e]
variable {lw lt : LA}
/-- the first task to look at -/
theorem c_nextTask (hS : SR μ n m Wt Tt E M) (hE : Eb E) (hL : LyR μ lw lt) {S : SB} (hs : ∀ k, hb (μ.1 151 4) k = S k) {w : Nat} (hw : w < 12) : ∃ r, f_X4_nextTask 151 141 (Int32.ofNat w) (mem μ) = some (r, mem μ) ∧ ((r = -1 ∧ ∀ i, i < 12 → qd E lw lt w i S = false) ∨ ∃ j, j < 12 ∧ r = Int32.ofNat j ∧ qd E lw lt w j S = true ∧ ∀ i, i < j → qd E lw lt w i S = false) := by
  have ew : μ.1 152 w = lw w := hL.1 w hw
  have hk : ∀ k, k < 12 → hb (μ.1 145 w &&& (μ.1 151 4 ^^^ (-1))) k = (E w k && !S k) := fun k hk => by
    rw [hb_and, hb_not, hS.2.1 w hw k, hs k]
    simp [show k < 32 by omega]
  have key : Hw (f_X4_nextTask_L16 f_X4_nextTask_J52 f_X4_nextTask_J61 5000 151 (Int32.ofNat w) (μ.1 145 w &&& (μ.1 151 4 ^^^ (-1))) 0 (mem μ)) (fun x => ∃ r, x = (r, mem μ) ∧ ((r = -1 ∧ ∀ i, i < 12 → qd E lw lt w i S = false) ∨ ∃ j, j < 12 ∧ r = Int32.ofNat j ∧ qd E lw lt w j S = true ∧ ∀ i, i < j → qd E lw lt w i S = false)) := by
    refine hw_for (L := fun N i (_ : Unit) => f_X4_nextTask_L16 f_X4_nextTask_J52 f_X4_nextTask_J61 N 151 (Int32.ofNat w) (μ.1 145 w &&& (μ.1 151 4 ^^^ (-1))) i (mem μ)) (s0 := ()) 12 (fun i _ => ∀ j, j < i → qd E lw lt w j S = false) (fun j a => absurd a (Nat.not_lt_zero _)) (by decide) (fun i hi _ h => ?_) (fun _ h N => ?_)
    · have c : (Int32.ofNat i ≥ 12) = False := by rw [lge_12 (by omega)]; exact eq_false (by omega)
      by_cases z : μ.1 145 w &&& (μ.1 151 4 ^^^ (-1)) = 0
      · right
        intro N
        show Hw (f_X4_nextTask_L16 f_X4_nextTask_J52 f_X4_nextTask_J61 (N + 1) 151 (Int32.ofNat w) (μ.1 145 w &&& (μ.1 151 4 ^^^ (-1))) (Int32.ofNat i) (mem μ)) _
        simp only [f_X4_nextTask_L16, c, ↓reduceIte, z, f_X4_nextTask_J61]
        refine hw_ret ⟨-1, rfl, Or.inl ⟨rfl, fun j hj => ?_⟩⟩
        have := hk j hj
        rw [z, hb_zero] at this
        unfold qd
        rw [← this]; rfl
      · have z' : (μ.1 145 w &&& (μ.1 151 4 ^^^ (-1)) = 0) = False := eq_false z
        have eh := c_has (x := μ.1 145 w &&& (μ.1 151 4 ^^^ (-1))) (h := mem μ) (show i < 32 by omega)
        have et : μ.1 153 i = lt i := hL.2 i hi
        cases q : hb (μ.1 145 w &&& (μ.1 151 4 ^^^ (-1))) i with
        | false =>
          rw [q] at eh
          left
          refine ⟨(), fun j hj => ?_, fun N => ?_⟩
          · by_cases y : j = i
            · rw [y]
              rw [hk i hi] at q
              unfold qd
              rw [q]; rfl
            · exact h j (by omega)
          · show f_X4_nextTask_L16 f_X4_nextTask_J52 f_X4_nextTask_J61 (N + 1) 151 (Int32.ofNat w) (μ.1 145 w &&& (μ.1 151 4 ^^^ (-1))) (Int32.ofNat i) (mem μ) = f_X4_nextTask_L16 f_X4_nextTask_J52 f_X4_nextTask_J61 N 151 (Int32.ofNat w) (μ.1 145 w &&& (μ.1 151 4 ^^^ (-1))) (Int32.ofNat (i + 1)) (mem μ)
            simp only [f_X4_nextTask_L16, c, z', ↓reduceIte, ↓hbind eh, show bI false = 0 from rfl, f_X4_nextTask_J55, lt_go, i_succ]
        | true =>
          rw [q] at eh
          rw [hk i hi] at q
          by_cases l : lt i = lw w + 1
          · right
            intro N
            have l' : (lt i = lw w + 1) = True := eq_true l
            show Hw (f_X4_nextTask_L16 f_X4_nextTask_J52 f_X4_nextTask_J61 (N + 1) 151 (Int32.ofNat w) (μ.1 145 w &&& (μ.1 151 4 ^^^ (-1))) (Int32.ofNat i) (mem μ)) _
            simp only [f_X4_nextTask_L16, c, z', ↓reduceIte, ↓hbind eh, show bI true = 1 from rfl, z_1, ↓hvc (fun _ => vc_151), ↓hbind (c_lT hi), ↓hbind (c_lW hw), et, ew, l', f_X4_nextTask_J52]
            exact hw_ret ⟨Int32.ofNat i, rfl, Or.inr ⟨i, hi, rfl, by unfold qd; rw [q, decide_eq_true l]; rfl, h⟩⟩
          · left
            have l' : (lt i = lw w + 1) = False := eq_false l
            refine ⟨(), fun j hj => ?_, fun N => ?_⟩
            · by_cases y : j = i
              · rw [y]
                unfold qd
                rw [decide_eq_false l]; simp
              · exact h j (by omega)
            · show f_X4_nextTask_L16 f_X4_nextTask_J52 f_X4_nextTask_J61 (N + 1) 151 (Int32.ofNat w) (μ.1 145 w &&& (μ.1 151 4 ^^^ (-1))) (Int32.ofNat i) (mem μ) = f_X4_nextTask_L16 f_X4_nextTask_J52 f_X4_nextTask_J61 N 151 (Int32.ofNat w) (μ.1 145 w &&& (μ.1 151 4 ^^^ (-1))) (Int32.ofNat (i + 1)) (mem μ)
              simp only [f_X4_nextTask_L16, c, z', ↓reduceIte, ↓hbind eh, show bI true = 1 from rfl, z_1, ↓hvc (fun _ => vc_151), ↓hbind (c_lT hi), ↓hbind (c_lW hw), et, ew, l', f_X4_nextTask_J55, lt_go, i_succ]
    · have c : (Int32.ofNat 12 ≥ 12) = True := eq_true (by decide)
      show Hw (f_X4_nextTask_L16 f_X4_nextTask_J52 f_X4_nextTask_J61 (N + 1) 151 (Int32.ofNat w) (μ.1 145 w &&& (μ.1 151 4 ^^^ (-1))) (Int32.ofNat 12) (mem μ)) _
      simp only [f_X4_nextTask_L16, c, ↓reduceIte, f_X4_nextTask_J61]
      exact hw_ret ⟨-1, rfl, Or.inl ⟨rfl, h⟩⟩
  obtain ⟨x, e, r, rfl, h⟩ := key
  refine ⟨r, ?_, h⟩
  simp only [f_X4_nextTask, ↓hvc (fun _ => vc_141), ↓hbind (c_rowX hw), ↓hbind gI_151_4, lt_go, e]
/-- a way stands on the class's path, from i on -/
def PA (ν : MM) : Nat → PP → Prop
  | _, [] => True
  | i, (w, t) :: p => ν.1 154 i = Int32.ofNat w ∧ ν.1 155 i = Int32.ofNat t ∧ w < 12 ∧ t < 12 ∧ PA ν (i + 1) p
theorem PA.fr {ν ξ : MM} : ∀ {p : PP} {i : Nat}, (∀ k, i ≤ k → ξ.1 154 k = ν.1 154 k ∧ ξ.1 155 k = ν.1 155 k) → PA ν i p → PA ξ i p
  | [], _, _, _ => trivial
  | (w, t) :: p, i, h, ⟨a, b, c, d, e⟩ => ⟨by rw [(h i (Nat.le_refl i)).1]; exact a, by rw [(h i (Nat.le_refl i)).2]; exact b, c, d, PA.fr (fun k hk => h k (by omega)) e⟩
theorem c_follow4 {dep : Nat} (hd : dep ≤ 11) : ∀ (q : PP) (i : Nat) (ν : MM) (M : Nat → Nat), i + q.length = dep + 1 → PA ν i q → PR ν 142 M → ∃ ξ, (∀ f, f_X4_follow_L2 f_X4_follow_J38 (q.length + 1 + f) 151 141 (Int32.ofNat dep) (Int32.ofNat i) (mem ν) = some (mem ξ)) ∧ Fr (fun q i => FP 142 q i ∨ (q = 151 ∧ i = 8)) ν ξ ∧ PR ξ 142 (js M q) ∧ ξ.1 151 8 = Int32.ofNat (2 * (dep + 1))
  | [], i, ν, M, h, ha, hp => by
    have h : i + 0 = dep + 1 := h
    have c : (Int32.ofNat i > Int32.ofNat dep) = True := by rw [oN_gt (by omega) (by omega)]; exact eq_true (by omega)
    have e2 : (2 : Int32) * Int32.ofNat (dep + 1) = Int32.ofNat (2 * (dep + 1)) := by rw [show (2 : Int32) = Int32.ofNat 2 from rfl, oN_mul]
    have f1 : Fr (fun q i => FP 142 q i ∨ (q = 151 ∧ i = 8)) ν (st ν 151 8 (Int32.ofNat (2 * (dep + 1)))) := (Fr.refl _ _).st (Or.inr ⟨rfl, rfl⟩)
    refine ⟨st ν 151 8 (Int32.ofNat (2 * (dep + 1))), fun f => ?_, f1, hp.fr ((Fr.refl (fun q i => q = 151 ∧ i = 8) ν).st ⟨rfl, rfl⟩) (fun i => by omega) (fun i => by omega), st_same _ _ _ _⟩
    rw [show ([] : PP).length + 1 + f = f + 1 by show 0 + 1 + f = f + 1; omega]
    simp only [f_X4_follow_L2, c, ↓reduceIte, f_X4_follow_J38, i_succ, e2, ↓hbind pI_151_8]
  | (w, t) :: q, i, ν, M, h, ⟨a, b, hw, ht, ha⟩, hp => by
    have h : i + (q.length + 1) = dep + 1 := h
    have c : (Int32.ofNat i > Int32.ofNat dep) = False := by rw [oN_gt (by omega) (by omega)]; exact eq_false (by omega)
    have c2 : (Int32.ofNat i ≥ 12) = False := by rw [lge_12 (by omega)]; exact eq_false (by omega)
    have hi : i < 12 := by omega
    obtain ⟨ζ, e1, p1, f1⟩ := c_join pr142 hp hw ht
    obtain ⟨ξ, e2, f2, p2, l2⟩ := c_follow4 hd q (i + 1) ζ (jo M w t) (by omega) (ha.fr fun k _ => ⟨(f1 _ _ (by unfold FP; omega)).1, (f1 _ _ (by unfold FP; omega)).1⟩) p1
    refine ⟨ξ, fun f => ?_, (f1.mono fun q i z => Or.inl z).trans f2, p2, l2⟩
    rw [show ((w, t) :: q : PP).length + 1 + f = q.length + 1 + f + 1 by show q.length + 1 + 1 + f = _; omega, ← e2 f]
    simp only [f_X4_follow_L2, c, c2, ↓reduceIte, ↓hbind gR_141_0, ↓hbind gR_151_2, ↓hbind gR_151_3, ↓hbind (aI_154 hi), ↓hbind (aI_155 hi), a, b, ↓hvc (fun _ => pr_v pr142), ↓hbind e1, lt_go, i_succ]
end Cq
