/-! THE CLASS: layers; the search deep first -/
theorem lt_go {α β : Type} (v : α) (k : α → β) : lt v k = k v := rfl
section Lq
variable {E : Nat → Nat → Bool} {M : Nat → Nat} {Wt : Int32}
theorem emp_after {k i : Nat} (he : emp (ltn E (ls E M Wt k).1 (ls E M Wt k).2 (2 * k)) (2 * k)) (hk : k ≤ 50) (h1 : k < i) (h2 : i ≤ k + 41) : emp (ltn E (ls E M Wt i).1 (ls E M Wt i).2 (2 * i)) (2 * i) := by
  have := emp_on he hk (i - (k + 1)) (by omega)
  rw [show k + 1 + (i - (k + 1)) = i by omega] at this
  have hi' := ls_I (E := E) (M := M) (Wt := Wt) i (by omega)
  intro t ht e
  rw [ltn_old (fun ⟨_, _, w, a, b, _⟩ => this w a b)] at e
  rcases hi'.2.1 t with y | ⟨j, a, b, _⟩
  · rw [y] at e; exact n1_oN (by omega) e
  · rw [b, oN_inj (by omega) (by omega)] at e; omega
theorem emp_NOL {k : Nat} (h : ∀ j, j < k → ¬ hitk E M Wt j) (he : emp (ltn E (ls E M Wt k).1 (ls E M Wt k).2 (2 * k)) (2 * k)) (hk : k ≤ 12) : NOL E M Wt := fun j hj z => by
  rcases Nat.lt_trichotomy j k with c | c | c
  · exact h j c z
  · rw [c] at z; exact emp_nohit he z
  · exact emp_nohit (emp_after he (by omega) c (by omega)) z
end Lq
section Cp
variable {μ : MM} {n m : Nat} {Wt Tt : Int32} {E : Nat → Nat → Bool} {M : Nat → Nat} {lw lt : LA}
/-- the class's layers -/
def LyR (μ : MM) (lw lt : LA) : Prop := (∀ w, w < 12 → μ.1 152 w = lw w) ∧ ∀ t, t < 12 → μ.1 153 t = lt t
theorem c_lT {t : Nat} (ht : t < 12) : f_X4_layerOfTask 151 (Int32.ofNat t) (mem μ) = some (μ.1 153 t, mem μ) := by
  have i1 := c_inLimit_n (k := t) (h := mem μ) (by omega)
  rw [decide_eq_true ht] at i1
  simp only [f_X4_layerOfTask, f_X4_layerOfTask_J17, ↓hbind i1, show bI true = 1 from rfl, z_1, ↓reduceIte, ↓hbind gR_151_1, ↓hbind (aI_153 ht)]
theorem c_lW {w : Nat} (hw : w < 12) : f_X4_layerOfWorker 151 (Int32.ofNat w) (mem μ) = some (μ.1 152 w, mem μ) := by
  have i1 := c_inLimit_n (k := w) (h := mem μ) (by omega)
  rw [decide_eq_true hw] at i1
  simp only [f_X4_layerOfWorker, f_X4_layerOfWorker_J17, ↓hbind i1, show bI true = 1 from rfl, z_1, ↓reduceIte, ↓hbind gR_151_0, ↓hbind (aI_152 hw)]
theorem c_nextTasks (hS : SR μ n m Wt Tt E M) (hL : LyR μ lw lt) {L : Nat} (hl : L ≤ 100) : ∃ fr ν, f_X4_nextTasks 151 141 (Int32.ofNat L) (mem μ) = some (fr, mem ν) ∧ Fr (fun q _ => q = 153) μ ν ∧ LyR ν lw (ltn E lw lt L) ∧ ∀ t, hb fr t = true ↔ (lt t = -1 ∧ t < 12 ∧ ∃ w, w < 12 ∧ lw w = Int32.ofNat L ∧ E w t = true) := by
  have key : Hw (f_X4_nextTasks 151 141 (Int32.ofNat L) (mem μ)) (fun r => ∃ fr ν, r = (fr, mem ν) ∧ Fr (fun q _ => q = 153) μ ν ∧ LyR ν lw (ltn E lw lt L) ∧ ∀ t, hb fr t = true ↔ (lt t = -1 ∧ t < 12 ∧ ∃ w, w < 12 ∧ lw w = Int32.ofNat L ∧ E w t = true)) := by
    refine hw_for (L := fun N i (x : Int32) => f_X4_nextTasks_L5 f_X4_nextTasks_J38 N 151 141 (Int32.ofNat L) x i (mem μ)) (s0 := 0) 12 (fun i x => ∀ t, hb x t = true ↔ ∃ w, w < i ∧ lw w = Int32.ofNat L ∧ E w t = true) (fun t => by rw [hb_zero]; exact ⟨fun z => (by cases z), fun ⟨w, a, _⟩ => absurd a (Nat.not_lt_zero _)⟩) (by decide) (fun i hi x hx => Or.inl ?_) (fun x hx N => ?_)
    · have c : (Int32.ofNat i ≥ 12) = False := by rw [lge_12 (by omega)]; exact eq_false (by omega)
      have e1 : μ.1 152 i = lw i := hL.1 i hi
      by_cases q : lw i = Int32.ofNat L
      · refine ⟨x ||| μ.1 145 i, fun t => ?_, fun N => ?_⟩
        · rw [hb_or, Bool.or_eq_true, hx t, hS.2.1 i hi t]
          constructor
          · rintro (⟨w, a, b⟩ | a)
            · exact ⟨w, by omega, b⟩
            · exact ⟨i, by omega, q, a⟩
          · rintro ⟨w, a, b, e⟩
            by_cases z : w = i
            · rw [z] at e; exact Or.inr e
            · exact Or.inl ⟨w, by omega, b, e⟩
        · show f_X4_nextTasks_L5 f_X4_nextTasks_J38 (N + 1) 151 141 (Int32.ofNat L) x (Int32.ofNat i) (mem μ) = f_X4_nextTasks_L5 f_X4_nextTasks_J38 N 151 141 (Int32.ofNat L) (x ||| μ.1 145 i) (Int32.ofNat (i + 1)) (mem μ)
          simp only [f_X4_nextTasks_L5, c, ↓reduceIte, ↓hbind gR_151_0, ↓hbind (aI_152 hi), e1, q, ↓hvc (fun _ => vc_141), ↓hbind (c_rowX hi), f_X4_nextTasks_J32, lt_go, i_succ]
      · have q' : (lw i = Int32.ofNat L) = False := eq_false q
        refine ⟨x, fun t => ?_, fun N => ?_⟩
        · rw [hx t]
          constructor
          · rintro ⟨w, a, b⟩; exact ⟨w, by omega, b⟩
          · rintro ⟨w, a, b, e⟩
            have : w ≠ i := fun z => by rw [z] at b; exact q b
            exact ⟨w, by omega, b, e⟩
        · show f_X4_nextTasks_L5 f_X4_nextTasks_J38 (N + 1) 151 141 (Int32.ofNat L) x (Int32.ofNat i) (mem μ) = f_X4_nextTasks_L5 f_X4_nextTasks_J38 N 151 141 (Int32.ofNat L) x (Int32.ofNat (i + 1)) (mem μ)
          simp only [f_X4_nextTasks_L5, c, ↓reduceIte, ↓hbind gR_151_0, ↓hbind (aI_152 hi), e1, q', f_X4_nextTasks_J32, lt_go, i_succ]
    · have c : (Int32.ofNat 12 ≥ 12) = True := eq_true (by decide)
      show Hw (f_X4_nextTasks_L5 f_X4_nextTasks_J38 (N + 1) 151 141 (Int32.ofNat L) x (Int32.ofNat 12) (mem μ)) _
      simp only [f_X4_nextTasks_L5, c, ↓reduceIte, f_X4_nextTasks_J38]
      refine hw_for (L := fun N i (s : Int32 × MM) => f_X4_nextTasks_L44 f_X4_nextTasks_J97 N 151 (Int32.ofNat L) x s.1 i (mem s.2)) (s0 := (0, μ)) 12 (fun i s => Fr (fun q _ => q = 153) μ s.2 ∧ (∀ t, t < 12 → s.2.1 153 t = if t < i then ltn E lw lt L t else lt t) ∧ ∀ t, hb s.1 t = true ↔ (t < i ∧ lt t = -1 ∧ t < 12 ∧ ∃ w, w < 12 ∧ lw w = Int32.ofNat L ∧ E w t = true)) ⟨Fr.refl _ _, fun t ht => by rw [if_neg (Nat.not_lt_zero _)]; exact hL.2 t ht, fun t => by rw [hb_zero]; exact ⟨fun z => (by cases z), fun z => absurd z.1 (Nat.not_lt_zero _)⟩⟩ (by decide) (fun i hi s hs => Or.inl ?_) (fun s hs N' => ?_)
      · obtain ⟨y, ν⟩ := s
        obtain ⟨f, g, h⟩ := hs
        have c : (Int32.ofNat i ≥ 12) = False := by rw [lge_12 (by omega)]; exact eq_false (by omega)
        have eh := c_has (x := x) (h := mem ν) (show i < 32 by omega)
        have ei : ν.1 153 i = lt i := by
          have := g i hi
          rw [if_neg (Nat.lt_irrefl i)] at this; exact this
        -- nothing new
        have no : ¬ (lt i = -1 ∧ i < 12 ∧ ∃ w, w < 12 ∧ lw w = Int32.ofNat L ∧ E w i = true) → (Fr (fun q _ => q = 153) μ ν ∧ (∀ t, t < 12 → ν.1 153 t = if t < i + 1 then ltn E lw lt L t else lt t) ∧ ∀ t, hb y t = true ↔ (t < i + 1 ∧ lt t = -1 ∧ t < 12 ∧ ∃ w, w < 12 ∧ lw w = Int32.ofNat L ∧ E w t = true)) := fun np => by
          refine ⟨f, fun t ht => ?_, fun t => ?_⟩
          · rw [show ν.1 153 t = _ from g t ht]
            by_cases z : t = i
            · rw [if_neg (by omega), if_pos (by omega), z, ltn_old np]
            · by_cases y : t < i
              · rw [if_pos y, if_pos (by omega)]
              · rw [if_neg y, if_neg (by omega)]
          · rw [h t]
            constructor
            · rintro ⟨a, b⟩; exact ⟨by omega, b⟩
            · rintro ⟨a, b⟩
              have : t ≠ i := fun z => np (by rw [← z]; exact b)
              exact ⟨by omega, b⟩
        cases q : hb x i with
        | false =>
          rw [q] at eh
          refine ⟨(y, ν), no (fun z => ?_), fun N' => ?_⟩
          · have := (hx i).mpr z.2.2
            rw [q] at this; cases this
          · show f_X4_nextTasks_L44 f_X4_nextTasks_J97 (N' + 1) 151 (Int32.ofNat L) x y (Int32.ofNat i) (mem ν) = f_X4_nextTasks_L44 f_X4_nextTasks_J97 N' 151 (Int32.ofNat L) x y (Int32.ofNat (i + 1)) (mem ν)
            simp only [f_X4_nextTasks_L44, c, ↓reduceIte, ↓hbind eh, show bI false = 0 from rfl, f_X4_nextTasks_J91, lt_go, i_succ]
        | true =>
          rw [q] at eh
          have ex := (hx i).mp q
          by_cases o : lt i = -1
          · refine ⟨(y ||| ((1 : Int32) <<< (Int32.ofNat i &&& 31)), st ν 153 i (Int32.ofNat (L + 1))), ⟨f.st rfl, fun t ht => ?_, fun t => ?_⟩, fun N' => ?_⟩
            · show (st ν 153 i (Int32.ofNat (L + 1))).1 153 t = _
              by_cases z : t = i
              · rw [z, st_same, if_pos (by omega), ltn_new o hi ex]
              · rw [st_ne (Or.inr z), g t ht]
                by_cases y : t < i
                · rw [if_pos y, if_pos (by omega)]
                · rw [if_neg y, if_neg (by omega)]
            · show hb (y ||| ((1 : Int32) <<< (Int32.ofNat i &&& 31))) t = true ↔ _
              rw [hb_or, hb_bit t (by omega), Bool.or_eq_true, decide_eq_true_eq, h t]
              constructor
              · rintro (⟨a, b⟩ | a)
                · exact ⟨by omega, b⟩
                · rw [a]; exact ⟨by omega, o, hi, ex⟩
              · rintro ⟨a, b⟩
                by_cases z : t = i
                · exact Or.inr z
                · exact Or.inl ⟨by omega, b⟩
            · show f_X4_nextTasks_L44 f_X4_nextTasks_J97 (N' + 1) 151 (Int32.ofNat L) x y (Int32.ofNat i) (mem ν) = f_X4_nextTasks_L44 f_X4_nextTasks_J97 N' 151 (Int32.ofNat L) x (y ||| ((1 : Int32) <<< (Int32.ofNat i &&& 31))) (Int32.ofNat (i + 1)) (mem (st ν 153 i (Int32.ofNat (L + 1))))
              simp only [f_X4_nextTasks_L44, c, ↓reduceIte, ↓hbind eh, show bI true = 1 from rfl, z_1, ↓hbind gR_151_1, ↓hbind (aI_153 hi), ei, o, i_succ, ↓hbind (sI_153 hi), ↓hbind c_bit, f_X4_nextTasks_J91, lt_go]
          · have o' : (lt i = -1) = False := eq_false o
            refine ⟨(y, ν), no (fun z => o z.1), fun N' => ?_⟩
            show f_X4_nextTasks_L44 f_X4_nextTasks_J97 (N' + 1) 151 (Int32.ofNat L) x y (Int32.ofNat i) (mem ν) = f_X4_nextTasks_L44 f_X4_nextTasks_J97 N' 151 (Int32.ofNat L) x y (Int32.ofNat (i + 1)) (mem ν)
            simp only [f_X4_nextTasks_L44, c, ↓reduceIte, ↓hbind eh, show bI true = 1 from rfl, z_1, ↓hbind gR_151_1, ↓hbind (aI_153 hi), ei, o', f_X4_nextTasks_J91, lt_go, i_succ]
      · obtain ⟨y, ν⟩ := s
        obtain ⟨f, g, h⟩ := hs
        have c : (Int32.ofNat 12 ≥ 12) = True := eq_true (by decide)
        show Hw (f_X4_nextTasks_L44 f_X4_nextTasks_J97 (N' + 1) 151 (Int32.ofNat L) x y (Int32.ofNat 12) (mem ν)) _
        simp only [f_X4_nextTasks_L44, c, ↓reduceIte, f_X4_nextTasks_J97]
        refine hw_ret ⟨y, ν, rfl, f, ⟨fun w hw => by rw [(f _ _ (by omega)).1]; exact hL.1 w hw, fun t ht => by rw [show ν.1 153 t = _ from g t ht, if_pos ht]⟩, fun t => ?_⟩
        rw [show hb y t = true ↔ _ from h t]
        exact ⟨fun z => z.2, fun z => ⟨z.2.1, z⟩⟩
  obtain ⟨r, e, fr, ν, rfl, h⟩ := key
  exact ⟨fr, ν, e, h⟩
theorem c_ml_w (hS : SR μ n m Wt Tt E M) (hL : LyR μ lw lt) {L : Nat} (hl : L ≤ 100) {fr : Int32} (hf : ∀ t, t < 12 → (hb fr t = true ↔ lt t = Int32.ofNat (L + 1))) : ∃ ν, (∀ K, f_X4_makeLayers_L98 K 5000 151 141 (Int32.ofNat L) fr 0 (mem μ) = K 151 141 (Int32.ofNat L) (mem ν)) ∧ Fr (fun q _ => q = 152) μ ν ∧ LyR ν (lwn M lw lt L) lt := by
  have key : ∀ (k i : Nat) (ν : MM), i + k = 12 → Fr (fun q _ => q = 152) μ ν → (∀ w, w < 12 → ν.1 152 w = if w < i then lwn M lw lt L w else lw w) → ∃ ξ, (∀ f K, f_X4_makeLayers_L98 K (k + 1 + f) 151 141 (Int32.ofNat L) fr (Int32.ofNat i) (mem ν) = K 151 141 (Int32.ofNat L) (mem ξ)) ∧ Fr (fun q _ => q = 152) μ ξ ∧ ∀ w, w < 12 → ξ.1 152 w = lwn M lw lt L w := by
    intro k
    induction k with
    | zero =>
      intro i ν hi f g
      have c : (Int32.ofNat i ≥ 12) = True := by rw [lge_12 (by omega)]; exact eq_true (by omega)
      refine ⟨ν, fun e K => ?_, f, fun w hw => by rw [g w hw, if_pos (by omega)]⟩
      rw [show 0 + 1 + e = e + 1 by omega]
      simp only [f_X4_makeLayers_L98, c, ↓reduceIte]
    | succ k ih =>
      intro i ν hi f g
      have hi2 : i < 12 := by omega
      have c : (Int32.ofNat i ≥ 12) = False := by rw [lge_12 (by omega)]; exact eq_false (by omega)
      have hp : PR ν 142 M := hS.2.2.fr f (fun i => by omega) (fun i => by omega)
      have et := c_taskOf pr142 hp hi2
      have keep : lwn M lw lt L i = lw i → ∀ w, w < 12 → ν.1 152 w = if w < i + 1 then lwn M lw lt L w else lw w := fun e w hw => by
        rw [g w hw]
        by_cases z : w = i
        · rw [if_neg (by omega), if_pos (by omega), z, e]
        · by_cases y : w < i
          · rw [if_pos y, if_pos (by omega)]
          · rw [if_neg y, if_neg (by omega)]
      by_cases q : M i < 12
      · rw [eI_lt q] at et
        have nz : (Int32.ofNat (M i) = -1) = False := oN_n1 (by omega)
        have eh := c_has (x := fr) (h := mem ν) (show M i < 32 by omega)
        cases y : hb fr (M i) with
        | false =>
          rw [y] at eh
          have e0 : lwn M lw lt L i = lw i := if_neg fun z => by rw [(hf _ q).mpr z.2] at y; cases y
          obtain ⟨ξ, e, r⟩ := ih (i + 1) ν (by omega) f (keep e0)
          refine ⟨ξ, fun e' K => ?_, r⟩
          rw [show k + 1 + 1 + e' = k + 1 + e' + 1 by omega, ← e e' K]
          simp only [f_X4_makeLayers_L98, c, ↓reduceIte, ↓hbind gR_141_0, ↓hvc (fun _ => pr_v pr142), ↓hbind et, nz, ↓hbind eh, show bI false = 0 from rfl, f_X4_makeLayers_J142, lt_go, i_succ]
        | true =>
          rw [y] at eh
          have e0 : lwn M lw lt L i = Int32.ofNat (L + 2) := if_pos ⟨q, (hf _ q).mp y⟩
          have e2 : Int32.ofNat L + 2 = Int32.ofNat (L + 2) := by rw [show (2 : Int32) = Int32.ofNat 2 from rfl, oN_add]
          obtain ⟨ξ, e, r⟩ := ih (i + 1) (st ν 152 i (Int32.ofNat (L + 2))) (by omega) (f.st rfl) (fun w hw => by
            by_cases z : w = i
            · rw [z, st_same, if_pos (by omega), e0]
            · rw [st_ne (Or.inr z), g w hw]
              by_cases y : w < i
              · rw [if_pos y, if_pos (by omega)]
              · rw [if_neg y, if_neg (by omega)])
          refine ⟨ξ, fun e' K => ?_, r⟩
          rw [show k + 1 + 1 + e' = k + 1 + e' + 1 by omega, ← e e' K]
          simp only [f_X4_makeLayers_L98, c, ↓reduceIte, ↓hbind gR_141_0, ↓hvc (fun _ => pr_v pr142), ↓hbind et, nz, ↓hbind eh, show bI true = 1 from rfl, z_1, ↓hbind gR_151_0, e2, ↓hbind (sI_152 hi2), f_X4_makeLayers_J142, lt_go, i_succ]
      · rw [eI_ge (by omega)] at et
        have e0 : lwn M lw lt L i = lw i := if_neg fun z => q z.1
        obtain ⟨ξ, e, r⟩ := ih (i + 1) ν (by omega) f (keep e0)
        refine ⟨ξ, fun e' K => ?_, r⟩
        rw [show k + 1 + 1 + e' = k + 1 + e' + 1 by omega, ← e e' K]
        simp only [f_X4_makeLayers_L98, c, ↓reduceIte, ↓hbind gR_141_0, ↓hvc (fun _ => pr_v pr142), ↓hbind et, n1_n1, f_X4_makeLayers_J142, lt_go, i_succ]
  obtain ⟨ξ, e, f, g⟩ := key 12 0 μ (by omega) (Fr.refl _ _) (fun w hw => by rw [if_neg (Nat.not_lt_zero _)]; exact hL.1 w hw)
  exact ⟨ξ, fun K => e 4987 K, f, g, fun t ht => by rw [(f _ _ (by omega)).1]; exact hL.2 t ht⟩
end Cp
