/-! MATHEMATICS: a way found deep first, and what it does; that one is found -/
abbrev PP : Type := List (Nat × Nat)
def PV (E : Nat → Nat → Bool) (M : Nat → Nat) : Nat → PP → Prop
  | _, [] => False
  | w, (v, t) :: p => v = w ∧ E w t = true ∧ ((p = [] ∧ ow M t = 12) ∨ (ow M t < 12 ∧ PV E M (ow M t) p))
/-- its tasks are new, and each another -/
def FP2 (S S' : SB) : PP → Prop
  | [] => True
  | (_, t) :: p => t < 12 ∧ S t = false ∧ S' t = true ∧ (∀ x, x ∈ p → x.2 ≠ t) ∧ FP2 S S' p
def updP (M : Nat → Nat) : PP → Nat → Nat
  | [] => M
  | (w, t) :: p => up (updP M p) w t
def js (M : Nat → Nat) : PP → Nat → Nat
  | [] => M
  | (w, t) :: p => js (jo M w t) p
section Pv
variable {E : Nat → Nat → Bool} {M : Nat → Nat} {lw lt : LA}
theorem FP2.weak {S S1 S2 S3 : SB} (h1 : ∀ k, S k = true → S1 k = true) (h2 : ∀ k, S2 k = true → S3 k = true) : ∀ {p : PP}, FP2 S1 S2 p → FP2 S S3 p
  | [], _ => trivial
  | (_, t) :: p, h => ⟨h.1, (by
      cases z : S t with
      | false => rfl
      | true => exact (h1 t z).symm.trans h.2.1), h2 _ h.2.2.1, h.2.2.2.1, FP2.weak h1 h2 h.2.2.2.2⟩
theorem FP2.mem {S S' : SB} : ∀ {p : PP}, FP2 S S' p → ∀ x, x ∈ p → x.2 < 12 ∧ S x.2 = false ∧ S' x.2 = true
  | [], _, x, hx => (nomatch hx)
  | (w, t) :: p, h, x, hx => by
    rcases List.mem_cons.mp hx with z | z
    · rw [z]; exact ⟨h.1, h.2.1, h.2.2.1⟩
    · exact FP2.mem h.2.2.2.2 x z
/-- what the search deep first finds -/
theorem dsN_path (hE : Eb E) : ∀ (c : Nat) (w : Nat) (S : SB) (p : PP), un S ≤ c → (dsN E M lw lt w S).2 = some p → PV E M w p ∧ FP2 S (dsN E M lw lt w S).1 p := by
  intro c
  induction c with
  | zero =>
    intro w S p h e
    have q : ∀ i, i < 12 → qd E lw lt w i S = false := fun i hi => by
      cases z : S i with
      | true => exact qd_ins z
      | false => have := un_ins hi z; omega
    rw [dsN_none hE q] at e; cases e
  | succ c ih =>
    intro w S p h e
    by_cases ex : ∃ j, j < 12 ∧ qd E lw lt w j S = true
    · -- the first of them
      obtain ⟨j, hj, q, f⟩ : ∃ j, j < 12 ∧ qd E lw lt w j S = true ∧ ∀ i, i < j → qd E lw lt w i S = false := by
        obtain ⟨j, hj, q⟩ := ex
        refine ⟨fi (fun i => qd E lw lt w i S) 12, ?_, ?_, fun i hi => fi_min (p := fun i => qd E lw lt w i S) hi⟩
        · have := fi_le_of (p := fun i => qd E lw lt w i S) (n := 12) q hj; omega
        · have := fi_le_of (p := fun i => qd E lw lt w i S) (n := 12) q hj
          exact fi_p (p := fun i => qd E lw lt w i S) (n := 12) (by omega)
      have q' := q
      unfold qd at q'
      simp only [Bool.and_eq_true, Bool.not_eq_true'] at q'
      have u := un_ins hj q'.1.2
      have eq := dsN_first (M := M) hE hj q f
      have im : ∀ k, S k = true → ins S j k = true := fun k z => by unfold ins; rw [z]; rfl
      have ij : ins S j j = true := by unfold ins; simp
      by_cases o : ow M j = 12
      · rw [if_pos o] at eq
        rw [eq] at e ⊢
        have e : some [(w, j)] = some p := e
        injection e with e
        rw [← e]
        exact ⟨⟨rfl, q'.1.1, Or.inl ⟨rfl, o⟩⟩, hj, q'.1.2, ij, fun x hx => (nomatch hx), trivial⟩
      · rw [if_neg o] at eq
        have o2 : ow M j < 12 := by have := ow_le M j; omega
        by_cases l : lw (ow M j) = lt j + 1
        · rw [if_pos l] at eq
          cases z : (dsN E M lw lt (ow M j) (ins S j)).2 with
          | some p' =>
            rw [z] at eq
            obtain ⟨a, b⟩ := ih _ _ p' (by omega) z
            rw [eq] at e ⊢
            have e : some ((w, j) :: p') = some p := e
            injection e with e
            rw [← e]
            refine ⟨⟨rfl, q'.1.1, Or.inr ⟨o2, a⟩⟩, hj, q'.1.2, dsN_mono _ _ _ ij, fun x hx y => ?_, b.weak im fun k z => z⟩
            have := (b.mem x hx).2.1
            rw [y, ij] at this; cases this
          | none =>
            rw [z] at eq
            have m1 := dsN_mono (E := E) (M := M) (lw := lw) (lt := lt) (ow M j) (ins S j)
            have := un_mono m1
            rw [eq] at e ⊢
            obtain ⟨a, b⟩ := ih _ _ p (by omega) e
            exact ⟨a, b.weak (fun k z => m1 k (im k z)) fun k z => z⟩
        · rw [if_neg l] at eq
          rw [eq] at e ⊢
          obtain ⟨a, b⟩ := ih _ _ p (by omega) e
          exact ⟨a, b.weak im fun k z => z⟩
    · have q : ∀ i, i < 12 → qd E lw lt w i S = false := fun i hi => by
        cases z : qd E lw lt w i S with
        | false => rfl
        | true => exact absurd ⟨i, hi, z⟩ ex
      rw [dsN_none hE q] at e; cases e
theorem upd_out : ∀ {p : PP} {x : Nat}, (∀ y, y ∈ p → y.1 ≠ x) → updP M p x = M x
  | [], _, _ => rfl
  | (w, t) :: p, x, h => by
    rw [updP, up_ne (fun z => h (w, t) (List.mem_cons_self ..) z.symm)]
    exact upd_out fun y hy => h y (List.mem_cons_of_mem _ hy)
theorem upd_in {M' : Nat → Nat} : ∀ {p : PP} {x : Nat}, (∃ y, y ∈ p ∧ y.1 = x) → updP M p x = updP M' p x
  | [], _, ⟨_, h, _⟩ => (nomatch h)
  | (w, t) :: p, x, ⟨y, h, e⟩ => by
    rw [updP, updP]
    by_cases z : x = w
    · rw [z, up_same, up_same]
    · rw [up_ne z, up_ne z]
      rcases List.mem_cons.mp h with q | q
      · rw [q] at e; exact absurd e.symm z
      · exact upd_in ⟨y, q, e⟩
/-- all workers of a way from an owner have a pair -/
theorem PV.mated (hE : Eb E) (hM : Mt M) : ∀ {p : PP} {w : Nat}, M w < 12 → PV E M w p → ∀ y, y ∈ p → M y.1 < 12
  | [], _, _, h, _, _ => h.elim
  | (v, t) :: p, w, mw, h, y, hy => by
    rcases List.mem_cons.mp hy with q | q
    · rw [q, h.1]; exact mw
    · rcases h.2.2 with ⟨z, _⟩ | ⟨o, z⟩
      · rw [z] at q; cases q
      · refine PV.mated hE hM ?_ z y q
        rw [ow_M o]
        exact (hE _ _ h.2.1).2
theorem PV.congr {M' : Nat → Nat} : ∀ {p : PP} {w : Nat}, (∀ y, y ∈ p → ow M' y.2 = ow M y.2) → PV E M w p → PV E M' w p
  | [], _, _, h => h
  | (v, t) :: p, w, e, h => by
    have et := e (v, t) (List.mem_cons_self ..)
    refine ⟨h.1, h.2.1, ?_⟩
    show (p = [] ∧ ow M' t = 12) ∨ (ow M' t < 12 ∧ PV E M' (ow M' t) p)
    rw [et]
    exact h.2.2.imp id fun z => ⟨z.1, PV.congr (fun y hy => e y (List.mem_cons_of_mem _ hy)) z.2⟩
theorem PV.doit (hE : Eb E) {S S' : SB} : ∀ {p : PP} {M : Nat → Nat} {w : Nat}, Ms E M → M w = 12 → PV E M w p → FP2 S S' p → Ms E (updP M p) ∧ js M p = updP M p ∧ sz (updP M p) = sz M + 1 ∧ ∀ x, updP M p x = 12 ↔ (M x = 12 ∧ x ≠ w)
  | [], _, _, _, _, h, _ => h.elim
  | (v, t) :: p, M, w, hM, mw, h, hf => by
    obtain ⟨rfl, e, h⟩ := h
    obtain ⟨hw, ht⟩ := hE _ _ e
    rcases h with ⟨rfl, o⟩ | ⟨o, h⟩
    · have j : jo M v t = up M v t := by
        funext x
        unfold jo up
        by_cases z : x = v
        · rw [if_pos z, if_pos z]
        · rw [if_neg z, if_neg z]
          by_cases y : M x = t
          · exact absurd y (ow_none.mp o x (hM.1.w12 (by omega)))
          · rw [if_neg y]
      refine ⟨give_Ms hM hw ht e o, j, sz_give hw ht mw, fun x => ?_⟩
      show up M v t x = 12 ↔ _
      by_cases z : x = v
      · rw [z, up_same]; constructor
        · intro y; omega
        · rintro ⟨_, y⟩; exact absurd rfl y
      · rw [up_ne z]; exact ⟨fun y => ⟨y, z⟩, fun y => y.1⟩
    · have mo := ow_M o
      have vo : ow M t ≠ v := fun z => by rw [z] at mo; omega
      have m1 := jo_Ms hM hw ht e
      have j1 : jo M v t = up (up M (ow M t) 12) v t := by
        funext x
        unfold jo up
        by_cases z : x = v
        · rw [if_pos z, if_pos z]
        · rw [if_neg z, if_neg z]
          by_cases y : M x = t
          · rw [if_pos y, if_pos]
            exact hM.1.2.2 x (ow M t) (by omega) (by rw [y, mo])
          · rw [if_neg y, if_neg]
            intro z2
            exact y (by rw [z2]; exact mo)
      have f1 : jo M v t (ow M t) = 12 := by
        rw [j1, up_ne vo, up_same]
      have s1 : sz (jo M v t) = sz M := by
        have a := sz_drop (M := M) o (by omega)
        have b := sz_give (M := up M (ow M t) 12) hw ht (by rw [up_ne vo.symm]; exact mw)
        rw [j1, b]; exact a
      have pv : PV E (jo M v t) (ow M t) p := h.congr fun y hy => by
        have yt := hf.2.2.2.1 y hy
        have y12 := (FP2.mem hf.2.2.2.2 y hy).1
        rw [jo_ow hM.1 hw ht y12, if_neg yt, if_neg]
        intro z
        have := ow_M (M := M) (t := y.2) (by omega)
        rw [z, mw] at this
        omega
      obtain ⟨a, b, c, d⟩ := PV.doit hE m1 f1 pv hf.2.2.2.2
      have mt := PV.mated hE hM.1 (w := ow M t) (by omega) h
      have hd : ∃ y, y ∈ p ∧ y.1 = ow M t := by
        cases p with
        | nil => exact h.elim
        | cons y p => exact ⟨y, List.mem_cons_self .., h.1⟩
      have eq : updP (jo M v t) p = updP M ((v, t) :: p) := by
        funext x
        show _ = up (updP M p) v t x
        by_cases z : x = v
        · rw [z, up_same, upd_out (fun y hy q => by have := mt y hy; rw [q] at this; omega)]
          unfold jo; rw [if_pos rfl]
        · rw [up_ne z]
          by_cases y : ∃ y, y ∈ p ∧ y.1 = x
          · exact upd_in y
          · have y' : ∀ k, k ∈ p → k.1 ≠ x := fun k hk q => y ⟨k, hk, q⟩
            rw [upd_out y', upd_out y']
            unfold jo
            rw [if_neg z, if_neg]
            intro q
            have : x = ow M t := (hM.1.2.2 x (ow M t) (by omega) (by rw [q, mo]))
            obtain ⟨k, hk, e⟩ := hd
            exact y' k hk (by rw [e, this])
      rw [← eq]
      refine ⟨a, ?_, by rw [c, s1], fun x => ?_⟩
      · show js (jo M v t) p = _
        exact b
      · rw [d x]
        unfold jo
        by_cases z : x = v
        · rw [if_pos z]; constructor
          · rintro ⟨y, _⟩; omega
          · rintro ⟨_, y⟩; exact absurd z y
        · rw [if_neg z]
          by_cases y : M x = t
          · rw [if_pos y]
            have : x = ow M t := hM.1.2.2 x (ow M t) (by omega) (by rw [y, mo])
            constructor
            · rintro ⟨_, k⟩; exact absurd this k
            · rintro ⟨k, _⟩; omega
          · rw [if_neg y]
            constructor
            · rintro ⟨k, _⟩; exact ⟨k, z⟩
            · rintro ⟨k, _⟩; exact ⟨k, fun u => by rw [u] at k; omega⟩
/-- in vain: all that could be looked at is, and is closed -/
theorem dsN_fail (hE : Eb E) : ∀ (c : Nat) (w : Nat) (S : SB), un S ≤ c → (dsN E M lw lt w S).2 = none → (∀ t, (dsN E M lw lt w S).1 t = true → S t = false → ow M t < 12 ∧ (lw (ow M t) = lt t + 1 → ∀ j, E (ow M t) j = true → lt j = lw (ow M t) + 1 → (dsN E M lw lt w S).1 j = true)) ∧ ∀ j, E w j = true → lt j = lw w + 1 → (dsN E M lw lt w S).1 j = true := by
  have base : ∀ (w : Nat) (S : SB), (∀ i, i < 12 → qd E lw lt w i S = false) → (∀ t, (dsN E M lw lt w S).1 t = true → S t = false → ow M t < 12 ∧ (lw (ow M t) = lt t + 1 → ∀ j, E (ow M t) j = true → lt j = lw (ow M t) + 1 → (dsN E M lw lt w S).1 j = true)) ∧ ∀ j, E w j = true → lt j = lw w + 1 → (dsN E M lw lt w S).1 j = true := fun w S q => by
    rw [dsN_none hE q]
    refine ⟨fun t a b => (by rw [show S t = true from a] at b; cases b), fun j a b => ?_⟩
    have := q j (hE _ _ a).2
    unfold qd at this
    rw [a, decide_eq_true b] at this
    show S j = true
    cases z : S j with
    | true => rfl
    | false => rw [z] at this; cases this
  intro c
  induction c with
  | zero =>
    intro w S h e
    exact base w S fun i hi => by
      cases z : S i with
      | true => exact qd_ins z
      | false => have := un_ins hi z; omega
  | succ c ih =>
    intro w S h e
    by_cases ex : ∃ j, j < 12 ∧ qd E lw lt w j S = true
    · obtain ⟨j, hj, q, f⟩ : ∃ j, j < 12 ∧ qd E lw lt w j S = true ∧ ∀ i, i < j → qd E lw lt w i S = false := by
        obtain ⟨j, hj, q⟩ := ex
        refine ⟨fi (fun i => qd E lw lt w i S) 12, ?_, ?_, fun i hi => fi_min (p := fun i => qd E lw lt w i S) hi⟩
        · have := fi_le_of (p := fun i => qd E lw lt w i S) (n := 12) q hj; omega
        · have := fi_le_of (p := fun i => qd E lw lt w i S) (n := 12) q hj
          exact fi_p (p := fun i => qd E lw lt w i S) (n := 12) (by omega)
      have q' := q
      unfold qd at q'
      simp only [Bool.and_eq_true, Bool.not_eq_true'] at q'
      have u := un_ins hj q'.1.2
      have eq := dsN_first (M := M) hE hj q f
      have ix : ∀ k, ins S j k = true → S k = true ∨ k = j := fun k z => by unfold ins at z; simpa using z
      by_cases o : ow M j = 12
      · rw [if_pos o] at eq; rw [eq] at e; cases e
      · rw [if_neg o] at eq
        have o2 : ow M j < 12 := by have := ow_le M j; omega
        by_cases l : lw (ow M j) = lt j + 1
        · rw [if_pos l] at eq
          cases z : (dsN E M lw lt (ow M j) (ins S j)).2 with
          | some p' => rw [z] at eq; rw [eq] at e; cases e
          | none =>
            rw [z] at eq
            have m1 := dsN_mono (E := E) (M := M) (lw := lw) (lt := lt) (ow M j) (ins S j)
            have u2 := un_mono m1
            obtain ⟨a1, a2⟩ := ih _ _ (by omega) z
            rw [eq] at e ⊢
            have m2 := dsN_mono (E := E) (M := M) (lw := lw) (lt := lt) w (dsN E M lw lt (ow M j) (ins S j)).1
            obtain ⟨b1, b2⟩ := ih _ _ (by omega) e
            refine ⟨fun t x y => ?_, b2⟩
            by_cases k1 : (dsN E M lw lt (ow M j) (ins S j)).1 t = true
            · by_cases k2 : ins S j t = true
              · rcases ix t k2 with k3 | k3
                · rw [k3] at y; cases y
                · rw [k3]; exact ⟨o2, fun _ i i1 i2 => m2 i (a2 i i1 i2)⟩
              · obtain ⟨c1, c2⟩ := a1 t k1 (by simpa using k2)
                exact ⟨c1, fun l' i i1 i2 => m2 i (c2 l' i i1 i2)⟩
            · exact b1 t x (by simpa using k1)
        · rw [if_neg l] at eq
          rw [eq] at e ⊢
          obtain ⟨b1, b2⟩ := ih _ _ (by omega) e
          refine ⟨fun t x y => ?_, b2⟩
          by_cases k2 : ins S j t = true
          · rcases ix t k2 with k3 | k3
            · rw [k3] at y; cases y
            · rw [k3]; exact ⟨o2, fun l' => absurd l' l⟩
          · exact b1 t x (by simpa using k2)
    · exact base w S fun i hi => by
        cases z : qd E lw lt w i S with
        | false => rfl
        | true => exact absurd ⟨i, hi, z⟩ ex
end Pv
