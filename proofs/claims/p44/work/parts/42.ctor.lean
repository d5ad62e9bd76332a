/-! CONSTRUCTORS OVER A SHAPE: the shape grows, the ints beyond it are 0 -/
def Z (μ : MM) (n : Nat) : Prop := ∀ p, n ≤ p → ∀ i, μ.1 p i = 0 ∧ μ.2 p i = 0
def dfl (v : Value) : Bool := match v with
  | .int x => x == 0
  | .long x => x == 0
  | .null => true
  | .ref _ => true
  | _ => false
theorem Z.mono {μ : MM} {n m : Nat} (h : Z μ n) (hm : n ≤ m) : Z μ m := fun p hp => h p (Nat.le_trans hm hp)
theorem Z.st {μ : MM} {n a k : Nat} {v : Int32} (h : Z μ n) (ha : a < n) : Z (st μ a k v) n := fun p hp i => by
  obtain ⟨h1, h2⟩ := h p hp i
  exact ⟨by show (if p = a ∧ i = k then v else μ.1 p i) = 0; rw [if_neg (fun q => by omega)]; exact h1, h2⟩
theorem Z.rw {μ : MM} {n q m : Nat} {f : Nat → Int32} (h : Z μ n) (ha : q < n) : Z (rw_ μ q m f) n := fun p hp i => by
  obtain ⟨h1, h2⟩ := h p hp i
  exact ⟨by show (if p = q ∧ i < m then f i else μ.1 p i) = 0; rw [if_neg (fun z => by omega)]; exact h1, h2⟩
theorem memV_id {μ : MM} {p : Nat} (h : ∀ i, μ.1 p i = 0 ∧ μ.2 p i = 0) : ∀ (l : List Value) (o : Nat), l.all dfl = true → memV μ p o l = l
  | [], _, _ => rfl
  | v :: t, o, e => by
    simp only [List.all_cons, Bool.and_eq_true] at e
    rw [memV, memV_id h t (o + 1) e.2]
    congr 1
    have e1 := e.1
    cases v <;> simp [dfl, ov, (h o).1, (h o).2] at e1 ⊢
    · exact e1.symm
    · exact e1.symm
theorem memF_id {μ : MM} : ∀ (t : xH) (n : Nat), Z μ n → t.all (fun c => c.2.all dfl) = true → memF μ n t = t
  | [], _, _, _ => rfl
  | c :: t, n, h, e => by
    simp only [List.all_cons, Bool.and_eq_true] at e
    rw [memF, memF_id t (n + 1) (h.mono (by omega)) e.2, memV_id (h n (Nat.le_refl _)) c.2 0 e.1]
theorem memF_app (μ : MM) : ∀ (a b : xH) (o : Nat), memF μ o (a ++ b) = memF μ o a ++ memF μ (o + a.length) b
  | [], b, o => by simp [memF]
  | c :: a, b, o => by
    rw [List.cons_append, memF, memF, memF_app μ a b (o + 1), List.cons_append, List.length_cons, show o + 1 + a.length = o + (a.length + 1) by omega]
theorem mS_push {sh t : xH} {μ : MM} (h : Z μ sh.length) (e : t.all (fun c => c.2.all dfl) = true) : mS sh μ ++ t = mS (sh ++ t) μ := by
  rw [mS, mS, memF_app, Nat.zero_add, memF_id t _ h e]
theorem memF_len (μ : MM) : ∀ (t : xH) (n : Nat), (memF μ n t).length = t.length
  | [], _ => rfl
  | c :: t, n => by rw [memF, List.length_cons, memF_len μ t, List.length_cons]
theorem mS_len (sh : xH) (μ : MM) : (mS sh μ).length = sh.length := memF_len μ sh 0
section Alloc
variable {sh : xH} {μ : MM}
theorem nwC_s {c : xC} (h : Z μ sh.length) (e : c.2.all dfl = true) (hl : sh.length + 1 < 1000000) : nwC (mS sh μ) c = some (sh.length, mS (sh ++ [c]) μ) := by
  unfold nwC
  rw [mS_len, if_pos hl, mS_push h (by simp [e])]
theorem dI_all (n : Nat) : (dI n).all dfl = true := by
  rw [List.all_eq_true]
  intro v hv
  rw [(List.mem_replicate.mp hv).2]; rfl
theorem dJ_all (n : Nat) : (dJ n).all dfl = true := by
  rw [List.all_eq_true]
  intro v hv
  rw [(List.mem_replicate.mp hv).2]; rfl
theorem nwI_s {n : Int32} {k : Nat} (h : Z μ sh.length) (hk : n = Int32.ofNat k) (hk2 : k < 100000) (hl : sh.length + 1 < 1000000) : nwI (mS sh μ) n = some (sh.length, mS (sh ++ [(100, dI k)]) μ) := by
  subst hk
  obtain ⟨⟨a1, -⟩, a2⟩ := ain_nat (k := k) (n := k + 1) (by omega) (by omega)
  unfold nwI
  rw [a2, if_pos ⟨a1, by omega⟩]
  exact nwC_s h (dI_all k) hl
theorem nwJ_s {n : Int32} {k : Nat} (h : Z μ sh.length) (hk : n = Int32.ofNat k) (hk2 : k < 100000) (hl : sh.length + 1 < 1000000) : nwJ (mS sh μ) n = some (sh.length, mS (sh ++ [(101, dJ k)]) μ) := by
  subst hk
  obtain ⟨⟨a1, -⟩, a2⟩ := ain_nat (k := k) (n := k + 1) (by omega) (by omega)
  unfold nwJ
  rw [a2, if_pos ⟨a1, by omega⟩]
  exact nwC_s h (dJ_all k) hl
theorem nwQ_s {n : Int32} {k : Nat} (h : Z μ sh.length) (hk : n = Int32.ofNat k) (hk2 : k < 100000) (hl : sh.length + 1 < 1000000) : nwQ (mS sh μ) n = some (sh.length, mS (sh ++ [(105, List.replicate k .null)]) μ) := by
  subst hk
  obtain ⟨⟨a1, -⟩, a2⟩ := ain_nat (k := k) (n := k + 1) (by omega) (by omega)
  unfold nwQ
  rw [a2, if_pos ⟨a1, by omega⟩]
  exact nwC_s h (by rw [List.all_eq_true]; intro v hv; rw [(List.mem_replicate.mp hv).2]; rfl) hl
theorem pR_s {ci a k q : Nat} {l : List Value} (e : sh[a]? = some (ci, l)) (hk : k < l.length) : pR (mS sh μ) ci a k q = some (mS (sh.set a (ci, l.set k (.ref q))) μ) := by
  have ha : a < sh.length := (List.getElem?_eq_some_iff.mp e).1
  unfold pR pf
  rw [mem_get e]
  simp only [memV_len]
  rw [if_pos ⟨trivial, hk⟩]
  refine congrArg some (List.ext_getElem? fun p => ?_)
  rw [List.getElem?_set, mem_at, mem_at, List.getElem?_set, mS_len]
  by_cases hp : a = p
  · subst hp
    rw [if_pos rfl, if_pos ha, if_pos rfl, if_pos ha]
    refine congrArg some (Prod.ext rfl ?_)
    show (memV μ a 0 l).set k (.ref q) = memV μ a 0 (l.set k (.ref q))
    refine List.ext_getElem? fun i => ?_
    rw [List.getElem?_set, memV_at, memV_at, List.getElem?_set, memV_len]
    by_cases hi : k = i
    · subst hi
      rw [if_pos rfl, if_pos hk, if_pos rfl]; rfl
    · rw [if_neg hi, if_neg hi]
  · rw [if_neg hp, if_neg hp]
end Alloc
theorem app_at {sh t : xH} {j : Nat} : (sh ++ t)[sh.length + j]? = t[j]? := by
  rw [List.getElem?_append_right (Nat.le_add_right _ _), Nat.add_sub_cancel_left]
theorem app_set {sh t : xH} {j : Nat} {c : xC} : (sh ++ t).set (sh.length + j) c = sh ++ t.set j c := by
  rw [List.set_append_right _ _ (Nat.le_add_right _ _), Nat.add_sub_cancel_left]
theorem slot_app {sh t : xH} {ci j k : Nat} {f : Value → Bool} : slot (sh ++ t) ci (sh.length + j) k f = slot t ci j k f := by
  unfold slot; rw [app_at]
theorem isA_app {sh t : xH} {ci j k : Nat} {f : Value → Bool} : isA (sh ++ t) ci (sh.length + j) k f = isA t ci j k f := by
  unfold isA; rw [app_at]
theorem isT_app {sh t : xH} {ci j : Nat} : isT (sh ++ t) ci (sh.length + j) = isT t ci j := by
  unfold isT; rw [app_at]
theorem ic_s {β : Type} {sh : xH} {μ : MM} {a : Nat} {o : Option β} (h : a < sh.length) : ic (mS sh μ) a o = o := by
  unfold ic; rw [mS_len, if_pos h]
/-- Pairs, at n -/
def prC (n : Nat) : xH := [(3, [.ref (n + 1), .ref (n + 2)]), (100, dI 12), (100, dI 12)]
def prM (μ : MM) (n : Nat) : MM := rw_ (rw_ μ (n + 1) 12 fun _ => -1) (n + 2) 12 fun _ => -1
theorem c_X3_init {sh : xH} {μ : MM} (h : Z μ sh.length) (hl : sh.length + 3 < 1000000) : f_X3_init sh.length (mS (sh ++ [(3, dv_X3)]) μ) = some (mS (sh ++ prC sh.length) (prM μ sh.length)) := by
  have l1 : ∀ t : xH, (sh ++ t).length = sh.length + t.length := fun t => List.length_append
  unfold f_X3_init
  rw [nwI_s (n := 12) (k := 12) (h.mono (by rw [l1]; omega)) rfl (by decide) (by rw [l1]; simp; omega)]
  simp only [Option.bind_some, List.append_assoc, l1, List.length_cons, List.length_nil]
  rw [show ∀ q : Nat, pR (mS (sh ++ ([(3, dv_X3)] ++ [(100, dI 12)])) μ) 3 sh.length 0 q = some (mS (sh ++ [(3, [.ref q, .null]), (100, dI 12)]) μ) from fun q => by
    rw [pR_s (l := dv_X3) (by exact app_at (j := 0)) (by decide)]
    exact congrArg (fun z => some (mS z μ)) (app_set (j := 0))]
  simp only [Option.bind_some]
  rw [nwI_s (n := 12) (k := 12) (h.mono (by rw [l1]; omega)) rfl (by decide) (by rw [l1]; simp; omega)]
  simp only [Option.bind_some, List.append_assoc, l1, List.length_cons, List.length_nil]
  rw [show ∀ q : Nat, pR (mS (sh ++ ([(3, [.ref (sh.length + (0 + 1)), .null]), (100, dI 12)] ++ [(100, dI 12)])) μ) 3 sh.length 1 q = some (mS (sh ++ [(3, [.ref (sh.length + (0 + 1)), .ref q]), (100, dI 12), (100, dI 12)]) μ) from fun q => by
    rw [pR_s (l := [.ref (sh.length + (0 + 1)), .null]) (by exact app_at (j := 0)) (by simp)]
    exact congrArg (fun z => some (mS z μ)) (app_set (j := 0))]
  simp only [Option.bind_some]
  have hT : isT (sh ++ prC sh.length) 3 sh.length = true := (isT_app (j := 0)).trans (by simp [isT, prC])
  have hc : f_X3_clear sh.length (mS (sh ++ prC sh.length) μ) = some (mS (sh ++ prC sh.length) (prM μ sh.length)) :=
    c_X3_clear (q1 := sh.length + 1) (q2 := sh.length + 2) ((slot_app (j := 0)).trans (by simp [slot, isRef, prC])) ((slot_app (j := 0)).trans (by simp [slot, isRef, prC])) ((isA_app (j := 1)).trans (by simp [isA, prC, dI, isInt])) ((isA_app (j := 2)).trans (by simp [isA, prC, dI, isInt])) (by omega)
  show ((vc (mS (sh ++ prC sh.length) μ) 3 sh.length (f_X3_clear sh.length (mS (sh ++ prC sh.length) μ))).bind fun h5 => some h5) = _
  rw [hc, vc_m hT]
  rfl
