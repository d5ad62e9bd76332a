/-! MATHEMATICS: a text: runs, numbers, words -/
/-- the end of a run -/
def rnE (P : Nat → Bool) : Nat → Nat → Nat
  | 0, p => p
  | d + 1, p => if P p = true then rnE P d (p + 1) else p
theorem rnE_le {P : Nat → Bool} : ∀ (d p : Nat), p ≤ rnE P d p ∧ rnE P d p ≤ p + d
  | 0, p => ⟨Nat.le_refl _, Nat.le_refl _⟩
  | d + 1, p => by
    show p ≤ (if P p = true then rnE P d (p + 1) else p) ∧ (if P p = true then rnE P d (p + 1) else p) ≤ p + (d + 1)
    have := rnE_le (P := P) d (p + 1)
    split <;> omega
theorem rnE_in {P : Nat → Bool} : ∀ (d p k : Nat), p ≤ k → k < rnE P d p → P k = true
  | 0, p, k, h1, h2 => by
    have h2 : k < p := h2
    omega
  | d + 1, p, k, h1, h2 => by
    have h2 : k < (if P p = true then rnE P d (p + 1) else p) := h2
    by_cases z : P p = true
    · rw [if_pos z] at h2
      by_cases y : k = p
      · rw [y]; exact z
      · exact rnE_in d (p + 1) k (by omega) h2
    · rw [if_neg z] at h2; omega
theorem rnE_stop {P : Nat → Bool} : ∀ (d p : Nat), rnE P d p < p + d → P (rnE P d p) = false
  | 0, p, h => by
    have h : p < p + 0 := h
    omega
  | d + 1, p, h => by
    have h : (if P p = true then rnE P d (p + 1) else p) < p + (d + 1) := h
    show P (if P p = true then rnE P d (p + 1) else p) = false
    by_cases z : P p = true
    · rw [if_pos z] at h ⊢
      exact rnE_stop d (p + 1) (by omega)
    · rw [if_neg z]; simpa using z
theorem rnE_0 {P : Nat → Bool} {d p : Nat} (h : P p = false) : rnE P d p = p := by
  cases d with
  | zero => rfl
  | succ d => exact if_neg (by rw [h]; simp)
theorem rnE_s {P : Nat → Bool} {d p : Nat} (h : P p = true) : rnE P (d + 1) p = rnE P d (p + 1) := if_pos h
section Tx
variable (n : Nat) (y : Nat → Nat)
def blY (k : Nat) : Bool := decide (y k = 32)
def dgY (k : Nat) : Bool := decide (48 ≤ y k) && decide (y k ≤ 57)
def smY (k : Nat) : Bool := decide (97 ≤ y k) && decide (y k ≤ 122)
/-- behind blanks, digits, letters -/
def skp (p : Nat) : Nat := rnE (blY y) (n - p) p
def dge (p : Nat) : Nat := rnE (dgY y) (n - p) p
def sme (p : Nat) : Nat := rnE (smY y) (n - p) p
/-- digits from p on, d of them, behind v -/
def vlY : Nat → Nat → Nat → Nat
  | 0, _, v => v
  | d + 1, p, v => vlY d (p + 1) (10 * v + (y p - 48))
/-- a number: value, where it begins, where it ends; or a fault -/
def num (p lo hi : Nat) : (Nat × Nat) ⊕ (Nat × Nat × Nat) :=
  if dge n y (skp n y p) = skp n y p then .inl (1, skp n y p)
  else if lo ≤ vlY y (dge n y (skp n y p) - skp n y p) (skp n y p) 0 ∧ vlY y (dge n y (skp n y p) - skp n y p) (skp n y p) 0 ≤ hi then .inr (vlY y (dge n y (skp n y p) - skp n y p) (skp n y p) 0, skp n y p, dge n y (skp n y p))
  else .inl (2, skp n y p)
/-- from s to e stands the word -/
def isW (s e : Nat) (W : List Nat) : Bool := decide (e = s + W.length) && (List.range W.length).all fun k => y (s + k) == W.getD k 0
end Tx
section Ty
variable {n : Nat} {y : Nat → Nat}
theorem skp_le {p : Nat} (h : p ≤ n) : p ≤ skp n y p ∧ skp n y p ≤ n := by
  have := rnE_le (P := blY y) (n - p) p
  unfold skp; omega
theorem dge_le {p : Nat} (h : p ≤ n) : p ≤ dge n y p ∧ dge n y p ≤ n := by
  have := rnE_le (P := dgY y) (n - p) p
  unfold dge; omega
theorem sme_le {p : Nat} (h : p ≤ n) : p ≤ sme n y p ∧ sme n y p ≤ n := by
  have := rnE_le (P := smY y) (n - p) p
  unfold sme; omega
theorem skp_stop {p : Nat} (h : p ≤ n) (hs : skp n y p < n) : blY y (skp n y p) = false := rnE_stop (n - p) p (by unfold skp at hs; omega)
theorem skp_skp {p : Nat} (h : p ≤ n) : skp n y (skp n y p) = skp n y p := by
  have := skp_le (y := y) h
  by_cases z : skp n y p < n
  · exact rnE_0 (skp_stop h z)
  · have e : n - skp n y p = 0 := by omega
    show rnE (blY y) (n - skp n y p) (skp n y p) = skp n y p
    rw [e]; rfl
theorem num_ok {p lo hi v s e : Nat} (hp : p ≤ n) (h : num n y p lo hi = .inr (v, s, e)) : s = skp n y p ∧ e = dge n y s ∧ v = vlY y (e - s) s 0 ∧ lo ≤ v ∧ v ≤ hi ∧ p ≤ s ∧ s < e ∧ e ≤ n := by
  have a := skp_le (y := y) hp
  have b := dge_le (y := y) a.2
  unfold num at h
  by_cases z : dge n y (skp n y p) = skp n y p
  · rw [if_pos z] at h; cases h
  · rw [if_neg z] at h
    by_cases x : lo ≤ vlY y (dge n y (skp n y p) - skp n y p) (skp n y p) 0 ∧ vlY y (dge n y (skp n y p) - skp n y p) (skp n y p) 0 ≤ hi
    · rw [if_pos x] at h
      cases h
      exact ⟨rfl, rfl, rfl, x.1, x.2, a.1, by omega, b.2⟩
    · rw [if_neg x] at h; cases h
/-- capped on the way = capped at the end -/
theorem vlY_cap {C : Nat} (hC : 0 < C) : ∀ (d p v : Nat) (f : Nat → Nat → Nat → Nat), (∀ p v, f 0 p v = v) → (∀ d p v, f (d + 1) p v = f d (p + 1) (min C (10 * v + (y p - 48)))) → f d p (min C v) = min C (vlY y d p v)
  | 0, p, v, f, h0, h1 => h0 p _
  | d + 1, p, v, f, h0, h1 => by
    rw [h1]
    have e : min C (10 * min C v + (y p - 48)) = min C (10 * v + (y p - 48)) := by
      by_cases z : v ≤ C
      · rw [Nat.min_eq_right z]
      · rw [Nat.min_eq_left (show C ≤ v by omega), Nat.min_eq_left (show C ≤ 10 * C + (y p - 48) by omega), Nat.min_eq_left (show C ≤ 10 * v + (y p - 48) by omega)]
    rw [e]
    exact vlY_cap hC d (p + 1) (10 * v + (y p - 48)) f h0 h1
def vlC (C : Nat) (y : Nat → Nat) : Nat → Nat → Nat → Nat
  | 0, _, v => v
  | d + 1, p, v => vlC C y d (p + 1) (min C (10 * v + (y p - 48)))
theorem vlC_eq {C d p : Nat} (hC : 0 < C) : vlC C y d p 0 = min C (vlY y d p 0) := by
  have := vlY_cap (y := y) hC d p 0 (vlC C y) (fun _ _ => rfl) (fun _ _ _ => rfl)
  rw [Nat.min_eq_right (Nat.zero_le C)] at this
  exact this
theorem isW_t {s e : Nat} {W : List Nat} : isW y s e W = true ↔ e = s + W.length ∧ ∀ k, k < W.length → y (s + k) = W.getD k 0 := by
  unfold isW
  rw [Bool.and_eq_true, decide_eq_true_eq, List.all_eq_true]
  constructor
  · rintro ⟨a, b⟩
    exact ⟨a, fun k hk => by simpa using b k (List.mem_range.mpr hk)⟩
  · rintro ⟨a, b⟩
    exact ⟨a, fun k hk => by simpa using b k (List.mem_range.mp hk)⟩
end Ty
/-! words by 27s -/
def cNf (f : Nat → Nat) : Nat → Nat
  | 0 => 0
  | k + 1 => 27 * cNf f k + f k
theorem cNf_inj {f g : Nat → Nat} : ∀ {a b : Nat}, (∀ k, k < a → 1 ≤ f k ∧ f k ≤ 26) → (∀ k, k < b → 1 ≤ g k ∧ g k ≤ 26) → cNf f a = cNf g b → a = b ∧ ∀ k, k < a → f k = g k
  | 0, 0, _, _, _ => ⟨rfl, fun _ h => absurd h (Nat.not_lt_zero _)⟩
  | 0, b + 1, _, hg, h => by
    have h : 0 = 27 * cNf g b + g b := h
    have := hg b (by omega)
    omega
  | a + 1, 0, hf, _, h => by
    have h : 27 * cNf f a + f a = 0 := h
    have := hf a (by omega)
    omega
  | a + 1, b + 1, hf, hg, h => by
    have h : 27 * cNf f a + f a = 27 * cNf g b + g b := h
    have h1 := hf a (by omega)
    have h2 := hg b (by omega)
    obtain ⟨e1, e2⟩ := cNf_inj (f := f) (g := g) (a := a) (b := b) (fun k hk => hf k (by omega)) (fun k hk => hg k (by omega)) (by omega)
    refine ⟨by omega, fun k hk => ?_⟩
    by_cases z : k = a
    · subst z
      subst e1
      omega
    · exact e2 k (by omega)
theorem cNf_congr {f g : Nat → Nat} : ∀ {a : Nat}, (∀ k, k < a → f k = g k) → cNf f a = cNf g a
  | 0, _ => rfl
  | a + 1, h => by
    show 27 * cNf f a + f a = 27 * cNf g a + g a
    rw [cNf_congr fun k hk => h k (by omega), h a (by omega)]
theorem cNf_lt {f : Nat → Nat} : ∀ {a : Nat}, (∀ k, k < a → f k ≤ 26) → cNf f a < 27 ^ a
  | 0, _ => Nat.one_pos
  | a + 1, h => by
    show 27 * cNf f a + f a < 27 ^ (a + 1)
    have := cNf_lt (f := f) (a := a) fun k hk => h k (by omega)
    have := h a (by omega)
    rw [Nat.pow_succ]
    omega
/-- what a text comes to: place, book, KEEP read; or a fault: which, where -/
abbrev Rs : Type := (Nat × Bk × Bool) ⊕ (Nat × Nat)
abbrev Rs.ok (p : Nat) (B : Bk) (k : Bool) : Rs := Sum.inl (p, B, k)
abbrev Rs.er (a q : Nat) : Rs := Sum.inr (a, q)
def wdW : Nat → List Nat
  | 0 => [119, 111, 114, 107, 101, 114, 115]
  | 1 => [116, 97, 115, 107, 115]
  | 2 => [102, 105, 116]
  | 3 => [97, 119, 97, 121]
  | 4 => [112, 97, 105, 114]
  | 5 => [119, 101, 105, 103, 104, 116]
  | 6 => [107, 101, 101, 112]
  | 7 => [119, 111, 114, 107, 101, 114]
  | _ => [116, 97, 115, 107]
section Ln
variable (n : Nat) (y : Nat → Nat)
def lnEnd : Rs → Rs
  | .inl (p, B, k) => if skp n y p < n ∧ y (skp n y p) = 59 then .ok (skp n y p + 1) B k else .er 1 (skp n y p)
  | .inr (a, q) => .er a q
def lnFit (p : Nat) (B : Bk) (kr : Bool) : Rs := match num n y p 0 (bn B - 1) with
  | .inl (a, q) => .er a q
  | .inr (w, _, p1) => match num n y p1 0 (bm B - 1) with
    | .inl (a, q) => .er a q
    | .inr (t, _, p2) => if skp n y p2 < n ∧ dgY y (skp n y p2) = true then
        match num n y (skp n y p2) 0 99 with
        | .inl (a, q) => .er a q
        | .inr (c, _, p3) => .ok p3 (wF B w t c) kr
      else .ok (skp n y p2) (wF B w t 0) kr
noncomputable def lnAway (p : Nat) (B : Bk) (kr : Bool) : Rs :=
  if isW y (skp n y p) (sme n y (skp n y p)) (wdW 7) = true then match num n y (sme n y (skp n y p)) 0 (bn B - 1) with
    | .inl (a, q) => .er a q
    | .inr (k, s, p1) => if hb (bw B) k = true ∧ bM B k = 12 then .ok p1 (wW B k false) kr else .er 5 s
  else if isW y (skp n y p) (sme n y (skp n y p)) (wdW 8) = true then match num n y (sme n y (skp n y p)) 0 (bm B - 1) with
    | .inl (a, q) => .er a q
    | .inr (k, s, p1) => if hb (bt B) k = true ∧ ow (bM B) k = 12 then .ok p1 (wT B k false) kr else .er 5 s
  else .er 1 (skp n y p)
noncomputable def lnPair (p : Nat) (B : Bk) (kr : Bool) : Rs := match num n y p 0 (bn B - 1) with
  | .inl (a, q) => .er a q
  | .inr (w, s, p1) => if hb (bw B) w = true ∧ bM B w = 12 then match num n y p1 0 (bm B - 1) with
      | .inl (a, q) => .er a q
      | .inr (t, _, p2) => if (hb (bt B) t = true ∧ ow (bM B) t = 12) ∧ hb (bf B w) t = true then .ok p2 (wM B (jo (bM B) w t)) kr else .er 4 s
    else .er 4 s
def lnWeight (p : Nat) (B : Bk) (kr : Bool) : Rs := match num n y p 0 (bn B - 1) with
  | .inl (a, q) => .er a q
  | .inr (w, _, p1) => match num n y p1 0 99 with
    | .inl (a, q) => .er a q
    | .inr (v, _, p2) => .ok p2 (wE B w v) kr
def lnKeep (s p : Nat) (B : Bk) (kr : Bool) : Rs := if kr = true then .er 3 s else match num n y p 0 1 with
  | .inl (a, q) => .er a q
  | .inr (v, _, p1) => .ok p1 (wk B v) true
noncomputable def ln1 (p : Nat) (B : Bk) (kr : Bool) : Rs :=
  if isW y (skp n y p) (sme n y (skp n y p)) (wdW 2) = true then lnFit n y (sme n y (skp n y p)) B kr
  else if isW y (skp n y p) (sme n y (skp n y p)) (wdW 3) = true then lnAway n y (sme n y (skp n y p)) B kr
  else if isW y (skp n y p) (sme n y (skp n y p)) (wdW 4) = true then lnPair n y (sme n y (skp n y p)) B kr
  else if isW y (skp n y p) (sme n y (skp n y p)) (wdW 5) = true then lnWeight n y (sme n y (skp n y p)) B kr
  else if isW y (skp n y p) (sme n y (skp n y p)) (wdW 6) = true then lnKeep n y (skp n y p) (sme n y (skp n y p)) B kr
  else .er 1 (skp n y p)
noncomputable def line (p : Nat) (B : Bk) (kr : Bool) : Rs := lnEnd n y (ln1 n y p B kr)
/-- the lines -/
noncomputable def lines : Nat → Rs → Rs
  | 0, r => r
  | d + 1, .inl (p, B, k) => if skp n y p < n then lines d (line n y (skp n y p) B k) else .ok (skp n y p) B k
  | _ + 1, .inr (a, q) => .er a q
end Ln
/-- a book begun -/
def nB (N M : Nat) : Bk := mkB N M 1 ((1 <<< (Int32.ofNat N &&& 31)) - 1) ((1 <<< (Int32.ofNat M &&& 31)) - 1) (fun _ => 1) (fun _ => 0) (fun _ _ => 0) (fun _ => 12)
def txHead (n : Nat) (y : Nat → Nat) : Rs :=
  if isW y (skp n y 0) (sme n y (skp n y 0)) (wdW 0) = true then match num n y (sme n y (skp n y 0)) 1 12 with
    | .inl (a, q) => .er a q
    | .inr (N, _, p1) => if skp n y p1 < n ∧ y (skp n y p1) = 59 then
        (if isW y (skp n y (skp n y p1 + 1)) (sme n y (skp n y (skp n y p1 + 1))) (wdW 1) = true then match num n y (sme n y (skp n y (skp n y p1 + 1))) 1 12 with
          | .inl (a, q) => .er a q
          | .inr (M, _, p2) => lnEnd n y (.ok p2 (nB N M) false)
        else .er 1 (skp n y (skp n y p1 + 1)))
      else .er 1 (skp n y p1)
  else .er 1 (skp n y 0)
noncomputable def txAll (n : Nat) (y : Nat → Nat) : Rs := lines n y (n + 1) (txHead n y)
