/-! STEPS: a bind whose first part is known goes on at once, its rest unseen -/
theorem hbind {α β : Type} {o : Option α} {r : α} (e : o = some r) (K : α → Option β) : o.bind K = K r := by rw [e]; rfl
theorem hvc {β γ : Type} {μ : MM} {ci a : Nat} (e : ∀ o : Option β, vc (mem μ) ci a o = o) (o : Option β) (K : β → Option γ) : (vc (mem μ) ci a o).bind K = o.bind K := by rw [e]
/-! ACTS: drop weight keep part pair -/
section Bx
variable {b : Nat} {μ ν : MM} {B : Bk}
theorem BC.prs (h : BC μ b B) {M : Nat → Nat} (hp : PR ν (b + 5) M) (f : Fr (FP (b + 5)) μ ν) : BC ν b (wM B M) := by
  have g : ∀ q i, q ≠ b + 6 → q ≠ b + 7 → ν.1 q i = μ.1 q i := fun q i x y => (f q i (by unfold FP; omega)).1
  have h1 := h.1
  refine h.upd (B' := wM B M) hp ?_ ?_ ?_ ?_ ?_ (fun q i a c => g _ _ (by omega) (by omega)) rfl rfl rfl
  · rw [g _ _ (by omega) (by omega)]; exact h1.1
  · rw [g _ _ (by omega) (by omega)]; exact h1.2.1
  · rw [g _ _ (by omega) (by omega)]; exact h1.2.2.1
  · rw [g _ _ (by omega) (by omega)]; exact h1.2.2.2.1
  · rw [g _ _ (by omega) (by omega)]; exact h1.2.2.2.2
theorem b_wk (h : BC μ b B) {k : Nat} : BC (st μ b 4 (Int32.ofNat k)) b (wk B k) := by
  have f : Fr (fun q i => q = b ∧ i = 4) μ (st μ b 4 (Int32.ofNat k)) := (Fr.refl _ _).st ⟨rfl, rfl⟩
  have h1 := h.1
  refine h.upd (B' := wk B k) (h.2.2.2.2.2.fr f (fun i => by omega) (fun i => by omega)) ?_ ?_ ?_ ?_ (st_same _ _ _ _) (fun q i a c => st_ne (Or.inl (by omega))) rfl rfl rfl
  · rw [st_ne (Or.inr (by omega))]; exact h1.1
  · rw [st_ne (Or.inr (by omega))]; exact h1.2.1
  · rw [st_ne (Or.inr (by omega))]; exact h1.2.2.1
  · rw [st_ne (Or.inr (by omega))]; exact h1.2.2.2.1
theorem m_wD (h : MR μ 0 B) {w t : Nat} (hw : w < 12) (ht : t < 12) : MR (if bM B w = t then st (st μ 191 w (bf B w &&& (((1 : Int32) <<< (Int32.ofNat t &&& 31)) ^^^ (-1)))) 210 w (-1) else st μ 191 w (bf B w &&& (((1 : Int32) <<< (Int32.ofNat t &&& 31)) ^^^ (-1)))) 0 (wD B w t) := by
  obtain ⟨⟨h0, h1, h2, h3, h4⟩, h5, h6, h7, h8⟩ := h
  let ν := if bM B w = t then st (st μ 191 w (bf B w &&& (((1 : Int32) <<< (Int32.ofNat t &&& 31)) ^^^ (-1)))) 210 w (-1) else st μ 191 w (bf B w &&& (((1 : Int32) <<< (Int32.ofNat t &&& 31)) ^^^ (-1)))
  have e : ∀ q i, q ≠ 191 → q ≠ 210 → ν.1 q i = μ.1 q i := fun q i a b => by
    show (if bM B w = t then st (st μ 191 w _) 210 w (-1) else st μ 191 w _).1 q i = _
    split
    · rw [st_ne (Or.inl b), st_ne (Or.inl a)]
    · rw [st_ne (Or.inl a)]
  refine ⟨⟨?_, ?_, ?_, ?_, ?_⟩, fun x hx => ?_, fun x hx => ?_, fun x hx => ?_, fun x s hx hs q => ?_⟩
  · rw [e _ _ (by omega) (by omega)]; exact h0
  · rw [e _ _ (by omega) (by omega)]; exact h1
  · rw [e _ _ (by omega) (by omega)]; exact h2
  · rw [e _ _ (by omega) (by omega)]; exact h3
  · rw [e _ _ (by omega) (by omega)]; exact h4
  · show (if bM B w = t then st (st μ 191 w _) 210 w (-1) else st μ 191 w _).1 191 x = if x = w then bf B w &&& (((1 : Int32) <<< (Int32.ofNat t &&& 31)) ^^^ (-1)) else bf B x
    have : (if bM B w = t then st (st μ 191 w (bf B w &&& (((1 : Int32) <<< (Int32.ofNat t &&& 31)) ^^^ (-1)))) 210 w (-1) else st μ 191 w (bf B w &&& (((1 : Int32) <<< (Int32.ofNat t &&& 31)) ^^^ (-1)))).1 191 x = (st μ 191 w (bf B w &&& (((1 : Int32) <<< (Int32.ofNat t &&& 31)) ^^^ (-1)))).1 191 x := by
      split
      · rw [st_ne (Or.inl (by omega))]
      · rfl
    rw [this, st_at]
    by_cases z : x = w
    · rw [if_pos ⟨rfl, z⟩, if_pos z]
    · rw [if_neg (fun y => z y.2), if_neg z]; exact h5 x hx
  · show (if bM B w = t then st (st μ 191 w _) 210 w (-1) else st μ 191 w _).1 210 x = eI ((if bM B w = t then up (bM B) w 12 else bM B) x)
    by_cases c : bM B w = t
    · rw [if_pos c, if_pos c, st_at]
      by_cases z : x = w
      · rw [if_pos ⟨rfl, z⟩, z, up_same]; rfl
      · rw [if_neg (fun y => z y.2), up_ne z, st_ne (Or.inl (by omega))]; exact h6 x hx
    · rw [if_neg c, if_neg c, st_ne (Or.inl (by omega))]; exact h6 x hx
  · rw [e _ _ (by omega) (by omega)]; exact h7 x hx
  · rw [wD_hb ht] at q
    rw [e _ _ (by omega) (by omega)]; exact h8 x s hx hs ((Bool.and_eq_true _ _).mp q).1
end Bx
section O4
variable {T : MM → Bk → Prop} {μ : MM} {A : AS}
theorem m_drop_a {x1 x2 : Int32} {ν : MM} : f_X10_drop_J52 168 x1 x2 168 1 (mem (tz ν)) = some (0, mem (bA (tz ν) 2)) := by
  simp only [f_X10_drop_J52, f_X10_drop_J60, ↓hvc (fun _ => vc_168), ↓hbind (m_bA (show (2 : Int32) ≠ 0 by decide)), z_1, ↓reduceIte]
theorem m_drop_k {w t : Nat} {ν ν1 : MM} {B : Bk} (w2 : w < 12) (t2 : t < 12) (e1 : f_X10_remembers 168 (mem (tz ν)) = some (mem ν1)) (ec : ν1.1 (249 + w) t = Int32.ofNat (bc B w t)) (e5 : ν1.1 191 w = bf B w) (e6 : ∀ v, (st ν1 191 w v).1 210 w = eI (bM B w)) (z : bM B w = t) : f_X10_drop_J52 168 (Int32.ofNat w) (Int32.ofNat t) 168 0 (mem (tz ν)) = f_X10_drop_J114 168 (Int32.ofNat (bc B w t)) (mem (st (st ν1 191 w (bf B w &&& (((1 : Int32) <<< (Int32.ofNat t &&& 31)) ^^^ (-1)))) 210 w (-1))) := by
  have z' : (eI (bM B w) = Int32.ofNat t) = True := by rw [z, eI_lt t2]; exact eq_true rfl
  simp only [f_X10_drop_J52, ↓hvc (fun _ => vc_168), ↓hbind m_b0t, ↓reduceIte, ↓hbind e1, ↓hbind gR_168_13, ↓hbind mr_c0, ↓hbind (mc_c0 w2), ↓hbind (mc_a0 w2 t2), ↓hbind gR_168_10, ↓hbind mr_f0, ↓hbind (ma_f0 w2), ↓hbind (ms_f0 w2), ↓hbind gR_168_11, ↓hbind mr_m0, ↓hbind (ma_m0 w2), ↓hbind (ms_m0 w2), ec, e5, e6, z']
end O4
