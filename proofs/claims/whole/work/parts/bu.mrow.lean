/-! THE MODEL: row 1, as a text writes it -/
section Mr9
variable {μ : MM} {B : Bk}
theorem mr1_wF (h : MR μ 1 B) {w t c : Nat} (hw : w < 12) (ht : t < 12) : MR (st (st μ 192 w (bf B w ||| ((1 : Int32) <<< (Int32.ofNat t &&& 31)))) (262 + w) t (Int32.ofNat c)) 1 (wF B w t c) := by
  obtain ⟨⟨h0, h1, h2, h3, h4⟩, h5, h6, h7, h8⟩ := h
  refine ⟨⟨?_, ?_, ?_, ?_, ?_⟩, fun x hx => ?_, fun x hx => ?_, fun x hx => ?_, fun x s hx hs q => ?_⟩
  · rw [st_ne (Or.inl (by omega)), st_ne (Or.inl (by omega))]; exact h0
  · rw [st_ne (Or.inl (by omega)), st_ne (Or.inl (by omega))]; exact h1
  · rw [st_ne (Or.inl (by omega)), st_ne (Or.inl (by omega))]; exact h2
  · rw [st_ne (Or.inl (by omega)), st_ne (Or.inl (by omega))]; exact h3
  · rw [st_ne (Or.inl (by omega)), st_ne (Or.inl (by omega))]; exact h4
  · rw [st_ne (Or.inl (by omega)), st_at]
    show _ = if x = w then bf B w ||| ((1 : Int32) <<< (Int32.ofNat t &&& 31)) else bf B x
    by_cases z : x = w
    · rw [if_pos ⟨rfl, z⟩, if_pos z]
    · rw [if_neg (fun y => z y.2), if_neg z]; exact h5 x hx
  · rw [st_ne (Or.inl (by omega)), st_ne (Or.inl (by omega))]; exact h6 x hx
  · rw [st_ne (Or.inl (by omega)), st_ne (Or.inl (by omega))]; exact h7 x hx
  · rw [wF_hb ht] at q
    rw [st_at]
    show _ = Int32.ofNat (if x = w ∧ s = t then c else bc B x s)
    by_cases z : x = w ∧ s = t
    · rw [if_pos (by omega), if_pos z]
    · rw [if_neg (by omega), if_neg z, st_ne (Or.inl (by omega))]
      refine h8 x s hx hs ?_
      rcases (Bool.or_eq_true _ _).mp q with y | y
      · exact y
      · simp only [Bool.and_eq_true, decide_eq_true_eq] at y; exact absurd y z
theorem mr1_wE (h : MR μ 1 B) {w v : Nat} (hw : w < 12) : MR (st μ 230 w (Int32.ofNat v)) 1 (wE B w v) := by
  obtain ⟨⟨h0, h1, h2, h3, h4⟩, h5, h6, h7, h8⟩ := h
  refine ⟨⟨?_, ?_, ?_, ?_, ?_⟩, fun x hx => ?_, fun x hx => ?_, fun x hx => ?_, fun x s hx hs q => ?_⟩
  · rw [st_ne (Or.inl (by omega))]; exact h0
  · rw [st_ne (Or.inl (by omega))]; exact h1
  · rw [st_ne (Or.inl (by omega))]; exact h2
  · rw [st_ne (Or.inl (by omega))]; exact h3
  · rw [st_ne (Or.inl (by omega))]; exact h4
  · rw [st_ne (Or.inl (by omega))]; exact h5 x hx
  · rw [st_ne (Or.inl (by omega))]; exact h6 x hx
  · rw [st_at]
    show _ = Int32.ofNat (up (be B) w v x)
    by_cases z : x = w
    · rw [if_pos ⟨rfl, z⟩, z, up_same]
    · rw [if_neg (fun y => z y.2), up_ne z]; exact h7 x hx
  · rw [st_ne (Or.inl (by omega))]; exact h8 x s hx hs q
theorem mr1_wk (h : MR μ 1 B) {k : Nat} : MR (st μ 173 2 (Int32.ofNat k)) 1 (wk B k) := by
  obtain ⟨⟨h0, h1, h2, h3, h4⟩, h5, h6, h7, h8⟩ := h
  refine ⟨⟨?_, ?_, ?_, ?_, ?_⟩, fun x hx => ?_, fun x hx => ?_, fun x hx => ?_, fun x s hx hs q => ?_⟩
  · rw [st_ne (Or.inr (by omega))]; exact h0
  · rw [st_ne (Or.inr (by omega))]; exact h1
  · exact st_same _ _ _ _
  · rw [st_ne (Or.inr (by omega))]; exact h3
  · rw [st_ne (Or.inr (by omega))]; exact h4
  · rw [st_ne (Or.inl (by omega))]; exact h5 x hx
  · rw [st_ne (Or.inl (by omega))]; exact h6 x hx
  · rw [st_ne (Or.inl (by omega))]; exact h7 x hx
  · rw [st_ne (Or.inl (by omega))]; exact h8 x s hx hs q
theorem mr1_h3 (h : MR μ 1 B) {v : Int32} : MR (st μ 173 3 v) 1 (mkB (bn B) (bm B) (bk B) v (bt B) (be B) (bf B) (bc B) (bM B)) := by
  obtain ⟨⟨h0, h1, h2, h3, h4⟩, h5, h6, h7, h8⟩ := h
  refine ⟨⟨?_, ?_, ?_, ?_, ?_⟩, fun x hx => ?_, fun x hx => ?_, fun x hx => ?_, fun x s hx hs q => ?_⟩
  · rw [st_ne (Or.inr (by omega))]; exact h0
  · rw [st_ne (Or.inr (by omega))]; exact h1
  · rw [st_ne (Or.inr (by omega))]; exact h2
  · exact st_same _ _ _ _
  · rw [st_ne (Or.inr (by omega))]; exact h4
  · rw [st_ne (Or.inl (by omega))]; exact h5 x hx
  · rw [st_ne (Or.inl (by omega))]; exact h6 x hx
  · rw [st_ne (Or.inl (by omega))]; exact h7 x hx
  · rw [st_ne (Or.inl (by omega))]; exact h8 x s hx hs q
theorem mr1_h4 (h : MR μ 1 B) {v : Int32} : MR (st μ 173 4 v) 1 (mkB (bn B) (bm B) (bk B) (bw B) v (be B) (bf B) (bc B) (bM B)) := by
  obtain ⟨⟨h0, h1, h2, h3, h4⟩, h5, h6, h7, h8⟩ := h
  refine ⟨⟨?_, ?_, ?_, ?_, ?_⟩, fun x hx => ?_, fun x hx => ?_, fun x hx => ?_, fun x s hx hs q => ?_⟩
  · rw [st_ne (Or.inr (by omega))]; exact h0
  · rw [st_ne (Or.inr (by omega))]; exact h1
  · rw [st_ne (Or.inr (by omega))]; exact h2
  · rw [st_ne (Or.inr (by omega))]; exact h3
  · exact st_same _ _ _ _
  · rw [st_ne (Or.inl (by omega))]; exact h5 x hx
  · rw [st_ne (Or.inl (by omega))]; exact h6 x hx
  · rw [st_ne (Or.inl (by omega))]; exact h7 x hx
  · rw [st_ne (Or.inl (by omega))]; exact h8 x s hx hs q
theorem mr1_M (h : MR μ 1 B) {w t : Nat} (ht : t < 12) : MR (st μ 211 w (Int32.ofNat t)) 1 (wM B (up (bM B) w t)) := by
  obtain ⟨⟨h0, h1, h2, h3, h4⟩, h5, h6, h7, h8⟩ := h
  refine ⟨⟨?_, ?_, ?_, ?_, ?_⟩, fun x hx => ?_, fun x hx => ?_, fun x hx => ?_, fun x s hx hs q => ?_⟩
  · rw [st_ne (Or.inl (by omega))]; exact h0
  · rw [st_ne (Or.inl (by omega))]; exact h1
  · rw [st_ne (Or.inl (by omega))]; exact h2
  · rw [st_ne (Or.inl (by omega))]; exact h3
  · rw [st_ne (Or.inl (by omega))]; exact h4
  · rw [st_ne (Or.inl (by omega))]; exact h5 x hx
  · rw [st_at]
    show _ = eI (up (bM B) w t x)
    by_cases z : x = w
    · rw [if_pos ⟨rfl, z⟩, z, up_same, eI_lt ht]
    · rw [if_neg (fun y => z y.2), up_ne z]; exact h6 x hx
  · rw [st_ne (Or.inl (by omega))]; exact h7 x hx
  · rw [st_ne (Or.inl (by omega))]; exact h8 x s hx hs q
theorem up_id {M : Nat → Nat} {w : Nat} (h : M w = 12) : up M w 12 = M := by
  funext x
  by_cases z : x = w
  · rw [z, up_same, h]
  · exact up_ne z
theorem jo_up {M : Nat → Nat} (h : Mt M) {w t : Nat} (ht : t < 12) (ho : ow M t = 12) : jo M w t = up M w t := by
  funext x
  unfold jo
  by_cases z : x = w
  · rw [if_pos z, z, up_same]
  · rw [if_neg z, up_ne z]
    refine if_neg fun y => ?_
    by_cases u : x < 12
    · exact ow_none.mp ho x u y
    · have := h.2.1 x (by omega)
      omega
end Mr9
