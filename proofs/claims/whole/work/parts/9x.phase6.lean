/-! THE CLASS: a way sought deep first; a phase; all phases -/
/-- seen tasks that have a worker -/
noncomputable def smt (M : Nat → Nat) (S : SB) : Nat := cnt (fun t => S t && decide (ow M t < 12)) 12
theorem smt_mono {M : Nat → Nat} {S S' : SB} (h : ∀ k, S k = true → S' k = true) : smt M S ≤ smt M S' := cnt_mono fun k _ q => by
  simp only [Bool.and_eq_true] at q ⊢
  exact ⟨h k q.1, q.2⟩
theorem smt_ins {M : Nat → Nat} {S : SB} {j : Nat} (hj : j < 12) (h : S j = false) (o : ow M j < 12) : smt M (ins S j) = smt M S + 1 := by
  unfold smt
  rw [← cnt_ins (p := fun t => S t && decide (ow M t < 12)) hj (by simp [h])]
  exact cnt_congr fun k _ => by
    unfold ins
    by_cases z : k = j
    · rw [z]; simp [o]
    · simp [z]
theorem smt_le {M : Nat → Nat} (hM : Mt M) (S : SB) : smt M S ≤ sz M := by
  rw [← sz_tr hM]
  exact cnt_mono fun k hk q => by
    simp only [Bool.and_eq_true, decide_eq_true_eq] at q ⊢
    rw [tr_lt hk]; exact q.2
section Ct
variable {ν : MM}
theorem sk_a1 {dp stp w : Nat} (hdp : dp < 12) (hst : stp < 100) (hp : ν.1 154 dp = Int32.ofNat w) {r : Int32} (e : f_X4_nextTask 151 141 (Int32.ofNat w) (mem ν) = some (r, mem ν)) (nz : (r = -1) = False) (F : Nat) : f_X4_seek_L12 f_X4_seek_J93 f_X4_seek_J143 (F + 1) 151 141 (Int32.ofNat dp) (Int32.ofNat stp) (mem ν) = (gI (mem ν) 4 151 4).bind fun v4 => 
            (f_X9_bit r (mem ν)).bind fun r5 =>
            (pI r5.2 4 151 4 (v4 ||| r5.1)).bind fun h6 =>
            (gR h6 4 151 3).bind fun v7 =>
            (sI h6 v7 (Int32.ofNat dp) r).bind fun h8 =>
            (gR h8 7 141 0).bind fun v9 =>
            (vc h8 3 v9 (f_X3_workerOf v9 r h8)).bind fun r10 =>
            if r10.1 = (-1 : Int32) then f_X4_seek_J93 151 141 (Int32.ofNat dp) r10.2
            else
              (vc r10.2 4 151 (f_X4_layerOfWorker 151 r10.1 r10.2)).bind fun r11 =>
              (vc r11.2 4 151 (f_X4_layerOfTask 151 r r11.2)).bind fun r12 =>
              if r11.1 = (r12.1 + (1 : Int32)) then
                if (Int32.ofNat dp + (1 : Int32)) ≥ (12 : Int32) then
                  f_X4_seek_J137 (f_X4_seek_L12 f_X4_seek_J93 f_X4_seek_J143 F) f_X4_seek_J93 f_X4_seek_J143 151 141 (Int32.ofNat dp) (Int32.ofNat stp) r12.2
                else
                  lt (Int32.ofNat dp + (1 : Int32)) fun v13 =>
                  (gR r12.2 4 151 2).bind fun v14 =>
                  (sI r12.2 v14 v13 r10.1).bind fun h15 =>
                  f_X4_seek_J137 (f_X4_seek_L12 f_X4_seek_J93 f_X4_seek_J143 F) f_X4_seek_J93 f_X4_seek_J143 151 141 v13 (Int32.ofNat stp) h15
              else
                f_X4_seek_J137 (f_X4_seek_L12 f_X4_seek_J93 f_X4_seek_J143 F) f_X4_seek_J93 f_X4_seek_J143 151 141 (Int32.ofNat dp) (Int32.ofNat stp) r12.2 := by
  have c1 : (Int32.ofNat stp ≥ 100) = False := by rw [lge_100 (by omega)]; exact eq_false (by omega)
  have c2 : (Int32.ofNat dp < 0) = False := oN_l0 (by omega)
  have c3 : (Int32.ofNat dp ≥ 12) = False := by rw [lge_12 (by omega)]; exact eq_false (by omega)
  simp only [f_X4_seek_L12, c1, c2, c3, ↓reduceIte, ↓hbind gR_151_2, ↓hbind (aI_154 hdp), hp, ↓hvc (fun _ => vc_151), ↓hbind e, nz]
theorem sk_a2 {dp : Nat} (hdp : dp < 12) {r : Int32} (K : Int32 × xH → Option (Int32 × xH)) : ((gI (mem ν) 4 151 4).bind fun v4 => 
            (f_X9_bit r (mem ν)).bind fun r5 =>
            (pI r5.2 4 151 4 (v4 ||| r5.1)).bind fun h6 =>
            (gR h6 4 151 3).bind fun v7 =>
            (sI h6 v7 (Int32.ofNat dp) r).bind fun h8 =>
            (gR h8 7 141 0).bind fun v9 =>
            (vc h8 3 v9 (f_X3_workerOf v9 r h8)).bind K) = (f_X3_workerOf 142 r (mem (st (st ν 151 4 (ν.1 151 4 ||| ((1 : Int32) <<< (r &&& 31)))) 155 dp r))).bind K := by
  simp only [↓hbind gI_151_4, ↓hbind c_bit, ↓hbind pI_151_4, ↓hbind gR_151_3, ↓hbind (sI_155 hdp), ↓hbind gR_141_0, ↓hvc (fun _ => pr_v pr142)]
theorem sk_a {dp stp w : Nat} (hdp : dp < 12) (hst : stp < 100) (hp : ν.1 154 dp = Int32.ofNat w) {r : Int32} (e : f_X4_nextTask 151 141 (Int32.ofNat w) (mem ν) = some (r, mem ν)) (nz : (r = -1) = False) (F : Nat) : f_X4_seek_L12 f_X4_seek_J93 f_X4_seek_J143 (F + 1) 151 141 (Int32.ofNat dp) (Int32.ofNat stp) (mem ν) = (f_X3_workerOf 142 r (mem (st (st ν 151 4 (ν.1 151 4 ||| ((1 : Int32) <<< (r &&& 31)))) 155 dp r))).bind fun r10 =>
            if r10.1 = (-1 : Int32) then f_X4_seek_J93 151 141 (Int32.ofNat dp) r10.2
            else
              (vc r10.2 4 151 (f_X4_layerOfWorker 151 r10.1 r10.2)).bind fun r11 =>
              (vc r11.2 4 151 (f_X4_layerOfTask 151 r r11.2)).bind fun r12 =>
              if r11.1 = (r12.1 + (1 : Int32)) then
                if (Int32.ofNat dp + (1 : Int32)) ≥ (12 : Int32) then
                  f_X4_seek_J137 (f_X4_seek_L12 f_X4_seek_J93 f_X4_seek_J143 F) f_X4_seek_J93 f_X4_seek_J143 151 141 (Int32.ofNat dp) (Int32.ofNat stp) r12.2
                else
                  lt (Int32.ofNat dp + (1 : Int32)) fun v13 =>
                  (gR r12.2 4 151 2).bind fun v14 =>
                  (sI r12.2 v14 v13 r10.1).bind fun h15 =>
                  f_X4_seek_J137 (f_X4_seek_L12 f_X4_seek_J93 f_X4_seek_J143 F) f_X4_seek_J93 f_X4_seek_J143 151 141 v13 (Int32.ofNat stp) h15
              else
                f_X4_seek_J137 (f_X4_seek_L12 f_X4_seek_J93 f_X4_seek_J143 F) f_X4_seek_J93 f_X4_seek_J143 151 141 (Int32.ofNat dp) (Int32.ofNat stp) r12.2 := (sk_a1 hdp hst hp e nz F).trans (sk_a2 hdp _)
end Ct
section Cs
variable {μ : MM} {n m : Nat} {Wt Tt : Int32} {E : Nat → Nat → Bool} {M : Nat → Nat} {lw lt : LA}
def FSk (q i : Nat) : Prop := q = 154 ∨ q = 155 ∨ (q = 151 ∧ i = 4)
theorem c_sk (hS : SR μ n m Wt Tt E M) (hE : Eb E) (hM : Ms E M) (hL : LyR μ lw lt) (h11 : sz M ≤ 11) : ∀ (c : Nat) (w : Nat) (S : SB) (dp stp : Nat) (ν : MM), un S ≤ c → w < 12 → Fr FSk μ ν → (∀ k, hb (ν.1 151 4) k = S k) → ν.1 154 dp = Int32.ofNat w → dp ≤ smt M S → stp + 2 * un S + 1 < 100 →
    ∃ ξ k, Fr FSk μ ξ ∧ (∀ i, hb (ξ.1 151 4) i = (dsN E M lw lt w S).1 i) ∧ (∀ i, i < dp → ξ.1 154 i = ν.1 154 i ∧ ξ.1 155 i = ν.1 155 i) ∧ k + 2 * un (dsN E M lw lt w S).1 ≤ 2 * un S + 1 ∧
      (((dsN E M lw lt w S).2 = none ∧ ξ.1 154 dp = Int32.ofNat w ∧ ∀ F, f_X4_seek_L12 f_X4_seek_J93 f_X4_seek_J143 (F + k) 151 141 (Int32.ofNat dp) (Int32.ofNat stp) (mem ν) = f_X4_seek_L12 f_X4_seek_J93 f_X4_seek_J143 F 151 141 (Int32.ofNat dp + (-1)) (Int32.ofNat (stp + k)) (mem ξ)) ∨
      ∃ p, (dsN E M lw lt w S).2 = some p ∧ PA ξ dp p ∧ 1 ≤ p.length ∧ dp + p.length ≤ 12 ∧ ∀ F, f_X4_seek_L12 f_X4_seek_J93 f_X4_seek_J143 (F + k) 151 141 (Int32.ofNat dp) (Int32.ofNat stp) (mem ν) = f_X4_seek_J93 151 141 (Int32.ofNat (dp + p.length - 1)) (mem ξ)) := by
  intro c
  induction c with
  | zero =>
    intro w S dp stp ν h hw f hs hp hd hst
    have q : ∀ i, i < 12 → qd E lw lt w i S = false := fun i hi => by
      cases z : S i with
      | true => exact qd_ins z
      | false => have := un_ins hi z; omega
    have hd2 := smt_le hM.1 S
    have hS2 := hS.fly f fun q i a b z => by unfold FSk at z; omega
    have hL2 : LyR ν lw lt := ⟨fun w hw => by rw [(f _ _ (by unfold FSk; omega)).1]; exact hL.1 w hw, fun t ht => by rw [(f _ _ (by unfold FSk; omega)).1]; exact hL.2 t ht⟩
    obtain ⟨r, e, r1⟩ := c_nextTask hS2 hE hL2 hs hw
    have rn : r = -1 := by
      rcases r1 with ⟨z, _⟩ | ⟨j, j1, _, j2, _⟩
      · exact z
      · rw [q j j1] at j2; cases j2
    subst rn
    have c1 : (Int32.ofNat stp ≥ 100) = False := by rw [lge_100 (by omega)]; exact eq_false (by omega)
    have c2 : (Int32.ofNat dp < 0) = False := oN_l0 (by omega)
    have c3 : (Int32.ofNat dp ≥ 12) = False := by rw [lge_12 (by omega)]; exact eq_false (by omega)
    rw [dsN_none hE q]
    refine ⟨ν, 1, f, hs, fun i _ => ⟨rfl, rfl⟩, by show 1 + 2 * un S ≤ _; omega, Or.inl ⟨rfl, hp, fun F => ?_⟩⟩
    simp only [f_X4_seek_L12, c1, c2, c3, ↓reduceIte, ↓hbind gR_151_2, ↓hbind (aI_154 (show dp < 12 by omega)), hp, ↓hvc (fun _ => vc_151), ↓hbind e, f_X4_seek_J137, lt_go, i_succ]
  | succ c ih =>
    intro w S dp stp ν h hw f hs hp hd hst
    have hd2 := smt_le hM.1 S
    have hS2 := hS.fly f fun q i a b z => by unfold FSk at z; omega
    have hL2 : LyR ν lw lt := ⟨fun w hw => by rw [(f _ _ (by unfold FSk; omega)).1]; exact hL.1 w hw, fun t ht => by rw [(f _ _ (by unfold FSk; omega)).1]; exact hL.2 t ht⟩
    obtain ⟨r, e, r1⟩ := c_nextTask hS2 hE hL2 hs hw
    have hdp : dp < 12 := by omega
    have c1 : (Int32.ofNat stp ≥ 100) = False := by rw [lge_100 (by omega)]; exact eq_false (by omega)
    have c2 : (Int32.ofNat dp < 0) = False := oN_l0 (by omega)
    have c3 : (Int32.ofNat dp ≥ 12) = False := by rw [lge_12 (by omega)]; exact eq_false (by omega)
    rcases r1 with ⟨rfl, q⟩ | ⟨j, hj, rfl, q, fi'⟩
    · rw [dsN_none hE q]
      refine ⟨ν, 1, f, hs, fun i _ => ⟨rfl, rfl⟩, by show 1 + 2 * un S ≤ _; omega, Or.inl ⟨rfl, hp, fun F => ?_⟩⟩
      simp only [f_X4_seek_L12, c1, c2, c3, ↓reduceIte, ↓hbind gR_151_2, ↓hbind (aI_154 hdp), hp, ↓hvc (fun _ => vc_151), ↓hbind e, f_X4_seek_J137, lt_go, i_succ]
    · have q' := q
      unfold qd at q'
      simp only [Bool.and_eq_true, Bool.not_eq_true', decide_eq_true_eq] at q'
      obtain ⟨⟨eE', sj'⟩, lj⟩ := q'
      have u := un_ins hj sj'
      have nz : (Int32.ofNat j = -1) = False := oN_n1 (by omega)
      obtain ⟨ν1, hd1⟩ : ∃ z, z = st (st ν 151 4 (ν.1 151 4 ||| ((1 : Int32) <<< (Int32.ofNat j &&& 31)))) 155 dp (Int32.ofNat j) := ⟨_, rfl⟩
      have f1 : Fr FSk μ ν1 := by rw [hd1]; exact (f.st (Or.inr (Or.inr ⟨rfl, rfl⟩))).st (Or.inr (Or.inl rfl))
      have s1 : ∀ k, hb (ν1.1 151 4) k = ins S j k := fun k => by
        rw [hd1, st_ne (Or.inl (by omega)), st_same, hb_or, hb_bit k (by omega), hs k]; rfl
      have p1 : ν1.1 154 dp = Int32.ofNat w := by rw [hd1, st_ne (Or.inl (by omega)), st_ne (Or.inl (by omega))]; exact hp
      have p2 : ν1.1 155 dp = Int32.ofNat j := by rw [hd1]; exact st_same _ _ _ _
      have p3 : ∀ i, i < dp → ν1.1 154 i = ν.1 154 i ∧ ν1.1 155 i = ν.1 155 i := fun i hi => by
        rw [hd1, st_ne (Or.inl (by omega)), st_ne (Or.inl (by omega)), st_ne (Or.inr (by omega)), st_ne (Or.inl (by omega))]; exact ⟨rfl, rfl⟩
      have hp5 : PR ν1 142 M := hS.2.2.fr f1 (fun i z => by unfold FSk at z; omega) (fun i z => by unfold FSk at z; omega)
      have eo := c_workerOf pr142 hp5 hj
      have eq := dsN_first (M := M) hE hj q fi'
      by_cases o : ow M j = 12
      · rw [if_pos o] at eq
        rw [o, eI_ge (Nat.le_refl 12)] at eo
        rw [eq]
        refine ⟨ν1, 1, f1, s1, p3, by show 1 + 2 * un (ins S j) ≤ _; omega, Or.inr ⟨[(w, j)], rfl, ⟨p1, p2, hw, hj, trivial⟩, Nat.le_refl 1, by show dp + 1 ≤ 12; omega, fun F => ?_⟩⟩
        have e1 : dp + [(w, j)].length - 1 = dp := Nat.add_sub_cancel dp 1
        rw [sk_a hdp (by omega) hp e nz, ← hd1]
        simp only [↓hbind eo, ↓reduceIte, e1]
      · rw [if_neg o] at eq
        have o2 : ow M j < 12 := by have := ow_le M j; omega
        have sm1 := smt_ins hj sj' o2
        have sm2 := smt_le hM.1 (ins S j)
        rw [eI_lt o2] at eo
        have nz2 : (Int32.ofNat (ow M j) = -1) = False := oN_n1 (by omega)
        have elw : ν1.1 152 (ow M j) = lw (ow M j) := by rw [(f1 _ _ (by unfold FSk; omega)).1]; exact hL.1 _ o2
        have elt : ν1.1 153 j = lt j := by rw [(f1 _ _ (by unfold FSk; omega)).1]; exact hL.2 _ hj
        by_cases l : lw (ow M j) = lt j + 1
        · rw [if_pos l] at eq
          have l' : (lw (ow M j) = lt j + 1) = True := eq_true l
          have c4 : (Int32.ofNat (dp + 1) ≥ 12) = False := by rw [lge_12 (by omega)]; exact eq_false (by omega)
          obtain ⟨ν2, hd2'⟩ : ∃ z, z = st ν1 154 (dp + 1) (Int32.ofNat (ow M j)) := ⟨_, rfl⟩
          have f2 : Fr FSk μ ν2 := by rw [hd2']; exact f1.st (Or.inl rfl)
          have s2 : ∀ k, hb (ν2.1 151 4) k = ins S j k := fun k => by rw [hd2', st_ne (Or.inl (by omega))]; exact s1 k
          have q1 : ν2.1 154 (dp + 1) = Int32.ofNat (ow M j) := by rw [hd2']; exact st_same _ _ _ _
          have q2 : ∀ i, i < dp + 1 → ν2.1 154 i = ν1.1 154 i ∧ ν2.1 155 i = ν1.1 155 i := fun i hi => by
            rw [hd2', st_ne (Or.inr (by omega)), st_ne (Or.inl (by omega))]; exact ⟨rfl, rfl⟩
          have st2 : ∀ F, f_X4_seek_L12 f_X4_seek_J93 f_X4_seek_J143 (F + 1) 151 141 (Int32.ofNat dp) (Int32.ofNat stp) (mem ν) = f_X4_seek_L12 f_X4_seek_J93 f_X4_seek_J143 F 151 141 (Int32.ofNat (dp + 1)) (Int32.ofNat (stp + 1)) (mem ν2) := fun F => by
            rw [sk_a hdp (by omega) hp e nz, ← hd1, hd2']
            simp only [↓reduceIte, ↓hvc (fun _ => vc_151), ↓hbind eo, nz2, ↓hbind (c_lW o2), ↓hbind (c_lT hj), elw, elt, l', i_succ, c4, ↓hbind gR_151_2, ↓hbind (sI_154 (show dp + 1 < 12 by omega)), f_X4_seek_J137, lt_go]
          obtain ⟨ξ, k1, g1, g2, g3, g4, g5⟩ := ih (ow M j) (ins S j) (dp + 1) (stp + 1) ν2 (by omega) o2 f2 s2 q1 (by omega) (by omega)
          rcases g5 with ⟨n1, n2, n3⟩ | ⟨p, n1, n2, n3, n4, n5⟩
          · rw [n1] at eq
            dsimp only at eq
            have mo := dsN_mono (E := E) (M := M) (lw := lw) (lt := lt) (ow M j) (ins S j)
            have um := un_mono mo
            have ws : ξ.1 154 dp = Int32.ofNat w := by rw [(g3 dp (by omega)).1, (q2 dp (by omega)).1]; exact p1
            obtain ⟨ζ, k2, h1, h2, h3, h4, h5⟩ := ih w (dsN E M lw lt (ow M j) (ins S j)).1 dp (stp + 1 + k1) ξ (by omega) hw g1 g2 ws (by have := smt_mono (M := M) mo; omega) (by omega)
            rw [eq]
            refine ⟨ζ, 1 + k1 + k2, h1, h2, fun i hi => ?_, by omega, ?_⟩
            · rw [(h3 i hi).1, (h3 i hi).2, (g3 i (by omega)).1, (g3 i (by omega)).2, (q2 i (by omega)).1, (q2 i (by omega)).2]
              exact p3 i hi
            · have go : ∀ F, f_X4_seek_L12 f_X4_seek_J93 f_X4_seek_J143 (F + (1 + k1 + k2)) 151 141 (Int32.ofNat dp) (Int32.ofNat stp) (mem ν) = f_X4_seek_L12 f_X4_seek_J93 f_X4_seek_J143 (F + k2) 151 141 (Int32.ofNat dp) (Int32.ofNat (stp + 1 + k1)) (mem ξ) := fun F => by
                rw [show F + (1 + k1 + k2) = F + k2 + k1 + 1 by omega, st2, n3, i_dec]
              rcases h5 with ⟨a1, a2, a3⟩ | ⟨p, a1, a2, a3, a4, a5⟩
              · exact Or.inl ⟨a1, a2, fun F => by rw [go, a3, show stp + 1 + k1 + k2 = stp + (1 + k1 + k2) by omega]⟩
              · exact Or.inr ⟨p, a1, a2, a3, a4, fun F => by rw [go, a5]⟩
          · rw [n1] at eq
            dsimp only at eq
            rw [eq]
            refine ⟨ξ, k1 + 1, g1, g2, fun i hi => ?_, by show k1 + 1 + 2 * un (dsN E M lw lt (ow M j) (ins S j)).1 ≤ _; omega, Or.inr ⟨(w, j) :: p, rfl, ⟨?_, ?_, hw, hj, n2⟩, by show 1 ≤ p.length + 1; omega, by show dp + (p.length + 1) ≤ 12; omega, fun F => ?_⟩⟩
            · rw [(g3 i (by omega)).1, (g3 i (by omega)).2, (q2 i (by omega)).1, (q2 i (by omega)).2]
              exact p3 i hi
            · rw [(g3 dp (by omega)).1, (q2 dp (by omega)).1]; exact p1
            · rw [(g3 dp (by omega)).2, (q2 dp (by omega)).2]; exact p2
            · rw [show F + (k1 + 1) = F + k1 + 1 by omega, st2, n5]
              show _ = f_X4_seek_J93 151 141 (Int32.ofNat (dp + (p.length + 1) - 1)) (mem ξ)
              rw [show dp + 1 + p.length - 1 = dp + (p.length + 1) - 1 by omega]
        · rw [if_neg l] at eq
          have l' : (lw (ow M j) = lt j + 1) = False := eq_false l
          have st2 : ∀ F, f_X4_seek_L12 f_X4_seek_J93 f_X4_seek_J143 (F + 1) 151 141 (Int32.ofNat dp) (Int32.ofNat stp) (mem ν) = f_X4_seek_L12 f_X4_seek_J93 f_X4_seek_J143 F 151 141 (Int32.ofNat dp) (Int32.ofNat (stp + 1)) (mem ν1) := fun F => by
            rw [sk_a hdp (by omega) hp e nz, ← hd1]
            simp only [↓reduceIte, ↓hvc (fun _ => vc_151), lt_go, ↓hbind eo, nz2, ↓hbind (c_lW o2), ↓hbind (c_lT hj), elw, elt, l', f_X4_seek_J137, i_succ]
          obtain ⟨ζ, k2, h1, h2, h3, h4, h5⟩ := ih w (ins S j) dp (stp + 1) ν1 (by omega) hw f1 s1 p1 (by omega) (by omega)
          rw [eq]
          refine ⟨ζ, k2 + 1, h1, h2, fun i hi => ?_, by omega, ?_⟩
          · rw [(h3 i hi).1, (h3 i hi).2]; exact p3 i hi
          · rcases h5 with ⟨a1, a2, a3⟩ | ⟨p, a1, a2, a3, a4, a5⟩
            · exact Or.inl ⟨a1, a2, fun F => by rw [show F + (k2 + 1) = F + k2 + 1 by omega, st2, a3, show stp + 1 + k2 = stp + (k2 + 1) by omega]⟩
            · exact Or.inr ⟨p, a1, a2, a3, a4, fun F => by rw [show F + (k2 + 1) = F + k2 + 1 by omega, st2, a5]⟩
end Cs
