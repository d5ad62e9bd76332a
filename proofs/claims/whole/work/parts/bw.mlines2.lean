/-! THE MODEL: the lines of a text: pair away -/
section Mn
variable {μ ν : MM} {n p : Nat} {y : Nat → Nat} {B : Bk} {kr : Bool}
theorem isA_211 : isA shI 100 211 12 isInt = true := by decide +kernel
theorem m_own1 (h : MR ν 1 B) (hB : BOK B) {t : Nat} (ht : t < 12) : f_X10_ownerOf 211 (Int32.ofNat t) (mem ν) = some (eI (ow (bM B) t), mem ν) := m_ownerOf isA_211 ht h.2.2.1 hB.M.1.1
theorem m_pair_no (h6 : ν.1 168 6 ≠ 0) {x1 x2 : Int32} : f_X10_readsPair_J50 168 x1 x2 (mem ν) = some (mem ν) := by
  simp only [f_X10_readsPair_J50, ↓hvc (fun _ => vc_168), ↓hbind (m_t_no h6), ↓hbind (m_fine0 h6), ↓reduceIte]
theorem m_pair_4 (h6 : ν.1 168 6 = 0) {x1 : Int32} {s : Nat} : ∃ ξ, f_X10_readsPair_J44 168 x1 (Int32.ofNat s) (mem ν) = some (mem ξ) ∧ Fr GX ν ξ ∧ EM ξ 4 s := by
  obtain ⟨ξ, e1, f1, v1, v2⟩ := m_wrong1 h6 (a := 4) (q := Int32.ofNat s)
  have m1 : EM ξ 4 s := EM.i v1 v2 (by omega) (by omega)
  refine ⟨ξ, ?_, f1.mono fun _ _ z => z.X, m1⟩
  simp only [f_X10_readsPair_J44, ↓hvc (fun _ => vc_168), ↓hbind e1, m_pair_no m1.2.2]
theorem m_pair_7 (h6 : ν.1 168 6 = 0) {w : Nat} (hw : w < 12) {x3 : Int32} {s : Nat} : ∃ ξ, f_X10_readsPair_J107 168 (Int32.ofNat w) (Int32.ofNat s) x3 (mem ν) = some (mem ξ) ∧ Fr GX ν ξ ∧ EM ξ 4 s := by
  obtain ⟨ν1, e1, f1, v1, v2⟩ := m_wrong1 h6 (a := 4) (q := Int32.ofNat s)
  have m1 : EM ν1 4 s := EM.i v1 v2 (by omega) (by omega)
  have f3 : Fr (FR 1) ν1 (st ν1 211 w x3) := (Fr.refl _ _).st (by unfold FR; omega)
  refine ⟨_, ?_, (f1.mono fun _ _ z => z.X).trans (f3.mono fun _ _ z => z.G), m1.fr f3 (by unfold FR; omega) (by unfold FR; omega)⟩
  simp only [f_X10_readsPair_J107, ↓hvc (fun _ => vc_168), ↓hbind e1, f_X10_readsPair_J113, ↓hbind gR_168_11, ↓hbind mr_m1, ↓hbind (ms_m1 hw)]
theorem m_lnPair (hn : n ≤ 300) (hy : ∀ k, y k < 256) (hp : p ≤ n) (hB : BOK B) (h : TM n y ν p B kr) : ∃ ξ, f_X10_readsPair 168 (mem ν) = some (mem ξ) ∧ Fr GX ν ξ ∧ OM n y ξ (lnPair n y p B kr) := by
  have n12 := hB.n
  have m12' := hB.m
  rcases q1 : num n y p 0 (bn B - 1) with ⟨a, q⟩ | ⟨w, s, p1⟩
  · obtain ⟨ξ, e1, m1, f1⟩ := m_w_er hn hy hp hB h q1
    have el : lnPair n y p B kr = .er a q := by simp only [lnPair, q1]
    rw [el]
    refine ⟨ξ, ?_, f1, m1⟩
    simp only [f_X10_readsPair, ↓hvc (fun _ => vc_168), ↓hbind e1, ↓hbind gI_168_15, ↓hbind (m_fine0 m1.2.2), ↓reduceIte, m_pair_no m1.2.2]
  · obtain ⟨-, -, -, -, w12, -, -, hp1⟩ := num_ok hp q1
    have hw : w < 12 := by omega
    obtain ⟨ν1, e1, t1, s1, f1⟩ := m_w_ok hn hy hp hB h q1
    have h61 := t1.2.2.2.1
    have g3 : ν1.1 173 3 = bw B := t1.2.1.1.2.2.2.1
    have gm : ν1.1 211 w = eI (bM B w) := t1.2.1.2.2.1 w hw
    have eh := m_has (x := bw B) (h := mem ν1) (show w < 32 by omega)
    obtain ⟨ζ, i1, i2, i3⟩ := m_pair_4 h61 (x1 := Int32.ofNat w) (s := s)
    by_cases z : hb (bw B) w = true ∧ bM B w = 12
    · rw [z.1] at eh
      have c1 : (eI (bM B w) = -1) = True := by rw [eI_n1]; exact eq_true (by omega)
      have go : f_X10_readsPair 168 (mem ν) = f_X10_readsPair_J50 168 (Int32.ofNat w) (Int32.ofNat s) (mem ν1) := by
        simp only [f_X10_readsPair, ↓hvc (fun _ => vc_168), ↓hbind e1, ↓hbind gI_168_15, s1, ↓hbind (m_fine1 h61), z_1, ↓reduceIte, ↓hbind gR_168_9, ↓hbind mr_h1, ↓hbind mh_a1_3, g3, ↓hbind eh, show bI true = 1 from rfl, ↓hbind gR_168_11, ↓hbind mr_m1, ↓hbind (ma_m1 hw), gm, c1]
      rcases q2 : num n y p1 0 (bm B - 1) with ⟨a, q⟩ | ⟨t, s2, p2⟩
      · obtain ⟨ξ, e2, m2, f2⟩ := m_t_er hn hy hp1 hB t1 q2
        have el : lnPair n y p B kr = .er a q := by simp only [lnPair, q1, if_pos z, q2]
        rw [el]
        refine ⟨ξ, ?_, f1.trans f2, m2⟩
        rw [go]
        simp only [f_X10_readsPair_J50, ↓hvc (fun _ => vc_168), ↓hbind e2, ↓hbind (m_fine0 m2.2.2), ↓reduceIte]
      · obtain ⟨-, -, -, -, t12, -, -, hp2⟩ := num_ok hp1 q2
        have ht : t < 12 := by omega
        obtain ⟨ν2, e2, t2, -, f2⟩ := m_t_ok hn hy hp1 hB t1 q2
        have h62 := t2.2.2.2.1
        have gf : ν2.1 192 w = bf B w := t2.2.1.2.1 w hw
        have g4 : ν2.1 173 4 = bt B := t2.2.1.1.2.2.2.2
        have ef := m_has (x := bf B w) (h := mem ν2) (show t < 32 by omega)
        have et := m_has (x := bt B) (h := mem ν2) (show t < 32 by omega)
        have eo := m_own1 t2.2.1 hB ht
        obtain ⟨ξ7, i71, i72, i73⟩ := m_pair_7 h62 hw (x3 := Int32.ofNat t) (s := s)
        by_cases x : (hb (bt B) t = true ∧ ow (bM B) t = 12) ∧ hb (bf B w) t = true
        · rw [x.2] at ef
          rw [x.1.1] at et
          have c2 : (eI (ow (bM B) t) = -1) = True := by rw [eI_n1]; exact eq_true (by omega)
          have el : lnPair n y p B kr = .ok p2 (wM B (jo (bM B) w t)) kr := by simp only [lnPair, q1, if_pos z, q2, if_pos x]
          have f3 : Fr (FR 1) ν2 (st ν2 211 w (Int32.ofNat t)) := (Fr.refl _ _).st (by unfold FR; omega)
          have r3 := mr1_M (w := w) t2.2.1 ht
          rw [← jo_up hB.M.1 ht x.1.2] at r3
          rw [el]
          refine ⟨_, ?_, (f1.trans f2).trans (f3.mono fun _ _ z => z.G), t2.rw1 r3 f3⟩
          rw [go]
          simp only [f_X10_readsPair_J50, ↓hvc (fun _ => vc_168), ↓hbind e2, ↓hbind (m_fine1 h62), z_1, ↓reduceIte, ↓hbind gR_168_10, ↓hbind mr_f1, ↓hbind (ma_f1 hw), gf, ↓hbind ef, show bI true = 1 from rfl, ↓hbind gR_168_9, ↓hbind mr_h1, ↓hbind mh_a1_4, g4, ↓hbind et, ↓hbind gR_168_11, ↓hbind mr_m1, ↓hbind eo, c2, f_X10_readsPair_J113, ↓hbind (ms_m1 hw)]
        · have el : lnPair n y p B kr = .er 4 s := by simp only [lnPair, q1, if_pos z, q2, if_neg x]
          rw [el]
          refine ⟨ξ7, ?_, (f1.trans f2).trans i72, i73⟩
          rw [go, ← i71]
          cases u1 : hb (bf B w) t with
          | false =>
            rw [u1] at ef
            simp only [f_X10_readsPair_J50, ↓hvc (fun _ => vc_168), ↓hbind e2, ↓hbind (m_fine1 h62), z_1, ↓reduceIte, ↓hbind gR_168_10, ↓hbind mr_f1, ↓hbind (ma_f1 hw), gf, ↓hbind ef, show bI false = 0 from rfl]
          | true =>
            rw [u1] at ef
            cases u2 : hb (bt B) t with
            | false =>
              rw [u2] at et
              simp only [f_X10_readsPair_J50, ↓hvc (fun _ => vc_168), ↓hbind e2, ↓hbind (m_fine1 h62), z_1, ↓reduceIte, ↓hbind gR_168_10, ↓hbind mr_f1, ↓hbind (ma_f1 hw), gf, ↓hbind ef, show bI true = 1 from rfl, ↓hbind gR_168_9, ↓hbind mr_h1, ↓hbind mh_a1_4, g4, ↓hbind et, show bI false = 0 from rfl]
            | true =>
              rw [u2] at et
              have c2 : (eI (ow (bM B) t) = -1) = False := by
                rw [eI_n1]
                have := ow_le (bM B) t
                exact eq_false fun k => x ⟨⟨u2, by omega⟩, u1⟩
              simp only [f_X10_readsPair_J50, ↓hvc (fun _ => vc_168), ↓hbind e2, ↓hbind (m_fine1 h62), z_1, ↓reduceIte, ↓hbind gR_168_10, ↓hbind mr_f1, ↓hbind (ma_f1 hw), gf, ↓hbind ef, show bI true = 1 from rfl, ↓hbind gR_168_9, ↓hbind mr_h1, ↓hbind mh_a1_4, g4, ↓hbind et, ↓hbind gR_168_11, ↓hbind mr_m1, ↓hbind eo, c2]
    · have el : lnPair n y p B kr = .er 4 s := by simp only [lnPair, q1, if_neg z]
      rw [el]
      refine ⟨ζ, ?_, f1.trans i2, i3⟩
      rw [← i1]
      cases u1 : hb (bw B) w with
      | false =>
        rw [u1] at eh
        simp only [f_X10_readsPair, ↓hvc (fun _ => vc_168), ↓hbind e1, ↓hbind gI_168_15, s1, ↓hbind (m_fine1 h61), z_1, ↓reduceIte, ↓hbind gR_168_9, ↓hbind mr_h1, ↓hbind mh_a1_3, g3, ↓hbind eh, show bI false = 0 from rfl]
      | true =>
        rw [u1] at eh
        have c1 : (eI (bM B w) = -1) = False := by
          rw [eI_n1]
          have := hB.M.1.1 w
          exact eq_false fun k => z ⟨u1, by omega⟩
        simp only [f_X10_readsPair, ↓hvc (fun _ => vc_168), ↓hbind e1, ↓hbind gI_168_15, s1, ↓hbind (m_fine1 h61), z_1, ↓reduceIte, ↓hbind gR_168_9, ↓hbind mr_h1, ↓hbind mh_a1_3, g3, ↓hbind eh, show bI true = 1 from rfl, ↓hbind gR_168_11, ↓hbind mr_m1, ↓hbind (ma_m1 hw), gm, c1]
/-- away: a worker -/
theorem m_away_w (hn : n ≤ 300) (hy : ∀ k, y k < 256) (hp : p ≤ n) (hB : BOK B) (h : TM n y ν p B kr) : ∃ ξ, f_X10_readsAway_J17 168 1 (mem ν) = some (mem ξ) ∧ Fr GX ν ξ ∧ OM n y ξ (match num n y p 0 (bn B - 1) with
    | .inl (a, q) => .er a q
    | .inr (k, s, p1) => if hb (bw B) k = true ∧ bM B k = 12 then .ok p1 (wW B k false) kr else .er 5 s) := by
  have n12 := hB.n
  rcases q1 : num n y p 0 (bn B - 1) with ⟨a, q⟩ | ⟨w, s, p1⟩
  · obtain ⟨ξ, e1, m1, f1⟩ := m_w_er hn hy hp hB h q1
    refine ⟨ξ, ?_, f1, m1⟩
    simp only [f_X10_readsAway_J17, z_1, ↓reduceIte, ↓hvc (fun _ => vc_168), ↓hbind e1, f_X10_readsAway_J32, ↓hbind (m_fine0 m1.2.2)]
  · obtain ⟨-, -, -, -, w12, -, -, hp1⟩ := num_ok hp q1
    have hw : w < 12 := by omega
    obtain ⟨ν1, e1, t1, s1, f1⟩ := m_w_ok hn hy hp hB h q1
    have h61 := t1.2.2.2.1
    have g3 : ν1.1 173 3 = bw B := t1.2.1.1.2.2.2.1
    have gm : ν1.1 211 w = eI (bM B w) := t1.2.1.2.2.1 w hw
    have eh := m_has (x := bw B) (h := mem ν1) (show w < 32 by omega)
    show ∃ ξ, _ ∧ _ ∧ OM n y ξ (if hb (bw B) w = true ∧ bM B w = 12 then .ok p1 (wW B w false) kr else .er 5 s)
    have aI3 : aI (mem ν1) 173 3 = some (bw B) := by rw [mh_a1_3, g3]
    by_cases z : hb (bw B) w = true ∧ bM B w = 12
    · rw [if_pos z]
      rw [z.1] at eh
      have c1 : (eI (bM B w) = -1) = True := by rw [eI_n1]; exact eq_true (by omega)
      have f3 : Fr (FR 1) ν1 (st ν1 173 3 (bw B &&& (((1 : Int32) <<< (Int32.ofNat w &&& 31)) ^^^ (-1)))) := (Fr.refl _ _).st (by unfold FR; omega)
      have r3 := mr1_h3 (v := bw B &&& (((1 : Int32) <<< (Int32.ofNat w &&& 31)) ^^^ (-1))) t1.2.1
      have eB : mkB (bn B) (bm B) (bk B) (bw B &&& (((1 : Int32) <<< (Int32.ofNat w &&& 31)) ^^^ (-1))) (bt B) (be B) (bf B) (bc B) (bM B) = wW B w false := by
        unfold wW
        rw [up_id z.2]
        rfl
      rw [eB] at r3
      refine ⟨_, ?_, f1.trans (f3.mono fun _ _ z => z.G), t1.rw1 r3 f3⟩
      simp only [f_X10_readsAway_J17, z_1, ↓reduceIte, ↓hvc (fun _ => vc_168), ↓hbind e1, f_X10_readsAway_J32, ↓hbind (m_fine1 h61), f_X10_readsAway_J50, ↓hbind gR_168_11, ↓hbind mr_m1, ↓hbind (ma_m1 hw), gm, c1, f_X10_readsAway_J94, ↓hbind gR_168_9, ↓hbind mr_h1, ↓hbind aI3, ↓hbind eh, show bI true = 1 from rfl, f_X10_readsAway_J125, ↓hbind mh_s1_3]
    · rw [if_neg z]
      obtain ⟨ν2, e2, f2, v1, v2⟩ := m_wrong1 h61 (a := 5) (q := Int32.ofNat s)
      have m2 : EM ν2 5 s := EM.i v1 v2 (by omega) (by omega)
      have f3 : Fr (FR 1) ν2 (st ν2 173 3 (ν2.1 173 3 &&& (((1 : Int32) <<< (Int32.ofNat w &&& 31)) ^^^ (-1)))) := (Fr.refl _ _).st (by unfold FR; omega)
      have e16 : f_X10_readsAway_J116 168 (Int32.ofNat w) 3 (mem ν1) = some (mem (st ν2 173 3 (ν2.1 173 3 &&& (((1 : Int32) <<< (Int32.ofNat w &&& 31)) ^^^ (-1))))) := by
        simp only [f_X10_readsAway_J116, ↓hbind gI_168_15, s1, ↓hvc (fun _ => vc_168), ↓hbind e2, f_X10_readsAway_J125, ↓hbind gR_168_9, ↓hbind mr_h1, ↓hbind mh_a1_3, ↓hbind mh_s1_3]
      refine ⟨_, ?_, (f1.trans (f2.mono fun _ _ z => z.X)).trans (f3.mono fun _ _ z => z.G), m2.fr f3 (by unfold FR; omega) (by unfold FR; omega)⟩
      rw [← e16]
      cases u1 : hb (bw B) w with
      | false =>
        rw [u1] at eh
        by_cases c : eI (bM B w) = -1
        · have c := eq_true c
          simp only [f_X10_readsAway_J17, z_1, ↓reduceIte, ↓hvc (fun _ => vc_168), ↓hbind e1, f_X10_readsAway_J32, ↓hbind (m_fine1 h61), f_X10_readsAway_J50, ↓hbind gR_168_11, ↓hbind mr_m1, ↓hbind (ma_m1 hw), gm, c, f_X10_readsAway_J94, ↓hbind gR_168_9, ↓hbind mr_h1, ↓hbind aI3, ↓hbind eh, show bI false = 0 from rfl]
        · have c := eq_false c
          simp only [f_X10_readsAway_J17, z_1, ↓reduceIte, ↓hvc (fun _ => vc_168), ↓hbind e1, f_X10_readsAway_J32, ↓hbind (m_fine1 h61), f_X10_readsAway_J50, ↓hbind gR_168_11, ↓hbind mr_m1, ↓hbind (ma_m1 hw), gm, c, f_X10_readsAway_J94, ↓hbind gR_168_9, ↓hbind mr_h1, ↓hbind aI3, ↓hbind eh, show bI false = 0 from rfl]
      | true =>
        rw [u1] at eh
        have c1 : (eI (bM B w) = -1) = False := by
          rw [eI_n1]
          have := hB.M.1.1 w
          exact eq_false fun k => z ⟨u1, by omega⟩
        simp only [f_X10_readsAway_J17, z_1, ↓reduceIte, ↓hvc (fun _ => vc_168), ↓hbind e1, f_X10_readsAway_J32, ↓hbind (m_fine1 h61), f_X10_readsAway_J50, ↓hbind gR_168_11, ↓hbind mr_m1, ↓hbind (ma_m1 hw), gm, c1, f_X10_readsAway_J94, ↓hbind gR_168_9, ↓hbind mr_h1, ↓hbind aI3, ↓hbind eh, show bI true = 1 from rfl]
theorem m_away_t (hn : n ≤ 300) (hy : ∀ k, y k < 256) (hp : p ≤ n) (hB : BOK B) (h : TM n y ν p B kr) : ∃ ξ, f_X10_readsAway_J17 168 0 (mem ν) = some (mem ξ) ∧ Fr GX ν ξ ∧ OM n y ξ (match num n y p 0 (bm B - 1) with
    | .inl (a, q) => .er a q
    | .inr (k, s, p1) => if hb (bt B) k = true ∧ ow (bM B) k = 12 then .ok p1 (wT B k false) kr else .er 5 s) := by
  have n12 := hB.m
  rcases q1 : num n y p 0 (bm B - 1) with ⟨a, q⟩ | ⟨w, s, p1⟩
  · obtain ⟨ξ, e1, m1, f1⟩ := m_t_er hn hy hp hB h q1
    refine ⟨ξ, ?_, f1, m1⟩
    simp only [f_X10_readsAway_J17, ↓reduceIte, ↓hvc (fun _ => vc_168), ↓hbind e1, f_X10_readsAway_J32, ↓hbind (m_fine0 m1.2.2)]
  · obtain ⟨-, -, -, -, w12, -, -, hp1⟩ := num_ok hp q1
    have hw : w < 12 := by omega
    obtain ⟨ν1, e1, t1, s1, f1⟩ := m_t_ok hn hy hp hB h q1
    have h61 := t1.2.2.2.1
    have g4 : ν1.1 173 4 = bt B := t1.2.1.1.2.2.2.2
    have eo := m_own1 t1.2.1 hB hw
    have eh := m_has (x := bt B) (h := mem ν1) (show w < 32 by omega)
    show ∃ ξ, _ ∧ _ ∧ OM n y ξ (if hb (bt B) w = true ∧ ow (bM B) w = 12 then .ok p1 (wT B w false) kr else .er 5 s)
    have aI4 : aI (mem ν1) 173 4 = some (bt B) := by rw [mh_a1_4, g4]
    by_cases z : hb (bt B) w = true ∧ ow (bM B) w = 12
    · rw [if_pos z]
      rw [z.1] at eh
      have c1 : (eI (ow (bM B) w) = -1) = True := by rw [eI_n1]; exact eq_true (by omega)
      have f3 : Fr (FR 1) ν1 (st ν1 173 4 (bt B &&& (((1 : Int32) <<< (Int32.ofNat w &&& 31)) ^^^ (-1)))) := (Fr.refl _ _).st (by unfold FR; omega)
      have r3 := mr1_h4 (v := bt B &&& (((1 : Int32) <<< (Int32.ofNat w &&& 31)) ^^^ (-1))) t1.2.1
      have eB : mkB (bn B) (bm B) (bk B) (bw B) (bt B &&& (((1 : Int32) <<< (Int32.ofNat w &&& 31)) ^^^ (-1))) (be B) (bf B) (bc B) (bM B) = wT B w false := by
        unfold wT
        rw [z.2, up_id (hB.M.1.2.1 12 (Nat.le_refl 12))]
        rfl
      rw [eB] at r3
      refine ⟨_, ?_, f1.trans (f3.mono fun _ _ z => z.G), t1.rw1 r3 f3⟩
      simp only [f_X10_readsAway_J17, ↓reduceIte, ↓hvc (fun _ => vc_168), ↓hbind e1, f_X10_readsAway_J32, ↓hbind (m_fine1 h61), z_1, f_X10_readsAway_J50, ↓hbind gR_168_11, ↓hbind mr_m1, ↓hbind eo, c1, f_X10_readsAway_J94, ↓hbind gR_168_9, ↓hbind mr_h1, ↓hbind aI4, ↓hbind eh, show bI true = 1 from rfl, f_X10_readsAway_J125, ↓hbind mh_s1_4]
    · rw [if_neg z]
      obtain ⟨ν2, e2, f2, v1, v2⟩ := m_wrong1 h61 (a := 5) (q := Int32.ofNat s)
      have m2 : EM ν2 5 s := EM.i v1 v2 (by omega) (by omega)
      have f3 : Fr (FR 1) ν2 (st ν2 173 4 (ν2.1 173 4 &&& (((1 : Int32) <<< (Int32.ofNat w &&& 31)) ^^^ (-1)))) := (Fr.refl _ _).st (by unfold FR; omega)
      have e16 : f_X10_readsAway_J116 168 (Int32.ofNat w) 4 (mem ν1) = some (mem (st ν2 173 4 (ν2.1 173 4 &&& (((1 : Int32) <<< (Int32.ofNat w &&& 31)) ^^^ (-1))))) := by
        simp only [f_X10_readsAway_J116, ↓hbind gI_168_15, s1, ↓hvc (fun _ => vc_168), ↓hbind e2, f_X10_readsAway_J125, ↓hbind gR_168_9, ↓hbind mr_h1, ↓hbind mh_a1_4, ↓hbind mh_s1_4]
      refine ⟨_, ?_, (f1.trans (f2.mono fun _ _ z => z.X)).trans (f3.mono fun _ _ z => z.G), m2.fr f3 (by unfold FR; omega) (by unfold FR; omega)⟩
      rw [← e16]
      cases u1 : hb (bt B) w with
      | false =>
        rw [u1] at eh
        by_cases c : eI (ow (bM B) w) = -1
        · have c := eq_true c
          simp only [f_X10_readsAway_J17, ↓reduceIte, ↓hvc (fun _ => vc_168), ↓hbind e1, f_X10_readsAway_J32, ↓hbind (m_fine1 h61), z_1, f_X10_readsAway_J50, ↓hbind gR_168_11, ↓hbind mr_m1, ↓hbind eo, c, f_X10_readsAway_J94, ↓hbind gR_168_9, ↓hbind mr_h1, ↓hbind aI4, ↓hbind eh, show bI false = 0 from rfl]
        · have c := eq_false c
          simp only [f_X10_readsAway_J17, ↓reduceIte, ↓hvc (fun _ => vc_168), ↓hbind e1, f_X10_readsAway_J32, ↓hbind (m_fine1 h61), z_1, f_X10_readsAway_J50, ↓hbind gR_168_11, ↓hbind mr_m1, ↓hbind eo, c, f_X10_readsAway_J94, ↓hbind gR_168_9, ↓hbind mr_h1, ↓hbind aI4, ↓hbind eh, show bI false = 0 from rfl]
      | true =>
        rw [u1] at eh
        have c1 : (eI (ow (bM B) w) = -1) = False := by
          rw [eI_n1]
          have := ow_le (bM B) w
          exact eq_false fun k => z ⟨u1, by omega⟩
        simp only [f_X10_readsAway_J17, ↓reduceIte, ↓hvc (fun _ => vc_168), ↓hbind e1, f_X10_readsAway_J32, ↓hbind (m_fine1 h61), z_1, f_X10_readsAway_J50, ↓hbind gR_168_11, ↓hbind mr_m1, ↓hbind eo, c1, f_X10_readsAway_J94, ↓hbind gR_168_9, ↓hbind mr_h1, ↓hbind aI4, ↓hbind eh, show bI true = 1 from rfl]
theorem m_lnAway (hn : n ≤ 300) (hy : ∀ k, y k < 256) (hp : p ≤ n) (hB : BOK B) (h : TM n y ν p B kr) : ∃ ξ, f_X10_readsAway 168 (mem ν) = some (mem ξ) ∧ Fr GX ν ξ ∧ OM n y ξ (lnAway n y p B kr) := by
  have l1 := skp_le (y := y) hp
  have l2 := sme_le (y := y) l1.2
  obtain ⟨ν1, e1, r1, f1⟩ := m_takes hn hy hp h.1 h.2.2.2.1 (j := 7) (by decide)
  have e1 : f_X10_takes 168 1000010 (mem ν) = some (bI (isW y (skp n y p) (sme n y (skp n y p)) (wdW 7)), mem ν1) := e1
  have t1 := h.go r1 (f1.mono fun _ _ z => z.F)
  have f1' : Fr GX ν ν1 := f1.mono fun _ _ z => z.X
  unfold lnAway
  by_cases z : isW y (skp n y p) (sme n y (skp n y p)) (wdW 7) = true
  · rw [z] at e1
    rw [if_pos z] at t1 ⊢
    obtain ⟨ξ, e2, f2, o2⟩ := m_away_w hn hy l2.2 hB t1
    refine ⟨ξ, ?_, f1'.trans f2, o2⟩
    rw [← e2]
    simp only [f_X10_readsAway, ↓hvc (fun _ => vc_168), ↓hbind e1, show bI true = 1 from rfl, z_1, ↓reduceIte]
  · have z' : isW y (skp n y p) (sme n y (skp n y p)) (wdW 7) = false := by simpa using z
    rw [z'] at e1
    rw [if_neg z] at t1 ⊢
    have ss := skp_skp (y := y) hp
    by_cases x : isW y (skp n y p) (sme n y (skp n y p)) (wdW 8) = true
    · rw [if_pos x]
      obtain ⟨ν2, e2, r2, f2⟩ := m_must_ok hn hy l1.2 t1.1 t1.2.2.2.1 (j := 8) (by decide) (by rw [ss]; exact x)
      have e2 : f_X10_must 168 1000011 (mem ν1) = some (mem ν2) := e2
      rw [ss] at r2
      have t2 := t1.go r2 (f2.mono fun _ _ z => z.F)
      obtain ⟨ξ, e3, f3, o3⟩ := m_away_t hn hy l2.2 hB t2
      refine ⟨ξ, ?_, (f1'.trans (f2.mono fun _ _ z => z.X)).trans f3, o3⟩
      rw [← e3]
      simp only [f_X10_readsAway, ↓hvc (fun _ => vc_168), ↓hbind e1, show bI false = 0 from rfl, ↓reduceIte, ↓hbind e2]
    · have x' : isW y (skp n y p) (sme n y (skp n y p)) (wdW 8) = false := by simpa using x
      rw [if_neg x]
      obtain ⟨ν2, e2, f2, v1, v2⟩ := m_must_er hn hy l1.2 t1.1 t1.2.2.2.1 (j := 8) (by decide) (by rw [ss]; exact x')
      have e2 : f_X10_must 168 1000011 (mem ν1) = some (mem ν2) := e2
      rw [ss] at v2
      have m2 : EM ν2 1 (skp n y p) := EM.i v1 v2 (by omega) (by omega)
      refine ⟨ν2, ?_, f1'.trans f2, m2⟩
      simp only [f_X10_readsAway, ↓hvc (fun _ => vc_168), ↓hbind e1, show bI false = 0 from rfl, ↓reduceIte, ↓hbind e2, f_X10_readsAway_J17, ↓hbind (m_t_no m2.2.2), f_X10_readsAway_J32, ↓hbind (m_fine0 m2.2.2)]
end Mn
