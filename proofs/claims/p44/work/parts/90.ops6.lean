/-! OPERATIONS: wayFrom -/
variable {Ξ : xH}
section O9
variable {T : MM → Bk → Prop} {μ : MM} {A : AS}
/-- what wayFrom answers -/
def wfr (r : Int32) (y : Int32) : Int32 := if y = 1 then r else if r ≤ 0 then 0 else 1
def k4 (w y : Int32) (h4 : xH) : Option ((Int32 ⊕ String) × xH) := (gR h4 9 0 4).bind fun v5 => (vc h4 7 v5 (f_X7_find v5 w h4)).bind fun r6 => if y = 1 then f_X9_wayFrom_J69 r6.1 r6.2 else if r6.1 ≤ 0 then f_X9_wayFrom_J69 0 r6.2 else f_X9_wayFrom_J69 1 r6.2
def k1 (w y : Int32) (h1 : xH) : Option ((Int32 ⊕ String) × xH) := (gR h1 9 0 4).bind fun v2 => (gR h1 9 0 0).bind fun v3 => (vc h1 7 v2 (f_X7_load v2 v3 h1)).bind fun h4 => k4 w y h4
theorem c_wf_0 {w y : Int32} : f_X9_wayFrom_J28 0 w y 0 1 ((mX Ξ) μ) = (vc ((mX Ξ) μ) 9 0 (f_X9_demand 0 1 ((mX Ξ) μ))).bind fun r => thr r fun h1 => k1 w y h1 := rfl
theorem c_wf_1 {w y : Int32} : ((vc ((mX Ξ) μ) 9 0 (f_X9_demand 0 1 ((mX Ξ) μ))).bind fun r => thr r fun h1 => k1 w y h1) = k1 w y ((mX Ξ) μ) := by rw [vc_0, c_da1]; rfl
theorem c_wf_2 {w y : Int32} {ν : MM} (e1 : f_X7_load 141 1 ((mX Ξ) μ) = some ((mX Ξ) ν)) : k1 w y ((mX Ξ) μ) = k4 w y ((mX Ξ) ν) := by
  unfold k1
  rw [hbind gR_0_4, hbind gR_0_0, vc_141, hbind e1]
theorem c_wf_3 {w y : Int32} {ν : MM} : k4 w y ((mX Ξ) ν) = (f_X7_find 141 w ((mX Ξ) ν)).bind fun r6 => if y = 1 then f_X9_wayFrom_J69 r6.1 r6.2 else if r6.1 ≤ 0 then f_X9_wayFrom_J69 0 r6.2 else f_X9_wayFrom_J69 1 r6.2 := by
  unfold k4
  rw [hbind gR_0_4, vc_141]
theorem c_wayFrom_25 {w : Nat} {y : Int32} {ν : MM} (e1 : f_X7_load 141 1 ((mX Ξ) μ) = some ((mX Ξ) ν)) : f_X9_wayFrom_J28 0 (Int32.ofNat w) y 0 1 ((mX Ξ) μ) = (f_X7_find 141 (Int32.ofNat w) ((mX Ξ) ν)).bind fun r6 => if y = 1 then f_X9_wayFrom_J69 r6.1 r6.2 else if r6.1 ≤ 0 then f_X9_wayFrom_J69 0 r6.2 else f_X9_wayFrom_J69 1 r6.2 := c_wf_0.trans (c_wf_1.trans ((c_wf_2 e1).trans c_wf_3))
theorem c_wayFrom_26 {w : Nat} {y r : Int32} {ν ξ : MM} (e2 : f_X7_find 141 (Int32.ofNat w) ((mX Ξ) ν) = some (r, (mX Ξ) ξ)) : ((f_X7_find 141 (Int32.ofNat w) ((mX Ξ) ν)).bind fun r6 => if y = 1 then f_X9_wayFrom_J69 r6.1 r6.2 else if r6.1 ≤ 0 then f_X9_wayFrom_J69 0 r6.2 else f_X9_wayFrom_J69 1 r6.2) = if y = 1 then f_X9_wayFrom_J69 r ((mX Ξ) ξ) else if r ≤ 0 then f_X9_wayFrom_J69 0 ((mX Ξ) ξ) else f_X9_wayFrom_J69 1 ((mX Ξ) ξ) := by
  rw [hbind e2]
theorem c_wayFrom_27 {w : Nat} {y r : Int32} {ν ξ : MM} (e1 : f_X7_load 141 1 ((mX Ξ) μ) = some ((mX Ξ) ν)) (e2 : f_X7_find 141 (Int32.ofNat w) ((mX Ξ) ν) = some (r, (mX Ξ) ξ)) : f_X9_wayFrom_J28 0 (Int32.ofNat w) y 0 1 ((mX Ξ) μ) = if y = 1 then f_X9_wayFrom_J69 r ((mX Ξ) ξ) else if r ≤ 0 then f_X9_wayFrom_J69 0 ((mX Ξ) ξ) else f_X9_wayFrom_J69 1 ((mX Ξ) ξ) := (c_wayFrom_25 e1).trans (c_wayFrom_26 e2)
theorem c_wayFrom_28 {w : Nat} {y r : Int32} {ν ξ : MM} (e1 : f_X7_load 141 1 ((mX Ξ) μ) = some ((mX Ξ) ν)) (e2 : f_X7_find 141 (Int32.ofNat w) ((mX Ξ) ν) = some (r, (mX Ξ) ξ)) : f_X9_wayFrom_J28 0 (Int32.ofNat w) y 0 1 ((mX Ξ) μ) = some (.inl (wfr r y), (mX Ξ) ξ) := by
  rw [c_wayFrom_27 e1 e2]
  unfold f_X9_wayFrom_J69 wfr
  by_cases y1 : y = 1
  · rw [if_pos y1, if_pos y1]
  · rw [if_neg y1, if_neg y1]
    by_cases r0 : r ≤ 0
    · rw [if_pos r0, if_pos r0]
    · rw [if_neg r0, if_neg r0]
theorem c_wayFrom_a (hA : AOK A) (hC : RC T μ A) {w : Nat} (c : KN (aB A) 0 (Int32.ofNat w)) {y : Int32} (d : y = 0 ∨ y = 1) : f_X9_wayFrom 0 (Int32.ofNat w) y ((mX Ξ) μ) = f_X9_wayFrom_J28 0 (Int32.ofNat w) y 0 1 ((mX Ξ) μ) := by
  have hB := hA.1
  have ek : f_X0_knows 1 0 (Int32.ofNat w) ((mX Ξ) μ) = some (1, (mX Ξ) μ) := by rw [c_kn bk1 hC.1 hB, pb_1 c]; rfl
  have s1 : f_X9_wayFrom 0 (Int32.ofNat w) y ((mX Ξ) μ) = if y = 0 then f_X9_wayFrom_J23 0 (Int32.ofNat w) y 0 ((mX Ξ) μ) else if y = 1 then f_X9_wayFrom_J23 0 (Int32.ofNat w) y 0 ((mX Ξ) μ) else f_X9_wayFrom_J28 0 (Int32.ofNat w) y 0 0 ((mX Ξ) μ) := by
    simp only [f_X9_wayFrom, ↓hbind gR_0_0, ↓hvc (fun _ => bk_v bk1), ↓hvc (fun _ => vc_0), ↓hbind ek, ↓hbind c_dp1, thr]
  rw [s1]
  rcases d with rfl | rfl
  · rw [if_pos rfl, f_X9_wayFrom_J23]
  · rw [if_neg (by decide), if_pos rfl, f_X9_wayFrom_J23]
theorem c_wayFrom_k (hA : AOK A) (hC : RC T μ A) {w : Nat} (w2 : w < 12) (c : KN (aB A) 0 (Int32.ofNat w)) {y : Int32} (d : y = 0 ∨ y = 1) : ∃ r ξ, f_X9_wayFrom 0 (Int32.ofNat w) y ((mX Ξ) μ) = some (.inl (wfr r y), (mX Ξ) ξ) ∧ Fr CQ μ ξ ∧ ((r = 0 ∧ (bM (aB A) w = 12 → Nr (gE (aB A)) (bM (aB A)) w)) ∨ ∃ L pw pt, Tw (gE (aB A)) (bM (aB A)) L pw pt ∧ pw 0 = w ∧ r = Int32.ofNat (2 * L)) := by
  obtain ⟨ν, e1, f1, s1, o1⟩ := c_loaded (Ξ := Ξ) hC hA
  obtain ⟨r, ξ, e2, f2, q⟩ := c_find (Ξ := Ξ) s1 o1 w2
  have fq : Fr CQ μ ξ := (f1.mono fun _ _ z => z.Q).trans (f2.mono fun _ _ z => z.Q)
  exact ⟨r, ξ, (c_wayFrom_a hA hC c d).trans (c_wayFrom_28 e1 e2), fq, q.imp id fun ⟨L, pw, pt, a, b, c, _⟩ => ⟨L, pw, pt, a, b, c⟩⟩
end O9
