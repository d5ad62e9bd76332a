/-! THE LAW: its loop; GOAL -/
theorem sc_k {S : List Int32} {a : Nat} (ha : a < S.length) (hS : S.length ≤ 3072) : sc S (Int32.ofNat a) = some (S.getD a 0) := by
  have e1 : (Int32.ofNat a).toInt = (a : Int) := Int32.toInt_ofNat_of_lt (by omega)
  have e2 : (Int32.ofNat a).toNatClampNeg = a := by
    show (Int32.ofNat a).toInt.toNat = a
    rw [e1]; rfl
  have h : ain (Int32.ofNat a) S.length := ⟨by rw [oN_l0 (by omega)]; exact id, by rw [e2]; exact ha⟩
  unfold sc
  rw [if_pos h, e2]
set_option maxRecDepth 100000 in
theorem neg6 : ∀ L, L < 6 → (Int32.ofNat L - 6) < 0 := by decide
theorem loop_c {a L : Nat} (ha : a < 10000) (hL : L ≤ 3072) : (Int32.ofNat a > Int32.ofNat L - 6) = (L < a + 6) := by
  by_cases c : L < 6
  · have h := neg6 L c
    refine propext ⟨fun _ => by omega, fun _ => ?_⟩
    have n : ¬ Int32.ofNat a < 0 := by rw [oN_l0 (by omega)]; exact id
    exact Int32.lt_of_lt_of_le h (Int32.not_lt.mp n)
  · rw [show (6 : Int32) = Int32.ofNat 6 from rfl, oN_sub (by omega), oN_gt (by omega) (by omega)]
    exact propext ⟨fun _ => by omega, fun _ => by omega⟩
theorem law_loop {S : List Int32} (hS : S.length ≤ 3072) : ∀ (d j : Nat) (μ : MM), RR TT μ → S.length < 6 * (j + d) + 6 → j + d ≤ 600 → ∃ ξ e, e ≤ d ∧ RR TT ξ ∧ ∀ f ex, f_L_L23 S 0 168 532 (d + 1 + f) (Int32.ofNat (6 * j)) (mem μ) ex = some (1, mem ξ, ex + e)
  | 0, j, μ, h, hl, hj => by
    have c := (loop_c (a := 6 * j) (by omega) hS).trans (eq_true (show S.length < 6 * j + 6 by omega))
    refine ⟨μ, 0, Nat.le_refl _, h, fun f ex => ?_⟩
    rw [show 0 + 1 + f = f + 1 by omega]
    simp only [f_L_L23, c, ↓reduceIte, Nat.add_zero]
  | d + 1, j, μ, h, hl, hj => by
    by_cases z : S.length < 6 * j + 6
    · have c := (loop_c (a := 6 * j) (by omega) hS).trans (eq_true z)
      refine ⟨μ, 0, Nat.zero_le _, h, fun f ex => ?_⟩
      rw [show d + 1 + 1 + f = d + 1 + f + 1 by omega]
      simp only [f_L_L23, c, ↓reduceIte, Nat.add_zero]
    · have c := (loop_c (a := 6 * j) (by omega) hS).trans (eq_false z)
      have at' : ∀ k, k < 6 → sc S (Int32.ofNat (6 * j) + Int32.ofNat k) = some (S.getD (6 * j + k) 0) := fun k hk => by
        rw [oN_add]; exact sc_k (by omega) hS
      have hs : SC S (Int32.ofNat (6 * j)) (fun k => S.getD (6 * j + k) 0) := ⟨at' 1 (by omega), at' 2 (by omega), at' 3 (by omega), at' 4 (by omega), at' 5 (by omega)⟩
      have s0 : sc S (Int32.ofNat (6 * j)) = some (S.getD (6 * j) 0) := sc_k (by omega) hS
      obtain ⟨ν, e, e1, r, q⟩ := lc_any h hs (S.getD (6 * j) 0 &&& 63)
      obtain ⟨ξ, e', e1', r', q'⟩ := law_loop hS d (j + 1) ν r (by omega) (by omega)
      have e6 : Int32.ofNat (6 * j) + 6 = Int32.ofNat (6 * (j + 1)) := by
        rw [show (6 : Int32) = Int32.ofNat 6 from rfl, oN_add]; congr 1
      refine ⟨ξ, e + e', by omega, r', fun f ex => ?_⟩
      have q := q (fun i h ex => f_L_L23 S 0 168 532 (d + 1 + f) (i + 6) h ex) ex
      have q : f_L_S S 0 168 532 (fun i h ex => f_L_L23 S 0 168 532 (d + 1 + f) (i + 6) h ex) (S.getD (6 * j) 0 &&& 63) (Int32.ofNat (6 * j)) (mem μ) ex = f_L_L23 S 0 168 532 (d + 1 + f) (Int32.ofNat (6 * j) + 6) (mem ν) (ex + e) := q
      rw [e6, q' f (ex + e)] at q
      rw [show d + 1 + 1 + f = d + 1 + f + 1 by omega, ← Nat.add_assoc, ← q]
      simp only [f_L_L23, c, ↓reduceIte, ↓hbind s0]
/-! the beginning -/
theorem pr_Fr {μ : MM} {p : Nat} : Fr (fun q _ => q = p + 1 ∨ q = p + 2) μ (prM μ p) := fun q i h => ⟨by
  unfold prM
  rw [rwn_ne (fun z => h (Or.inr z)), rwn_ne (fun z => h (Or.inl z))], rfl⟩
theorem hs_Fr {μ : MM} {n : Nat} : ∀ k : Nat, Fr (fun q _ => n ≤ q ∧ q < n + 2 + 8 * k) μ (hsM μ n k)
  | 0 => ((Fr.refl (fun q _ => n ≤ q ∧ q < n + 2 + 8 * 0) μ).st (by omega)).st (by omega)
  | k + 1 => by
    have a := hs_Fr (μ := μ) (n := n) k
    have b := pr_Fr (μ := hsM μ n k) (p := n + 2 + 8 * k + 5)
    have c := (bg_BC (μ := prM (hsM μ n k) (n + 2 + 8 * k + 5)) (b := n + 2 + 8 * k) (N := 1) (M := 1)).2
    exact ((a.mono fun q i z => by omega).trans (b.mono fun q i z => by omega)).trans (c.mono fun q i z => by unfold FB at z; omega)
theorem hs_1 {μ : MM} {n : Nat} : ∀ k : Nat, (hsM μ n k).1 n 1 = 0 ∧ (hsM μ n k).1 n 2 = 0
  | 0 => ⟨by show (st (st μ n 1 0) n 2 0).1 n 1 = 0; rw [st_ne (Or.inr (by omega)), st_same], by show (st (st μ n 1 0) n 2 0).1 n 2 = 0; rw [st_same]⟩
  | k + 1 => by
    have a := hs_1 (μ := μ) (n := n) k
    have b := pr_Fr (μ := hsM μ n k) (p := n + 2 + 8 * k + 5)
    have c := (bg_BC (μ := prM (hsM μ n k) (n + 2 + 8 * k + 5)) (b := n + 2 + 8 * k) (N := 1) (M := 1)).2
    have e : ∀ i, (hsM μ n (k + 1)).1 n i = (hsM μ n k).1 n i := fun i => ((c n i (by unfold FB; omega)).1).trans ((b n i (by omega)).1)
    exact ⟨(e 1).trans a.1, (e 2).trans a.2⟩
/-- the ints behind the class's constructor -/
theorem m9_facts : BC mu9 1 (nB 1 1) ∧ mu9.1 17 1 = 0 ∧ mu9.1 17 2 = 0 ∧ mu9.1 139 1 = 0 ∧ mu9.1 139 2 = -1 ∧ mu9.1 0 9 = 0 ∧ mu9.1 0 10 = 0 ∧ mu9.1 0 11 = 0 := by
  obtain ⟨b1, -⟩ := bg_BC (μ := prM (M9_0 mu00) (1 + 5)) (b := 1) (N := 1) (M := 1)
  have b1 : BC (M9_1 mu00) 1 (nB 1 1) := b1
  have f2 : Fr (fun q _ => 9 ≤ q ∧ q < 17) (M9_1 mu00) (M9_2 mu00) := (pr_Fr.mono fun q i z => by omega).trans ((bg_BC (μ := prM (M9_1 mu00) (9 + 5)) (b := 9) (N := 1) (M := 1)).2.mono fun q i z => by unfold FB at z; omega)
  have f3 : Fr (fun q _ => 17 ≤ q ∧ q < 139) (M9_2 mu00) (M9_3 mu00) := (hs_Fr (n := 17) 15).mono fun q i z => by omega
  have h3 := hs_1 (μ := M9_2 mu00) (n := 17) 15
  have h3 : (M9_3 mu00).1 17 1 = 0 ∧ (M9_3 mu00).1 17 2 = 0 := h3
  obtain ⟨ν, hν⟩ : ∃ x, x = M9_3 mu00 := ⟨_, rfl⟩
  have f4 : Fr (fun q _ => 139 ≤ q) ν (M9_4 mu00) := by
    show Fr _ ν (x6M (M9_3 mu00) 139)
    rw [← hν]
    unfold x6M
    exact (((((((Fr.refl (fun q _ => 139 ≤ q) ν).st (by omega)).st (by omega)).st (by omega)).st (by omega)).st (by omega)).st (by omega)).st (by omega)
  have v1 : (M9_4 mu00).1 139 1 = 0 := by
    show (x6M (M9_3 mu00) 139).1 139 1 = 0
    rw [← hν]
    unfold x6M
    rw [st_ne (Or.inr (by omega)), st_ne (Or.inr (by omega)), st_ne (Or.inr (by omega)), st_ne (Or.inr (by omega)), st_ne (Or.inr (by omega)), st_ne (Or.inr (by omega)), st_same]
  have v2 : (M9_4 mu00).1 139 2 = -1 := by
    show (x6M (M9_3 mu00) 139).1 139 2 = -1
    rw [← hν]
    unfold x6M
    rw [st_ne (Or.inr (by omega)), st_ne (Or.inr (by omega)), st_ne (Or.inr (by omega)), st_ne (Or.inr (by omega)), st_ne (Or.inr (by omega)), st_same]
  obtain ⟨ζ, hζ⟩ : ∃ x, x = M9_4 mu00 := ⟨_, rfl⟩
  rw [← hν] at f3 h3
  rw [← hζ] at f4 v1 v2
  have f5 : Fr (fun q _ => 141 ≤ q) ζ (M9_9 mu00) := by
    show Fr _ ζ (x1M (x8M (x4M (x5M (x7M (M9_4 mu00) 141) 149) 151) 156) 162)
    rw [← hζ]
    unfold x1M x8M x4M x5M x7M
    exact (((((((((((((((((((pr_Fr (μ := ζ) (p := 141 + 1)).mono (P := fun q _ => q = 141 + 1 + 1 ∨ q = 141 + 1 + 2) (P' := fun q _ => 141 ≤ q) fun q i z => by omega).st (by omega)).st (by omega)).st (by omega)).st (by omega)).st (by omega)).st (by omega)).st (by omega)).st (by omega)).st (by omega)).st (by omega)).st (by omega)).st (by omega)).st (by omega)).st (by omega)).sj (by omega)).sj (by omega)).st (by omega)).st (by omega)
  obtain ⟨η, hη⟩ : ∃ x, x = M9_9 mu00 := ⟨_, rfl⟩
  rw [← hη] at f5
  have f6 : Fr (fun q _ => q = 0) η mu9 := by
    show Fr _ η (st (st (st (M9_9 mu00) 0 9 0) 0 10 0) 0 11 0)
    rw [← hη]
    exact (((Fr.refl (fun q _ => q = 0) η).st rfl).st rfl).st rfl
  have w : mu9 = st (st (st η 0 9 0) 0 10 0) 0 11 0 := by rw [hη]; rfl
  refine ⟨?_, ?_, ?_, ?_, ?_, ?_, ?_, ?_⟩
  · have a := b1.fr f2 fun q i a b z => by omega
    have a := a.fr f3 fun q i a b z => by omega
    have a := a.fr f4 fun q i a b z => by omega
    have a := a.fr f5 fun q i a b z => by omega
    exact a.fr f6 fun q i a b z => by omega
  · rw [(f6 _ _ (by omega)).1, (f5 _ _ (by omega)).1, (f4 _ _ (by omega)).1]; exact h3.1
  · rw [(f6 _ _ (by omega)).1, (f5 _ _ (by omega)).1, (f4 _ _ (by omega)).1]; exact h3.2
  · rw [(f6 _ _ (by omega)).1, (f5 _ _ (by omega)).1]; exact v1
  · rw [(f6 _ _ (by omega)).1, (f5 _ _ (by omega)).1]; exact v2
  · rw [w, st_ne (Or.inr (by omega)), st_ne (Or.inr (by omega)), st_same]
  · rw [w, st_ne (Or.inr (by omega)), st_same]
  · rw [w, st_same]
theorem RR_mu0 : RR TT mu0 := by
  obtain ⟨h1, h2, h3, h4, h5, h6, h7, h8⟩ := m9_facts
  have z9 := mu9_Z
  obtain ⟨ν, hν⟩ : ∃ x, x = mu9 := ⟨_, rfl⟩
  have e0 : mu0 = mbM (st ν 168 5 (-1)) 0 1 1 := by rw [hν]; rfl
  rw [← hν] at h1 h2 h3 h4 h5 h6 h7 h8 z9
  obtain ⟨m1, f1⟩ := mb_MR (μ := st ν 168 5 (-1)) (r := 0) (N := 1) (M := 1) (by omega)
  obtain ⟨ξ, hξ⟩ : ∃ x, x = mbM (st ν 168 5 (-1)) 0 (Int32.ofNat 1) (Int32.ofNat 1) := ⟨_, rfl⟩
  have e1 : mu0 = ξ := by rw [e0, hξ]; rfl
  rw [← hξ] at m1 f1
  rw [e1]
  have f0 : Fr (fun q i => q = 168 ∧ i = 5) ν (st ν 168 5 (-1)) := (Fr.refl _ _).st ⟨rfl, rfl⟩
  have ff : Fr (fun q i => (q = 168 ∧ i = 5) ∨ FR 0 q i) ν ξ := (f0.mono fun q i z => Or.inl z).trans (f1.mono fun q i z => Or.inr z)
  have g : ∀ q i, ¬ ((q = 168 ∧ i = 5) ∨ FR 0 q i) → ξ.1 q i = ν.1 q i := fun q i z => (ff q i z).1
  have hB : BOK (nB 1 1) := nB_ok (by omega) (by omega) (by omega) (by omega)
  refine ⟨mkA (nB 1 1) [] 0 (fun _ => 0) (-1) 0 0, ⟨hB, fun C hC => (by cases hC), Nat.zero_le _, fun k => by show 0 < 256; omega⟩, ⟨?_, ⟨0, by omega, ?_, ?_, Nat.zero_le _, fun j B hj => (by cases hj)⟩, ⟨?_, fun k hk => absurd hk (Nat.not_lt_zero _)⟩, ?_, ?_, ?_, Or.inl ?_⟩, ⟨m1, ⟨?_, Nat.zero_le _, fun j B hj => (by cases hj)⟩, ⟨?_, fun k hk => absurd hk (Nat.not_lt_zero _)⟩, ?_, ?_, ?_⟩⟩
  · exact h1.fr ff fun q i a b z => by unfold FR at z; omega
  · rw [g _ _ (by unfold FR; omega)]; exact h2
  · rw [g _ _ (by unfold FR; omega)]; exact h3
  · rw [g _ _ (by unfold FR; omega)]; exact h4
  · rw [g _ _ (by unfold FR; omega)]; exact h5
  · rw [g _ _ (by unfold FR; omega)]; exact h7
  · rw [g _ _ (by unfold FR; omega)]; exact h8
  · rw [g _ _ (by unfold FR; omega)]; exact h6
  · rw [g _ _ (by unfold FR; omega)]; exact (z9 168 (by omega) 14).1
  · rw [g _ _ (by unfold FR; omega)]; exact (z9 168 (by omega) 2).1
  · rw [(f1 _ _ (by unfold FR; omega)).1]; exact st_same _ _ _ _
  · rw [g _ _ (by unfold FR; omega)]; exact (z9 169 (by omega) 0).1
  · rw [g _ _ (by unfold FR; omega)]; exact (z9 169 (by omega) 1).1
theorem szs_memF {μ : MM} : ∀ (h : xH) (o : Nat), szs (memF μ o h) = szs h
  | [], _ => rfl
  | c :: t, o => by
    show (memV μ o 0 c.2).length + szs (memF μ (o + 1) t) = c.2.length + szs t
    rw [memV_len, szs_memF t (o + 1)]
theorem shI_szs : shI.length ≤ 600000 ∧ szs shI ≤ 7000000 := by decide +kernel
theorem goal : Goal := by
  intro S hS
  obtain ⟨ξ, e, e1, -, q⟩ := law_loop hS 512 0 mu0 RR_mu0 (by omega) (by omega)
  have q := q 4487 0
  rw [Nat.zero_add] at q
  have q : f_L_L23 S 0 168 532 5000 0 (mem mu0) 0 = some (1, mem ξ, e) := q
  obtain ⟨s1, s2⟩ := shI_szs
  have l : (mem ξ).length = shI.length := mS_len shI ξ
  have z : szs (mem ξ) = szs shI := szs_memF shI 0
  exact ⟨mem ξ, e, (f_law_start S).trans q, by omega, by omega⟩
theorem i_vc : Claimed_1_1 ∧ Claimed_1_2 := i_vc_of goal
