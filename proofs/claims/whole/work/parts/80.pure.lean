/-! ===== the law's walk: the answers are the same on every script ===== -/
theorem pure_loop {L : Nat} (hL : L ≤ 320) (xs : Nat → Int32) : ∀ (n i : Nat) (σ μ : St), IV σ μ → i ≤ L → L < i + 5 * n → ∃ σ0, fL n L xs (nI i) σ μ = some (1, σ0) := by
  intro n
  induction n with
  | zero =>
    intro i σ μ _ h1 h2
    omega
  | succ n ih =>
    intro i σ μ h h1 h2
    rw [fL]
    have hc : (Int32.ofNat L - 5 < nI i) ↔ L < i + 5 := by
      have e1 : (nI L - nI 5).toInt = (L : Int) - (5 : Nat) := pk_sub_toInt (by omega) (by omega)
      have e2 : (nI i).toInt = (i : Int) := nI_toInt (by omega)
      show (nI L - nI 5 < nI i) ↔ L < i + 5
      rw [Int32.lt_iff_toInt_lt, e1, e2]
      omega
    by_cases hi : L < i + 5
    · exact ⟨σ, if_pos (hc.mpr hi)⟩
    · rw [if_neg (fun q => hi (hc.mp q))]
      have nx : ∀ σ1 μ1, IV σ1 μ1 → ∃ σ0, fL n L xs (nI (i + 5)) σ1 μ1 = some (1, σ0) := fun σ1 μ1 q => ih (i + 5) σ1 μ1 q (by omega) (by omega)
      have a1 : nI i + 1 = nI (i + 1) := addN i 1
      have a2 : nI i + 2 = nI (i + 2) := addN i 2
      have a3 : nI i + 3 = nI (i + 3) := addN i 3
      have a4 : nI i + 4 = nI (i + 4) := addN i 4
      have a5 : nI i + 5 = nI (i + 5) := addN i 5
      have l0 : ∀ k : Int32 → Option (Int32 × St), ld xs L (nI i) k = k (xs i) := fun k => ld_in (by omega) (by omega)
      have l1 : ∀ k : Int32 → Option (Int32 × St), ld xs L (nI (i + 1)) k = k (xs (i + 1)) := fun k => ld_in (by omega) (by omega)
      have l2 : ∀ k : Int32 → Option (Int32 × St), ld xs L (nI (i + 2)) k = k (xs (i + 2)) := fun k => ld_in (by omega) (by omega)
      have l3 : ∀ k : Int32 → Option (Int32 × St), ld xs L (nI (i + 3)) k = k (xs (i + 3)) := fun k => ld_in (by omega) (by omega)
      have l4 : ∀ k : Int32 → Option (Int32 × St), ld xs L (nI (i + 4)) k = k (xs (i + 4)) := fun k => ld_in (by omega) (by omega)
      simp only [a1, a2, a3, a4, a5, l0, l1, l2, l3, l4, nm_def]
      generalize xs i &&& 15 = v
      by_cases h0 : v = 0
      · rw [if_pos h0]
        by_cases hz : xs (i + 2) = 0
        · simp only [if_pos hz]
          obtain ⟨a, σ1, μ1, e1, e2, hI⟩ := op_open (e := 0) (xs (i + 1)) (xs (i + 3)) (xs (i + 4)) (by decide) h
          have e1 : fX9_open σ (xs (i + 1)) 0 (xs (i + 3)) (xs (i + 4)) = some (a, σ1) := e1
          have e2 : fX10_open μ (xs (i + 1)) 0 (xs (i + 3)) (xs (i + 4)) = some (a, μ1) := e2
          rw [e1, bd_some, e2, bd_some, if_pos rfl]
          exact nx σ1 μ1 hI
        · simp only [if_neg hz]
          obtain ⟨a, σ1, μ1, e1, e2, hI⟩ := op_open (e := 1) (xs (i + 1)) (xs (i + 3)) (xs (i + 4)) (by decide) h
          have e1 : fX9_open σ (xs (i + 1)) 1 (xs (i + 3)) (xs (i + 4)) = some (a, σ1) := e1
          have e2 : fX10_open μ (xs (i + 1)) 1 (xs (i + 3)) (xs (i + 4)) = some (a, μ1) := e2
          rw [e1, bd_some, e2, bd_some, if_pos rfl]
          exact nx σ1 μ1 hI
      rw [if_neg h0]
      by_cases h1 : v = 1
      · rw [if_pos h1]
        obtain ⟨a, σ1, μ1, e1, e2, hI⟩ := op_map (xs (i + 1)) (xs (i + 2)) h
        rw [e1, bd_some, e2, bd_some, if_pos rfl]
        exact nx σ1 μ1 hI
      rw [if_neg h1]
      by_cases h2 : v = 2
      · rw [if_pos h2]
        obtain ⟨a, σ1, μ1, e1, e2, hI⟩ := op_give (xs (i + 1)) h
        rw [e1, bd_some, e2, bd_some, if_pos rfl]
        exact nx σ1 μ1 hI
      rw [if_neg h2]
      by_cases h3 : v = 3
      · rw [if_pos h3]
        obtain ⟨a, σ1, μ1, e1, e2, hI⟩ := op_room (xs (i + 1)) h
        rw [e1, bd_some, e2, bd_some, if_pos rfl]
        exact nx σ1 μ1 hI
      rw [if_neg h3]
      by_cases h4 : v = 4
      · rw [if_pos h4]
        by_cases hz : xs (i + 1) = 0
        · simp only [if_pos hz]
          obtain ⟨a, σ1, μ1, e1, e2, hI⟩ := op_code (e := 0) (by decide) h
          have e1 : fX9_code σ 0 = some (a, σ1) := e1
          have e2 : fX10_code μ 0 = some (a, μ1) := e2
          rw [e1, bd_some, e2, bd_some, if_pos rfl]
          exact nx σ1 μ1 hI
        · simp only [if_neg hz]
          obtain ⟨a, σ1, μ1, e1, e2, hI⟩ := op_code (e := 1) (by decide) h
          have e1 : fX9_code σ 1 = some (a, σ1) := e1
          have e2 : fX10_code μ 1 = some (a, μ1) := e2
          rw [e1, bd_some, e2, bd_some, if_pos rfl]
          exact nx σ1 μ1 hI
      rw [if_neg h4]
      by_cases h5 : v = 5
      · rw [if_pos h5]
        obtain ⟨a, σ1, μ1, e1, e2, hI⟩ := op_flush h
        rw [e1, bd_some, e2, bd_some, if_pos rfl]
        exact nx σ1 μ1 hI
      rw [if_neg h5]
      by_cases h6 : v = 6
      · rw [if_pos h6]
        obtain ⟨a, σ1, μ1, e1, e2, hI⟩ := op_reset h
        rw [e1, bd_some, e2, bd_some, if_pos rfl]
        exact nx σ1 μ1 hI
      rw [if_neg h6]
      by_cases h7 : v = 7
      · rw [if_pos h7]
        obtain ⟨a, σ1, μ1, e1, e2, hI⟩ := op_pass h
        rw [e1, bd_some, e2, bd_some, if_pos rfl]
        exact nx σ1 μ1 hI
      rw [if_neg h7]
      by_cases h8 : v = 8
      · rw [if_pos h8]
        obtain ⟨a, σ1, μ1, e1, e2, hI⟩ := op_fetch h
        rw [e1, bd_some, e2, bd_some, if_pos rfl]
        exact nx σ1 μ1 hI
      rw [if_neg h8]
      by_cases h9 : v = 9
      · rw [if_pos h9]
        obtain ⟨a, σ1, μ1, e1, e2, hI⟩ := op_state h
        rw [e1, bd_some, e2, bd_some, if_pos rfl]
        exact nx σ1 μ1 hI
      rw [if_neg h9]
      by_cases h10 : v = 10
      · rw [if_pos h10]
        obtain ⟨a, σ1, μ1, e1, e2, hI⟩ := op_waiting h
        rw [e1, bd_some, e2, bd_some, if_pos rfl]
        exact nx σ1 μ1 hI
      rw [if_neg h10]
      by_cases h11 : v = 11
      · rw [if_pos h11]
        obtain ⟨a, σ1, μ1, e1, e2, hI⟩ := op_ready h
        rw [e1, bd_some, e2, bd_some, if_pos rfl]
        exact nx σ1 μ1 hI
      rw [if_neg h11]
      by_cases h12 : v = 12
      · rw [if_pos h12]
        obtain ⟨a, σ1, μ1, e1, e2, hI⟩ := op_taken h
        rw [e1, bd_some, e2, bd_some, if_pos rfl]
        exact nx σ1 μ1 hI
      rw [if_neg h12]
      by_cases h13 : v = 13
      · rw [if_pos h13]
        obtain ⟨a, σ1, μ1, e1, e2, hI⟩ := op_put h
        rw [e1, bd_some, e2, bd_some, if_pos rfl]
        exact nx σ1 μ1 hI
      rw [if_neg h13]
      by_cases h14 : v = 14
      · rw [if_pos h14]
        obtain ⟨a, σ1, μ1, e1, e2, hI⟩ := op_faults h
        rw [e1, bd_some, e2, bd_some, if_pos rfl]
        exact nx σ1 μ1 hI
      rw [if_neg h14]
      exact nx σ μ h
theorem iv_start {g1 g2 : Nat → Int32} (h1 : ∀ k, k < 128 → g1 k = -1) (h2 : ∀ k, k < 128 → g2 k = -1) : IV (initC g1) (initM g2) := by
  refine Or.inr ⟨16, fun _ => 0, ⟨rfl, rfl, rfl, rfl, rfl, ?_, ⟨rfl, fun i h => absurd h (Nat.not_lt_zero i)⟩, ⟨rfl, fun i h => absurd h (Nat.not_lt_zero i)⟩, rfl, rfl, fun i h => absurd h (Nat.not_lt_zero i), Nat.zero_le _, Nat.zero_le _, Nat.le_refl _⟩, ⟨rfl, rfl, rfl, rfl, rfl, rfl, rfl, rfl⟩, rfl, rfl, rfl, rfl⟩
  intro i hi
  have e1 : initC g1 2 i = -nI 1 := h1 i hi
  have e2 : initM g2 1 i = -nI 1 := h2 i hi
  rw [e1, e2]
  exact ⟨rfl, Or.inl rfl⟩
theorem pure_main {L : Nat} (hL : L ≤ 320) (xs : Nat → Int32) (g1 g2 : Nat → Int32) (h1 : ∀ k, k < 128 → g1 k = -1) (h2 : ∀ k, k < 128 → g2 k = -1) : ∃ σ0, fL 70 L xs 0 (initC g1) (initM g2) = some (1, σ0) := pure_loop hL xs 70 0 _ _ (iv_start h1 h2) (Nat.zero_le L) (by omega)
