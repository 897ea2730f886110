/-! ===== open, reset, map, give ===== -/
theorem c_begin {σ : St} {s : Nat} (h5 : σ 0 5 = nI s) (hs : s ≤ 6) (hK : RK σ) : ∃ σ1, fv_begin σ = some (nI 0, σ1) ∧ (2 ≤ s → s ≤ 4 → σ1 (s + 10) 2 = nI 1 ∧ σ1 (s + 10) 3 = nI (if s = 4 then 1 else 0) ∧ σ1 (s + 10) 4 = nI (if s = 4 then 1 else 0)) ∧ (s = 5 → ∀ k, k < 4 → σ1 16 k = nI 0) ∧ ∀ i k, i ≠ 16 → ¬ (12 ≤ i ∧ i ≤ 14 ∧ 2 ≤ k ∧ k ≤ 4) → σ1 i k = σ i k := by
  unfold fv_begin
  rw [h5]
  rcases (show s = 0 ∨ s = 1 ∨ s = 5 ∨ s = 6 ∨ (2 ≤ s ∧ s ≤ 4) by omega) with h | h | h | h | h
  · subst h
    exact ⟨σ, rfl, fun q => by omega, fun q => by omega, fun _ _ _ _ => rfl⟩
  · subst h
    refine ⟨σ, ?_, fun q => by omega, fun q => by omega, fun _ _ _ _ => rfl⟩
    simp (disch := omega) only [lit, eqT, eqF, if_true, if_false, fX0_begin]
  · subst h
    obtain ⟨σ1, e1, e2, e3⟩ := c_plain 16 σ
    refine ⟨σ1, ?_, fun _ q => by omega, fun _ => e2, fun i k a b => by rw [e3 i a]⟩
    unfold fX7_begin
    simp (disch := omega) only [lit, eqT, eqF, if_true, if_false, e1, bd_some]
  · subst h
    refine ⟨σ, ?_, fun _ q => by omega, fun q => by omega, fun _ _ _ _ => rfl⟩
    simp (disch := omega) only [lit, eqT, eqF, if_true, if_false, fX0_begin]
  · have hl : σ (s + 10) 1 = nI (if s = 4 then 1 else 0) := by
      obtain ⟨-, -, -, -, -, k12, k13, k14⟩ := hK
      rcases (show s = 2 ∨ s = 3 ∨ s = 4 by omega) with e | e | e
      · subst e; exact k12
      · subst e; exact k13
      · subst e; exact k14
    have hx : (if s = 4 then 1 else 0 : Nat) ≤ 1 := by split <;> omega
    generalize (if s = 4 then 1 else 0 : Nat) = lt at hl hx ⊢
    obtain ⟨σ1, h1⟩ : ∃ z, z = up (up (up σ (s + 10) 2 (nI 1)) (s + 10) 3 (nI lt)) (s + 10) 4 (nI lt) := ⟨_, rfl⟩
    have key : fX6_begin (s + 10) σ = some (nI 0, σ1) := by
      unfold fX6_begin
      simp only [lit]
      rw [nm_def, up_e2 (by decide), hl, zkN hx, nm_def, up_e2 (by decide), up_e2 (by decide), hl, zkN hx, nm_def, ← h1]
    refine ⟨σ1, ?_, fun _ _ => ⟨?_, ?_, ?_⟩, fun q => by omega, ?_⟩
    · rcases (show s = 2 ∨ s = 3 ∨ s = 4 by omega) with e | e | e
      · subst e
        simp (disch := omega) only [lit, eqT, eqF, if_true, if_false]
        exact key
      · subst e
        simp (disch := omega) only [lit, eqT, eqF, if_true, if_false]
        exact key
      · subst e
        simp (disch := omega) only [lit, eqT, eqF, if_true, if_false]
        exact key
    · rw [h1, up_e2 (by decide), up_e2 (by decide), up_eq]
    · rw [h1, up_e2 (by decide), up_eq]
    · rw [h1, up_eq]
    · intro i k a b
      rw [h1]
      by_cases e : i = s + 10
      · rw [e, up_e2 (by omega), up_e2 (by omega), up_e2 (by omega)]
      · rw [up_ne e, up_ne e, up_ne e]
theorem r_renew (μ : St) : ∃ μ1, fX10_renew μ = some (nI 0, μ1) ∧ (μ1 0 7 = nI 0 ∧ μ1 0 15 = nI 0 ∧ μ1 0 16 = nI 0 ∧ μ1 0 17 = nI 0 ∧ μ1 0 18 = nI 0 ∧ μ1 0 19 = nI 0 ∧ μ1 0 20 = nI 0 ∧ μ1 0 21 = nI 0 ∧ μ1 0 22 = nI 0) ∧ ∀ i k, ¬ (i = 0 ∧ (k = 7 ∨ (15 ≤ k ∧ k ≤ 22))) → μ1 i k = μ i k := by
  obtain ⟨μ1, h1⟩ : ∃ z, z = up (up (up (up (up (up (up (up (up μ 0 7 (nI 0)) 0 15 (nI 0)) 0 16 (nI 0)) 0 17 (nI 0)) 0 18 (nI 0)) 0 19 (nI 0)) 0 20 (nI 0)) 0 21 (nI 0)) 0 22 (nI 0) := ⟨_, rfl⟩
  refine ⟨μ1, ?_, ⟨?_, ?_, ?_, ?_, ?_, ?_, ?_, ?_, ?_⟩, ?_⟩
  · unfold fX10_renew
    simp only [lit, nm_def, ← h1]
  · rw [h1]; simp (disch := omega) only [up_e2, up_eq]
  · rw [h1]; simp (disch := omega) only [up_e2, up_eq]
  · rw [h1]; simp (disch := omega) only [up_e2, up_eq]
  · rw [h1]; simp (disch := omega) only [up_e2, up_eq]
  · rw [h1]; simp (disch := omega) only [up_e2, up_eq]
  · rw [h1]; simp (disch := omega) only [up_e2, up_eq]
  · rw [h1]; simp (disch := omega) only [up_e2, up_eq]
  · rw [h1]; simp (disch := omega) only [up_e2, up_eq]
  · rw [h1]; simp (disch := omega) only [up_eq]
  · intro i k h
    rw [h1]
    by_cases e : i = 0
    · subst e
      simp (disch := omega) only [up_e2]
    · simp (disch := omega) only [up_ne]
theorem fresh_ok {σ μ : St} {s en ba ua n r rm : Nat} {W : Nat → Nat} (hA : RA σ μ n r rm W) (hK : RK σ) (hB : RB σ μ s en ba ua) (hW : RW en n W) : ∃ σ1 μ1, fX9_startAfresh σ = some (nI 0, σ1) ∧ fX10_renew μ = some (nI 0, μ1) ∧ RQ σ1 μ1 s en ba ua n r rm W ∧ RP σ1 μ1 s en n 0 0 := by
  obtain ⟨σa, ha⟩ : ∃ z, z = up (up σ 0 6 (nI 0)) 0 14 (nI 0) := ⟨_, rfl⟩
  have fa : ∀ i k, ¬ (i = 0 ∧ (k = 6 ∨ k = 14)) → σa i k = σ i k := fun i k h => by rw [ha, up_fr _ _ _ _ _ (fun q => h ⟨q.1, Or.inr q.2⟩), up_fr _ _ _ _ _ (fun q => h ⟨q.1, Or.inl q.2⟩)]
  have hKa : RK σa := hK.fr (fun i k k1 k2 k3 => fa i k (by omega))
  obtain ⟨σ1, e1, b1, b2, b3⟩ := c_begin (σ := σa) (by rw [fa 0 5 (by decide)]; exact hB.1) hB.2.2.1 hKa
  obtain ⟨μ1, e2, ⟨m7, m15, m16, m17, m18, m19, m20, m21, m22⟩, fm⟩ := r_renew μ
  have f8 : ∀ i k, i ≠ 16 → ¬ (12 ≤ i ∧ i ≤ 14 ∧ 2 ≤ k ∧ k ≤ 4) → ¬ (i = 0 ∧ (k = 6 ∨ k = 14)) → σ1 i k = σ i k := fun i k h1 h2 h3 => (b3 i k h1 h2).trans (fa i k h3)
  obtain ⟨a1, a2, a3, a4, a5, a6, a7, a8, a9, a10, a11, a12, a13, a14⟩ := hA
  refine ⟨σ1, μ1, ?_, e2, ⟨⟨?_, ?_, ?_, ?_, ?_, ?_, ?_, ?_, ?_, ?_, ?_, a12, a13, a14⟩, ?_, ?_, ⟨0, 0, 0, 0, 0, 0, 0, 1, ⟨by decide, by decide, by decide, by decide, by decide, by decide⟩, ⟨m15, m16, m17, m18, m19, m20, m21⟩, fun _ => ⟨rfl, rfl⟩, ?_, fun _ => ⟨fun _ => rfl, fun _ => rfl⟩, ?_⟩, hW⟩, ⟨?_, m7, by decide, ?_, m22, Nat.zero_le _, fun q => absurd rfl q⟩⟩
  · unfold fX9_startAfresh
    simp only [lit, nm_def, ← ha]
    rw [e1, bd_some]
  · rw [f8 0 11 (by decide) (by decide) (by decide), fm 0 12 (by decide)]; exact a1
  · rw [f8 0 12 (by decide) (by decide) (by decide), fm 0 13 (by decide)]; exact a2
  · rw [f8 0 13 (by decide) (by decide) (by decide), fm 0 14 (by decide)]; exact a3
  · rw [f8 0 10 (by decide) (by decide) (by decide)]; exact a4
  · rw [fm 0 6 (by decide)]; exact a5
  · exact a6.fr (fun i => f8 2 i (by decide) (fun h => absurd h.1 (by decide)) (fun h => absurd h.1 (by decide))) (fun i => fm 1 i (fun h => absurd h.1 (by decide)))
  · exact a7.pt (f8 4 1 (by decide) (by decide) (by decide)) (fun i => f8 5 i (by decide) (fun h => absurd h.1 (by decide)) (fun h => absurd h.1 (by decide)))
  · exact a8.pt (fm 0 9 (by decide)) (fun i => fm 2 i (fun h => absurd h.1 (by decide)))
  · rw [f8 6 1 (by decide) (by decide) (by decide)]; exact a9
  · rw [fm 0 11 (by decide)]; exact a10
  · intro i hi
    rw [f8 7 i (by decide) (fun h => absurd h.1 (by decide)) (fun h => absurd h.1 (by decide)), fm 3 i (fun h => absurd h.1 (by decide))]
    exact a11 i hi
  · exact hK.fr (fun i k k1 k2 k3 => f8 i k (by omega) (by omega) (by omega))
  · exact hB.fr (fun k k1 k2 k3 => f8 0 k (by decide) (by omega) (by omega)) (fun k hk => fm 0 k (by omega))
  · intro e1 e2
    obtain ⟨q2, q3, q4⟩ := b1 e1 e2
    exact ⟨q2, q3, fun _ => ⟨rfl, q4⟩⟩
  · intro e
    have w := b2 e
    exact ⟨⟨by decide, fun _ => ⟨by decide, rfl⟩, fun _ => ⟨by decide, fun _ => rfl⟩⟩, w 0 (by decide), w 1 (by decide), w 2 (by decide), w 3 (by decide)⟩
  · rw [b3 0 6 (by decide) (by decide), ha, up_e2 (by decide), up_eq]
  · rw [b3 0 14 (by decide) (by decide), ha, up_eq]
theorem op_reset {σ μ : St} (h : IV σ μ) : Op (fX9_reset σ) (fX10_reset μ) := by
  have h0 := h
  rcases h with ⟨s, en, ba, ua, n, r, rm, ph, pd, W, ⟨hA, hK, hB, hS, hW⟩, hP⟩ | ⟨rm, W, hA, hK, h6, m0, -⟩
  · have m0 : μ 0 0 = nI 1 := hB.2.2.2.2.2.2.2.2.2.2.2.2
    obtain ⟨σ1, μ1, e1, e2, hQ1, hP1⟩ := fresh_ok hA hK hB hW
    have hm1 := m1eq ph (by have := hP.2.2.1; omega)
    refine ⟨nI 1, σ1, μ1, ?_, ?_, Or.inl ⟨s, en, ba, ua, n, r, rm, 0, 0, W, hQ1, hP1⟩⟩
    · unfold fX9_reset
      rw [hP.1]
      simp only [lit, hm1, if_false, e1, bd_some]
    · unfold fX10_reset
      rw [m0]
      simp (disch := omega) only [lit, eqF, if_false, e2, bd_some]
  · refine ⟨nI 0, σ, μ, ?_, ?_, h0⟩
    · unfold fX9_reset
      rw [h6]
      simp only [lit, if_true]
    · unfold fX10_reset
      rw [m0]
      simp (disch := omega) only [lit, eqT, if_true]
/-! numbers that are too large, and those that aren't -/
theorem big {n : Nat} (hn : n < 1073741824) {x : Int32} (h : nI (n + 1) ≤ x) : nI n < x ∧ ¬ x ≤ nI n ∧ ¬ x < nI (n + 1) := by
  have h1 := Int32.le_iff_toInt_le.mp h
  rw [nI_toInt (by omega)] at h1
  refine ⟨Int32.lt_iff_toInt_lt.mpr ?_, fun q => ?_, fun q => ?_⟩
  · rw [nI_toInt (by omega)]; omega
  · have h2 := Int32.le_iff_toInt_le.mp q
    rw [nI_toInt (by omega)] at h2
    omega
  · have h2 := Int32.lt_iff_toInt_lt.mp q
    rw [nI_toInt (by omega)] at h2
    omega
theorem c_belowT (σ : St) {j n : Nat} (hj : j < n) (hn : n < 2147483648) : fX9_isBelow σ (nI j) (nI n) = some (nI 1, σ) := by
  unfold fX9_isBelow
  simp (disch := omega) only [lit, ltF, leF, if_false]
theorem c_belowN (σ : St) {x : Int32} (n : Int32) (h : x < 0) : fX9_isBelow σ x n = some (nI 0, σ) := by
  unfold fX9_isBelow
  rw [if_pos h]
  rfl
theorem c_belowB (σ : St) {x n : Int32} (h : n ≤ x) : fX9_isBelow σ x n = some (nI 0, σ) := by
  unfold fX9_isBelow
  by_cases h1 : x < 0
  · rw [if_pos h1]; rfl
  · rw [if_neg h1, if_pos h]; rfl
theorem op_open {σ μ : St} {e : Nat} (p1 p3 p4 : Int32) (he : e ≤ 1) (h : IV σ μ) : Op (fX9_open σ p1 (nI e) p3 p4) (fX10_open μ p1 (nI e) p3 p4) := by
  have h0 := h
  have no : fX9_open σ p1 (nI e) p3 p4 = some (nI 0, σ) → fX10_open μ p1 (nI e) p3 p4 = some (nI 0, μ) → Op (fX9_open σ p1 (nI e) p3 p4) (fX10_open μ p1 (nI e) p3 p4) := fun a b => ⟨nI 0, σ, μ, a, b, h0⟩
  rcases pk_ix p1 (n := 7) (by decide) with q1 | q1 | ⟨s, hs, rfl⟩
  · refine no ?_ ?_
    · unfold fX9_open
      rw [c_belowN σ 7 q1, bd_some]
      simp (disch := omega) only [lit, eqT, if_true]
    · unfold fX10_open
      rw [if_pos q1]
      rfl
  · refine no ?_ ?_
    · unfold fX9_open
      rw [c_belowB σ (n := 7) q1, bd_some]
      simp (disch := omega) only [lit, eqT, if_true]
    · unfold fX10_open
      have := (big (n := 6) (by decide) q1).1
      by_cases h1 : p1 < 0
      · rw [if_pos h1]; rfl
      · rw [if_neg h1]
        simp only [lit, this, if_true]
  · have d1 : ∀ σ, fX9_isBelow σ (nI s) 7 = some (nI 1, σ) := fun σ => c_belowT σ hs (by decide)
    rcases pk_ix p3 (n := 3) (by decide) with q3 | q3 | ⟨ba, hba, rfl⟩
    · refine no ?_ ?_
      · unfold fX9_open
        rw [d1, bd_some]
        simp (disch := omega) only [lit, eqF, if_false]
        rw [c_belowN σ _ q3, bd_some]
        simp (disch := omega) only [eqT, if_true]
      · unfold fX10_open
        simp (disch := omega) only [lit, ltF, if_false]
        simp only [lit] at q3
        simp only [q3, if_true]
    · refine no ?_ ?_
      · unfold fX9_open
        rw [d1, bd_some]
        simp (disch := omega) only [lit, eqF, if_false]
        rw [c_belowB σ (n := nI 3) q3, bd_some]
        simp (disch := omega) only [eqT, if_true]
      · have q := (big (n := 2) (by decide) q3).1
        unfold fX10_open
        simp (disch := omega) only [lit, ltF, if_false, q, if_true, ite_self]
    · have d3 : ∀ σ, fX9_isBelow σ (nI ba) 3 = some (nI 1, σ) := fun σ => c_belowT σ hba (by decide)
      rcases pk_ix p4 (n := 3) (by decide) with q4 | q4 | ⟨ua, hua, rfl⟩
      · refine no ?_ ?_
        · unfold fX9_open
          rw [d1, bd_some]
          simp (disch := omega) only [lit, eqF, if_false]
          rw [← lit, d3, bd_some]
          simp (disch := omega) only [lit, eqF, if_false]
          rw [c_belowN σ _ q4, bd_some]
          simp (disch := omega) only [eqT, if_true]
        · unfold fX10_open
          simp (disch := omega) only [lit, ltF, if_false]
          simp only [lit] at q4
          simp only [q4, if_true]
      · refine no ?_ ?_
        · unfold fX9_open
          rw [d1, bd_some]
          simp (disch := omega) only [lit, eqF, if_false]
          rw [← lit, d3, bd_some]
          simp (disch := omega) only [lit, eqF, if_false]
          rw [c_belowB σ (n := nI 3) q4, bd_some]
          simp (disch := omega) only [eqT, if_true]
        · have q := (big (n := 2) (by decide) q4).2.1
          unfold fX10_open
          simp (disch := omega) only [lit, ltF, if_false, q, ite_self]
      · -- it is opened
        have d4 : ∀ σ, fX9_isBelow σ (nI ua) 3 = some (nI 1, σ) := fun σ => c_belowT σ hua (by decide)
        obtain ⟨n, r, rm, W, hA⟩ := h.ra
        have hK : RK σ := by
          rcases h0 with ⟨s, en, ba, ua, n, r, rm, ph, pd, W, hQ, -⟩ | ⟨rm, W, -, hK, -⟩
          · exact hQ.2.1
          · exact hK
        obtain ⟨σa, ha⟩ : ∃ z, z = up (up (up (up (up (up (up (up (up σ 0 5 (nI s)) 0 7 (nI e)) 0 8 (nI ba)) 0 9 (nI ua)) 4 1 (nI 0)) 6 1 (nI 0)) 0 11 (nI 0)) 0 12 (nI 0)) 0 13 (nI 0) := ⟨_, rfl⟩
        obtain ⟨μa, hμa⟩ : ∃ z, z = up (up (up (up (up (up (up (up (up (up μ 0 0 (nI 1)) 0 1 (nI s)) 0 2 (nI e)) 0 3 (nI ba)) 0 4 (nI ua)) 0 9 (nI 0)) 0 11 (nI 0)) 0 12 (nI 0)) 0 13 (nI 0)) 0 14 (nI 0) := ⟨_, rfl⟩
        have hAa : RA σa μa 0 0 rm W := by
          obtain ⟨a1, a2, a3, a4, a5, a6, a7, a8, a9, a10, a11, a12, a13, a14⟩ := hA
          rw [ha, hμa]
          refine ⟨?_, ?_, ?_, ?_, ?_, ?_, ⟨?_, fun i h => absurd h (Nat.not_lt_zero i)⟩, ⟨?_, fun i h => absurd h (Nat.not_lt_zero i)⟩, ?_, ?_, fun i h => absurd h (Nat.not_lt_zero i), Nat.zero_le _, Nat.zero_le _, a14⟩
          · simp (disch := omega) only [up_e2, up_eq]
          · simp (disch := omega) only [up_e2, up_eq]
          · simp (disch := omega) only [up_e2, up_eq]
          · simp (disch := omega) only [up_e2, up_ne]; exact a4
          · simp (disch := omega) only [up_e2]; exact a5
          · refine a6.fr (fun i => ?_) (fun i => ?_)
            · simp (disch := omega) only [up_ne]
            · simp (disch := omega) only [up_ne]
          · simp (disch := omega) only [up_ne, up_eq]
          · simp (disch := omega) only [up_e2, up_eq]
          · simp (disch := omega) only [up_ne, up_eq]
          · simp (disch := omega) only [up_e2, up_eq]
        have hKa : RK σa := by
          refine hK.fr (fun i k k1 k2 k3 => ?_)
          rw [ha]
          simp (disch := omega) only [up_ne]
        have hBa : RB σa μa s e ba ua := by
          rw [ha, hμa]
          refine ⟨?_, ?_, by omega, ?_, ?_, he, ?_, ?_, by omega, ?_, ?_, by omega, ?_⟩
          · simp (disch := omega) only [up_e2, up_ne, up_eq]
          · simp (disch := omega) only [up_e2, up_eq]
          · simp (disch := omega) only [up_e2, up_ne, up_eq]
          · simp (disch := omega) only [up_e2, up_eq]
          · simp (disch := omega) only [up_e2, up_ne, up_eq]
          · simp (disch := omega) only [up_e2, up_eq]
          · simp (disch := omega) only [up_e2, up_ne, up_eq]
          · simp (disch := omega) only [up_e2, up_eq]
          · simp (disch := omega) only [up_e2, up_eq]
        obtain ⟨σ1, μ1, e1, e2, hQ1, hP1⟩ := fresh_ok hAa hKa hBa (fun i h => absurd h (Nat.not_lt_zero i))
        refine ⟨nI 1, σ1, μ1, ?_, ?_, Or.inl ⟨s, e, ba, ua, 0, 0, rm, 0, 0, W, hQ1, hP1⟩⟩
        · have hck : ∀ k : Option (Int32 × St), ck (nI s) 7 k = k := fun k => if_pos (nI_in hs (by decide))
          simp only [lit] at d1 d3 d4
          unfold fX9_open fX5_clear
          simp (disch := omega) only [lit, d1, d3, d4, eqF, if_false, nm_def, hck, zkN he, bd_some, ← ha, e1]
        · unfold fX10_open
          simp (disch := omega) only [lit, ltF, leT, if_true, if_false, nm_def, zkN he, ← hμa, e2, bd_some]
