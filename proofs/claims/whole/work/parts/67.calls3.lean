/-! ===== map, give, fetch, flush ===== -/
/-- the page alone, and what is pending, has changed -/
theorem IV.page {σ σ1 μ μ1 : St} (h : IV σ μ) (hp : PG σ1 μ1) (f8 : ∀ i k, i ≠ 2 → ¬ (i = 0 ∧ k = 14) → σ1 i k = σ i k) (fm : ∀ i k, i ≠ 1 → ¬ (i = 0 ∧ k = 22) → μ1 i k = μ i k) (h14 : σ1 0 14 = nI 0) (h22 : μ1 0 22 = nI 0) : IV σ1 μ1 := by
  have hRA : ∀ {n r rm : Nat} {W : Nat → Nat}, RA σ μ n r rm W → RA σ1 μ1 n r rm W := by
    intro n r rm W hA
    obtain ⟨a1, a2, a3, a4, a5, a6, a7, a8, a9, a10, a11, a12, a13, a14⟩ := hA
    refine ⟨?_, ?_, ?_, ?_, ?_, hp, ?_, ?_, ?_, ?_, ?_, a12, a13, a14⟩
    · rw [f8 0 11 (by decide) (by decide), fm 0 12 (by decide) (by decide)]; exact a1
    · rw [f8 0 12 (by decide) (by decide), fm 0 13 (by decide) (by decide)]; exact a2
    · rw [f8 0 13 (by decide) (by decide), fm 0 14 (by decide) (by decide)]; exact a3
    · rw [f8 0 10 (by decide) (by decide)]; exact a4
    · rw [fm 0 6 (by decide) (by decide)]; exact a5
    · exact a7.pt (f8 4 1 (by decide) (by decide)) (fun i => f8 5 i (by decide) (fun h => absurd h.1 (by decide)))
    · exact a8.pt (fm 0 9 (by decide) (by decide)) (fun i => fm 2 i (by decide) (fun h => absurd h.1 (by decide)))
    · rw [f8 6 1 (by decide) (by decide)]; exact a9
    · rw [fm 0 11 (by decide) (by decide)]; exact a10
    · intro i hi
      rw [f8 7 i (by decide) (fun h => absurd h.1 (by decide)), fm 3 i (by decide) (fun h => absurd h.1 (by decide))]
      exact a11 i hi
  rcases h with ⟨s, en, ba, ua, n, r, rm, ph, pd, W, ⟨hA, hK, hB, hS, hW⟩, hP⟩ | ⟨rm, W, hA, hK, h6, m0, -, -⟩
  · refine Or.inl ⟨s, en, ba, ua, n, r, rm, ph, 0, W, ⟨hRA hA, ?_, ?_, ?_, hW⟩, ⟨?_, ?_, hP.2.2.1, h14, h22, Nat.zero_le _, fun q => absurd rfl q⟩⟩
    · exact hK.fr (fun i k k1 k2 k3 => f8 i k (by omega) (by omega))
    · exact hB.fr (fun k k1 k2 k3 => f8 0 k (by decide) (by omega)) (fun k hk => fm 0 k (by decide) (by omega))
    · obtain ⟨tk, gv, sw, sh, bg, bt, kp, f, hb, ⟨m15, m16, m17, m18, m19, m20, m21⟩, s5, s16, s2, s7⟩ := hS
      refine ⟨tk, gv, sw, sh, bg, bt, kp, f, hb, ⟨?_, ?_, ?_, ?_, ?_, ?_, ?_⟩, s5, ?_, s2, ?_⟩
      · rw [fm 0 15 (by decide) (by decide)]; exact m15
      · rw [fm 0 16 (by decide) (by decide)]; exact m16
      · rw [fm 0 17 (by decide) (by decide)]; exact m17
      · rw [fm 0 18 (by decide) (by decide)]; exact m18
      · rw [fm 0 19 (by decide) (by decide)]; exact m19
      · rw [fm 0 20 (by decide) (by decide)]; exact m20
      · rw [fm 0 21 (by decide) (by decide)]; exact m21
      · intro e1 e2
        rw [f8 (s + 10) 2 (by omega) (by omega), f8 (s + 10) 3 (by omega) (by omega), f8 (s + 10) 4 (by omega) (by omega)]
        exact s16 e1 e2
      · intro e
        rw [f8 16 0 (by decide) (by decide), f8 16 1 (by decide) (by decide), f8 16 2 (by decide) (by decide), f8 16 3 (by decide) (by decide)]
        exact s7 e
    · rw [f8 0 6 (by decide) (by decide)]; exact hP.1
    · rw [fm 0 7 (by decide) (by decide)]; exact hP.2.1
  · refine Or.inr ⟨rm, W, hRA hA, hK.fr (fun i k k1 k2 k3 => f8 i k (by omega) (by omega)), ?_, ?_, h14, h22⟩
    · rw [f8 0 6 (by decide) (by decide)]; exact h6
    · rw [fm 0 0 (by decide) (by decide)]; exact m0
theorem op_mapY {σ μ : St} {b : Nat} {x : Int32} (h1 : 128 ≤ b) (h2 : b < 256) (hx : x = -nI 1 ∨ ∃ c, c < 65536 ∧ x = nI c) (hc : (x < -nI 1) = False ∧ (x < nI 65536) = True ∧ (x ≤ nI 65535) = True) (h : IV σ μ) : Op (fX9_map σ (nI b) x) (fX10_map μ (nI b) x) := by
  obtain ⟨n, r, rm, W, hA⟩ := h.ra
  have hPG := hA.2.2.2.2.2.1
  obtain ⟨σ1, hσ1⟩ : ∃ z, z = up (up σ 2 (b - 128) x) 0 14 (nI 0) := ⟨_, rfl⟩
  obtain ⟨μ1, hμ1⟩ : ∃ z, z = up (up μ 1 (b - 128) x) 0 22 (nI 0) := ⟨_, rfl⟩
  refine ⟨nI 1, σ1, μ1, ?_, ?_, h.page (σ1 := σ1) (μ1 := μ1) ?_ ?_ ?_ ?_ ?_⟩
  · unfold fX9_map fX2_assign
    simp (disch := omega) only [lit, ltF, leF, if_false, hc.1, hc.2.1, if_true, subN]
    rw [sv_in (by omega) (by omega), bd_some, nm_def, ← hσ1]
  · unfold fX10_map
    simp (disch := omega) only [lit, ltF, if_false, hc.1, hc.2.2, if_true, subN]
    rw [sv_in (by omega) (by omega), nm_def, ← hμ1]
  · intro i hi
    have e1 : σ1 2 i = up σ 2 (b - 128) x 2 i := by
      rw [hσ1]
      exact congrFun (up_ne (by decide)) i
    have e2 : μ1 1 i = up μ 1 (b - 128) x 1 i := by
      rw [hμ1]
      exact congrFun (up_ne (by decide)) i
    rw [e1, e2]
    by_cases e : i = b - 128
    · rw [e, up_eq, up_eq]
      exact ⟨rfl, hx⟩
    · rw [up_e2 e, up_e2 e]
      exact hPG i hi
  · intro i k a b
    rw [hσ1, up_fr _ _ _ _ _ b, up_ne a]
  · intro i k a b
    rw [hμ1, up_fr _ _ _ _ _ b, up_ne a]
  · rw [hσ1, up_eq]
  · rw [hμ1, up_eq]
theorem op_map {σ μ : St} (p1 p2 : Int32) (h : IV σ μ) : Op (fX9_map σ p1 p2) (fX10_map μ p1 p2) := by
  have no : fX9_map σ p1 p2 = some (nI 0, σ) → fX10_map μ p1 p2 = some (nI 0, μ) → Op (fX9_map σ p1 p2) (fX10_map μ p1 p2) := fun a b => ⟨nI 0, σ, μ, a, b, h⟩
  rcases pk_ix p1 (n := 256) (by decide) with q1 | q1 | ⟨b, hb, rfl⟩
  · have : (p1 < nI 128) = True := eq_true (by
      have h1 := Int32.lt_iff_toInt_lt.mp q1
      refine Int32.lt_iff_toInt_lt.mpr ?_
      rw [nI_toInt (by decide)]
      have h2 : (0 : Int32).toInt = 0 := by decide
      omega)
    refine no ?_ ?_
    · unfold fX9_map
      simp only [lit, this, if_true]
    · unfold fX10_map
      simp only [lit, this, if_true]
  · have q2 : (nI 255 < p1) = True := eq_true (big (n := 255) (by decide) q1).1
    have q3 : (nI 256 ≤ p1) = True := eq_true q1
    refine no ?_ ?_
    · unfold fX9_map
      simp only [lit, q3, if_true, ite_self]
    · unfold fX10_map
      simp only [lit, q2, if_true, ite_self]
  · by_cases hb1 : b < 128
    · refine no ?_ ?_
      · unfold fX9_map
        simp (disch := omega) only [lit, ltT, if_true]
      · unfold fX10_map
        simp (disch := omega) only [lit, ltT, if_true]
    · rcases pk_ix p2 (n := 65536) (by decide) with q1 | q1 | ⟨c, hc, rfl⟩
      · by_cases hm : p2 = -nI 1
        · rw [hm]
          exact op_mapY (by omega) hb (Or.inl rfl) ⟨eq_false (by decide), eq_true (by decide), eq_true (by decide)⟩ h
        · have q3 : (p2 < -nI 1) = True := eq_true (by
            have h1 := Int32.lt_iff_toInt_lt.mp q1
            have h2 : (0 : Int32).toInt = 0 := by decide
            refine Int32.lt_iff_toInt_lt.mpr ?_
            have h3 : (-nI 1 : Int32).toInt = -1 := by decide
            have h4 : p2.toInt ≠ -1 := fun e => hm (Int32.toInt_inj.mp (e.trans h3.symm))
            omega)
          refine no ?_ ?_
          · unfold fX9_map
            simp (disch := omega) only [lit, ltF, leF, if_false, q3, if_true]
          · unfold fX10_map
            simp (disch := omega) only [lit, ltF, if_false, q3, if_true]
      · have q2 : (p2 ≤ nI 65535) = False := eq_false (big (n := 65535) (by decide) q1).2.1
        have q3 : (p2 < nI 65536) = False := eq_false (big (n := 65535) (by decide) q1).2.2
        refine no ?_ ?_
        · unfold fX9_map
          simp (disch := omega) only [lit, ltF, leF, if_false, q3, ite_self]
        · unfold fX10_map
          simp (disch := omega) only [lit, ltF, if_false, q2, ite_self]
      · exact op_mapY (by omega) hb (Or.inr ⟨c, hc, rfl⟩) ⟨m1lt c (by omega), ltT hc (by decide), leT (by omega) (by decide)⟩ h
theorem op_give {σ μ : St} (x : Int32) (h : IV σ μ) : Op (fX9_give σ x) (fX10_give μ x) := by
  have h0 := h
  have no : fX9_give σ x = some (nI 0, σ) → fX10_give μ x = some (nI 0, μ) → Op (fX9_give σ x) (fX10_give μ x) := fun a b => ⟨nI 0, σ, μ, a, b, h0⟩
  rcases h with ⟨s, en, ba, ua, n, r, rm, ph, pd, W, ⟨hA, hK, hB, hS, hW⟩, hP⟩ | ⟨rm, W, hA, hK, h6, m0, -⟩
  · have m0 : μ 0 0 = nI 1 := hB.2.2.2.2.2.2.2.2.2.2.2.2
    have b7 := hB.2.2.2.1
    have b2 := hB.2.2.2.2.1
    have hen := hB.2.2.2.2.2.1
    obtain ⟨p1, p2, p3, p4, p5, p6, p7⟩ := hP
    have hm1 := m1eq ph (by omega)
    obtain ⟨a1, a2, a3, a4, a5, a6, a7, a8, a9, a10, a11, a12, a13, a14⟩ := hA
    by_cases hn : n = 24
    · refine no ?_ ?_
      · unfold fX9_give
        rw [p1, cnt_in a7, hn]
        simp (disch := omega) only [lit, hm1, if_false, bd_some, eqT, if_true]
      · unfold fX10_give
        rw [m0, a8.1, hn]
        simp (disch := omega) only [lit, eqF, eqT, if_true, if_false]
    · obtain ⟨M, hM, hM2, c1, c2⟩ : ∃ M : Nat, M < 65536 ∧ (if en = 1 then 65536 else 256) = M + 1 ∧ fX9_give σ x = fX9_give_b38 σ x (nI (M + 1)) x ∧ fX10_give μ x = if x < nI 0 then some (nI 0, μ) else fX10_give_b36 μ x (nI M) x := by
        rcases (show en = 0 ∨ en = 1 by omega) with e | e
        · refine ⟨255, by decide, by rw [if_neg (by omega)], ?_, ?_⟩
          · rw [e] at b7
            unfold fX9_give
            rw [p1, cnt_in a7]
            simp (disch := omega) only [lit, hm1, if_false, bd_some, eqF, b7, eqT, if_true]
          · rw [e] at b2
            unfold fX10_give
            rw [m0, a8.1]
            simp (disch := omega) only [lit, if_false, eqF, b2, eqT, if_true]
        · refine ⟨65535, by decide, by rw [if_pos e], ?_, ?_⟩
          · rw [e] at b7
            unfold fX9_give
            rw [p1, cnt_in a7]
            simp (disch := omega) only [lit, hm1, if_false, bd_some, eqF, b7]
          · rw [e] at b2
            unfold fX10_give
            rw [m0, a8.1]
            simp (disch := omega) only [lit, if_false, eqF, b2]
      rcases pk_ix x (n := M + 1) (by omega) with q1 | q1 | ⟨u, hu, rfl⟩
      · refine no ?_ ?_
        · rw [c1]
          unfold fX9_give_b38
          rw [c_belowN σ _ q1, bd_some]
          simp (disch := omega) only [lit, eqT, if_true]
        · rw [c2, if_pos (show x < nI 0 from q1)]
      · refine no ?_ ?_
        · rw [c1]
          unfold fX9_give_b38
          rw [c_belowB σ q1, bd_some]
          simp (disch := omega) only [lit, eqT, if_true]
        · have q2 : (x ≤ nI M) = False := eq_false (big (by omega) q1).2.1
          rw [c2]
          unfold fX10_give_b36
          simp only [lit, q2, if_false, ite_self]
      · obtain ⟨σ1, hσ1⟩ : ∃ z, z = up (up (up σ 5 n (nI u)) 4 1 (nI (n + 1))) 0 14 (nI 0) := ⟨_, rfl⟩
        obtain ⟨μ1, hμ1⟩ : ∃ z, z = up (up (up μ 2 n (nI u)) 0 9 (nI (n + 1))) 0 22 (nI 0) := ⟨_, rfl⟩
        have f8 : ∀ i k, i ≠ 5 → ¬ (i = 4 ∧ k = 1) → ¬ (i = 0 ∧ k = 14) → σ1 i k = σ i k := by
          intro i k x1 x2 x3
          rw [hσ1, up_fr _ _ _ _ _ x3]
          by_cases e : i = 4
          · rw [e, up_e2 (fun q => x2 ⟨e, q⟩), up_ne (by decide)]
          · rw [up_ne e, up_ne x1]
        have fm : ∀ i k, i ≠ 2 → ¬ (i = 0 ∧ (k = 9 ∨ k = 22)) → μ1 i k = μ i k := by
          intro i k x1 x2
          rw [hμ1, up_fr _ _ _ _ _ (fun q => x2 ⟨q.1, Or.inr q.2⟩), up_fr _ _ _ _ _ (fun q => x2 ⟨q.1, Or.inl q.2⟩), up_ne x1]
        obtain ⟨W1, hW1⟩ : ∃ W1 : Nat → Nat, W1 = fun i => if i = n then u else W i := ⟨_, rfl⟩
        have w1 : ∀ i, i < n → W1 i = W i := fun i hi => by rw [hW1]; exact if_neg (by omega)
        have w2 : W1 n = u := by rw [hW1]; exact if_pos rfl
        have hadd : fX5_add 4 σ (nI u) = some (nI 0, up (up σ 5 n (nI u)) 4 1 (nI (n + 1))) := by
          unfold fX5_add
          rw [a7.1, if_neg (show ¬ (Int32.ofNat (capU 4) ≤ nI n) from nI_ge (show n < 24 by omega) (show (24 : Nat) < 2 ^ 31 by decide)), sv_in (show n < capU 4 by show n < 24; omega) (by omega), up_ne (by decide), a7.1, lit, addN, nm_def]
          rfl
        refine ⟨nI 1, σ1, μ1, ?_, ?_, Or.inl ⟨s, en, ba, ua, n + 1, r, rm, ph, 0, W1, ⟨⟨?_, ?_, ?_, ?_, ?_, ?_, ⟨?_, ?_⟩, ⟨?_, ?_⟩, ?_, ?_, ?_, by omega, a13, a14⟩, ?_, ?_, ?_, ?_⟩, ⟨?_, ?_, p3, ?_, ?_, Nat.zero_le _, fun q => absurd rfl q⟩⟩⟩
        · rw [c1]
          unfold fX9_give_b38
          rw [c_belowT σ hu (by omega), bd_some]
          simp (disch := omega) only [lit, eqF, if_false]
          rw [hadd, bd_some, nm_def, ← hσ1]
        · rw [c2]
          unfold fX10_give_b36
          rw [if_neg (nI_nlt (Nat.zero_le u) (by omega)), if_pos (nI_le (by omega) (by omega)), a8.1, sv_in (by omega) (by omega)]
          simp only [lit, nm_def]
          rw [up_ne (by decide), a8.1, addN, ← hμ1]
        · rw [f8 0 11 (by decide) (by decide) (by decide), fm 0 12 (by decide) (by decide)]; exact a1
        · rw [f8 0 12 (by decide) (by decide) (by decide), fm 0 13 (by decide) (by decide)]; exact a2
        · rw [f8 0 13 (by decide) (by decide) (by decide), fm 0 14 (by decide) (by decide)]; exact a3
        · rw [f8 0 10 (by decide) (by decide) (by decide)]; exact a4
        · rw [fm 0 6 (by decide) (by decide)]; exact a5
        · exact a6.fr (fun i => f8 2 i (by decide) (fun h => absurd h.1 (by decide)) (fun h => absurd h.1 (by decide))) (fun i => fm 1 i (by decide) (fun h => absurd h.1 (by decide)))
        · rw [hσ1, up_ne (by decide), up_eq]
        · intro i hi
          rw [hσ1, up_ne (by decide), up_ne (by decide)]
          by_cases e : i = n
          · rw [e, up_eq, w2]
          · rw [up_e2 e, w1 i (by omega)]
            exact a7.2 i (by omega)
        · rw [hμ1, up_e2 (by decide), up_eq]
        · intro i hi
          rw [hμ1, up_ne (by decide), up_ne (by decide)]
          by_cases e : i = n
          · rw [e, up_eq, w2]
          · rw [up_e2 e, w1 i (by omega)]
            exact a8.2 i (by omega)
        · rw [f8 6 1 (by decide) (by decide) (by decide)]; exact a9
        · rw [fm 0 11 (by decide) (by decide)]; exact a10
        · intro i hi
          rw [f8 7 i (by decide) (fun h => absurd h.1 (by decide)) (fun h => absurd h.1 (by decide)), fm 3 i (by decide) (fun h => absurd h.1 (by decide))]
          exact a11 i hi
        · exact hK.fr (fun i k k1 k2 k3 => f8 i k (by omega) (by omega) (by omega))
        · exact hB.fr (fun k k1 k2 k3 => f8 0 k (by decide) (by omega) (by omega)) (fun k hk => fm 0 k (by decide) (by omega))
        · obtain ⟨tk, gv, sw, sh, bg, bt, kp, f, hb, ⟨m15, m16, m17, m18, m19, m20, m21⟩, s5, s16, s2, s7⟩ := hS
          refine ⟨tk, gv, sw, sh, bg, bt, kp, f, hb, ⟨?_, ?_, ?_, ?_, ?_, ?_, ?_⟩, s5, ?_, s2, ?_⟩
          · rw [fm 0 15 (by decide) (by decide)]; exact m15
          · rw [fm 0 16 (by decide) (by decide)]; exact m16
          · rw [fm 0 17 (by decide) (by decide)]; exact m17
          · rw [fm 0 18 (by decide) (by decide)]; exact m18
          · rw [fm 0 19 (by decide) (by decide)]; exact m19
          · rw [fm 0 20 (by decide) (by decide)]; exact m20
          · rw [fm 0 21 (by decide) (by decide)]; exact m21
          · intro e1 e2
            rw [f8 (s + 10) 2 (by omega) (by omega) (by omega), f8 (s + 10) 3 (by omega) (by omega) (by omega), f8 (s + 10) 4 (by omega) (by omega) (by omega)]
            exact s16 e1 e2
          · intro e
            rw [f8 16 0 (by decide) (by decide) (by decide), f8 16 1 (by decide) (by decide) (by decide), f8 16 2 (by decide) (by decide) (by decide), f8 16 3 (by decide) (by decide) (by decide)]
            exact s7 e
        · intro i hi
          rw [hM2]
          by_cases e : i = n
          · rw [e, w2]; exact hu
          · have := hW i (by omega)
            rw [hM2] at this
            rw [w1 i (by omega)]; exact this
        · rw [f8 0 6 (by decide) (by decide) (by decide)]; exact p1
        · rw [fm 0 7 (by decide) (by decide)]; exact p2
        · rw [hσ1, up_eq]
        · rw [hμ1, up_eq]
  · refine no ?_ ?_
    · unfold fX9_give
      rw [h6]
      simp only [lit, if_true]
    · unfold fX10_give
      rw [m0]
      simp (disch := omega) only [lit, eqT, if_true]
/-! what is ready is fetched -/
theorem r_fetchL {m : Nat} (hm : m < 16) (v : Int32) : ∀ (d i fuel : Nat) (μ : St), i + d = m → d < fuel → μ 0 11 = nI m → ∃ μ1, fX10_fetch_b28 fuel μ v (nI i) = some (v, μ1) ∧ (∀ q, q < i → μ1 3 q = μ 3 q) ∧ (∀ q, i ≤ q → q < m → μ1 3 q = μ 3 (q + 1)) ∧ ∀ i k, i ≠ 3 → μ1 i k = μ i k := by
  intro d
  induction d with
  | zero =>
    intro i fuel μ hi hf h11
    match fuel, hf with
    | f + 1, _ =>
      refine ⟨μ, ?_, fun _ _ => rfl, fun q h1 h2 => by omega, fun _ _ _ => rfl⟩
      rw [fX10_fetch_b28, h11, if_pos (nI_le (by omega) (by omega))]
  | succ d ih =>
    intro i fuel μ hi hf h11
    match fuel, hf with
    | f + 1, hf =>
      obtain ⟨μ1, e, a1, a2, a3⟩ := ih (i + 1) f (up μ 3 i (μ 3 (i + 1))) (by omega) (by omega) (by rw [up_ne (by decide)]; exact h11)
      refine ⟨μ1, ?_, ?_, ?_, ?_⟩
      · rw [fX10_fetch_b28, h11, if_neg (nI_ge (by omega) (by omega)), lit, addN, ld_in (by omega) (by omega), sv_in (by omega) (by omega), nm_def]
        exact e
      · intro q hq
        rw [a1 q (by omega), up_e2 (by omega)]
      · intro q h1 h2
        rcases (show q = i ∨ i + 1 ≤ q by omega) with h | h
        · rw [h, a1 i (by omega), up_eq]
        · rw [a2 q h h2, up_e2 (by omega)]
      · intro i2 k h1
        rw [a3 i2 k h1, up_ne h1]
theorem op_fetch {σ μ : St} (h : IV σ μ) : Op (fX9_fetch σ) (fX10_fetch μ) := by
  have h0 := h
  obtain ⟨n0, r0, rm0, W0, hA0⟩ := h.ra
  have zero : σ 6 1 = nI 0 → μ 0 11 = nI 0 → Op (fX9_fetch σ) (fX10_fetch μ) := by
    intro q1 q2
    obtain ⟨σ1, s1, f1⟩ := c_drop0 (j := 6) (t := 1) (by decide) q1 (by decide)
    have hσ : σ1 = σ := funext fun i => funext fun k => f1 i k
    rw [hσ] at s1
    refine ⟨-nI 1, σ, μ, ?_, ?_, h0⟩
    · have e1 : fX5_at 6 σ (nI 0) = some (-nI 1, σ) := by
        unfold fX5_at
        rw [q1]
        simp (disch := omega) only [lit, ltF, leT, if_true, if_false]
      unfold fX9_fetch
      simp only [lit]
      rw [e1, bd_some, s1, bd_some]
    · unfold fX10_fetch
      rw [q2]
      simp (disch := omega) only [lit, eqT, if_true]
  rcases h with ⟨s, en, ba, ua, n, r, rm, ph, pd, W, ⟨hA, hK, hB, hS, hW⟩, hP⟩ | ⟨rm, W, hA, hK, h6, m0, -⟩
  · by_cases hr : r = 0
    · subst hr
      exact zero hA.2.2.2.2.2.2.2.2.1 hA.2.2.2.2.2.2.2.2.2.1
    · obtain ⟨a1, a2, a3, a4, a5, a6, a7, a8, a9, a10, a11, a12, a13, a14⟩ := hA
      obtain ⟨σ1, s1, d1, d2, f8⟩ := c_drop (j := 6) (t := 1) (by decide) (show r ≤ 16 from a13) a9 (by omega)
      obtain ⟨μ1, g1, g2, g3, fm⟩ := r_fetchL (m := r - 1) (by omega) (μ 3 0) (r - 1) 0 200 (up μ 0 11 (nI (r - 1))) (by omega) (by omega) up_eq
      have fm : ∀ i k, i ≠ 3 → ¬ (i = 0 ∧ k = 11) → μ1 i k = μ i k := fun i k x1 x2 => by rw [fm i k x1, up_fr _ _ _ _ _ x2]
      have e1 : fX5_at 6 σ (nI 0) = some (σ 7 0, σ) := by
        unfold fX5_at
        rw [a9]
        simp (disch := omega) only [lit, ltF, leF, if_false]
        rw [ld_in (show 0 < capU 6 by decide) (by decide)]
      refine ⟨μ 3 0, σ1, μ1, ?_, ?_, Or.inl ⟨s, en, ba, ua, n, r - 1, rm, ph, pd, W, ⟨⟨?_, ?_, ?_, ?_, ?_, ?_, ?_, ?_, d1, ?_, ?_, a12, by omega, a14⟩, ?_, ?_, ?_, hW⟩, ?_⟩⟩
      · unfold fX9_fetch
        simp only [lit]
        rw [e1, bd_some, s1, bd_some, a11 0 (by omega)]
      · unfold fX10_fetch
        rw [a10]
        simp (disch := omega) only [lit, eqF, if_false, subN]
        rw [ld_in (by decide) (by decide), nm_def]
        exact g1
      · rw [f8 0 11 (by decide) (by decide), fm 0 12 (by decide) (by decide)]; exact a1
      · rw [f8 0 12 (by decide) (by decide), fm 0 13 (by decide) (by decide)]; exact a2
      · rw [f8 0 13 (by decide) (by decide), fm 0 14 (by decide) (by decide)]; exact a3
      · rw [f8 0 10 (by decide) (by decide)]; exact a4
      · rw [fm 0 6 (by decide) (by decide)]; exact a5
      · exact a6.fr (fun i => f8 2 i (by decide) (fun h => absurd h.1 (by decide))) (fun i => fm 1 i (by decide) (fun h => absurd h.1 (by decide)))
      · exact a7.pt (f8 4 1 (by decide) (by decide)) (fun i => f8 5 i (by decide) (fun h => absurd h.1 (by decide)))
      · exact a8.pt (fm 0 9 (by decide) (by decide)) (fun i => fm 2 i (by decide) (fun h => absurd h.1 (by decide)))
      · rename_i fm0
        rw [fm0 0 11 (by decide), up_eq]
      · intro i hi
        rw [d2 i hi, g3 i (Nat.zero_le _) hi, up_ne (by decide)]
        exact a11 (i + 1) (by omega)
      · exact hK.fr (fun i k k1 k2 k3 => f8 i k (by omega) (by omega))
      · exact hB.fr (fun k k1 k2 k3 => f8 0 k (by decide) (by omega)) (fun k hk => fm 0 k (by decide) (by omega))
      · obtain ⟨tk, gv, sw, sh, bg, bt, kp, f, hb, ⟨m15, m16, m17, m18, m19, m20, m21⟩, s5, s16, s2, s7⟩ := hS
        refine ⟨tk, gv, sw, sh, bg, bt, kp, f, hb, ⟨?_, ?_, ?_, ?_, ?_, ?_, ?_⟩, s5, ?_, s2, ?_⟩
        · rw [fm 0 15 (by decide) (by decide)]; exact m15
        · rw [fm 0 16 (by decide) (by decide)]; exact m16
        · rw [fm 0 17 (by decide) (by decide)]; exact m17
        · rw [fm 0 18 (by decide) (by decide)]; exact m18
        · rw [fm 0 19 (by decide) (by decide)]; exact m19
        · rw [fm 0 20 (by decide) (by decide)]; exact m20
        · rw [fm 0 21 (by decide) (by decide)]; exact m21
        · intro e1 e2
          rw [f8 (s + 10) 2 (by omega) (by omega), f8 (s + 10) 3 (by omega) (by omega), f8 (s + 10) 4 (by omega) (by omega)]
          exact s16 e1 e2
        · intro e
          rw [f8 16 0 (by decide) (by decide), f8 16 1 (by decide) (by decide), f8 16 2 (by decide) (by decide), f8 16 3 (by decide) (by decide)]
          exact s7 e
      · unfold RP BM at *
        rw [f8 0 6 (by decide) (by decide), f8 0 14 (by decide) (by decide), fm 0 7 (by decide) (by decide), fm 0 22 (by decide) (by decide), fm 0 23 (by decide) (by decide), fm 0 16 (by decide) (by decide)]
        exact hP
  · exact zero hA.2.2.2.2.2.2.2.2.1 hA.2.2.2.2.2.2.2.2.2.1
