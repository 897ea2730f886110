/-! ===== the calls ===== -/
theorem RQ.fr0 {σ σ1 μ μ1 : St} {s en ba ua n r rm : Nat} {W : Nat → Nat} (hQ : RQ σ μ s en ba ua n r rm W) (f8 : ∀ i k, ¬ (i = 0 ∧ (k = 6 ∨ k = 14)) → σ1 i k = σ i k) (fm : ∀ i k, ¬ (i = 0 ∧ (k = 7 ∨ k = 22 ∨ k = 23)) → μ1 i k = μ i k) : RQ σ1 μ1 s en ba ua n r rm W := by
  obtain ⟨⟨a1, a2, a3, a4, a5, a6, a7, a8, a9, a10, a11, a12, a13, a14⟩, hK, hB, hS, hW⟩ := hQ
  refine ⟨⟨?_, ?_, ?_, ?_, ?_, ?_, ?_, ?_, ?_, ?_, ?_, a12, a13, a14⟩, ?_, ?_, ?_, hW⟩
  · rw [f8 0 11 (by decide), fm 0 12 (by decide)]; exact a1
  · rw [f8 0 12 (by decide), fm 0 13 (by decide)]; exact a2
  · rw [f8 0 13 (by decide), fm 0 14 (by decide)]; exact a3
  · rw [f8 0 10 (by decide)]; exact a4
  · rw [fm 0 6 (by decide)]; exact a5
  · exact a6.fr (fun i => f8 2 i (fun h => absurd h.1 (by decide))) (fun i => fm 1 i (fun h => absurd h.1 (by decide)))
  · exact a7.pt (f8 4 1 (by decide)) (fun i => f8 5 i (fun h => absurd h.1 (by decide)))
  · exact a8.pt (fm 0 9 (by decide)) (fun i => fm 2 i (fun h => absurd h.1 (by decide)))
  · rw [f8 6 1 (by decide)]; exact a9
  · rw [fm 0 11 (by decide)]; exact a10
  · intro i hi
    rw [f8 7 i (fun h => absurd h.1 (by decide)), fm 3 i (fun h => absurd h.1 (by decide))]
    exact a11 i hi
  · exact hK.fr (fun i k k1 k2 k3 => f8 i k (by omega))
  · exact hB.fr (fun k k1 k2 k3 => f8 0 k (by omega)) (fun k hk => fm 0 k (by omega))
  · obtain ⟨tk, gv, sw, sh, bg, bt, kp, f, hb, ⟨m15, m16, m17, m18, m19, m20, m21⟩, s5, s16, s2, s7⟩ := hS
    refine ⟨tk, gv, sw, sh, bg, bt, kp, f, hb, ⟨?_, ?_, ?_, ?_, ?_, ?_, ?_⟩, s5, ?_, s2, ?_⟩
    · rw [fm 0 15 (by decide)]; exact m15
    · rw [fm 0 16 (by decide)]; exact m16
    · rw [fm 0 17 (by decide)]; exact m17
    · rw [fm 0 18 (by decide)]; exact m18
    · rw [fm 0 19 (by decide)]; exact m19
    · rw [fm 0 20 (by decide)]; exact m20
    · rw [fm 0 21 (by decide)]; exact m21
    · intro e1 e2
      rw [f8 (s + 10) 2 (by omega), f8 (s + 10) 3 (by omega), f8 (s + 10) 4 (by omega)]
      exact s16 e1 e2
    · intro e
      rw [f8 16 0 (by decide), f8 16 1 (by decide), f8 16 2 (by decide), f8 16 3 (by decide)]
      exact s7 e
def IV (σ μ : St) : Prop := (∃ (s en ba ua n r rm ph pd : Nat) (W : Nat → Nat), RQ σ μ s en ba ua n r rm W ∧ RP σ μ s en n ph pd) ∨ ∃ (rm : Nat) (W : Nat → Nat), RA σ μ 0 0 rm W ∧ RK σ ∧ σ 0 6 = -nI 1 ∧ μ 0 0 = nI 0 ∧ σ 0 14 = nI 0 ∧ μ 0 22 = nI 0
def Op (x y : Option (Int32 × St)) : Prop := ∃ a σ1 μ1, x = some (a, σ1) ∧ y = some (a, μ1) ∧ IV σ1 μ1
theorem IV.ra {σ μ : St} (h : IV σ μ) : ∃ n r rm W, RA σ μ n r rm W := by
  rcases h with ⟨s, en, ba, ua, n, r, rm, ph, pd, W, hQ, -⟩ | ⟨rm, W, hA, -⟩
  · exact ⟨n, r, rm, W, hQ.1⟩
  · exact ⟨0, 0, rm, W, hA⟩
theorem op_waiting {σ μ : St} (h : IV σ μ) : Op (fX9_waiting σ) (fX10_waiting μ) := by
  obtain ⟨n, r, rm, W, hA⟩ := h.ra
  refine ⟨nI n, σ, μ, ?_, ?_, h⟩
  · unfold fX9_waiting
    rw [cnt_in hA.2.2.2.2.2.2.1, bd_some]
  · unfold fX10_waiting
    rw [hA.2.2.2.2.2.2.2.1.1]
theorem op_ready {σ μ : St} (h : IV σ μ) : Op (fX9_ready σ) (fX10_ready μ) := by
  obtain ⟨n, r, rm, W, hA⟩ := h.ra
  refine ⟨nI r, σ, μ, ?_, ?_, h⟩
  · unfold fX9_ready fX5_count
    rw [hA.2.2.2.2.2.2.2.2.1, bd_some]
  · unfold fX10_ready
    rw [hA.2.2.2.2.2.2.2.2.2.1]
theorem op_taken {σ μ : St} (h : IV σ μ) : Op (fX9_taken σ) (fX10_taken μ) := by
  obtain ⟨n, r, rm, W, hA⟩ := h.ra
  exact ⟨σ 0 11, σ, μ, rfl, by unfold fX10_taken; rw [hA.1], h⟩
theorem op_put {σ μ : St} (h : IV σ μ) : Op (fX9_put σ) (fX10_put μ) := by
  obtain ⟨n, r, rm, W, hA⟩ := h.ra
  exact ⟨σ 0 12, σ, μ, rfl, by unfold fX10_put; rw [hA.2.1], h⟩
theorem op_faults {σ μ : St} (h : IV σ μ) : Op (fX9_faults σ) (fX10_faults μ) := by
  obtain ⟨n, r, rm, W, hA⟩ := h.ra
  exact ⟨σ 0 13, σ, μ, rfl, by unfold fX10_faults; rw [hA.2.2.1], h⟩
theorem op_state {σ μ : St} (h : IV σ μ) : Op (fX9_state σ) (fX10_state μ) := by
  have h0 := h
  rcases h with ⟨s, en, ba, ua, n, r, rm, ph, pd, W, hQ, hP⟩ | ⟨rm, W, hA, hK, h6, m0, -⟩
  · have m0 : μ 0 0 = nI 1 := hQ.2.2.1.2.2.2.2.2.2.2.2.2.2.2.2
    refine ⟨σ 0 6, σ, μ, rfl, ?_, h0⟩
    unfold fX10_state
    rw [m0, hP.2.1, hP.1]
    simp (disch := omega) only [lit, eqF, if_false]
  · refine ⟨σ 0 6, σ, μ, rfl, ?_, h0⟩
    unfold fX10_state
    rw [m0, h6]
    simp (disch := omega) only [lit, eqT, if_true]
/-- one slot of the class and one of the reference are written -/
theorem up_fr (σ : St) (k : Nat) (v : Int32) (i j : Nat) (h : ¬ (i = 0 ∧ j = k)) : up σ 0 k v i j = σ i j := by
  by_cases e : i = 0
  · rw [e, up_e2 (fun q => h ⟨e, q⟩)]
  · rw [up_ne e]
theorem op_room {σ μ : St} (x : Int32) (h : IV σ μ) : Op (fX9_room σ x) (fX10_room μ x) := by
  have h0 := h
  unfold fX9_room fX10_room
  by_cases hx : x < 0
  · exact ⟨0, σ, μ, if_pos hx, if_pos hx, h0⟩
  · by_cases hx2 : x ≤ 16
    · obtain ⟨j, hj, rfl⟩ := nI_of2 (M := 16) (n := 16) (by decide) hx hx2
      refine ⟨1, up σ 0 10 (nI j), up μ 0 6 (nI j), ?_, ?_, ?_⟩
      · rw [if_neg hx, if_pos hx2, nm_def]
      · rw [if_neg hx, if_pos hx2, nm_def]
      · have f8 : ∀ i k, ¬ (i = 0 ∧ k = 10) → up σ 0 10 (nI j) i k = σ i k := fun i k h => up_fr σ 10 _ i k h
        have fm : ∀ i k, ¬ (i = 0 ∧ k = 6) → up μ 0 6 (nI j) i k = μ i k := fun i k h => up_fr μ 6 _ i k h
        have hRA : ∀ {n r rm : Nat} {W : Nat → Nat}, RA σ μ n r rm W → RA (up σ 0 10 (nI j)) (up μ 0 6 (nI j)) n r j W := by
          intro n r rm W hA
          obtain ⟨a1, a2, a3, a4, a5, a6, a7, a8, a9, a10, a11, a12, a13, a14⟩ := hA
          refine ⟨?_, ?_, ?_, up_eq, up_eq, ?_, ?_, ?_, ?_, ?_, ?_, a12, a13, hj⟩
          · rw [f8 0 11 (by decide), fm 0 12 (by decide)]; exact a1
          · rw [f8 0 12 (by decide), fm 0 13 (by decide)]; exact a2
          · rw [f8 0 13 (by decide), fm 0 14 (by decide)]; exact a3
          · exact a6.fr (fun i => f8 2 i (fun h => absurd h.1 (by decide))) (fun i => fm 1 i (fun h => absurd h.1 (by decide)))
          · exact a7.pt (f8 4 1 (by decide)) (fun i => f8 5 i (fun h => absurd h.1 (by decide)))
          · exact a8.pt (fm 0 9 (by decide)) (fun i => fm 2 i (fun h => absurd h.1 (by decide)))
          · rw [f8 6 1 (by decide)]; exact a9
          · rw [fm 0 11 (by decide)]; exact a10
          · intro i hi
            rw [f8 7 i (fun h => absurd h.1 (by decide)), fm 3 i (fun h => absurd h.1 (by decide))]
            exact a11 i hi
        rcases h with ⟨s, en, ba, ua, n, r, rm, ph, pd, W, hQ, hP⟩ | ⟨rm, W, hA, hK, h6, m0, h14, m22⟩
        · obtain ⟨hA, hK, hB, hS, hW⟩ := hQ
          refine Or.inl ⟨s, en, ba, ua, n, r, j, ph, pd, W, ⟨hRA hA, ?_, ?_, ?_, hW⟩, ?_⟩
          · exact hK.fr (fun i k k1 k2 k3 => f8 i k (by omega))
          · exact hB.fr (fun k k1 k2 k3 => f8 0 k (by omega)) (fun k hk => fm 0 k (by omega))
          · obtain ⟨tk, gv, sw, sh, bg, bt, kp, f, hb, ⟨m15, m16, m17, m18, m19, m20, m21⟩, s5, s16, s2, s7⟩ := hS
            refine ⟨tk, gv, sw, sh, bg, bt, kp, f, hb, ⟨?_, ?_, ?_, ?_, ?_, ?_, ?_⟩, s5, ?_, s2, ?_⟩
            · rw [fm 0 15 (by decide)]; exact m15
            · rw [fm 0 16 (by decide)]; exact m16
            · rw [fm 0 17 (by decide)]; exact m17
            · rw [fm 0 18 (by decide)]; exact m18
            · rw [fm 0 19 (by decide)]; exact m19
            · rw [fm 0 20 (by decide)]; exact m20
            · rw [fm 0 21 (by decide)]; exact m21
            · intro e1 e2
              rw [f8 (s + 10) 2 (by omega), f8 (s + 10) 3 (by omega), f8 (s + 10) 4 (by omega)]
              exact s16 e1 e2
            · intro e
              rw [f8 16 0 (by decide), f8 16 1 (by decide), f8 16 2 (by decide), f8 16 3 (by decide)]
              exact s7 e
          · unfold RP BM at *
            rw [f8 0 6 (by decide), f8 0 14 (by decide), fm 0 7 (by decide), fm 0 22 (by decide), fm 0 23 (by decide), fm 0 16 (by decide)]
            exact hP
        · refine Or.inr ⟨j, W, hRA hA, hK.fr (fun i k k1 k2 k3 => f8 i k (by omega)), ?_, ?_, ?_, ?_⟩
          · rw [f8 0 6 (by decide)]; exact h6
          · rw [fm 0 0 (by decide)]; exact m0
          · rw [f8 0 14 (by decide)]; exact h14
          · rw [fm 0 22 (by decide)]; exact m22
    · exact ⟨0, σ, μ, by rw [if_neg hx, if_neg hx2], by rw [if_neg hx, if_neg hx2], h0⟩
theorem op_code {σ μ : St} {e : Nat} (he : e ≤ 1) (h : IV σ μ) : Op (fX9_code σ (nI e)) (fX10_code μ (nI e)) := by
  have h0 := h
  rcases h with ⟨s, en, ba, ua, n, r, rm, ph, pd, W, hQ, hP⟩ | ⟨rm, W, hA, hK, h6, m0, -⟩
  · have m0 : μ 0 0 = nI 1 := hQ.2.2.1.2.2.2.2.2.2.2.2.2.2.2.2
    obtain ⟨p1, p2, p3, p4, p5, p6, p7⟩ := hP
    have hm1 := m1eq ph (by omega)
    by_cases hbad : ph = 3 ∨ (ph = 2 ∧ e = 0)
    · refine ⟨-nI 1, σ, μ, ?_, ?_, h0⟩
      · unfold fX9_code
        rw [p1]
        by_cases h3 : ph = 3
        · rw [h3] at hm1 ⊢
          simp (disch := omega) only [lit, hm1, if_false, eqT, if_true]
        · have h2 : ph = 2 ∧ e = 0 := by omega
          rw [h2.1] at hm1 ⊢
          rw [h2.2]
          simp (disch := omega) only [lit, hm1, if_false, eqT, eqF, if_true]
      · unfold fX10_code
        rw [m0, p2]
        by_cases h3 : ph = 3
        · rw [h3]
          simp (disch := omega) only [lit, eqF, if_false, eqT, if_true]
        · have h2 : ph = 2 ∧ e = 0 := by omega
          rw [h2.1, h2.2]
          simp (disch := omega) only [lit, eqT, eqF, if_true, if_false]
    · obtain ⟨y, hy, hye⟩ : ∃ y : Nat, y ≤ 3 ∧ ((e = 0 ∧ y = 1) ∨ (e = 1 ∧ y = 2)) := by
        rcases (show e = 0 ∨ e = 1 by omega) with q | q
        · exact ⟨1, by decide, Or.inl ⟨q, rfl⟩⟩
        · exact ⟨2, by decide, Or.inr ⟨q, rfl⟩⟩
      obtain ⟨σa, ha⟩ : ∃ z, z = up (up σ 0 6 (nI y)) 0 14 (nI 0) := ⟨_, rfl⟩
      obtain ⟨μa, hμa⟩ : ∃ z, z = up (up μ 0 7 (nI y)) 0 22 (nI 0) := ⟨_, rfl⟩
      have f8 : ∀ i k, ¬ (i = 0 ∧ (k = 6 ∨ k = 14)) → σa i k = σ i k := fun i k h => by rw [ha, up_fr _ _ _ _ _ (fun q => h ⟨q.1, Or.inr q.2⟩), up_fr _ _ _ _ _ (fun q => h ⟨q.1, Or.inl q.2⟩)]
      have fm : ∀ i k, ¬ (i = 0 ∧ (k = 7 ∨ k = 22 ∨ k = 23)) → μa i k = μ i k := fun i k h => by rw [hμa, up_fr _ _ _ _ _ (fun q => h ⟨q.1, Or.inr (Or.inl q.2)⟩), up_fr _ _ _ _ _ (fun q => h ⟨q.1, Or.inl q.2⟩)]
      have hQa : RQ σa μa s en ba ua n r rm W := hQ.fr0 f8 fm
      have hPa : RP σa μa s en n y 0 := ⟨by rw [ha, up_e2 (by decide), up_eq], by rw [hμa, up_e2 (by decide), up_eq], hy, by rw [ha, up_eq], by rw [hμa, up_eq], Nat.zero_le _, fun q => absurd rfl q⟩
      have hn : n ≤ 24 := hQ.1.2.2.2.2.2.2.2.2.2.2.2.1
      obtain ⟨a, σ1, μ1, n1, r1, W1, pd1, y1, y2, y3, y4⟩ := loop_ok he 25 0 0 200 200 n r W σa μa hQa hPa (by omega) (fun _ => by omega) (by omega) (by omega) (by omega) (by omega)
      refine ⟨a, σ1, μ1, ?_, ?_, Or.inl ⟨s, en, ba, ua, n1, r1, rm, y, pd1, W1, y3, y4⟩⟩
      · have c2 : fX9_code σ (nI e) = fX9_code_b30 σ (nI e) := by
          unfold fX9_code
          rw [p1]
          by_cases h2 : ph = 2
          · rw [h2] at hm1 ⊢
            simp (disch := omega) only [lit, hm1, if_false, eqT, eqF, if_true]
          · simp (disch := omega) only [lit, hm1, if_false, eqF]
        rw [c2]
        unfold fX9_code_b30 fX9_code_b40 fX9_makeMoves
        rcases hye with ⟨q1, q2⟩ | ⟨q1, q2⟩
        · rw [q2] at ha
          rw [q1] at y1 ⊢
          simp (disch := omega) only [lit, eqT, if_true, nm_def]
          rw [← ha, y1, bd_some]
        · rw [q2] at ha
          rw [q1] at y1 ⊢
          simp (disch := omega) only [lit, eqF, if_false, nm_def]
          rw [← ha, y1, bd_some]
      · have c2 : fX10_code μ (nI e) = fX10_code_b29 μ (nI e) := by
          unfold fX10_code
          rw [m0, p2]
          by_cases h2 : ph = 2
          · rw [h2]
            simp (disch := omega) only [lit, eqT, eqF, if_true, if_false]
          · simp (disch := omega) only [lit, if_false, eqF]
        rw [c2]
        unfold fX10_code_b29 fX10_code_b39
        rcases hye with ⟨q1, q2⟩ | ⟨q1, q2⟩
        · rw [q2] at hμa
          rw [q1] at y2 ⊢
          simp (disch := omega) only [lit, eqT, if_true, nm_def]
          rw [← hμa]
          exact y2
        · rw [q2] at hμa
          rw [q1] at y2 ⊢
          simp (disch := omega) only [lit, eqF, if_false, nm_def]
          rw [← hμa]
          exact y2
  · refine ⟨-nI 1, σ, μ, ?_, ?_, h0⟩
    · unfold fX9_code
      rw [h6]
      simp only [lit, if_true]
    · unfold fX10_code
      rw [m0]
      simp (disch := omega) only [lit, eqT, if_true]
theorem op_pass {σ μ : St} (h : IV σ μ) : Op (fX9_pass σ) (fX10_pass μ) := by
  have h0 := h
  rcases h with ⟨s, en, ba, ua, n, r, rm, ph, pd, W, hQ, hP⟩ | ⟨rm, W, hA, hK, h6, m0, h14, m22⟩
  · have m0 : μ 0 0 = nI 1 := hQ.2.2.1.2.2.2.2.2.2.2.2.2.2.2.2
    obtain ⟨p1, p2, p3, p4, p5, p6, p7⟩ := hP
    have hn : n ≤ 24 := hQ.1.2.2.2.2.2.2.2.2.2.2.2.1
    by_cases hpd : pd = 0
    · refine ⟨nI 0, σ, μ, ?_, ?_, h0⟩
      · unfold fX9_pass
        rw [p4, hpd]
        simp (disch := omega) only [lit, eqT, if_true]
      · unfold fX10_pass
        rw [m0, p5, hpd]
        simp (disch := omega) only [lit, eqT, eqF, if_true, if_false]
    · obtain ⟨q1, q2, q3⟩ := p7 hpd
      obtain ⟨b, hb1, hb, hb5⟩ : ∃ b : Nat, b ≤ 1 ∧ μ 0 23 = nI b ∧ (s = 5 → b = 1) := by
        rcases q1 with q1 | q1
        · refine ⟨0, by decide, q1, fun e => ?_⟩
          have := q1.symm.trans (q2 e)
          exact absurd this (by decide)
        · exact ⟨1, by decide, q1, fun _ => rfl⟩
      obtain ⟨σ1, μ1, e1, e2, hQ1, g1, g2, g3, g4, g5⟩ := pass_ok hQ (by omega) p6 hb1 hb5 q3
      obtain ⟨σa, ha⟩ : ∃ z, z = up σ1 0 14 (nI 0) := ⟨_, rfl⟩
      obtain ⟨μa, hμa⟩ : ∃ z, z = up μ1 0 22 (nI 0) := ⟨_, rfl⟩
      refine ⟨nI 1, σa, μa, ?_, ?_, Or.inl ⟨s, en, ba, ua, n - pd, r, rm, ph, 0, _, hQ1.fr0 ?_ ?_, ⟨?_, ?_, p3, ?_, ?_, Nat.zero_le _, fun q => absurd rfl q⟩⟩⟩
      · unfold fX9_pass
        rw [p4]
        simp (disch := omega) only [lit, eqF, if_false, e1, bd_some, nm_def]
        rw [← ha]
      · unfold fX10_pass
        rw [m0, p5, hb]
        simp (disch := omega) only [lit, eqF, if_false, e2, bd_some, nm_def]
        rw [← hμa]
      · intro i k h
        rw [ha, up_fr _ _ _ _ _ (fun q => h ⟨q.1, Or.inr q.2⟩)]
      · intro i k h
        rw [hμa, up_fr _ _ _ _ _ (fun q => h ⟨q.1, Or.inr (Or.inl q.2)⟩)]
      · rw [ha, up_e2 (by decide), g1]; exact p1
      · rw [hμa, up_e2 (by decide), g3]; exact p2
      · rw [ha, up_eq]
      · rw [hμa, up_eq]
  · refine ⟨nI 0, σ, μ, ?_, ?_, h0⟩
    · unfold fX9_pass
      rw [h14]
      simp (disch := omega) only [lit, eqT, if_true]
    · unfold fX10_pass
      rw [m0]
      simp (disch := omega) only [lit, eqT, if_true]
