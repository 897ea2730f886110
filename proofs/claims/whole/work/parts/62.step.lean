/-! ===== the steps and the faults ===== -/
def RQ (σ μ : St) (s en ba ua n r rm : Nat) (W : Nat → Nat) : Prop := RA σ μ n r rm W ∧ RK σ ∧ RB σ μ s en ba ua ∧ RS σ μ s en ∧ RW en n W
def RP (σ μ : St) (s en n ph pd : Nat) : Prop := σ 0 6 = nI ph ∧ μ 0 7 = nI ph ∧ ph ≤ 3 ∧ σ 0 14 = nI pd ∧ μ 0 22 = nI pd ∧ pd ≤ n ∧ (pd ≠ 0 → (μ 0 23 = nI 0 ∨ μ 0 23 = nI 1) ∧ (s = 5 → μ 0 23 = nI 1) ∧ ¬ BM μ s en)
theorem PG.fr {σ σ1 μ μ1 : St} (h : PG σ μ) (a : ∀ i, σ1 2 i = σ 2 i) (b : ∀ i, μ1 1 i = μ 1 i) : PG σ1 μ1 := fun i hi => by rw [a i, b i]; exact h i hi
theorem RK.fr {σ σ1 : St} (h : RK σ) (a : ∀ i k, 10 ≤ i → i ≤ 14 → k ≤ 1 → σ1 i k = σ i k) : RK σ1 := by
  obtain ⟨h1, h2, h3, h4, h5, h6, h7, h8⟩ := h
  refine ⟨?_, ?_, ?_, ?_, ?_, ?_, ?_, ?_⟩
  · rw [a 10 0 (by omega) (by omega) (by omega)]; exact h1
  · rw [a 11 0 (by omega) (by omega) (by omega)]; exact h2
  · rw [a 12 0 (by omega) (by omega) (by omega)]; exact h3
  · rw [a 13 0 (by omega) (by omega) (by omega)]; exact h4
  · rw [a 14 0 (by omega) (by omega) (by omega)]; exact h5
  · rw [a 12 1 (by omega) (by omega) (by omega)]; exact h6
  · rw [a 13 1 (by omega) (by omega) (by omega)]; exact h7
  · rw [a 14 1 (by omega) (by omega) (by omega)]; exact h8
theorem RB.fr {σ σ1 μ μ1 : St} {s en ba ua : Nat} (h : RB σ μ s en ba ua) (a : ∀ k, 5 ≤ k → k ≤ 9 → k ≠ 6 → σ1 0 k = σ 0 k) (b : ∀ k, k ≤ 4 → μ1 0 k = μ 0 k) : RB σ1 μ1 s en ba ua := by
  obtain ⟨h1, h2, h3, h4, h5, h6, h7, h8, h9, h10, h11, h12, h13⟩ := h
  refine ⟨?_, ?_, h3, ?_, ?_, h6, ?_, ?_, h9, ?_, ?_, h12, ?_⟩
  · rw [a 5 (by omega) (by omega) (by omega)]; exact h1
  · rw [b 1 (by omega)]; exact h2
  · rw [a 7 (by omega) (by omega) (by omega)]; exact h4
  · rw [b 2 (by omega)]; exact h5
  · rw [a 8 (by omega) (by omega) (by omega)]; exact h7
  · rw [b 3 (by omega)]; exact h8
  · rw [a 9 (by omega) (by omega) (by omega)]; exact h10
  · rw [b 4 (by omega)]; exact h11
  · rw [b 0 (by omega)]; exact h13
/-- only what the looks write has changed -/
theorem RQ.sc {σ σ1 μ μ1 : St} {s en ba ua n r rm : Nat} {W : Nat → Nat} (h : RQ σ μ s en ba ua n r rm W) (fc : FC σ σ1) (fm : FM μ μ1) (h4 : en = 1 → 2 ≤ s → s ≤ 4 → σ1 (s + 10) 4 = σ (s + 10) 4) : RQ σ1 μ1 s en ba ua n r rm W := by
  obtain ⟨⟨a1, a2, a3, a4, a5, a6, a7, a8, a9, a10, a11, a12, a13, a14⟩, hK, hB, hS, hW⟩ := h
  have c0 : σ1 0 = σ 0 := fc.1 0 (by omega) (by omega) (by omega) (by omega) (by omega) (by omega)
  have c6 : σ1 6 = σ 6 := fc.1 6 (by omega) (by omega) (by omega) (by omega) (by omega) (by omega)
  have c7 : σ1 7 = σ 7 := fc.1 7 (by omega) (by omega) (by omega) (by omega) (by omega) (by omega)
  have c2 : σ1 2 = σ 2 := fc.1 2 (by omega) (by omega) (by omega) (by omega) (by omega) (by omega)
  have c16 : σ1 16 = σ 16 := fc.1 16 (by omega) (by omega) (by omega) (by omega) (by omega) (by omega)
  have m1 : μ1 1 = μ 1 := fm.1 1 (by omega) (by omega)
  have m3 : μ1 3 = μ 3 := fm.1 3 (by omega) (by omega)
  have m0 : ∀ k, k ≤ 23 → μ1 0 k = μ 0 k := fun k hk => fm.2 k (by omega) (by omega) (by omega) (by omega) (by omega) (by omega) (by omega)
  refine ⟨⟨?_, ?_, ?_, ?_, ?_, ?_, a7.fc fc, a8.fm fm, ?_, ?_, ?_, a12, a13, a14⟩, ?_, ?_, ?_, hW⟩
  · rw [c0, m0 12 (by omega)]; exact a1
  · rw [c0, m0 13 (by omega)]; exact a2
  · rw [c0, m0 14 (by omega)]; exact a3
  · rw [c0]; exact a4
  · rw [m0 6 (by omega)]; exact a5
  · exact a6.fr (fun i => by rw [c2]) (fun i => by rw [m1])
  · rw [c6]; exact a9
  · rw [m0 11 (by omega)]; exact a10
  · intro i hi
    rw [c7, m3]; exact a11 i hi
  · refine hK.fr (fun i k h1 h2 h3 => ?_)
    by_cases h : i ≤ 11
    · rw [fc.1 i (by omega) (by omega) (by omega) (by omega) (by omega) (by omega)]
    · exact fc.2 i k (by omega) (by omega) (by omega)
  · exact hB.fr (fun k _ _ _ => by rw [c0]) (fun k hk => m0 k (by omega))
  · obtain ⟨tk, gv, sw, sh, bg, bt, kp, f, hb, ⟨m15, m16, m17, m18, m19, m20, m21⟩, s5, s16, s2, s7⟩ := hS
    refine ⟨tk, gv, sw, sh, bg, bt, kp, f, hb, ⟨?_, ?_, ?_, ?_, ?_, ?_, ?_⟩, s5, ?_, s2, ?_⟩
    · rw [m0 15 (by omega)]; exact m15
    · rw [m0 16 (by omega)]; exact m16
    · rw [m0 17 (by omega)]; exact m17
    · rw [m0 18 (by omega)]; exact m18
    · rw [m0 19 (by omega)]; exact m19
    · rw [m0 20 (by omega)]; exact m20
    · rw [m0 21 (by omega)]; exact m21
    · intro e1 e2
      obtain ⟨q1, q2, q3⟩ := s16 e1 e2
      refine ⟨?_, ?_, fun e => ⟨(q3 e).1, ?_⟩⟩
      · rw [fc.2 (s + 10) 2 (by omega) (by omega) (by omega)]; exact q1
      · rw [fc.2 (s + 10) 3 (by omega) (by omega) (by omega)]; exact q2
      · rw [h4 e e1 e2]; exact (q3 e).2
    · intro e
      rw [c16]; exact s7 e
theorem RP.sc {σ σ1 μ μ1 : St} {s en n ph pd : Nat} (h : RP σ μ s en n ph pd) (fc : FC σ σ1) (fm : FM μ μ1) : RP σ1 μ1 s en n ph pd := by
  have c0 : σ1 0 = σ 0 := fc.1 0 (by omega) (by omega) (by omega) (by omega) (by omega) (by omega)
  have m0 : ∀ k, k ≤ 23 → μ1 0 k = μ 0 k := fun k hk => fm.2 k (by omega) (by omega) (by omega) (by omega) (by omega) (by omega) (by omega)
  unfold RP BM at *
  rw [c0, m0 7 (by omega), m0 22 (by omega), m0 23 (by omega), m0 16 (by omega)]
  exact h
theorem BM.sc {μ μ1 : St} {s en : Nat} (fm : FM μ μ1) : BM μ1 s en ↔ BM μ s en := by
  unfold BM
  rw [fm.2 16 (by omega) (by omega) (by omega) (by omega) (by omega) (by omega) (by omega)]
/-! does it fit -/
theorem c_fits {σ : St} {k t r rm : Nat} {us : List Nat} (hm : Mv σ k t us) (hl : us.length ≤ 4) (h10 : σ 0 10 = nI rm) (h6 : σ 6 1 = nI r) (hr : r ≤ 16) (hrm : rm ≤ 16) : ((us.length = 0 ∨ r + us.length ≤ rm) → fX9_fits σ = some (nI 1, σ)) ∧ (¬ (us.length = 0 ∨ r + us.length ≤ rm) → fX9_fits σ = some (nI 0, σ)) := by
  have hp := hm.2.2.1
  unfold fX9_fits fX5_count
  constructor
  · intro h
    by_cases h0 : us.length = 0
    · simp (disch := omega) only [lit, hp, eqT, if_true]
    · simp (disch := omega) only [lit, hp, h6, h10, eqF, if_false, bd_some, addN, ltF]
  · intro h
    simp (disch := omega) only [lit, hp, h6, h10, eqF, if_false, bd_some, addN, ltT, if_true]
theorem r_fits {μ : St} {r rm m : Nat} (hl : m ≤ 4) (h6 : μ 0 6 = nI rm) (h11 : μ 0 11 = nI r) (hr : r ≤ 16) (hrm : rm ≤ 16) : ((m = 0 ∨ r + m ≤ rm) → fX10_fits μ (nI m) = some (nI 1, μ)) ∧ (¬ (m = 0 ∨ r + m ≤ rm) → fX10_fits μ (nI m) = some (nI 0, μ)) := by
  unfold fX10_fits
  rw [h6, h11]
  constructor
  · intro h
    by_cases h0 : m = 0
    · simp (disch := omega) only [lit, eqT, if_true]
    · simp (disch := omega) only [lit, eqF, if_false, addN, ltF]
  · intro h
    simp (disch := omega) only [lit, eqF, if_false, addN, ltT, if_true]
/-! what a made step carries over -/
theorem zkN {n : Nat} (h : n ≤ 1) (k : Option (Int32 × St)) : zk (nI n) k = k := by
  rcases (show n = 0 ∨ n = 1 by omega) with e | e
  · rw [e, zk_0]
  · rw [e, zk_1]
theorem c_made {σ μ : St} {s en : Nat} (h5 : σ 0 5 = nI s) (hs : s ≤ 6) (hN : NX s en σ μ) : ∃ σ1, fv_stepMade σ = some (nI 0, σ1) ∧ (2 ≤ s → s ≤ 4 → σ1 (s + 10) 2 = nI 0 ∧ σ1 (s + 10) 3 = σ (s + 10) 4) ∧ (s = 5 → ∀ k, k < 4 → σ1 16 k = σ 17 k) ∧ ∀ i k, i ≠ 16 → ¬ (12 ≤ i ∧ i ≤ 14 ∧ (k = 2 ∨ k = 3)) → σ1 i k = σ i k := by
  obtain ⟨sh, bg, bt, kp, sw, ⟨hsh, hbg, hsw⟩, -, s5, s16, s7⟩ := hN
  unfold fv_stepMade
  rw [h5]
  rcases (show s = 0 ∨ s = 1 ∨ s = 5 ∨ s = 6 ∨ (2 ≤ s ∧ s ≤ 4) by omega) with h | h | h | h | h
  · subst h
    exact ⟨σ, rfl, fun q => by omega, fun q => by omega, fun _ _ _ _ => rfl⟩
  · subst h
    refine ⟨σ, ?_, fun q => by omega, fun q => by omega, fun _ _ _ _ => rfl⟩
    simp (disch := omega) only [lit, eqT, eqF, if_true, if_false, fX0_stepMade]
  · subst h
    obtain ⟨-, q0, q1, q2, q3⟩ := s7 rfl
    obtain ⟨σ1, e1, e2, e3⟩ := c_copy (j := 16) (j2 := 17) (by omega) q0 hsh q1 hbg
    refine ⟨σ1, ?_, fun _ q => by omega, fun _ => e2, fun i k a b => by rw [e3 i a]⟩
    unfold fX7_stepMade
    simp (disch := omega) only [lit, eqT, eqF, if_true, if_false, e1, bd_some]
  · subst h
    refine ⟨σ, ?_, fun _ q => by omega, fun q => by omega, fun _ _ _ _ => rfl⟩
    simp (disch := omega) only [lit, eqT, eqF, if_true, if_false, fX0_stepMade]
  · obtain ⟨q4, -⟩ := s16 h.1 h.2
    have hx : (if s = 4 then 1 else sw : Nat) ≤ 1 := by split <;> omega
    have key : fX6_stepMade (s + 10) σ = some (nI 0, up (up σ (s + 10) 2 0) (s + 10) 3 (σ (s + 10) 4)) := by
      unfold fX6_stepMade
      rw [nm_def, up_e2 (by omega), q4, zkN hx, nm_def]
      rfl
    refine ⟨up (up σ (s + 10) 2 0) (s + 10) 3 (σ (s + 10) 4), ?_, fun _ _ => ⟨?_, up_eq⟩, fun q => by omega, ?_⟩
    · rcases (show s = 2 ∨ s = 3 ∨ s = 4 by omega) with e | e | e
      · subst e
        simp (disch := omega) only [lit, eqT, eqF, if_true, if_false]
        exact key
      · subst e
        simp (disch := omega) only [lit, eqT, eqF, if_true, if_false]
        exact key
      · subst e
        simp (disch := omega) only [lit, eqT, eqF, if_true, if_false]
        exact key
    · rw [up_e2 (by omega), up_eq]
      rfl
    · intro i k a b
      by_cases e : i = s + 10
      · rw [e, up_e2 (by omega), up_e2 (by omega)]
      · rw [up_ne e, up_ne e]
theorem r_become {μ : St} {sh bg sw : Nat} (h27 : μ 0 27 = nI sh) (hsh : sh ≤ 1) (h28 : μ 0 28 = nI bg) (hbg : bg ≤ 1) (h31 : μ 0 31 = nI sw) (hsw : sw ≤ 1) : ∃ μ1, fX10_become μ = some (nI 0, μ1) ∧ μ1 0 18 = μ 0 27 ∧ μ1 0 19 = μ 0 28 ∧ μ1 0 20 = μ 0 29 ∧ μ1 0 21 = μ 0 30 ∧ μ1 0 17 = μ 0 31 ∧ ∀ i k, ¬ (i = 0 ∧ 17 ≤ k ∧ k ≤ 21) → μ1 i k = μ i k := by
  have z27 : ∀ k : Option (Int32 × St), zk (μ 0 27) k = k := fun k => by rw [h27, zkN hsh]
  have z28 : ∀ k : Option (Int32 × St), zk (μ 0 28) k = k := fun k => by rw [h28, zkN hbg]
  have z31 : ∀ k : Option (Int32 × St), zk (μ 0 31) k = k := fun k => by rw [h31, zkN hsw]
  obtain ⟨μ1, h1⟩ : ∃ z, z = up (up (up (up (up μ 0 18 (μ 0 27)) 0 19 (μ 0 28)) 0 20 (μ 0 29)) 0 21 (μ 0 30)) 0 17 (μ 0 31) := ⟨_, rfl⟩
  refine ⟨μ1, ?_, ?_, ?_, ?_, ?_, ?_, ?_⟩
  · unfold fX10_become
    simp (disch := omega) only [nm_def, up_e2, z27, z28, z31, ← h1]
    rfl
  · rw [h1]
    simp (disch := omega) only [up_e2, up_eq]
  · rw [h1]
    simp (disch := omega) only [up_e2, up_eq]
  · rw [h1]
    simp (disch := omega) only [up_e2, up_eq]
  · rw [h1]
    simp (disch := omega) only [up_e2, up_eq]
  · rw [h1]
    simp (disch := omega) only [up_eq]
  · intro i k h
    rw [h1]
    by_cases e : i = 0
    · subst e
      simp (disch := omega) only [up_e2]
    · simp (disch := omega) only [up_ne]
theorem InC.pt {σ σ1 : St} {n : Nat} {W : Nat → Nat} (h : InC σ n W) (a : σ1 4 1 = σ 4 1) (b : ∀ i, σ1 5 i = σ 5 i) : InC σ1 n W := ⟨by rw [a]; exact h.1, fun i hi => by rw [b i]; exact h.2 i hi⟩
theorem InM.pt {μ μ1 : St} {n : Nat} {W : Nat → Nat} (h : InM μ n W) (a : μ1 0 9 = μ 0 9) (b : ∀ i, μ1 2 i = μ 2 i) : InM μ1 n W := ⟨by rw [a]; exact h.1, fun i hi => by rw [b i]; exact h.2 i hi⟩
theorem Mv.pt {σ σ1 : St} {k t : Nat} {us : List Nat} (h : Mv σ k t us) (a : ∀ i, σ1 8 i = σ 8 i) (b : ∀ i, σ1 9 i = σ 9 i) : Mv σ1 k t us := ⟨by rw [a]; exact h.1, by rw [a]; exact h.2.1, by rw [a]; exact h.2.2.1, fun i hi => by rw [b]; exact h.2.2.2 i hi⟩
theorem rdy {σ σ1 μ μ1 : St} {r : Nat} {us : List Nat} (h : ∀ i, i < r → σ 7 i = μ 3 i) (a : PutC σ σ1 r us) (b : PutM μ μ1 r us) : ∀ i, i < r + us.length → σ1 7 i = μ1 3 i := by
  intro i hi
  by_cases h1 : i < r
  · rw [a.2.1 i h1, b.2.1 i h1]; exact h i h1
  · have h2 := a.2.2.1 (i - r) (by omega)
    have h3 := b.2.2.1 (i - r) (by omega)
    rw [show r + (i - r) = i by omega] at h2 h3
    rw [h2, h3]
theorem RW.sh {en n t : Nat} {W : Nat → Nat} (h : RW en n W) (ht : t ≤ n) : RW en (n - t) (fun i => W (i + t)) := fun i hi => h (i + t) (by omega)
def SC (σ σ1 : St) (s n r t : Nat) (us : List Nat) (W : Nat → Nat) : Prop := σ1 0 11 = σ 0 11 + nI t ∧ σ1 0 12 = σ 0 12 + nI us.length ∧ InC σ1 (n - t) (fun i => W (i + t)) ∧ σ1 6 1 = nI (r + us.length) ∧ (∀ i, i < r → σ1 7 i = σ 7 i) ∧ (∀ q, q < us.length → σ1 7 (r + q) = nI (us.getD q 0)) ∧ (2 ≤ s → s ≤ 4 → σ1 (s + 10) 2 = nI 0 ∧ σ1 (s + 10) 3 = σ (s + 10) 4) ∧ (s = 5 → ∀ k, k < 4 → σ1 16 k = σ 17 k) ∧ ∀ i k, i ≠ 5 → i ≠ 7 → i ≠ 16 → ¬ (12 ≤ i ∧ i ≤ 14 ∧ (k = 2 ∨ k = 3)) → ¬ (i = 4 ∧ k = 1) → ¬ (i = 6 ∧ k = 1) → ¬ (i = 0 ∧ (k = 11 ∨ k = 12)) → σ1 i k = σ i k
def SM (μ μ1 : St) (n r t tk gv : Nat) (us : List Nat) (W : Nat → Nat) : Prop := μ1 0 12 = μ 0 12 + nI t ∧ μ1 0 13 = μ 0 13 + nI us.length ∧ InM μ1 (n - t) (fun i => W (i + t)) ∧ μ1 0 11 = nI (r + us.length) ∧ (∀ i, i < r → μ1 3 i = μ 3 i) ∧ (∀ q, q < us.length → μ1 3 (r + q) = nI (us.getD q 0)) ∧ (μ1 0 17 = μ 0 31 ∧ μ1 0 18 = μ 0 27 ∧ μ1 0 19 = μ 0 28 ∧ μ1 0 20 = μ 0 29 ∧ μ1 0 21 = μ 0 30) ∧ (∃ x, μ1 0 15 = nI x ∧ x ≤ 1 ∧ (1 ≤ t → x = 1)) ∧ (∃ x, μ1 0 16 = nI x ∧ x ≤ 1 ∧ (us ≠ [] → x = 1) ∧ (us = [] → x = gv)) ∧ ∀ i k, i ≠ 2 → i ≠ 3 → ¬ (i = 0 ∧ (k = 9 ∨ k = 11 ∨ k = 12 ∨ k = 13 ∨ k = 15 ∨ k = 16 ∨ (17 ≤ k ∧ k ≤ 21))) → μ1 i k = μ i k
theorem step_C {σ μ : St} {s en n r rm t : Nat} {W : Nat → Nat} {us : List Nat} (h5 : σ 0 5 = nI s) (hs : s ≤ 6) (hC : InC σ n W) (hn : n ≤ 24) (h10 : σ 0 10 = nI rm) (h6 : σ 6 1 = nI r) (hr : r ≤ 16) (hrm : rm ≤ 16) (hv : Mv σ 1 t us) (hl : us.length ≤ 4) (ht : t ≤ n) (hN : NX s en σ μ) (hf : us.length = 0 ∨ r + us.length ≤ rm) : ∃ σ1, fX9_makeStep σ = some (-nI 2, σ1) ∧ SC σ σ1 s n r t us W := by
  obtain ⟨σa, ea, tc⟩ := c_take hC hn ht
  have va : Mv σa 1 t us := hv.pt (fun i => tc.2.2 8 i (by decide) (fun h => absurd h.1 (by decide)) (fun h => absurd h.1 (by decide))) (fun i => tc.2.2 9 i (by decide) (fun h => absurd h.1 (by decide)) (fun h => absurd h.1 (by decide)))
  obtain ⟨σb, eb, pc⟩ := c_put va hl (r := r) (by rw [tc.2.2 6 1 (by decide) (by decide) (by decide)]; exact h6) (by omega)
  have cab : ∀ i k, i ≠ 5 → i ≠ 7 → ¬ (i = 4 ∧ k = 1) → ¬ (i = 6 ∧ k = 1) → ¬ (i = 0 ∧ (k = 11 ∨ k = 12)) → σb i k = σ i k := fun i k c1 c2 c3 c4 c5 => (pc.2.2.2.2 i k c2 c4 (fun h => c5 ⟨h.1, Or.inr h.2⟩)).trans (tc.2.2 i k c1 c3 (fun h => c5 ⟨h.1, Or.inl h.2⟩))
  have hNb : NX s en σb μ := by
    obtain ⟨x1, x2, x3, x4, x5, y1, y2, y3, y4, y5⟩ := hN
    refine ⟨x1, x2, x3, x4, x5, y1, y2, y3, fun e1 e2 => ?_, fun e => ?_⟩
    · rw [cab (s + 10) 4 (by omega) (by omega) (by omega) (by omega) (by omega)]; exact y4 e1 e2
    · rw [cab 17 0 (by decide) (by decide) (by decide) (by decide) (by decide), cab 17 1 (by decide) (by decide) (by decide) (by decide) (by decide), cab 17 2 (by decide) (by decide) (by decide) (by decide) (by decide), cab 17 3 (by decide) (by decide) (by decide) (by decide) (by decide)]; exact y5 e
  obtain ⟨σ1, ec, d1, d2, d3⟩ := c_made (μ := μ) (by rw [cab 0 5 (by decide) (by decide) (by decide) (by decide) (by decide)]; exact h5) hs hNb
  refine ⟨σ1, ?_, ?_, ?_, ?_, ?_, ?_, ?_, ?_, ?_, ?_⟩
  · unfold fX9_makeStep
    rw [(c_fits hv hl h10 h6 hr hrm).1 hf, bd_some]
    simp (disch := omega) only [lit, eqF, if_false]
    rw [hv.2.1, ea, bd_some, eb, bd_some, ec, bd_some]
  · rw [d3 0 11 (by decide) (by decide), pc.2.2.2.2 0 11 (by decide) (by decide) (by decide), tc.2.1]
  · rw [d3 0 12 (by decide) (by decide), pc.2.2.2.1, tc.2.2 0 12 (by decide) (by decide) (by decide)]
  · exact tc.1.pt ((d3 4 1 (by decide) (by decide)).trans (pc.2.2.2.2 4 1 (by decide) (by decide) (by decide))) (fun i => (d3 5 i (by decide) (fun h => absurd h.1 (by decide))).trans (pc.2.2.2.2 5 i (by decide) (fun h => absurd h.1 (by decide)) (fun h => absurd h.1 (by decide))))
  · rw [d3 6 1 (by decide) (by decide)]; exact pc.1
  · intro i hi
    rw [d3 7 i (by decide) (fun h => absurd h.1 (by decide)), pc.2.1 i hi, tc.2.2 7 i (by decide) (fun h => absurd h.1 (by decide)) (fun h => absurd h.1 (by decide))]
  · intro i hi
    rw [d3 7 (r + i) (by decide) (fun h => absurd h.1 (by decide)), pc.2.2.1 i hi]
  · intro e1 e2
    refine ⟨(d1 e1 e2).1, ?_⟩
    rw [(d1 e1 e2).2, cab (s + 10) 4 (by omega) (by omega) (by omega) (by omega) (by omega)]
  · intro e k hk
    rw [d2 e k hk, cab 17 k (by decide) (by decide) (fun h => absurd h.1 (by decide)) (fun h => absurd h.1 (by decide)) (fun h => absurd h.1 (by decide))]
  · intro i k c1 c2 c3 c4 c5 c6 c7
    exact (d3 i k c3 c4).trans (cab i k c1 c2 c5 c6 c7)
theorem step_M {μ : St} {s en n r rm t tk gv : Nat} {σ : St} {W : Nat → Nat} {us : List Nat} (hM : InM μ n W) (hn : n ≤ 24) (h11 : μ 0 11 = nI r) (hr : r ≤ 16) (hrm : rm ≤ 16) (hm : Mm μ us) (hl : us.length ≤ 4) (h24 : μ 0 24 = nI t) (ht : t ≤ n) (m15 : μ 0 15 = nI tk) (b1 : tk ≤ 1) (m16 : μ 0 16 = nI gv) (b2 : gv ≤ 1) (hN : NX s en σ μ) (hf : us.length = 0 ∨ r + us.length ≤ rm) : ∃ μa μb μ1, fX10_putOut μ = some (nI 0, μa) ∧ μa 0 24 = nI t ∧ fX10_take μa (nI t) = some (nI 0, μb) ∧ fX10_become μb = some (nI 0, μ1) ∧ SM μ μ1 n r t tk gv us W := by
  obtain ⟨μa, ga, pm⟩ := r_put hm hl h11 (by omega)
  obtain ⟨pm1, pm2, pm3, pm4, pm5, pm6, pm7⟩ := id pm
  obtain ⟨μb, gb, tm⟩ := r_take (hM.pt (μ1 := μa) (pm7 0 9 (by decide) (by decide)) (fun i => pm7 2 i (by decide) (fun h => absurd h.1 (by decide)))) hn ht (tk := tk) (by rw [pm7 0 15 (by decide) (by decide)]; exact m15) b1
  obtain ⟨tm1, tm2, tm3, tm4, tm5⟩ := id tm
  have mab : ∀ i k, i ≠ 2 → i ≠ 3 → ¬ (i = 0 ∧ (k = 9 ∨ k = 11 ∨ k = 12 ∨ k = 13 ∨ k = 15 ∨ k = 16)) → μb i k = μ i k := fun i k c1 c2 c3 => (tm5 i k c1 (fun h => c3 ⟨h.1, by omega⟩)).trans (pm7 i k c2 (fun h => c3 ⟨h.1, by omega⟩))
  obtain ⟨nsh, nbg, nbt, nkp, nsw, ⟨n1, n2, n3⟩, ⟨m27, m28, m29, m30, m31⟩, -, -, -⟩ := hN
  obtain ⟨μ1, gc, u18, u19, u20, u21, u17, fu⟩ := r_become (μ := μb) (by rw [mab 0 27 (by decide) (by decide) (by decide)]; exact m27) n1 (by rw [mab 0 28 (by decide) (by decide) (by decide)]; exact m28) n2 (by rw [mab 0 31 (by decide) (by decide) (by decide)]; exact m31) n3
  refine ⟨μa, μb, μ1, ga, ?_, gb, gc, ?_, ?_, ?_, ?_, ?_, ?_, ⟨?_, ?_, ?_, ?_, ?_⟩, ?_, ?_, ?_⟩
  · rw [pm7 0 24 (by decide) (by decide)]; exact h24
  · rw [fu 0 12 (by decide), tm2, pm7 0 12 (by decide) (by decide)]
  · rw [fu 0 13 (by decide), tm5 0 13 (by decide) (by decide), pm4]
  · exact tm1.pt (fu 0 9 (by decide)) (fun i => fu 2 i (fun h => absurd h.1 (by decide)))
  · rw [fu 0 11 (by decide), tm5 0 11 (by decide) (by decide)]; exact pm1
  · intro i hi
    rw [fu 3 i (fun h => absurd h.1 (by decide)), tm5 3 i (by decide) (fun h => absurd h.1 (by decide)), pm2 i hi]
  · intro i hi
    rw [fu 3 (r + i) (fun h => absurd h.1 (by decide)), tm5 3 (r + i) (by decide) (fun h => absurd h.1 (by decide)), pm3 i hi]
  · rw [u17, mab 0 31 (by decide) (by decide) (by decide)]
  · rw [u18, mab 0 27 (by decide) (by decide) (by decide)]
  · rw [u19, mab 0 28 (by decide) (by decide) (by decide)]
  · rw [u20, mab 0 29 (by decide) (by decide) (by decide)]
  · rw [u21, mab 0 30 (by decide) (by decide) (by decide)]
  · by_cases h : 1 ≤ t
    · exact ⟨1, by rw [fu 0 15 (by decide)]; exact tm3 h, by omega, fun _ => rfl⟩
    · exact ⟨tk, by rw [fu 0 15 (by decide), tm4 (by omega), pm7 0 15 (by decide) (by decide)]; exact m15, b1, fun q => absurd q h⟩
  · by_cases h : us = []
    · exact ⟨gv, by rw [fu 0 16 (by decide), tm5 0 16 (by decide) (by decide), pm5 h]; exact m16, b2, fun q => absurd h q, fun _ => rfl⟩
    · exact ⟨1, by rw [fu 0 16 (by decide), tm5 0 16 (by decide) (by decide)]; exact pm6 h, by omega, fun _ => rfl, fun q => absurd q h⟩
  · intro i k c1 c2 c3
    exact (fu i k (fun h => c3 ⟨h.1, by omega⟩)).trans (mab i k c1 c2 (fun h => c3 ⟨h.1, by omega⟩))
theorem rdy2 {σ σ1 μ μ1 : St} {r : Nat} {us : List Nat} (h : ∀ i, i < r → σ 7 i = μ 3 i) (a1 : ∀ i, i < r → σ1 7 i = σ 7 i) (a2 : ∀ q, q < us.length → σ1 7 (r + q) = nI (us.getD q 0)) (b1 : ∀ i, i < r → μ1 3 i = μ 3 i) (b2 : ∀ q, q < us.length → μ1 3 (r + q) = nI (us.getD q 0)) : ∀ i, i < r + us.length → σ1 7 i = μ1 3 i := by
  intro i hi
  by_cases h1 : i < r
  · rw [a1 i h1, b1 i h1]; exact h i h1
  · have h2 := a2 (i - r) (by omega)
    have h3 := b2 (i - r) (by omega)
    rw [show r + (i - r) = i by omega] at h2 h3
    rw [h2, h3]
theorem step_A {σ σ1 μ μ1 : St} {s n r rm t tk gv : Nat} {W : Nat → Nat} {us : List Nat} (hA : RA σ μ n r rm W) (hc : SC σ σ1 s n r t us W) (hm : SM μ μ1 n r t tk gv us W) (hf : us.length = 0 ∨ r + us.length ≤ rm) : RA σ1 μ1 (n - t) (r + us.length) rm (fun i => W (i + t)) := by
  obtain ⟨a1, a2, a3, a4, a5, a6, a7, a8, a9, a10, a11, a12, a13, a14⟩ := hA
  obtain ⟨c1, c2, c3, c4, c5, c6, -, -, cf⟩ := hc
  obtain ⟨m1, m2, m3, m4, m5, m6, -, -, -, mf⟩ := hm
  refine ⟨by rw [c1, m1, a1], by rw [c2, m2, a2], ?_, ?_, ?_, ?_, c3, m3, c4, m4, rdy2 a11 c5 c6 m5 m6, by omega, by omega, a14⟩
  · rw [cf 0 13 (by decide) (by decide) (by decide) (by decide) (by decide) (by decide) (by decide), mf 0 14 (by decide) (by decide) (by decide)]; exact a3
  · rw [cf 0 10 (by decide) (by decide) (by decide) (by decide) (by decide) (by decide) (by decide)]; exact a4
  · rw [mf 0 6 (by decide) (by decide) (by decide)]; exact a5
  · exact a6.fr (fun i => cf 2 i (by decide) (by decide) (by decide) (fun h => absurd h.1 (by decide)) (fun h => absurd h.1 (by decide)) (fun h => absurd h.1 (by decide)) (fun h => absurd h.1 (by decide))) (fun i => mf 1 i (by decide) (by decide) (fun h => absurd h.1 (by decide)))
theorem step_S {σ σ1 μ μ1 : St} {s en n r t tk gv : Nat} {W : Nat → Nat} {us : List Nat} (hc : SC σ σ1 s n r t us W) (hm : SM μ μ1 n r t tk gv us W) (m16 : μ 0 16 = nI gv) (b2 : gv ≤ 1) (h0 : t = 0 → BM μ s en) (hb : BM μ s en → us ≠ []) (hN : NX s en σ μ) : RS σ1 μ1 s en ∧ ¬ BM μ1 s en := by
  obtain ⟨-, -, -, -, -, -, d1, d2, cf⟩ := hc
  obtain ⟨-, -, -, -, -, -, ⟨u17, u18, u19, u20, u21⟩, ⟨tk2, ht2, ht3, ht4⟩, ⟨gv2, hg2, hg3, hg4, hg5⟩, -⟩ := hm
  obtain ⟨nsh, nbg, nbt, nkp, nsw, ⟨n1, n2, n3⟩, ⟨m27, m28, m29, m30, m31⟩, ns5, ns16, ns7⟩ := hN
  have hgv2 : s = 2 → en = 1 → gv2 = 1 := by
    intro e1 e2
    by_cases hu : us = []
    · rcases (show gv = 0 ∨ gv = 1 by omega) with h | h
      · exact absurd hu (hb ⟨e1, e2, by rw [m16, h]⟩)
      · rw [hg5 hu]; exact h
    · exact hg4 hu
  refine ⟨⟨tk2, gv2, nsw, nsh, nbg, nbt, nkp, 0, ⟨ht3, hg3, n3, n1, n2, Nat.zero_le 1⟩, ⟨ht2, hg2, by rw [u17]; exact m31, by rw [u18]; exact m27, by rw [u19]; exact m28, by rw [u20]; exact m29, by rw [u21]; exact m30⟩, ns5, ?_, ?_, ?_⟩, ?_⟩
  · intro e1 e2
    obtain ⟨v4, v5⟩ := ns16 e1 e2
    refine ⟨(d1 e1 e2).1, by rw [(d1 e1 e2).2]; exact v4, fun e => ⟨v5 e, ?_⟩⟩
    rw [cf (s + 10) 4 (by omega) (by omega) (by omega) (by omega) (by omega) (by omega) (by omega), v4, v5 e]
  · intro e
    refine ⟨fun e2 => by rw [hgv2 e e2], fun e2 => ?_⟩
    have : 1 ≤ t := by
      rcases (show t = 0 ∨ 1 ≤ t by omega) with h | h
      · have := (h0 h).2.1
        omega
      · exact h
    rw [ht4 this]
  · intro e
    obtain ⟨i7, v0, v1, v2, v3⟩ := ns7 e
    have w := d2 e
    exact ⟨i7, by rw [w 0 (by decide)]; exact v0, by rw [w 1 (by decide)]; exact v1, by rw [w 2 (by decide)]; exact v2, by rw [w 3 (by decide)]; exact v3⟩
  · intro q
    have h1 := hgv2 q.1 q.2.1
    have h2 := hg2.symm.trans q.2.2
    rw [h1] at h2
    exact absurd h2 (by decide)
/-- a step that fits -/
theorem step_ok {σ μ : St} {s en ba ua n r rm ph t : Nat} {W : Nat → Nat} {us : List Nat} (hQ : RQ σ μ s en ba ua n r rm W) (hP : RP σ μ s en n ph 0) (hv : Mv σ 1 t us) (hm : Mm μ us) (hl : us.length ≤ 4) (h24 : μ 0 24 = nI t) (ht : t ≤ n) (h0 : t = 0 → BM μ s en) (hb : BM μ s en → us ≠ []) (hN : NX s en σ μ) (hf : us.length = 0 ∨ r + us.length ≤ rm) : ∃ σ1 μa μb μ1, fX9_makeStep σ = some (-nI 2, σ1) ∧ fX10_putOut μ = some (nI 0, μa) ∧ μa 0 24 = nI t ∧ fX10_take μa (nI t) = some (nI 0, μb) ∧ fX10_become μb = some (nI 0, μ1) ∧ RQ σ1 μ1 s en ba ua (n - t) (r + us.length) rm (fun i => W (i + t)) ∧ RP σ1 μ1 s en (n - t) ph 0 ∧ ¬ BM μ1 s en := by
  obtain ⟨hA, hK, hB, hS, hW⟩ := hQ
  have hA0 := hA
  obtain ⟨a1, a2, a3, a4, a5, a6, a7, a8, a9, a10, a11, a12, a13, a14⟩ := hA0
  obtain ⟨tk, gv, sw, sh, bg, bt, kp, f, ⟨b1, b2, -⟩, ⟨m15, m16, -⟩, -⟩ := hS
  obtain ⟨σ1, ec, sc⟩ := step_C hB.1 hB.2.2.1 a7 a12 a4 a9 a13 a14 hv hl ht hN hf
  obtain ⟨μa, μb, μ1, g1, g2, g3, g4, sm⟩ := step_M a8 a12 a10 a13 a14 hm hl h24 ht m15 b1 m16 b2 hN hf
  obtain ⟨hS1, hnB⟩ := step_S sc sm m16 b2 h0 hb hN
  have cf := sc.2.2.2.2.2.2.2.2
  have mf := sm.2.2.2.2.2.2.2.2.2
  refine ⟨σ1, μa, μb, μ1, ec, g1, g2, g3, g4, ⟨step_A hA sc sm hf, ?_, ?_, hS1, hW.sh ht⟩, ⟨?_, ?_, hP.2.2.1, ?_, ?_, Nat.zero_le _, fun q => absurd rfl q⟩, hnB⟩
  · exact hK.fr (fun i k c1 c2 c3 => cf i k (by omega) (by omega) (by omega) (by omega) (by omega) (by omega) (by omega))
  · exact hB.fr (fun k c1 c2 c3 => cf 0 k (by decide) (by decide) (by decide) (by omega) (by omega) (by omega) (by omega)) (fun k hk => mf 0 k (by decide) (by decide) (by omega))
  · rw [cf 0 6 (by decide) (by decide) (by decide) (by decide) (by decide) (by decide) (by decide)]; exact hP.1
  · rw [mf 0 7 (by decide) (by decide) (by decide)]; exact hP.2.1
  · rw [cf 0 14 (by decide) (by decide) (by decide) (by decide) (by decide) (by decide) (by decide)]; exact hP.2.2.2.1
  · rw [mf 0 22 (by decide) (by decide) (by decide)]; exact hP.2.2.2.2.1
