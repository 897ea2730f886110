/-! ===== the faults ===== -/
theorem c_over {σ : St} {s : Nat} (h5 : σ 0 5 = nI s) (hs : s ≤ 6) : ∃ σ1, fv_passedOver σ = some (nI 0, σ1) ∧ (2 ≤ s → s ≤ 4 → σ1 (s + 10) 2 = nI 0) ∧ (s = 5 → ∀ k, k < 4 → σ1 16 k = nI 0) ∧ ∀ i k, i ≠ 16 → ¬ (12 ≤ i ∧ i ≤ 14 ∧ k = 2) → σ1 i k = σ i k := by
  unfold fv_passedOver
  rw [h5]
  rcases (show s = 0 ∨ s = 1 ∨ s = 5 ∨ s = 6 ∨ (2 ≤ s ∧ s ≤ 4) by omega) with h | h | h | h | h
  · subst h
    exact ⟨σ, rfl, fun q => by omega, fun q => by omega, fun _ _ _ _ => rfl⟩
  · subst h
    refine ⟨σ, ?_, fun q => by omega, fun q => by omega, fun _ _ _ _ => rfl⟩
    simp (disch := omega) only [lit, eqT, eqF, if_true, if_false, fX0_passedOver]
  · subst h
    obtain ⟨σ1, e1, e2, e3⟩ := c_plain 16 σ
    refine ⟨σ1, ?_, fun _ q => by omega, fun _ => e2, fun i k a b => by rw [e3 i a]⟩
    unfold fX7_passedOver
    simp (disch := omega) only [lit, eqT, eqF, if_true, if_false, e1, bd_some]
  · subst h
    refine ⟨σ, ?_, fun _ q => by omega, fun q => by omega, fun _ _ _ _ => rfl⟩
    simp (disch := omega) only [lit, eqT, eqF, if_true, if_false, fX0_passedOver]
  · have key : fX6_passedOver (s + 10) σ = some (nI 0, up σ (s + 10) 2 0) := by
      unfold fX6_passedOver
      rw [nm_def]
      rfl
    refine ⟨up σ (s + 10) 2 0, ?_, fun _ _ => by rw [up_eq]; rfl, fun q => by omega, ?_⟩
    · rcases (show s = 2 ∨ s = 3 ∨ s = 4 by omega) with e | e | e
      · subst e
        simp (disch := omega) only [lit, eqT, eqF, if_true, if_false]
        exact key
      · subst e
        simp (disch := omega) only [lit, eqT, eqF, if_true, if_false]
        exact key
      · subst e
        simp (disch := omega) only [lit, eqT, eqF, if_true, if_false]
        exact key
    · intro i k a b
      by_cases e : i = s + 10
      · rw [e, up_e2 (by omega)]
      · rw [up_ne e]
def PC (σ σ1 : St) (s n t : Nat) (W : Nat → Nat) : Prop := InC σ1 (n - t) (fun i => W (i + t)) ∧ σ1 0 11 = σ 0 11 + nI t ∧ σ1 0 13 = σ 0 13 + nI 1 ∧ (2 ≤ s → s ≤ 4 → σ1 (s + 10) 2 = nI 0) ∧ (s = 5 → ∀ k, k < 4 → σ1 16 k = nI 0) ∧ ∀ i k, i ≠ 5 → i ≠ 16 → ¬ (12 ≤ i ∧ i ≤ 14 ∧ k = 2) → ¬ (i = 4 ∧ k = 1) → ¬ (i = 0 ∧ (k = 11 ∨ k = 13)) → σ1 i k = σ i k
def PM (μ μ1 : St) (n t b : Nat) (W : Nat → Nat) : Prop := InM μ1 (n - t) (fun i => W (i + t)) ∧ μ1 0 12 = μ 0 12 + nI t ∧ μ1 0 14 = μ 0 14 + nI 1 ∧ μ1 0 15 = nI 1 ∧ (b = 0 → ∀ k, 18 ≤ k → k ≤ 21 → μ1 0 k = μ 0 k) ∧ (b = 1 → ∀ k, 18 ≤ k → k ≤ 21 → μ1 0 k = nI 0) ∧ ∀ i k, i ≠ 2 → ¬ (i = 0 ∧ (k = 9 ∨ k = 12 ∨ k = 14 ∨ k = 15 ∨ (18 ≤ k ∧ k ≤ 21))) → μ1 i k = μ i k
theorem c_pass {σ : St} {s n t : Nat} {W : Nat → Nat} (h5 : σ 0 5 = nI s) (hs : s ≤ 6) (hC : InC σ n W) (hn : n ≤ 24) (ht : t ≤ n) : ∃ σ1, fX9_passOver σ (nI t) = some (nI 0, σ1) ∧ PC σ σ1 s n t W := by
  obtain ⟨σa, ea, t1, t2, t3⟩ := c_take hC hn ht
  obtain ⟨σb, hb⟩ : ∃ z, z = up σa 0 13 (σa 0 13 + nI 1) := ⟨_, rfl⟩
  have fb : ∀ i k, ¬ (i = 0 ∧ k = 13) → σb i k = σa i k := by
    intro i k h
    rw [hb]
    by_cases e : i = 0
    · rw [e, up_e2 (fun q => h ⟨e, q⟩)]
    · rw [up_ne e]
  obtain ⟨σ1, e1, d1, d2, d3⟩ := c_over (σ := σb) (by rw [fb 0 5 (by decide), t3 0 5 (by decide) (by decide) (by decide)]; exact h5) hs
  refine ⟨σ1, ?_, ?_, ?_, ?_, d1, d2, ?_⟩
  · unfold fX9_passOver
    rw [ea, bd_some]
    simp only [lit]
    rw [nm_def, ← hb, e1, bd_some]
  · exact t1.pt ((d3 4 1 (by decide) (by decide)).trans (fb 4 1 (by decide))) (fun i => (d3 5 i (by decide) (fun h => absurd h.1 (by decide))).trans (fb 5 i (fun h => absurd h.1 (by decide))))
  · rw [d3 0 11 (by decide) (by decide), fb 0 11 (by decide), t2]
  · rw [d3 0 13 (by decide) (by decide), hb, up_eq, t3 0 13 (by decide) (by decide) (by decide)]
  · intro i k c1 c2 c3 c4 c5
    rw [d3 i k c2 c3, fb i k (fun h => c5 ⟨h.1, Or.inr h.2⟩), t3 i k c1 c4 (fun h => c5 ⟨h.1, Or.inl h.2⟩)]
theorem r_pass {μ : St} {n t b tk : Nat} {W : Nat → Nat} (hM : InM μ n W) (hn : n ≤ 24) (h1 : 1 ≤ t) (ht : t ≤ n) (hb : b ≤ 1) (m15 : μ 0 15 = nI tk) (htk : tk ≤ 1) : ∃ μ1, fX10_passOver μ (nI t) (nI b) = some (nI 0, μ1) ∧ PM μ μ1 n t b W := by
  obtain ⟨μa, ea, t1, t2, t3, t4, t5⟩ := r_take hM hn ht m15 htk
  obtain ⟨μb, hμb⟩ : ∃ z, z = up μa 0 14 (μa 0 14 + nI 1) := ⟨_, rfl⟩
  have fb : ∀ i k, ¬ (i = 0 ∧ k = 14) → μb i k = μa i k := by
    intro i k h
    rw [hμb]
    by_cases e : i = 0
    · rw [e, up_e2 (fun q => h ⟨e, q⟩)]
    · rw [up_ne e]
  have e14 : μb 0 14 = μ 0 14 + nI 1 := by rw [hμb, up_eq, t5 0 14 (by decide) (by decide)]
  rcases (show b = 0 ∨ b = 1 by omega) with h | h
  · subst h
    refine ⟨μb, ?_, ?_, ?_, e14, ?_, ?_, fun q => absurd q (by decide), ?_⟩
    · unfold fX10_passOver
      rw [ea, bd_some]
      simp (disch := omega) only [lit, nm_def, eqT, if_true]
      rw [← hμb]
    · exact t1.pt (fb 0 9 (by decide)) (fun i => fb 2 i (fun h => absurd h.1 (by decide)))
    · rw [fb 0 12 (by decide), t2]
    · rw [fb 0 15 (by decide)]; exact t3 h1
    · intro _ k k1 k2
      rw [fb 0 k (by omega), t5 0 k (by decide) (by omega)]
    · intro i k c1 c2
      rw [fb i k (fun h => c2 ⟨h.1, by omega⟩), t5 i k c1 (fun h => c2 ⟨h.1, by omega⟩)]
  · subst h
    obtain ⟨μc, hμc⟩ : ∃ z, z = up (up (up (up μb 0 18 (nI 0)) 0 19 (nI 0)) 0 20 (nI 0)) 0 21 (nI 0) := ⟨_, rfl⟩
    have fc : ∀ i k, ¬ (i = 0 ∧ 18 ≤ k ∧ k ≤ 21) → μc i k = μb i k := by
      intro i k h
      rw [hμc]
      by_cases e : i = 0
      · rw [e, up_e2 (by omega), up_e2 (by omega), up_e2 (by omega), up_e2 (by omega)]
      · rw [up_ne e, up_ne e, up_ne e, up_ne e]
    refine ⟨μc, ?_, ?_, ?_, ?_, ?_, fun q => absurd q (by decide), ?_, ?_⟩
    · unfold fX10_passOver
      rw [ea, bd_some]
      simp (disch := omega) only [lit, nm_def, eqF, if_false]
      rw [← hμb, ← hμc]
    · exact (t1.pt (fb 0 9 (by decide)) (fun i => fb 2 i (fun h => absurd h.1 (by decide)))).pt (fc 0 9 (by decide)) (fun i => fc 2 i (fun h => absurd h.1 (by decide)))
    · rw [fc 0 12 (by decide), fb 0 12 (by decide), t2]
    · rw [fc 0 14 (by decide)]; exact e14
    · rw [fc 0 15 (by decide), fb 0 15 (by decide)]; exact t3 h1
    · intro _ k k1 k2
      rw [hμc]
      rcases (show k = 18 ∨ k = 19 ∨ k = 20 ∨ k = 21 by omega) with h | h | h | h
      · subst h
        rw [up_e2 (by decide), up_e2 (by decide), up_e2 (by decide), up_eq]
      · subst h
        rw [up_e2 (by decide), up_e2 (by decide), up_eq]
      · subst h
        rw [up_e2 (by decide), up_eq]
      · subst h
        rw [up_eq]
    · intro i k c1 c2
      rw [fc i k (fun h => c2 ⟨h.1, by omega⟩), fb i k (fun h => c2 ⟨h.1, by omega⟩), t5 i k c1 (fun h => c2 ⟨h.1, by omega⟩)]
/-- the first t units are passed over -/
theorem pass_ok {σ μ : St} {s en ba ua n r rm t b : Nat} {W : Nat → Nat} (hQ : RQ σ μ s en ba ua n r rm W) (h1 : 1 ≤ t) (ht : t ≤ n) (hb : b ≤ 1) (hb5 : s = 5 → b = 1) (hnB : ¬ BM μ s en) : ∃ σ1 μ1, fX9_passOver σ (nI t) = some (nI 0, σ1) ∧ fX10_passOver μ (nI t) (nI b) = some (nI 0, μ1) ∧ RQ σ1 μ1 s en ba ua (n - t) r rm (fun i => W (i + t)) ∧ σ1 0 6 = σ 0 6 ∧ σ1 0 14 = σ 0 14 ∧ μ1 0 7 = μ 0 7 ∧ μ1 0 22 = μ 0 22 ∧ ¬ BM μ1 s en := by
  obtain ⟨⟨a1, a2, a3, a4, a5, a6, a7, a8, a9, a10, a11, a12, a13, a14⟩, hK, hB, hS, hW⟩ := hQ
  obtain ⟨tk, gv, sw, sh, bg, bt, kp, f, ⟨b1, b2, b3, b4, b5, b6⟩, ⟨m15, m16, m17, m18, m19, m20, m21⟩, s5, s16, s2, s7⟩ := hS
  obtain ⟨σ1, ec, c1, c2, c3, c4, c5, cf⟩ := c_pass hB.1 hB.2.2.1 a7 a12 ht
  obtain ⟨μ1, em, m1, m2, m3, m4, m5, m6, mf⟩ := r_pass a8 a12 h1 ht hb m15 b1
  have n16 : μ1 0 16 = nI gv := by rw [mf 0 16 (by decide) (by decide)]; exact m16
  have hgv : s = 2 → en = 1 → gv = 1 := by
    intro e1 e2
    rcases (show gv = 0 ∨ gv = 1 by omega) with h | h
    · exact absurd ⟨e1, e2, by rw [m16, h]⟩ hnB
    · exact h
  have hS1 : ∃ sh2 bg2 bt2 kp2 : Nat, sh2 ≤ 1 ∧ bg2 ≤ 1 ∧ μ1 0 18 = nI sh2 ∧ μ1 0 19 = nI bg2 ∧ μ1 0 20 = nI bt2 ∧ μ1 0 21 = nI kp2 ∧ (s ≠ 5 → sh2 = 0 ∧ bg2 = 0) ∧ (s = 5 → sh2 = 0 ∧ bg2 = 0 ∧ bt2 = 0 ∧ kp2 = 0) := by
    rcases (show b = 0 ∨ b = 1 by omega) with h | h
    · have hm := m5 h
      exact ⟨sh, bg, bt, kp, b4, b5, by rw [hm 18 (by decide) (by decide)]; exact m18, by rw [hm 19 (by decide) (by decide)]; exact m19, by rw [hm 20 (by decide) (by decide)]; exact m20, by rw [hm 21 (by decide) (by decide)]; exact m21, s5, fun e => by have := hb5 e; omega⟩
    · have hm := m6 h
      exact ⟨0, 0, 0, 0, by decide, by decide, hm 18 (by decide) (by decide), hm 19 (by decide) (by decide), hm 20 (by decide) (by decide), hm 21 (by decide) (by decide), fun _ => ⟨rfl, rfl⟩, fun _ => ⟨rfl, rfl, rfl, rfl⟩⟩
  obtain ⟨sh2, bg2, bt2, kp2, n1, n2, n18, n19, n20, n21, ns5, ns7⟩ := hS1
  refine ⟨σ1, μ1, ec, em, ⟨⟨?_, ?_, ?_, ?_, ?_, ?_, c1, m1, ?_, ?_, ?_, by omega, a13, a14⟩, ?_, ?_, ⟨1, gv, sw, sh2, bg2, bt2, kp2, 0, ⟨by decide, b2, b3, n1, n2, by decide⟩, ⟨m4, n16, ?_, n18, n19, n20, n21⟩, ns5, ?_, ?_, ?_⟩, hW.sh ht⟩, ?_, ?_, ?_, ?_, ?_⟩
  · rw [c2, m2, a1]
  · rw [cf 0 12 (by decide) (by decide) (by decide) (by decide) (by decide), mf 0 13 (by decide) (by decide)]; exact a2
  · rw [c3, m3, a3]
  · rw [cf 0 10 (by decide) (by decide) (by decide) (by decide) (by decide)]; exact a4
  · rw [mf 0 6 (by decide) (by decide)]; exact a5
  · exact a6.fr (fun i => cf 2 i (by decide) (by decide) (fun h => absurd h.1 (by decide)) (fun h => absurd h.1 (by decide)) (fun h => absurd h.1 (by decide))) (fun i => mf 1 i (by decide) (fun h => absurd h.1 (by decide)))
  · rw [cf 6 1 (by decide) (by decide) (by decide) (by decide) (by decide)]; exact a9
  · rw [mf 0 11 (by decide) (by decide)]; exact a10
  · intro i hi
    rw [cf 7 i (by decide) (by decide) (fun h => absurd h.1 (by decide)) (fun h => absurd h.1 (by decide)) (fun h => absurd h.1 (by decide)), mf 3 i (by decide) (fun h => absurd h.1 (by decide))]
    exact a11 i hi
  · exact hK.fr (fun i k k1 k2 k3 => cf i k (by omega) (by omega) (by omega) (by omega) (by omega))
  · exact hB.fr (fun k k1 k2 k3 => cf 0 k (by decide) (by decide) (by omega) (by omega) (by omega)) (fun k hk => mf 0 k (by decide) (by omega))
  · rw [mf 0 17 (by decide) (by decide)]; exact m17
  · intro e1 e2
    obtain ⟨q1, q2, q3⟩ := s16 e1 e2
    refine ⟨c4 e1 e2, ?_, fun e => ⟨(q3 e).1, ?_⟩⟩
    · rw [cf (s + 10) 3 (by omega) (by omega) (by omega) (by omega) (by omega)]; exact q2
    · rw [cf (s + 10) 4 (by omega) (by omega) (by omega) (by omega) (by omega)]; exact (q3 e).2
  · intro e
    exact ⟨fun e2 => by rw [hgv e e2], fun _ => rfl⟩
  · intro e
    obtain ⟨z1, z2, z3, z4⟩ := ns7 e
    have w := c5 e
    rw [z1, z2, z3, z4]
    exact ⟨⟨by decide, fun _ => ⟨by decide, rfl⟩, fun _ => ⟨by decide, fun _ => rfl⟩⟩, w 0 (by decide), w 1 (by decide), w 2 (by decide), w 3 (by decide)⟩
  · exact cf 0 6 (by decide) (by decide) (by decide) (by decide) (by decide)
  · exact cf 0 14 (by decide) (by decide) (by decide) (by decide) (by decide)
  · exact mf 0 7 (by decide) (by decide)
  · exact mf 0 22 (by decide) (by decide)
  · intro q
    have h2 := n16.symm.trans q.2.2
    rw [hgv q.1 q.2.1] at h2
    exact absurd h2 (by decide)
/-- what is put, no units taken -/
theorem put_ok {σ μ : St} {s en ba ua n r rm k t : Nat} {W : Nat → Nat} {us : List Nat} (hQ : RQ σ μ s en ba ua n r rm W) (hv : Mv σ k t us) (hm : Mm μ us) (hl : us.length ≤ 4) (hf : us.length = 0 ∨ r + us.length ≤ rm) (hnB : ¬ BM μ s en) : ∃ σ1 μ1, fX9_putUnits σ = some (nI 0, σ1) ∧ fX10_putOut μ = some (nI 0, μ1) ∧ RQ σ1 μ1 s en ba ua n (r + us.length) rm W ∧ (∀ i k, i ≠ 7 → ¬ (i = 6 ∧ k = 1) → ¬ (i = 0 ∧ k = 12) → σ1 i k = σ i k) ∧ (∀ i k, i ≠ 3 → ¬ (i = 0 ∧ (k = 11 ∨ k = 13 ∨ k = 16)) → μ1 i k = μ i k) ∧ ¬ BM μ1 s en := by
  obtain ⟨⟨a1, a2, a3, a4, a5, a6, a7, a8, a9, a10, a11, a12, a13, a14⟩, hK, hB, hS, hW⟩ := hQ
  obtain ⟨tk, gv, sw, sh, bg, bt, kp, f, ⟨b1, b2, b3, b4, b5, b6⟩, ⟨m15, m16, m17, m18, m19, m20, m21⟩, s5, s16, s2, s7⟩ := hS
  obtain ⟨σ1, ec, pc⟩ := c_put hv hl a9 (by omega)
  obtain ⟨μ1, em, pm⟩ := r_put hm hl a10 (by omega)
  have hr := rdy a11 pc pm
  obtain ⟨c1, c2, c3, c4, cf⟩ := pc
  obtain ⟨m1, m2, m3, m4, m5, m6, mf⟩ := pm
  have hgv : s = 2 → en = 1 → gv = 1 := by
    intro e1 e2
    rcases (show gv = 0 ∨ gv = 1 by omega) with h | h
    · exact absurd ⟨e1, e2, by rw [m16, h]⟩ hnB
    · exact h
  obtain ⟨gv2, hg2, hg3, hg4⟩ : ∃ x, μ1 0 16 = nI x ∧ x ≤ 1 ∧ (gv = 1 → x = 1) := by
    by_cases h : us = []
    · exact ⟨gv, by rw [m5 h]; exact m16, b2, fun q => q⟩
    · exact ⟨1, m6 h, by decide, fun _ => rfl⟩
  refine ⟨σ1, μ1, ec, em, ⟨⟨?_, ?_, ?_, ?_, ?_, ?_, ?_, ?_, c1, m1, hr, a12, by omega, a14⟩, ?_, ?_, ⟨tk, gv2, sw, sh, bg, bt, kp, f, ⟨b1, hg3, b3, b4, b5, b6⟩, ⟨?_, hg2, ?_, ?_, ?_, ?_, ?_⟩, s5, ?_, ?_, ?_⟩, hW⟩, cf, mf, ?_⟩
  · rw [cf 0 11 (by decide) (by decide) (by decide), mf 0 12 (by decide) (by decide)]; exact a1
  · rw [c4, m4, a2]
  · rw [cf 0 13 (by decide) (by decide) (by decide), mf 0 14 (by decide) (by decide)]; exact a3
  · rw [cf 0 10 (by decide) (by decide) (by decide)]; exact a4
  · rw [mf 0 6 (by decide) (by decide)]; exact a5
  · exact a6.fr (fun i => cf 2 i (by decide) (fun h => absurd h.1 (by decide)) (fun h => absurd h.1 (by decide))) (fun i => mf 1 i (by decide) (fun h => absurd h.1 (by decide)))
  · exact a7.pt (cf 4 1 (by decide) (by decide) (by decide)) (fun i => cf 5 i (by decide) (fun h => absurd h.1 (by decide)) (fun h => absurd h.1 (by decide)))
  · exact a8.pt (mf 0 9 (by decide) (by decide)) (fun i => mf 2 i (by decide) (fun h => absurd h.1 (by decide)))
  · exact hK.fr (fun i k k1 k2 k3 => cf i k (by omega) (by omega) (by omega))
  · exact hB.fr (fun k k1 k2 k3 => cf 0 k (by decide) (by omega) (by omega)) (fun k hk => mf 0 k (by decide) (by omega))
  · rw [mf 0 15 (by decide) (by decide)]; exact m15
  · rw [mf 0 17 (by decide) (by decide)]; exact m17
  · rw [mf 0 18 (by decide) (by decide)]; exact m18
  · rw [mf 0 19 (by decide) (by decide)]; exact m19
  · rw [mf 0 20 (by decide) (by decide)]; exact m20
  · rw [mf 0 21 (by decide) (by decide)]; exact m21
  · intro e1 e2
    obtain ⟨q1, q2, q3⟩ := s16 e1 e2
    refine ⟨?_, ?_, fun e => ⟨(q3 e).1, ?_⟩⟩
    · rw [cf (s + 10) 2 (by omega) (by omega) (by omega)]; exact q1
    · rw [cf (s + 10) 3 (by omega) (by omega) (by omega)]; exact q2
    · rw [cf (s + 10) 4 (by omega) (by omega) (by omega)]; exact (q3 e).2
  · intro e
    refine ⟨fun e2 => ?_, (s2 e).2⟩
    have h1 := (s2 e).1 e2
    have h2 := hgv e e2
    rw [hg4 h2]
    omega
  · intro e
    rw [cf 16 0 (by decide) (by decide) (by decide), cf 16 1 (by decide) (by decide) (by decide), cf 16 2 (by decide) (by decide) (by decide), cf 16 3 (by decide) (by decide) (by decide)]
    exact s7 e
  · intro q
    have h2 := hg2.symm.trans q.2.2
    rw [hg4 (hgv q.1 q.2.1)] at h2
    exact absurd h2 (by decide)
/-- what is put in place of a fault -/
theorem repl_ok {σ μ : St} {s en ba ua n r rm k t : Nat} {W : Nat → Nat} (hQ : RQ σ μ s en ba ua n r rm W) (hv : Mv σ k t []) : ∃ σ1 μ1 us, fX9_addReplacement σ = some (nI 0, σ1) ∧ fX10_replacement μ = some (nI 0, μ1) ∧ us.length ≤ 2 ∧ Mv σ1 k t us ∧ Mm μ1 us ∧ F8 σ σ1 ∧ FR μ μ1 := by
  obtain ⟨-, hK, hB, hS, -⟩ := hQ
  obtain ⟨h5, hm1, hs, h7, hm2, hen, -⟩ := hB
  obtain ⟨μa, ha⟩ : ∃ z, z = up μ 0 26 (nI 0) := ⟨_, rfl⟩
  have fa : FR μ μa := by
    rw [ha]
    exact ⟨fun i a _ => up_ne a, fun k a => up_e2 a⟩
  have ma : Mm μa [] := by
    rw [ha]
    exact ⟨up_eq, fun i h => absurd h (Nat.not_lt_zero i)⟩
  have a1 : μa 0 1 = nI s := by rw [fa.2 1 (by decide)]; exact hm1
  have a2 : μa 0 2 = nI en := by rw [fa.2 2 (by decide)]; exact hm2
  have one : ∀ x : Nat, fX9_addReplacement σ = bd (fX1_add σ (nI x)) (fun _ σ2 => some (nI 0, σ2)) → fX10_replacement μ = bd (fX10_result μa (nI x)) (fun _ σ11 => some (nI 0, σ11)) → ∃ σ1 μ1 us, fX9_addReplacement σ = some (nI 0, σ1) ∧ fX10_replacement μ = some (nI 0, μ1) ∧ us.length ≤ 2 ∧ Mv σ1 k t us ∧ Mm μ1 us ∧ F8 σ σ1 ∧ FR μ μ1 := by
    intro x e1 e2
    obtain ⟨σ1, s1, m1, f1⟩ := mv_add hv (by simp) x
    obtain ⟨μ1, g1, n1, t1⟩ := mm_add ma (by simp) x
    exact ⟨σ1, μ1, _, by rw [e1, s1, bd_some], by rw [e2, g1, bd_some], by simp, m1, n1, f1, fa.tr t1⟩
  rcases (show en = 0 ∨ en = 1 by omega) with he | he
  · subst he
    refine one 65533 ?_ ?_
    · unfold fX9_addReplacement
      rw [h7]
      simp (disch := omega) only [lit, eqT, if_true]
    · unfold fX10_replacement
      simp only [lit]
      rw [nm_def, ← ha, a2]
      simp (disch := omega) only [eqT, if_true]
  · subst he
    rcases (show s = 0 ∨ s = 1 ∨ s = 5 ∨ s = 6 ∨ (2 ≤ s ∧ s ≤ 4) by omega) with h | h | h | h | h
    · subst h
      refine one 63 ?_ ?_
      · unfold fX9_addReplacement fv_addReplacement fX0_addReplacement
        rw [h7, h5]
        simp (disch := omega) only [lit, eqT, eqF, if_true, if_false]
        cases fX1_add σ (nI 63) <;> rfl
      · unfold fX10_replacement
        simp only [lit]
        rw [nm_def, ← ha, a2, a1]
        simp (disch := omega) only [eqF, if_false, ltT, if_true]
    · subst h
      refine one 63 ?_ ?_
      · unfold fX9_addReplacement fv_addReplacement fX0_addReplacement
        rw [h7, h5]
        simp (disch := omega) only [lit, eqT, eqF, if_true, if_false]
        cases fX1_add σ (nI 63) <;> rfl
      · unfold fX10_replacement
        simp only [lit]
        rw [nm_def, ← ha, a2, a1]
        simp (disch := omega) only [eqF, if_false, ltT, if_true]
    · subst h
      refine one 63 ?_ ?_
      · unfold fX9_addReplacement fv_addReplacement fX0_addReplacement
        rw [h7, h5]
        simp (disch := omega) only [lit, eqT, eqF, if_true, if_false]
        cases fX1_add σ (nI 63) <;> rfl
      · unfold fX10_replacement
        simp only [lit]
        rw [nm_def, ← ha, a2, a1]
        simp (disch := omega) only [eqF, if_false, ltF, ltT, if_true]
    · subst h
      refine one 63 ?_ ?_
      · unfold fX9_addReplacement fv_addReplacement fX0_addReplacement
        rw [h7, h5]
        simp (disch := omega) only [lit, eqT, eqF, if_true, if_false]
        cases fX1_add σ (nI 63) <;> rfl
      · unfold fX10_replacement
        simp only [lit]
        rw [nm_def, ← ha, a2, a1]
        simp (disch := omega) only [eqF, if_false, ltF, ltT, if_true]
    · obtain ⟨tk, gv, sw, sh, bg, bt, kp, f, -, -, -, s16, -, -⟩ := hS
      obtain ⟨q1, q2, q3⟩ := s16 h.1 h.2
      rw [(q3 rfl).1] at q2
      have hx : (if s = 4 then 1 else 0 : Nat) ≤ 1 := by split <;> omega
      obtain ⟨σ1, s1, m1, f1⟩ := c_bytes (x := 63) hv (by simp) (show 12 ≤ s + 10 by omega) q2 hx (by decide)
      obtain ⟨μ1, g1, n1, t1⟩ := r_bytes (x := 63) ma (by simp) hx (by decide)
      refine ⟨σ1, μ1, _, ?_, ?_, ?_, m1, n1, f1, fa.tr t1⟩
      · unfold fX9_addReplacement fv_addReplacement fX6_addReplacement
        rw [h7, h5]
        rcases (show s = 2 ∨ s = 3 ∨ s = 4 by omega) with e | e | e
        · subst e
          simp (disch := omega) only [lit, eqT, eqF, if_true, if_false]
          rw [s1, bd_some, bd_some]
        · subst e
          simp (disch := omega) only [lit, eqT, eqF, if_true, if_false]
          rw [s1, bd_some, bd_some]
        · subst e
          simp (disch := omega) only [lit, eqT, eqF, if_true, if_false]
          rw [s1, bd_some, bd_some]
      · unfold fX10_replacement
        simp only [lit]
        rw [nm_def, ← ha, a2, a1]
        rcases (show s = 2 ∨ s = 3 ∨ s = 4 by omega) with e | e | e
        · subst e
          rw [if_neg (by omega)] at g1
          simp (disch := omega) only [eqF, if_false, ltF, g1, bd_some]
        · subst e
          rw [if_neg (by omega)] at g1
          simp (disch := omega) only [eqF, if_false, ltF, g1, bd_some]
        · subst e
          rw [if_pos rfl] at g1
          simp (disch := omega) only [eqF, eqT, if_true, if_false, ltF, g1, bd_some]
      · rw [List.length_append, by16_len]
        simp
