/-! ===== flush ===== -/
theorem fin_ok {σ μ : St} {s en ba ua n r rm ph pd : Nat} {W : Nat → Nat} (hQ : RQ σ μ s en ba ua n r rm W) (hP : RP σ μ s en n ph pd) : IV (up σ 0 6 (nI 3)) (up μ 0 7 (nI 3)) := by
  have f8 : ∀ i k, ¬ (i = 0 ∧ k = 6) → up σ 0 6 (nI 3) i k = σ i k := fun i k h => up_fr σ 6 _ i k h
  have fm : ∀ i k, ¬ (i = 0 ∧ k = 7) → up μ 0 7 (nI 3) i k = μ i k := fun i k h => up_fr μ 7 _ i k h
  obtain ⟨p1, p2, p3, p4, p5, p6, p7⟩ := hP
  refine Or.inl ⟨s, en, ba, ua, n, r, rm, 3, pd, W, hQ.fr0 (fun i k h => f8 i k (by omega)) (fun i k h => fm i k (by omega)), up_eq, up_eq, by decide, ?_, ?_, p6, ?_⟩
  · rw [f8 0 14 (by decide)]; exact p4
  · rw [fm 0 22 (by decide)]; exact p5
  · unfold BM
    rw [fm 0 23 (by decide), fm 0 16 (by decide)]
    exact p7
theorem fl_C {σ : St} {ph : Nat} (h6 : σ 0 6 = nI ph) (h : ph = 2 ∨ ph = 3) : fX9_flush σ = fX9_flush_b18 σ := by
  unfold fX9_flush
  rw [h6]
  rcases h with h | h
  · rw [h]
    simp (disch := omega) only [lit, eqT, if_true]
  · rw [h]
    simp (disch := omega) only [lit, eqT, eqF, if_true, if_false]
theorem op_flush5 {σ μ : St} {ba ua n r rm ph pd : Nat} {W : Nat → Nat} (hQ : RQ σ μ 5 1 ba ua n r rm W) (hP : RP σ μ 5 1 n ph pd) (hph : ph = 2 ∨ ph = 3) (h18 : μ 0 18 = nI 1) : Op (fX9_flush σ) (fX10_flush μ) := by
  have hQ0 := hQ
  obtain ⟨hA, hK, hB, ⟨tk, gv, sw, sh, bg, bt, kp, f, ⟨b1, b2, b3, b4, b5, b6⟩, ⟨m15, m16, m17, m18, m19, m20, m21⟩, s5, s16, s2, s7⟩, hW⟩ := hQ
  obtain ⟨⟨i1, i2, i3⟩, c0, c1, c2, c3⟩ := s7 rfl
  have m0 : μ 0 0 = nI 1 := hB.2.2.2.2.2.2.2.2.2.2.2.2
  have b7 := hB.2.2.2.1
  have bm2 := hB.2.2.2.2.1
  have hsh : sh = 1 := (nI_eq (by omega) (by omega)).mp (m18.symm.trans h18)
  obtain ⟨hbt, hbg⟩ := i2 rfl
  -- the class: what is left is put as a step
  obtain ⟨σa, sa, va, fa⟩ := mv_step σ 0
  have a16 : σa 16 = σ 16 := fa 16 (by decide) (by decide)
  obtain ⟨σb, sb, vb, z17, fb⟩ := c_leave (bt := bt) (kp := kp) (by rw [a16]; exact c2) (by rw [a16]; exact c3) hbt i1 va (by simp)
  -- the reference
  obtain ⟨μa, ha⟩ : ∃ z, z = up μ 0 26 (nI 0) := ⟨_, rfl⟩
  have fra : FR μ μa := by
    rw [ha]
    exact ⟨fun i a _ => up_ne a, fun k a => up_e2 a⟩
  have ma : Mm μa [] := by
    rw [ha]
    exact ⟨up_eq, fun i h => absurd h (Nat.not_lt_zero i)⟩
  obtain ⟨μb, gb, mb, u27, u29, u30, u28, u31, fmb⟩ := r_unsh (μ := μa) (by rw [fra.2 20 (by decide)]; exact m20) (by rw [fra.2 21 (by decide)]; exact m21) hbt i1 ma (by simp)
  have hl := ls7_len bt kp
  rw [List.nil_append] at vb mb
  generalize ls7 bt kp = us at *
  have hQb := hQ0.sc (fa.fc.tr fb.fc) (fra.fm.tr fmb) (fun _ _ q => absurd q (by decide))
  have hPb := hP.sc (fa.fc.tr fb.fc) (fra.fm.tr fmb)
  obtain ⟨hAb, hKb, hBb, hSb, hWb⟩ := hQb
  have hAb0 := hAb
  obtain ⟨a1, a2, a3, a4, a5, a6, a7, a8, a9, a10, a11, a12, a13, a14⟩ := hAb
  have hcf := c_fits vb (by omega) a4 a9 a13 a14
  have hrf := r_fits (m := us.length) (by omega) a5 a10 a13 a14
  have hfin : fv_finish σ = some (nI 1, σb) := by
    unfold fv_finish fX7_finish
    rw [hB.1, c0, hsh]
    simp (disch := omega) only [lit, eqT, eqF, if_true, if_false, sa, sb, bd_some]
  have cC : fX9_flush σ = bd (fX9_makeStep σb) (fun v5 σ6 => (if v5 = 1 then some (1, σ6) else nm (up σ6 0 6 3) (fun σ7 => some (0, σ7)))) := by
    rw [fl_C hP.1 hph]
    unfold fX9_flush_b18
    rw [b7, hfin, bd_some]
    simp (disch := omega) only [lit, eqF, if_false]
  have cM : fX10_flush μ = bd (fX10_fits μb (μb 0 26)) (fun v7 σ8 => (if v7 = nI 0 then some (nI 1, σ8) else bd (fX10_putOut σ8) (fun _ σ10 => nm (up σ10 0 18 (nI 0)) (fun σ11 => nm (up σ11 0 20 (nI 0)) (fun σ12 => nm (up σ12 0 21 (nI 0)) (fun σ13 => nm (up σ13 0 7 (nI 3)) (fun σ14 => some (nI 0, σ14)))))))) := by
    unfold fX10_flush
    rw [m0, hP.2.1, bm2, hB.2.1, h18]
    have hle : (nI 2 ≤ nI ph) = True := leT (by omega) (by omega)
    simp (disch := omega) only [lit, eqT, eqF, hle, if_true, if_false, nm_def]
    rw [← ha, gb, bd_some]
  by_cases hf : us.length = 0 ∨ r + us.length ≤ rm
  · have hNz : NX 5 1 σb z0 := ⟨0, 0, 0, 0, 0, ⟨by decide, by decide, by decide⟩, ⟨rfl, rfl, rfl, rfl, rfl⟩, fun q => absurd rfl q, fun _ q => absurd q (by decide), fun _ => ⟨⟨by decide, fun _ => ⟨by decide, rfl⟩, fun q => absurd q (by decide)⟩, z17 0 (by decide), z17 1 (by decide), z17 2 (by decide), z17 3 (by decide)⟩⟩
    obtain ⟨σ1, e1, sc⟩ := step_C (t := 0) hBb.1 (by decide) a7 a12 a4 a9 a13 a14 vb (by omega) (Nat.zero_le n) hNz hf
    obtain ⟨q1, q2, q3, q4, q5, q6, -, q8, cf⟩ := sc
    have q8 := q8 rfl
    obtain ⟨μc, gc, pm⟩ := r_put mb (by omega) a10 (by omega)
    obtain ⟨r1, r2, r3, r4, r5, r6, mf⟩ := pm
    obtain ⟨μd, hμd⟩ : ∃ z, z = up (up (up μc 0 18 (nI 0)) 0 20 (nI 0)) 0 21 (nI 0) := ⟨_, rfl⟩
    have fd : ∀ i k, ¬ (i = 0 ∧ (k = 18 ∨ k = 20 ∨ k = 21)) → μd i k = μc i k := by
      intro i k h
      rw [hμd, up_fr _ _ _ _ _ (fun q => h ⟨q.1, Or.inr (Or.inr q.2)⟩), up_fr _ _ _ _ _ (fun q => h ⟨q.1, Or.inr (Or.inl q.2)⟩), up_fr _ _ _ _ _ (fun q => h ⟨q.1, Or.inl q.2⟩)]
    have fm : ∀ i k, i ≠ 3 → ¬ (i = 0 ∧ (k = 11 ∨ k = 13 ∨ k = 16 ∨ k = 18 ∨ k = 20 ∨ k = 21)) → μd i k = μb i k := fun i k x1 x2 => (fd i k (fun h => x2 ⟨h.1, by omega⟩)).trans (mf i k x1 (fun h => x2 ⟨h.1, by omega⟩))
    obtain ⟨gv2, hg2, hg3⟩ : ∃ x, μd 0 16 = nI x ∧ x ≤ 1 := by
      by_cases h : us = []
      · obtain ⟨tk', gv', sw', sh', bg', bt', kp', f', ⟨-, y2, -⟩, ⟨-, y16, -⟩, -⟩ := hSb
        exact ⟨gv', by rw [fd 0 16 (by decide), r5 h]; exact y16, y2⟩
      · exact ⟨1, by rw [fd 0 16 (by decide)]; exact r6 h, by decide⟩
    have hBk : ∀ k, k ≤ 23 → μb 0 k = μ 0 k := fun k hk => (fra.fm.tr fmb).2 k (by omega) (by omega) (by omega) (by omega) (by omega) (by omega) (by omega)
    have hQ1 : RQ σ1 μd 5 1 ba ua n (r + us.length) rm W := by
      refine ⟨⟨?_, ?_, ?_, ?_, ?_, ?_, q3, ?_, q4, ?_, ?_, a12, by omega, a14⟩, ?_, ?_, ⟨tk, gv2, sw, 0, 0, 0, 0, 0, ⟨b1, hg3, b3, by decide, by decide, by decide⟩, ⟨?_, hg2, ?_, ?_, ?_, ?_, ?_⟩, fun q => absurd rfl q, fun _ q => absurd q (by decide), fun q => absurd q (by decide), fun _ => ⟨⟨by decide, fun _ => ⟨by decide, rfl⟩, fun q => absurd q (by decide)⟩, ?_, ?_, ?_, ?_⟩⟩, hWb⟩
      · rw [q1, fm 0 12 (by decide) (by decide), show nI 0 = (0 : Int32) from rfl, Int32.add_zero]; exact a1
      · rw [q2, fd 0 13 (by decide), r4, a2]
      · rw [cf 0 13 (by decide) (by decide) (by decide) (by decide) (by decide) (by decide) (by decide), fm 0 14 (by decide) (by decide)]; exact a3
      · rw [cf 0 10 (by decide) (by decide) (by decide) (by decide) (by decide) (by decide) (by decide)]; exact a4
      · rw [fm 0 6 (by decide) (by decide)]; exact a5
      · exact a6.fr (fun i => cf 2 i (by decide) (by decide) (by decide) (fun h => absurd h.1 (by decide)) (fun h => absurd h.1 (by decide)) (fun h => absurd h.1 (by decide)) (fun h => absurd h.1 (by decide))) (fun i => fm 1 i (by decide) (fun h => absurd h.1 (by decide)))
      · exact a8.pt (fm 0 9 (by decide) (by decide)) (fun i => fm 2 i (by decide) (fun h => absurd h.1 (by decide)))
      · rw [fd 0 11 (by decide)]; exact r1
      · intro i hi
        rw [fd 3 i (fun h => absurd h.1 (by decide))]
        exact rdy2 a11 q5 q6 r2 r3 i hi
      · exact hKb.fr (fun i k k1 k2 k3 => cf i k (by omega) (by omega) (by omega) (by omega) (by omega) (by omega) (by omega))
      · exact hBb.fr (fun k k1 k2 k3 => cf 0 k (by decide) (by decide) (by decide) (by omega) (by omega) (by omega) (by omega)) (fun k hk => fm 0 k (by decide) (by omega))
      · rw [fm 0 15 (by decide) (by decide), hBk 15 (by decide)]; exact m15
      · rw [fm 0 17 (by decide) (by decide), hBk 17 (by decide)]; exact m17
      · rw [hμd, up_e2 (by decide), up_e2 (by decide), up_eq]
      · rw [fm 0 19 (by decide) (by decide), hBk 19 (by decide), m19, hbg]
      · rw [hμd, up_e2 (by decide), up_eq]
      · rw [hμd, up_eq]
      · rw [q8 0 (by decide)]; exact z17 0 (by decide)
      · rw [q8 1 (by decide)]; exact z17 1 (by decide)
      · rw [q8 2 (by decide)]; exact z17 2 (by decide)
      · rw [q8 3 (by decide)]; exact z17 3 (by decide)
    have hP1 : RP σ1 μd 5 1 n ph pd := by
      obtain ⟨p1, p2, p3, p4, p5, p6, p7⟩ := hPb
      refine ⟨?_, ?_, p3, ?_, ?_, p6, fun q => ?_⟩
      · rw [cf 0 6 (by decide) (by decide) (by decide) (by decide) (by decide) (by decide) (by decide)]; exact p1
      · rw [fm 0 7 (by decide) (by decide)]; exact p2
      · rw [cf 0 14 (by decide) (by decide) (by decide) (by decide) (by decide) (by decide) (by decide)]; exact p4
      · rw [fm 0 22 (by decide) (by decide)]; exact p5
      · rw [fm 0 23 (by decide) (by decide)]
        exact ⟨(p7 q).1, (p7 q).2.1, fun x => absurd x.1 (by decide)⟩
    refine ⟨nI 0, _, _, ?_, ?_, fin_ok hQ1 hP1⟩
    · rw [cC, e1, bd_some]
      simp only [lit, show (-nI 2 = nI 1) = False from eq_false (by decide), if_false, nm_def]
    · rw [cM, mb.1, hrf.1 hf, bd_some]
      simp (disch := omega) only [eqF, if_false, gc, bd_some, nm_def, ← hμd]
  · refine ⟨nI 1, σb, μb, ?_, ?_, Or.inl ⟨5, 1, ba, ua, n, r, rm, ph, pd, W, ⟨hAb0, hKb, hBb, hSb, hWb⟩, hPb⟩⟩
    · have gs : fX9_makeStep σb = some (nI 1, σb) := by
        unfold fX9_makeStep
        rw [hcf.2 hf, bd_some]
        simp (disch := omega) only [lit, eqT, if_true]
      rw [cC, gs, bd_some]
      simp (disch := omega) only [lit, eqT, if_true]
    · rw [cM, mb.1, hrf.2 hf, bd_some]
      simp (disch := omega) only [eqT, if_true]
theorem op_flush {σ μ : St} (h : IV σ μ) : Op (fX9_flush σ) (fX10_flush μ) := by
  have h0 := h
  rcases h with ⟨s, en, ba, ua, n, r, rm, ph, pd, W, hQ, hP⟩ | ⟨rm, W, hA, hK, h6, m0, -⟩
  · have hQ0 := hQ
    obtain ⟨hA, hK, hB, hS, hW⟩ := hQ
    have m0 : μ 0 0 = nI 1 := hB.2.2.2.2.2.2.2.2.2.2.2.2
    have b5 := hB.1
    have bm1 := hB.2.1
    have hs := hB.2.2.1
    have b7 := hB.2.2.2.1
    have bm2 := hB.2.2.2.2.1
    have hen := hB.2.2.2.2.2.1
    have h3 := hP.2.2.1
    by_cases hp : ph < 2
    · refine ⟨-nI 1, σ, μ, ?_, ?_, h0⟩
      · unfold fX9_flush
        rw [hP.1]
        simp (disch := omega) only [lit, eqF, if_false]
      · unfold fX10_flush
        rw [m0, hP.2.1]
        simp (disch := omega) only [lit, eqF, leF, if_false]
    · have hph : ph = 2 ∨ ph = 3 := by omega
      have hle : (nI 2 ≤ nI ph) = True := leT (by omega) (by omega)
      have done : fX9_flush_b18 σ = some (nI 0, up σ 0 6 (nI 3)) → fX10_flush μ = some (nI 0, up μ 0 7 (nI 3)) → Op (fX9_flush σ) (fX10_flush μ) := fun a b => ⟨nI 0, _, _, (fl_C hP.1 hph).trans a, b, fin_ok hQ0 hP⟩
      rcases (show en = 0 ∨ en = 1 by omega) with he | he
      · subst he
        refine done ?_ ?_
        · unfold fX9_flush_b18
          rw [b7]
          simp (disch := omega) only [lit, eqT, if_true, nm_def]
        · unfold fX10_flush
          rw [m0, hP.2.1, bm2]
          simp (disch := omega) only [lit, eqT, eqF, hle, if_true, if_false, nm_def]
      · subst he
        by_cases hs5 : s = 5
        · subst hs5
          obtain ⟨tk, gv, sw, sh, bg, bt, kp, f, ⟨-, -, -, b4, -⟩, ⟨m15, m16, m17, m18, m19, m20, m21⟩, -, -, -, s7⟩ := hS
          rcases (show sh = 0 ∨ sh = 1 by omega) with q | q
          · obtain ⟨-, c0, -⟩ := s7 rfl
            rw [q] at c0 m18
            refine done ?_ ?_
            · have hfin : fv_finish σ = some (nI 0, σ) := by
                unfold fv_finish fX7_finish
                rw [b5, c0]
                simp (disch := omega) only [lit, eqT, eqF, if_true, if_false]
              unfold fX9_flush_b18
              rw [b7, hfin, bd_some]
              simp (disch := omega) only [lit, eqT, eqF, if_true, if_false, nm_def]
            · unfold fX10_flush
              rw [m0, hP.2.1, bm2, bm1, m18]
              simp (disch := omega) only [lit, eqT, eqF, hle, if_true, if_false, nm_def]
          · rw [q] at m18
            exact op_flush5 hQ0 hP hph m18
        · refine done ?_ ?_
          · have hfin : fv_finish σ = some (nI 0, σ) := by
              unfold fv_finish fX0_finish
              rw [b5]
              rcases (show s = 0 ∨ s = 1 ∨ s = 2 ∨ s = 3 ∨ s = 4 ∨ s = 6 by omega) with e | e | e | e | e | e
              · subst e; rfl
              · subst e; simp (disch := omega) only [lit, eqT, eqF, if_true, if_false]
              · subst e; simp (disch := omega) only [lit, eqT, eqF, if_true, if_false]
              · subst e; simp (disch := omega) only [lit, eqT, eqF, if_true, if_false]
              · subst e; simp (disch := omega) only [lit, eqT, eqF, if_true, if_false]
              · subst e; simp (disch := omega) only [lit, eqT, eqF, if_true, if_false]
            unfold fX9_flush_b18
            rw [b7, hfin, bd_some]
            simp (disch := omega) only [lit, eqT, eqF, if_true, if_false, nm_def]
          · unfold fX10_flush
            rw [m0, hP.2.1, bm2, bm1]
            simp (disch := omega) only [lit, eqF, hle, if_true, if_false, nm_def]
  · refine ⟨-nI 1, σ, μ, ?_, ?_, h0⟩
    · unfold fX9_flush
      rw [h6]
      simp only [lit, show (-nI 1 = nI 2) = False from eq_false (by decide), show (-nI 1 = nI 3) = False from eq_false (by decide), if_false]
    · unfold fX10_flush
      rw [m0]
      simp (disch := omega) only [lit, eqT, if_true]
