/-! ===== a fault is met; the loop of code ===== -/
theorem m2ne {v : Nat} (hv : v < 2147483648) : (nI v = -nI 2) = False := eq_false (fun h => by
  have h1 := congrArg Int32.toInt h
  rw [nI_toInt hv] at h1
  have h2 : (-nI 2 : Int32).toInt = -2 := by decide
  omega)
theorem meet_ok {σ μ : St} {s en ba ua n r rm ph q t : Nat} {W : Nat → Nat} (hQ : RQ σ μ s en ba ua n r rm W) (hP : RP σ μ s en n ph 0) (hq : q = 2 ∨ q = 3) (h5 : s = 5 → q = 2) (hnB : ¬ BM μ s en) (hv : Mv σ q t []) (h24 : μ 0 24 = nI t) (h1 : 1 ≤ t) (ht : t ≤ n) : ∃ a b σ1 μ1, fX9_meetFault σ = some (a, σ1) ∧ fX10_meet μ (nI (if q = 3 then 0 else 1)) = some (b, μ1) ∧ ((a = -nI 2 ∧ b = -nI 1 ∧ ∃ r2 W2, RQ σ1 μ1 s en ba ua (n - t) r2 rm W2 ∧ RP σ1 μ1 s en (n - t) ph 0 ∧ ¬ BM μ1 s en) ∨ ∃ v pd, v < 1000 ∧ a = nI v ∧ b = nI v ∧ RQ σ1 μ1 s en ba ua n r rm W ∧ RP σ1 μ1 s en n ph pd) := by
  have hA := hQ.1
  have hB := hQ.2.2.1
  obtain ⟨x, act, hx1, hx5, hx, ec, em, hact⟩ : ∃ x act : Nat, x ≤ 1 ∧ (s = 5 → x = 1) ∧ (if q = 3 then 0 else 1) = x ∧ fX9_meetFault σ = fX9_meetFault_b32 σ (nI x) (nI act) ∧ fX10_meet μ (nI x) = fX10_meet_b15 μ (nI x) (nI act) ∧ act ≤ 2 := by
    obtain ⟨-, -, -, -, -, -, b8, b3, b82, b9, b4, b92, -⟩ := hB
    rcases hq with e | e
    · refine ⟨1, ba, by decide, fun _ => rfl, by rw [if_neg (by omega)], ?_, ?_, b82⟩
      · unfold fX9_meetFault fX9_meetFault_b16
        rw [hv.1, e, b8]
        simp (disch := omega) only [lit, eqT, eqF, if_true, if_false]
      · unfold fX10_meet
        rw [b3]
        simp (disch := omega) only [lit, eqF, if_false]
    · refine ⟨0, ua, by decide, fun e5 => by have := h5 e5; omega, by rw [if_pos e], ?_, ?_, b92⟩
      · unfold fX9_meetFault fX9_meetFault_b16
        rw [hv.1, e, b9]
        simp (disch := omega) only [lit, eqT, eqF, if_true, if_false]
      · unfold fX10_meet
        rw [b4]
        simp (disch := omega) only [lit, eqT, if_true]
  rw [hx, ec, em]
  have h8 := hv.2.1
  have hn24 : n ≤ 24 := hA.2.2.2.2.2.2.2.2.2.2.2.1
  rcases (show act = 0 ∨ act = 2 ∨ act = 1 by omega) with e | e | e
  · -- it is reported
    subst e
    obtain ⟨σ1, hσ1⟩ : ∃ z, z = up σ 0 14 (nI t) := ⟨_, rfl⟩
    obtain ⟨μ1, hμ1⟩ : ∃ z, z = up (up μ 0 22 (nI t)) 0 23 (nI x) := ⟨_, rfl⟩
    have f8 : ∀ i k, ¬ (i = 0 ∧ k = 14) → σ1 i k = σ i k := by
      intro i k h
      rw [hσ1]
      by_cases e : i = 0
      · rw [e, up_e2 (fun q => h ⟨e, q⟩)]
      · rw [up_ne e]
    have fm : ∀ i k, ¬ (i = 0 ∧ (k = 22 ∨ k = 23)) → μ1 i k = μ i k := by
      intro i k h
      rw [hμ1]
      by_cases e : i = 0
      · rw [e, up_e2 (fun q => h ⟨e, Or.inr q⟩), up_e2 (fun q => h ⟨e, Or.inl q⟩)]
      · rw [up_ne e, up_ne e]
    have e82 : σ1 8 2 = nI t := by rw [f8 8 2 (by decide)]; exact h8
    have e24 : μ1 0 24 = nI t := by rw [fm 0 24 (by decide)]; exact h24
    have hQ1 : RQ σ1 μ1 s en ba ua n r rm W := by
      obtain ⟨⟨a1, a2, a3, a4, a5, a6, a7, a8, a9, a10, a11, a12, a13, a14⟩, hK, hB, hS, hW⟩ := hQ
      refine ⟨⟨?_, ?_, ?_, ?_, ?_, ?_, ?_, ?_, ?_, ?_, ?_, a12, a13, a14⟩, ?_, ?_, ?_, hW⟩
      · rw [f8 0 11 (by decide), fm 0 12 (by decide)]; exact a1
      · rw [f8 0 12 (by decide), fm 0 13 (by decide)]; exact a2
      · rw [f8 0 13 (by decide), fm 0 14 (by decide)]; exact a3
      · rw [f8 0 10 (by decide)]; exact a4
      · rw [fm 0 6 (by decide)]; exact a5
      · exact a6.fr (fun i => f8 2 i (fun h => absurd h.1 (by decide))) (fun i => fm 1 i (fun h => absurd h.1 (by decide)))
      · exact a7.pt (f8 4 1 (by decide)) (fun i => f8 5 i (fun h => absurd h.1 (by decide)))
      · exact a8.pt (fm 0 9 (by decide)) (fun i => fm 2 i (fun h => absurd h.1 (by decide)))
      · rw [f8 6 1 (by decide)]; exact a9
      · rw [fm 0 11 (by decide)]; exact a10
      · intro i hi
        rw [f8 7 i (fun h => absurd h.1 (by decide)), fm 3 i (fun h => absurd h.1 (by decide))]
        exact a11 i hi
      · exact hK.fr (fun i k k1 k2 k3 => f8 i k (by omega))
      · exact hB.fr (fun k k1 k2 k3 => f8 0 k (by omega)) (fun k hk => fm 0 k (by omega))
      · obtain ⟨tk, gv, sw, sh, bg, bt, kp, f, hb, ⟨m15, m16, m17, m18, m19, m20, m21⟩, s5, s16, s2, s7⟩ := hS
        refine ⟨tk, gv, sw, sh, bg, bt, kp, f, hb, ⟨?_, ?_, ?_, ?_, ?_, ?_, ?_⟩, s5, ?_, s2, ?_⟩
        · rw [fm 0 15 (by decide)]; exact m15
        · rw [fm 0 16 (by decide)]; exact m16
        · rw [fm 0 17 (by decide)]; exact m17
        · rw [fm 0 18 (by decide)]; exact m18
        · rw [fm 0 19 (by decide)]; exact m19
        · rw [fm 0 20 (by decide)]; exact m20
        · rw [fm 0 21 (by decide)]; exact m21
        · intro e1 e2
          rw [f8 (s + 10) 2 (by omega), f8 (s + 10) 3 (by omega), f8 (s + 10) 4 (by omega)]
          exact s16 e1 e2
        · intro e
          rw [f8 16 0 (by decide), f8 16 1 (by decide), f8 16 2 (by decide), f8 16 3 (by decide)]
          exact s7 e
    have hP1 : RP σ1 μ1 s en n ph t := by
      obtain ⟨p1, p2, p3, p4, p5, p6, p7⟩ := hP
      refine ⟨?_, ?_, p3, by rw [hσ1, up_eq], by rw [hμ1, up_e2 (by decide), up_eq], ht, fun _ => ⟨?_, ?_, ?_⟩⟩
      · rw [f8 0 6 (by decide)]; exact p1
      · rw [fm 0 7 (by decide)]; exact p2
      · rw [hμ1, up_eq]
        rcases (show x = 0 ∨ x = 1 by omega) with e | e
        · rw [e]; exact Or.inl rfl
        · rw [e]; exact Or.inr rfl
      · intro e
        rw [hμ1, up_eq, hx5 e]
      · unfold BM
        rw [fm 0 16 (by decide)]
        exact hnB
    have z2 : ∀ k : Option (Int32 × St), zk (nI x) k = k := fun k => zkN hx1 k
    rcases (show x = 0 ∨ x = 1 by omega) with e | e
    · refine ⟨nI (32 + t), nI (32 + t), σ1, μ1, ?_, ?_, Or.inr ⟨32 + t, t, by omega, rfl, rfl, hQ1, hP1⟩⟩
      · unfold fX9_meetFault_b32
        rw [h8, e]
        simp (disch := omega) only [lit, eqT, if_true, nm_def]
        rw [← hσ1, e82, addN]
      · unfold fX10_meet_b15
        rw [h24]
        simp (disch := omega) only [lit, eqT, if_true, nm_def, z2, ← hμ1, e24, addN]
    · refine ⟨nI (16 + t), nI (16 + t), σ1, μ1, ?_, ?_, Or.inr ⟨16 + t, t, by omega, rfl, rfl, hQ1, hP1⟩⟩
      · unfold fX9_meetFault_b32
        rw [h8, e]
        simp (disch := omega) only [lit, eqT, eqF, if_true, if_false, nm_def]
        rw [← hσ1, e82, addN]
      · unfold fX10_meet_b15
        rw [h24]
        simp (disch := omega) only [lit, eqT, eqF, if_true, if_false, nm_def, z2, ← hμ1, e24, addN]
  · -- it is replaced
    subst e
    obtain ⟨σa, μa, us, ga, gm, hl, va, ma, fa, fr⟩ := repl_ok hQ hv
    have hQa : RQ σa μa s en ba ua n r rm W := hQ.sc fa.fc fr.fm (fun _ _ _ => by rw [fa (s + 10) (by omega) (by omega)])
    have hPa : RP σa μa s en n ph 0 := hP.sc fa.fc fr.fm
    have hnBa : ¬ BM μa s en := fun q => hnB ((BM.sc fr.fm).mp q)
    have hAa := hQa.1
    obtain ⟨a1, a2, a3, a4, a5, a6, a7, a8, a9, a10, a11, a12, a13, a14⟩ := hAa
    have hcf := c_fits va (by omega) a4 a9 a13 a14
    have hrf := r_fits (m := us.length) (by omega) a5 a10 a13 a14
    by_cases hf : us.length = 0 ∨ r + us.length ≤ rm
    · obtain ⟨σb, μb, gb, gmb, hQb, fb, fmb, hnBb⟩ := put_ok hQa va ma (by omega) hf hnBa
      obtain ⟨σ1, μ1, gc, gmc, hQ1, p1, p2, p3, p4, hnB1⟩ := pass_ok hQb h1 ht hx1 hx5 hnBb
      refine ⟨-nI 2, -nI 1, σ1, μ1, ?_, ?_, Or.inl ⟨rfl, rfl, _, _, hQ1, ⟨?_, ?_, hPa.2.2.1, ?_, ?_, Nat.zero_le _, fun q => absurd rfl q⟩, hnB1⟩⟩
      · unfold fX9_meetFault_b32
        simp (disch := omega) only [lit, eqT, eqF, if_true, if_false, ga, bd_some]
        rw [hcf.1 hf, bd_some]
        simp (disch := omega) only [eqF, if_false]
        rw [gb, bd_some, fb 8 2 (by decide) (by decide) (by decide), va.2.1, gc, bd_some]
      · unfold fX10_meet_b15
        simp (disch := omega) only [lit, eqT, eqF, if_true, if_false, gm, bd_some]
        rw [ma.1, hrf.1 hf, bd_some]
        simp (disch := omega) only [eqF, if_false]
        rw [gmb, bd_some, fmb 0 24 (by decide) (by decide), fr.2 24 (by decide), h24, gmc, bd_some]
      · rw [p1, fb 0 6 (by decide) (by decide) (by decide)]; exact hPa.1
      · rw [p3, fmb 0 7 (by decide) (by decide)]; exact hPa.2.1
      · rw [p2, fb 0 14 (by decide) (by decide) (by decide)]; exact hPa.2.2.2.1
      · rw [p4, fmb 0 22 (by decide) (by decide)]; exact hPa.2.2.2.2.1
    · refine ⟨nI 1, nI 1, σa, μa, ?_, ?_, Or.inr ⟨1, 0, by decide, rfl, rfl, hQa, hPa⟩⟩
      · unfold fX9_meetFault_b32
        simp (disch := omega) only [lit, eqT, eqF, if_true, if_false, ga, bd_some]
        rw [hcf.2 hf, bd_some]
        simp (disch := omega) only [eqT, if_true]
      · unfold fX10_meet_b15
        simp (disch := omega) only [lit, eqT, eqF, if_true, if_false, gm, bd_some]
        rw [ma.1, hrf.2 hf, bd_some]
        simp (disch := omega) only [eqT, if_true]
  · -- it is passed over
    subst e
    obtain ⟨σ1, μ1, gc, gmc, hQ1, p1, p2, p3, p4, hnB1⟩ := pass_ok hQ h1 ht hx1 hx5 hnB
    refine ⟨-nI 2, -nI 1, σ1, μ1, ?_, ?_, Or.inl ⟨rfl, rfl, _, _, hQ1, ⟨?_, ?_, hP.2.2.1, ?_, ?_, Nat.zero_le _, fun q => absurd rfl q⟩, hnB1⟩⟩
    · unfold fX9_meetFault_b32
      simp (disch := omega) only [lit, eqF, if_false]
      rw [h8, gc, bd_some]
    · unfold fX10_meet_b15
      simp (disch := omega) only [lit, eqF, if_false]
      rw [h24, gmc, bd_some]
    · rw [p1]; exact hP.1
    · rw [p3]; exact hP.2.1
    · rw [p2]; exact hP.2.2.2.1
    · rw [p4]; exact hP.2.2.2.2.1
/-- the reference's loop with an answer -/
theorem r_end {μ : St} {e v q f : Nat} (hv : v < 1000) (hq : q < 100) : fX10_code_b51 (f + 1) μ (nI e) (nI v) (nI q) = some (nI v, μ) := by
  rw [fX10_code_b51]
  by_cases h : 60 ≤ q
  · simp (disch := omega) only [lit, leT, if_true]
  · simp (disch := omega) only [lit, leF, leT, if_true, if_false]
/-- no units wait -/
theorem lk_zero {σ μ : St} {r rm s en ba ua : Nat} {W : Nat → Nat} (hQ : RQ σ μ s en ba ua 0 r rm W) : ∃ σ1 μ1, fX9_look σ = some (nI 0, σ1) ∧ fX10_look μ = some (nI 1, μ1) ∧ σ1 8 1 = nI 0 ∧ F8 σ σ1 ∧ FM μ μ1 := by
  obtain ⟨⟨-, -, -, -, -, -, hC, hM, -⟩, -, -, ⟨tk, gv, sw, sh, bg, bt, kp, f, ⟨b1, b2, b3, b4, b5, b6⟩, ⟨m15, m16, m17, m18, m19, m20, m21⟩, -⟩, -⟩ := hQ
  obtain ⟨σ1, s1, mv, f1⟩ := mv_need σ
  obtain ⟨μ7, -, fm, -, -, -, -, -, hl⟩ := r_pre m18 b4 m19 b5 m17 b3
  refine ⟨σ1, μ7, ?_, ?_, mv.1, f1, fm⟩
  · unfold fX9_look
    rw [cnt_in hC, bd_some]
    simp (disch := omega) only [lit, eqT, if_true, s1, bd_some]
  · rw [hl, hM.1]
    simp (disch := omega) only [lit, eqT, if_true]
theorem fm_up24 {μ : St} {v : Int32} : FM μ (up μ 0 24 v) := ⟨fun i a _ => up_ne a, fun k2 a _ _ _ _ _ _ => up_e2 a⟩
theorem loop_zero {s en ba ua rm ph e l q fc fr r : Nat} {W : Nat → Nat} {σ μ : St} (he : e ≤ 1) (hQ : RQ σ μ s en ba ua 0 r rm W) (hP : RP σ μ s en 0 ph 0) (hl : l < 26) (hq : q < 58) : ∃ a σ1 μ1 n1 r1 W1 pd, fX9_makeMoves_b2 (fc + 1) σ (nI e) (nI l) = some (a, σ1) ∧ fX10_code_b51 (fr + 2) μ (nI e) (-nI 1) (nI q) = some (a, μ1) ∧ RQ σ1 μ1 s en ba ua n1 r1 rm W1 ∧ RP σ1 μ1 s en n1 ph pd := by
  obtain ⟨σ1, μ1, e1, e2, h8, f8, fm⟩ := lk_zero hQ
  have hQ1 := hQ.sc f8.fc fm (fun _ _ _ => by rw [f8 (s + 10) (by omega) (by omega)])
  have hC1 := hQ1.1.2.2.2.2.2.2.1
  have hM1 := hQ1.1.2.2.2.2.2.2.2.1
  refine ⟨nI 0, σ1, μ1, 0, r, W, 0, ?_, ?_, hQ1, hP.sc f8.fc fm⟩
  · rw [fX9_makeMoves_b2]
    rcases (show e = 0 ∨ e = 1 by omega) with h | h
    · rw [h]
      simp (disch := omega) only [lit, leF, if_false, e1, bd_some, h8, eqT, if_true]
    · rw [h]
      simp (disch := omega) only [lit, leF, if_false, e1, bd_some, h8, eqT, eqF, if_true, cnt_in hC1]
  · rw [fX10_code_b51]
    rcases (show e = 0 ∨ e = 1 by omega) with h | h
    · rw [h]
      simp (disch := omega) only [lit, leF, if_false, m1ge0, e2, bd_some, eqF, eqT, if_true, nm_def, addN]
      exact r_end (by decide) (by omega)
    · rw [h]
      simp (disch := omega) only [lit, leF, if_false, m1ge0, e2, bd_some, eqF, eqT, if_true, hM1.1, ltF, nm_def, addN]
      exact r_end (by decide) (by omega)
theorem loop_ok {s en ba ua rm ph e : Nat} (he : e ≤ 1) : ∀ (d l q fc fr n r : Nat) (W : Nat → Nat) (σ μ : St), RQ σ μ s en ba ua n r rm W → RP σ μ s en n ph 0 → n ≤ d → (BM μ s en → n + 1 ≤ d ∨ n = 0) → l + d < 26 → q + d < 58 → d < fc → d + 2 ≤ fr → ∃ a σ1 μ1 n1 r1 W1 pd, fX9_makeMoves_b2 fc σ (nI e) (nI l) = some (a, σ1) ∧ fX10_code_b51 fr μ (nI e) (-nI 1) (nI q) = some (a, μ1) ∧ RQ σ1 μ1 s en ba ua n1 r1 rm W1 ∧ RP σ1 μ1 s en n1 ph pd := by
  intro d
  induction d with
  | zero =>
    intro l q fc fr n r W σ μ hQ hP hn hb hl hq hfc hfr
    obtain rfl : n = 0 := by omega
    match fc, fr, hfc, hfr with
    | fc + 1, fr + 2, _, _ => exact loop_zero he hQ hP (by omega) (by omega)
  | succ d ih =>
    intro l q fc fr n r W σ μ hQ hP hn hb hl hq hfc hfr
    by_cases hn0 : n = 0
    · subst hn0
      match fc, fr, hfc, hfr with
      | fc + 1, fr + 2, _, _ => exact loop_zero he hQ hP (by omega) (by omega)
    · match fc, fr, hfc, hfr with
      | fc + 1, fr + 1, hfc, hfr =>
        have h24 : n ≤ 24 := hQ.1.2.2.2.2.2.2.2.2.2.2.2.1
        -- what follows a fault, or a step
        have fin : ∀ (a b : Int32) (σ3 μ3 : St) (n3 r3 : Nat) (W3 : Nat → Nat), ((a = -nI 2 ∧ b = -nI 1 ∧ n3 ≤ d ∧ RQ σ3 μ3 s en ba ua n3 r3 rm W3 ∧ RP σ3 μ3 s en n3 ph 0 ∧ ¬ BM μ3 s en) ∨ ∃ v pd, v < 1000 ∧ a = nI v ∧ b = nI v ∧ RQ σ3 μ3 s en ba ua n3 r3 rm W3 ∧ RP σ3 μ3 s en n3 ph pd) → ∃ x σ5 μ5 n5 r5 W5 pd5, (if a = -nI 2 then fX9_makeMoves_b2 fc σ3 (nI e) (nI (l + 1)) else some (a, σ3)) = some (x, σ5) ∧ fX10_code_b51 fr μ3 (nI e) b (nI (q + 1)) = some (x, μ5) ∧ RQ σ5 μ5 s en ba ua n5 r5 rm W5 ∧ RP σ5 μ5 s en n5 ph pd5 := by
          intro a b σ3 μ3 n3 r3 W3 h
          rcases h with ⟨h1, h2, h3, h4, h5, h6⟩ | ⟨v, pd, h1, h2, h3, h4, h5⟩
          · rw [if_pos h1, h2]
            exact ih (l + 1) (q + 1) fc fr n3 r3 W3 σ3 μ3 h4 h5 h3 (fun q => absurd q h6) (by omega) (by omega) (by omega) (by omega)
          · refine ⟨nI v, σ3, μ3, n3, r3, W3, pd, ?_, ?_, h4, h5⟩
            · rw [h2, if_neg (by rw [m2ne (by omega)]; exact id)]
            · rw [h3]
              obtain ⟨g, rfl⟩ : ∃ g, fr = g + 1 := ⟨fr - 1, by omega⟩
              exact r_end h1 (by omega)
        obtain ⟨σ1, μ1, k, e1, e2, fc1, fm1, hs4, hk⟩ := lk_all hQ.1 hQ.2.1 hQ.2.2.1 hQ.2.2.2.1 hQ.2.2.2.2 (by omega)
        have hQ1 := hQ.sc fc1 fm1 hs4
        have hP1 := hP.sc fc1 fm1
        have hBM := BM.sc (s := s) (en := en) fm1
        have hC1 := hQ1.1.2.2.2.2.2.2.1
        have hM1 := hQ1.1.2.2.2.2.2.2.2.1
        rcases hk with ⟨hk, h8, hnB⟩ | ⟨t, us, hk, hv, hm, hus, ht24, ht, ht0, hbu, hN⟩ | ⟨qq, t, hqq, hq5, hnB, hk, hv, ht24, h1t, ht⟩
        · -- more is needed
          subst hk
          have hnB1 : ¬ BM μ1 s en := fun x => hnB (hBM.mp x)
          rcases (show e = 0 ∨ e = 1 by omega) with h | h
          · refine ⟨nI 0, σ1, μ1, n, r, W, 0, ?_, ?_, hQ1, hP1⟩
            · rw [fX9_makeMoves_b2, h]
              simp (disch := omega) only [lit, leF, if_false, e1, bd_some, h8, eqT, if_true]
            · rw [fX10_code_b51, h]
              simp (disch := omega) only [lit, leF, if_false, m1ge0, e2, bd_some, eqF, eqT, if_true, nm_def, addN]
              obtain ⟨g, rfl⟩ : ∃ g, fr = g + 1 := ⟨fr - 1, by omega⟩
              exact r_end (by decide) (by omega)
          · obtain ⟨σ2, s2, v2, f2⟩ := mv_bad σ1 n
            have hQ2 := hQ1.sc f2.fc (fm_up24 (v := nI n)) (fun _ _ _ => by rw [f2 (s + 10) (by omega) (by omega)])
            have hP2 := hP1.sc f2.fc (fm_up24 (μ := μ1) (v := nI n))
            obtain ⟨a, b, σ3, μ3, g1, g2, g3⟩ := meet_ok hQ2 hP2 (Or.inl rfl) (fun _ => rfl) (fun x => hnB1 ((BM.sc fm_up24).mp x)) v2 up_eq (by omega) (Nat.le_refl n)
            rw [if_neg (by omega)] at g2
            have g4 : ∃ n3 r3 W3, ((a = -nI 2 ∧ b = -nI 1 ∧ n3 ≤ d ∧ RQ σ3 μ3 s en ba ua n3 r3 rm W3 ∧ RP σ3 μ3 s en n3 ph 0 ∧ ¬ BM μ3 s en) ∨ ∃ v pd, v < 1000 ∧ a = nI v ∧ b = nI v ∧ RQ σ3 μ3 s en ba ua n3 r3 rm W3 ∧ RP σ3 μ3 s en n3 ph pd) := by
              rcases g3 with ⟨x1, x2, r2, W2, x3, x4, x5⟩ | ⟨v, pd, x1, x2, x3, x4, x5⟩
              · exact ⟨_, r2, W2, Or.inl ⟨x1, x2, by omega, x3, x4, x5⟩⟩
              · exact ⟨_, _, _, Or.inr ⟨v, pd, x1, x2, x3, x4, x5⟩⟩
            obtain ⟨n3, r3, W3, g4⟩ := g4
            obtain ⟨x, σ5, μ5, n5, r5, W5, pd5, y1, y2, y3, y4⟩ := fin a b σ3 μ3 n3 r3 W3 g4
            refine ⟨x, σ5, μ5, n5, r5, W5, pd5, ?_, ?_, y3, y4⟩
            · have hk2 := v2.1
              rw [fX9_makeMoves_b2, h]
              simp (disch := omega) only [lit, leF, if_false, e1, bd_some, h8, eqT, eqF, if_true, cnt_in hC1, s2, hk2, g1, nm_def, addN]
              rw [h] at y1
              exact y1
            · rw [fX10_code_b51, h]
              simp (disch := omega) only [lit, leF, if_false, m1ge0, e2, bd_some, eqF, eqT, if_true, hM1.1, ltT, nm_def, g2, addN]
              rw [h] at y2
              exact y2
        · -- a step
          subst hk
          have hA1 := hQ1.1
          obtain ⟨-, -, -, a4, a5, -, -, -, a9, a10, -, -, a13, a14⟩ := hA1
          have hcf := c_fits hv hus a4 a9 a13 a14
          have hrf := r_fits (m := us.length) hus a5 a10 a13 a14
          have hk2 := hv.1
          have hm26 := hm.1
          by_cases hf : us.length = 0 ∨ r + us.length ≤ rm
          · obtain ⟨σ3, μa, μb, μ3, g1, g2, g3, g4, g5, g6, g7, g8⟩ := step_ok hQ1 hP1 hv hm hus ht24 ht (fun x => hBM.mpr (ht0 x)) (fun x => hbu (hBM.mp x)) hN hf
            have hle : n - t ≤ d := by
              rcases (show t = 0 ∨ 1 ≤ t by omega) with x | x
              · have := hb (ht0 x)
                omega
              · omega
            obtain ⟨x, σ5, μ5, n5, r5, W5, pd5, y1, y2, y3, y4⟩ := fin (-nI 2) (-nI 1) σ3 μ3 _ _ _ (Or.inl ⟨rfl, rfl, hle, g6, g7, g8⟩)
            refine ⟨x, σ5, μ5, n5, r5, W5, pd5, ?_, ?_, y3, y4⟩
            · rw [fX9_makeMoves_b2]
              simp (disch := omega) only [lit, leF, if_false, e1, bd_some, hk2, eqT, eqF, if_true, g1, nm_def, addN]
              exact y1
            · rw [fX10_code_b51]
              simp (disch := omega) only [lit, leF, if_false, m1ge0, e2, bd_some, eqT, if_true, hm26, hrf.1 hf, eqF, g2, g3, g4, g5, nm_def, addN]
              exact y2
          · obtain ⟨x, σ5, μ5, n5, r5, W5, pd5, y1, y2, y3, y4⟩ := fin (nI 1) (nI 1) σ1 μ1 n r W (Or.inr ⟨1, 0, by decide, rfl, rfl, hQ1, hP1⟩)
            have gs : fX9_makeStep σ1 = some (nI 1, σ1) := by
              unfold fX9_makeStep
              rw [hcf.2 hf, bd_some]
              simp (disch := omega) only [lit, eqT, if_true]
            refine ⟨x, σ5, μ5, n5, r5, W5, pd5, ?_, ?_, y3, y4⟩
            · rw [fX9_makeMoves_b2]
              simp (disch := omega) only [lit, leF, if_false, e1, bd_some, hk2, eqT, eqF, if_true, gs, nm_def, addN]
              exact y1
            · rw [fX10_code_b51]
              simp (disch := omega) only [lit, leF, if_false, m1ge0, e2, bd_some, eqT, if_true, hm26, hrf.2 hf, nm_def, addN]
              exact y2
        · -- a fault
          subst hk
          have hk2 := hv.1
          have hQ2 := hQ1.sc (FC.rf (σ := σ1)) (fm_up24 (v := nI t)) (fun _ _ _ => rfl)
          have hP2 := hP1.sc (FC.rf (σ := σ1)) (fm_up24 (μ := μ1) (v := nI t))
          obtain ⟨a, b, σ3, μ3, g1, g2, g3⟩ := meet_ok hQ2 hP2 hqq hq5 (fun x => hnB (hBM.mp ((BM.sc fm_up24).mp x))) hv up_eq h1t ht
          have g4 : ∃ n3 r3 W3, ((a = -nI 2 ∧ b = -nI 1 ∧ n3 ≤ d ∧ RQ σ3 μ3 s en ba ua n3 r3 rm W3 ∧ RP σ3 μ3 s en n3 ph 0 ∧ ¬ BM μ3 s en) ∨ ∃ v pd, v < 1000 ∧ a = nI v ∧ b = nI v ∧ RQ σ3 μ3 s en ba ua n3 r3 rm W3 ∧ RP σ3 μ3 s en n3 ph pd) := by
            rcases g3 with ⟨x1, x2, r2, W2, x3, x4, x5⟩ | ⟨v, pd, x1, x2, x3, x4, x5⟩
            · exact ⟨_, r2, W2, Or.inl ⟨x1, x2, by omega, x3, x4, x5⟩⟩
            · exact ⟨_, _, _, Or.inr ⟨v, pd, x1, x2, x3, x4, x5⟩⟩
          obtain ⟨n3, r3, W3, g4⟩ := g4
          obtain ⟨x, σ5, μ5, n5, r5, W5, pd5, y1, y2, y3, y4⟩ := fin a b σ3 μ3 n3 r3 W3 g4
          refine ⟨x, σ5, μ5, n5, r5, W5, pd5, ?_, ?_, y3, y4⟩
          · rw [fX9_makeMoves_b2]
            simp (disch := omega) only [lit, leF, if_false, e1, bd_some, hk2, eqF, g1, nm_def, addN]
            exact y1
          · rw [fX10_code_b51]
            rcases hqq with h | h
            · rw [h, if_neg (by omega)] at g2
              rw [h] at e2
              simp (disch := omega) only [lit, leF, if_false, m1ge0, e2, bd_some, eqF, ht24, nm_def, g2, addN]
              exact y2
            · rw [h, if_pos rfl] at g2
              rw [h] at e2
              simp (disch := omega) only [lit, leF, if_false, m1ge0, e2, bd_some, eqF, eqT, if_true, ht24, nm_def, g2, addN]
              exact y2
