/-! ===== set 6: the page ===== -/
def PG (σ μ : St) : Prop := ∀ i, i < 128 → σ 2 i = μ 1 i ∧ (σ 2 i = -nI 1 ∨ ∃ c, c < 65536 ∧ σ 2 i = nI c)
theorem lk_pageD {σ μ : St} {n : Nat} {W : Nat → Nat} (hC : InC σ n W) (hM : InM μ n W) (hn : n ≤ 24) (h0 : 0 < n) (hw : W 0 < 256) (hp : PG σ μ) (hm : Mm μ []) : ∃ σ1 μ1 k, fX2_decode σ = some (nI 0, σ1) ∧ fX10_decodePage μ = some (k, μ1) ∧ LR σ σ1 μ μ1 n k (KN μ μ1) False := by
  have e0 := at_in (i := 0) hC h0 hn
  have key : ∀ c : Nat, c < 65536 → (fX2_characterOf σ (nI (W 0)) = some (nI c, σ)) → (fX10_decodePage μ = fX10_decodePage_b28 μ (nI c)) → ∃ σ1 μ1 k, fX2_decode σ = some (nI 0, σ1) ∧ fX10_decodePage μ = some (k, μ1) ∧ LR σ σ1 μ μ1 n k (KN μ μ1) False := by
    intro c hc e1 e2
    obtain ⟨σ1, s1, m1, f1⟩ := mv_step σ 1
    obtain ⟨σ2, s2, m2, f2⟩ := mv_add m1 (by simp) c
    obtain ⟨μ1, g1, n1, r1⟩ := mm_add hm (by simp) c
    obtain ⟨μ2, g2, n2, r2⟩ := mm_step μ1 1
    refine ⟨σ2, μ2, nI 0, ?_, ?_, lr_step (f1.tr f2).fc m2 n1 r1 (by simp) n2 r2 (by omega) (by omega)⟩
    · unfold fX2_decode
      simp (disch := omega) only [lit, e0, bd_some, e1, ltF, if_false, s1, s2]
    · rw [e2]
      unfold fX10_decodePage_b28
      simp (disch := omega) only [lit, leT, if_true, bd_some, g1, g2]
  by_cases hb : W 0 < 128
  · refine key (W 0) (by omega) ?_ ?_
    · unfold fX2_characterOf
      simp (disch := omega) only [lit, leF, if_false]
    · unfold fX10_decodePage
      simp (disch := omega) only [lit, ldM hM h0 hn, leF, if_false]
  · obtain ⟨h1, h2⟩ := hp (W 0 - 128) (by omega)
    have c1 : fX2_characterOf σ (nI (W 0)) = some (σ 2 (W 0 - 128), σ) := by
      unfold fX2_characterOf
      simp (disch := omega) only [lit, leT, leF, if_true, if_false, subN]
      rw [ld_in (by omega) (by omega)]
    have c2 : fX10_decodePage μ = fX10_decodePage_b28 μ (σ 2 (W 0 - 128)) := by
      unfold fX10_decodePage
      simp (disch := omega) only [lit, ldM hM h0 hn, leT, if_true, subN]
      rw [ld_in (by omega) (by omega), h1]
    rcases h2 with h2 | ⟨c, hc, h2⟩
    · rw [h2] at c1 c2
      obtain ⟨σ1, s1, m1, f1⟩ := mv_unk σ 1
      obtain ⟨μ1, g1, n1, r1⟩ := mm_fault μ 3 1
      refine ⟨σ1, μ1, nI 3, ?_, ?_, lr_fault f1.fc (Or.inr rfl) m1 FM.rf n1 r1 (by omega) (by omega)⟩
      · unfold fX2_decode
        simp (disch := omega) only [lit, e0, bd_some, c1, m1lt0, if_true, s1]
      · rw [c2]
        unfold fX10_decodePage_b28
        simp (disch := omega) only [lit, m1ge0, if_false, bd_some, g1]
    · rw [h2] at c1 c2
      exact key c hc c1 c2
theorem lb_some {σ : St} {c k0 : Nat} (hk : k0 < 128) (h1 : σ 2 k0 = nI c) (h2 : ∀ j, j < k0 → σ 2 j ≠ nI c) : ∀ (d i fuel : Nat), i + d = k0 → d < fuel → fX2_leastByteOf_b11 fuel σ (nI c) (nI i) = some (nI (128 + k0), σ) := by
  intro d
  induction d with
  | zero =>
    intro i fuel hi hf
    match fuel, hf with
    | m + 1, _ =>
      rw [fX2_leastByteOf_b11]
      simp (disch := omega) only [lit, leF, if_false]
      rw [ld_in (by omega) (by omega), show i = k0 by omega, h1, if_pos rfl, addN]
  | succ d ih =>
    intro i fuel hi hf
    match fuel, hf with
    | m + 1, hf =>
      rw [fX2_leastByteOf_b11]
      simp (disch := omega) only [lit, leF, if_false]
      rw [ld_in (by omega) (by omega), if_neg (h2 i (by omega)), nm_def, addN]
      exact ih (i + 1) m (by omega) (by omega)
theorem lb_none {σ : St} {c : Nat} (h2 : ∀ j, j < 128 → σ 2 j ≠ nI c) : ∀ (d i fuel : Nat), i + d = 128 → d < fuel → fX2_leastByteOf_b11 fuel σ (nI c) (nI i) = some (-nI 1, σ) := by
  intro d
  induction d with
  | zero =>
    intro i fuel hi hf
    match fuel, hf with
    | m + 1, _ =>
      rw [fX2_leastByteOf_b11]
      simp (disch := omega) only [lit, leT, if_true]
  | succ d ih =>
    intro i fuel hi hf
    match fuel, hf with
    | m + 1, hf =>
      rw [fX2_leastByteOf_b11]
      simp (disch := omega) only [lit, leF, if_false]
      rw [ld_in (by omega) (by omega), if_neg (h2 i (by omega)), nm_def, addN]
      exact ih (i + 1) m (by omega) (by omega)
/-- the reference's search goes down, and keeps the last found -/
theorem pl_small {μ : St} {c : Nat} (hc : c < 128) (x : Int32) : ∀ (i fuel : Nat), i < 128 → i + 1 < fuel → ∃ m, fX10_encodePage_b23 fuel μ (nI c) x (nI i) = fX10_encodePage_b23 (m + 1) μ (nI c) x (-nI 1) := by
  intro i
  induction i with
  | zero =>
    intro fuel hi hf
    match fuel, hf with
    | m + 2, _ =>
      refine ⟨m, ?_⟩
      rw [fX10_encodePage_b23]
      simp (disch := omega) only [lit, ltT, ltF, if_false, if_true, nm_def, m10]
  | succ i ih =>
    intro fuel hi hf
    match fuel, hf with
    | m + 1, hf =>
      obtain ⟨m2, e⟩ := ih m (by omega) (by omega)
      refine ⟨m2, ?_⟩
      rw [fX10_encodePage_b23]
      simp (disch := omega) only [lit, ltT, ltF, if_false, if_true, nm_def, m1N]
      exact e
theorem pl_none {μ : St} {c : Nat} (hc : 128 ≤ c) (hc2 : c < 65536) (x : Int32) : ∀ (i fuel : Nat), i < 128 → i + 1 < fuel → (∀ j, j ≤ i → μ 1 j ≠ nI c) → ∃ m, fX10_encodePage_b23 fuel μ (nI c) x (nI i) = fX10_encodePage_b23 (m + 1) μ (nI c) x (-nI 1) := by
  intro i
  induction i with
  | zero =>
    intro fuel hi hf h
    match fuel, hf with
    | m + 2, _ =>
      refine ⟨m, ?_⟩
      rw [fX10_encodePage_b23]
      simp (disch := omega) only [lit, ltF, if_false]
      rw [ld_in (by omega) (by omega), if_neg (h 0 (by omega)), nm_def, m10]
  | succ i ih =>
    intro fuel hi hf h
    match fuel, hf with
    | m + 1, hf =>
      obtain ⟨m2, e⟩ := ih m (by omega) (by omega) (fun j hj => h j (by omega))
      refine ⟨m2, ?_⟩
      rw [fX10_encodePage_b23]
      simp (disch := omega) only [lit, ltF, if_false]
      rw [ld_in (by omega) (by omega), if_neg (h (i + 1) (by omega)), nm_def, m1N]
      exact e
theorem pl_some {μ : St} {c k0 : Nat} (hc : 128 ≤ c) (hc2 : c < 65536) (h1 : μ 1 k0 = nI c) (h2 : ∀ j, j < k0 → μ 1 j ≠ nI c) : ∀ (d i fuel : Nat) (x : Int32), i = k0 + d → i < 128 → i + 1 < fuel → ∃ m, fX10_encodePage_b23 fuel μ (nI c) x (nI i) = fX10_encodePage_b23 (m + 1) μ (nI c) (nI (128 + k0)) (-nI 1) := by
  intro d
  induction d with
  | zero =>
    intro i fuel x hi h128 hf
    have hik : i = k0 := by omega
    subst hik
    match i, fuel, hf with
    | 0, m + 2, _ =>
      refine ⟨m, ?_⟩
      rw [fX10_encodePage_b23]
      simp (disch := omega) only [lit, ltF, if_false]
      rw [ld_in (by omega) (by omega), if_pos h1, nm_def, nm_def, m10]
      rfl
    | i + 1, m + 1, hf =>
      obtain ⟨m2, e⟩ := pl_none (μ := μ) hc hc2 (nI (128 + (i + 1))) i m (by omega) (by omega) (fun j hj => h2 j (by omega))
      refine ⟨m2, ?_⟩
      rw [fX10_encodePage_b23]
      simp (disch := omega) only [lit, ltF, if_false]
      rw [ld_in (by omega) (by omega), if_pos h1, nm_def, nm_def, m1N, addN]
      exact e
  | succ d ih =>
    intro i fuel x hi h128 hf
    match i, fuel, hf with
    | i + 1, m + 1, hf =>
      rw [fX10_encodePage_b23]
      simp (disch := omega) only [lit, ltF, if_false]
      rw [ld_in (by omega) (by omega)]
      by_cases hq : μ 1 (i + 1) = nI c
      · rw [if_pos hq, nm_def, nm_def, m1N]
        exact ih i m _ (by omega) (by omega) (by omega)
      · rw [if_neg hq, nm_def, m1N]
        exact ih i m _ (by omega) (by omega) (by omega)
theorem lk_pageE {σ μ : St} {n : Nat} {W : Nat → Nat} (hC : InC σ n W) (hM : InM μ n W) (hn : n ≤ 24) (h0 : 0 < n) (hw : ∀ i, i < n → W i < 65536) (hp : PG σ μ) (hm : Mm μ []) : ∃ σ1 μ1 k, fX2_encode σ = some (nI 0, σ1) ∧ fX10_encodePage μ = some (k, μ1) ∧ LR σ σ1 μ μ1 n k (KN μ μ1) False := by
  have e0 := at_in (i := 0) hC h0 hn
  have w0 := hw 0 h0
  -- both found the byte
  have found : ∀ b m : Nat, b < 256 → fX2_leastByteOf σ (nI (W 0)) = some (nI b, σ) → fX10_encodePage μ = fX10_encodePage_b23 (m + 1) μ (nI (W 0)) (nI b) (-nI 1) → ∃ σ1 μ1 k, fX2_encode σ = some (nI 0, σ1) ∧ fX10_encodePage μ = some (k, μ1) ∧ LR σ σ1 μ μ1 n k (KN μ μ1) False := by
    intro b m hb c1 c2
    obtain ⟨σ1, s1, m1, f1⟩ := mv_step σ 1
    obtain ⟨σ2, s2, m2, f2⟩ := mv_add m1 (by simp) b
    obtain ⟨μ1, g1, n1, r1⟩ := mm_add hm (by simp) b
    obtain ⟨μ2, g2, n2, r2⟩ := mm_step μ1 1
    refine ⟨σ2, μ2, nI 0, ?_, ?_, lr_step (f1.tr f2).fc m2 n1 r1 (by simp) n2 r2 (by omega) (by omega)⟩
    · unfold fX2_encode
      simp (disch := omega) only [lit, e0, bd_some, c1, ltF, if_false, s1, s2]
    · rw [c2, fX10_encodePage_b23]
      simp (disch := omega) only [lit, m1lt0, ltF, if_true, if_false, bd_some, g1, g2]
  by_cases hb : W 0 < 128
  · obtain ⟨m, e⟩ := pl_small (μ := μ) hb (nI (W 0)) 127 200 (by omega) (by omega)
    refine found (W 0) m (by omega) ?_ ?_
    · unfold fX2_leastByteOf
      simp (disch := omega) only [lit, leF, if_false]
    · unfold fX10_encodePage
      simp (disch := omega) only [lit, ldM hM h0 hn, leF, if_false]
      exact e
  · have c1 : fX2_leastByteOf σ (nI (W 0)) = fX2_leastByteOf_b11 200 σ (nI (W 0)) (nI 0) := by
      unfold fX2_leastByteOf
      simp (disch := omega) only [lit, leT, if_true]
    have c2 : fX10_encodePage μ = fX10_encodePage_b23 200 μ (nI (W 0)) (-nI 1) (nI 127) := by
      unfold fX10_encodePage
      simp (disch := omega) only [lit, ldM hM h0 hn, leT, if_true]
      rfl
    by_cases hx : ∃ k, k < 128 ∧ σ 2 k = nI (W 0)
    · obtain ⟨k0, ⟨hk, hk1⟩, hk2⟩ := pk_least _ hx
      have hk3 : ∀ j, j < k0 → σ 2 j ≠ nI (W 0) := fun j hj e => hk2 j hj ⟨by omega, e⟩
      obtain ⟨m, e⟩ := pl_some (μ := μ) (by omega) w0 (by rw [← (hp k0 hk).1]; exact hk1) (fun j hj => by rw [← (hp j (by omega)).1]; exact hk3 j hj) (127 - k0) 127 200 (-nI 1) (by omega) (by omega) (by omega)
      exact found (128 + k0) m (by omega) (by rw [c1]; exact lb_some hk hk1 hk3 k0 0 200 (by omega) (by omega)) (by rw [c2]; exact e)
    · have hx2 : ∀ j, j < 128 → σ 2 j ≠ nI (W 0) := fun j hj e => hx ⟨j, hj, e⟩
      obtain ⟨m, e⟩ := pl_none (μ := μ) (by omega) w0 (-nI 1) 127 200 (by omega) (by omega) (fun j hj => by rw [← (hp j (by omega)).1]; exact hx2 j (by omega))
      rw [lb_none hx2 128 0 200 (by omega) (by omega)] at c1
      rw [e, fX10_encodePage_b23] at c2
      simp (disch := omega) only [lit, m1lt0, if_true] at c2
      by_cases hh : 55296 ≤ W 0 ∧ W 0 < 56320
      · by_cases h1 : n = 1
        · -- a high one alone: NEED
          have e1 := at_out (i := 1) hC (by omega) (by omega)
          obtain ⟨σ1, s1, f1, s3⟩ := c_unp hC hn h0 w0
          rcases s3 with ⟨-, -, m1⟩ | ⟨q, -⟩
          · refine ⟨σ1, μ, nI 1, ?_, ?_, lr_need f1.fc m1 FM.rf⟩
            · unfold fX2_encode
              simp (disch := omega) only [lit, e0, bd_some, c1, m1lt0, if_true, e1, c_pairM σ w0, eqT, eqF, if_false, c_eiT σ (show 55296 ≤ W 0 ∧ W 0 < 57344 by omega), s1]
            · rw [c2]
              simp (disch := omega) only [lit, bd_some, r_hiT μ hh, eqF, if_false, hM.1, eqT, if_true]
          · exact absurd ⟨h1, hh⟩ q
        · have e1 := at_in (i := 1) hC (by omega) hn
          by_cases hl : 56320 ≤ W 1 ∧ W 1 < 57344
          · obtain ⟨σ1, s1, m1, f1⟩ := mv_unk σ 2
            obtain ⟨μ1, g1, n1, r1⟩ := mm_fault μ 3 2
            refine ⟨σ1, μ1, nI 3, ?_, ?_, lr_fault f1.fc (Or.inr rfl) m1 FM.rf n1 r1 (by omega) (by omega)⟩
            · unfold fX2_encode
              simp (disch := omega) only [lit, e0, bd_some, c1, m1lt0, if_true, e1, c_pairT σ hh hl, eqF, if_false, s1]
            · rw [c2]
              simp (disch := omega) only [lit, bd_some, r_hiT μ hh, eqF, if_false, hM.1, ldM hM (show 1 < n by omega) hn, r_loT μ hl, g1]
          · obtain ⟨σ1, s1, f1, s3⟩ := c_unp hC hn h0 w0
            rcases s3 with ⟨q, -, -⟩ | ⟨-, m1⟩
            · exact absurd q h1
            · obtain ⟨μ1, g1, n1, r1⟩ := mm_fault μ 2 1
              have w1 := hw 1 (by omega)
              refine ⟨σ1, μ1, nI 2, ?_, ?_, lr_fault f1.fc (Or.inl rfl) m1 FM.rf n1 r1 (by omega) (by omega)⟩
              · unfold fX2_encode
                simp (disch := omega) only [lit, e0, bd_some, c1, m1lt0, if_true, e1, c_pairF σ (fun q => hl q.2) w0 w1, eqT, eqF, if_false, c_eiT σ (show 55296 ≤ W 0 ∧ W 0 < 57344 by omega), s1]
              · rw [c2]
                simp (disch := omega) only [lit, bd_some, r_hiT μ hh, eqF, eqT, if_true, if_false, hM.1, ldM hM (show 1 < n by omega) hn, r_loF μ hl w1, g1]
      · have e1 : ∃ z, fX5_at 4 σ (nI 1) = some (z, σ) ∧ fX4_isPair σ (nI (W 0)) z = some (nI 0, σ) := by
          by_cases h1 : 1 < n
          · exact ⟨_, at_in hC h1 hn, c_pairF σ (fun q => hh q.1) w0 (hw 1 h1)⟩
          · exact ⟨_, at_out hC (by omega) (by omega), c_pairM σ w0⟩
        obtain ⟨z, e1, e2⟩ := e1
        by_cases hl : 56320 ≤ W 0 ∧ W 0 < 57344
        · obtain ⟨σ1, s1, f1, s3⟩ := c_unp hC hn h0 w0
          rcases s3 with ⟨-, q, -⟩ | ⟨-, m1⟩
          · exact absurd q hh
          · obtain ⟨μ1, g1, n1, r1⟩ := mm_fault μ 2 1
            refine ⟨σ1, μ1, nI 2, ?_, ?_, lr_fault f1.fc (Or.inl rfl) m1 FM.rf n1 r1 (by omega) (by omega)⟩
            · unfold fX2_encode
              simp (disch := omega) only [lit, e0, bd_some, c1, m1lt0, if_true, e1, e2, eqT, eqF, if_false, c_eiT σ (show 55296 ≤ W 0 ∧ W 0 < 57344 by omega), s1]
            · rw [c2]
              simp (disch := omega) only [lit, bd_some, r_hiF μ hh w0, eqF, eqT, if_true, if_false, r_loT μ hl, g1]
        · obtain ⟨σ1, s1, m1, f1⟩ := mv_unk σ 1
          obtain ⟨μ1, g1, n1, r1⟩ := mm_fault μ 3 1
          refine ⟨σ1, μ1, nI 3, ?_, ?_, lr_fault f1.fc (Or.inr rfl) m1 FM.rf n1 r1 (by omega) (by omega)⟩
          · unfold fX2_encode
            simp (disch := omega) only [lit, e0, bd_some, c1, m1lt0, if_true, e1, e2, eqT, eqF, if_false, c_eiF σ (show ¬ (55296 ≤ W 0 ∧ W 0 < 57344) by omega) w0, s1]
          · rw [c2]
            simp (disch := omega) only [lit, bd_some, r_hiF μ hh w0, eqF, eqT, if_true, if_false, r_loF μ hl w0, g1]
