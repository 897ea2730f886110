/-! ===== sets 2, 3, 4: UTF-16 ===== -/
def by16 (h x : Nat) : List Nat := if h = 0 then [x / 256, x % 256] else [x % 256, x / 256]
theorem by16_len (h x : Nat) : (by16 h x).length = 2 := by unfold by16; split <;> rfl
theorem rem256 {x : Nat} (hx : x < 65536) : nI x - nI x / nI 256 * nI 256 = nI (x % 256) := by
  simp (disch := omega) only [divN, mulN]
  rw [subN (by omega), show x - x / 256 * 256 = x % 256 by omega]
theorem c_bytes {σ : St} {k t j h x : Nat} {us : List Nat} (hm : Mv σ k t us) (hl : us.length ≤ 2) (hj : 12 ≤ j) (hh : σ j 3 = nI h) (h1 : h ≤ 1) (hx : x < 65536) : ∃ σ1, fX6_addBytes j σ (nI x) = some (nI 0, σ1) ∧ Mv σ1 k t (us ++ by16 h x) ∧ F8 σ σ1 := by
  rcases (show h = 0 ∨ h = 1 by omega) with rfl | rfl
  · obtain ⟨σ1, s1, m1, f1⟩ := mv_add hm (by omega) (x / 256)
    obtain ⟨σ2, s2, m2, f2⟩ := mv_add m1 (by simp; omega) (x % 256)
    refine ⟨σ2, ?_, ?_, f1.tr f2⟩
    · unfold fX6_addBytes fX6_addBytes_b21
      simp (disch := omega) only [lit, hh, eqT, if_true, divN, s1, bd_some]
      rw [f1 j (by omega) (by omega)]
      simp (disch := omega) only [hh, eqT, if_true, mulN]
      rw [subN (by omega), show x - x / 256 * 256 = x % 256 by omega, s2, bd_some]
    · rw [List.append_assoc] at m2
      exact m2
  · obtain ⟨σ1, s1, m1, f1⟩ := mv_add hm (by omega) (x % 256)
    obtain ⟨σ2, s2, m2, f2⟩ := mv_add m1 (by simp; omega) (x / 256)
    refine ⟨σ2, ?_, ?_, f1.tr f2⟩
    · unfold fX6_addBytes fX6_addBytes_b21
      simp (disch := omega) only [lit, hh, eqF, if_false]
      rw [rem256 hx, s1, bd_some, f1 j (by omega) (by omega)]
      simp (disch := omega) only [hh, eqF, if_false, divN, s2, bd_some]
    · rw [List.append_assoc] at m2
      exact m2
theorem r_bytes {μ : St} {h x : Nat} {us : List Nat} (hm : Mm μ us) (hl : us.length ≤ 2) (h1 : h ≤ 1) (hx : x < 65536) : ∃ μ1, fX10_putSixteen μ (nI x) (nI h) = some (nI 0, μ1) ∧ Mm μ1 (us ++ by16 h x) ∧ FR μ μ1 := by
  rcases (show h = 0 ∨ h = 1 by omega) with rfl | rfl
  · obtain ⟨σ1, s1, m1, f1⟩ := mm_add hm (by omega) (x / 256)
    obtain ⟨σ2, s2, m2, f2⟩ := mm_add m1 (by simp; omega) (x % 256)
    refine ⟨σ2, ?_, ?_, f1.tr f2⟩
    · unfold fX10_putSixteen fX10_putSixteen_b18
      simp (disch := omega) only [lit, eqT, if_true, divN, s1, bd_some, mulN]
      rw [subN (by omega), show x - x / 256 * 256 = x % 256 by omega, s2, bd_some]
    · rw [List.append_assoc] at m2
      exact m2
  · obtain ⟨σ1, s1, m1, f1⟩ := mm_add hm (by omega) (x % 256)
    obtain ⟨σ2, s2, m2, f2⟩ := mm_add m1 (by simp; omega) (x / 256)
    refine ⟨σ2, ?_, ?_, f1.tr f2⟩
    · unfold fX10_putSixteen fX10_putSixteen_b18
      simp (disch := omega) only [lit, eqF, if_false]
      rw [rem256 hx, s1, bd_some]
      simp (disch := omega) only [divN, s2, bd_some]
    · rw [List.append_assoc] at m2
      exact m2
def nx16 (j s : Nat) (σ1 μ μ1 : St) : Prop := (∀ k, 27 ≤ k → k ≤ 30 → μ1 0 k = μ 0 k) ∧ ∃ w, w ≤ 1 ∧ μ1 0 31 = nI w ∧ σ1 j 4 = nI (if s = 4 then 1 else w)
theorem lr_nx {σ σ1 μ μ1 : St} {n : Nat} {k : Int32} {nx nx2 mk : Prop} (h : LR σ σ1 μ μ1 n k nx mk) (hx : nx → nx2) : LR σ σ1 μ μ1 n k nx2 mk := by
  obtain ⟨a, b, c | ⟨t, us, c1, c2, c3, c4, c5, c6, c7, c8⟩ | c⟩ := h
  · exact ⟨a, b, Or.inl c⟩
  · exact ⟨a, b, Or.inr (Or.inl ⟨t, us, c1, c2, c3, c4, c5, c6, c7, hx c8⟩)⟩
  · exact ⟨a, b, Or.inr (Or.inr c)⟩
theorem lk_16E {σ μ : St} {n j s f g w : Nat} {W : Nat → Nat} (hj : j = s + 10) (hs2 : 2 ≤ s) (hs4 : s ≤ 4) (hC : InC σ n W) (hM : InM μ n W) (hn : n ≤ 24) (h0 : 0 < n) (hw : ∀ i, i < n → W i < 65536) (hm : Mm μ []) (hset : μ 0 1 = nI s) (hmk : σ j 0 = nI (if s = 2 then 1 else 0)) (hf : σ j 2 = nI f) (hg : μ 0 16 = nI g) (hf1 : f ≤ 1) (hg1 : g ≤ 1) (hfg : s = 2 → f + g = 1) (hh : σ j 3 = nI (if s = 4 then 1 else 0)) (hh4 : σ j 4 = nI (if s = 4 then 1 else 0)) (hw0 : μ 0 31 = nI 0) : ∃ σ1 μ1 k, fX6_encode j σ = some (nI 0, σ1) ∧ fX10_encodeSixteen μ = some (k, μ1) ∧ LR σ σ1 μ μ1 n k (KN μ μ1) (s = 2 ∧ g = 0) ∧ F8 σ σ1 ∧ (s = 2 ∧ g = 0 → k = nI 0 ∧ σ1 8 3 = nI 2) := by
  have e0 := at_in (i := 0) hC h0 hn
  have w0 := hw 0 h0
  by_cases hmark : s = 2 ∧ g = 0
  · obtain ⟨hs, hg0⟩ := hmark
    have hf0 : f = 1 := by have := hfg hs; omega
    obtain ⟨σ1, s1, m1, f1⟩ := mv_step σ 0
    obtain ⟨σ2, s2, m2, f2⟩ := mv_add m1 (by simp) 254
    obtain ⟨σ3, s3, m3, f3⟩ := mv_add m2 (by simp) 255
    obtain ⟨μ1, g1, n1, r1⟩ := mm_add hm (by simp) 254
    obtain ⟨μ2, g2, n2, r2⟩ := mm_add n1 (by simp) 255
    obtain ⟨μ3, g3, n3, r3⟩ := mm_step μ2 0
    refine ⟨σ3, μ3, nI 0, ?_, ?_, lr_step ((f1.tr f2).tr f3).fc m3 n2 (r1.tr r2) (by simp) n3 r3 (by omega) (fun _ => ⟨hs, hg0⟩), (f1.tr f2).tr f3, fun _ => ⟨rfl, m3.2.2.1⟩⟩
    · unfold fX6_encode
      rw [if_pos hs] at hmk
      subst hf0
      simp (disch := omega) only [lit, e0, bd_some, hmk, hf, eqF, if_false, s1, s2, s3]
    · unfold fX10_encodeSixteen
      subst hs
      subst hg0
      simp (disch := omega) only [lit, hset, hg, eqT, if_true, bd_some, g1, g2, g3]
  · have c1 : fX6_encode j σ = fX6_encode_b42 j σ (nI (W 0)) := by
      unfold fX6_encode
      simp (disch := omega) only [lit, e0, bd_some, hmk, hf]
      by_cases hs : s = 2
      · have := hfg hs
        rw [if_pos hs]
        simp (disch := omega) only [eqF, eqT, if_true, if_false]
      · rw [if_neg hs]
        simp (disch := omega) only [eqT, if_true]
    have c2 : fX10_encodeSixteen μ = fX10_encodeSixteen_b35 μ := by
      unfold fX10_encodeSixteen
      simp (disch := omega) only [lit, hset, hg]
      by_cases hs : s = 2
      · simp (disch := omega) only [eqF, eqT, if_true, if_false]
      · simp (disch := omega) only [eqF, if_false]
    rw [c1, c2]
    have p4 : ∀ μ0 : St, μ0 0 1 = nI s → ∀ a b, fX10_encodeSixteen_b92 μ0 (nI a) = fX10_encodeSixteen_b107 μ0 (nI a) (nI (if s = 4 then 1 else 0)) (nI a) ∧ (if μ0 0 1 = 4 then fX10_encodeSixteen_b137 μ0 (nI a) 1 (nI b) else fX10_encodeSixteen_b137 μ0 (nI a) 0 (nI b)) = fX10_encodeSixteen_b137 μ0 (nI a) (nI (if s = 4 then 1 else 0)) (nI b) := by
      intro μ0 hm0 a b
      unfold fX10_encodeSixteen_b92
      by_cases h4 : s = 4
      · simp (disch := omega) only [lit, hm0, eqT, if_true, h4, and_self]
      · rw [if_neg h4]
        simp (disch := omega) only [lit, hm0, eqF, if_false, and_self]
    have hh1 : (if s = 4 then 1 else 0 : Nat) ≤ 1 := by split <;> omega
    generalize (if s = 4 then 1 else 0 : Nat) = h at hh hh4 p4 hh1
    by_cases hhi : 55296 ≤ W 0 ∧ W 0 < 56320
    · by_cases h1 : n = 1
      · have e1 := at_out (i := 1) hC (by omega) (by omega)
        obtain ⟨σ1, s1, f1, s3⟩ := c_unp hC hn h0 w0
        rcases s3 with ⟨-, -, m1⟩ | ⟨q, -⟩
        · refine ⟨σ1, μ, nI 1, ?_, ?_, lr_need f1.fc m1 FM.rf, f1, fun q => absurd q hmark⟩
          · unfold fX6_encode_b42
            simp (disch := omega) only [lit, c_eiT σ (show 55296 ≤ W 0 ∧ W 0 < 57344 by omega), bd_some, eqF, if_false, e1, c_pairM σ w0, eqT, if_true, s1]
          · unfold fX10_encodeSixteen_b35
            simp (disch := omega) only [lit, ldM hM h0 hn, r_hiT μ hhi, bd_some, eqF, if_false, hM.1, eqT, if_true]
        · exact absurd ⟨h1, hhi⟩ q
      · have e1 := at_in (i := 1) hC (by omega) hn
        have w1 := hw 1 (by omega)
        have c3 : fX10_encodeSixteen_b35 μ = fX10_encodeSixteen_b59 μ (nI (W 0)) := by
          unfold fX10_encodeSixteen_b35
          simp (disch := omega) only [lit, ldM hM h0 hn, r_hiT μ hhi, bd_some, eqF, if_false, hM.1]
        by_cases hl : 56320 ≤ W 1 ∧ W 1 < 57344
        · obtain ⟨σ1, s1, m1, f1⟩ := mv_step σ 2
          obtain ⟨σ2, s2, m2, f2⟩ := c_bytes m1 (by simp) (show 12 ≤ j by omega) (by rw [f1 j (by omega) (by omega)]; exact hh) hh1 w0
          have e1b := at_in (i := 1) (hC.f8 (f1.tr f2)) (by omega) hn
          obtain ⟨σ3, s3, m3, f3⟩ := c_bytes m2 (by simp [by16_len]) (show 12 ≤ j by omega) (by rw [(f1.tr f2) j (by omega) (by omega)]; exact hh) hh1 w1
          obtain ⟨μ1, g1, n1, r1⟩ := r_bytes hm (by simp) hh1 w0
          obtain ⟨μ2, g2, n2, r2⟩ := r_bytes n1 (by simp [by16_len]) hh1 w1
          obtain ⟨μ3, g3, n3, r3⟩ := mm_step μ2 2
          refine ⟨σ3, μ3, nI 0, ?_, ?_, lr_step ((f1.tr f2).tr f3).fc m3 n2 (r1.tr r2) (by simp [by16_len]) n3 r3 (by omega) (by omega), (f1.tr f2).tr f3, fun q => absurd q hmark⟩
          · unfold fX6_encode_b42
            simp (disch := omega) only [lit, c_eiT σ (show 55296 ≤ W 0 ∧ W 0 < 57344 by omega), bd_some, eqF, if_false, e1, c_pairT σ hhi hl, s1, s2, e1b, s3]
          · rw [c3]
            unfold fX10_encodeSixteen_b59
            simp (disch := omega) only [lit, r_loF μ (show ¬ (56320 ≤ W 0 ∧ W 0 < 57344) by omega) w0, r_hiT μ hhi, bd_some, eqF, eqT, if_true, if_false, ldM hM (show 1 < n by omega) hn, r_loT μ hl]
            rw [(p4 μ hset (W 0) (W 1)).1]
            unfold fX10_encodeSixteen_b107
            simp (disch := omega) only [lit, g1, bd_some, r_hiT μ1 hhi, eqF, if_false, ldM (hM.fr r1) (show 1 < n by omega) hn]
            have p5 := (p4 μ1 (by rw [r1.2 1 (by omega)]; exact hset) (W 0) (W 1)).2
            simp only [lit] at p5
            rw [p5]
            unfold fX10_encodeSixteen_b137 fX10_encodeSixteen_b140
            simp (disch := omega) only [lit, g2, bd_some, r_hiT μ2 hhi, eqF, if_false, g3]
        · obtain ⟨σ1, s1, f1, s3⟩ := c_unp hC hn h0 w0
          rcases s3 with ⟨q, -, -⟩ | ⟨-, m1⟩
          · exact absurd q h1
          · obtain ⟨μ1, g1, n1, r1⟩ := mm_fault μ 2 1
            refine ⟨σ1, μ1, nI 2, ?_, ?_, lr_fault f1.fc (Or.inl rfl) m1 FM.rf n1 r1 (by omega) (by omega), f1, fun q => absurd q hmark⟩
            · unfold fX6_encode_b42
              simp (disch := omega) only [lit, c_eiT σ (show 55296 ≤ W 0 ∧ W 0 < 57344 by omega), bd_some, eqF, if_false, e1, c_pairF σ (fun q => hl q.2) w0 w1, eqT, if_true, s1]
            · rw [c3]
              unfold fX10_encodeSixteen_b59
              simp (disch := omega) only [lit, r_loF μ (show ¬ (56320 ≤ W 0 ∧ W 0 < 57344) by omega) w0, r_hiT μ hhi, bd_some, eqF, eqT, if_true, if_false, ldM hM (show 1 < n by omega) hn, r_loF μ hl w1, g1]
    · have c3 : fX10_encodeSixteen_b35 μ = fX10_encodeSixteen_b59 μ (nI (W 0)) := by
        unfold fX10_encodeSixteen_b35
        simp (disch := omega) only [lit, ldM hM h0 hn, r_hiF μ hhi w0, bd_some, eqT, if_true]
      rw [c3]
      by_cases hl : 56320 ≤ W 0 ∧ W 0 < 57344
      · have e1 : ∃ z, fX5_at 4 σ (nI 1) = some (z, σ) ∧ fX4_isPair σ (nI (W 0)) z = some (nI 0, σ) := by
          by_cases h1 : 1 < n
          · exact ⟨_, at_in hC h1 hn, c_pairF σ (fun q => hhi q.1) w0 (hw 1 h1)⟩
          · exact ⟨_, at_out hC (by omega) (by omega), c_pairM σ w0⟩
        obtain ⟨z, e1, e2⟩ := e1
        obtain ⟨σ1, s1, f1, s3⟩ := c_unp hC hn h0 w0
        rcases s3 with ⟨-, q, -⟩ | ⟨-, m1⟩
        · exact absurd q hhi
        · obtain ⟨μ1, g1, n1, r1⟩ := mm_fault μ 2 1
          refine ⟨σ1, μ1, nI 2, ?_, ?_, lr_fault f1.fc (Or.inl rfl) m1 FM.rf n1 r1 (by omega) (by omega), f1, fun q => absurd q hmark⟩
          · unfold fX6_encode_b42
            simp (disch := omega) only [lit, c_eiT σ (show 55296 ≤ W 0 ∧ W 0 < 57344 by omega), bd_some, eqF, if_false, e1, e2, eqT, if_true, s1]
          · unfold fX10_encodeSixteen_b59
            simp (disch := omega) only [lit, r_loT μ hl, bd_some, eqF, if_false, g1]
      · obtain ⟨σ1, s1, m1, f1⟩ := mv_step σ 1
        obtain ⟨σ2, s2, m2, f2⟩ := c_bytes m1 (by simp) (show 12 ≤ j by omega) (by rw [f1 j (by omega) (by omega)]; exact hh) hh1 w0
        obtain ⟨μ1, g1, n1, r1⟩ := r_bytes hm (by simp) hh1 w0
        obtain ⟨μ2, g2, n2, r2⟩ := mm_step μ1 1
        refine ⟨σ2, μ2, nI 0, ?_, ?_, lr_step (f1.tr f2).fc m2 n1 r1 (by simp [by16_len]) n2 r2 (by omega) (by omega), f1.tr f2, fun q => absurd q hmark⟩
        · unfold fX6_encode_b42
          simp (disch := omega) only [lit, c_eiF σ (show ¬ (55296 ≤ W 0 ∧ W 0 < 57344) by omega) w0, bd_some, eqT, if_true, s1, s2]
        · unfold fX10_encodeSixteen_b59
          simp (disch := omega) only [lit, r_loF μ hl w0, r_hiF μ hhi w0, bd_some, eqT, if_true]
          rw [(p4 μ hset (W 0) 0).1]
          unfold fX10_encodeSixteen_b107
          simp (disch := omega) only [lit, g1, bd_some, r_hiF μ1 hhi w0, eqT, if_true]
          unfold fX10_encodeSixteen_b140
          simp (disch := omega) only [lit, bd_some, r_hiF μ1 hhi w0, eqT, if_true, g2]
def ch16 (h : Nat) (W : Nat → Nat) (i : Nat) : Nat := if h = 0 then 256 * W i + W (i + 1) else W i + 256 * W (i + 1)
theorem c_char {σ : St} {n j h i : Nat} {W : Nat → Nat} (hC : InC σ n W) (hn : n ≤ 24) (hi : i + 1 < n) (hh : σ j 3 = nI h) (h1 : h ≤ 1) : fX6_characterAt j σ (nI i) = some (nI (ch16 h W i), σ) := by
  unfold fX6_characterAt ch16
  simp (disch := omega) only [lit, addN, at_in hC (show i < n by omega) hn, at_in hC hi hn, bd_some, hh, mulN]
  rcases (show h = 0 ∨ h = 1 by omega) with rfl | rfl
  · simp (disch := omega) only [eqT, if_true, Nat.mul_comm]
  · simp (disch := omega) only [eqF, if_false, Nat.mul_comm, Nat.add_comm, Nat.one_ne_zero]
theorem r_char {μ : St} {n s w i : Nat} {W : Nat → Nat} (hM : InM μ n W) (hn : n ≤ 24) (hi : i + 1 < n) (hset : μ 0 1 = nI s) (hs : s ≤ 6) (hw : μ 0 17 = nI w) (hw1 : w ≤ 1) : fX10_character μ (nI i) = some (nI (ch16 (if s = 4 then 1 else w) W i), μ) := by
  unfold fX10_character fX10_character_b15
  simp (disch := omega) only [lit, addN, ldM hM (show i < n by omega) hn, ldM hM hi hn, hset, hw, mulN]
  by_cases h4 : s = 4
  · rw [if_pos h4]
    simp (disch := omega) only [eqT, if_true, ch16, if_false, Nat.one_ne_zero]
  · rw [if_neg h4]
    rcases (show w = 0 ∨ w = 1 by omega) with rfl | rfl
    · simp (disch := omega) only [eqT, eqF, if_true, if_false, ch16]
    · simp (disch := omega) only [eqF, if_false, ch16, Nat.one_ne_zero]
theorem ch16_lt {h : Nat} {W : Nat → Nat} {i : Nat} (h1 : W i < 256) (h2 : W (i + 1) < 256) : ch16 h W i < 65536 := by unfold ch16; split <;> omega
theorem lk_16D {σ μ : St} {n j s f tk w : Nat} {W : Nat → Nat} (hj : j = s + 10) (hs2 : 2 ≤ s) (hs4 : s ≤ 4) (hC : InC σ n W) (hM : InM μ n W) (hn : n ≤ 24) (h0 : 0 < n) (hwb : ∀ i, i < n → W i < 256) (hm : Mm μ []) (hset : μ 0 1 = nI s) (hmk : σ j 0 = nI (if s = 2 then 1 else 0)) (hf : σ j 2 = nI f) (htk : μ 0 15 = nI tk) (hf1 : f ≤ 1) (htk1 : tk ≤ 1) (hft : s = 2 → f + tk = 1) (hw1 : w ≤ 1) (hh : σ j 3 = nI (if s = 4 then 1 else w)) (hw17 : μ 0 17 = nI w) (hw31 : μ 0 31 = nI w) : ∃ σ1 μ1 k, fX6_decode j σ = some (nI 0, σ1) ∧ fX10_decodeSixteen μ = some (k, μ1) ∧ LR σ σ1 μ μ1 n k (nx16 j s σ1 μ μ1) False := by
  have hr : ∀ i, i + 1 < n → fX10_character μ (nI i) = some (nI (ch16 (if s = 4 then 1 else w) W i), μ) := fun i hi => r_char hM hn hi hset (by omega) hw17 hw1
  have hh1 : (if s = 4 then 1 else w : Nat) ≤ 1 := by split <;> omega
  have hhd : ∀ σ1 μ1 : St, σ1 j 4 = nI (if s = 4 then 1 else w) → KN μ μ1 → nx16 j s σ1 μ μ1 := fun σ1 μ1 a b => ⟨fun k k1 k2 => b k k1 (by omega), w, hw1, by rw [b 31 (by omega) (by omega)]; exact hw31, a⟩
  generalize hhe : (if s = 4 then 1 else w : Nat) = h at hh hr hh1 hhd
  -- the class first keeps its order
  obtain ⟨σa, ha⟩ : ∃ z, z = up σ j 4 (nI h) := ⟨_, rfl⟩
  have fa : FC σ σa := by
    subst ha
    exact ⟨fun i _ _ a b c _ => up_ne (by omega), fun i k _ _ c => by
      by_cases e : i = j
      · subst e; exact up_e2 c
      · rw [up_ne e]⟩
  have hCa := hC.fc fa
  have a0 : σa j 0 = nI (if s = 2 then 1 else 0) := by rw [fa.2 j 0 (by omega) (by omega) (by omega)]; exact hmk
  have a2 : σa j 2 = nI f := by rw [fa.2 j 2 (by omega) (by omega) (by omega)]; exact hf
  have a3 : σa j 3 = nI h := by rw [fa.2 j 3 (by omega) (by omega) (by omega)]; exact hh
  have a4 : σa j 4 = nI h := by rw [ha]; exact up_eq
  have d1 : ∀ K : St → Option (Int32 × St), zk (σ j 3) (nm (up σ j 4 (σ j 3)) K) = K σa := by
    intro K
    rw [hh, zk_in (by rcases (show h = 0 ∨ h = 1 by omega) with rfl | rfl <;> simp), nm_def, ← ha]
  by_cases h1 : n = 1
  · obtain ⟨σ1, s1, m1, f1⟩ := mv_need σa
    refine ⟨σ1, μ, nI 1, ?_, ?_, lr_need (fa.tr f1.fc) m1 FM.rf⟩
    · unfold fX6_decode
      rw [d1]
      simp (disch := omega) only [lit, cnt_in hCa, bd_some, leF, if_false, s1]
    · unfold fX10_decodeSixteen
      simp (disch := omega) only [lit, hM.1, eqT, if_true]
  · have w0 := hwb 0 (by omega)
    have w1 := hwb 1 (by omega)
    have e0 := at_in (i := 0) hCa (by omega) hn
    have e1 := at_in (i := 1) hCa (by omega) hn
    by_cases hmark : s = 2 ∧ tk = 0 ∧ ((W 0 = 254 ∧ W 1 = 255) ∨ (W 0 = 255 ∧ W 1 = 254))
    · obtain ⟨hs, ht0, hb⟩ := hmark
      have hf0 : f = 1 := by have := hft hs; omega
      rw [if_pos hs] at a0
      rw [hf0] at a2
      rw [hs] at hset
      rw [ht0] at htk
      obtain ⟨σ1, s1, m1, f1⟩ := mv_step σa 2
      have e0b := at_in (i := 0) (hCa.f8 f1) (by omega) hn
      have hmk1 : fX6_isMark σa (nI (W 0)) (nI (W 1)) = some (nI 1, σa) := by
        unfold fX6_isMark fX6_isMark_b14
        rcases hb with ⟨b0, b1⟩ | ⟨b0, b1⟩
        · simp (disch := omega) only [lit, eqT, if_true]
        · simp (disch := omega) only [lit, eqT, eqF, if_true, if_false]
      obtain ⟨x, hx⟩ : ∃ x : Nat, x = if W 0 = 255 then 1 else 0 := ⟨_, rfl⟩
      obtain ⟨σ2, hσ2⟩ : ∃ z, z = up σ1 j 4 (nI x) := ⟨_, rfl⟩
      have f2 : FC σ1 σ2 := by
        subst hσ2
        exact ⟨fun i _ _ a b c _ => up_ne (by omega), fun i k _ _ c => by
          by_cases e : i = j
          · subst e; exact up_e2 c
          · rw [up_ne e]⟩
      have m2 : Mv σ2 1 2 [] := by
        obtain ⟨q1, q2, q3, q4⟩ := m1
        subst hσ2
        exact ⟨by rw [up_ne (by omega)]; exact q1, by rw [up_ne (by omega)]; exact q2, by rw [up_ne (by omega)]; exact q3, by rw [up_ne (by omega)]; exact q4⟩
      obtain ⟨μ1, hμ1⟩ : ∃ z, z = up μ 0 31 (nI x) := ⟨_, rfl⟩
      obtain ⟨μ2, g2, n2, r2⟩ := mm_step μ1 2
      have r1 : FM μ μ1 := by
        subst hμ1
        exact ⟨fun i a _ => up_ne a, fun k _ _ _ _ _ _ c => up_e2 c⟩
      have hm1 : Mm μ1 [] := by
        subst hμ1
        exact ⟨by rw [up_e2 (by omega)]; exact hm.1, fun i h => absurd h (Nat.not_lt_zero i)⟩
      refine ⟨σ2, μ2, nI 0, ?_, ?_, ⟨(fa.tr f1.fc).tr f2, r1.tr (FS.fm r2), Or.inr (Or.inl ⟨2, [], rfl, m2, hm1.fs r2, by simp, n2, by omega, by omega, ⟨fun k k1 k2 => ?_, x, ?_, ?_, ?_⟩⟩)⟩⟩
      · unfold fX6_decode
        rw [d1]
        simp (disch := omega) only [lit, cnt_in hCa, bd_some, leT, if_true, a0, a2, eqF, if_false, e0, e1, hmk1, s1, e0b]
        rcases hb with ⟨b0, b1⟩ | ⟨b0, b1⟩
        · rw [if_neg (by omega)] at hx
          simp (disch := omega) only [eqF, if_false, nm_def]
          rw [hσ2, hx]
        · rw [if_pos b0] at hx
          simp (disch := omega) only [eqT, if_true, nm_def]
          rw [hσ2, hx]
      · unfold fX10_decodeSixteen fX10_decodeSixteen_b68
        simp (disch := omega) only [lit, hM.1, eqF, if_false, hset, eqT, if_true, htk, ldM hM (show 0 < n by omega) hn, ldM hM (show 1 < n by omega) hn, addN]
        rcases hb with ⟨b0, b1⟩ | ⟨b0, b1⟩
        · rw [if_neg (by omega)] at hx
          rw [hx] at hμ1
          simp (disch := omega) only [eqT, if_true, eqF, if_false, nm_def, ← hμ1, g2, bd_some]
        · rw [if_pos b0] at hx
          rw [hx] at hμ1
          simp (disch := omega) only [eqT, if_true, eqF, if_false, nm_def, ← hμ1, g2, bd_some]
      · rw [r2.2 k (by omega), hμ1, up_e2 (by omega)]
      · rw [hx]; split <;> omega
      · rw [r2.2 31 (by omega), hμ1, up_eq]
      · rw [hσ2, up_eq, if_neg (by omega)]
    · have c1 : fX6_decode j σ = bd (fX6_decodeCharacter j σa) (fun _ σ5 => some (nI 0, σ5)) := by
        unfold fX6_decode
        rw [d1]
        simp (disch := omega) only [lit, cnt_in hCa, bd_some, leT, if_true]
        by_cases hs : s = 2
        · rw [if_pos hs] at a0
          rcases (show f = 0 ∨ f = 1 by omega) with hf0 | hf0
          · rw [hf0] at a2
            simp (disch := omega) only [a0, a2, eqF, eqT, if_true, if_false]
          · rw [hf0] at a2
            have ht0 : tk = 0 := by have := hft hs; omega
            have hnb : ¬ ((W 0 = 254 ∧ W 1 = 255) ∨ (W 0 = 255 ∧ W 1 = 254)) := fun q => hmark ⟨hs, ht0, q⟩
            have hmk0 : fX6_isMark σa (nI (W 0)) (nI (W 1)) = some (nI 0, σa) := by
              unfold fX6_isMark fX6_isMark_b14
              by_cases b0 : W 0 = 254
              · simp (disch := omega) only [lit, eqT, eqF, if_true, if_false]
              · by_cases b1 : W 0 = 255
                · simp (disch := omega) only [lit, eqT, eqF, if_true, if_false]
                · simp (disch := omega) only [lit, eqF, if_false]
            simp (disch := omega) only [a0, a2, eqF, eqT, if_true, if_false, e0, e1, bd_some, hmk0]
        · rw [if_neg hs] at a0
          simp (disch := omega) only [a0, eqT, if_true]
      have c2 : fX10_decodeSixteen μ = fX10_decodeSixteen_b95 μ := by
        unfold fX10_decodeSixteen
        simp (disch := omega) only [lit, hM.1, eqF, if_false, hset]
        by_cases hs : s = 2
        · rcases (show tk = 0 ∨ tk = 1 by omega) with ht0 | ht0
          · rw [ht0] at htk
            have hnb : ¬ ((W 0 = 254 ∧ W 1 = 255) ∨ (W 0 = 255 ∧ W 1 = 254)) := fun q => hmark ⟨hs, ht0, q⟩
            simp (disch := omega) only [eqT, if_true, htk, ldM hM (show 0 < n by omega) hn, ldM hM (show 1 < n by omega) hn, addN]
            by_cases hq : W 0 + W 1 = 509
            · exact absurd (show (W 0 = 254 ∧ W 1 = 255) ∨ (W 0 = 255 ∧ W 1 = 254) by omega) hnb
            · simp (disch := omega) only [eqF, if_false]
          · rw [ht0] at htk
            simp (disch := omega) only [eqT, eqF, if_true, if_false, htk]
        · simp (disch := omega) only [eqF, if_false]
      rw [c1, c2]
      have hx0 : ch16 h W 0 < 65536 := ch16_lt w0 w1
      have q0 := c_char (i := 0) hCa hn (by omega) a3 hh1
      have p0 := hr 0 (by omega)
      have hnx : ∀ σ1 μ1 : St, F8 σa σ1 → KN μ μ1 → nx16 j s σ1 μ μ1 := fun σ1 μ1 a b => by
        refine hhd σ1 μ1 ?_ b
        rw [a j (by omega) (by omega)]
        exact a4
      by_cases hlo : 56320 ≤ ch16 h W 0 ∧ ch16 h W 0 < 57344
      · obtain ⟨σ1, s1, m1, f1⟩ := mv_bad σa 2
        obtain ⟨μ1, g1, n1, r1⟩ := mm_fault μ 2 2
        refine ⟨σ1, μ1, nI 2, ?_, ?_, lr_fault (fa.tr f1.fc) (Or.inl rfl) m1 FM.rf n1 r1 (by omega) (by omega)⟩
        · unfold fX6_decodeCharacter
          simp (disch := omega) only [lit, q0, bd_some, c_eiT σa (show 55296 ≤ ch16 h W 0 ∧ ch16 h W 0 < 57344 by omega), eqF, if_false, c_loT σa hlo, s1]
        · unfold fX10_decodeSixteen_b95
          simp (disch := omega) only [lit, p0, bd_some, r_loT μ hlo, eqF, if_false, g1]
      · by_cases hhi : 55296 ≤ ch16 h W 0 ∧ ch16 h W 0 < 56320
        · by_cases h4 : 4 ≤ n
          · have w2 := hwb 2 (by omega)
            have w3 := hwb 3 (by omega)
            have hx2 : ch16 h W 2 < 65536 := ch16_lt w2 w3
            have q2 := c_char (i := 2) hCa hn (by omega) a3 hh1
            have p2 := hr 2 (by omega)
            by_cases hl2 : 56320 ≤ ch16 h W 2 ∧ ch16 h W 2 < 57344
            · obtain ⟨σ1, s1, m1, f1⟩ := mv_step σa 4
              obtain ⟨σ2, s2, m2, f2⟩ := mv_add m1 (by simp) (ch16 h W 0)
              have q2b := c_char (i := 2) (hCa.f8 (f1.tr f2)) hn (by omega) (show σ2 j 3 = nI h by rw [(f1.tr f2) j (by omega) (by omega)]; exact a3) hh1
              obtain ⟨σ3, s3, m3, f3⟩ := mv_add m2 (by simp) (ch16 h W 2)
              obtain ⟨μ1, g1, n1, r1⟩ := mm_add hm (by simp) (ch16 h W 0)
              obtain ⟨μ2, g2, n2, r2⟩ := mm_add n1 (by simp) (ch16 h W 2)
              obtain ⟨μ3, g3, n3, r3⟩ := mm_step μ2 4
              refine ⟨σ3, μ3, nI 0, ?_, ?_, lr_nx (lr_step (fa.tr ((f1.tr f2).tr f3).fc) m3 n2 (r1.tr r2) (by simp) n3 r3 (by omega) (by omega)) (fun a => hnx _ _ ((f1.tr f2).tr f3) a)⟩
              · unfold fX6_decodeCharacter
                simp (disch := omega) only [lit, q0, bd_some, c_eiT σa (show 55296 ≤ ch16 h W 0 ∧ ch16 h W 0 < 57344 by omega), eqF, eqT, if_true, if_false, c_loF σa hlo hx0, cnt_in hCa, leT, q2, c_loT σa hl2, s1, s2, q2b, s3]
              · unfold fX10_decodeSixteen_b95
                simp (disch := omega) only [lit, p0, bd_some, r_loF μ hlo hx0, r_hiT μ hhi, eqF, eqT, if_true, if_false, hM.1, leT, p2, r_loT μ hl2, g1, g2, g3]
            · obtain ⟨σ1, s1, m1, f1⟩ := mv_bad σa 2
              obtain ⟨μ1, g1, n1, r1⟩ := mm_fault μ 2 2
              refine ⟨σ1, μ1, nI 2, ?_, ?_, lr_fault (fa.tr f1.fc) (Or.inl rfl) m1 FM.rf n1 r1 (by omega) (by omega)⟩
              · unfold fX6_decodeCharacter
                simp (disch := omega) only [lit, q0, bd_some, c_eiT σa (show 55296 ≤ ch16 h W 0 ∧ ch16 h W 0 < 57344 by omega), eqF, eqT, if_true, if_false, c_loF σa hlo hx0, cnt_in hCa, leT, q2, c_loF σa hl2 hx2, s1]
              · unfold fX10_decodeSixteen_b95
                simp (disch := omega) only [lit, p0, bd_some, r_loF μ hlo hx0, r_hiT μ hhi, eqF, eqT, if_true, if_false, hM.1, leT, p2, r_loF μ hl2 hx2, g1]
          · obtain ⟨σ1, s1, m1, f1⟩ := mv_need σa
            refine ⟨σ1, μ, nI 1, ?_, ?_, lr_need (fa.tr f1.fc) m1 FM.rf⟩
            · unfold fX6_decodeCharacter
              simp (disch := omega) only [lit, q0, bd_some, c_eiT σa (show 55296 ≤ ch16 h W 0 ∧ ch16 h W 0 < 57344 by omega), eqF, eqT, if_true, if_false, c_loF σa hlo hx0, cnt_in hCa, leF, s1]
            · unfold fX10_decodeSixteen_b95
              simp (disch := omega) only [lit, p0, bd_some, r_loF μ hlo hx0, r_hiT μ hhi, eqF, eqT, if_true, if_false, hM.1, leF]
        · obtain ⟨σ1, s1, m1, f1⟩ := mv_step σa 2
          obtain ⟨σ2, s2, m2, f2⟩ := mv_add m1 (by simp) (ch16 h W 0)
          obtain ⟨μ1, g1, n1, r1⟩ := mm_add hm (by simp) (ch16 h W 0)
          obtain ⟨μ2, g2, n2, r2⟩ := mm_step μ1 2
          refine ⟨σ2, μ2, nI 0, ?_, ?_, lr_nx (lr_step (fa.tr (f1.tr f2).fc) m2 n1 r1 (by simp) n2 r2 (by omega) (by omega)) (fun a => hnx _ _ (f1.tr f2) a)⟩
          · unfold fX6_decodeCharacter
            simp (disch := omega) only [lit, q0, bd_some, c_eiF σa (show ¬ (55296 ≤ ch16 h W 0 ∧ ch16 h W 0 < 57344) by omega) hx0, eqT, if_true, s1, s2]
          · unfold fX10_decodeSixteen_b95
            simp (disch := omega) only [lit, p0, bd_some, r_loF μ hlo hx0, r_hiF μ hhi hx0, eqT, if_true, g1, g2]
