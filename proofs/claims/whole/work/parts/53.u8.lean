/-! ===== sets 0, 1: UTF-8 ===== -/
def e8 (md p : Nat) : List Nat := if p < 128 ∧ ¬ (md = 1 ∧ p = 0) then [p] else if p < 2048 then [192 + p / 64, 128 + p % 64] else if p < 65536 then [224 + p / 4096, 128 + p / 64 % 64, 128 + p % 64] else [240 + p / 262144, 128 + p / 4096 % 64, 128 + p / 64 % 64, 128 + p % 64]
theorem e8_len (md p : Nat) : (e8 md p).length ≤ 4 := by
  unfold e8
  repeat' split
  all_goals simp
def lst (p : Nat) : Nat → List Nat
  | 0 => []
  | n + 1 => (128 + p / 2 ^ (6 * n) % 64) :: lst p n
theorem rem64 {x : Nat} (hx : x < 2147483648) : nI x - nI x / nI 64 * nI 64 = nI (x % 64) := by
  simp (disch := omega) only [divN, mulN]
  rw [subN (by omega), show x - x / 64 * 64 = x % 64 by omega]
theorem c_lastL {p k t : Nat} (hp : p < 1114112) : ∀ (n fuel : Nat) (σ : St) (us : List Nat), n ≤ 3 → n + us.length ≤ 4 → n < fuel → Mv σ k t us → ∃ σ1, fX8_addLast_b4 fuel σ (nI p) (nI n + -nI 1) = some (nI 0, σ1) ∧ Mv σ1 k t (us ++ lst p n) ∧ F8 σ σ1 := by
  intro n
  induction n with
  | zero =>
    intro fuel σ us _ _ hf hm
    match fuel, hf with
    | m + 1, _ =>
      refine ⟨σ, ?_, by rw [lst, List.append_nil]; exact hm, fun _ _ _ => rfl⟩
      rw [fX8_addLast_b4]
      simp only [m10, lit, m1lt0, if_true]
  | succ n ih =>
    intro fuel σ us h3 h4 hf hm
    match fuel, hf with
    | m + 1, hf =>
      obtain ⟨σ1, s1, m1, f1⟩ := mv_add hm (by omega) (128 + p / 2 ^ (6 * n) % 64)
      obtain ⟨σ2, s2, m2, f2⟩ := ih m σ1 _ (by omega) (by rw [List.length_append, List.length_singleton]; omega) (by omega) m1
      have hd : p / 2 ^ (6 * n) < 2147483648 := Nat.lt_of_le_of_lt (Nat.div_le_self _ _) (by omega)
      have e1 : nI p >>> (nI (6 * n) &&& nI 31) = nI (p / 2 ^ (6 * n)) := shrN (by omega) (by omega)
      have e2 : nI (p / 2 ^ (6 * n)) &&& nI 63 = nI (p / 2 ^ (6 * n) % 64) := and63 (by omega)
      refine ⟨σ2, ?_, ?_, f1.tr f2⟩
      · rw [fX8_addLast_b4]
        simp (disch := omega) only [lit, m1N, ltF, if_false, mulN, e1, e2, addN, s1, bd_some, nm_def, s2]
      · rw [List.append_assoc] at m2
        exact m2
theorem c_last {p k t n : Nat} {σ : St} {us : List Nat} (hp : p < 1114112) (h3 : n ≤ 3) (h4 : n + us.length ≤ 4) (hm : Mv σ k t us) : ∃ σ1, fX8_addLast σ (nI p) (nI n) = some (nI 0, σ1) ∧ Mv σ1 k t (us ++ lst p n) ∧ F8 σ σ1 := by
  obtain ⟨σ1, s1, m1, f1⟩ := c_lastL hp n 200 σ us h3 h4 (by omega) hm
  refine ⟨σ1, ?_, m1, f1⟩
  unfold fX8_addLast
  rw [nm_def, lit, Int32.sub_eq_add_neg]
  exact s1
theorem r_lastL {p : Nat} (hp : p < 1114112) : ∀ (n fuel : Nat) (μ : St) (us : List Nat), n ≤ 3 → n + us.length ≤ 8 → n < fuel → Mm μ us → ∃ μ1, fX10_putEight_b98 fuel μ (nI p) (nI n + -nI 1) = some (nI 0, μ1) ∧ Mm μ1 (us ++ lst p n) ∧ FR μ μ1 := by
  intro n
  induction n with
  | zero =>
    intro fuel σ us _ _ hf hm
    match fuel, hf with
    | m + 1, _ =>
      refine ⟨σ, ?_, by rw [lst, List.append_nil]; exact hm, FR.rf⟩
      rw [fX10_putEight_b98]
      simp only [m10, lit, m1lt0, if_true]
  | succ n ih =>
    intro fuel σ us h3 h4 hf hm
    match fuel, hf with
    | m + 1, hf =>
      obtain ⟨σ1, s1, m1, f1⟩ := mm_add hm (by omega) (128 + p / 2 ^ (6 * n) % 64)
      obtain ⟨σ2, s2, m2, f2⟩ := ih m σ1 _ (by omega) (by rw [List.length_append, List.length_singleton]; omega) (by omega) m1
      have hd : p / 2 ^ (6 * n) < 2147483648 := Nat.lt_of_le_of_lt (Nat.div_le_self _ _) (by omega)
      have e1 : nI p >>> (nI (6 * n) &&& nI 31) = nI (p / 2 ^ (6 * n)) := shrN (by omega) (by omega)
      have e2 := rem64 hd
      refine ⟨σ2, ?_, ?_, f1.tr f2⟩
      · rw [fX10_putEight_b98]
        simp (disch := omega) only [lit, m1N, ltF, if_false, mulN, e1]
        rw [e2, addN, s1, bd_some, nm_def]
        exact s2
      · rw [List.append_assoc] at m2
        exact m2
theorem c_enc {σ : St} {k t j md p : Nat} (hm : Mv σ k t []) (hmd : σ j 0 = nI md) (hmd1 : md ≤ 1) (hp : p < 1114112) : ∃ σ1, fX8_addEncoding j σ (nI p) = some (nI 0, σ1) ∧ Mv σ1 k t (e8 md p) ∧ F8 σ σ1 := by
  have many : ¬ (p < 128 ∧ ¬ (md = 1 ∧ p = 0)) → ∃ σ1, fX8_addEncoding_b26 j σ (nI p) = some (nI 0, σ1) ∧ Mv σ1 k t (e8 md p) ∧ F8 σ σ1 := by
    intro h1
    unfold e8
    rw [if_neg h1]
    by_cases h2 : p < 2048
    · obtain ⟨σ1, s1, m1, f1⟩ := mv_add hm (by simp) (192 + p / 64)
      obtain ⟨σ2, s2, m2, f2⟩ := c_last (n := 1) hp (by omega) (by simp) m1
      refine ⟨σ2, ?_, ?_, f1.tr f2⟩
      · unfold fX8_addEncoding_b26
        simp (disch := omega) only [lit, leF, if_false, divN, addN, s1, bd_some, s2]
      · rw [if_pos h2]
        simp only [lst, List.nil_append, List.cons_append, Nat.mul_zero, Nat.pow_zero, Nat.div_one] at m2
        exact m2
    · by_cases h3 : p < 65536
      · obtain ⟨σ1, s1, m1, f1⟩ := mv_add hm (by simp) (224 + p / 4096)
        obtain ⟨σ2, s2, m2, f2⟩ := c_last (n := 2) hp (by omega) (by simp) m1
        refine ⟨σ2, ?_, ?_, f1.tr f2⟩
        · unfold fX8_addEncoding_b26
          simp (disch := omega) only [lit, leT, leF, if_true, if_false, divN, addN, s1, bd_some, s2]
        · rw [if_neg h2, if_pos h3]
          simp only [lst, List.nil_append, List.cons_append, Nat.mul_zero, Nat.pow_zero, Nat.div_one, Nat.mul_one, Nat.reducePow] at m2
          exact m2
      · obtain ⟨σ1, s1, m1, f1⟩ := mv_add hm (by simp) (240 + p / 262144)
        obtain ⟨σ2, s2, m2, f2⟩ := c_last (n := 3) hp (by omega) (by simp) m1
        refine ⟨σ2, ?_, ?_, f1.tr f2⟩
        · unfold fX8_addEncoding_b26
          simp (disch := omega) only [lit, leT, if_true, divN, addN, s1, bd_some, s2]
        · rw [if_neg h2, if_neg h3]
          simp only [lst, List.nil_append, List.cons_append, Nat.mul_zero, Nat.pow_zero, Nat.div_one, Nat.mul_one, Nat.reduceMul, Nat.reducePow] at m2
          exact m2
  by_cases h1 : p < 128 ∧ ¬ (md = 1 ∧ p = 0)
  · obtain ⟨σ1, s1, m1, f1⟩ := mv_add hm (by simp) p
    refine ⟨σ1, ?_, ?_, f1⟩
    · unfold fX8_addEncoding
      rcases (show md = 0 ∨ md = 1 by omega) with rfl | rfl
      · simp (disch := omega) only [lit, leF, if_false, hmd, eqT, if_true, s1, bd_some]
      · simp (disch := omega) only [lit, leF, if_false, hmd, eqF, s1, bd_some]
    · unfold e8
      rw [if_pos h1]
      exact m1
  · obtain ⟨σ1, s1, m1, f1⟩ := many h1
    refine ⟨σ1, ?_, m1, f1⟩
    rw [← s1]
    unfold fX8_addEncoding
    by_cases h2 : p < 128
    · obtain ⟨rfl, rfl⟩ : md = 1 ∧ p = 0 := by omega
      simp (disch := omega) only [lit, leF, if_false, hmd, eqF, eqT, if_true]
    · simp (disch := omega) only [lit, leT, if_true]
theorem r_e2 {μ : St} {p : Nat} (hm : Mm μ []) (hp : p < 2048) : ∃ μ1, fX10_putEight_b22 μ (nI p) = some (nI 0, μ1) ∧ Mm μ1 [192 + p / 64, 128 + p % 64] ∧ FR μ μ1 := by
  have sh1 : nI p >>> (nI 6 &&& nI 31) = nI (p / 64) := shrN (k := 6) (by omega) (by omega)
  obtain ⟨σ1, s1, m1, f1⟩ := mm_add hm (by simp) (192 + p / 64)
  obtain ⟨σ2, s2, m2, f2⟩ := r_lastL (p := p) (by omega) 1 200 σ1 _ (by omega) (by simp) (by omega) m1
  have s2 : fX10_putEight_b98 200 σ1 (nI p) (nI 0) = some (nI 0, σ2) := s2
  refine ⟨σ2, ?_, ?_, f1.tr f2⟩
  · unfold fX10_putEight_b22 fX10_putEight_b44 fX10_putEight_b82
    simp (disch := omega) only [lit, leF, if_false, eqF, eqT, if_true, subN, mulN, Nat.reduceSub, Nat.reduceMul, sh1, addN, s1, bd_some, nm_def]
    exact s2
  · simp only [lst, List.nil_append, List.cons_append, Nat.mul_zero, Nat.pow_zero, Nat.div_one] at m2
    exact m2
theorem r_e3 {μ : St} {p : Nat} (hm : Mm μ []) (h2 : ¬ p < 2048) (hp : p < 65536) : ∃ μ1, fX10_putEight_b22 μ (nI p) = some (nI 0, μ1) ∧ Mm μ1 [224 + p / 4096, 128 + p / 64 % 64, 128 + p % 64] ∧ FR μ μ1 := by
  have sh1 : nI p >>> (nI 12 &&& nI 31) = nI (p / 4096) := shrN (k := 12) (by omega) (by omega)
  obtain ⟨σ1, s1, m1, f1⟩ := mm_add hm (by simp) (224 + p / 4096)
  obtain ⟨σ2, s2, m2, f2⟩ := r_lastL (p := p) (by omega) 2 200 σ1 _ (by omega) (by simp) (by omega) m1
  rw [m1N 1] at s2
  refine ⟨σ2, ?_, ?_, f1.tr f2⟩
  · unfold fX10_putEight_b22 fX10_putEight_b44 fX10_putEight_b82
    simp (disch := omega) only [lit, leF, leT, if_false, eqF, eqT, if_true, subN, mulN, Nat.reduceSub, Nat.reduceMul, sh1, addN, s1, bd_some, nm_def]
    exact s2
  · simp only [lst, List.nil_append, List.cons_append, Nat.mul_zero, Nat.pow_zero, Nat.div_one, Nat.mul_one, Nat.reducePow] at m2
    exact m2
theorem r_e4 {μ : St} {p : Nat} (hm : Mm μ []) (h2 : ¬ p < 65536) (hp : p < 1114112) : ∃ μ1, fX10_putEight_b22 μ (nI p) = some (nI 0, μ1) ∧ Mm μ1 [240 + p / 262144, 128 + p / 4096 % 64, 128 + p / 64 % 64, 128 + p % 64] ∧ FR μ μ1 := by
  have sh1 : nI p >>> (nI 18 &&& nI 31) = nI (p / 262144) := shrN (k := 18) (by omega) (by omega)
  obtain ⟨σ1, s1, m1, f1⟩ := mm_add hm (by simp) (240 + p / 262144)
  obtain ⟨σ2, s2, m2, f2⟩ := r_lastL (p := p) (by omega) 3 200 σ1 _ (by omega) (by simp) (by omega) m1
  rw [m1N 2] at s2
  refine ⟨σ2, ?_, ?_, f1.tr f2⟩
  · unfold fX10_putEight_b22 fX10_putEight_b44 fX10_putEight_b82
    simp (disch := omega) only [lit, leT, if_false, eqF, if_true, subN, mulN, Nat.reduceSub, Nat.reduceMul, sh1, addN, s1, bd_some, nm_def]
    exact s2
  · simp only [lst, List.nil_append, List.cons_append, Nat.mul_zero, Nat.pow_zero, Nat.div_one, Nat.mul_one, Nat.reduceMul, Nat.reducePow] at m2
    exact m2
theorem r_enc {μ : St} {md p : Nat} (hm : Mm μ []) (hmd : μ 0 1 = nI md) (hmd1 : md ≤ 1) (hp : p < 1114112) : ∃ μ1, fX10_putEight μ (nI p) = some (nI 0, μ1) ∧ Mm μ1 (e8 md p) ∧ FR μ μ1 := by
  by_cases h1 : p < 128 ∧ ¬ (md = 1 ∧ p = 0)
  · obtain ⟨σ1, s1, m1, f1⟩ := mm_add hm (by simp) p
    refine ⟨σ1, ?_, ?_, f1⟩
    · unfold fX10_putEight fX10_putEight_b18 fX10_putEight_b44
      rcases (show md = 0 ∨ md = 1 by omega) with h | h
      · rw [h] at hmd
        simp (disch := omega) only [lit, leF, if_false, hmd, eqT, if_true, s1, bd_some]
      · rw [h] at hmd
        simp (disch := omega) only [lit, leF, if_false, hmd, eqF, eqT, if_true, s1, bd_some]
    · unfold e8
      rw [if_pos h1]
      exact m1
  · have c1 : fX10_putEight μ (nI p) = fX10_putEight_b22 μ (nI p) := by
      unfold fX10_putEight
      by_cases h2 : p < 128
      · have h3 : md = 1 ∧ p = 0 := by omega
        rw [h3.1] at hmd
        simp (disch := omega) only [lit, leF, leT, if_false, hmd, eqF, if_true]
      · simp (disch := omega) only [lit, leT, if_true]
    rw [c1]
    unfold e8
    rw [if_neg h1]
    by_cases h2 : p < 2048
    · rw [if_pos h2]
      exact r_e2 hm h2
    · rw [if_neg h2]
      by_cases h3 : p < 65536
      · rw [if_pos h3]
        exact r_e3 hm h2 h3
      · rw [if_neg h3]
        exact r_e4 hm h3 hp
theorem lk_8Ep {σ μ : St} {n j : Nat} {W : Nat → Nat} (hj : j = 10) (hC : InC σ n W) (hM : InM μ n W) (hn : n ≤ 24) (h0 : 0 < n) (hw : ∀ i, i < n → W i < 65536) (hm : Mm μ []) (hset : μ 0 1 = nI 0) (hmd : σ j 0 = nI 0) (hh : 55296 ≤ W 0 ∧ W 0 < 56320) (h1 : 1 < n) (hl : 56320 ≤ W 1 ∧ W 1 < 57344) : ∃ σ1 μ1 k, fX8_encode j σ = some (nI 0, σ1) ∧ fX10_encodeEight μ = some (k, μ1) ∧ LR σ σ1 μ μ1 n k (KN μ μ1) False := by
  have e0 := at_in (i := 0) hC h0 hn
  have w0 := hw 0 h0
  have hei : 55296 ≤ W 0 ∧ W 0 < 57344 := by omega
  have e1 := at_in (i := 1) hC h1 hn
  obtain ⟨σ1, s1, m1, f1⟩ := mv_step σ 2
  have e1b := at_in (i := 1) (hC.f8 f1) h1 hn
  have hP : 65536 + (W 0 - 55296) * 1024 + (W 1 - 56320) < 1114112 := by omega
  obtain ⟨σ2, s2, m2, f2⟩ := c_enc m1 (by rw [f1 j (by omega) (by omega)]; exact hmd) (Nat.zero_le 1) hP
  obtain ⟨μ1, g1, n1, r1⟩ := r_enc hm hset (Nat.zero_le 1) hP
  obtain ⟨μ2, g2, n2, r2⟩ := mm_step μ1 2
  have eP : 65536 + (W 0 - 55296) * 1024 + W 1 - 56320 = 65536 + (W 0 - 55296) * 1024 + (W 1 - 56320) := by omega
  refine ⟨σ2, μ2, nI 0, ?_, ?_, lr_step (f1.tr f2).fc m2 n1 r1 (e8_len _ _) n2 r2 (by omega) (by omega)⟩
  · unfold fX8_encode fX4_codePoint
    simp (disch := omega) only [lit, e0, bd_some, hmd, eqT, eqF, if_true, if_false, c_eiT σ hei, e1, c_pairT σ hh hl, s1, e1b, subN, mulN, addN, s2]
  · unfold fX10_encodeEight fX10_encodeEight_b40 fX10_encodeEight_b57
    simp (disch := omega) only [lit, ldM hM h0 hn, ldM hM h1 hn, hset, eqF, eqT, if_true, if_false, r_hiT μ hh, bd_some, hM.1, r_loF μ (show ¬ (56320 ≤ W 0 ∧ W 0 < 57344) by omega) w0, r_loT μ hl, subN, mulN, addN, eP, g1, g2]
theorem lk_8E {σ μ : St} {n j md : Nat} {W : Nat → Nat} (hj : j = md + 10) (hmd1 : md ≤ 1) (hC : InC σ n W) (hM : InM μ n W) (hn : n ≤ 24) (h0 : 0 < n) (hw : ∀ i, i < n → W i < 65536) (hm : Mm μ []) (hset : μ 0 1 = nI md) (hmd : σ j 0 = nI md) : ∃ σ1 μ1 k, fX8_encode j σ = some (nI 0, σ1) ∧ fX10_encodeEight μ = some (k, μ1) ∧ LR σ σ1 μ μ1 n k (KN μ μ1) False := by
  have e0 := at_in (i := 0) hC h0 hn
  have w0 := hw 0 h0
  by_cases hd : md = 1 ∨ ¬ (55296 ≤ W 0 ∧ W 0 < 57344)
  · obtain ⟨σ1, s1, m1, f1⟩ := mv_step σ 1
    obtain ⟨σ2, s2, m2, f2⟩ := c_enc m1 (by rw [f1 j (by omega) (by omega)]; exact hmd) hmd1 (show W 0 < 1114112 by omega)
    obtain ⟨μ1, g1, n1, r1⟩ := r_enc hm hset hmd1 (show W 0 < 1114112 by omega)
    obtain ⟨μ2, g2, n2, r2⟩ := mm_step μ1 1
    refine ⟨σ2, μ2, nI 0, ?_, ?_, lr_step (f1.tr f2).fc m2 n1 r1 (e8_len _ _) n2 r2 (by omega) (by omega)⟩
    · unfold fX8_encode fX8_encode_b20
      rcases (show md = 0 ∨ md = 1 by omega) with h | h
      · rw [h] at hmd
        simp (disch := omega) only [lit, e0, bd_some, hmd, eqT, if_true, c_eiF σ (show ¬ (55296 ≤ W 0 ∧ W 0 < 57344) by omega) w0, s1, s2]
      · rw [h] at hmd
        simp (disch := omega) only [lit, e0, bd_some, hmd, eqF, if_false, s1, s2]
    · unfold fX10_encodeEight
      rcases (show md = 0 ∨ md = 1 by omega) with h | h
      · rw [h] at hset
        simp (disch := omega) only [lit, ldM hM h0 hn, hset, eqF, eqT, if_true, if_false, r_hiF μ (show ¬ (55296 ≤ W 0 ∧ W 0 < 56320) by omega) w0, bd_some, r_loF μ (show ¬ (56320 ≤ W 0 ∧ W 0 < 57344) by omega) w0, g1, g2]
      · rw [h] at hset
        simp (disch := omega) only [lit, ldM hM h0 hn, hset, eqT, if_true, bd_some, g1, g2]
  · obtain rfl : md = 0 := by omega
    have hei : 55296 ≤ W 0 ∧ W 0 < 57344 := by omega
    by_cases hp : (55296 ≤ W 0 ∧ W 0 < 56320) ∧ 1 < n ∧ (56320 ≤ W 1 ∧ W 1 < 57344)
    · exact lk_8Ep (by omega) hC hM hn h0 hw hm hset hmd hp.1 hp.2.1 hp.2.2
    · have e1 : ∃ z, fX5_at 4 σ (nI 1) = some (z, σ) ∧ fX4_isPair σ (nI (W 0)) z = some (nI 0, σ) := by
        by_cases h1 : 1 < n
        · exact ⟨_, at_in hC h1 hn, c_pairF σ (fun q => hp ⟨q.1, h1, q.2⟩) w0 (hw 1 h1)⟩
        · exact ⟨_, at_out hC (by omega) (by omega), c_pairM σ w0⟩
      obtain ⟨z, e1, e2⟩ := e1
      obtain ⟨σ1, s1, f1, s3⟩ := c_unp hC hn h0 w0
      have c1 : fX8_encode j σ = some (nI 0, σ1) := by
        unfold fX8_encode
        simp (disch := omega) only [lit, e0, bd_some, hmd, eqT, eqF, if_true, if_false, c_eiT σ hei, e1, e2, s1]
      by_cases hh : 55296 ≤ W 0 ∧ W 0 < 56320
      · by_cases h1 : n = 1
        · rcases s3 with ⟨-, -, m1⟩ | ⟨q, -⟩
          · refine ⟨σ1, μ, nI 1, c1, ?_, lr_need f1.fc m1 FM.rf⟩
            unfold fX10_encodeEight fX10_encodeEight_b40
            simp (disch := omega) only [lit, ldM hM h0 hn, hset, eqF, eqT, if_true, if_false, r_hiT μ hh, bd_some, hM.1]
          · exact absurd ⟨h1, hh⟩ q
        · rcases s3 with ⟨q, -, -⟩ | ⟨-, m1⟩
          · exact absurd q h1
          · have w1 := hw 1 (by omega)
            obtain ⟨μ1, g1, n1, r1⟩ := mm_fault μ 2 1
            refine ⟨σ1, μ1, nI 2, c1, ?_, lr_fault f1.fc (Or.inl rfl) m1 FM.rf n1 r1 (by omega) (by omega)⟩
            unfold fX10_encodeEight fX10_encodeEight_b40 fX10_encodeEight_b57
            simp (disch := omega) only [lit, ldM hM h0 hn, ldM hM (show 1 < n by omega) hn, hset, eqF, eqT, if_true, if_false, r_hiT μ hh, bd_some, hM.1, r_loF μ (show ¬ (56320 ≤ W 0 ∧ W 0 < 57344) by omega) w0, r_loF μ (show ¬ (56320 ≤ W 1 ∧ W 1 < 57344) from fun q => hp ⟨hh, by omega, q⟩) w1, g1]
      · rcases s3 with ⟨-, q, -⟩ | ⟨-, m1⟩
        · exact absurd q hh
        · obtain ⟨μ1, g1, n1, r1⟩ := mm_fault μ 2 1
          refine ⟨σ1, μ1, nI 2, c1, ?_, lr_fault f1.fc (Or.inl rfl) m1 FM.rf n1 r1 (by omega) (by omega)⟩
          unfold fX10_encodeEight fX10_encodeEight_b40 fX10_encodeEight_b57
          simp (disch := omega) only [lit, ldM hM h0 hn, hset, eqF, eqT, if_true, if_false, r_hiF μ hh w0, bd_some, r_loT μ (show 56320 ≤ W 0 ∧ W 0 < 57344 by omega), g1]
