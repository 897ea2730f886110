/-! ===== sets 0, 1: UTF-8, decoding: the beginnings ===== -/
theorem r_bgS {μ : St} {n L k i fuel : Nat} {W : Nat → Nat} (hM : InM μ n W) (hn : n ≤ 24) (hi : i < k) (hk : k ≤ n) (hv : 128 ≤ W i ∧ W i ≤ 191) : fX10_begins_b19 (fuel + 1) μ (nI k) (nI L) (nI i) = fX10_begins_b19 fuel μ (nI k) (nI L) (nI (i + 1)) := by
  rw [fX10_begins_b19]
  simp (disch := omega) only [lit, leF, leT, ltF, if_false, if_true, ldM hM (show i < n by omega) hn, nm_def, addN]
theorem r_bgX {μ : St} {n L k i fuel : Nat} {W : Nat → Nat} (hM : InM μ n W) (hn : n ≤ 24) (hi : i < k) (hk : k ≤ n) (hw : W i < 256) (hv : ¬ (128 ≤ W i ∧ W i ≤ 191)) : fX10_begins_b19 (fuel + 1) μ (nI k) (nI L) (nI i) = some (nI 0, μ) := by
  rw [fX10_begins_b19]
  by_cases h : W i < 128
  · simp (disch := omega) only [lit, leF, ltT, if_false, if_true, ldM hM (show i < n by omega) hn]
  · simp (disch := omega) only [lit, leF, ltF, if_false, ldM hM (show i < n by omega) hn]
def bgR (μ : St) (k L : Nat) : Option (Int32 × St) := bd (fX10_least μ (nI L) (nI k)) (fun v4 σ5 => bd (fX10_some σ5 (nI L) v4 ((v4 + (1 <<< ((6 * (nI L - nI k)) &&& 31))) - 1)) (fun v6 σ7 => zk v6 (some (v6, σ7))))
theorem r_bgE {μ : St} {L k fuel : Nat} (hk : k ≤ 24) : fX10_begins_b19 (fuel + 1) μ (nI k) (nI L) (nI k) = bgR μ k L := by
  rw [fX10_begins_b19, if_pos (nI_le (Nat.le_refl k) (by omega))]
  rfl
theorem r_bgL {μ : St} {n L k : Nat} {W : Nat → Nat} (hM : InM μ n W) (hn : n ≤ 24) (hk : k ≤ n) : ∀ (d i fuel : Nat), i + d = k → d < fuel → (∀ c, i ≤ c → c < k → 128 ≤ W c ∧ W c ≤ 191) → fX10_begins_b19 fuel μ (nI k) (nI L) (nI i) = bgR μ k L := by
  intro d
  induction d with
  | zero =>
    intro i fuel hi hf hc
    match fuel, hf with
    | m + 1, _ =>
      rw [show i = k by omega]
      exact r_bgE (by omega)
  | succ d ih =>
    intro i fuel hi hf hc
    match fuel, hf with
    | m + 1, hf => exact (r_bgS hM hn (by omega) hk (hc i (by omega) (by omega))).trans (ih (i + 1) m (by omega) (by omega) (fun c a b => hc c (by omega) b))
theorem r_bgF {μ : St} {n L k : Nat} {W : Nat → Nat} (hM : InM μ n W) (hn : n ≤ 24) (hk : k ≤ n) (hw : ∀ i, i < n → W i < 256) : ∀ (d i fuel : Nat), i + d = k → d < fuel → (∃ c, i ≤ c ∧ c < k ∧ ¬ (128 ≤ W c ∧ W c ≤ 191)) → fX10_begins_b19 fuel μ (nI k) (nI L) (nI i) = some (nI 0, μ) := by
  intro d
  induction d with
  | zero =>
    intro i fuel hi hf ⟨c, h1, h2, _⟩
    omega
  | succ d ih =>
    intro i fuel hi hf ⟨c, h1, h2, h3⟩
    match fuel, hf with
    | m + 1, hf =>
      by_cases hq : 128 ≤ W i ∧ W i ≤ 191
      · refine (r_bgS hM hn (by omega) hk hq).trans (ih (i + 1) m (by omega) (by omega) ⟨c, ?_, h2, h3⟩)
        rcases (show i = c ∨ i < c by omega) with h4 | h4
        · exact absurd (h4 ▸ hq) h3
        · omega
      · exact r_bgX hM hn (by omega) hk (hw i (by omega)) hq
theorem aL_lt {L k : Nat} {W : Nat → Nat} (h0 : W 0 < 256) (hw : ∀ i, i < k → W i < 256) : aL L k W < 100000000 := by
  have s : ∀ a i b, a ≤ b → st8 W k a i ≤ 64 * b + 255 := by
    intro a i b hb
    unfold st8
    by_cases h : i < k
    · have := hw i h
      rw [if_pos h]
      omega
    · rw [if_neg h]
      omega
  unfold aL
  split
  · omega
  · have := s (W 0 - 192) 1 255 (by omega)
    omega
  · have := s _ 2 _ (s (W 0 - 224) 1 255 (by omega))
    omega
  · have := s _ 3 _ (s _ 2 _ (s (W 0 - 240) 1 255 (by omega)))
    omega
theorem B8_iff {md k : Nat} {W : Nat → Nat} (hc : ∀ i, 1 ≤ i → i < k → 128 ≤ W i ∧ W i ≤ 191) : B8 md W k ↔ (k ≤ L8 md (W 0) ∧ (2 ≤ k → lo8 (W 0) ≤ W 1 ∧ W 1 ≤ hi8 md (W 0))) := by
  constructor
  · intro h
    exact ⟨h.1, fun h2 => N8_1.mp (h.2 1 (by omega) (by omega))⟩
  · intro h
    refine ⟨h.1, fun i i1 i2 => ?_⟩
    by_cases e : i = 1
    · subst e
      exact N8_1.mpr (h.2 (by omega))
    · exact (N8_2 e).mpr (hc i i1 i2)
theorem p8 {md k : Nat} {W : Nat → Nat} (hmd1 : md ≤ 1) (h0 : W 0 < 256) (h1 : 1 ≤ k) (hk : k ≤ R8 (W 0)) (hc : ∀ i, 1 ≤ i → i < k → 128 ≤ W i ∧ W i ≤ 191) : B8 md W k ↔ S8 md (R8 (W 0)) (aL (R8 (W 0)) k W) (aL (R8 (W 0)) k W + 2 ^ (6 * (R8 (W 0) - k)) - 1) := by
  rw [B8_iff hc]
  have hL := L8_spec md (W 0)
  have hR := R8_spec (W 0)
  have hl := lo8_spec (W 0)
  have hh := hi8_spec md (W 0)
  have c1 := hc 1 (by omega)
  have c2 := hc 2 (by omega)
  have c3 := hc 3 (by omega)
  clear hc
  generalize L8 md (W 0) = L at *
  generalize lo8 (W 0) = lo at *
  generalize hi8 md (W 0) = hi at *
  generalize R8 (W 0) = R at *
  rcases (show R = 1 ∨ R = 2 ∨ R = 3 ∨ R = 4 by omega) with h | h | h | h
  · subst h
    have hk1 : k = 1 := by omega
    subst hk1
    rcases (show md = 0 ∨ md = 1 by omega) with hmd | hmd
    · subst hmd
      simp only [aL, S8, Nat.reduceSub, Nat.reduceMul, Nat.reducePow, Nat.reduceEqDiff, true_and, false_and, false_or, or_false, true_or, or_true, and_true, and_false, iff_true, iff_false, Nat.add_zero]
      omega
    · subst hmd
      simp only [aL, S8, Nat.reduceSub, Nat.reduceMul, Nat.reducePow, Nat.reduceEqDiff, true_and, false_and, false_or, or_false, true_or, or_true, and_true, and_false, iff_true, iff_false, Nat.add_zero]
      omega
  · subst h
    have hb : 192 ≤ W 0 ∧ W 0 < 224 := by omega
    clear hR
    rcases (show k = 1 ∨ k = 2 by omega) with h | h
    · subst h
      rcases (show md = 0 ∨ md = 1 by omega) with hmd | hmd
      · subst hmd
        simp only [aL, st8, S8, Nat.reduceLT, if_false, Nat.reduceSub, Nat.reduceMul, Nat.reducePow, Nat.reduceEqDiff, true_and, false_and, false_or, or_false, true_or, or_true, and_true, and_false, iff_true, iff_false, Nat.add_zero]
        omega
      · subst hmd
        simp only [aL, st8, S8, Nat.reduceLT, if_false, Nat.reduceSub, Nat.reduceMul, Nat.reducePow, Nat.reduceEqDiff, true_and, false_and, false_or, or_false, true_or, or_true, and_true, and_false, iff_true, iff_false, Nat.add_zero]
        omega
    · subst h
      have c1 := c1 (by omega)
      rcases (show md = 0 ∨ md = 1 by omega) with hmd | hmd
      · subst hmd
        simp only [aL, st8, S8, Nat.reduceLT, if_true, Nat.reduceSub, Nat.reduceMul, Nat.reducePow, Nat.reduceEqDiff, true_and, false_and, false_or, or_false, true_or, or_true, and_true, and_false, iff_true, iff_false, Nat.add_zero]
        omega
      · subst hmd
        simp only [aL, st8, S8, Nat.reduceLT, if_true, Nat.reduceSub, Nat.reduceMul, Nat.reducePow, Nat.reduceEqDiff, true_and, false_and, false_or, or_false, true_or, or_true, and_true, and_false, iff_true, iff_false, Nat.add_zero]
        omega
  · subst h
    have hb : 224 ≤ W 0 ∧ W 0 < 240 := by omega
    have hL : L = 3 := by omega
    subst hL
    clear hR
    rcases (show k = 1 ∨ k = 2 ∨ k = 3 by omega) with h | h | h
    · subst h
      rcases (show md = 0 ∨ md = 1 by omega) with hmd | hmd
      · subst hmd
        simp only [aL, st8, S8, Nat.reduceLT, if_false, Nat.reduceSub, Nat.reduceMul, Nat.reducePow, Nat.reduceEqDiff, true_and, false_and, false_or, or_false, true_or, or_true, and_true, and_false, iff_true, iff_false, Nat.add_zero]
        omega
      · subst hmd
        simp only [aL, st8, S8, Nat.reduceLT, if_false, Nat.reduceSub, Nat.reduceMul, Nat.reducePow, Nat.reduceEqDiff, true_and, false_and, false_or, or_false, true_or, or_true, and_true, and_false, iff_true, iff_false, Nat.add_zero]
        omega
    · subst h
      have c1 := c1 (by omega)
      rcases (show md = 0 ∨ md = 1 by omega) with hmd | hmd
      · subst hmd
        simp only [aL, st8, S8, Nat.reduceLT, if_true, if_false, Nat.reduceSub, Nat.reduceMul, Nat.reducePow, Nat.reduceEqDiff, true_and, false_and, false_or, or_false, true_or, or_true, and_true, and_false, iff_true, iff_false, Nat.add_zero]
        omega
      · subst hmd
        simp only [aL, st8, S8, Nat.reduceLT, if_true, if_false, Nat.reduceSub, Nat.reduceMul, Nat.reducePow, Nat.reduceEqDiff, true_and, false_and, false_or, or_false, true_or, or_true, and_true, and_false, iff_true, iff_false, Nat.add_zero]
        omega
    · subst h
      have c1 := c1 (by omega)
      have c2 := c2 (by omega)
      rcases (show md = 0 ∨ md = 1 by omega) with hmd | hmd
      · subst hmd
        simp only [aL, st8, S8, Nat.reduceLT, if_true, Nat.reduceSub, Nat.reduceMul, Nat.reducePow, Nat.reduceEqDiff, true_and, false_and, false_or, or_false, true_or, or_true, and_true, and_false, iff_true, iff_false, Nat.add_zero]
        omega
      · subst hmd
        simp only [aL, st8, S8, Nat.reduceLT, if_true, Nat.reduceSub, Nat.reduceMul, Nat.reducePow, Nat.reduceEqDiff, true_and, false_and, false_or, or_false, true_or, or_true, and_true, and_false, iff_true, iff_false, Nat.add_zero]
        omega
  · subst h
    have hb : 240 ≤ W 0 ∧ W 0 < 248 := by omega
    clear hR
    rcases (show k = 1 ∨ k = 2 ∨ k = 3 ∨ k = 4 by omega) with h | h | h | h
    · subst h
      rcases (show md = 0 ∨ md = 1 by omega) with hmd | hmd
      · subst hmd
        simp only [aL, st8, S8, Nat.reduceLT, if_false, Nat.reduceSub, Nat.reduceMul, Nat.reducePow, Nat.reduceEqDiff, true_and, false_and, false_or, or_false, true_or, or_true, and_true, and_false, iff_true, iff_false, Nat.add_zero]
        omega
      · subst hmd
        simp only [aL, st8, S8, Nat.reduceLT, if_false, Nat.reduceSub, Nat.reduceMul, Nat.reducePow, Nat.reduceEqDiff, true_and, false_and, false_or, or_false, true_or, or_true, and_true, and_false, iff_true, iff_false, Nat.add_zero]
        omega
    · subst h
      have c1 := c1 (by omega)
      rcases (show md = 0 ∨ md = 1 by omega) with hmd | hmd
      · subst hmd
        simp only [aL, st8, S8, Nat.reduceLT, if_true, if_false, Nat.reduceSub, Nat.reduceMul, Nat.reducePow, Nat.reduceEqDiff, true_and, false_and, false_or, or_false, true_or, or_true, and_true, and_false, iff_true, iff_false, Nat.add_zero]
        omega
      · subst hmd
        simp only [aL, st8, S8, Nat.reduceLT, if_true, if_false, Nat.reduceSub, Nat.reduceMul, Nat.reducePow, Nat.reduceEqDiff, true_and, false_and, false_or, or_false, true_or, or_true, and_true, and_false, iff_true, iff_false, Nat.add_zero]
        omega
    · subst h
      have c1 := c1 (by omega)
      have c2 := c2 (by omega)
      rcases (show md = 0 ∨ md = 1 by omega) with hmd | hmd
      · subst hmd
        simp only [aL, st8, S8, Nat.reduceLT, if_true, if_false, Nat.reduceSub, Nat.reduceMul, Nat.reducePow, Nat.reduceEqDiff, true_and, false_and, false_or, or_false, true_or, or_true, and_true, and_false, iff_true, iff_false, Nat.add_zero]
        omega
      · subst hmd
        simp only [aL, st8, S8, Nat.reduceLT, if_true, if_false, Nat.reduceSub, Nat.reduceMul, Nat.reducePow, Nat.reduceEqDiff, true_and, false_and, false_or, or_false, true_or, or_true, and_true, and_false, iff_true, iff_false, Nat.add_zero]
        omega
    · subst h
      have c1 := c1 (by omega)
      have c2 := c2 (by omega)
      have c3 := c3 (by omega)
      rcases (show md = 0 ∨ md = 1 by omega) with hmd | hmd
      · subst hmd
        simp only [aL, st8, S8, Nat.reduceLT, if_true, Nat.reduceSub, Nat.reduceMul, Nat.reducePow, Nat.reduceEqDiff, true_and, false_and, false_or, or_false, true_or, or_true, and_true, and_false, iff_true, iff_false, Nat.add_zero]
        omega
      · subst hmd
        simp only [aL, st8, S8, Nat.reduceLT, if_true, Nat.reduceSub, Nat.reduceMul, Nat.reducePow, Nat.reduceEqDiff, true_and, false_and, false_or, or_false, true_or, or_true, and_true, and_false, iff_true, iff_false, Nat.add_zero]
        omega
theorem bs8_le {b : Nat} (h : 1 ≤ R8 b) : bs8 (R8 b) ≤ b := by
  have hR := R8_spec b
  rcases (show R8 b = 1 ∨ R8 b = 2 ∨ R8 b = 3 ∨ R8 b = 4 by omega) with e | e | e | e
  · rw [e]; exact Nat.zero_le _
  · rw [e]; show 192 ≤ b; omega
  · rw [e]; show 224 ≤ b; omega
  · rw [e]; show 240 ≤ b; omega
theorem r_bgV {μ : St} {n md k : Nat} {W : Nat → Nat} (hM : InM μ n W) (hn : n ≤ 24) (hw : ∀ i, i < n → W i < 256) (hset : μ 0 1 = nI md) (hmd1 : md ≤ 1) (h1 : 1 ≤ k) (hk : k ≤ n) (hkR : k ≤ R8 (W 0)) (hc : ∀ i, 1 ≤ i → i < k → 128 ≤ W i ∧ W i ≤ 191) : (B8 md W k → bgR μ k (R8 (W 0)) = some (nI 1, μ)) ∧ (¬ B8 md W k → bgR μ k (R8 (W 0)) = some (nI 0, μ)) := by
  have w0 := hw 0 (by omega)
  have hR := R8_spec (W 0)
  have hA := aL_lt (L := R8 (W 0)) (k := k) w0 (fun i a => hw i (by omega))
  have hls := r_ls (L := R8 (W 0)) hM hn (by omega) w0 (by omega) (by omega) hk (bs8_le (by omega)) (fun i a b => (hc i a b).1)
  have hP : 2 ^ (6 * (R8 (W 0) - k)) ≤ 262144 ∧ 1 ≤ 2 ^ (6 * (R8 (W 0) - k)) := by
    rcases (show R8 (W 0) - k = 0 ∨ R8 (W 0) - k = 1 ∨ R8 (W 0) - k = 2 ∨ R8 (W 0) - k = 3 by omega) with e | e | e | e
    · rw [e]; decide
    · rw [e]; decide
    · rw [e]; decide
    · rw [e]; decide
  have hp8 := p8 hmd1 w0 h1 hkR hc
  have hsh : nI 1 <<< (nI (6 * (R8 (W 0) - k)) &&& nI 31) = nI (2 ^ (6 * (R8 (W 0) - k))) := by
    rw [shlN (by omega) (by omega), Nat.one_mul]
  rw [hp8]
  have hs := r_some (L := R8 (W 0)) (a := aL (R8 (W 0)) k W) (b := aL (R8 (W 0)) k W + 2 ^ (6 * (R8 (W 0) - k)) - 1) hset hmd1 (by omega) (by omega) (by omega)
  have e : bgR μ k (R8 (W 0)) = bd (fX10_some μ (nI (R8 (W 0))) (nI (aL (R8 (W 0)) k W)) (nI (aL (R8 (W 0)) k W + 2 ^ (6 * (R8 (W 0) - k)) - 1))) (fun v6 σ7 => zk v6 (some (v6, σ7))) := by
    unfold bgR
    rw [hls, bd_some]
    simp (disch := omega) only [lit, subN, mulN]
    rw [hsh, addN, subN (by omega)]
  rw [e]
  refine ⟨fun h => ?_, fun h => ?_⟩
  · rw [hs.1 h, bd_some, zk_1]
  · rw [hs.2 h, bd_some, zk_0]
theorem r_bg {μ : St} {n md k : Nat} {W : Nat → Nat} (hM : InM μ n W) (hn : n ≤ 24) (hw : ∀ i, i < n → W i < 256) (hset : μ 0 1 = nI md) (hmd1 : md ≤ 1) (h1 : 1 ≤ k) (hk : k ≤ n) : (B8 md W k → fX10_begins μ (nI k) = some (nI 1, μ)) ∧ (¬ B8 md W k → fX10_begins μ (nI k) = some (nI 0, μ)) := by
  have w0 := hw 0 (by omega)
  have hR := R8_spec (W 0)
  have hL := L8_spec md (W 0)
  by_cases hkR : k ≤ R8 (W 0)
  · have e : fX10_begins μ (nI k) = fX10_begins_b19 200 μ (nI k) (nI (R8 (W 0))) (nI 1) := by
      unfold fX10_begins
      simp (disch := omega) only [lit, ldM hM (show 0 < n by omega) hn, r_len8 μ w0, bd_some, leT, if_true]
    rw [e]
    by_cases hc : ∀ i, 1 ≤ i → i < k → 128 ≤ W i ∧ W i ≤ 191
    · rw [r_bgL hM hn hk (k - 1) 1 200 (by omega) (by omega) hc]
      exact r_bgV hM hn hw hset hmd1 h1 hk hkR hc
    · have hx : ∃ c, 1 ≤ c ∧ c < k ∧ ¬ (128 ≤ W c ∧ W c ≤ 191) := Classical.byContradiction fun h => hc (fun i a b => Classical.byContradiction fun q => h ⟨i, a, b, q⟩)
      rw [r_bgF hM hn hk hw (k - 1) 1 200 (by omega) (by omega) hx]
      refine ⟨fun h => ?_, fun _ => rfl⟩
      obtain ⟨c, x1, x2, x3⟩ := hx
      exact absurd (N8_ct (h.2 c x1 x2)) x3
  · have e : fX10_begins μ (nI k) = some (nI 0, μ) := by
      unfold fX10_begins
      simp (disch := omega) only [lit, ldM hM (show 0 < n by omega) hn, r_len8 μ w0, bd_some, leF, if_false]
    rw [e]
    refine ⟨fun h => ?_, fun _ => rfl⟩
    have := h.1
    omega
/-! the characters of a code point -/
def ch8 (p : Nat) : List Nat := if p < 65536 then [p] else [55296 + (p - 65536) / 1024, 56320 + (p - 65536) % 1024]
theorem ch8_len (p : Nat) : (ch8 p).length ≤ 4 := by
  unfold ch8
  split
  · simp
  · simp
theorem rem1024 {x : Nat} (hx : x < 2147483648) : nI x - nI x / nI 1024 * nI 1024 = nI (x % 1024) := by
  simp (disch := omega) only [divN, mulN]
  rw [subN (by omega), show x - x / 1024 * 1024 = x % 1024 by omega]
theorem c_ch8 {σ : St} {k t p : Nat} (hm : Mv σ k t []) (hp : p < 100000000) : ∃ σ1, fX4_addCharacters σ (nI p) = some (nI 0, σ1) ∧ Mv σ1 k t (ch8 p) ∧ F8 σ σ1 := by
  unfold ch8
  by_cases h : p < 65536
  · obtain ⟨σ1, s1, m1, f1⟩ := mv_add hm (by simp) p
    refine ⟨σ1, ?_, by rw [if_pos h]; exact m1, f1⟩
    unfold fX4_addCharacters
    simp (disch := omega) only [lit, leF, if_false, s1, bd_some]
  · obtain ⟨σ1, s1, m1, f1⟩ := mv_add hm (by simp) (55296 + (p - 65536) / 1024)
    obtain ⟨σ2, s2, m2, f2⟩ := mv_add m1 (by simp) (56320 + (p - 65536) % 1024)
    refine ⟨σ2, ?_, by rw [if_neg h]; exact m2, f1.tr f2⟩
    unfold fX4_addCharacters
    simp (disch := omega) only [lit, leT, if_true, subN, rem1024]
    simp (disch := omega) only [divN, addN, s1, bd_some, s2]
theorem r_ch8 {μ : St} {p t : Nat} (hm : Mm μ []) (hp : p < 100000000) : ∃ μ1 μ2, (if 65536 ≤ nI p then bd (fX10_result μ (55296 + ((nI p - 65536) / 1024))) (fun _ σ18 => bd (fX10_result σ18 (56320 + ((nI p - 65536) - (nI p - 65536) / 1024 * 1024))) (fun _ σ20 => bd (fX10_step σ20 (nI t)) (fun v21 σ22 => some (v21, σ22)))) else bd (fX10_result μ (nI p)) (fun _ σ24 => bd (fX10_step σ24 (nI t)) (fun v25 σ26 => some (v25, σ26)))) = some (nI 0, μ2) ∧ Mm μ1 (ch8 p) ∧ FR μ μ1 ∧ μ2 0 24 = nI t ∧ FS μ1 μ2 := by
  unfold ch8
  by_cases h : p < 65536
  · obtain ⟨μ1, s1, m1, f1⟩ := mm_add hm (by simp) p
    obtain ⟨μ2, g2, n2, r2⟩ := mm_step μ1 t
    refine ⟨μ1, μ2, ?_, by rw [if_pos h]; exact m1, f1, n2, r2⟩
    simp (disch := omega) only [lit, leF, if_false, s1, bd_some, g2]
  · obtain ⟨σ1, s1, m1, f1⟩ := mm_add hm (by simp) (55296 + (p - 65536) / 1024)
    obtain ⟨σ2, s2, m2, f2⟩ := mm_add m1 (by simp) (56320 + (p - 65536) % 1024)
    obtain ⟨μ2, g2, n2, r2⟩ := mm_step σ2 t
    refine ⟨σ2, μ2, ?_, by rw [if_neg h]; exact m2, f1.tr f2, n2, r2⟩
    simp (disch := omega) only [lit, leT, if_true, subN, rem1024]
    simp (disch := omega) only [divN, addN, s1, bd_some, s2, g2]
theorem cp_aL {L : Nat} {W : Nat → Nat} (h1 : 1 ≤ L) (hL : L ≤ 4) (hc : ∀ i, 1 ≤ i → i < L → 128 ≤ W i) : aL L L W = cp8 L W := by
  have c1 := hc 1 (by omega)
  have c2 := hc 2 (by omega)
  have c3 := hc 3 (by omega)
  rcases (show L = 1 ∨ L = 2 ∨ L = 3 ∨ L = 4 by omega) with h | h | h | h
  · subst h
    show W 0 = W 0
    rfl
  · subst h
    have c1 := c1 (by omega)
    show st8 W 2 (W 0 - 192) 1 = (W 0 - 192) * 64 + W 1 - 128
    unfold st8
    rw [if_pos (by omega)]
    clear c2 c3 h1 hL hc
    generalize W 0 - 192 = x
    omega
  · subst h
    have c1 := c1 (by omega)
    have c2 := c2 (by omega)
    show st8 W 3 (st8 W 3 (W 0 - 224) 1) 2 = ((W 0 - 224) * 64 + W 1 - 128) * 64 + W 2 - 128
    unfold st8
    rw [if_pos (show 1 < 3 by omega), if_pos (show 2 < 3 by omega)]
    clear c3 h1 hL hc
    generalize W 0 - 224 = x
    omega
  · subst h
    have c1 := c1 (by omega)
    have c2 := c2 (by omega)
    have c3 := c3 (by omega)
    show st8 W 4 (st8 W 4 (st8 W 4 (W 0 - 240) 1) 2) 3 = (((W 0 - 240) * 64 + W 1 - 128) * 64 + W 2 - 128) * 64 + W 3 - 128
    unfold st8
    rw [if_pos (show 1 < 4 by omega), if_pos (show 2 < 4 by omega), if_pos (show 3 < 4 by omega)]
    clear h1 hL hc
    generalize W 0 - 240 = x
    omega
/-! the fault: how far the beginning goes -/
theorem r_bad8 {μ : St} {n r : Nat} (hw9 : μ 0 9 = nI n) (hn : n ≤ 24) (hr1 : 1 ≤ r) (hrn : r ≤ n) (hT : ∀ k, 2 ≤ k → k ≤ r → fX10_begins μ (nI k) = some (nI 1, μ)) (hF : r < n → fX10_begins μ (nI (r + 1)) = some (nI 0, μ)) : ∀ (d m fuel : Nat), m + d = r → d < fuel → 1 ≤ m → fX10_decodeEight_b102 fuel μ (nI m) = bd (fX10_fault μ (nI 2) (nI r)) (fun v6 σ7 => some (v6, σ7)) := by
  intro d
  induction d with
  | zero =>
    intro m fuel h1 hf h2
    match fuel, hf with
    | f + 1, _ =>
      have h3 : m = r := by omega
      subst h3
      rw [fX10_decodeEight_b102, hw9]
      by_cases h : n ≤ m
      · simp (disch := omega) only [lit, leT, if_true]
      · have hF := hF (by omega)
        simp (disch := omega) only [lit, leF, if_false, addN, hF, bd_some, eqT, if_true]
  | succ d ih =>
    intro m fuel h1 hf h2
    match fuel, hf with
    | f + 1, hf =>
      have hT := hT (m + 1) (by omega) (by omega)
      rw [fX10_decodeEight_b102, hw9]
      simp (disch := omega) only [lit, leF, if_false, addN, hT, bd_some, eqF, nm_def]
      exact ih (m + 1) f (by omega) (by omega) (by omega)
theorem lk_8D {σ μ : St} {n j md : Nat} {W : Nat → Nat} (hmd1 : md ≤ 1) (hC : InC σ n W) (hM : InM μ n W) (hn : n ≤ 24) (h0 : 0 < n) (hw : ∀ i, i < n → W i < 256) (hm : Mm μ []) (hset : μ 0 1 = nI md) (hmd : σ j 0 = nI md) : ∃ σ1 μ1 k, fX8_decode j σ = some (nI 0, σ1) ∧ fX10_decodeEight μ = some (k, μ1) ∧ LR σ σ1 μ μ1 n k (KN μ μ1) False := by
  have e0 := at_in (i := 0) hC h0 hn
  have w0 := hw 0 h0
  have hLs := L8_spec md (W 0)
  have hRs := R8_spec (W 0)
  have hL4 : L8 md (W 0) ≤ 4 := by omega
  have hLR : 1 ≤ L8 md (W 0) → L8 md (W 0) = R8 (W 0) := by omega
  obtain ⟨r, er, r1, r2, r3, r4, r5, r6⟩ := c_fit hC hn h0 hw hmd hmd1 hL4
  have hB : ∀ k, 1 ≤ k → k ≤ n → (B8 md W k → fX10_begins μ (nI k) = some (nI 1, μ)) ∧ (¬ B8 md W k → fX10_begins μ (nI k) = some (nI 0, μ)) := fun k a b => r_bg hM hn hw hset hmd1 a b
  have hlen := c_len8 σ hmd hmd1 w0
  have hlenR := r_len8 μ w0
  have hBr : ∀ k, k ≤ r → B8 md W k := fun k a => ⟨by omega, fun i i1 i2 => r5 i i1 (by omega)⟩
  have hBn : r < n → ¬ (1 ≤ L8 md (W 0) ∧ r = L8 md (W 0)) → ∀ k, r < k → 1 ≤ k → ¬ B8 md W k := by
    intro a b k c1 c2 q
    by_cases hl : 1 ≤ L8 md (W 0)
    · have q1 := q.1
      exact r6 (by omega) a hl (q.2 r (r4 hl) c1)
    · have q1 := q.1
      omega
  have hbs : 1 ≤ R8 (W 0) → bs8 (R8 (W 0)) ≤ W 0 := bs8_le
  have hct : ∀ i, 1 ≤ i → i < r → 128 ≤ W i := fun i a b => (N8_ct (r5 i a b)).1
  have hR4 : R8 (W 0) ≤ 4 := by omega
  clear hLs hRs
  generalize L8 md (W 0) = L at *
  generalize R8 (W 0) = R at *
  by_cases hA : 1 ≤ L ∧ r = L
  · -- a whole one
    obtain ⟨hL1, hrL⟩ := hA
    have hR := hLR hL1
    rw [← hR] at hlenR hbs
    rw [hrL] at er hct hBr
    obtain ⟨σ1, s1, m1, f1⟩ := mv_step σ L
    have hcp := c_cp (L := L) (hC.f8 f1) hn hw hL1 hL4 (by omega) (hbs hL1) hct
    have haL := cp_aL (W := W) hL1 hL4 hct
    have hlt : cp8 L W < 100000000 := by
      rw [← haL]
      exact aL_lt w0 (fun i a => hw i (by omega))
    obtain ⟨σ2, s2, m2, f2⟩ := c_ch8 m1 hlt
    obtain ⟨μ1, μ2, g1, n1, q1, n2, q2⟩ := r_ch8 (t := L) hm hlt
    have hls := r_ls (L := L) (k := L) hM hn h0 w0 hL1 hL4 (by omega) (hbs hL1) hct
    have hb1 := (hB L hL1 (by omega)).1 (hBr L (Nat.le_refl L))
    refine ⟨σ2, μ2, nI 0, ?_, ?_, lr_step (f1.tr f2).fc m2 n1 q1 (ch8_len _) n2 q2 (by omega) (by omega)⟩
    · unfold fX8_decode
      simp (disch := omega) only [e0, lit, bd_some, hlen, er, leF, if_false, eqT, if_true, s1, hcp, s2]
    · unfold fX10_decodeEight
      simp only [lit] at g1
      simp (disch := omega) only [lit, ldM hM h0 hn, hlenR, bd_some, leF, if_false, hM.1, ltF, hb1, eqF, hls, haL]
      exact g1
  · have c1 : fX8_decode j σ = fX8_decode_b45 j σ (nI r) := by
      unfold fX8_decode
      by_cases hL1 : L ≤ 0
      · simp (disch := omega) only [e0, lit, bd_some, hlen, er, leT, if_true]
      · simp (disch := omega) only [e0, lit, bd_some, hlen, er, leF, eqF, if_false]
    rw [c1]
    by_cases hN : r = n
    · obtain ⟨σ1, s1, m1, f1⟩ := mv_need σ
      have hb1 := (hB n (by omega) (by omega)).1 (hBr n (by omega))
      refine ⟨σ1, μ, nI 1, ?_, ?_, lr_need f1.fc m1 FM.rf⟩
      · unfold fX8_decode_b45
        simp (disch := omega) only [lit, cnt_in hC, bd_some, eqT, if_true, s1]
      · unfold fX10_decodeEight fX10_decodeEight_b87
        simp (disch := omega) only [lit, ldM hM h0 hn, hlenR, bd_some, leF, if_false, hM.1, ltT, if_true, hb1, eqF]
    · obtain ⟨q, hq, hq1⟩ : ∃ q, (if nI 1 < nI r then nI r else nI 1) = nI q ∧ ((1 < r ∧ q = r) ∨ (r ≤ 1 ∧ q = 1)) := by
        by_cases h : 1 < r
        · exact ⟨r, if_pos (nI_lt h (by omega)), Or.inl ⟨h, rfl⟩⟩
        · exact ⟨1, if_neg (nI_nlt (by omega) (by omega)), Or.inr ⟨by omega, rfl⟩⟩
      have hF : ∀ k, r < k → 1 ≤ k → k ≤ n → fX10_begins μ (nI k) = some (nI 0, μ) := fun k a b c => (hB k b c).2 (hBn (by omega) hA k a b)
      obtain ⟨σ1, s1, m1, f1⟩ := mv_bad σ q
      obtain ⟨μ1, g1, n1, t1⟩ := mm_fault μ 2 q
      refine ⟨σ1, μ1, nI 2, ?_, ?_, lr_fault f1.fc (Or.inl rfl) m1 FM.rf n1 t1 (by omega) (by omega)⟩
      · unfold fX8_decode_b45
        rcases hq1 with ⟨a, b⟩ | ⟨a, b⟩
        · rw [b] at s1
          simp (disch := omega) only [lit, cnt_in hC, bd_some, eqF, if_false, ltT, if_true, s1]
        · rw [b] at s1
          simp (disch := omega) only [lit, cnt_in hC, bd_some, eqF, if_false, ltF, s1]
      · have c2 : fX10_decodeEight μ = fX10_decodeEight_b87 μ := by
          unfold fX10_decodeEight
          by_cases hR0 : R ≤ 0
          · simp (disch := omega) only [lit, ldM hM h0 hn, hlenR, bd_some, leT, if_true]
          · by_cases hRn : n < R
            · simp (disch := omega) only [lit, ldM hM h0 hn, hlenR, bd_some, leF, if_false, hM.1, ltT, if_true]
            · have hb0 := hF R (by omega) (by omega) (by omega)
              simp (disch := omega) only [lit, ldM hM h0 hn, hlenR, bd_some, leF, if_false, hM.1, ltF, hb0, eqT, if_true]
        have hbn := hF n (by omega) (by omega) (by omega)
        have hbad := r_bad8 (r := q) hM.1 hn (by omega) (by omega) (fun k a b => (hB k (by omega) (by omega)).1 (hBr k (by omega))) (fun a => hF (q + 1) (by omega) (by omega) (by omega)) (q - 1) 1 200 (by omega) (by omega) (by omega)
        rw [c2]
        unfold fX10_decodeEight_b87
        rw [hM.1, hbn, bd_some, lit, if_pos rfl, lit, hbad, g1, bd_some]
