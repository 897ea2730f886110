/-! ===== sets 0, 1: UTF-8, decoding ===== -/
def L8 (md b : Nat) : Nat := if b < 128 then (if md = 1 ∧ b = 0 then 0 else 1) else if b < 194 then (if md = 1 ∧ b = 192 then 2 else 0) else if b < 224 then 2 else if b < 240 then 3 else if md = 0 ∧ b < 245 then 4 else 0
def R8 (b : Nat) : Nat := if b < 128 then 1 else if b < 192 then 0 else if b < 224 then 2 else if b < 240 then 3 else if b < 248 then 4 else 0
def lo8 (b : Nat) : Nat := if b = 224 then 160 else if b = 240 then 144 else 128
def hi8 (md b : Nat) : Nat := if b = 192 then 128 else if b = 237 ∧ md = 0 then 159 else if b = 244 then 143 else 191
theorem L8_spec (md b : Nat) : (b < 128 ∧ md = 1 ∧ b = 0 ∧ L8 md b = 0) ∨ (b < 128 ∧ ¬ (md = 1 ∧ b = 0) ∧ L8 md b = 1) ∨ (128 ≤ b ∧ b < 194 ∧ md = 1 ∧ b = 192 ∧ L8 md b = 2) ∨ (128 ≤ b ∧ b < 194 ∧ ¬ (md = 1 ∧ b = 192) ∧ L8 md b = 0) ∨ (194 ≤ b ∧ b < 224 ∧ L8 md b = 2) ∨ (224 ≤ b ∧ b < 240 ∧ L8 md b = 3) ∨ (240 ≤ b ∧ md = 0 ∧ b < 245 ∧ L8 md b = 4) ∨ (240 ≤ b ∧ ¬ (md = 0 ∧ b < 245) ∧ L8 md b = 0) := by
  unfold L8
  repeat' split
  all_goals omega
theorem R8_spec (b : Nat) : (b < 128 ∧ R8 b = 1) ∨ (128 ≤ b ∧ b < 192 ∧ R8 b = 0) ∨ (192 ≤ b ∧ b < 224 ∧ R8 b = 2) ∨ (224 ≤ b ∧ b < 240 ∧ R8 b = 3) ∨ (240 ≤ b ∧ b < 248 ∧ R8 b = 4) ∨ (248 ≤ b ∧ R8 b = 0) := by
  unfold R8
  repeat' split
  all_goals omega
theorem lo8_spec (b : Nat) : (b = 224 ∧ lo8 b = 160) ∨ (b = 240 ∧ lo8 b = 144) ∨ (b ≠ 224 ∧ b ≠ 240 ∧ lo8 b = 128) := by
  unfold lo8
  repeat' split
  all_goals omega
theorem hi8_spec (md b : Nat) : (b = 192 ∧ hi8 md b = 128) ∨ (b = 237 ∧ md = 0 ∧ hi8 md b = 159) ∨ (b = 244 ∧ hi8 md b = 143) ∨ (b ≠ 192 ∧ ¬ (b = 237 ∧ md = 0) ∧ b ≠ 244 ∧ hi8 md b = 191) := by
  unfold hi8
  repeat' split
  all_goals omega
def N8 (md : Nat) (W : Nat → Nat) (i : Nat) : Prop := if i = 1 then lo8 (W 0) ≤ W 1 ∧ W 1 ≤ hi8 md (W 0) else 128 ≤ W i ∧ W i ≤ 191
def B8 (md : Nat) (W : Nat → Nat) (k : Nat) : Prop := k ≤ L8 md (W 0) ∧ ∀ i, 1 ≤ i → i < k → N8 md W i
theorem N8_1 {md : Nat} {W : Nat → Nat} : N8 md W 1 ↔ lo8 (W 0) ≤ W 1 ∧ W 1 ≤ hi8 md (W 0) := by unfold N8; rw [if_pos rfl]
theorem N8_2 {md i : Nat} {W : Nat → Nat} (h : i ≠ 1) : N8 md W i ↔ 128 ≤ W i ∧ W i ≤ 191 := by unfold N8; rw [if_neg h]
theorem N8_ct {md i : Nat} {W : Nat → Nat} (h : N8 md W i) : 128 ≤ W i ∧ W i ≤ 191 := by
  by_cases h1 : i = 1
  · subst h1
    have h2 := N8_1.mp h
    have h3 := lo8_spec (W 0)
    have h4 := hi8_spec md (W 0)
    omega
  · exact (N8_2 h1).mp h
theorem c_len8 (σ : St) {j md b : Nat} (hmd : σ j 0 = nI md) (hmd1 : md ≤ 1) (hb : b < 256) : fX8_lengthBehind j σ (nI b) = some (nI (L8 md b), σ) := by
  have hL := L8_spec md b
  unfold fX8_lengthBehind
  rcases (show md = 0 ∨ md = 1 by omega) with h | h
  · rw [h] at hmd hL ⊢
    by_cases h1 : b < 128
    · rw [show L8 0 b = 1 by omega]
      simp (disch := omega) only [lit, leF, if_false, hmd, eqT, if_true]
    · by_cases h2 : b < 194
      · rw [show L8 0 b = 0 by omega]
        simp (disch := omega) only [lit, leF, leT, if_false, hmd, eqT, if_true]
      · by_cases h3 : b < 224
        · rw [show L8 0 b = 2 by omega]
          simp (disch := omega) only [lit, leF, leT, if_false, if_true]
        · by_cases h4 : b < 240
          · rw [show L8 0 b = 3 by omega]
            simp (disch := omega) only [lit, leF, leT, if_false, if_true]
          · by_cases h5 : b < 245
            · rw [show L8 0 b = 4 by omega]
              simp (disch := omega) only [lit, leF, leT, if_false, hmd, eqT, if_true]
            · rw [show L8 0 b = 0 by omega]
              simp (disch := omega) only [lit, leT, hmd, eqT, if_true]
  · rw [h] at hmd hL ⊢
    by_cases h1 : b < 128
    · by_cases h0 : b = 0
      · rw [show L8 1 b = 0 by omega]
        simp (disch := omega) only [lit, leF, if_false, hmd, eqF, eqT, if_true]
      · rw [show L8 1 b = 1 by omega]
        simp (disch := omega) only [lit, leF, if_false, hmd, eqF]
    · by_cases h2 : b < 194
      · by_cases h0 : b = 192
        · rw [show L8 1 b = 2 by omega]
          simp (disch := omega) only [lit, leF, leT, if_false, hmd, eqF, eqT, if_true]
        · rw [show L8 1 b = 0 by omega]
          simp (disch := omega) only [lit, leF, leT, if_false, hmd, eqF, if_true]
      · by_cases h3 : b < 224
        · rw [show L8 1 b = 2 by omega]
          simp (disch := omega) only [lit, leF, leT, if_false, if_true]
        · by_cases h4 : b < 240
          · rw [show L8 1 b = 3 by omega]
            simp (disch := omega) only [lit, leF, leT, if_false, if_true]
          · rw [show L8 1 b = 0 by omega]
            simp (disch := omega) only [lit, leT, hmd, eqF, if_true, if_false]
theorem r_len8 (μ : St) {b : Nat} (hb : b < 256) : fX10_lengthOf μ (nI b) = some (nI (R8 b), μ) := by
  have hL := R8_spec b
  unfold fX10_lengthOf
  by_cases h1 : b < 128
  · rw [show R8 b = 1 by omega]
    simp (disch := omega) only [lit, leF, if_false]
  · by_cases h2 : b < 192
    · rw [show R8 b = 0 by omega]
      simp (disch := omega) only [lit, leF, leT, if_false, if_true]
    · by_cases h3 : b < 224
      · rw [show R8 b = 2 by omega]
        simp (disch := omega) only [lit, leF, leT, if_false, if_true]
      · by_cases h4 : b < 240
        · rw [show R8 b = 3 by omega]
          simp (disch := omega) only [lit, leF, leT, if_false, if_true]
        · by_cases h5 : b < 248
          · rw [show R8 b = 4 by omega]
            simp (disch := omega) only [lit, leF, leT, if_false, if_true]
          · rw [show R8 b = 0 by omega]
            simp (disch := omega) only [lit, leT, if_true]
theorem c_lo8 (σ : St) {b : Nat} (hb : b < 256) : fX8_leastSecond σ (nI b) = some (nI (lo8 b), σ) := by
  have hL := lo8_spec b
  unfold fX8_leastSecond
  by_cases h1 : b = 224
  · rw [show lo8 b = 160 by omega]
    simp (disch := omega) only [lit, eqT, if_true]
  · by_cases h2 : b = 240
    · rw [show lo8 b = 144 by omega]
      simp (disch := omega) only [lit, eqF, eqT, if_true, if_false]
    · rw [show lo8 b = 128 by omega]
      simp (disch := omega) only [lit, eqF, if_false]
theorem c_hi8 (σ : St) {j md b : Nat} (hmd : σ j 0 = nI md) (hmd1 : md ≤ 1) (hb : b < 256) : fX8_greatestSecond j σ (nI b) = some (nI (hi8 md b), σ) := by
  have hL := hi8_spec md b
  unfold fX8_greatestSecond
  by_cases h1 : b = 192
  · rw [show hi8 md b = 128 by omega]
    simp (disch := omega) only [lit, eqT, if_true]
  · by_cases h2 : b = 237
    · rcases (show md = 0 ∨ md = 1 by omega) with h | h
      · rw [h] at hmd hL ⊢
        rw [show hi8 0 b = 159 by omega]
        simp (disch := omega) only [lit, eqF, eqT, hmd, if_true, if_false]
      · rw [h] at hmd hL ⊢
        rw [show hi8 1 b = 191 by omega]
        simp (disch := omega) only [lit, eqF, eqT, hmd, if_true, if_false]
    · by_cases h3 : b = 244
      · rw [show hi8 md b = 143 by omega]
        simp (disch := omega) only [lit, eqF, eqT, if_true, if_false]
      · rw [show hi8 md b = 191 by omega]
        simp (disch := omega) only [lit, eqF, if_false]
theorem c_next8 {σ : St} {n j md i : Nat} {W : Nat → Nat} (hC : InC σ n W) (hn : n ≤ 24) (hw : ∀ i, i < n → W i < 256) (hmd : σ j 0 = nI md) (hmd1 : md ≤ 1) (h1 : 1 ≤ i) (hi : i < n) : (N8 md W i → fX8_isNext j σ (nI i) = some (nI 1, σ)) ∧ (¬ N8 md W i → fX8_isNext j σ (nI i) = some (nI 0, σ)) := by
  have e0 := at_in (i := 0) hC (by omega) hn
  have ei := at_in (i := i) hC hi hn
  have w0 := hw 0 (by omega)
  have wi := hw i hi
  by_cases hi1 : i = 1
  · subst hi1
    have hl := lo8_spec (W 0)
    have hh := hi8_spec md (W 0)
    rw [N8_1]
    constructor
    · intro h
      unfold fX8_isNext
      simp (disch := omega) only [lit, ei, e0, bd_some, leT, if_true, c_lo8 σ w0, c_hi8 σ hmd hmd1 w0, ltF, if_false]
    · intro h
      unfold fX8_isNext
      by_cases h2 : W 1 < lo8 (W 0)
      · simp (disch := omega) only [lit, ei, e0, bd_some, leT, if_true, c_lo8 σ w0, ltT]
      · simp (disch := omega) only [lit, ei, e0, bd_some, leT, if_true, c_lo8 σ w0, c_hi8 σ hmd hmd1 w0, ltF, ltT, if_false]
  · rw [N8_2 hi1]
    constructor
    · intro h
      unfold fX8_isNext
      simp (disch := omega) only [lit, ei, bd_some, leF, if_false, ltF]
    · intro h
      unfold fX8_isNext
      by_cases h2 : W i < 128
      · simp (disch := omega) only [lit, ei, bd_some, leF, if_false, ltT, if_true]
      · simp (disch := omega) only [lit, ei, bd_some, leF, if_false, ltF, ltT, if_true]
theorem c_fitL {σ : St} {n j md q : Nat} {W : Nat → Nat} (hC : InC σ n W) (hn : n ≤ 24) (hw : ∀ i, i < n → W i < 256) (hmd : σ j 0 = nI md) (hmd1 : md ≤ 1) (hq : q ≤ n) : ∀ (d m fuel : Nat), m + d = q → d < fuel → 1 ≤ m → (∀ i, 1 ≤ i → i < m → N8 md W i) → ∃ r, fX8_countFitting_b16 j fuel σ (nI q) (nI m) = some (nI r, σ) ∧ m ≤ r ∧ r ≤ q ∧ (∀ i, 1 ≤ i → i < r → N8 md W i) ∧ (r < q → ¬ N8 md W r) := by
  intro d
  induction d with
  | zero =>
    intro m fuel h1 hf h2 h3
    match fuel, hf with
    | f + 1, _ =>
      refine ⟨m, ?_, by omega, by omega, h3, by omega⟩
      rw [fX8_countFitting_b16]
      simp (disch := omega) only [lit, leF, leT, if_false, if_true]
  | succ d ih =>
    intro m fuel h1 hf h2 h3
    match fuel, hf with
    | f + 1, hf =>
      have hx := c_next8 (i := m) hC hn hw hmd hmd1 h2 (by omega)
      by_cases h : N8 md W m
      · obtain ⟨r, e, a, b, c, g⟩ := ih (m + 1) f (by omega) (by omega) (by omega) (fun i i1 i2 => by
          rcases (show i < m ∨ i = m by omega) with i3 | i3
          · exact h3 i i1 i3
          · rw [i3]; exact h)
        refine ⟨r, ?_, by omega, b, c, g⟩
        rw [fX8_countFitting_b16, hx.1 h]
        simp (disch := omega) only [lit, leF, if_false, bd_some, eqF, nm_def, addN]
        exact e
      · refine ⟨m, ?_, by omega, by omega, h3, fun _ => h⟩
        rw [fX8_countFitting_b16, hx.2 h]
        simp (disch := omega) only [lit, leF, if_false, bd_some, eqT, if_true]
theorem c_fit {σ : St} {n j md L : Nat} {W : Nat → Nat} (hC : InC σ n W) (hn : n ≤ 24) (h0 : 0 < n) (hw : ∀ i, i < n → W i < 256) (hmd : σ j 0 = nI md) (hmd1 : md ≤ 1) (hL : L ≤ 4) : ∃ r, fX8_countFitting j σ (nI L) = some (nI r, σ) ∧ r ≤ n ∧ r ≤ L ∧ (L = 0 → r = 0) ∧ (1 ≤ L → 1 ≤ r) ∧ (∀ i, 1 ≤ i → i < r → N8 md W i) ∧ (r < L → r < n → 1 ≤ L → ¬ N8 md W r) := by
  have key : ∀ q, (if nI n < nI L then nI n else nI L) = nI q → q ≤ n → q ≤ L → (L = 0 → q = 0) → (1 ≤ L → 1 ≤ q) → (q < L → q = n) → ∃ r, fX8_countFitting j σ (nI L) = some (nI r, σ) ∧ r ≤ n ∧ r ≤ L ∧ (L = 0 → r = 0) ∧ (1 ≤ L → 1 ≤ r) ∧ (∀ i, 1 ≤ i → i < r → N8 md W i) ∧ (r < L → r < n → 1 ≤ L → ¬ N8 md W r) := by
    intro q hq q1 q2 q3 q4 q5
    by_cases h : q = 0
    · subst h
      refine ⟨0, ?_, by omega, by omega, fun _ => rfl, by omega, fun i a b => by omega, by omega⟩
      unfold fX8_countFitting
      rw [cnt_in hC]
      simp only [bd_some, nm_def, hq]
      rw [lit, if_pos (show nI 0 < nI 1 by decide)]
      rw [fX8_countFitting_b16]
      simp (disch := omega) only [lit, leT, if_true]
    · obtain ⟨r, e, a, b, c, g⟩ := c_fitL hC hn hw hmd hmd1 q1 (q - 1) 1 200 (by omega) (by omega) (by omega) (fun i a b => by omega)
      refine ⟨r, ?_, by omega, by omega, by omega, fun _ => a, c, fun a1 a2 a3 => g (by omega)⟩
      rw [← e]
      unfold fX8_countFitting
      rw [cnt_in hC]
      simp only [bd_some, nm_def, hq]
      rw [lit, if_neg (nI_nlt (show 1 ≤ q by omega) (by omega))]
  by_cases h : n < L
  · exact key n (if_pos (nI_lt h (by omega))) (by omega) (by omega) (by omega) (by omega) (by omega)
  · exact key L (if_neg (nI_nlt (by omega) (by omega))) (by omega) (by omega) (by omega) (by omega) (by omega)
/-! the code point -/
theorem c_cpS {σ : St} {n L a i fuel : Nat} {W : Nat → Nat} (hC : InC σ n W) (hn : n ≤ 24) (hi : i < L) (hin : i < n) (hL : L ≤ 4) (hv : 128 ≤ W i) (ha : a * 64 + W i < 2147483648) : fX8_codePointOf_b50 (fuel + 1) σ (nI L) (nI a) (nI i) = fX8_codePointOf_b50 fuel σ (nI L) (nI (a * 64 + W i - 128)) (nI (i + 1)) := by
  rw [fX8_codePointOf_b50]
  simp (disch := omega) only [lit, leF, if_false, at_in hC hin hn, bd_some, mulN, addN, subN, nm_def]
theorem c_cpE {σ : St} {L a i fuel : Nat} (hi : L ≤ i) (hL : i ≤ 4) : fX8_codePointOf_b50 (fuel + 1) σ (nI L) (nI a) (nI i) = some (nI a, σ) := by
  rw [fX8_codePointOf_b50]
  simp (disch := omega) only [leT, if_true]
def cp8 (L : Nat) (W : Nat → Nat) : Nat := match L with
  | 1 => W 0
  | 2 => (W 0 - 192) * 64 + W 1 - 128
  | 3 => ((W 0 - 224) * 64 + W 1 - 128) * 64 + W 2 - 128
  | _ => (((W 0 - 240) * 64 + W 1 - 128) * 64 + W 2 - 128) * 64 + W 3 - 128
def bs8 (L : Nat) : Nat := match L with
  | 1 => 0
  | 2 => 192
  | 3 => 224
  | _ => 240
theorem c_cp {σ : St} {n L : Nat} {W : Nat → Nat} (hC : InC σ n W) (hn : n ≤ 24) (hw : ∀ i, i < n → W i < 256) (h1 : 1 ≤ L) (hL : L ≤ 4) (hLn : L ≤ n) (hb : bs8 L ≤ W 0) (hc : ∀ i, 1 ≤ i → i < L → 128 ≤ W i) : fX8_codePointOf σ (nI L) = some (nI (cp8 L W), σ) := by
  have w0 := hw 0 (by omega)
  unfold fX8_codePointOf fX8_codePointOf_b46
  rcases (show L = 1 ∨ L = 2 ∨ L = 3 ∨ L = 4 by omega) with h | h | h | h
  · subst h
    simp (disch := omega) only [lit, at_in (i := 0) hC (by omega) hn, bd_some, eqT, if_true]
    exact c_cpE (fuel := 199) (i := 1) (by omega) (by omega)
  · subst h
    have hb : 192 ≤ W 0 := hb
    have c1 := hc 1 (by omega) (by omega)
    have w1 := hw 1 (by omega)
    simp (disch := omega) only [lit, at_in (i := 0) hC (by omega) hn, bd_some, eqF, eqT, if_true, if_false, subN]
    exact (c_cpS (fuel := 199) (i := 1) hC hn (by omega) (by omega) (by omega) c1 (by omega)).trans (c_cpE (fuel := 198) (i := 2) (by omega) (by omega))
  · subst h
    have hb : 224 ≤ W 0 := hb
    have c1 := hc 1 (by omega) (by omega)
    have w1 := hw 1 (by omega)
    have c2 := hc 2 (by omega) (by omega)
    have w2 := hw 2 (by omega)
    simp (disch := omega) only [lit, at_in (i := 0) hC (by omega) hn, bd_some, eqF, eqT, if_true, if_false, subN]
    exact ((c_cpS (fuel := 199) (i := 1) hC hn (by omega) (by omega) (by omega) c1 (by omega)).trans (c_cpS (fuel := 198) (i := 2) hC hn (by omega) (by omega) (by omega) c2 (by omega))).trans (c_cpE (fuel := 197) (i := 3) (by omega) (by omega))
  · subst h
    have hb : 240 ≤ W 0 := hb
    have c1 := hc 1 (by omega) (by omega)
    have w1 := hw 1 (by omega)
    have c2 := hc 2 (by omega) (by omega)
    have w2 := hw 2 (by omega)
    have c3 := hc 3 (by omega) (by omega)
    have w3 := hw 3 (by omega)
    simp (disch := omega) only [lit, at_in (i := 0) hC (by omega) hn, bd_some, eqF, if_false, subN]
    exact (((c_cpS (fuel := 199) (i := 1) hC hn (by omega) (by omega) (by omega) c1 (by omega)).trans (c_cpS (fuel := 198) (i := 2) hC hn (by omega) (by omega) (by omega) c2 (by omega))).trans (c_cpS (fuel := 197) (i := 3) hC hn (by omega) (by omega) (by omega) c3 (by omega))).trans (c_cpE (fuel := 196) (i := 4) (by omega) (by omega))
/-! the reference: the least code point, and whether there is one -/
def st8 (W : Nat → Nat) (k a i : Nat) : Nat := 64 * a + if i < k then W i - 128 else 0
def aL (L k : Nat) (W : Nat → Nat) : Nat := match L with
  | 1 => W 0
  | 2 => st8 W k (W 0 - 192) 1
  | 3 => st8 W k (st8 W k (W 0 - 224) 1) 2
  | _ => st8 W k (st8 W k (st8 W k (W 0 - 240) 1) 2) 3
theorem r_lsS {μ : St} {n L k a i fuel : Nat} {W : Nat → Nat} (hM : InM μ n W) (hn : n ≤ 24) (hi : i < L) (hL : L ≤ 4) (hk : k ≤ n) (hv : i < k → 128 ≤ W i) : fX10_least_b50 (fuel + 1) μ (nI L) (nI k) (nI a) (nI i) = fX10_least_b50 fuel μ (nI L) (nI k) (nI (st8 W k a i)) (nI (i + 1)) := by
  rw [fX10_least_b50]
  unfold st8
  by_cases h : i < k
  · have hv := hv h
    rw [if_pos h]
    simp (disch := omega) only [lit, leF, if_false, ldM hM (show i < n by omega) hn, mulN, addN, subN, nm_def]
  · rw [if_neg h]
    simp (disch := omega) only [lit, leF, leT, if_false, if_true, mulN, addN, nm_def]
theorem r_lsE {μ : St} {k : Int32} {L a i fuel : Nat} (hi : L ≤ i) (hL : i ≤ 4) : fX10_least_b50 (fuel + 1) μ (nI L) k (nI a) (nI i) = some (nI a, μ) := by
  rw [fX10_least_b50]
  simp (disch := omega) only [leT, if_true]
theorem r_ls {μ : St} {n L k : Nat} {W : Nat → Nat} (hM : InM μ n W) (hn : n ≤ 24) (h0 : 0 < n) (hw : W 0 < 256) (h1 : 1 ≤ L) (hL : L ≤ 4) (hk : k ≤ n) (hb : bs8 L ≤ W 0) (hc : ∀ i, 1 ≤ i → i < k → 128 ≤ W i) : fX10_least μ (nI L) (nI k) = some (nI (aL L k W), μ) := by
  unfold fX10_least fX10_least_b45 fX10_least_b46
  rcases (show L = 1 ∨ L = 2 ∨ L = 3 ∨ L = 4 by omega) with h | h | h | h
  · subst h
    simp (disch := omega) only [lit, ldM hM h0 hn, eqT, if_true]
    exact r_lsE (fuel := 199) (i := 1) (by omega) (by omega)
  · subst h
    have hb : 192 ≤ W 0 := hb
    simp (disch := omega) only [lit, ldM hM h0 hn, eqF, eqT, if_true, if_false, subN]
    exact (r_lsS (fuel := 199) (i := 1) hM hn (by omega) (by omega) hk (hc 1 (by omega))).trans (r_lsE (fuel := 198) (i := 2) (by omega) (by omega))
  · subst h
    have hb : 224 ≤ W 0 := hb
    simp (disch := omega) only [lit, ldM hM h0 hn, eqF, eqT, if_true, if_false, subN]
    exact ((r_lsS (fuel := 199) (i := 1) hM hn (by omega) (by omega) hk (hc 1 (by omega))).trans (r_lsS (fuel := 198) (i := 2) hM hn (by omega) (by omega) hk (hc 2 (by omega)))).trans (r_lsE (fuel := 197) (i := 3) (by omega) (by omega))
  · subst h
    have hb : 240 ≤ W 0 := hb
    simp (disch := omega) only [lit, ldM hM h0 hn, eqF, if_false, subN]
    exact (((r_lsS (fuel := 199) (i := 1) hM hn (by omega) (by omega) hk (hc 1 (by omega))).trans (r_lsS (fuel := 198) (i := 2) hM hn (by omega) (by omega) hk (hc 2 (by omega)))).trans (r_lsS (fuel := 197) (i := 3) hM hn (by omega) (by omega) hk (hc 3 (by omega)))).trans (r_lsE (fuel := 196) (i := 4) (by omega) (by omega))
def S8 (md L a b : Nat) : Prop := (md = 1 ∧ ((L = 1 ∧ 0 < b) ∨ (L = 2 ∧ (a = 0 ∨ 128 ≤ b)) ∨ (L = 3 ∧ 2048 ≤ b))) ∨ (md = 0 ∧ ((L = 3 ∧ 2048 ≤ b ∧ (a < 55296 ∨ 57343 < b)) ∨ L = 1 ∨ (L = 2 ∧ 128 ≤ b) ∨ (L = 4 ∧ 65536 ≤ b ∧ a ≤ 1114111)))
theorem pk2T {β : Type} {P : Prop} {x y z : β} (hp : P) (hx : x = y) : (P → x = y) ∧ (¬ P → x = z) := ⟨fun _ => hx, fun h => absurd hp h⟩
theorem pk2F {β : Type} {P : Prop} {x y z : β} (hp : ¬ P) (hx : x = z) : (P → x = y) ∧ (¬ P → x = z) := ⟨fun h => absurd h hp, fun _ => hx⟩
theorem r_some {μ : St} {md L a b : Nat} (hset : μ 0 1 = nI md) (hmd1 : md ≤ 1) (hL : L ≤ 4) (ha : a < 2147483648) (hb : b < 2147483648) : (S8 md L a b → fX10_some μ (nI L) (nI a) (nI b) = some (nI 1, μ)) ∧ (¬ S8 md L a b → fX10_some μ (nI L) (nI a) (nI b) = some (nI 0, μ)) := by
  unfold fX10_some S8
  rcases (show md = 0 ∨ md = 1 by omega) with h | h
  · rw [h] at hset ⊢
    rcases (show L = 3 ∨ L = 1 ∨ L = 2 ∨ L = 4 ∨ L = 0 by omega) with h | h | h | h | h
    · subst h
      by_cases h1 : b < 2048
      · refine pk2F (by omega) (by simp (disch := omega) only [lit, hset, eqF, eqT, ltT, ltF, leT, leF, if_true, if_false])
      · by_cases h2 : a < 55296
        · refine pk2T (by omega) (by simp (disch := omega) only [lit, hset, eqF, eqT, ltT, ltF, leT, leF, if_true, if_false])
        · by_cases h3 : b ≤ 57343
          · refine pk2F (by omega) (by simp (disch := omega) only [lit, hset, eqF, eqT, ltT, ltF, leT, leF, if_true, if_false])
          · refine pk2T (by omega) (by simp (disch := omega) only [lit, hset, eqF, eqT, ltT, ltF, leT, leF, if_true, if_false])
    · subst h
      refine pk2T (by omega) (by simp (disch := omega) only [lit, hset, eqF, eqT, ltT, ltF, leT, leF, if_true, if_false])
    · subst h
      by_cases h1 : b < 128
      · refine pk2F (by omega) (by simp (disch := omega) only [lit, hset, eqF, eqT, ltT, ltF, leT, leF, if_true, if_false])
      · refine pk2T (by omega) (by simp (disch := omega) only [lit, hset, eqF, eqT, ltT, ltF, leT, leF, if_true, if_false])
    · subst h
      by_cases h1 : b < 65536
      · refine pk2F (by omega) (by simp (disch := omega) only [lit, hset, eqF, eqT, ltT, ltF, leT, leF, if_true, if_false])
      · by_cases h2 : 1114111 < a
        · refine pk2F (by omega) (by simp (disch := omega) only [lit, hset, eqF, eqT, ltT, ltF, leT, leF, if_true, if_false])
        · refine pk2T (by omega) (by simp (disch := omega) only [lit, hset, eqF, eqT, ltT, ltF, leT, leF, if_true, if_false])
    · subst h
      refine pk2F (by omega) (by simp (disch := omega) only [lit, hset, eqF, eqT, ltT, ltF, leT, leF, if_true, if_false])
  · rw [h] at hset ⊢
    rcases (show L = 1 ∨ L = 2 ∨ L = 3 ∨ L = 4 ∨ L = 0 by omega) with h | h | h | h | h
    · subst h
      by_cases h1 : b ≤ 0
      · refine pk2F (by omega) (by simp (disch := omega) only [lit, hset, eqF, eqT, ltT, ltF, leT, leF, if_true, if_false])
      · refine pk2T (by omega) (by simp (disch := omega) only [lit, hset, eqF, eqT, ltT, ltF, leT, leF, if_true, if_false])
    · subst h
      by_cases h1 : a = 0
      · refine pk2T (by omega) (by simp (disch := omega) only [lit, hset, eqF, eqT, ltT, ltF, leT, leF, if_true, if_false])
      · by_cases h2 : b < 128
        · refine pk2F (by omega) (by simp (disch := omega) only [lit, hset, eqF, eqT, ltT, ltF, leT, leF, if_true, if_false])
        · refine pk2T (by omega) (by simp (disch := omega) only [lit, hset, eqF, eqT, ltT, ltF, leT, leF, if_true, if_false])
    · subst h
      by_cases h2 : b < 2048
      · refine pk2F (by omega) (by simp (disch := omega) only [lit, hset, eqF, eqT, ltT, ltF, leT, leF, if_true, if_false])
      · refine pk2T (by omega) (by simp (disch := omega) only [lit, hset, eqF, eqT, ltT, ltF, leT, leF, if_true, if_false])
    · subst h
      refine pk2F (by omega) (by simp (disch := omega) only [lit, hset, eqF, eqT, ltT, ltF, leT, leF, if_true, if_false])
    · subst h
      refine pk2F (by omega) (by simp (disch := omega) only [lit, hset, eqF, eqT, ltT, ltF, leT, leF, if_true, if_false])
