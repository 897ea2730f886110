/-! ===== taking and putting ===== -/
theorem cp_in {β : Type} {σ : St} {j n a c : Nat} {k : St → Option β} (h : a + c ≤ n) (hn : n < 2147483648) : cp σ j n (nI a) 0 (nI c) k = k (sx σ j (va_cpy (σ j) (σ j) a 0 c)) := by
  unfold cp
  rw [if_pos ?_, cl a (by omega), cl c (by omega)]
  · rfl
  · rw [cl a (by omega), cl c (by omega)]
    exact ⟨nI_pos (by omega), by decide, nI_pos (by omega), h, by show 0 + c ≤ n; omega⟩
theorem c_drop {σ : St} {j n t : Nat} (hc : capU j ≤ 24) (hn : n ≤ capU j) (h : σ j 1 = nI n) (ht : t ≤ n) : ∃ σ1, fX5_drop j σ (nI t) = some (nI 0, σ1) ∧ σ1 j 1 = nI (n - t) ∧ (∀ i, i < n - t → σ1 (j + 1) i = σ (j + 1) (i + t)) ∧ ∀ i k, i ≠ j + 1 → ¬ (i = j ∧ k = 1) → σ1 i k = σ i k := by
  refine ⟨up (sx σ (j + 1) (va_cpy (σ (j + 1)) (σ (j + 1)) t 0 (n - t))) j 1 (nI (n - t)), ?_, up_eq, ?_, ?_⟩
  · have hj : (sx σ (j + 1) (va_cpy (σ (j + 1)) (σ (j + 1)) t 0 (n - t))) j 1 = nI n := by rw [sx_ne (by omega)]; exact h
    unfold fX5_drop
    rw [h]
    have e1 : (if nI n < nI t then nI n else nI t) = nI t := if_neg (nI_nlt ht (by omega))
    have e2 : (if 0 < nI t then nI t else 0) = nI t := by
      by_cases h0 : t = 0
      · rw [h0]; rfl
      · exact if_pos (nI_lt (show 0 < t by omega) (by omega))
    rw [e1, e2, nm_def, subN ht, cp_in (by omega) (by omega), hj, subN ht, nm_def]
    rfl
  · intro i hi
    rw [up_ne (by omega), sx_eq, pk_cpy_in (by omega) (by omega)]
    congr 1
    omega
  · intro i k h1 h2
    rw [up_at]
    by_cases e : i = j
    · rw [if_pos e]
      by_cases e2 : k = 1
      · exact absurd ⟨e, e2⟩ h2
      · rw [if_neg e2, sx_ne (by omega), e]
    · rw [if_neg e, sx_ne h1]
theorem c_drop0 {σ : St} {j t : Nat} (hc : capU j ≤ 24) (h : σ j 1 = nI 0) (ht : t < 2147483648) : ∃ σ1, fX5_drop j σ (nI t) = some (nI 0, σ1) ∧ ∀ i k, σ1 i k = σ i k := by
  refine ⟨up (sx σ (j + 1) (va_cpy (σ (j + 1)) (σ (j + 1)) 0 0 0)) j 1 (nI 0), ?_, ?_⟩
  · have hj : (sx σ (j + 1) (va_cpy (σ (j + 1)) (σ (j + 1)) 0 0 0)) j 1 = nI 0 := by rw [sx_ne (by omega)]; exact h
    unfold fX5_drop
    rw [h]
    have e1 : (if 0 < (if nI 0 < nI t then nI 0 else nI t) then (if nI 0 < nI t then nI 0 else nI t) else 0) = nI 0 := by
      by_cases h0 : t = 0
      · rw [h0]; rfl
      · rw [if_pos (nI_lt (show 0 < t by omega) (by omega))]
        rfl
    rw [e1, nm_def, subN (Nat.le_refl 0), cp_in (by omega) (by omega), hj, subN (Nat.le_refl 0), nm_def]
    rfl
  · intro i k
    rw [up_at]
    by_cases e : i = j
    · rw [if_pos e]
      by_cases e2 : k = 1
      · rw [if_pos e2, e, e2, h]
      · rw [if_neg e2, sx_ne (by omega), e]
    · rw [if_neg e]
      by_cases e3 : i = j + 1
      · rw [e3, sx_eq, pk_cpy_out (by omega)]
      · rw [sx_ne e3]
def TakC (σ σ1 : St) (n t : Nat) (W : Nat → Nat) : Prop := InC σ1 (n - t) (fun i => W (i + t)) ∧ σ1 0 11 = σ 0 11 + nI t ∧ ∀ i k, i ≠ 5 → ¬ (i = 4 ∧ k = 1) → ¬ (i = 0 ∧ k = 11) → σ1 i k = σ i k
def TakM (μ μ1 : St) (n t : Nat) (W : Nat → Nat) : Prop := InM μ1 (n - t) (fun i => W (i + t)) ∧ μ1 0 12 = μ 0 12 + nI t ∧ (1 ≤ t → μ1 0 15 = nI 1) ∧ (t = 0 → μ1 0 15 = μ 0 15) ∧ ∀ i k, i ≠ 2 → ¬ (i = 0 ∧ (k = 9 ∨ k = 12 ∨ k = 15)) → μ1 i k = μ i k
def PutC (σ σ1 : St) (r : Nat) (us : List Nat) : Prop := σ1 6 1 = nI (r + us.length) ∧ (∀ i, i < r → σ1 7 i = σ 7 i) ∧ (∀ q, q < us.length → σ1 7 (r + q) = nI (us.getD q 0)) ∧ σ1 0 12 = σ 0 12 + nI us.length ∧ ∀ i k, i ≠ 7 → ¬ (i = 6 ∧ k = 1) → ¬ (i = 0 ∧ k = 12) → σ1 i k = σ i k
def PutM (μ μ1 : St) (r : Nat) (us : List Nat) : Prop := μ1 0 11 = nI (r + us.length) ∧ (∀ i, i < r → μ1 3 i = μ 3 i) ∧ (∀ q, q < us.length → μ1 3 (r + q) = nI (us.getD q 0)) ∧ μ1 0 13 = μ 0 13 + nI us.length ∧ (us = [] → μ1 0 16 = μ 0 16) ∧ (us ≠ [] → μ1 0 16 = nI 1) ∧ ∀ i k, i ≠ 3 → ¬ (i = 0 ∧ (k = 11 ∨ k = 13 ∨ k = 16)) → μ1 i k = μ i k
theorem c_take {σ : St} {n t : Nat} {W : Nat → Nat} (hC : InC σ n W) (hn : n ≤ 24) (ht : t ≤ n) : ∃ σ1, fX9_takeUnits σ (nI t) = some (nI 0, σ1) ∧ TakC σ σ1 n t W := by
  obtain ⟨σ1, s1, a1, a2, f1⟩ := c_drop (j := 4) (Nat.le_refl 24) hn hC.1 ht
  refine ⟨up σ1 0 11 (σ 0 11 + nI t), ?_, ⟨?_, ?_⟩, up_eq, ?_⟩
  · unfold fX9_takeUnits
    rw [s1, bd_some, f1 0 11 (by omega) (by omega), nm_def]
    rfl
  · rw [up_ne (by omega)]
    exact a1
  · intro i hi
    rw [up_ne (by omega), a2 i hi, hC.2 (i + t) (by omega)]
  · intro i k h1 h2 h3
    rw [up_at]
    by_cases e : i = 0
    · rw [if_pos e, if_neg (fun e2 => h3 ⟨e, e2⟩), f1 0 k (by omega) (by omega), e]
    · rw [if_neg e, f1 i k (by omega) (by omega)]
theorem r_takeL {n t m tk : Nat} (hn : n ≤ 24) (ht : t ≤ n) (hm : m = n - t) (htk : tk ≤ 1) : ∀ (d i fuel : Nat) (μ : St), i + d = m → d < fuel → μ 0 9 = nI m → μ 0 15 = nI tk → ∃ μ1, fX10_take_b12 fuel μ (nI t) (nI i) = some (nI 0, μ1) ∧ (∀ q, q < i → μ1 2 q = μ 2 q) ∧ (∀ q, i ≤ q → q < m → μ1 2 q = μ 2 (q + t)) ∧ μ1 0 12 = μ 0 12 + nI t ∧ (1 ≤ t → μ1 0 15 = nI 1) ∧ (t = 0 → μ1 0 15 = nI tk) ∧ ∀ i k, i ≠ 2 → ¬ (i = 0 ∧ (k = 12 ∨ k = 15)) → μ1 i k = μ i k := by
  intro d
  induction d with
  | zero =>
    intro i fuel μ hi hf h9 h15
    match fuel, hf with
    | f + 1, _ =>
      obtain ⟨x, hx⟩ : ∃ x : Nat, ((1 ≤ t ∨ tk = 1) ∧ x = 1) ∨ (t = 0 ∧ tk = 0 ∧ x = 0) := by
        by_cases h : 1 ≤ t ∨ tk = 1
        · exact ⟨1, Or.inl ⟨h, rfl⟩⟩
        · exact ⟨0, Or.inr ⟨by omega, by omega, rfl⟩⟩
      refine ⟨up (up μ 0 12 (μ 0 12 + nI t)) 0 15 (nI x), ?_, ?_, ?_, ?_, ?_, ?_, ?_⟩
      · rw [fX10_take_b12, h9, if_pos (nI_le (by omega) (by omega)), nm_def, up_e2 (by omega), h15]
        rcases hx with ⟨a, b⟩ | ⟨a, b, c⟩
        · rw [b]
          by_cases h : tk = 0
          · rw [h]
            simp (disch := omega) only [lit, eqT, if_true, leF, if_false, nm_def]
          · simp (disch := omega) only [lit, eqF, if_false, nm_def]
        · rw [a, b, c]
          simp (disch := omega) only [lit, eqT, if_true, leT, nm_def]
      · intro q _
        rw [up_ne (by omega), up_ne (by omega)]
      · intro q h1 h2
        omega
      · rw [up_e2 (by omega), up_eq]
      · intro h
        rw [up_eq, show x = 1 by omega]
      · intro h
        rw [up_eq]
        congr 1
        omega
      · intro i2 k h1 h2
        by_cases e : i2 = 0
        · rw [e, up_e2 (fun q => h2 ⟨e, Or.inr q⟩), up_e2 (fun q => h2 ⟨e, Or.inl q⟩)]
        · rw [up_ne e, up_ne e]
  | succ d ih =>
    intro i fuel μ hi hf h9 h15
    match fuel, hf with
    | f + 1, hf =>
      obtain ⟨μ1, e, a1, a2, a3, a4, a5, a6⟩ := ih (i + 1) f (up μ 2 i (μ 2 (i + t))) (by omega) (by omega) (by rw [up_ne (by omega)]; exact h9) (by rw [up_ne (by omega)]; exact h15)
      refine ⟨μ1, ?_, ?_, ?_, ?_, a4, a5, ?_⟩
      · rw [fX10_take_b12, h9, if_neg (nI_ge (by omega) (by omega)), addN, ld_in (by omega) (by omega), sv_in (by omega) (by omega), lit, addN, nm_def]
        exact e
      · intro q hq
        rw [a1 q (by omega), up_e2 (by omega)]
      · intro q h1 h2
        rcases (show q = i ∨ i + 1 ≤ q by omega) with h | h
        · rw [h, a1 i (by omega), up_eq]
        · rw [a2 q h h2, up_e2 (by omega)]
      · rw [a3, up_ne (by omega)]
      · intro i2 k h1 h2
        rw [a6 i2 k h1 h2, up_ne h1]
theorem r_take {μ : St} {n t tk : Nat} {W : Nat → Nat} (hM : InM μ n W) (hn : n ≤ 24) (ht : t ≤ n) (h15 : μ 0 15 = nI tk) (htk : tk ≤ 1) : ∃ μ1, fX10_take μ (nI t) = some (nI 0, μ1) ∧ TakM μ μ1 n t W := by
  obtain ⟨μ1, e, a1, a2, a3, a4, a5, a6⟩ := r_takeL hn ht rfl htk (n - t) 0 200 (up μ 0 9 (nI (n - t))) (by omega) (by omega) up_eq (by rw [up_e2 (by omega)]; exact h15)
  refine ⟨μ1, ?_, ⟨?_, ?_⟩, ?_, a4, ?_, ?_⟩
  · unfold fX10_take
    rw [hM.1, subN ht, nm_def, lit]
    exact e
  · rw [a6 0 9 (by omega) (by omega), up_eq]
  · intro i hi
    rw [a2 i (by omega) hi, up_ne (by omega), hM.2 (i + t) (by omega)]
  · rw [a3, up_e2 (by omega)]
  · intro h
    rw [a5 h, h15]
  · intro i k h1 h2
    rw [a6 i k h1 (by omega)]
    by_cases e : i = 0
    · rw [e, up_e2 (by omega)]
    · rw [up_ne e]
theorem c_putL {k t : Nat} {us : List Nat} (hus : us.length ≤ 4) : ∀ (d i fuel r : Nat) (σ : St), i + d = us.length → d < fuel → Mv σ k t us → σ 6 1 = nI r → r + d ≤ 16 → ∃ σ1, fX9_putUnits_b2 fuel σ (nI i) = some (nI 0, σ1) ∧ σ1 6 1 = nI (r + d) ∧ (∀ q, q < r → σ1 7 q = σ 7 q) ∧ (∀ q, q < d → σ1 7 (r + q) = nI (us.getD (i + q) 0)) ∧ σ1 0 12 = σ 0 12 + nI us.length ∧ ∀ i k, i ≠ 7 → ¬ (i = 6 ∧ k = 1) → ¬ (i = 0 ∧ k = 12) → σ1 i k = σ i k := by
  intro d
  induction d with
  | zero =>
    intro i fuel r σ hi hf hm h6 hr
    match fuel, hf with
    | f + 1, _ =>
      refine ⟨up σ 0 12 (σ 0 12 + nI us.length), ?_, ?_, ?_, ?_, up_eq, ?_⟩
      · rw [fX9_putUnits_b2, hm.2.2.1, if_pos (nI_le (by omega) (by omega)), nm_def]
        rfl
      · rw [up_ne (by omega)]; exact h6
      · intro q _
        rw [up_ne (by omega)]
      · intro q h
        omega
      · intro i2 k2 h1 h2 h3
        by_cases e : i2 = 0
        · rw [e, up_e2 (fun q => h3 ⟨e, q⟩)]
        · rw [up_ne e]
  | succ d ih =>
    intro i fuel r σ hi hf hm h6 hr
    match fuel, hf with
    | f + 1, hf =>
      have hu : fX1_unitAt σ (nI i) = some (nI (us.getD i 0), σ) := by
        unfold fX1_unitAt
        rw [hm.2.2.1, lit, if_neg (nI_nlt (by omega) (by omega)), if_neg (nI_ge (by omega) (by omega)), ld_in (by omega) (by omega), hm.2.2.2 i (by omega), List.getD_eq_getElem?_getD, List.getElem?_eq_getElem (by omega)]
        rfl
      obtain ⟨σa, ha⟩ : ∃ z, z = up (up σ 7 r (nI (us.getD i 0))) 6 1 (nI (r + 1)) := ⟨_, rfl⟩
      have hadd : fX5_add 6 σ (nI (us.getD i 0)) = some (nI 0, σa) := by
        unfold fX5_add
        rw [h6, if_neg (show ¬ (Int32.ofNat (capU 6) ≤ nI r) from nI_ge (show r < 16 by omega) (show (16 : Nat) < 2 ^ 31 by decide)), sv_in (show r < capU 6 by show r < 16; omega) (by omega), up_ne (by omega), h6, lit, addN, nm_def, ← ha]
        rfl
      have f8 : ∀ i2, i2 ≠ 6 → i2 ≠ 7 → σa i2 = σ i2 := fun i2 a b => by rw [ha, up_ne a, up_ne b]
      obtain ⟨σ1, e, a1, a2, a3, a4, a5⟩ := ih (i + 1) f (r + 1) σa (by omega) (by omega) ⟨by rw [f8 8 (by omega) (by omega)]; exact hm.1, by rw [f8 8 (by omega) (by omega)]; exact hm.2.1, by rw [f8 8 (by omega) (by omega)]; exact hm.2.2.1, by rw [f8 9 (by omega) (by omega)]; exact hm.2.2.2⟩ (by rw [ha, up_eq]) (by omega)
      refine ⟨σ1, ?_, ?_, ?_, ?_, ?_, ?_⟩
      · rw [fX9_putUnits_b2, hm.2.2.1, if_neg (nI_ge (by omega) (by omega)), hu, bd_some, hadd, bd_some, lit, addN, nm_def]
        exact e
      · rw [a1, show r + 1 + d = r + (d + 1) by omega]
      · intro q hq
        rw [a2 q (by omega), ha, up_ne (by omega), up_e2 (by omega)]
      · intro q hq
        rcases (show q = 0 ∨ 1 ≤ q by omega) with h | h
        · rw [h, Nat.add_zero, Nat.add_zero, a2 r (by omega), ha, up_ne (by omega), up_eq]
        · have := a3 (q - 1) (by omega)
          rw [show r + 1 + (q - 1) = r + q by omega, show i + 1 + (q - 1) = i + q by omega] at this
          exact this
      · rw [a4, f8 0 (by omega) (by omega)]
      · intro i2 k2 h1 h2 h3
        rw [a5 i2 k2 h1 h2 h3, ha]
        by_cases e6 : i2 = 6
        · rw [e6, up_e2 (fun q => h2 ⟨e6, q⟩), up_ne (by omega)]
        · rw [up_ne e6, up_ne h1]
theorem c_put {σ : St} {k t r : Nat} {us : List Nat} (hm : Mv σ k t us) (hus : us.length ≤ 4) (h6 : σ 6 1 = nI r) (hr : r + us.length ≤ 16) : ∃ σ1, fX9_putUnits σ = some (nI 0, σ1) ∧ PutC σ σ1 r us := by
  obtain ⟨σ1, e, a1, a2, a3, a4, a5⟩ := c_putL hus us.length 0 200 r σ (by omega) (by omega) hm h6 hr
  exact ⟨σ1, e, a1, a2, fun q hq => by rw [a3 q hq, Nat.zero_add], a4, a5⟩
theorem r_putL {us : List Nat} (hus : us.length ≤ 4) : ∀ (d i fuel r : Nat) (μ : St), i + d = us.length → d < fuel → Mm μ us → μ 0 11 = nI r → r + d ≤ 16 → ∃ μ1, fX10_putOut_b2 fuel μ (nI i) = some (nI 0, μ1) ∧ μ1 0 11 = nI (r + d) ∧ (∀ q, q < r → μ1 3 q = μ 3 q) ∧ (∀ q, q < d → μ1 3 (r + q) = nI (us.getD (i + q) 0)) ∧ μ1 0 13 = μ 0 13 + nI d ∧ (d = 0 → μ1 0 16 = μ 0 16) ∧ (1 ≤ d → μ1 0 16 = nI 1) ∧ ∀ i k, i ≠ 3 → ¬ (i = 0 ∧ (k = 11 ∨ k = 13 ∨ k = 16)) → μ1 i k = μ i k := by
  intro d
  induction d with
  | zero =>
    intro i fuel r μ hi hf hm h11 hr
    match fuel, hf with
    | f + 1, _ =>
      refine ⟨μ, ?_, h11, fun _ _ => rfl, fun q h => by omega, ?_, fun _ => rfl, fun h => by omega, fun _ _ _ _ => rfl⟩
      · rw [fX10_putOut_b2, hm.1, if_pos (nI_le (by omega) (by omega))]
        rfl
      · rw [show nI 0 = (0 : Int32) from rfl, Int32.add_zero]
  | succ d ih =>
    intro i fuel r μ hi hf hm h11 hr
    match fuel, hf with
    | f + 1, hf =>
      have hu : μ 4 i = nI (us.getD i 0) := by
        rw [hm.2 i (by omega), List.getD_eq_getElem?_getD, List.getElem?_eq_getElem (by omega)]
        rfl
      obtain ⟨μa, ha⟩ : ∃ z, z = up (up (up (up μ 3 r (nI (us.getD i 0))) 0 11 (nI (r + 1))) 0 13 (μ 0 13 + nI 1)) 0 16 (nI 1) := ⟨_, rfl⟩
      have f3 : ∀ i2, i2 ≠ 0 → i2 ≠ 3 → μa i2 = μ i2 := fun i2 a b => by rw [ha, up_ne a, up_ne a, up_ne a, up_ne b]
      have f0 : ∀ k, k ≠ 11 → k ≠ 13 → k ≠ 16 → μa 0 k = μ 0 k := fun k a b c => by rw [ha, up_e2 c, up_e2 b, up_e2 a, up_ne (by omega)]
      obtain ⟨μ1, e, a1, a2, a3, a4, a5, a6, a7⟩ := ih (i + 1) f (r + 1) μa (by omega) (by omega) ⟨by rw [f0 26 (by omega) (by omega) (by omega)]; exact hm.1, by rw [f3 4 (by omega) (by omega)]; exact hm.2⟩ (by rw [ha, up_e2 (by omega), up_e2 (by omega), up_eq]) (by omega)
      refine ⟨μ1, ?_, ?_, ?_, ?_, ?_, fun h => by omega, fun _ => ?_, ?_⟩
      · rw [fX10_putOut_b2, hm.1, if_neg (nI_ge (by omega) (by omega)), ld_in (by omega) (by omega), h11, sv_in (by omega) (by omega), hu]
        simp only [lit, nm_def]
        rw [up_ne (show (0 : Nat) ≠ 3 by omega), h11, addN, up_e2 (show (13 : Nat) ≠ 11 by omega), up_ne (show (0 : Nat) ≠ 3 by omega), ← ha, addN]
        exact e
      · rw [a1, show r + 1 + d = r + (d + 1) by omega]
      · intro q hq
        rw [a2 q (by omega), ha, up_ne (by omega), up_ne (by omega), up_ne (by omega), up_e2 (by omega)]
      · intro q hq
        rcases (show q = 0 ∨ 1 ≤ q by omega) with h | h
        · rw [h, Nat.add_zero, Nat.add_zero, a2 r (by omega), ha, up_ne (by omega), up_ne (by omega), up_ne (by omega), up_eq]
        · have := a3 (q - 1) (by omega)
          rw [show r + 1 + (q - 1) = r + q by omega, show i + 1 + (q - 1) = i + q by omega] at this
          exact this
      · rw [a4, ha, up_e2 (by omega), up_eq, Int32.add_assoc, addN, Nat.add_comm 1 d]
      · rcases (show d = 0 ∨ 1 ≤ d by omega) with h | h
        · rw [a5 h, ha, up_eq]
        · exact a6 h
      · intro i2 k2 h1 h2
        rw [a7 i2 k2 h1 h2]
        by_cases e0 : i2 = 0
        · rw [e0]
          exact f0 k2 (by omega) (by omega) (by omega)
        · rw [f3 i2 e0 h1]
theorem r_put {μ : St} {r : Nat} {us : List Nat} (hm : Mm μ us) (hus : us.length ≤ 4) (h11 : μ 0 11 = nI r) (hr : r + us.length ≤ 16) : ∃ μ1, fX10_putOut μ = some (nI 0, μ1) ∧ PutM μ μ1 r us := by
  obtain ⟨μ1, e, a1, a2, a3, a4, a5, a6, a7⟩ := r_putL hus us.length 0 200 r μ (by omega) (by omega) hm h11 hr
  refine ⟨μ1, e, a1, a2, fun q hq => by rw [a3 q hq, Nat.zero_add], a4, fun h => a5 (by rw [h]; rfl), fun h => a6 ?_, a7⟩
  cases us with
  | nil => exact absurd rfl h
  | cons x xs => rw [List.length_cons]; omega
