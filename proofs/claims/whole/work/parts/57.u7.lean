/-! ===== set 5: UTF-7: what the coders do ===== -/
def F7 (σ σ1 : St) : Prop := ∀ i, i ≠ 8 → i ≠ 9 → i ≠ 17 → σ1 i = σ i
theorem F7.tr {σ σ1 σ2 : St} (h : F7 σ σ1) (h2 : F7 σ1 σ2) : F7 σ σ2 := fun i a b c => (h2 i a b c).trans (h i a b c)
theorem F7.fc {σ σ1 : St} (h : F7 σ σ1) : FC σ σ1 := ⟨fun i a b _ _ _ c => h i a b c, fun i k a b _ => by rw [h i (by omega) (by omega) (by omega)]⟩
theorem F8.f7 {σ σ1 : St} (h : F8 σ σ1) : F7 σ σ1 := fun i a b _ => h i a b
theorem Fj.f7 {σ σ1 : St} (h : Fj 17 σ σ1) : F7 σ σ1 := fun i _ _ c => h i c
theorem Mv.fj {σ σ1 : St} {k t : Nat} {us : List Nat} (hm : Mv σ k t us) (h : Fj 17 σ σ1) : Mv σ1 k t us := by
  obtain ⟨a, b, c, d⟩ := hm
  refine ⟨?_, ?_, ?_, ?_⟩
  · rw [h 8 (by omega)]; exact a
  · rw [h 8 (by omega)]; exact b
  · rw [h 8 (by omega)]; exact c
  · rw [h 9 (by omega)]; exact d
def FE (μ μ1 : St) : Prop := (∀ i, i ≠ 0 → i ≠ 4 → μ1 i = μ i) ∧ ∀ k, k ≠ 24 → k ≠ 26 → k ≠ 29 → k ≠ 30 → μ1 0 k = μ 0 k
theorem FE.tr {μ μ1 μ2 : St} (h : FE μ μ1) (h2 : FE μ1 μ2) : FE μ μ2 := ⟨fun i a b => (h2.1 i a b).trans (h.1 i a b), fun k a b c d => (h2.2 k a b c d).trans (h.2 k a b c d)⟩
theorem FR.fe {μ μ1 : St} (h : FR μ μ1) : FE μ μ1 := ⟨h.1, fun k _ b _ _ => h.2 k b⟩
theorem FE.fm {μ μ1 : St} (h : FE μ μ1) : FM μ μ1 := ⟨h.1, fun k a b _ _ c d _ => h.2 k a b c d⟩
theorem FE.up {μ : St} {k : Nat} {v : Int32} (h : k = 29 ∨ k = 30) : FE μ (up μ 0 k v) := ⟨fun i a _ => up_ne a, fun k2 _ _ c d => up_e2 (by omega)⟩
theorem FM.up {μ : St} {k : Nat} {v : Int32} (h : 27 ≤ k) (h2 : k ≤ 30) : FM μ (up μ 0 k v) := ⟨fun i a _ => up_ne a, fun k2 _ _ c d e f _ => up_e2 (by omega)⟩
theorem Mm.up {μ : St} {k : Nat} {v : Int32} {us : List Nat} (hm : Mm μ us) (h : k ≠ 26) : Mm (up μ 0 k v) us := ⟨by rw [up_e2 (fun e => h e.symm)]; exact hm.1, by rw [up_ne (by omega)]; exact hm.2⟩
def els : Nat → Nat → Nat → List Nat
  | 0, _, _ => []
  | m + 1, V, N => sg (V / 2 ^ (N - 6)) :: els m (V % 2 ^ (N - 6)) (N - 6)
def vr : Nat → Nat → Nat → Nat
  | 0, V, _ => V
  | m + 1, V, N => vr m (V % 2 ^ (N - 6)) (N - 6)
theorem els_len : ∀ (m V N : Nat), (els m V N).length = m := by
  intro m
  induction m with
  | zero => intro V N; rfl
  | succ m ih => intro V N; rw [els, List.length_cons, ih]
theorem vr_lt : ∀ (m V N : Nat), 6 * m ≤ N → V < 2 ^ N → vr m V N < 2 ^ (N - 6 * m) := by
  intro m
  induction m with
  | zero => intro V N _ h; exact h
  | succ m ih =>
    intro V N h1 h2
    rw [vr, show N - 6 * (m + 1) = N - 6 - 6 * m by omega]
    exact ih _ _ (by omega) (Nat.mod_lt _ (Nat.two_pow_pos _))
theorem p22 {V N : Nat} (h : V < 2 ^ N) (hN : N ≤ 22) : V < 4194304 := Nat.lt_of_lt_of_le h (Nat.le_trans (Nat.pow_le_pow_right (by omega) hN) (by decide))
theorem d64 {V q : Nat} (h : V < 2 ^ (q + 6)) : V / 2 ^ q < 64 := Nat.div_lt_of_lt_mul (by rw [Nat.pow_add] at h; exact h)
theorem c_els {k t : Nat} : ∀ (m fuel : Nat) (σ : St) (us : List Nat) (V N : Nat), m < fuel → 6 * m ≤ N → N ≤ 22 → V < 2 ^ N → σ 17 2 = nI V → σ 17 3 = nI N → Mv σ k t us → us.length + m ≤ 4 → ∃ σ1, fX7_encodeShifted_b44 fuel σ (nI m) = some (nI 0, σ1) ∧ Mv σ1 k t (us ++ els m V N) ∧ σ1 17 0 = σ 17 0 ∧ σ1 17 1 = σ 17 1 ∧ σ1 17 2 = nI (vr m V N) ∧ σ1 17 3 = nI (N - 6 * m) ∧ F7 σ σ1 := by
  intro m
  induction m with
  | zero =>
    intro fuel σ us V N hf _ _ _ h2 h3 hm _
    match fuel, hf with
    | f + 1, _ =>
      refine ⟨σ, ?_, by rw [els, List.append_nil]; exact hm, rfl, rfl, h2, h3, fun _ _ _ _ => rfl⟩
      rw [fX7_encodeShifted_b44]
      simp (disch := omega) only [lit, leT, if_true]
  | succ m ih =>
    intro fuel σ us V N hf hN hN2 hV h2 h3 hm hl
    match fuel, hf with
    | f + 1, hf =>
      obtain ⟨q, rfl⟩ : ∃ q, N = q + 6 := ⟨N - 6, by omega⟩
      have hV2 := p22 hV hN2
      obtain ⟨σ1, s1, a0, a1, a2, a3, f1⟩ := c_rem (p := 6) h2 h3 (by omega) (by omega) (by omega)
      rw [Nat.add_sub_cancel] at s1 a2 a3
      have hd := d64 hV
      obtain ⟨σ2, s2, m2, f2⟩ := mv_add (hm.fj f1) (by omega) (sg (V / 2 ^ q))
      have e17 : σ2 17 = σ1 17 := f2 17 (by omega) (by omega)
      obtain ⟨σ3, s3, m3, b0, b1, b2, b3, f3⟩ := ih f σ2 _ (V % 2 ^ q) q (by omega) (by omega) (by omega) (Nat.mod_lt _ (Nat.two_pow_pos _)) (by rw [e17]; exact a2) (by rw [e17]; exact a3) m2 (by rw [List.length_append, List.length_singleton]; omega)
      have ea : nI (V / 2 ^ q) &&& nI 63 = nI (V / 2 ^ q) := by rw [and63 (by omega), Nat.mod_eq_of_lt hd]
      refine ⟨σ3, ?_, ?_, by rw [b0, e17, a0], by rw [b1, e17, a1], ?_, ?_, (f1.f7.tr f2.f7).tr f3⟩
      · rw [fX7_encodeShifted_b44]
        simp (disch := omega) only [lit, leF, if_false, s1, bd_some, ea, c_sign σ1 hd, s2, nm_def, m1N]
        exact s3
      · rw [els, Nat.add_sub_cancel]
        rw [List.append_assoc] at m3
        exact m3
      · rw [vr, Nat.add_sub_cancel]
        exact b2
      · rw [b3, show q + 6 - 6 * (m + 1) = q - 6 * m by omega]
theorem r_els : ∀ (m fuel : Nat) (μ : St) (us : List Nat) (V N : Nat), m < fuel → 6 * m ≤ N → N < 6 * m + 6 → N ≤ 22 → V < 2 ^ N → μ 0 29 = nI N → μ 0 30 = nI V → Mm μ us → us.length + m ≤ 8 → ∃ μ1 μ2, fX10_encodeSeven_b119 fuel μ = some (nI 0, μ2) ∧ Mm μ1 (us ++ els m V N) ∧ μ1 0 29 = nI (N - 6 * m) ∧ μ1 0 30 = nI (vr m V N) ∧ FE μ μ1 ∧ μ2 0 24 = nI 1 ∧ FS μ1 μ2 := by
  intro m
  induction m with
  | zero =>
    intro fuel μ us V N hf _ hN6 _ _ h29 h30 hm _
    match fuel, hf with
    | f + 1, _ =>
      obtain ⟨μ2, g2, n2, r2⟩ := mm_step μ 1
      refine ⟨μ, μ2, ?_, by rw [els, List.append_nil]; exact hm, h29, h30, FR.rf.fe, n2, r2⟩
      rw [fX10_encodeSeven_b119, h29]
      simp (disch := omega) only [lit, ltT, if_true, g2, bd_some]
  | succ m ih =>
    intro fuel μ us V N hf hN hN6 hN2 hV h29 h30 hm hl
    match fuel, hf with
    | f + 1, hf =>
      obtain ⟨q, rfl⟩ : ∃ q, N = q + 6 := ⟨N - 6, by omega⟩
      have hV2 := p22 hV hN2
      have hd := d64 hV
      obtain ⟨μa, ha⟩ : ∃ z, z = up μ 0 29 (nI q) := ⟨_, rfl⟩
      have a29 : μa 0 29 = nI q := by rw [ha]; exact up_eq
      have a30 : μa 0 30 = nI V := by rw [ha, up_e2 (by omega)]; exact h30
      have fa : FE μ μa := by rw [ha]; exact FE.up (Or.inl rfl)
      have ma : Mm μa us := by rw [ha]; exact hm.up (by omega)
      obtain ⟨μb, s1, m1, f1⟩ := mm_add ma (by omega) (sg (V / 2 ^ q))
      have b29 : μb 0 29 = nI q := by rw [f1.2 29 (by omega)]; exact a29
      have b30 : μb 0 30 = nI V := by rw [f1.2 30 (by omega)]; exact a30
      obtain ⟨μc, hc⟩ : ∃ z, z = up μb 0 30 (nI (V % 2 ^ q)) := ⟨_, rfl⟩
      obtain ⟨μ1, μ2, s2, m2, c29, c30, f2, n2, r2⟩ := ih f μc _ (V % 2 ^ q) q (by omega) (by omega) (by omega) (by omega) (Nat.mod_lt _ (Nat.two_pow_pos _)) (by rw [hc, up_e2 (by omega)]; exact b29) (by rw [hc]; exact up_eq) (by rw [hc]; exact m1.up (by omega)) (by rw [List.length_append, List.length_singleton]; omega)
      have fc : FE μb μc := by rw [hc]; exact FE.up (Or.inr rfl)
      have es : nI V >>> (nI q &&& nI 31) = nI (V / 2 ^ q) := shrN (by omega) (by omega)
      have em := mask (q := q) (a := V) (by omega) (by omega)
      simp only [lit] at em
      refine ⟨μ1, μ2, ?_, ?_, ?_, ?_, ((fa.tr f1.fe).tr fc).tr f2, n2, r2⟩
      · rw [fX10_encodeSeven_b119, h29]
        simp (disch := omega) only [lit, ltF, if_false]
        rw [subN (by omega), Nat.add_sub_cancel, nm_def, ← ha, a30, a29, es, r_sign μa hd, bd_some, s1, bd_some, b30, b29, em, nm_def, ← hc]
        exact s2
      · rw [els, Nat.add_sub_cancel]
        rw [List.append_assoc] at m2
        exact m2
      · rw [c29, show q + 6 - 6 * (m + 1) = q - 6 * m by omega]
      · rw [vr, Nat.add_sub_cancel]
        exact c30
theorem kV {K B c : Nat} (hK : K < 2 ^ B) (hc : c < 65536) : K * 65536 + c < 2 ^ (B + 16) := by
  rw [Nat.pow_add]
  generalize 2 ^ B = X at *
  omega
theorem pow_le32 {B : Nat} (h : B < 6) : 2 ^ B ≤ 32 := Nat.le_trans (Nat.pow_le_pow_right (by omega) (show B ≤ 5 by omega)) (by decide)
theorem c_b23 {σ : St} {K B c : Nat} {us : List Nat} (h0 : σ 17 0 = nI 1) (h2 : σ 17 2 = nI K) (h3 : σ 17 3 = nI B) (hB : B < 6) (hK : K < 2 ^ B) (hc : c < 65536) (hm : Mv σ 1 1 us) (hl : us.length ≤ 1) : ∃ σ1, fX7_encodeShifted_b23 σ (nI c) = some (nI 0, σ1) ∧ Mv σ1 1 1 (us ++ els ((B + 16) / 6) (K * 65536 + c) (B + 16)) ∧ σ1 17 0 = nI 1 ∧ σ1 17 1 = nI 0 ∧ σ1 17 2 = nI (vr ((B + 16) / 6) (K * 65536 + c) (B + 16)) ∧ σ1 17 3 = nI (B + 16 - 6 * ((B + 16) / 6)) ∧ F7 σ σ1 := by
  have h32 := pow_le32 hB
  obtain ⟨σ1, s1, a0, a1, a2, a3, f1⟩ := c_keep (p := 16) (x := c) h2 h3 (by omega) (by omega) (by omega)
  have a2 : σ1 17 2 = nI (K * 65536 + c) := a2
  obtain ⟨σ2, s2, m2, b0, b1, b2, b3, f2⟩ := c_els ((B + 16) / 6) 200 σ1 us (K * 65536 + c) (B + 16) (by omega) (by omega) (by omega) (kV hK hc) a2 a3 (hm.fj f1) (by omega)
  refine ⟨σ2, ?_, m2, by rw [b0, a0]; exact h0, by rw [b1]; exact a1, b2, b3, f1.f7.tr f2⟩
  unfold fX7_encodeShifted_b23
  simp (disch := omega) only [lit, s1, bd_some, a3, divN, nm_def]
  exact s2
theorem r_b67 {μ : St} {sh bt kp c : Nat} {us : List Nat} (h18 : μ 0 18 = nI sh) (hsh : sh ≤ 1) (h20 : μ 0 20 = nI bt) (h21 : μ 0 21 = nI kp) (hB : bt < 6) (hK : kp < 2 ^ bt) (hc : c < 65536) (hm : Mm μ us) (hl : us.length ≤ 1) : ∃ B K, (if sh = 0 then B = 0 ∧ K = 0 else B = bt ∧ K = kp) ∧ ∃ μ1 μ2, fX10_encodeSeven_b67 μ (nI c) = some (nI 0, μ2) ∧ Mm μ1 (us ++ els ((B + 16) / 6) (K * 65536 + c) (B + 16)) ∧ μ1 0 27 = nI 1 ∧ μ1 0 28 = μ 0 28 ∧ μ1 0 29 = nI (B + 16 - 6 * ((B + 16) / 6)) ∧ μ1 0 30 = nI (vr ((B + 16) / 6) (K * 65536 + c) (B + 16)) ∧ μ1 0 31 = μ 0 31 ∧ FM μ μ1 ∧ μ2 0 24 = nI 1 ∧ FS μ1 μ2 := by
  have key : ∀ B K, B < 6 → K < 2 ^ B → fX10_encodeSeven_b67 μ (nI c) = fX10_encodeSeven_b119 200 (up (up (up μ 0 27 1) 0 29 (nI (B + 16))) 0 30 (nI (K * 65536 + c))) → ∃ μ1 μ2, fX10_encodeSeven_b67 μ (nI c) = some (nI 0, μ2) ∧ Mm μ1 (us ++ els ((B + 16) / 6) (K * 65536 + c) (B + 16)) ∧ μ1 0 27 = nI 1 ∧ μ1 0 28 = μ 0 28 ∧ μ1 0 29 = nI (B + 16 - 6 * ((B + 16) / 6)) ∧ μ1 0 30 = nI (vr ((B + 16) / 6) (K * 65536 + c) (B + 16)) ∧ μ1 0 31 = μ 0 31 ∧ FM μ μ1 ∧ μ2 0 24 = nI 1 ∧ FS μ1 μ2 := by
    intro B K b1 b2 e
    obtain ⟨μ1, μ2, s2, m2, c29, c30, f2, n2, r2⟩ := r_els ((B + 16) / 6) 200 (up (up (up μ 0 27 1) 0 29 (nI (B + 16))) 0 30 (nI (K * 65536 + c))) us (K * 65536 + c) (B + 16) (by omega) (by omega) (by omega) (by omega) (kV b2 hc) (by rw [up_e2 (by omega), up_eq]) up_eq (((hm.up (by omega)).up (by omega)).up (by omega)) (by omega)
    refine ⟨μ1, μ2, by rw [e]; exact s2, m2, ?_, ?_, c29, c30, ?_, ((FM.up (by omega) (by omega)).tr ((FM.up (by omega) (by omega)).tr (FM.up (by omega) (by omega)))).tr f2.fm, n2, r2⟩
    · rw [f2.2 27 (by omega) (by omega) (by omega) (by omega), up_e2 (by omega), up_e2 (by omega), up_eq]; rfl
    · rw [f2.2 28 (by omega) (by omega) (by omega) (by omega), up_e2 (by omega), up_e2 (by omega), up_e2 (by omega)]
    · rw [f2.2 31 (by omega) (by omega) (by omega) (by omega), up_e2 (by omega), up_e2 (by omega), up_e2 (by omega)]
  rcases (show sh = 0 ∨ sh = 1 by omega) with h | h
  · subst h
    refine ⟨0, 0, by rw [if_pos rfl]; exact ⟨rfl, rfl⟩, key 0 0 (by omega) (by decide) ?_⟩
    unfold fX10_encodeSeven_b67 fX10_encodeSeven_b92 fX10_encodeSeven_b111
    have q1 : ∀ v, (up μ 0 27 v) 0 18 = nI 0 := fun v => by rw [up_e2 (by omega)]; exact h18
    have q2 : ∀ v w, (up (up μ 0 27 v) 0 29 w) 0 18 = nI 0 := fun v w => by rw [up_e2 (by omega)]; exact q1 v
    simp (disch := omega) only [lit, nm_def, q1, q2, eqT, if_true, mulN, addN]
  · subst h
    refine ⟨bt, kp, by rw [if_neg (by omega)]; exact ⟨rfl, rfl⟩, key bt kp hB hK ?_⟩
    unfold fX10_encodeSeven_b67 fX10_encodeSeven_b92 fX10_encodeSeven_b111
    have q1 : ∀ v, (up μ 0 27 v) 0 18 = nI 1 := fun v => by rw [up_e2 (by omega)]; exact h18
    have q3 : ∀ v, (up μ 0 27 v) 0 20 = nI bt := fun v => by rw [up_e2 (by omega)]; exact h20
    have q2 : ∀ v w, (up (up μ 0 27 v) 0 29 w) 0 18 = nI 1 := fun v w => by rw [up_e2 (by omega)]; exact q1 v
    have q4 : ∀ v w, (up (up μ 0 27 v) 0 29 w) 0 21 = nI kp := fun v w => by rw [up_e2 (by omega), up_e2 (by omega)]; exact h21
    simp (disch := omega) only [lit, nm_def, q1, q2, q3, q4, eqF, if_false, mulN, addN]
/-! the end of a shift -/
def ls7 (bt kp : Nat) : List Nat := (if bt = 0 then [] else [sg (kp * 2 ^ (6 - bt))]) ++ [45]
theorem ls7_len (bt kp : Nat) : (ls7 bt kp).length ≤ 2 := by
  unfold ls7
  split
  · simp
  · simp
theorem kp64 {bt kp : Nat} (h0 : bt ≠ 0) (hB : bt < 6) (hK : kp < 2 ^ bt) : kp * 2 ^ (6 - bt) < 64 := by
  rcases (show bt = 1 ∨ bt = 2 ∨ bt = 3 ∨ bt = 4 ∨ bt = 5 by omega) with h | h | h | h | h
  · subst h; simp only [Nat.reduceSub, Nat.reducePow] at *; omega
  · subst h; simp only [Nat.reduceSub, Nat.reducePow] at *; omega
  · subst h; simp only [Nat.reduceSub, Nat.reducePow] at *; omega
  · subst h; simp only [Nat.reduceSub, Nat.reducePow] at *; omega
  · subst h; simp only [Nat.reduceSub, Nat.reducePow] at *; omega
theorem c_leave {σ : St} {k t bt kp : Nat} {us : List Nat} (h2 : σ 16 2 = nI kp) (h3 : σ 16 3 = nI bt) (hB : bt < 6) (hK : kp < 2 ^ bt) (hm : Mv σ k t us) (hl : us.length ≤ 2) : ∃ σ1, fX7_leaveShift σ = some (nI 0, σ1) ∧ Mv σ1 k t (us ++ ls7 bt kp) ∧ (∀ q, q < 4 → σ1 17 q = nI 0) ∧ F7 σ σ1 := by
  unfold ls7
  by_cases h0 : bt = 0
  · obtain ⟨σ1, s1, m1, f1⟩ := mv_add hm (by omega) 45
    obtain ⟨σ2, s2, a2, f2⟩ := c_plain 17 σ1
    refine ⟨σ2, ?_, ?_, a2, f1.f7.tr f2.f7⟩
    · unfold fX7_leaveShift
      simp (disch := omega) only [lit, h3, leT, if_true, s1, bd_some, s2]
    · rw [if_pos h0]
      exact m1.fj f2
  · have hk := kp64 h0 hB hK
    obtain ⟨σ1, s1, m1, f1⟩ := mv_add hm (by omega) (sg (kp * 2 ^ (6 - bt)))
    obtain ⟨σ2, s2, m2, f2⟩ := mv_add m1 (by rw [List.length_append, List.length_singleton]; omega) 45
    obtain ⟨σ3, s3, a3, f3⟩ := c_plain 17 σ2
    have e1 : nI kp <<< (nI (6 - bt) &&& nI 31) = nI (kp * 2 ^ (6 - bt)) := shlN (by omega) (by omega)
    have e2 : nI (kp * 2 ^ (6 - bt)) &&& nI 63 = nI (kp * 2 ^ (6 - bt)) := by rw [and63 (by omega), Nat.mod_eq_of_lt hk]
    refine ⟨σ3, ?_, ?_, a3, (f1.f7.tr f2.f7).tr f3.f7⟩
    · unfold fX7_leaveShift
      simp (disch := omega) only [lit, h3, h2, leF, if_false, subN, e1, e2, c_sign σ hk, bd_some, s1, s2, s3]
    · rw [if_neg h0]
      rw [List.append_assoc] at m2
      exact m2.fj f3
theorem r_unsh {μ : St} {bt kp : Nat} {us : List Nat} (h20 : μ 0 20 = nI bt) (h21 : μ 0 21 = nI kp) (hB : bt < 6) (hK : kp < 2 ^ bt) (hm : Mm μ us) (hl : us.length ≤ 2) : ∃ μ1, fX10_unshift μ = some (nI 0, μ1) ∧ Mm μ1 (us ++ ls7 bt kp) ∧ μ1 0 27 = nI 0 ∧ μ1 0 29 = nI 0 ∧ μ1 0 30 = nI 0 ∧ μ1 0 28 = μ 0 28 ∧ μ1 0 31 = μ 0 31 ∧ FM μ μ1 := by
  have key : ∀ (μ0 : St) (us0 : List Nat), Mm μ0 us0 → us0.length ≤ 4 → FR μ μ0 → fX10_unshift μ = fX10_unshift_b26 μ0 → us ++ ls7 bt kp = us0 ++ [45] → ∃ μ1, fX10_unshift μ = some (nI 0, μ1) ∧ Mm μ1 (us ++ ls7 bt kp) ∧ μ1 0 27 = nI 0 ∧ μ1 0 29 = nI 0 ∧ μ1 0 30 = nI 0 ∧ μ1 0 28 = μ 0 28 ∧ μ1 0 31 = μ 0 31 ∧ FM μ μ1 := by
    intro μ0 us0 hm0 hl0 f0 e el
    obtain ⟨μ1, g1, n1, r1⟩ := mm_add hm0 (by omega) 45
    refine ⟨up (up (up μ1 0 27 0) 0 29 0) 0 30 0, ?_, ?_, ?_, ?_, ?_, ?_, ?_, ?_⟩
    · rw [e]
      unfold fX10_unshift_b26
      simp only [lit]
      rw [g1, bd_some, nm_def, nm_def, nm_def]
    · rw [el]
      exact ((n1.up (by omega)).up (by omega)).up (by omega)
    · rw [up_e2 (by omega), up_e2 (by omega), up_eq]; rfl
    · rw [up_e2 (by omega), up_eq]; rfl
    · rw [up_eq]; rfl
    · rw [up_e2 (by omega), up_e2 (by omega), up_e2 (by omega), r1.2 28 (by omega), f0.2 28 (by omega)]
    · rw [up_e2 (by omega), up_e2 (by omega), up_e2 (by omega), r1.2 31 (by omega), f0.2 31 (by omega)]
    · exact (f0.fm.tr r1.fm).tr ((FM.up (by omega) (by omega)).tr ((FM.up (by omega) (by omega)).tr (FM.up (by omega) (by omega))))
  by_cases h0 : bt = 0
  · refine key μ us hm (by omega) FR.rf ?_ (by unfold ls7; rw [if_pos h0]; rfl)
    unfold fX10_unshift
    simp (disch := omega) only [lit, h20, leT, if_true]
  · have hk := kp64 h0 hB hK
    obtain ⟨μ1, g1, n1, r1⟩ := mm_add hm (by omega) (sg (kp * 2 ^ (6 - bt)))
    have e1 : nI kp <<< (nI (6 - bt) &&& nI 31) = nI (kp * 2 ^ (6 - bt)) := shlN (by omega) (by omega)
    refine key μ1 _ n1 (by rw [List.length_append, List.length_singleton]; omega) r1 ?_ (by unfold ls7; rw [if_neg h0, List.append_assoc])
    unfold fX10_unshift
    simp (disch := omega) only [lit, h20, h21, leF, if_false, subN, e1, r_sign μ hk, bd_some, g1]
def NX7 (en : Nat) (σ1 μ μ1 : St) : Prop := μ1 0 31 = μ 0 31 ∧ ∃ sh bg bt kp : Nat, sh ≤ 1 ∧ bg ≤ 1 ∧ kp < 2 ^ bt ∧ (en = 1 → bt < 6 ∧ bg = 0) ∧ (en = 0 → bt < 16 ∧ (bg = 1 → bt = 0)) ∧ σ1 17 0 = nI sh ∧ σ1 17 1 = nI bg ∧ σ1 17 2 = nI kp ∧ σ1 17 3 = nI bt ∧ μ1 0 27 = nI sh ∧ μ1 0 28 = nI bg ∧ μ1 0 29 = nI bt ∧ μ1 0 30 = nI kp
theorem lr_s7 {σ σ1 μ μ1 μ2 : St} {n : Nat} {us : List Nat} {nx mk : Prop} (hf : FC σ σ1) (hv : Mv σ1 1 1 us) (hm : Mm μ1 us) (hr : FM μ μ1) (hl : us.length ≤ 4) (h24 : μ2 0 24 = nI 1) (hs : FS μ1 μ2) (ht : 1 ≤ n) (hx : nx) : LR σ σ1 μ μ2 n (nI 0) nx mk :=
  ⟨hf, hr.tr hs.fm, Or.inr (Or.inl ⟨1, us, rfl, hv, hm.fs hs, hl, h24, ht, fun h => by omega, hx⟩)⟩
theorem lk_7E {σ μ : St} {n sh bt kp : Nat} {W : Nat → Nat} (hC : InC σ n W) (hM : InM μ n W) (hn : n ≤ 24) (h0 : 0 < n) (hw : ∀ i, i < n → W i < 65536) (hm : Mm μ []) (c0 : σ 16 0 = nI sh) (c1 : σ 16 1 = nI 0) (c2 : σ 16 2 = nI kp) (c3 : σ 16 3 = nI bt) (r18 : μ 0 18 = nI sh) (r20 : μ 0 20 = nI bt) (r21 : μ 0 21 = nI kp) (r27 : μ 0 27 = nI sh) (r28 : μ 0 28 = nI 0) (r29 : μ 0 29 = nI bt) (r30 : μ 0 30 = nI kp) (hsh : sh ≤ 1) (hbt : bt < 6) (hkp : kp < 2 ^ bt) : ∃ σ1 μ1, fX7_encode σ = some (nI 0, σ1) ∧ fX10_encodeSeven μ = some (nI 0, μ1) ∧ LR σ σ1 μ μ1 n (nI 0) (NX7 1 σ1 μ μ1) False := by
  have w0 := hw 0 h0
  have e0 := at_in (i := 0) hC h0 hn
  obtain ⟨σa, sa, a17, fa⟩ := c_copy (j := 17) (by omega) c0 hsh c1 (by omega)
  obtain ⟨σb, sb, mb, fb⟩ := mv_step σa 1
  have fab : F7 σ σb := fa.f7.tr fb.f7
  have b16 : σb 16 = σ 16 := fab 16 (by omega) (by omega) (by omega)
  have b17 : ∀ k, k < 4 → σb 17 k = σ 16 k := fun k hk => by rw [fb 17 (by omega) (by omega)]; exact a17 k hk
  have hd1 := c_dir σb w0
  have hd2 := r_dir μ w0
  have hd : ∃ d, (if W 0 < 128 then dr7 (W 0) else 0) = d ∧ d ≤ 1 := ⟨_, rfl, by
    split
    · unfold dr7; split <;> omega
    · omega⟩
  obtain ⟨d, hd, hd3⟩ := hd
  rw [hd] at hd1 hd2
  have b160 : σb 16 0 = nI sh := by rw [b16]; exact c0
  have enc : ∀ (σs : St) (μs : St) (us : List Nat), us.length ≤ 1 → Mv σs 1 1 us → Mm μs us → F7 σ σs → FR μ μs → (sh = 0 → σs 17 2 = nI 0 ∧ σs 17 3 = nI 0) → (sh = 1 → σs 17 2 = nI kp ∧ σs 17 3 = nI bt) → σs 17 0 = nI 1 → fX7_encode σ = bd (fX7_encodeShifted_b23 σs (nI (W 0))) (fun _ σ10 => some (nI 0, σ10)) → fX10_encodeSeven μ = fX10_encodeSeven_b67 μs (nI (W 0)) → ∃ σ1 μ1, fX7_encode σ = some (nI 0, σ1) ∧ fX10_encodeSeven μ = some (nI 0, μ1) ∧ LR σ σ1 μ μ1 n (nI 0) (NX7 1 σ1 μ μ1) False := by
    intro σs μs us hl ms ns fs rs k0 k1 h170 ec er
    obtain ⟨B, K, hBK, μ1, μ2, g1, n1, g27, g28, g29, g30, g31, gf, g24, gs⟩ := r_b67 (c := W 0) (us := us) (by rw [rs.2 18 (by omega)]; exact r18) hsh (by rw [rs.2 20 (by omega)]; exact r20) (by rw [rs.2 21 (by omega)]; exact r21) hbt hkp w0 ns hl
    have hB6 : B < 6 ∧ K < 2 ^ B ∧ σs 17 2 = nI K ∧ σs 17 3 = nI B := by
      rcases (show sh = 0 ∨ sh = 1 by omega) with h | h
      · rw [if_pos h] at hBK
        rw [hBK.1, hBK.2]
        exact ⟨by omega, by decide, k0 h⟩
      · rw [if_neg (by omega)] at hBK
        rw [hBK.1, hBK.2]
        exact ⟨hbt, hkp, k1 h⟩
    obtain ⟨hB, hK, q2, q3⟩ := hB6
    obtain ⟨σ1, s1, m1, a0, a1, a2, a3, f1⟩ := c_b23 h170 q2 q3 hB hK w0 ms hl
    refine ⟨σ1, μ2, by rw [ec, s1, bd_some], by rw [er]; exact g1, lr_s7 (fs.tr f1).fc m1 n1 (rs.fm.tr gf) ?_ g24 gs h0 ⟨?_, 1, 0, B + 16 - 6 * ((B + 16) / 6), vr ((B + 16) / 6) (K * 65536 + W 0) (B + 16), by omega, by omega, vr_lt _ _ _ (by omega) (kV hK w0), fun _ => ⟨by omega, rfl⟩, fun h => by omega, a0, a1, a2, a3, ?_, ?_, ?_, ?_⟩⟩
    · rw [List.length_append, els_len]
      omega
    · rw [gs.2 31 (by omega), g31, rs.2 31 (by omega)]
    · rw [gs.2 27 (by omega)]; exact g27
    · rw [gs.2 28 (by omega), g28, rs.2 28 (by omega)]; exact r28
    · rw [gs.2 29 (by omega)]; exact g29
    · rw [gs.2 30 (by omega)]; exact g30
  rcases (show d = 0 ∨ d = 1 by omega) with h | h
  · rw [h] at hd1 hd2
    rcases (show sh = 0 ∨ sh = 1 by omega) with hs | hs
    · rw [hs] at b160
      have q18 : μ 0 18 = nI 0 := by rw [r18, hs]
      by_cases h43 : W 0 = 43
      · obtain ⟨σ1, s1, m1, f1⟩ := mv_add mb (by simp) 43
        obtain ⟨σ2, s2, m2, f2⟩ := mv_add m1 (by simp) 45
        obtain ⟨μ1, g1, n1, t1⟩ := mm_add hm (by simp) 43
        obtain ⟨μ2, g2, n2, t2⟩ := mm_add n1 (by simp) 45
        obtain ⟨μ3, g3, n3, t3⟩ := mm_step μ2 1
        have tt := t1.tr t2
        have e17 : ∀ k, k < 4 → σ2 17 k = σ 16 k := fun k hk => by rw [(f1.tr f2) 17 (by omega) (by omega)]; exact b17 k hk
        refine ⟨σ2, μ3, ?_, ?_, lr_s7 (fab.tr (f1.tr f2).f7).fc m2 n2 tt.fm (by simp) n3 t3 h0 ⟨?_, sh, 0, bt, kp, hsh, by omega, hkp, fun _ => ⟨hbt, rfl⟩, fun h => by omega, ?_, ?_, ?_, ?_, ?_, ?_, ?_, ?_⟩⟩
        · unfold fX7_encode
          simp (disch := omega) only [lit, e0, bd_some, sa, sb, hd1, eqT, if_true, b160, s1, s2]
        · unfold fX10_encodeSeven
          simp (disch := omega) only [lit, ldM hM h0 hn, hd2, bd_some, eqT, if_true, q18, g1, g2, g3]
        · rw [t3.2 31 (by omega), tt.2 31 (by omega)]
        · rw [e17 0 (by omega)]; exact c0
        · rw [e17 1 (by omega)]; exact c1
        · rw [e17 2 (by omega)]; exact c2
        · rw [e17 3 (by omega)]; exact c3
        · rw [t3.2 27 (by omega), tt.2 27 (by omega)]; exact r27
        · rw [t3.2 28 (by omega), tt.2 28 (by omega)]; exact r28
        · rw [t3.2 29 (by omega), tt.2 29 (by omega)]; exact r29
        · rw [t3.2 30 (by omega), tt.2 30 (by omega)]; exact r30
      · obtain ⟨σ1, s1, m1, f1⟩ := mv_add mb (by simp) 43
        obtain ⟨σ2, s2, d0, d1, d2, d3, f2⟩ := c_shift 17 σ1
        obtain ⟨μ1, g1, n1, t1⟩ := mm_add hm (by simp) 43
        refine enc σ2 μ1 _ (by simp) (m1.fj f2) n1 ((fab.tr f1.f7).tr f2.f7) t1 (fun _ => ⟨d2, d3⟩) (fun q => by omega) d0 ?_ ?_
        · unfold fX7_encode fX7_encodeShifted
          simp (disch := omega) only [lit, e0, bd_some, sa, sb, hd1, eqT, eqF, if_true, if_false, b160, s1, s2]
        · unfold fX10_encodeSeven
          simp (disch := omega) only [lit, ldM hM h0 hn, hd2, bd_some, eqT, eqF, if_true, if_false, q18, g1]
    · rw [hs] at b160
      have q18 : μ 0 18 = nI 1 := by rw [r18, hs]
      refine enc σb μ [] (by simp) mb hm fab FR.rf (fun q => by omega) (fun _ => ⟨?_, ?_⟩) ?_ ?_ ?_
      · rw [b17 2 (by omega)]; exact c2
      · rw [b17 3 (by omega)]; exact c3
      · rw [b17 0 (by omega), c0, hs]
      · unfold fX7_encode fX7_encodeShifted
        simp (disch := omega) only [lit, e0, bd_some, sa, sb, hd1, eqT, eqF, if_true, if_false, b160]
      · unfold fX10_encodeSeven
        simp (disch := omega) only [lit, ldM hM h0 hn, hd2, bd_some, eqT, eqF, if_true, if_false, q18]
  · rw [h] at hd1 hd2
    rcases (show sh = 0 ∨ sh = 1 by omega) with hs | hs
    · rw [hs] at b160
      have q18 : μ 0 18 = nI 0 := by rw [r18, hs]
      obtain ⟨σ2, s1, m2, f1⟩ := mv_add mb (by simp) (W 0)
      obtain ⟨μ2, g1, n2, tt⟩ := mm_add hm (by simp) (W 0)
      obtain ⟨μ3, g3, n3, t3⟩ := mm_step μ2 1
      have e17 : ∀ k, k < 4 → σ2 17 k = σ 16 k := fun k hk => by rw [f1 17 (by omega) (by omega)]; exact b17 k hk
      refine ⟨σ2, μ3, ?_, ?_, lr_s7 (fab.tr f1.f7).fc m2 n2 tt.fm (by simp) n3 t3 h0 ⟨?_, sh, 0, bt, kp, hsh, by omega, hkp, fun _ => ⟨hbt, rfl⟩, fun h => by omega, ?_, ?_, ?_, ?_, ?_, ?_, ?_, ?_⟩⟩
      · unfold fX7_encode
        simp (disch := omega) only [lit, e0, bd_some, sa, sb, hd1, eqT, eqF, if_true, if_false, b160, s1]
      · unfold fX10_encodeSeven
        simp (disch := omega) only [lit, ldM hM h0 hn, hd2, bd_some, eqT, eqF, if_true, if_false, q18, g1, g3]
      · rw [t3.2 31 (by omega), tt.2 31 (by omega)]
      · rw [e17 0 (by omega)]; exact c0
      · rw [e17 1 (by omega)]; exact c1
      · rw [e17 2 (by omega)]; exact c2
      · rw [e17 3 (by omega)]; exact c3
      · rw [t3.2 27 (by omega), tt.2 27 (by omega)]; exact r27
      · rw [t3.2 28 (by omega), tt.2 28 (by omega)]; exact r28
      · rw [t3.2 29 (by omega), tt.2 29 (by omega)]; exact r29
      · rw [t3.2 30 (by omega), tt.2 30 (by omega)]; exact r30
    · rw [hs] at b160
      have q18 : μ 0 18 = nI 1 := by rw [r18, hs]
      obtain ⟨σ1, s1, m1, z1, f1⟩ := c_leave (by rw [b16]; exact c2) (by rw [b16]; exact c3) hbt hkp mb (by simp)
      have hl := ls7_len bt kp
      obtain ⟨σ2, s2, m2, f2⟩ := mv_add m1 (by rw [List.nil_append]; omega) (W 0)
      obtain ⟨μ1, g1, n1, u27, u29, u30, u28, u31, t1⟩ := r_unsh r20 r21 hbt hkp hm (by simp)
      obtain ⟨μ2, g2, n2, t2⟩ := mm_add n1 (by rw [List.nil_append]; omega) (W 0)
      obtain ⟨μ3, g3, n3, t3⟩ := mm_step μ2 1
      have e17 : ∀ k, k < 4 → σ2 17 k = nI 0 := fun k hk => by rw [f2 17 (by omega) (by omega)]; exact z1 k hk
      refine ⟨σ2, μ3, ?_, ?_, lr_s7 (fab.tr (f1.tr f2.f7)).fc m2 n2 (t1.tr t2.fm) (by rw [List.nil_append, List.length_append, List.length_singleton]; omega) n3 t3 h0 ⟨?_, 0, 0, 0, 0, by omega, by omega, by decide, fun _ => ⟨by omega, rfl⟩, fun h => by omega, e17 0 (by omega), e17 1 (by omega), e17 2 (by omega), e17 3 (by omega), ?_, ?_, ?_, ?_⟩⟩
      · unfold fX7_encode
        simp (disch := omega) only [lit, e0, bd_some, sa, sb, hd1, eqF, if_false, b160, s1, s2]
      · unfold fX10_encodeSeven
        simp (disch := omega) only [lit, ldM hM h0 hn, hd2, bd_some, eqF, if_false, q18, g1, g2, g3]
      · rw [t3.2 31 (by omega), t2.2 31 (by omega), u31]
      · rw [t3.2 27 (by omega), t2.2 27 (by omega)]; exact u27
      · rw [t3.2 28 (by omega), t2.2 28 (by omega), u28]; exact r28
      · rw [t3.2 29 (by omega), t2.2 29 (by omega)]; exact u29
      · rw [t3.2 30 (by omega), t2.2 30 (by omega)]; exact u30
