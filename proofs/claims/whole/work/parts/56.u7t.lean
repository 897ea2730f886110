/-! ===== set 5: UTF-7: signs, the search in the strings, the bits ===== -/
def sg (v : Nat) : Nat := if v < 26 then 65 + v else if v < 52 then 71 + v else if v < 62 then v - 4 else if v = 62 then 43 else 47
def sv7 (c : Nat) : Nat := if 65 ≤ c ∧ c ≤ 90 then c - 65 else if 97 ≤ c ∧ c ≤ 122 then c - 71 else if 48 ≤ c ∧ c ≤ 57 then c + 4 else if c = 43 then 62 else if c = 47 then 63 else 64
def svI (c : Nat) : Int32 := if sv7 c < 64 then nI (sv7 c) else -nI 1
def od7 (c : Nat) : Nat := if c = 9 ∨ c = 10 ∨ c = 13 ∨ c = 32 ∨ (39 ≤ c ∧ c ≤ 41) ∨ (44 ≤ c ∧ c ≤ 47) ∨ c = 58 ∨ c = 63 then 1 else 0
def dr7 (c : Nat) : Nat := if sv7 c < 62 ∨ od7 c = 1 then 1 else 0
theorem sg_spec (v : Nat) : (v < 26 ∧ sg v = 65 + v) ∨ (26 ≤ v ∧ v < 52 ∧ sg v = 71 + v) ∨ (52 ≤ v ∧ v < 62 ∧ sg v = v - 4) ∨ (v = 62 ∧ sg v = 43) ∨ (62 < v ∧ sg v = 47) := by
  unfold sg
  repeat' split
  all_goals omega
theorem r_sign (μ : St) {v : Nat} (hv : v < 64) : fX10_sign μ (nI v) = some (nI (sg v), μ) := by
  have hs := sg_spec v
  unfold fX10_sign
  by_cases h1 : v < 26
  · rw [show sg v = 65 + v by omega]
    simp (disch := omega) only [lit, leF, if_false, addN]
  · by_cases h2 : v < 52
    · rw [show sg v = 71 + v by omega]
      simp (disch := omega) only [lit, leF, leT, if_true, if_false, addN]
    · by_cases h3 : v < 62
      · rw [show sg v = v - 4 by omega]
        simp (disch := omega) only [lit, leF, leT, if_true, if_false, subN]
      · by_cases h4 : v = 62
        · rw [show sg v = 43 by omega]
          simp (disch := omega) only [lit, leT, eqT, if_true]
        · rw [show sg v = 47 by omega]
          simp (disch := omega) only [lit, leT, eqF, if_true, if_false]
theorem bB0 : ∀ v, v < 64 → bB 0 v = nI (sg v) := by decide +kernel
theorem sgC : ∀ v, v < 64 → (((nI (sg v)) &&& (255 : Int32)).toUInt32 % 65536).toInt32 = nI (sg v) ∧ ((nI (sg v)).toUInt32 % 65536).toInt32 = nI (sg v) := by decide +kernel
theorem nkc_of {β : Type} {v : Int32} {k : Option β} (h : (v.toUInt32 % 65536).toInt32 = v) : nkc v k = k := if_pos h
theorem ks0 : ksL.getD 0 0 = 64 := rfl
theorem ks1 : ksL.getD 1 0 = 13 := rfl
theorem c_sign (σ : St) {v : Nat} (hv : v < 64) : fJ0_charAt_5068e 0 σ (nI v) = some (nI (sg v), σ) := by
  obtain ⟨h1, h2⟩ := sgC v hv
  have e1 : fJ0_checkIndex_df160 σ (nI v) (nI 64) = some (nI 0, σ) := by
    unfold fJ0_checkIndex_df160 fJ3_checkIndex_8e157
    simp (disch := omega) only [lit, ltF, ltT, if_true, if_false, bd_some]
  have e2 : fJ1_charAt_3b067 0 σ (nI v) = some (nI (sg v), σ) := by
    unfold fJ1_charAt_3b067
    rw [ks0]
    change bd (fJ0_checkIndex_df160 σ (nI v) (nI 64)) _ = _
    rw [e1, bd_some, ld_in (by omega) (by omega), bB0 v hv, h1, nkc_of h2]
  unfold fJ0_charAt_5068e fJ0_isLatin1_aae02
  rw [bd_some, if_neg (by decide), e2, bd_some, nkc_of h2]
/-! the search in a string, without the state -/
def z0 : St := fun _ _ => 0
theorem ix_eq (i : Nat) : ∀ (n : Nat) (σ : St) (x3 x4 x5 : Int32), fJ1_indexOfChar_4cfef_b7 i n σ x3 x4 x5 = ((fJ1_indexOfChar_4cfef_b7 i n z0 x3 x4 x5).map Prod.fst).map (fun r => (r, σ)) := by
  intro n
  induction n with
  | zero =>
    intro σ x3 x4 x5
    rfl
  | succ n ih =>
    intro σ x3 x4 x5
    rw [fJ1_indexOfChar_4cfef_b7]
    rw [show fJ1_indexOfChar_4cfef_b7 i (n + 1) z0 x3 x4 x5 = (if x3 ≤ x5 then some ((-1), z0) else ld (bB i) (ksL.getD i 0) x5 (fun v2 => (if v2 = x4 then some (x5, z0) else nm (x5 + 1) (fun v3 => fJ1_indexOfChar_4cfef_b7 i n z0 x3 x4 v3)))) by rw [fJ1_indexOfChar_4cfef_b7]]
    by_cases h1 : x3 ≤ x5
    · rw [if_pos h1, if_pos h1]
      rfl
    · rw [if_neg h1, if_neg h1]
      unfold ld
      by_cases h2 : ¬ (x5 < 0 ∨ (ksL.getD i 0) ≤ x5.toNatClampNeg)
      · rw [if_pos h2, if_pos h2]
        dsimp only
        by_cases h3 : bB i x5.toNatClampNeg = x4
        · rw [if_pos h3, if_pos h3]
          rfl
        · rw [if_neg h3, if_neg h3]
          exact ih σ x3 x4 (x5 + 1)
      · rw [if_neg h2, if_neg h2]
        rfl
theorem c8 : ∀ c, c < 128 → (nI c).toInt8.toInt32 = nI c := by decide +kernel
theorem io_eq (σ : St) {i c N : Nat} (hN : ksL.getD i 0 = N) (h0 : 0 < N) (hN2 : N < 2147483648) (hs : nI N >>> ((0 : Int32) &&& 31) = nI N) (hc : c < 128) : fJ0_indexOf_0f7a4 i σ (nI c) = ((fJ1_indexOfChar_4cfef_b7 i 200 z0 (nI N) (nI c) (nI 0)).map Prod.fst).map (fun r => (r, σ)) := by
  have e1 : fJ0_length_8abf5 i σ = some (nI N, σ) := by
    unfold fJ0_length_8abf5 fJ0_coder_7d493
    rw [bd_some, hN]
    change some (nI N >>> ((0 : Int32) &&& 31), σ) = _
    rw [hs]
  have e2 : fJ1_canEncode_9a6ad σ (nI c) = some (nI 1, σ) := by
    unfold fJ1_canEncode_9a6ad
    simp (disch := omega) only [lit, ltF, if_false]
  have e3 : fJ1_indexOf_4cfef i σ (nI c) 0 (nI N) = ((fJ1_indexOfChar_4cfef_b7 i 200 z0 (nI N) (nI c) (nI 0)).map Prod.fst).map (fun r => (r, σ)) := by
    unfold fJ1_indexOf_4cfef
    rw [e2, bd_some, hN]
    have hk : Int32.ofNat N = nI N := rfl
    rw [hk]
    simp (disch := omega) only [lit, eqF, if_false, ltF, nm_def, ltT, if_true]
    unfold fJ1_indexOfChar_4cfef
    rw [c8 c hc, nm_def, ← ix_eq i 200 σ (nI N) (nI c) (nI 0)]
    cases fJ1_indexOfChar_4cfef_b7 i 200 σ (nI N) (nI c) (nI 0) with
    | none => rfl
    | some q => rfl
  unfold fJ0_indexOf_0f7a4 fJ0_indexOf_7cf53 fJ0_isLatin1_aae02
  rw [bd_some, if_neg (by decide), e1, bd_some, e3]
  cases (fJ1_indexOfChar_4cfef_b7 i 200 z0 (nI N) (nI c) (nI 0)) with
  | none => rfl
  | some q => rfl
theorem io0 : ∀ c, c < 128 → (fJ1_indexOfChar_4cfef_b7 0 200 z0 (nI 64) (nI c) (nI 0)).map Prod.fst = some (svI c) := by decide +kernel
theorem io1 : ∀ c, c < 128 → ((fJ1_indexOfChar_4cfef_b7 1 200 z0 (nI 13) (nI c) (nI 0)).map Prod.fst).map (fun x => if x < nI 0 then 0 else 1) = some (od7 c) := by decide +kernel
theorem cch {c : Nat} (hc : c < 65536) : ((nI c).toUInt32 % 65536).toInt32 = nI c := by
  rw [pk_char, pk_tn (by omega), Nat.mod_eq_of_lt hc]
theorem c_val (σ : St) {c : Nat} (hc : c < 128) : fX7_valueOf σ (nI c) = some (svI c, σ) := by
  unfold fX7_valueOf
  rw [lit, if_neg (nI_ge hc (by omega)), cch (by omega), io_eq σ ks0 (by omega) (by omega) (by decide +kernel) hc, io0 c hc]
  rfl
theorem c_valH (σ : St) {c : Nat} (hc : 128 ≤ c) (h2 : c < 65536) : fX7_valueOf σ (nI c) = some (-nI 1, σ) := by
  unfold fX7_valueOf
  rw [lit, if_pos (nI_le hc (by omega))]
  rfl
theorem c_oth (σ : St) {c : Nat} (hc : c < 128) : fX7_isDirect_b15 σ (nI c) = some (nI (od7 c), σ) := by
  have h := io1 c hc
  unfold fX7_isDirect_b15
  rw [lit, if_neg (nI_ge hc (by omega)), cch (by omega), io_eq σ ks1 (by omega) (by omega) (by decide +kernel) hc]
  revert h
  cases (fJ1_indexOfChar_4cfef_b7 1 200 z0 (nI 13) (nI c) (nI 0)) with
  | none => intro h; cases h
  | some q =>
    intro h
    have h : (if q.1 < nI 0 then 0 else 1) = od7 c := Option.some.inj h
    change (if q.1 < nI 0 then some (nI 0, σ) else some (nI 1, σ)) = _
    rw [← h]
    by_cases h1 : q.1 < nI 0
    · rw [if_pos h1, if_pos h1]
    · rw [if_neg h1, if_neg h1]
theorem c_dir (σ : St) {c : Nat} (hc : c < 65536) : fX7_isDirect σ (nI c) = some (nI (if c < 128 then dr7 c else 0), σ) := by
  unfold fX7_isDirect
  by_cases h : c < 128
  · rw [c_val σ h, if_pos h, bd_some]
    unfold svI dr7
    by_cases h1 : sv7 c < 64
    · rw [if_pos h1]
      by_cases h2 : sv7 c < 62
      · rw [if_pos (Or.inl h2)]
        simp (disch := omega) only [lit, ltF, ltT, if_true, if_false]
      · simp (disch := omega) only [lit, ltF, if_false, c_oth σ h]
        have h3 : od7 c = 1 ∨ od7 c = 0 := by unfold od7; split <;> omega
        rcases h3 with h3 | h3
        · rw [h3, if_pos (Or.inr rfl)]
        · rw [h3, if_neg (by omega)]
    · rw [if_neg h1]
      simp (disch := omega) only [lit, m1lt0, if_true, c_oth σ h]
      have h3 : od7 c = 1 ∨ od7 c = 0 := by unfold od7; split <;> omega
      rcases h3 with h3 | h3
      · rw [h3, if_pos (Or.inr rfl)]
      · rw [h3, if_neg (by omega)]
  · rw [c_valH σ (by omega) hc, if_neg h, bd_some]
    unfold fX7_isDirect_b15
    simp (disch := omega) only [lit, m1lt0, leT, if_true]
def lf (x : Option (Int32 × St)) (μ : St) : Option (Int32 × St) := (x.map Prod.fst).map (fun r => (r, μ))
theorem l_ite {c : Prop} [Decidable c] {x y x0 y0 : Option (Int32 × St)} {μ : St} (hx : x = lf x0 μ) (hy : y = lf y0 μ) : (if c then x else y) = lf (if c then x0 else y0) μ := by
  split
  · exact hx
  · exact hy
theorem r_d94 (μ : St) (p : Int32) : fX10_direct_b94 μ p = lf (fX10_direct_b94 z0 p) μ := by
  unfold fX10_direct_b94
  exact l_ite rfl (l_ite rfl rfl)
theorem r_d82 (μ : St) (p : Int32) : fX10_direct_b82 μ p = lf (fX10_direct_b82 z0 p) μ := by
  unfold fX10_direct_b82
  exact l_ite (r_d94 μ p) (l_ite rfl (r_d94 μ p))
theorem r_d65 (μ : St) (p y : Int32) : fX10_direct_b65 μ p y = lf (fX10_direct_b65 z0 p y) μ := by
  unfold fX10_direct_b65
  exact l_ite (l_ite (r_d82 μ p) (l_ite rfl (r_d82 μ p))) rfl
theorem r_d60 (μ : St) (p : Int32) : fX10_direct_b60 μ p = lf (fX10_direct_b60 z0 p) μ := r_d65 μ p 1
theorem r_d48 (μ : St) (p : Int32) : fX10_direct_b48 μ p = lf (fX10_direct_b48 z0 p) μ := by
  unfold fX10_direct_b48
  exact l_ite (r_d60 μ p) (l_ite (r_d60 μ p) (r_d65 μ p 0))
theorem r_d36 (μ : St) (p : Int32) : fX10_direct_b36 μ p = lf (fX10_direct_b36 z0 p) μ := by
  unfold fX10_direct_b36
  exact l_ite (r_d48 μ p) (l_ite (r_d60 μ p) (r_d48 μ p))
theorem r_dirL (μ : St) (p : Int32) : fX10_direct μ p = lf (fX10_direct z0 p) μ := by
  unfold fX10_direct
  exact l_ite (r_d60 μ p) (l_ite (r_d60 μ p) (l_ite (r_d60 μ p) (l_ite (r_d60 μ p) (l_ite (r_d36 μ p) (l_ite (r_d60 μ p) (r_d36 μ p))))))
theorem r_dirD : ∀ c, c < 128 → (fX10_direct z0 (nI c)).map Prod.fst = some (nI (dr7 c)) := by decide +kernel
theorem r_dir (μ : St) {c : Nat} (hc : c < 65536) : fX10_direct μ (nI c) = some (nI (if c < 128 then dr7 c else 0), μ) := by
  by_cases h : c < 128
  · rw [r_dirL, if_pos h]
    unfold lf
    rw [r_dirD c h]
    rfl
  · rw [if_neg h]
    unfold fX10_direct fX10_direct_b36 fX10_direct_b48 fX10_direct_b65 fX10_direct_b82 fX10_direct_b94
    simp (disch := omega) only [lit, eqF, eqT, ltF, ltT, leF, if_true, if_false]
theorem r_signL (μ : St) (p : Int32) : fX10_sign μ p = ((fX10_sign z0 p).map Prod.fst).map (fun r => (r, μ)) := by
  unfold fX10_sign
  repeat' split
  all_goals rfl
theorem r_sixL : ∀ (n : Nat) (μ : St) (x0 x1 x2 : Int32), fX10_six_b4 n μ x0 x1 x2 = ((fX10_six_b4 n z0 x0 x1 x2).map Prod.fst).map (fun r => (r, μ)) := by
  intro n
  induction n with
  | zero =>
    intro μ x0 x1 x2
    rfl
  | succ n ih =>
    intro μ x0 x1 x2
    rw [fX10_six_b4]
    rw [show fX10_six_b4 (n + 1) z0 x0 x1 x2 = (if 64 ≤ x2 then some (x1, z0) else bd (fX10_sign z0 x2) (fun v1 σ2 => (if v1 = x0 then nm (x2 + 1) (fun v4 => fX10_six_b4 n σ2 x0 x2 v4) else nm (x2 + 1) (fun v3 => fX10_six_b4 n σ2 x0 x1 v3)))) by rw [fX10_six_b4]]
    by_cases h1 : 64 ≤ x2
    · rw [if_pos h1, if_pos h1]
      rfl
    · rw [if_neg h1, if_neg h1, r_signL μ x2, r_signL z0 x2]
      cases fX10_sign z0 x2 with
      | none => rfl
      | some q =>
        change (if q.1 = x0 then _ else _) = _
        by_cases h2 : q.1 = x0
        · rw [if_pos h2]
          refine (ih μ x0 x2 (x2 + 1)).trans ?_
          change _ = ((if q.1 = x0 then fX10_six_b4 n z0 x0 x2 (x2 + 1) else fX10_six_b4 n z0 x0 x1 (x2 + 1)).map Prod.fst).map _
          rw [if_pos h2]
        · rw [if_neg h2]
          refine (ih μ x0 x1 (x2 + 1)).trans ?_
          change _ = ((if q.1 = x0 then fX10_six_b4 n z0 x0 x2 (x2 + 1) else fX10_six_b4 n z0 x0 x1 (x2 + 1)).map Prod.fst).map _
          rw [if_neg h2]
theorem r_sixD : ∀ c, c < 128 → (fX10_six z0 (nI c)).map Prod.fst = some (svI c) := by decide +kernel
theorem r_six (μ : St) {c : Nat} (hc : c < 128) : fX10_six μ (nI c) = some (svI c, μ) := by
  have h := r_sixD c hc
  unfold fX10_six at h ⊢
  rw [r_sixL, h]
  rfl
/-! the bits -/
theorem orN {a b k : Nat} (h : b < 2 ^ k) : nI (a * 2 ^ k) ||| nI b = nI (a * 2 ^ k + b) := by
  have e : ∀ x y : Nat, nI x ||| nI y = nI (x ||| y) := by
    intro x y
    apply Int32.toBitVec_inj.1
    show BitVec.ofNat 32 x ||| BitVec.ofNat 32 y = BitVec.ofNat 32 (x ||| y)
    apply BitVec.eq_of_getLsbD_eq
    intro i hi
    simp [hi]
  rw [e, Nat.mul_comm, Nat.two_pow_add_eq_or_of_lt h]
def Fj (j : Nat) (σ σ1 : St) : Prop := ∀ i, i ≠ j → σ1 i = σ i
theorem c_plain (j : Nat) (σ : St) : ∃ σ1, fX3_becomePlain j σ = some (nI 0, σ1) ∧ (∀ k, k < 4 → σ1 j k = nI 0) ∧ Fj j σ σ1 := by
  refine ⟨_, rfl, ?_, ?_⟩
  · intro k hk
    simp only [up_at, if_true]
    rcases (show k = 0 ∨ k = 1 ∨ k = 2 ∨ k = 3 by omega) with h | h | h | h
    · subst h; rfl
    · subst h; rfl
    · subst h; rfl
    · subst h; rfl
  · intro i hi
    rw [up_ne hi, up_ne hi, up_ne hi, up_ne hi]
theorem c_shift (j : Nat) (σ : St) : ∃ σ1, fX3_becomeShifted j σ = some (nI 0, σ1) ∧ σ1 j 0 = nI 1 ∧ σ1 j 1 = nI 1 ∧ σ1 j 2 = nI 0 ∧ σ1 j 3 = nI 0 ∧ Fj j σ σ1 := by
  obtain ⟨σ1, s1, h1, f1⟩ := c_plain j σ
  refine ⟨up (up σ1 j 0 1) j 1 1, ?_, ?_, ?_, ?_, ?_, ?_⟩
  · unfold fX3_becomeShifted
    rw [s1]
    rfl
  · simp only [up_at, if_true]; rfl
  · simp only [up_at, if_true]; rfl
  · simp only [up_at, if_true]; exact h1 2 (by omega)
  · simp only [up_at, if_true]; exact h1 3 (by omega)
  · intro i hi
    rw [up_ne hi, up_ne hi, f1 i hi]
theorem c_copy {j j2 : Nat} {σ : St} {a b : Nat} (hj : j ≠ j2) (h0 : σ j2 0 = nI a) (ha : a ≤ 1) (h1 : σ j2 1 = nI b) (hb : b ≤ 1) : ∃ σ1, fX3_copy j j2 σ = some (nI 0, σ1) ∧ (∀ k, k < 4 → σ1 j k = σ j2 k) ∧ Fj j σ σ1 := by
  have z : ∀ (n : Nat) (k : Option (Int32 × St)), n ≤ 1 → zk (nI n) k = k := by
    intro n k hn
    rcases (show n = 0 ∨ n = 1 by omega) with h | h
    · rw [h, zk_0]
    · rw [h, zk_1]
  have hj2 : j2 ≠ j := fun e => hj e.symm
  refine ⟨up (up (up (up σ j 0 (σ j2 0)) j 1 (σ j2 1)) j 2 (σ j2 2)) j 3 (σ j2 3), ?_, ?_, ?_⟩
  · unfold fX3_copy
    rw [h0, z a _ ha, nm_def, up_ne hj2, h1, z b _ hb]
    simp only [nm_def, up_ne hj2]
    rfl
  · intro k hk
    simp only [up_at, if_true]
    rcases (show k = 0 ∨ k = 1 ∨ k = 2 ∨ k = 3 by omega) with h | h | h | h
    · subst h; rfl
    · subst h; rfl
    · subst h; rfl
    · subst h; rfl
  · intro i hi
    rw [up_ne hi, up_ne hi, up_ne hi, up_ne hi]
theorem c_keep {j : Nat} {σ : St} {V N x p : Nat} (h2 : σ j 2 = nI V) (h3 : σ j 3 = nI N) (hp : p < 32) (hx : x < 2 ^ p) (hV : V * 2 ^ p < 4294967296) : ∃ σ1, fX3_keep j σ (nI x) (nI p) = some (nI 0, σ1) ∧ σ1 j 0 = σ j 0 ∧ σ1 j 1 = nI 0 ∧ σ1 j 2 = nI (V * 2 ^ p + x) ∧ σ1 j 3 = nI (N + p) ∧ Fj j σ σ1 := by
  refine ⟨up (up (up σ j 2 (nI (V * 2 ^ p + x))) j 3 (nI (N + p))) j 1 0, ?_, ?_, ?_, ?_, ?_, ?_⟩
  · unfold fX3_keep
    rw [h2, lit, shlN hp hV, orN hx, nm_def, up_e2 (by omega), h3, addN, nm_def, nm_def]
    rfl
  · simp only [up_at, if_true]; rfl
  · simp only [up_at, if_true]; rfl
  · simp only [up_at, if_true]; rfl
  · simp only [up_at, if_true]; rfl
  · intro i hi
    rw [up_ne hi, up_ne hi, up_ne hi]
theorem mask {q a : Nat} (hq : q < 31) (ha : a < 4294967296) : nI a &&& ((1 <<< (nI q &&& 31)) - 1) = nI (a % 2 ^ q) := by
  have hp : 2 ^ q < 4294967296 := Nat.lt_of_lt_of_le (Nat.pow_lt_pow_right (by omega) hq) (by decide)
  have h1 : 1 ≤ 2 ^ q := Nat.one_le_two_pow
  have e : (1 <<< (nI q &&& 31)) - 1 = nI (2 ^ q - 1) := by
    rw [lit, lit, shlN (by omega) (by omega), Nat.one_mul, subN h1]
  rw [e, andK q (by omega) ha]
theorem c_rem {j : Nat} {σ : St} {V N p : Nat} (h2 : σ j 2 = nI V) (h3 : σ j 3 = nI N) (hp : p ≤ N) (hN : N < 31) (hV : V < 2147483648) : ∃ σ1, fX3_removeFirst j σ (nI p) = some (nI (V / 2 ^ (N - p)), σ1) ∧ σ1 j 0 = σ j 0 ∧ σ1 j 1 = σ j 1 ∧ σ1 j 2 = nI (V % 2 ^ (N - p)) ∧ σ1 j 3 = nI (N - p) ∧ Fj j σ σ1 := by
  have e1 : (if 0 < nI (N - p) then nI (N - p) else 0) = nI (N - p) := by
    by_cases h : N - p = 0
    · rw [h]; rfl
    · exact if_pos (nI_lt (show 0 < N - p by omega) (by omega))
  refine ⟨up (up σ j 3 (nI (N - p))) j 2 (nI (V % 2 ^ (N - p))), ?_, ?_, ?_, ?_, ?_, ?_⟩
  · unfold fX3_removeFirst
    rw [h3, subN hp, e1, nm_def, up_e2 (by omega), up_eq, h2, lit, shrN (by omega) hV, nm_def, nm_def]
    have m := mask (q := N - p) (a := V) (by omega) (by omega)
    simp only [lit] at m ⊢
    rw [m]
  · simp only [up_at, if_true]; rfl
  · simp only [up_at, if_true]; rfl
  · simp only [up_at, if_true]
  · simp only [up_at, if_true]; rfl
  · intro i hi
    rw [up_ne hi, up_ne hi]
